
def z0 : ST := fun _ _ => 0
def PreN (D : va_G) (cI cS : ClassId) (h : Nat) (e : va_E) (sz : Nat) : Array Value → State → Prop := va_Pc [.ref h] (fun U => U.heap.size = sz ∧ va_P D vwCl [(h, e)] U.heap ∧ KK D cI cS U ∧ va_D (fun _ => True) [(h, e)] ∧ va_AO RX3 U)
def QN (D : va_G) (px : (Nat → Nat) → va_W) (h : Nat) (e : va_E) (sz : Nat) : Array Value → State → Outcome → State → Prop := va_Qv (fun (u : Nat → Nat) => u 0 = h) (fun u t => va_P D vwCl (px u) t.heap ∧ va_D (va_A [(h, e)] sz) (px u)) (va_A [(h, e)] sz)
theorem blN {D : va_G} {cI cS : ClassId} {h : Nat} {e : va_E} {sz : Nat} : FrameBlind (PreN D cI cS h e sz) := fun a U g mk q => ⟨q.1, q.2.1, q.2.2.1, q.2.2.2.1.call, q.2.2.2.2.1, va_AO.moved (u := U) (U := U.calling g mk a) (Vm.Alike.refl U.vm) q.2.2.2.2.2⟩
theorem mN (l : Launch) (D : va_G) (cI cS : ClassId) {y : MethodName} {cc : ByteArray} {maxL : Nat} {rm : Room} {h sz mc ms : Nat} {e : va_E} {Qc : Array Value → State → Outcome → State → Prop} (hy : plainName y.cls = true) (hnm : y.name = "<init>") (hn : (lg_sl [.ref h]).length ≤ maxL)
    (body : ∀ (p : Program) (en : Env) (s : State) (m : MethodId) (below : List Frame) (meth : Method) (c : Code) (ls : Array Slot), p.tables.exec = Jvm.exec → c.code = cc → meth.sig.returnType = none → c.maxLocals = maxL → s.vm.findClass y.cls = some m.cls → (∀ v ∈ Cond.code y cc maxL none :: ALL, v.before ([.ref h] : List Value).toArray s = true) → meth.locks = false → meth.name = "<init>" → s.heap.size = sz → va_P D vwCl [(h, e)] s.heap → KK D cI cS s → va_D (va_A [(h, e)] sz) [(h, e)] → va_AO RX3 s → va_S (va_A [(h, e)] sz) s.heap s.heap [] → (∀ q : Nat, s.heap.size ≤ q → va_A [(h, e)] sz q) → lv_has ls maxL (lv_args 0 [.ref h]) → W p l en rm s m ([.ref h] : List Value).toArray below meth c s.heap [] 0 0 (MQ below Qc ([.ref h] : List Value).toArray s mc ms (va_A [(h, e)] sz)) (F0 m 0 ls [])) : Met l y (Cond.code y cc maxL none :: ALL) rm (PreN D cI cS h e sz) Qc mc ms (va_A [(h, e)] sz) := by
  refine Met.ofW (cc := cc) (maxL := maxL) (ret := none) hy rfl ?_
  intro p en s m args below meth c s₁ B hml hv
  obtain ⟨rfl, hsz, hP, hK, hD, hO⟩ := hv
  have hts := atoms_spec (ws := Cond.code y cc maxL none :: ALL) B.pre
  rw [lg_entry_eq]
  exact body p en s m below meth c _ B.exec B.bytes B.returns hml (findClass_of_methodNamed B.named) hts B.notSynchronized ((name_of_methodNamed B.named B.method).1.trans hnm) hsz hP hK hD.self hO va_S.rf (fun q hq => Or.inr (by rw [← hsz]; exact hq)) (lv_entry [.ref h] hn)
section KN
variable {p : Program} {l : Launch} {e : Env} {R : Room} {s : State} {m : MethodId} {args : Array Value} {below : List Frame} {meth : Method} {c : Code} {H : Heap} {locs : List Loc} {cells slots : Nat} {Q : State → Prop} {cc : ByteArray} {pc nL : Nat} {ls : Array Slot} {rest st0 : List Value} {D : va_G} {cl : List vw_C} {A : Nat → Prop} {a : Nat} {tys : List (ClassId × FieldType)} {ws ws' wc w1 : va_W} {H0 : Heap} {cI cS : ClassId}
variable {y : MethodName} {bytes : ByteArray} {maxL n index : Nat} {ret : Option FieldType} {rm : Room} {Ts : List Cond} {own C host : String} {b : Addr} {As : List Value}
theorem nA (hexec : p.tables.exec = Jvm.exec) (hb : c.code = cc) (harr : (Cond.arrayClass .int).before args s = true) (hK : KK D cI cS s) (hP : va_P D vwCl ws H) (hD : va_D A ws) (hS : va_S A H0 H locs) (hA : ∀ q, H0.size ≤ q → A q) {n : Int32} {N' : Nat} (hn : ¬ n < 0) (hN : n.toNatClampNeg = N') (hbytes : N' * 4 ≤ 536870912) (hcells : cells + 1 ≤ R.cells) (hslots : slots + N' ≤ R.slots) (hdg : decode cc pc = .ok (.newarray .int, 2))
    (kk : ∀ (q : Nat) (H1 : Heap), va_P D vwCl (ws ++ [(q, .inl (cI, N', .inl (fun _ => 0)))]) H1 → va_D A (ws ++ [(q, .inl (cI, N', .inl (fun _ => 0)))]) → va_S A H0 H1 locs → W p l e R s m args below meth c H1 locs (cells + 1) (slots + N') Q (F0 m (pc + 2) ls (.ref q :: rest))) : W p l e R s m args below meth c H locs cells slots Q (F0 m pc ls (.int n :: rest)) := by
  refine va_newa (ty := .int) (a0 := (N', .inl (fun _ => 0))) hexec hb (atype := .int) harr rfl hK.1 hP hD hS hA (fun _ => rfl) hn hN hbytes hcells hslots hdg (fun q cA H1 hK1 hP1 hD1 hS1 => ?_)
  have e1 : s.vm.findClass ("[" ++ FieldType.int.toString) = some cA := (hK1.2 2 (cA, .int) rfl).2
  have e2 : s.vm.findClass ("[" ++ FieldType.int.toString) = some cI := (hK.1.2 0 (cI, .int) rfl).2
  have e3 : cA = cI := Option.some.inj (e1.symm.trans e2)
  subst e3
  exact kk q H1 hP1 hD1 hS1
theorem nQ (hexec : p.tables.exec = Jvm.exec) (hb : c.code = cc) (hown : s.vm.findClass own = some m.cls) (hclink : (Cond.classLink own index RX3).before args s = true) (hover : va_AO RX3 s) (hK : KK D cI cS s) (hP : va_P D vwCl ws H) (hD : va_D A ws) (hS : va_S A H0 H locs) (hA : ∀ q, H0.size ≤ q → A q) {n : Int32} {N' : Nat} (hn : ¬ n < 0) (hN : n.toNatClampNeg = N') (hbytes : N' * 4 ≤ 536870912) (hcells : cells + 1 ≤ R.cells) (hslots : slots + N' ≤ R.slots) (hdg : decode cc pc = .ok (.anewarray index, 3))
    (kk : ∀ (q : Nat) (H1 : Heap), va_P D vwCl (ws ++ [(q, .inl (cS, N', .inr (.inr (.inr (.inr (fun _ => none))))))]) H1 → va_D A (ws ++ [(q, .inl (cS, N', .inr (.inr (.inr (.inr (fun _ => none))))))]) → va_S A H0 H1 locs → W p l e R s m args below meth c H1 locs (cells + 1) (slots + N') Q (F0 m (pc + 3) ls (.ref q :: rest))) : W p l e R s m args below meth c H locs cells slots Q (F0 m pc ls (.int n :: rest)) := by
  refine va_newq hexec hb hown hclink hover hK.1 hP hD hS hA hn hN hbytes hcells hslots hdg (fun q cA H1 hK1 hP1 hD1 hS1 => ?_)
  obtain ⟨-, -, -, -, -, e1⟩ := (hK1.2 2 (cA, .object RX3) rfl).2
  obtain ⟨-, -, -, -, -, e2⟩ := (hK.1.2 1 (cS, .object RX3) rfl).2
  have e3 : cA = cS := Option.some.inj (e1.symm.trans e2)
  subst e3
  exact kk q H1 hP1 hD1 hS1
theorem wFF (hexec : p.tables.exec = Jvm.exec) (hb : c.code = cc) {T : u_T} {N ci : Nat} (hts : ∀ w ∈ Ts, w.before args s = true) (hin : ∀ w ∈ u_ws C T N, w ∈ Ts) (ty0 : Nat → FieldType) (hty : ∀ k, k < N → parseFieldDescriptor (T k).2.2.1 = some (ty0 k)) (hnm : ∀ a, a < N → ∀ b, b < N → a ≠ b → (T a).2.1 ≠ (T b).2.1) (hown : s.vm.findClass own = some m.cls) (hK : va_K D cl tys s) (hP : va_P D cl ws H) (hD : va_D A ws) (hS0 : va_S A H0 H locs) (q0 : Nat) {fs : List Value} (he : ws[q0]? = some (a, .inr (ci, fs))) (hc : cl[ci]? = some (C, T, N)) (k : Nat) (hk : k < N) (hlink : (Cond.fieldLink own index (T k).1 (T k).2.1 (T k).2.2.1).before args s = true) (hfin : (T k).2.2.2 = true) (hin2 : meth.name = "<init>") (hdecl : (T k).1 = own) {ty : FieldType} {v : Value} (hd : parseFieldDescriptor (T k).2.2.1 = some ty) (hn : narrow ty v = v) (hfit : fits ty v = true) (hl : k < fs.length) (hw : ws.set q0 (a, .inr (ci, fs.set k v)) = ws')
    (hdg : decode cc pc = .ok (.putfield index, 3)) (kk : ∀ (H1 : Heap) (locs1 : List Loc), va_P D cl ws' H1 → va_D A ws' → va_S A H0 H1 locs1 → W p l e R s m args below meth c H1 locs1 cells slots Q (F0 m (pc + 3) ls rest)) : W p l e R s m args below meth c H locs cells slots Q (F0 m pc ls (v :: .ref a :: rest)) := by
  subst hw
  exact va_putF hexec hb hts hin ty0 hty hnm hown hK hP hD hS0 q0 he hc k hk hlink (fun _ h => h) hfin hin2 hdecl hd hn hfit hl hdg kk
theorem cwIA {mc ms : Nat} (ht : ∀ w ∈ Ts, w.before args s = true) (hT : TW Ts) (hc : Cond.code y bytes maxL none ∈ ALL) (hi : Cond.instanceMethod y ∈ ALL) (hini : Cond.initialized y.cls ∈ ALL) (hl : Cond.methodLink own index y ∈ ALL) (hd : y.cls ≠ "java/lang/invoke/MethodHandle" ∧ y.cls ≠ "java/lang/invoke/VarHandle" ∧ (parseMethodDescriptor y.desc).map (fun d => d.parameters.length) = some n) (hnm : y.name = "<init>") (hr0 : rm.cells = mc ∧ rm.slots = ms) (hR : rm.frames + 1 ≤ R.frames ∧ 8 + (maxL + 11) + rm.locals ≤ R.locals) : CallB R s args own index y bytes maxL none (Cond.code y bytes maxL none :: ALL) rm mc ms n ∧ y.name = "<init>" ∧ (Cond.instanceMethod y).before args s = true :=
  ⟨callB_of n ht (good_all hT hc) rfl hr0.1 hr0.2 (ht _ (hT _ hini)) (ht _ (hT _ hl)) hd hR, hnm, ht _ (hT _ hi)⟩
theorem cwIN {mc ms : Nat} (ht : ∀ w ∈ Ts, w.before args s = true) (hT : TW Ts) (hc : Cond.code y bytes maxL none ∈ ALL) (hi : Cond.instanceMethod y ∈ ALL) (hini : Cond.initialized y.cls ∈ ALL) (hl : va_Nw (.methodLinkNest own index y host) s) (hd : y.cls ≠ "java/lang/invoke/MethodHandle" ∧ y.cls ≠ "java/lang/invoke/VarHandle" ∧ (parseMethodDescriptor y.desc).map (fun d => d.parameters.length) = some n) (hnm : y.name = "<init>") (hr0 : rm.cells = mc ∧ rm.slots = ms) (hR : rm.frames + 1 ≤ R.frames ∧ 8 + (maxL + 11) + rm.locals ≤ R.locals) : va_CN R s args own index y host bytes maxL none (Cond.code y bytes maxL none :: ALL) rm mc ms n ∧ y.name = "<init>" ∧ (Cond.instanceMethod y).before args s = true :=
  ⟨va_cnB n ht (good_all hT hc) rfl hr0.1 hr0.2 hl (ht _ (hT _ hini)) hd hR, hnm, ht _ (hT _ hi)⟩
theorem pN {en : va_E} (hK : KK D cI cS s) (hO : va_AO RX3 s) (hP : va_P D vwCl [(b, en)] H) (hD : va_D A [(b, en)]) : PreS s H (PreN D cI cS b en H.size) [.ref b] := ⟨blN, fun U hU hW => ⟨rfl, by rw [hU], by rw [hU]; exact hP, hK.warm hW, hD.weaken (fun _ _ _ _ => trivial), va_AO.moved hW.alike hO⟩⟩
/-- behind a constructor's call: the last cell has become a picture -/
theorem cN {px : (Nat → Nat) → va_W} {en : va_E} {mc ms : Nat} {av : Array Value} (hr : va_Run p l e R s m args below meth c H locs cells slots mc ms (F0 m pc ls st0) rest (QN D px b en H.size av) (va_A [(b, en)] H.size)) (hP : va_P D vwCl (ws ++ [(b, en)]) H) (hD : va_D A (ws ++ [(b, en)])) (hS : va_S A H0 H locs) (hA : ∀ q, H0.size ≤ q → A q)
    (kk : ∀ (u : Nat → Nat) (H1 : Heap) (locs1 : List Loc), u 0 = b → va_P D vwCl (ws ++ px u) H1 → va_D A (ws ++ px u) → va_S A H0 H1 locs1 → W p l e R s m args below meth c H1 locs1 (cells + mc) (slots + ms) Q (F0 m (pc + 3) ls rest)) : W p l e R s m args below meth c H locs cells slots Q (F0 m pc ls st0) := by
  have hC : [ws.length].map (fun i => (ws ++ [(b, en)])[i]?) = [(b, en)].map some := by simp
  have hR : (List.range ws.length).map (fun i => (ws ++ [(b, en)])[i]?) = ws.map some := by
    apply List.ext_getElem?
    intro i
    by_cases h : i < ws.length
    · simp [h, List.getElem?_append_left]
    · simp [h]
  have hF := va_free hD hS hA [ws.length] hC
  refine va_callv hr hS (fun q _ h => hF q h) hF (fun u t H1 locs1 ht hvm hp hB hz hk hS1 => ?_)
  obtain ⟨hB1, hB2⟩ := hB
  rw [ht] at hB1
  have hnd : va_nd (List.range ws.length) = true := by
    have key : ∀ (l : List Nat), l.Nodup → va_nd l = true := by
      intro l
      induction l with
      | nil => intro _; rfl
      | cons a l ih =>
        intro h
        have h2 := List.nodup_cons.mp h
        simp only [va_nd, Bool.and_eq_true, decide_eq_true_eq]
        exact ⟨h2.1, ih h2.2⟩
    exact key _ List.nodup_range
  obtain ⟨j1, j2⟩ := va_join hP hD [ws.length] (List.range ws.length) hC hR hnd (fun i hi => by simp at hi ⊢; omega) hk hF hB1 hB2
  exact kk u H1 locs1 hp j1 j2 hS1
end KN
theorem arrV_congr {cA : ClassId} {N : Nat} {f g : Nat → Value} (h : ∀ j, j < N → f j = g j) : arrV cA N f = arrV cA N g := by
  unfold arrV
  congr 1
  congr 1
  funext j
  exact h j.val j.isLt
theorem vpq_congr {cA : ClassId} {N : Nat} {f g : Nat → Option Nat} (h : ∀ j, j < N → f j = g j) : vp_cell cA (N, .inr (.inr (.inr (.inr f)))) = vp_cell cA (N, .inr (.inr (.inr (.inr g)))) := by
  rw [vp_cell_q, vp_cell_q]
  exact arrV_congr (fun j hj => by show va_rf (f j) = va_rf (g j); rw [h j hj])
/-- a cell that is told otherwise, but is the same -/
theorem va_P.cell {D : va_G} {cl : List vw_C} {ws ws' : va_W} {H : Heap} (h : va_P D cl ws H) (k : Nat) {a : Nat} {cA : ClassId} {x y : vp_A} (h1 : ws[k]? = some (a, .inl (cA, x))) (hxy : vp_cell cA x = vp_cell cA y) (h2 : ws.set k (a, .inl (cA, y)) = ws') : va_P D cl ws' H := by
  subst h2
  intro j q hq
  by_cases hj : j = k
  · subst hj
    rw [List.getElem?_set_self (List.getElem?_eq_some_iff.mp h1).1] at hq
    cases hq
    have h3 : H[a]? = some (vp_cell cA x) := h j _ h1
    show H[a]? = some (vp_cell cA y)
    rw [← hxy]; exact h3
  · rw [List.getElem?_set_ne (Ne.symm hj)] at hq
    exact h j q hq
theorem oi_c : Cond.instanceMethod objectInit ∈ ALL ∧ Cond.code objectInit ⟨#[0xb1]⟩ 1 none ∈ ALL := ⟨all_in 58 (by decide +kernel) (by decide +kernel), all_in 59 (by decide +kernel) (by decide +kernel)⟩
theorem oi_RX6 : Cond.methodLink RX6 3 objectInit ∈ ALL := all_in 57 (by decide +kernel) (by decide +kernel)
theorem oi_RX0 : Cond.methodLink RX0 3 objectInit ∈ ALL := all_in 80 (by decide +kernel) (by decide +kernel)
theorem oi_RX1 : Cond.methodLink RX1 3 objectInit ∈ ALL := all_in 65 (by decide +kernel) (by decide +kernel)
theorem oi_RX2 : Cond.methodLink RX2 3 objectInit ∈ ALL := all_in 136 (by decide +kernel) (by decide +kernel)
theorem oi_RX3 : Cond.methodLink RX3 3 objectInit ∈ ALL := all_in 157 (by decide +kernel) (by decide +kernel)
theorem oi_RX5 : Cond.methodLink RX5 3 objectInit ∈ ALL := all_in 115 (by decide +kernel) (by decide +kernel)
theorem oi_RX7 : Cond.methodLink RX7 1 objectInit ∈ ALL := all_in 601 (by decide +kernel) (by decide +kernel)
theorem ac_int : Cond.arrayClass .int ∈ ALL := all_in 74 (by decide +kernel) (by decide +kernel)
theorem cl_RL_7 : Cond.classLink RL 7 RX6 ∈ ALL := all_in 52 (by decide +kernel) (by decide +kernel)
theorem in_RX6 : Cond.instantiable RX6 8 ∈ ALL := all_in 53 (by decide +kernel) (by decide +kernel)
theorem cl_RX6_9 : Cond.classLink RX6 9 RX1 ∈ ALL := all_in 60 (by decide +kernel) (by decide +kernel)
theorem in_RX1 : Cond.instantiable RX1 2 ∈ ALL := all_in 61 (by decide +kernel) (by decide +kernel)
theorem cl_RX6_18 : Cond.classLink RX6 18 RX0 ∈ ALL := all_in 75 (by decide +kernel) (by decide +kernel)
theorem in_RX0 : Cond.instantiable RX0 6 ∈ ALL := all_in 76 (by decide +kernel) (by decide +kernel)
theorem cl_RX6_28 : Cond.classLink RX6 28 RX5 ∈ ALL := all_in 110 (by decide +kernel) (by decide +kernel)
theorem in_RX5 : Cond.instantiable RX5 4 ∈ ALL := all_in 111 (by decide +kernel) (by decide +kernel)
theorem cl_RX5_9 : Cond.classLink RX5 9 RX0 ∈ ALL := all_in 116 (by decide +kernel) (by decide +kernel)
theorem cl_RX6_35 : Cond.classLink RX6 35 RX2 ∈ ALL := all_in 131 (by decide +kernel) (by decide +kernel)
theorem in_RX2 : Cond.instantiable RX2 4 ∈ ALL := all_in 132 (by decide +kernel) (by decide +kernel)
theorem cl_RX6_42 : Cond.classLink RX6 42 RX3 ∈ ALL := all_in 151 (by decide +kernel) (by decide +kernel)
theorem in_RX3 : Cond.instantiable RX3 4 ∈ ALL := all_in 153 (by decide +kernel) (by decide +kernel)
theorem cl_RL_10 : Cond.classLink RL 10 RX7 ∈ ALL := all_in 596 (by decide +kernel) (by decide +kernel)
theorem in_RX7 : Cond.instantiable RX7 29 ∈ ALL := all_in 597 (by decide +kernel) (by decide +kernel)
theorem it_RX0 : Cond.initialized RX0 ∈ ALL := all_in 41 (by decide +kernel) (by decide +kernel)
theorem kc_RX0 : Cond.code yX0_init cX0_init 1 none ∈ ALL ∧ Cond.instanceMethod yX0_init ∈ ALL := ⟨all_in 79 (by decide +kernel) (by decide +kernel), all_in 78 (by decide +kernel) (by decide +kernel)⟩
theorem it_RX1 : Cond.initialized RX1 ∈ ALL := all_in 40 (by decide +kernel) (by decide +kernel)
theorem kc_RX1 : Cond.code yX1_init cX1_init 1 none ∈ ALL ∧ Cond.instanceMethod yX1_init ∈ ALL := ⟨all_in 64 (by decide +kernel) (by decide +kernel), all_in 63 (by decide +kernel) (by decide +kernel)⟩
theorem it_RX2 : Cond.initialized RX2 ∈ ALL := all_in 43 (by decide +kernel) (by decide +kernel)
theorem kc_RX2 : Cond.code yX2_init cX2_init 1 none ∈ ALL ∧ Cond.instanceMethod yX2_init ∈ ALL := ⟨all_in 135 (by decide +kernel) (by decide +kernel), all_in 134 (by decide +kernel) (by decide +kernel)⟩
theorem it_RX3 : Cond.initialized RX3 ∈ ALL := all_in 44 (by decide +kernel) (by decide +kernel)
theorem kc_RX3 : Cond.code yX3_init cX3_init 1 none ∈ ALL ∧ Cond.instanceMethod yX3_init ∈ ALL := ⟨all_in 156 (by decide +kernel) (by decide +kernel), all_in 155 (by decide +kernel) (by decide +kernel)⟩
theorem it_RX5 : Cond.initialized RX5 ∈ ALL := all_in 42 (by decide +kernel) (by decide +kernel)
theorem kc_RX5 : Cond.code yX5_init cX5_init 1 none ∈ ALL ∧ Cond.instanceMethod yX5_init ∈ ALL := ⟨all_in 114 (by decide +kernel) (by decide +kernel), all_in 113 (by decide +kernel) (by decide +kernel)⟩
theorem it_RX6 : Cond.initialized RX6 ∈ ALL := all_in 39 (by decide +kernel) (by decide +kernel)
theorem kc_RX6 : Cond.code yX6_init cX6_init 2 none ∈ ALL ∧ Cond.instanceMethod yX6_init ∈ ALL := ⟨all_in 56 (by decide +kernel) (by decide +kernel), all_in 55 (by decide +kernel) (by decide +kernel)⟩
theorem it_RX7 : Cond.initialized RX7 ∈ ALL := all_in 45 (by decide +kernel) (by decide +kernel)
theorem kc_RX7 : Cond.code yX7_init cX7_init 1 none ∈ ALL ∧ Cond.instanceMethod yX7_init ∈ ALL := ⟨all_in 600 (by decide +kernel) (by decide +kernel), all_in 599 (by decide +kernel) (by decide +kernel)⟩
def zM : ST := fun p => if p = 1 then upd (upd (upd (upd (fun _ => 0) 0 (-9)) 1 (-9)) 2 (-9)) 3 (-9) else fun _ => 0
