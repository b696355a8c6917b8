/-! my own rows over the kit: states as tables of numbers, worlds as pictures of them, contracts by functions -/
abbrev ST : Type := Nat → Nat → Int32
def st (t : ST) (i j : Nat) (x : Int32) : ST := fun p => if p = i then upd (t i) j x else t p
def sr (t : ST) (i : Nat) (f : Nat → Int32) : ST := fun p => if p = i then f else t p
def sb (t : ST) (b : Nat) : ST := fun i => t (b + i)
def gr (t : ST) (b n : Nat) (u : ST) : ST := fun i => if b ≤ i ∧ i < b + n then u (i - b) else t i
def sa (a : Nat → Nat) (b : Nat) : Nat → Nat := fun i => a (b + i)
def rd (n : Nat) (f : Nat → Int32) (i : Int32) : Option Int32 := if i < 0 ∨ n ≤ i.toNatClampNeg then none else some (f i.toNatClampNeg)
def ix (n : Nat) (i : Int32) : Option Nat := if i < 0 ∨ n ≤ i.toNatClampNeg then none else some i.toNatClampNeg
def cpy (n0 n1 : Nat) (f g : Nat → Int32) (sp dp n : Int32) : Option (Nat → Int32) := if (¬ sp < 0) ∧ (¬ dp < 0) ∧ (¬ n < 0) ∧ sp.toNatClampNeg + n.toNatClampNeg ≤ n0 ∧ dp.toNatClampNeg + n.toNatClampNeg ≤ n1 then some (va_cpy f g sp.toNatClampNeg dp.toNatClampNeg n.toNatClampNeg) else none
def nz (y : Int32) : Option Unit := if y = 0 then none else some ()
def nzl (y : Int64) : Option Unit := if y = 0 then none else some ()
theorem rd_some {n : Nat} {f : Nat → Int32} {i v : Int32} (h : rd n f i = some v) : vp_in i n ∧ f i.toNatClampNeg = v := by
  unfold rd at h
  by_cases c : i < 0 ∨ n ≤ i.toNatClampNeg
  · rw [if_pos c] at h; cases h
  · rw [if_neg c] at h; exact ⟨c, Option.some.inj h⟩
theorem ix_some {n : Nat} {i : Int32} {k : Nat} (h : ix n i = some k) : vp_in i n ∧ i.toNatClampNeg = k ∧ k < n := by
  unfold ix at h
  by_cases c : i < 0 ∨ n ≤ i.toNatClampNeg
  · rw [if_pos c] at h; cases h
  · rw [if_neg c] at h
    have h2 := Option.some.inj h
    exact ⟨c, h2, by rw [← h2]; exact Nat.lt_of_not_le (fun z => c (Or.inr z))⟩
theorem cpy_some {n0 n1 : Nat} {f g r : Nat → Int32} {sp dp n : Int32} (h : cpy n0 n1 f g sp dp n = some r) : (¬ sp < 0) ∧ (¬ dp < 0) ∧ (¬ n < 0) ∧ sp.toNatClampNeg + n.toNatClampNeg ≤ n0 ∧ dp.toNatClampNeg + n.toNatClampNeg ≤ n1 ∧ va_cpy f g sp.toNatClampNeg dp.toNatClampNeg n.toNatClampNeg = r := by
  unfold cpy at h
  by_cases c : (¬ sp < 0) ∧ (¬ dp < 0) ∧ (¬ n < 0) ∧ sp.toNatClampNeg + n.toNatClampNeg ≤ n0 ∧ dp.toNatClampNeg + n.toNatClampNeg ≤ n1
  · rw [if_pos c] at h; exact ⟨c.1, c.2.1, c.2.2.1, c.2.2.2.1, c.2.2.2.2, Option.some.inj h⟩
  · rw [if_neg c] at h; cases h
theorem nz_some {y : Int32} {u : Unit} (h : nz y = some u) : ¬ y = 0 := fun z => by simp [nz, z] at h
theorem nzl_some {y : Int64} {u : Unit} (h : nzl y = some u) : ¬ y = 0 := fun z => by simp [nzl, z] at h
theorem bd {α β : Type} {x : Option α} {f : α → Option β} {o : β} (h : x.bind f = some o) : ∃ a, x = some a ∧ f a = some o := by
  cases x with
  | none => cases h
  | some a => exact ⟨a, rfl, h⟩
def b2 {α β γ : Type} (x : Option (α × β)) (f : α → β → Option γ) : Option γ := match x with
  | none => none
  | some q => f q.1 q.2
theorem bd2 {α β γ : Type} {x : Option (α × β)} {f : α → β → Option γ} {o : γ} (h : b2 x f = some o) : ∃ a b, x = some (a, b) ∧ f a b = some o := by
  cases x with
  | none => cases h
  | some q => exact ⟨q.1, q.2, rfl, h⟩
def nm {α β : Type} (x : α) (f : α → Option β) : Option β := f x
theorem nmE {α β : Type} {x : α} {f : α → Option β} {o : β} (h : nm x f = some o) : ∃ v, v = x ∧ f v = some o := ⟨x, rfl, h⟩
def bz (v : Int32) : Option Unit := if v = 0 ∨ v = 1 then some () else none
theorem bz_some {v : Int32} {u : Unit} (h : bz v = some u) : v = 0 ∨ v = 1 := by
  unfold bz at h
  by_cases c : v = 0 ∨ v = 1
  · exact c
  · rw [if_neg c] at h; cases h
theorem pnil {D : va_G} {cl : List vw_C} {H : Heap} : va_P D cl [] H := fun k q h => by simp at h
theorem ip {c : Prop} {hd : Decidable c} {α : Type} {a b o : α} (h : c) (hF : (@ite α c hd a b) = o) : a = o := by rw [if_pos h] at hF; exact hF
theorem iq {c : Prop} {hd : Decidable c} {α : Type} {a b o : α} (h : ¬ c) (hF : (@ite α c hd a b) = o) : b = o := by rw [if_neg h] at hF; exact hF
theorem ne_toInt {x y : Int32} (h : ¬ x = y) {k : Int} (hk : y.toInt = k) : ¬ x.toInt = k := fun z => h (Int32.toInt_inj.mp (z.trans hk.symm))
theorem b01 {x : Int32} (h : x = 0 ∨ x = 1) : narrow .boolean (.int x) = .int x := by rcases h with rfl | rfl <;> rfl
theorem lt4 {k : Nat} (h : k < 4) : k = 0 ∨ k = 1 ∨ k = 2 ∨ k = 3 := by omega
/-- the words of the tables that stay -/
def ALL : List Cond := lw_tbl.filter goodWord
theorem all_in {w : Cond} (i : Nat) (h : lw_tbl[i]? = some w) (hg : goodWord w = true) : w ∈ ALL := List.mem_filter.mpr ⟨List.mem_of_getElem? h, hg⟩
theorem all_ins {ws : List Cond} (is : List Nat) (h : ws = is.filterMap (fun i => lw_tbl[i]?)) (hg : ws.all goodWord = true) : ∀ w ∈ ws, w ∈ ALL := by
  intro w hw
  refine List.mem_filter.mpr ⟨?_, List.all_eq_true.mp hg w hw⟩
  rw [h] at hw
  obtain ⟨i, -, hi⟩ := List.mem_filterMap.mp hw
  exact List.mem_of_getElem? hi
def TW (Ts : List Cond) : Prop := ∀ w ∈ ALL, w ∈ Ts
theorem TW.cons (w : Cond) : TW (w :: ALL) := fun _ h => List.mem_cons_of_mem _ h
theorem TW.tbl : TW lw_tbl := fun _ h => (List.mem_filter.mp h).1
theorem good_all {Ts : List Cond} (hT : TW Ts) {w : Cond} (hc : w ∈ ALL) : GoodIn Ts (w :: ALL) := by
  intro v hv
  rcases List.mem_cons.mp hv with rfl | h
  · exact ⟨hT _ hc, good_of_word (List.mem_filter.mp hc).2⟩
  · exact ⟨hT _ h, good_of_word (List.mem_filter.mp h).2⟩
/-- links of nest mates -/
abbrev nF : Type := String × Nat × String × String × String × String
abbrev nM : Type := String × Nat × MethodName × String
abbrev nFw (q : nF) : Cond := .fieldLinkNest q.1 q.2.1 q.2.2.1 q.2.2.2.1 q.2.2.2.2.1 q.2.2.2.2.2
abbrev nMw (q : nM) : Cond := .methodLinkNest q.1 q.2.1 q.2.2.1 q.2.2.2
def nestF : List nF := [(RX6, 88, "MarbleGarden$Blocks", "count", "I", "MarbleGarden"), (RX6, 95, "MarbleGarden$Blocks", "kindOf", "[I", "MarbleGarden"), (RX6, 99, "MarbleGarden$Blocks", "shapeOf", "[I", "MarbleGarden"), (RX6, 102, "MarbleGarden$Blocks", "paceOf", "[I", "MarbleGarden"), (RX6, 127, "MarbleGarden$Law", "number", "I", "MarbleGarden"), (RX6, 144, "MarbleGarden$Blocks", "lookedAt", "I", "MarbleGarden"), (RX6, 192, "MarbleGarden$Readings", "count", "I", "MarbleGarden"), (RX6, 206, "MarbleGarden$Sheet", "hasRow", "Z", "MarbleGarden"), (RX6, 220, "MarbleGarden$Sheet", "lane", "I", "MarbleGarden"), (RX6, 223, "MarbleGarden$Sheet", "cells", "[I", "MarbleGarden"), (RX6, 247, "MarbleGarden$Blocks", "day", "I", "MarbleGarden"), (RX2, 31, "MarbleGarden$Blocks", "shapeOf", "[I", "MarbleGarden"), (RX5, 38, "MarbleGarden$Blocks", "day", "I", "MarbleGarden"), (RX5, 77, "MarbleGarden$Blocks", "lookedAt", "I", "MarbleGarden"), (RX5, 84, "MarbleGarden$Blocks", "shapeOf", "[I", "MarbleGarden")]
def nestM : List nM := [(RX6, 11, yX1_init, "MarbleGarden"), (RX6, 20, yX0_init, "MarbleGarden"), (RX6, 30, yX5_init, "MarbleGarden"), (RX6, 37, yX2_init, "MarbleGarden"), (RX6, 48, yX3_init, "MarbleGarden"), (RX1, 30, yX6_isShape, "MarbleGarden"), (RX5, 11, yX0_init, "MarbleGarden")]
def KK (D : va_G) (cI cS : ClassId) (U : State) : Prop := va_K D vwCl [(cI, .int), (cS, .object RX3)] U ∧ (∀ q ∈ nestF, va_Nw (nFw q) U) ∧ ∀ q ∈ nestM, va_Nw (nMw q) U
theorem KK.warm {D : va_G} {cI cS : ClassId} {s U : State} (hW : s.WarmedH U.vm) (h : KK D cI cS s) : KK D cI cS U := ⟨va_K.moved hW.alike h.1, fun q hq => va_Nw.warmF hW (h.2.1 q hq), fun q hq => va_Nw.warmM hW (h.2.2 q hq)⟩
theorem KK.call {D : va_G} {cI cS : ClassId} {U : State} {g : JFrame} {mk : MethodId} {a : Array Value} (h : KK D cI cS U) : KK D cI cS (U.calling g mk a) := ⟨va_K.moved (u := U) (U := U.calling g mk a) (Vm.Alike.refl U.vm) h.1, fun q hq => va_Nw.same (u := U) rfl rfl (h.2.1 q hq), fun q hq => va_Nw.same (u := U) rfl rfl (h.2.2 q hq)⟩
def PreR (D : va_G) (cI cS : ClassId) (av : List Value) (w : va_W) : Array Value → State → Prop := va_Pc av (fun U => va_P D vwCl w U.heap ∧ KK D cI cS U)
def PreW (D : va_G) (cI cS : ClassId) (av : List Value) (w : va_W) : Array Value → State → Prop := va_Pc av (fun U => va_P D vwCl w U.heap ∧ KK D cI cS U ∧ va_D (fun _ => True) w)
theorem blR {D : va_G} {cI cS : ClassId} {av : List Value} {w : va_W} : FrameBlind (PreR D cI cS av w) := fun _ _ _ _ q => ⟨q.1, q.2.1, q.2.2.call⟩
theorem blW {D : va_G} {cI cS : ClassId} {av : List Value} {w : va_W} : FrameBlind (PreW D cI cS av w) := fun _ _ _ _ q => ⟨q.1, q.2.1, q.2.2.1.call, q.2.2.2⟩
def AD (w : va_W) : Nat → Prop := fun q => q ∈ w.map Prod.fst
theorem AD.self {w : va_W} (h : va_D (fun _ => True) w) : va_D (AD w) w := ⟨h.1, fun _ q hk => List.mem_map.mpr ⟨q, List.mem_of_getElem? hk, rfl⟩⟩
theorem va_D.adr {A : Nat → Prop} {ws ws' : va_W} (hD : va_D A ws) (h : ws'.map Prod.fst = ws.map Prod.fst) : va_D A ws' := by
  have key : ∀ (k : Nat) (q : Nat × va_E), ws'[k]? = some q → ∃ q0, ws[k]? = some q0 ∧ q0.1 = q.1 := by
    intro k q hk
    have h1 : (ws'.map Prod.fst)[k]? = some q.1 := by rw [List.getElem?_map, hk]; rfl
    rw [h, List.getElem?_map] at h1
    cases hq : ws[k]? with
    | none => rw [hq] at h1; cases h1
    | some q0 => rw [hq] at h1; exact ⟨q0, rfl, Option.some.inj h1⟩
  refine ⟨fun i j x y hi hj hxy => ?_, fun k q hk => ?_⟩
  · obtain ⟨x0, h1, h2⟩ := key i x hi
    obtain ⟨y0, h3, h4⟩ := key j y hj
    exact hD.1 i j x0 y0 h1 h3 (h2.trans (hxy.trans h4.symm))
  · obtain ⟨q0, h1, h2⟩ := key k q hk
    rw [← h2]
    exact hD.2 k q0 h1
def plv (ws w1 : va_W) : Nat ⊕ Nat → Option (Nat × va_E)
  | .inl i => ws[i]?
  | .inr j => w1[j]?
def plk (isC : List Nat) : Nat ⊕ Nat → Bool
  | .inl i => !(isC.contains i)
  | .inr _ => true
/-- behind a call: each cell of the caller's world is an old one, that the callee has not, or one of the callee's -/
theorem jn {D : va_G} {cl : List vw_C} {A : Nat → Prop} {ws wc w1 ws' : va_W} {H H1 : Heap} (hP : va_P D cl ws H) (hD : va_D A ws) (isC : List Nat) (hC : isC.map (fun i => ws[i]?) = wc.map some) (hk : ∀ q : Nat, q < H.size → ¬ AD wc q → H1[q]? = H[q]?) (hP1 : va_P D cl w1 H1) (pl : List (Nat ⊕ Nat)) (hw : pl.map (plv ws w1) = ws'.map some) (hdis : pl.all (plk isC) = true) : va_P D cl ws' H1 := by
  intro k q hq
  have h1 : (pl.map (plv ws w1))[k]? = some (some q) := by rw [hw, List.getElem?_map, hq]; rfl
  rw [List.getElem?_map] at h1
  cases hp : pl[k]? with
  | none => rw [hp] at h1; cases h1
  | some x =>
    rw [hp] at h1
    have h2 : plv ws w1 x = some q := Option.some.inj h1
    have h3 := List.all_eq_true.mp hdis x (List.mem_of_getElem? hp)
    cases x with
    | inr j => exact hP1 j q h2
    | inl i =>
      have h2 : ws[i]? = some q := h2
      have hni : i ∉ isC := by
        intro z
        have h4 : (!(isC.contains i)) = true := h3
        rw [List.contains_iff_mem.mpr z] at h4
        cases h4
      refine (hP i q h2).kept (hk q.1 (hP i q h2).lt ?_)
      intro z
      obtain ⟨q2, hq2, e2⟩ := List.mem_map.mp z
      obtain ⟨j, hj⟩ := List.getElem?_of_mem hq2
      have h5 : (isC.map (fun i => ws[i]?))[j]? = some (some q2) := by rw [hC, List.getElem?_map, hj]; rfl
      rw [List.getElem?_map] at h5
      cases hi : isC[j]? with
      | none => rw [hi] at h5; cases h5
      | some i2 =>
        rw [hi] at h5
        have h6 : ws[i2]? = some q2 := Option.some.inj h5
        have h7 := hD.1 i i2 q q2 h2 h6 e2.symm
        subst h7
        exact hni (List.mem_of_getElem? hi)
theorem AD.sub {A : Nat → Prop} {ws wc : va_W} (hD : va_D A ws) (isC : List Nat) (hC : isC.map (fun i => ws[i]?) = wc.map some) : ∀ q, AD wc q → A q := by
  intro q h
  obtain ⟨q2, hq2, e2⟩ := List.mem_map.mp h
  obtain ⟨j, hj⟩ := List.getElem?_of_mem hq2
  have h5 : (isC.map (fun i => ws[i]?))[j]? = some (some q2) := by rw [hC, List.getElem?_map, hj]; rfl
  rw [List.getElem?_map] at h5
  cases hi : isC[j]? with
  | none => rw [hi] at h5; cases h5
  | some i2 =>
    rw [hi] at h5
    rw [← e2]
    exact hD.2 i2 q2 (Option.some.inj h5)
/-- what a callee's links are -/
def LV (y : MethodName) (bytes : ByteArray) (maxL : Nat) (ret : Option FieldType) (C : String) (n : Nat) : Prop := Cond.code y bytes maxL ret ∈ ALL ∧ Cond.instanceMethod y ∈ ALL ∧ Cond.selects C y y ∈ ALL ∧ Cond.initialized y.cls ∈ ALL ∧ y.cls ≠ "java/lang/invoke/MethodHandle" ∧ y.cls ≠ "java/lang/invoke/VarHandle" ∧ (parseMethodDescriptor y.desc).map (fun d => d.parameters.length) = some n
def LSt (y : MethodName) (bytes : ByteArray) (maxL : Nat) (ret : Option FieldType) (n : Nat) : Prop := Cond.code y bytes maxL ret ∈ ALL ∧ Cond.static y ∈ ALL ∧ Cond.initialized y.cls ∈ ALL ∧ y.cls ≠ "java/lang/invoke/MethodHandle" ∧ y.cls ≠ "java/lang/invoke/VarHandle" ∧ (parseMethodDescriptor y.desc).map (fun d => d.parameters.length) = some n
section KT
variable {p : Program} {l : Launch} {e : Env} {R : Room} {s : State} {m : MethodId} {args : Array Value} {below : List Frame} {meth : Method} {c : Code} {H : Heap} {locs : List Loc} {cells slots : Nat} {Q : State → Prop} {cc : ByteArray} {pc nL : Nat} {ls : Array Slot} {rest st0 : List Value} {D : va_G} {cl : List vw_C} {A : Nat → Prop} {a : Nat} {tys : List (ClassId × FieldType)} {ws ws' wc w1 : va_W} {H0 : Heap} {cI cS : ClassId}
variable {y : MethodName} {bytes : ByteArray} {maxL n index : Nat} {ret : Option FieldType} {rm : Room} {Ts : List Cond} {own C host : String} {b : Addr} {As : List Value}
theorem cwVA (ht : ∀ w ∈ Ts, w.before args s = true) (hT : TW Ts) (L : LV y bytes maxL ret C n) (hl : Cond.methodLink own index y ∈ ALL) (hr0 : rm.cells = 0 ∧ rm.slots = 0) (hR : rm.frames + 1 ≤ R.frames ∧ 8 + (maxL + 11) + rm.locals ≤ R.locals) : CallW R s args own C index y bytes maxL ret (Cond.code y bytes maxL ret :: ALL) rm 0 0 n :=
  ⟨callB_of n ht (good_all hT L.1) rfl hr0.1 hr0.2 (ht _ (hT _ L.2.2.2.1)) (ht _ (hT _ hl)) L.2.2.2.2 hR, ht _ (hT _ L.2.1), ht _ (hT _ L.2.2.1)⟩
theorem cwSA (ht : ∀ w ∈ Ts, w.before args s = true) (hT : TW Ts) (L : LSt y bytes maxL ret n) (hl : Cond.methodLink own index y ∈ ALL) (hr0 : rm.cells = 0 ∧ rm.slots = 0) (hR : rm.frames + 1 ≤ R.frames ∧ 8 + (maxL + 11) + rm.locals ≤ R.locals) : CallB R s args own index y bytes maxL ret (Cond.code y bytes maxL ret :: ALL) rm 0 0 n ∧ (Cond.static y).before args s = true :=
  ⟨callB_of n ht (good_all hT L.1) rfl hr0.1 hr0.2 (ht _ (hT _ L.2.2.1)) (ht _ (hT _ hl)) L.2.2.2 hR, ht _ (hT _ L.2.1)⟩
theorem cwNA (ht : ∀ w ∈ Ts, w.before args s = true) (hT : TW Ts) (L : LSt y bytes maxL ret n) (hl : va_Nw (.methodLinkNest own index y host) s) (hr0 : rm.cells = 0 ∧ rm.slots = 0) (hR : rm.frames + 1 ≤ R.frames ∧ 8 + (maxL + 11) + rm.locals ≤ R.locals) : va_CN R s args own index y host bytes maxL ret (Cond.code y bytes maxL ret :: ALL) rm 0 0 n ∧ (Cond.static y).before args s = true ∧ True :=
  ⟨va_cnB n ht (good_all hT L.1) rfl hr0.1 hr0.2 hl (ht _ (hT _ L.2.2.1)) L.2.2.2 hR, ht _ (hT _ L.2.1), trivial⟩
/-- what comes back from a call that reads only -/
theorem cRi0 {post : Int32 → Prop} {av : Array Value} (hr : va_Run p l e R s m args below meth c H locs cells slots 0 0 (F0 m pc ls st0) rest (vp_Si post av) (fun _ => False)) (kk : ∀ r : Int32, post r → W p l e R s m args below meth c H locs cells slots Q (F0 m (pc + 3) ls (.int r :: rest))) : W p l e R s m args below meth c H locs cells slots Q (F0 m pc ls st0) := by
  intro T hT X
  obtain ⟨v, st₀, t, T', L, h0, X', hL, e1, e2, ⟨r, hv, hp, hh⟩, st⟩ := hr T hT X
  cases hv
  obtain ⟨t2, a1, b1⟩ := kk r hp T' (by rw [e1, hh, h0]) (Stand.forget X' (fun q h => (hL q h).elim))
  exact ⟨t2, st t2 a1, b1⟩
theorem cRl0 {post : Int64 → Prop} {av : Array Value} (hr : va_Run p l e R s m args below meth c H locs cells slots 0 0 (F0 m pc ls st0) rest (vp_Sl post av) (fun _ => False)) (kk : ∀ r : Int64, post r → W p l e R s m args below meth c H locs cells slots Q (F0 m (pc + 3) ls (.long r :: rest))) : W p l e R s m args below meth c H locs cells slots Q (F0 m pc ls st0) := by
  intro T hT X
  obtain ⟨v, st₀, t, T', L, h0, X', hL, e1, e2, ⟨r, hv, hp, hh⟩, st⟩ := hr T hT X
  cases hv
  obtain ⟨t2, a1, b1⟩ := kk r hp T' (by rw [e1, hh, h0]) (Stand.forget X' (fun q h => (hL q h).elim))
  exact ⟨t2, st t2 a1, b1⟩
/-- a read-only contract, and what the caller has to give -/
theorem pRV {q : vw_C} {fs : List Value} {ci : Nat} (hK : KK D cI cS s) (hP : va_P D vwCl wc H) (hc : vwCl[ci]? = some q) (he : wc[0]? = some (b, .inr (ci, fs))) : PreV s H q.1 b (PreR D cI cS (.ref b :: As) wc) As := ⟨blR, va_recv hK.1 hP hc he, fun U hU hW => ⟨rfl, by rw [hU]; exact hP, hK.warm hW⟩⟩
theorem pRS (hK : KK D cI cS s) (hP : va_P D vwCl wc H) : PreS s H (PreR D cI cS As wc) As := ⟨blR, fun U hU hW => ⟨rfl, by rw [hU]; exact hP, hK.warm hW⟩⟩
theorem pWV {q : vw_C} {fs : List Value} {ci : Nat} (hK : KK D cI cS s) (hP : va_P D vwCl wc H) (hD : va_D A wc) (hc : vwCl[ci]? = some q) (he : wc[0]? = some (b, .inr (ci, fs))) : PreV s H q.1 b (PreW D cI cS (.ref b :: As) wc) As := ⟨blW, va_recv hK.1 hP hc he, fun U hU hW => ⟨rfl, by rw [hU]; exact hP, hK.warm hW, hD.weaken (fun _ _ _ _ => trivial)⟩⟩
theorem pWS (hK : KK D cI cS s) (hP : va_P D vwCl wc H) (hD : va_D A wc) : PreS s H (PreW D cI cS As wc) As := ⟨blW, fun U hU hW => ⟨rfl, by rw [hU]; exact hP, hK.warm hW, hD.weaken (fun _ _ _ _ => trivial)⟩⟩
/-- arrays -/
theorem rI (hexec : p.tables.exec = Jvm.exec) (hb : c.code = cc) (hK : va_K D cl tys s) (hP : va_P D cl ws H) (q0 t0 : Nat) {cA : ClassId} {n : Nat} {f : Nat → Int32} (ha : ws[q0]? = some (a, .inl (cA, n, .inl f))) (ht : tys[t0]? = some (cA, .int)) {i v : Int32} (hr : rd n f i = some v) (hdg : decode cc pc = .ok (.iaload, 1))
    (kk : W p l e R s m args below meth c H locs cells slots Q (F0 m (pc + 1) ls (.int v :: rest))) : W p l e R s m args below meth c H locs cells slots Q (F0 m pc ls (.int i :: .ref a :: rest)) := by
  obtain ⟨h1, h2⟩ := rd_some hr
  subst h2
  exact va_iald hexec hb hK hP q0 t0 ha ht h1 hdg kk
theorem wI (hexec : p.tables.exec = Jvm.exec) (hb : c.code = cc) (hK : va_K D cl tys s) (hP : va_P D cl ws H) (hD : va_D A ws) (hS : va_S A H0 H locs) (q0 t0 : Nat) {cA : ClassId} {n j : Nat} {f : Nat → Int32} (ha : ws[q0]? = some (a, .inl (cA, n, .inl f))) (ht : tys[t0]? = some (cA, .int)) {i : Int32} {x : Int32} (hr : ix n i = some j) (hw : ws.set q0 (a, .inl (cA, n, .inl (upd f j x))) = ws') (hdg : decode cc pc = .ok (.iastore, 1))
    (kk : ∀ (H1 : Heap) (locs1 : List Loc), va_P D cl ws' H1 → va_D A ws' → va_S A H0 H1 locs1 → W p l e R s m args below meth c H1 locs1 cells slots Q (F0 m (pc + 1) ls rest)) : W p l e R s m args below meth c H locs cells slots Q (F0 m pc ls (.int x :: .int i :: .ref a :: rest)) := by
  obtain ⟨h1, h2, -⟩ := ix_some hr
  subst h2
  subst hw
  exact va_iast hexec hb hK hP hD hS q0 t0 ha ht h1 hdg kk
/-- a field of numbers is written -/
theorem wF (hexec : p.tables.exec = Jvm.exec) (hb : c.code = cc) {T : u_T} {N ci : Nat} (hts : ∀ w ∈ Ts, w.before args s = true) (hin : ∀ w ∈ u_ws C T N, w ∈ Ts) (ty0 : Nat → FieldType) (hty : ∀ k, k < N → parseFieldDescriptor (T k).2.2.1 = some (ty0 k)) (hnm : ∀ a, a < N → ∀ b, b < N → a ≠ b → (T a).2.1 ≠ (T b).2.1) (hown : s.vm.findClass own = some m.cls) (hK : va_K D cl tys s) (hP : va_P D cl ws H) (hD : va_D A ws) (hS0 : va_S A H0 H locs) (q0 : Nat) {fs : List Value} (he : ws[q0]? = some (a, .inr (ci, fs))) (hc : cl[ci]? = some (C, T, N)) (k : Nat) (hk : k < N) (hlink : (Cond.fieldLink own index (T k).1 (T k).2.1 (T k).2.2.1).before args s = true) (hfin : (T k).2.2.2 = false) {ty : FieldType} {v : Value} (hd : parseFieldDescriptor (T k).2.2.1 = some ty) (hn : narrow ty v = v) (hfit : fits ty v = true) (hl : k < fs.length) (hw : ws.set q0 (a, .inr (ci, fs.set k v)) = ws')
    (hdg : decode cc pc = .ok (.putfield index, 3)) (kk : ∀ (H1 : Heap) (locs1 : List Loc), va_P D cl ws' H1 → va_D A ws' → va_S A H0 H1 locs1 → W p l e R s m args below meth c H1 locs1 cells slots Q (F0 m (pc + 3) ls rest)) : W p l e R s m args below meth c H locs cells slots Q (F0 m pc ls (v :: .ref a :: rest)) := by
  subst hw
  exact va_put hexec hb hts hin ty0 hty hnm hown hK hP hD hS0 q0 he hc k hk hlink (fun _ h => h) hfin hd hn hfit hl hdg kk
theorem wFN (hexec : p.tables.exec = Jvm.exec) (hb : c.code = cc) {T : u_T} {N ci : Nat} (hts : ∀ w ∈ Ts, w.before args s = true) (hin : ∀ w ∈ u_ws C T N, w ∈ Ts) (ty0 : Nat → FieldType) (hty : ∀ k, k < N → parseFieldDescriptor (T k).2.2.1 = some (ty0 k)) (hnm : ∀ a, a < N → ∀ b, b < N → a ≠ b → (T a).2.1 ≠ (T b).2.1) (hown : s.vm.findClass own = some m.cls) (hK : va_K D cl tys s) (hP : va_P D cl ws H) (hD : va_D A ws) (hS0 : va_S A H0 H locs) (q0 : Nat) {fs : List Value} (he : ws[q0]? = some (a, .inr (ci, fs))) (hc : cl[ci]? = some (C, T, N)) (k : Nat) (hk : k < N) (hlink : (Cond.fieldLinkNest own index (T k).1 (T k).2.1 (T k).2.2.1 host).before args s = true) (hfin : (T k).2.2.2 = false) {ty : FieldType} {v : Value} (hd : parseFieldDescriptor (T k).2.2.1 = some ty) (hn : narrow ty v = v) (hfit : fits ty v = true) (hl : k < fs.length) (hw : ws.set q0 (a, .inr (ci, fs.set k v)) = ws')
    (hdg : decode cc pc = .ok (.putfield index, 3)) (kk : ∀ (H1 : Heap) (locs1 : List Loc), va_P D cl ws' H1 → va_D A ws' → va_S A H0 H1 locs1 → W p l e R s m args below meth c H1 locs1 cells slots Q (F0 m (pc + 3) ls rest)) : W p l e R s m args below meth c H locs cells slots Q (F0 m pc ls (v :: .ref a :: rest)) := by
  subst hw
  exact va_putN hexec hb hts hin ty0 hty hnm hown hK hP hD hS0 q0 he hc k hk hlink (fun _ h => h) hfin hd hn hfit hl hdg kk
/-- what comes back from a call that writes -/
theorem cWi0 {post : Int32 → Prop} {av : Array Value} (hr : va_Run p l e R s m args below meth c H locs cells slots 0 0 (F0 m pc ls st0) rest (va_Qi (fun x (_ : Unit) => post x) (fun _ t => va_P D cl w1 t.heap) (AD wc) av) (AD wc)) (hP : va_P D cl ws H) (hD : va_D A ws) (hS : va_S A H0 H locs) (isC : List Nat) (hC : isC.map (fun i => ws[i]?) = wc.map some) (pl : List (Nat ⊕ Nat)) (hw : pl.map (plv ws w1) = ws'.map some) (hdis : pl.all (plk isC) = true) (hadr : ws'.map Prod.fst = ws.map Prod.fst)
    (kk : ∀ (r : Int32) (H1 : Heap) (locs1 : List Loc), post r → va_P D cl ws' H1 → va_D A ws' → va_S A H0 H1 locs1 → W p l e R s m args below meth c H1 locs1 cells slots Q (F0 m (pc + 3) ls (.int r :: rest))) : W p l e R s m args below meth c H locs cells slots Q (F0 m pc ls st0) := by
  have hF := AD.sub hD isC hC
  refine va_calli hr hS (fun q _ h => hF q h) hF (fun r u t H1 locs1 ht hvm hp hB hz hk hS1 => ?_)
  rw [ht] at hB
  exact kk r H1 locs1 hp (jn hP hD isC hC hk hB pl hw hdis) (hD.adr hadr) hS1
theorem cWv {av : Array Value} (hr : va_Run p l e R s m args below meth c H locs cells slots 0 0 (F0 m pc ls st0) rest (va_Qv (fun (_ : Unit) => True) (fun _ t => va_P D cl w1 t.heap) (AD wc) av) (AD wc)) (hP : va_P D cl ws H) (hD : va_D A ws) (hS : va_S A H0 H locs) (isC : List Nat) (hC : isC.map (fun i => ws[i]?) = wc.map some) (pl : List (Nat ⊕ Nat)) (hw : pl.map (plv ws w1) = ws'.map some) (hdis : pl.all (plk isC) = true) (hadr : ws'.map Prod.fst = ws.map Prod.fst)
    (kk : ∀ (H1 : Heap) (locs1 : List Loc), va_P D cl ws' H1 → va_D A ws' → va_S A H0 H1 locs1 → W p l e R s m args below meth c H1 locs1 cells slots Q (F0 m (pc + 3) ls rest)) : W p l e R s m args below meth c H locs cells slots Q (F0 m pc ls st0) := by
  have hF := AD.sub hD isC hC
  refine va_callv hr hS (fun q _ h => hF q h) hF (fun u t H1 locs1 ht hvm hp hB hz hk hS1 => ?_)
  rw [ht] at hB
  exact kk H1 locs1 (jn hP hD isC hC hk hB pl hw hdis) (hD.adr hadr) hS1
theorem cWl0 {post : Int64 → Prop} {av : Array Value} (hr : va_Run p l e R s m args below meth c H locs cells slots 0 0 (F0 m pc ls st0) rest (va_Ql (fun x (_ : Unit) => post x) (fun _ t => va_P D cl w1 t.heap) (AD wc) av) (AD wc)) (hP : va_P D cl ws H) (hD : va_D A ws) (hS : va_S A H0 H locs) (isC : List Nat) (hC : isC.map (fun i => ws[i]?) = wc.map some) (pl : List (Nat ⊕ Nat)) (hw : pl.map (plv ws w1) = ws'.map some) (hdis : pl.all (plk isC) = true) (hadr : ws'.map Prod.fst = ws.map Prod.fst)
    (kk : ∀ (r : Int64) (H1 : Heap) (locs1 : List Loc), post r → va_P D cl ws' H1 → va_D A ws' → va_S A H0 H1 locs1 → W p l e R s m args below meth c H1 locs1 cells slots Q (F0 m (pc + 3) ls (.long r :: rest))) : W p l e R s m args below meth c H locs cells slots Q (F0 m pc ls st0) := by
  have hF := AD.sub hD isC hC
  refine va_calll hr hS (fun q _ h => hF q h) hF (fun r u t H1 locs1 ht hvm hp hB hz hk hS1 => ?_)
  rw [ht] at hB
  exact kk r H1 locs1 hp (jn hP hD isC hC hk hB pl hw hdis) (hD.adr hadr) hS1
/-- a method whose world is all that the caller has -/
theorem cAi0 {post : Int32 → Prop} {av : Array Value} (hr : va_Run p l e R s m args below meth c H locs cells slots 0 0 (F0 m pc ls st0) rest (va_Qi (fun x (_ : Unit) => post x) (fun _ t => va_P D cl ws' t.heap) (AD ws) av) (AD ws)) (hD : va_D A ws) (hS : va_S A H0 H locs) (hadr : ws'.map Prod.fst = ws.map Prod.fst)
    (kk : ∀ (r : Int32) (H1 : Heap) (locs1 : List Loc), post r → va_P D cl ws' H1 → va_D A ws' → va_S A H0 H1 locs1 → W p l e R s m args below meth c H1 locs1 cells slots Q (F0 m (pc + 3) ls (.int r :: rest))) : W p l e R s m args below meth c H locs cells slots Q (F0 m pc ls st0) := by
  have hF : ∀ q, AD ws q → A q := fun q h => by
    obtain ⟨q2, hq2, e2⟩ := List.mem_map.mp h
    obtain ⟨j, hj⟩ := List.getElem?_of_mem hq2
    rw [← e2]
    exact hD.2 j q2 hj
  refine va_calli hr hS (fun q _ h => hF q h) hF (fun r u t H1 locs1 ht hvm hp hB hz hk hS1 => ?_)
  rw [ht] at hB
  exact kk r H1 locs1 hp hB (hD.adr hadr) hS1
theorem cAv {av : Array Value} (hr : va_Run p l e R s m args below meth c H locs cells slots 0 0 (F0 m pc ls st0) rest (va_Qv (fun (_ : Unit) => True) (fun _ t => va_P D cl ws' t.heap) (AD ws) av) (AD ws)) (hD : va_D A ws) (hS : va_S A H0 H locs) (hadr : ws'.map Prod.fst = ws.map Prod.fst)
    (kk : ∀ (H1 : Heap) (locs1 : List Loc), va_P D cl ws' H1 → va_D A ws' → va_S A H0 H1 locs1 → W p l e R s m args below meth c H1 locs1 cells slots Q (F0 m (pc + 3) ls rest)) : W p l e R s m args below meth c H locs cells slots Q (F0 m pc ls st0) := by
  have hF : ∀ q, AD ws q → A q := fun q h => by
    obtain ⟨q2, hq2, e2⟩ := List.mem_map.mp h
    obtain ⟨j, hj⟩ := List.getElem?_of_mem hq2
    rw [← e2]
    exact hD.2 j q2 hj
  refine va_callv hr hS (fun q _ h => hF q h) hF (fun u t H1 locs1 ht hvm hp hB hz hk hS1 => ?_)
  rw [ht] at hB
  exact kk H1 locs1 hB (hD.adr hadr) hS1
theorem cAl0 {post : Int64 → Prop} {av : Array Value} (hr : va_Run p l e R s m args below meth c H locs cells slots 0 0 (F0 m pc ls st0) rest (va_Ql (fun x (_ : Unit) => post x) (fun _ t => va_P D cl ws' t.heap) (AD ws) av) (AD ws)) (hD : va_D A ws) (hS : va_S A H0 H locs) (hadr : ws'.map Prod.fst = ws.map Prod.fst)
    (kk : ∀ (r : Int64) (H1 : Heap) (locs1 : List Loc), post r → va_P D cl ws' H1 → va_D A ws' → va_S A H0 H1 locs1 → W p l e R s m args below meth c H1 locs1 cells slots Q (F0 m (pc + 3) ls (.long r :: rest))) : W p l e R s m args below meth c H locs cells slots Q (F0 m pc ls st0) := by
  have hF : ∀ q, AD ws q → A q := fun q h => by
    obtain ⟨q2, hq2, e2⟩ := List.mem_map.mp h
    obtain ⟨j, hj⟩ := List.getElem?_of_mem hq2
    rw [← e2]
    exact hD.2 j q2 hj
  refine va_calll hr hS (fun q _ h => hF q h) hF (fun r u t H1 locs1 ht hvm hp hB hz hk hS1 => ?_)
  rw [ht] at hB
  exact kk r H1 locs1 hp hB (hD.adr hadr) hS1
theorem cRe {r : Int32} {av : Array Value} (hr : va_Run p l e R s m args below meth c H locs cells slots 0 0 (F0 m pc ls st0) rest (vp_Si (fun x => x = r) av) (fun _ => False)) (kk : W p l e R s m args below meth c H locs cells slots Q (F0 m (pc + 3) ls (.int r :: rest))) : W p l e R s m args below meth c H locs cells slots Q (F0 m pc ls st0) := cRi0 hr (fun x h => by rw [h]; exact kk)
theorem cRb {r : Int32} {av : Array Value} (hr : va_Run p l e R s m args below meth c H locs cells slots 0 0 (F0 m pc ls st0) rest (vp_Si (fun x => x = r ∧ (x = 0 ∨ x = 1)) av) (fun _ => False)) (kk : r = 0 ∨ r = 1 → W p l e R s m args below meth c H locs cells slots Q (F0 m (pc + 3) ls (.int r :: rest))) : W p l e R s m args below meth c H locs cells slots Q (F0 m pc ls st0) := cRi0 hr (fun x h => by obtain ⟨rfl, h2⟩ := h; exact kk h2)
theorem cRl {r : Int64} {av : Array Value} (hr : va_Run p l e R s m args below meth c H locs cells slots 0 0 (F0 m pc ls st0) rest (vp_Sl (fun x => x = r) av) (fun _ => False)) (kk : W p l e R s m args below meth c H locs cells slots Q (F0 m (pc + 3) ls (.long r :: rest))) : W p l e R s m args below meth c H locs cells slots Q (F0 m pc ls st0) := cRl0 hr (fun x h => by rw [h]; exact kk)
theorem cWe {r : Int32} {av : Array Value} (hr : va_Run p l e R s m args below meth c H locs cells slots 0 0 (F0 m pc ls st0) rest (va_Qi (fun x (_ : Unit) => x = r) (fun _ t => va_P D cl w1 t.heap) (AD wc) av) (AD wc)) (hP : va_P D cl ws H) (hD : va_D A ws) (hS : va_S A H0 H locs) (isC : List Nat) (hC : isC.map (fun i => ws[i]?) = wc.map some) (pl : List (Nat ⊕ Nat)) (hw : pl.map (plv ws w1) = ws'.map some) (hdis : pl.all (plk isC) = true) (hadr : ws'.map Prod.fst = ws.map Prod.fst) (kk : ∀ (H1 : Heap) (locs1 : List Loc), va_P D cl ws' H1 → va_D A ws' → va_S A H0 H1 locs1 → W p l e R s m args below meth c H1 locs1 cells slots Q (F0 m (pc + 3) ls (.int r :: rest))) : W p l e R s m args below meth c H locs cells slots Q (F0 m pc ls st0) := cWi0 (post := fun x => x = r) hr hP hD hS isC hC pl hw hdis hadr (fun x H1 l1 h a1 a2 a3 => by rw [h]; exact kk H1 l1 a1 a2 a3)
theorem cAe {r : Int32} {av : Array Value} (hr : va_Run p l e R s m args below meth c H locs cells slots 0 0 (F0 m pc ls st0) rest (va_Qi (fun x (_ : Unit) => x = r) (fun _ t => va_P D cl ws' t.heap) (AD ws) av) (AD ws)) (hD : va_D A ws) (hS : va_S A H0 H locs) (hadr : ws'.map Prod.fst = ws.map Prod.fst) (kk : ∀ (H1 : Heap) (locs1 : List Loc), va_P D cl ws' H1 → va_D A ws' → va_S A H0 H1 locs1 → W p l e R s m args below meth c H1 locs1 cells slots Q (F0 m (pc + 3) ls (.int r :: rest))) : W p l e R s m args below meth c H locs cells slots Q (F0 m pc ls st0) := cAi0 (post := fun x => x = r) hr hD hS hadr (fun x H1 l1 h a1 a2 a3 => by rw [h]; exact kk H1 l1 a1 a2 a3)
theorem cWb {r : Int32} {av : Array Value} (hr : va_Run p l e R s m args below meth c H locs cells slots 0 0 (F0 m pc ls st0) rest (va_Qi (fun x (_ : Unit) => x = r ∧ (x = 0 ∨ x = 1)) (fun _ t => va_P D cl w1 t.heap) (AD wc) av) (AD wc)) (hP : va_P D cl ws H) (hD : va_D A ws) (hS : va_S A H0 H locs) (isC : List Nat) (hC : isC.map (fun i => ws[i]?) = wc.map some) (pl : List (Nat ⊕ Nat)) (hw : pl.map (plv ws w1) = ws'.map some) (hdis : pl.all (plk isC) = true) (hadr : ws'.map Prod.fst = ws.map Prod.fst) (kk : r = 0 ∨ r = 1 → ∀ (H1 : Heap) (locs1 : List Loc), va_P D cl ws' H1 → va_D A ws' → va_S A H0 H1 locs1 → W p l e R s m args below meth c H1 locs1 cells slots Q (F0 m (pc + 3) ls (.int r :: rest))) : W p l e R s m args below meth c H locs cells slots Q (F0 m pc ls st0) := cWi0 (post := fun x => x = r ∧ (x = 0 ∨ x = 1)) hr hP hD hS isC hC pl hw hdis hadr (fun x H1 l1 h a1 a2 a3 => by obtain ⟨rfl, h2⟩ := h; exact kk h2 H1 l1 a1 a2 a3)
theorem cAb {r : Int32} {av : Array Value} (hr : va_Run p l e R s m args below meth c H locs cells slots 0 0 (F0 m pc ls st0) rest (va_Qi (fun x (_ : Unit) => x = r ∧ (x = 0 ∨ x = 1)) (fun _ t => va_P D cl ws' t.heap) (AD ws) av) (AD ws)) (hD : va_D A ws) (hS : va_S A H0 H locs) (hadr : ws'.map Prod.fst = ws.map Prod.fst) (kk : r = 0 ∨ r = 1 → ∀ (H1 : Heap) (locs1 : List Loc), va_P D cl ws' H1 → va_D A ws' → va_S A H0 H1 locs1 → W p l e R s m args below meth c H1 locs1 cells slots Q (F0 m (pc + 3) ls (.int r :: rest))) : W p l e R s m args below meth c H locs cells slots Q (F0 m pc ls st0) := cAi0 (post := fun x => x = r ∧ (x = 0 ∨ x = 1)) hr hD hS hadr (fun x H1 l1 h a1 a2 a3 => by obtain ⟨rfl, h2⟩ := h; exact kk h2 H1 l1 a1 a2 a3)
theorem cWl {r : Int64} {av : Array Value} (hr : va_Run p l e R s m args below meth c H locs cells slots 0 0 (F0 m pc ls st0) rest (va_Ql (fun x (_ : Unit) => x = r) (fun _ t => va_P D cl w1 t.heap) (AD wc) av) (AD wc)) (hP : va_P D cl ws H) (hD : va_D A ws) (hS : va_S A H0 H locs) (isC : List Nat) (hC : isC.map (fun i => ws[i]?) = wc.map some) (pl : List (Nat ⊕ Nat)) (hw : pl.map (plv ws w1) = ws'.map some) (hdis : pl.all (plk isC) = true) (hadr : ws'.map Prod.fst = ws.map Prod.fst) (kk : ∀ (H1 : Heap) (locs1 : List Loc), va_P D cl ws' H1 → va_D A ws' → va_S A H0 H1 locs1 → W p l e R s m args below meth c H1 locs1 cells slots Q (F0 m (pc + 3) ls (.long r :: rest))) : W p l e R s m args below meth c H locs cells slots Q (F0 m pc ls st0) := cWl0 (post := fun x => x = r) hr hP hD hS isC hC pl hw hdis hadr (fun x H1 l1 h a1 a2 a3 => by rw [h]; exact kk H1 l1 a1 a2 a3)
theorem cAl {r : Int64} {av : Array Value} (hr : va_Run p l e R s m args below meth c H locs cells slots 0 0 (F0 m pc ls st0) rest (va_Ql (fun x (_ : Unit) => x = r) (fun _ t => va_P D cl ws' t.heap) (AD ws) av) (AD ws)) (hD : va_D A ws) (hS : va_S A H0 H locs) (hadr : ws'.map Prod.fst = ws.map Prod.fst) (kk : ∀ (H1 : Heap) (locs1 : List Loc), va_P D cl ws' H1 → va_D A ws' → va_S A H0 H1 locs1 → W p l e R s m args below meth c H1 locs1 cells slots Q (F0 m (pc + 3) ls (.long r :: rest))) : W p l e R s m args below meth c H locs cells slots Q (F0 m pc ls st0) := cAl0 (post := fun x => x = r) hr hD hS hadr (fun x H1 l1 h a1 a2 a3 => by rw [h]; exact kk H1 l1 a1 a2 a3)
theorem topi {x v : Int32} (h : v = x) (kk : W p l e R s m args below meth c H locs cells slots Q (F0 m pc ls (.int v :: rest))) : W p l e R s m args below meth c H locs cells slots Q (F0 m pc ls (.int x :: rest)) := by subst h; exact kk
theorem topl {x v : Int64} (h : v = x) (kk : W p l e R s m args below meth c H locs cells slots Q (F0 m pc ls (.long v :: rest))) : W p l e R s m args below meth c H locs cells slots Q (F0 m pc ls (.long x :: rest)) := by subst h; exact kk
theorem rR (hexec : p.tables.exec = Jvm.exec) (hb : c.code = cc) (hK : va_K D cl tys s) (hP : va_P D cl ws H) (q0 t0 : Nat) {cA : ClassId} {C : String} {n k : Nat} {f : Nat → Option Nat} (ha : ws[q0]? = some (a, .inl (cA, n, .inr (.inr (.inr (.inr f)))))) (ht : tys[t0]? = some (cA, .object C)) {i : Int32} (hr : ix n i = some k) (hv : f k = some b) (hdg : decode cc pc = .ok (.aaload, 1))
    (kk : W p l e R s m args below meth c H locs cells slots Q (F0 m (pc + 1) ls (.ref b :: rest))) : W p l e R s m args below meth c H locs cells slots Q (F0 m pc ls (.int i :: .ref a :: rest)) := by
  obtain ⟨h1, h2, -⟩ := ix_some hr
  subst h2
  refine va_aldq hexec hb hK hP q0 t0 ha ht h1 hdg ?_
  rw [hv]
  exact kk
theorem wC (hexec : p.tables.exec = Jvm.exec) (hb : c.code = cc) (hml : c.maxLocals = ls.size) (hown : s.vm.findClass own = some m.cls) (hlink : (Cond.methodLink own index arraycopyName).before args s = true) (hnat : (Cond.native arraycopyName).before args s = true) (hstat : (Cond.static arraycopyName).before args s = true) (hini : (Cond.initialized "java/lang/System").before args s = true) (hK : va_K D cl tys s) (hP : va_P D cl ws H) (hD : va_D A ws) (hS : va_S A H0 H locs) (q0 q1 t0 : Nat) {a0 : Nat} {c0 : ClassId} {n0 n1 : Nat} {f g r : Nat → Int32} (ha0 : ws[q0]? = some (a0, .inl (c0, n0, .inl f))) (ha1 : ws[q1]? = some (a, .inl (c0, n1, .inl g))) (ht0 : tys[t0]? = some (c0, .int)) {sp dp n : Int32} (hr : cpy n0 n1 f g sp dp n = some r) (hw : ws.set q1 (a, .inl (c0, n1, .inl r)) = ws')
    (hframes : 1 ≤ R.frames) (hlocals : (rest.map fun v => v.category).sum + (nativeFrameWords "java/lang/System" "arraycopy" 5 + 11) ≤ R.locals) (hdg : decode cc pc = .ok (.invokestatic index, 3))
    (kk : ∀ (H1 : Heap) (locs1 : List Loc), va_P D cl ws' H1 → va_D A ws' → va_S A H0 H1 locs1 → W p l e R s m args below meth c H1 locs1 cells slots Q (F0 m (pc + 3) ls rest)) : W p l e R s m args below meth c H locs cells slots Q (F0 m pc ls (.int n :: .int dp :: .ref a :: .int sp :: .ref a0 :: rest)) := by
  obtain ⟨h1, h2, h3, h4, h5, h6⟩ := cpy_some hr
  subst h6
  subst hw
  exact va_copyi hexec hb hml hown hlink hnat hstat hini hK hP hD hS q0 q1 t0 t0 ha0 ha1 ht0 ht0 rfl h1 h2 h3 h4 h5 (fun _ _ => rfl) hframes hlocals hdg kk
end KT
/-- what a method's walk begins with -/
theorem mR (l : Launch) (D : va_G) (cI cS : ClassId) {y : MethodName} {cc : ByteArray} {maxL : Nat} {ret : Option FieldType} {rm : Room} {av : List Value} {w : va_W} {Qc : Array Value → State → Outcome → State → Prop} (hy : plainName y.cls = true) (hn : (lg_sl av).length ≤ maxL)
    (body : ∀ (p : Program) (e : Env) (s : State) (m : MethodId) (below : List Frame) (meth : Method) (c : Code) (ls : Array Slot), p.tables.exec = Jvm.exec → c.code = cc → meth.sig.returnType = ret → c.maxLocals = maxL → s.vm.findClass y.cls = some m.cls → (∀ v ∈ Cond.code y cc maxL ret :: ALL, v.before av.toArray s = true) → meth.locks = false → va_P D vwCl w s.heap → KK D cI cS s → lv_has ls maxL (lv_args 0 av) → W p l e rm s m av.toArray below meth c s.heap [] 0 0 (MQ below Qc av.toArray s 0 0 (fun _ => False)) (F0 m 0 ls [])) : Met l y (Cond.code y cc maxL ret :: ALL) rm (PreR D cI cS av w) Qc 0 0 (fun _ => False) := by
  refine Met.ofW (cc := cc) (maxL := maxL) (ret := ret) hy rfl ?_
  intro p e s m args below meth c s₁ B hml hv
  obtain ⟨rfl, hP, hK⟩ := hv
  have hts := atoms_spec (ws := Cond.code y cc maxL ret :: ALL) B.pre
  rw [lg_entry_eq]
  exact body p e s m below meth c _ B.exec B.bytes B.returns hml (findClass_of_methodNamed B.named) hts B.notSynchronized hP hK (lv_entry av hn)
theorem mW (l : Launch) (D : va_G) (cI cS : ClassId) {y : MethodName} {cc : ByteArray} {maxL : Nat} {ret : Option FieldType} {rm : Room} {av : List Value} {w : va_W} {Qc : Array Value → State → Outcome → State → Prop} (hy : plainName y.cls = true) (hn : (lg_sl av).length ≤ maxL)
    (body : ∀ (p : Program) (e : Env) (s : State) (m : MethodId) (below : List Frame) (meth : Method) (c : Code) (ls : Array Slot), p.tables.exec = Jvm.exec → c.code = cc → meth.sig.returnType = ret → c.maxLocals = maxL → s.vm.findClass y.cls = some m.cls → (∀ v ∈ Cond.code y cc maxL ret :: ALL, v.before av.toArray s = true) → meth.locks = false → va_P D vwCl w s.heap → KK D cI cS s → va_D (AD w) w → va_S (AD w) s.heap s.heap [] → lv_has ls maxL (lv_args 0 av) → W p l e rm s m av.toArray below meth c s.heap [] 0 0 (MQ below Qc av.toArray s 0 0 (AD w)) (F0 m 0 ls [])) : Met l y (Cond.code y cc maxL ret :: ALL) rm (PreW D cI cS av w) Qc 0 0 (AD w) := by
  refine Met.ofW (cc := cc) (maxL := maxL) (ret := ret) hy rfl ?_
  intro p e s m args below meth c s₁ B hml hv
  obtain ⟨rfl, hP, hK, hD⟩ := hv
  have hts := atoms_spec (ws := Cond.code y cc maxL ret :: ALL) B.pre
  rw [lg_entry_eq]
  exact body p e s m below meth c _ B.exec B.bytes B.returns hml (findClass_of_methodNamed B.named) hts B.notSynchronized hP hK (AD.self hD) va_S.rf (lv_entry av hn)
def pA (cI cS : ClassId) (a : Nat → Nat) (t : ST) : va_W := [(a 0, .inl (cI, 60, .inl (t 0)))]
def pB (cI cS : ClassId) (a : Nat → Nat) (t : ST) : va_W := [(a 0, .inr (0, [.int (t 0 0), .int (t 0 1), .int (t 0 2), .ref (a 1), .ref (a 2), .ref (a 3)])), (a 1, .inl (cI, 6, .inl (t 1))), (a 2, .inl (cI, 6, .inl (t 2))), (a 3, .inl (cI, 6, .inl (t 3)))]
def pL (cI cS : ClassId) (a : Nat → Nat) (t : ST) : va_W := [(a 0, .inr (1, [.int (t 0 0), .ref (a 1)])), (a 1, .inl (cI, 576, .inl (t 1)))]
def pD (cI cS : ClassId) (a : Nat → Nat) (t : ST) : va_W := [(a 0, .inr (2, [.int (t 0 0), .ref (a 1), .ref (a 2), .ref (a 3)])), (a 1, .inl (cI, 8, .inl (t 1))), (a 2, .inl (cI, 8, .inl (t 2))), (a 3, .inl (cI, 8, .inl (t 3)))]
def pS (cI cS : ClassId) (a : Nat → Nat) (t : ST) : va_W := [(a 0, .inr (3, [.int (t 0 0), .int (t 0 1), .int (t 0 2), .ref (a 1)])), (a 1, .inl (cI, 60, .inl (t 1)))]
def pY (cI cS : ClassId) (a : Nat → Nat) (t : ST) : va_W := [(a 0, .inr (4, [.ref (a 1), .int (t 0 0), .int (t 0 1), .int (t 0 2)])), (a 1, .inr (0, [.int (t 1 0), .int (t 1 1), .int (t 1 2), .ref (a 2), .ref (a 3), .ref (a 4)])), (a 2, .inl (cI, 6, .inl (t 2))), (a 3, .inl (cI, 6, .inl (t 3))), (a 4, .inl (cI, 6, .inl (t 4)))]
def pC (cI cS : ClassId) (a : Nat → Nat) (t : ST) : va_W := [(a 0, .inr (5, [.ref (a 1), .ref (a 3), .ref (a 7), .ref (a 11), .ref (a 16), .ref (a 28), .int (t 0 0), .int (t 0 1)])), (a 1, .inr (1, [.int (t 1 0), .ref (a 2)])), (a 2, .inl (cI, 576, .inl (t 2))), (a 3, .inr (0, [.int (t 3 0), .int (t 3 1), .int (t 3 2), .ref (a 4), .ref (a 5), .ref (a 6)])), (a 4, .inl (cI, 6, .inl (t 4))), (a 5, .inl (cI, 6, .inl (t 5))), (a 6, .inl (cI, 6, .inl (t 6))), (a 7, .inr (0, [.int (t 7 0), .int (t 7 1), .int (t 7 2), .ref (a 8), .ref (a 9), .ref (a 10)])), (a 8, .inl (cI, 6, .inl (t 8))), (a 9, .inl (cI, 6, .inl (t 9))), (a 10, .inl (cI, 6, .inl (t 10))), (a 11, .inr (4, [.ref (a 12), .int (t 11 0), .int (t 11 1), .int (t 11 2)])), (a 12, .inr (0, [.int (t 12 0), .int (t 12 1), .int (t 12 2), .ref (a 13), .ref (a 14), .ref (a 15)])), (a 13, .inl (cI, 6, .inl (t 13))), (a 14, .inl (cI, 6, .inl (t 14))), (a 15, .inl (cI, 6, .inl (t 15))), (a 16, .inr (2, [.int (t 16 0), .ref (a 17), .ref (a 18), .ref (a 19)])), (a 17, .inl (cI, 8, .inl (t 17))), (a 18, .inl (cI, 8, .inl (t 18))), (a 19, .inl (cI, 8, .inl (t 19))), (a 20, .inr (3, [.int (t 20 0), .int (t 20 1), .int (t 20 2), .ref (a 21)])), (a 21, .inl (cI, 60, .inl (t 21))), (a 22, .inr (3, [.int (t 22 0), .int (t 22 1), .int (t 22 2), .ref (a 23)])), (a 23, .inl (cI, 60, .inl (t 23))), (a 24, .inr (3, [.int (t 24 0), .int (t 24 1), .int (t 24 2), .ref (a 25)])), (a 25, .inl (cI, 60, .inl (t 25))), (a 26, .inr (3, [.int (t 26 0), .int (t 26 1), .int (t 26 2), .ref (a 27)])), (a 27, .inl (cI, 60, .inl (t 27))), (a 28, .inl (cS, 4, .inr (.inr (.inr (.inr (fun k => some (a (20 + 2 * k))))))))]
def pM (cI cS : ClassId) (a : Nat → Nat) (t : ST) : va_W := [(a 0, .inr (6, [.int (t 0 0), .int (t 0 1), .ref (a 1), .ref (a 2), .ref (a 3), .int (t 0 2), .int (t 0 3), .int (t 0 4), .int (t 0 5), .ref (a 4), .ref (a 5), .ref (a 6), .ref (a 7), .int (t 0 6), .int (t 0 7), .int (t 0 8), .ref (a 8), .ref (a 9), .int (t 0 9), .int (t 0 10), .int (t 0 11), .int (t 0 12), .int (t 0 13), .ref (a 10), .ref (a 11), .ref (a 12), .ref (a 13), .ref (a 14), .ref (a 15)])), (a 1, .inl (cI, 4, .inl (t 1))), (a 2, .inl (cI, 4, .inl (t 2))), (a 3, .inl (cI, 240, .inl (t 3))), (a 4, .inl (cI, 64, .inl (t 4))), (a 5, .inl (cI, 6, .inl (t 5))), (a 6, .inl (cI, 6, .inl (t 6))), (a 7, .inl (cI, 6, .inl (t 7))), (a 8, .inl (cI, 18, .inl (t 8))), (a 9, .inl (cI, 6, .inl (t 9))), (a 10, .inl (cI, 8, .inl (t 10))), (a 11, .inl (cI, 8, .inl (t 11))), (a 12, .inl (cI, 8, .inl (t 12))), (a 13, .inl (cI, 64, .inl (t 13))), (a 14, .inl (cI, 64, .inl (t 14))), (a 15, .inl (cI, 64, .inl (t 15)))]
