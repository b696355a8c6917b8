section
-- ===== PART A: goes FIRST, ahead of the names: the tables' words, and 'selects' of the private methods out of them =====
/-- a private method of a class that the tables say can be made, by its rows of tables_1 -/
def lw_okq (q : MethodName × Nat) : Prop := (q.1.cls ≠ "java/lang/invoke/MethodHandle" ∧ q.1.cls ≠ "java/lang/invoke/VarHandle") ∧ Cond.instantiable q.1.cls q.2 ∈ tables_1 ∧ Cond.privateMethod q.1 ∈ tables_1 ∧ Cond.instanceMethod q.1 ∈ tables_1
theorem lw_p0 : lw_okq (⟨"MarbleGarden", "withoutFault", "(I)I"⟩, 8) := ⟨⟨by decide +kernel, by decide +kernel⟩, List.mem_of_getElem? (i := 15) (by decide +kernel), List.mem_of_getElem? (i := 169) (by decide +kernel), List.mem_of_getElem? (i := 170) (by decide +kernel)⟩
theorem lw_p1 : lw_okq (⟨"MarbleGarden", "withFault", "(I)I"⟩, 8) := ⟨⟨by decide +kernel, by decide +kernel⟩, List.mem_of_getElem? (i := 15) (by decide +kernel), List.mem_of_getElem? (i := 184) (by decide +kernel), List.mem_of_getElem? (i := 185) (by decide +kernel)⟩
theorem lw_p2 : lw_okq (⟨"MarbleGarden$Law", "stepOf", "(I)I"⟩, 2) := ⟨⟨by decide +kernel, by decide +kernel⟩, List.mem_of_getElem? (i := 23) (by decide +kernel), List.mem_of_getElem? (i := 217) (by decide +kernel), List.mem_of_getElem? (i := 218) (by decide +kernel)⟩
theorem lw_p3 : lw_okq (⟨"MarbleGarden", "refusalOfShape", "(I)I"⟩, 8) := ⟨⟨by decide +kernel, by decide +kernel⟩, List.mem_of_getElem? (i := 15) (by decide +kernel), List.mem_of_getElem? (i := 283) (by decide +kernel), List.mem_of_getElem? (i := 284) (by decide +kernel)⟩
theorem lw_p4 : lw_okq (⟨"MarbleGarden", "hasGarden", "()Z"⟩, 8) := ⟨⟨by decide +kernel, by decide +kernel⟩, List.mem_of_getElem? (i := 15) (by decide +kernel), List.mem_of_getElem? (i := 288) (by decide +kernel), List.mem_of_getElem? (i := 289) (by decide +kernel)⟩
theorem lw_p5 : lw_okq (⟨"MarbleGarden$Years", "letGo", "(LMarbleGarden$Law;I)V"⟩, 4) := ⟨⟨by decide +kernel, by decide +kernel⟩, List.mem_of_getElem? (i := 73) (by decide +kernel), List.mem_of_getElem? (i := 369) (by decide +kernel), List.mem_of_getElem? (i := 370) (by decide +kernel)⟩
theorem lw_p6 : lw_okq (⟨"MarbleGarden$Years", "tryAct", "(II)Z"⟩, 4) := ⟨⟨by decide +kernel, by decide +kernel⟩, List.mem_of_getElem? (i := 73) (by decide +kernel), List.mem_of_getElem? (i := 384) (by decide +kernel), List.mem_of_getElem? (i := 385) (by decide +kernel)⟩
theorem lw_p7 : lw_okq (⟨"MarbleGarden$Sheet", "cut", "(I)I"⟩, 4) := ⟨⟨by decide +kernel, by decide +kernel⟩, List.mem_of_getElem? (i := 115) (by decide +kernel), List.mem_of_getElem? (i := 506) (by decide +kernel), List.mem_of_getElem? (i := 507) (by decide +kernel)⟩
theorem lw_p8 : lw_okq (⟨"MarbleGarden", "tellAsHorse", "(I)I"⟩, 8) := ⟨⟨by decide +kernel, by decide +kernel⟩, List.mem_of_getElem? (i := 15) (by decide +kernel), List.mem_of_getElem? (i := 523) (by decide +kernel), List.mem_of_getElem? (i := 524) (by decide +kernel)⟩
theorem lw_p9 : lw_okq (⟨"MarbleGarden", "leaveTrace", "(I)V"⟩, 8) := ⟨⟨by decide +kernel, by decide +kernel⟩, List.mem_of_getElem? (i := 15) (by decide +kernel), List.mem_of_getElem? (i := 527) (by decide +kernel), List.mem_of_getElem? (i := 528) (by decide +kernel)⟩
theorem lw_p10 : lw_okq (⟨"MarbleGarden", "tellAsNymph", "(I)I"⟩, 8) := ⟨⟨by decide +kernel, by decide +kernel⟩, List.mem_of_getElem? (i := 15) (by decide +kernel), List.mem_of_getElem? (i := 531) (by decide +kernel), List.mem_of_getElem? (i := 532) (by decide +kernel)⟩
theorem lw_p11 : lw_okq (⟨"MarbleGarden", "tellAsBust", "(I)I"⟩, 8) := ⟨⟨by decide +kernel, by decide +kernel⟩, List.mem_of_getElem? (i := 15) (by decide +kernel), List.mem_of_getElem? (i := 535) (by decide +kernel), List.mem_of_getElem? (i := 536) (by decide +kernel)⟩
theorem lw_p12 : lw_okq (⟨"MarbleGardenModel", "against", "(IIII)I"⟩, 29) := ⟨⟨by decide +kernel, by decide +kernel⟩, List.mem_of_getElem? (i := 559) (by decide +kernel), List.mem_of_getElem? (i := 666) (by decide +kernel), List.mem_of_getElem? (i := 667) (by decide +kernel)⟩
theorem lw_p13 : lw_okq (⟨"MarbleGardenModel", "fails", "(I)I"⟩, 29) := ⟨⟨by decide +kernel, by decide +kernel⟩, List.mem_of_getElem? (i := 559) (by decide +kernel), List.mem_of_getElem? (i := 670) (by decide +kernel), List.mem_of_getElem? (i := 671) (by decide +kernel)⟩
theorem lw_p14 : lw_okq (⟨"MarbleGardenModel", "readGarden", "(I)Z"⟩, 29) := ⟨⟨by decide +kernel, by decide +kernel⟩, List.mem_of_getElem? (i := 559) (by decide +kernel), List.mem_of_getElem? (i := 674) (by decide +kernel), List.mem_of_getElem? (i := 675) (by decide +kernel)⟩
theorem lw_p15 : lw_okq (⟨"MarbleGardenModel", "isSign", "(II)Z"⟩, 29) := ⟨⟨by decide +kernel, by decide +kernel⟩, List.mem_of_getElem? (i := 559) (by decide +kernel), List.mem_of_getElem? (i := 678) (by decide +kernel), List.mem_of_getElem? (i := 679) (by decide +kernel)⟩
def lw_privs_1 : List (MethodName × Nat) := [(⟨"MarbleGarden", "withoutFault", "(I)I"⟩, 8), (⟨"MarbleGarden", "withFault", "(I)I"⟩, 8), (⟨"MarbleGarden$Law", "stepOf", "(I)I"⟩, 2), (⟨"MarbleGarden", "refusalOfShape", "(I)I"⟩, 8), (⟨"MarbleGarden", "hasGarden", "()Z"⟩, 8), (⟨"MarbleGarden$Years", "letGo", "(LMarbleGarden$Law;I)V"⟩, 4), (⟨"MarbleGarden$Years", "tryAct", "(II)Z"⟩, 4), (⟨"MarbleGarden$Sheet", "cut", "(I)I"⟩, 4), (⟨"MarbleGarden", "tellAsHorse", "(I)I"⟩, 8), (⟨"MarbleGarden", "leaveTrace", "(I)V"⟩, 8), (⟨"MarbleGarden", "tellAsNymph", "(I)I"⟩, 8), (⟨"MarbleGarden", "tellAsBust", "(I)I"⟩, 8), (⟨"MarbleGardenModel", "against", "(IIII)I"⟩, 29), (⟨"MarbleGardenModel", "fails", "(I)I"⟩, 29), (⟨"MarbleGardenModel", "readGarden", "(I)Z"⟩, 29), (⟨"MarbleGardenModel", "isSign", "(II)Z"⟩, 29)]
theorem lw_r1 : ∀ q ∈ lw_privs_1, lw_okq q := List.forall_mem_cons.mpr ⟨lw_p0, List.forall_mem_cons.mpr ⟨lw_p1, List.forall_mem_cons.mpr ⟨lw_p2, List.forall_mem_cons.mpr ⟨lw_p3, List.forall_mem_cons.mpr ⟨lw_p4, List.forall_mem_cons.mpr ⟨lw_p5, List.forall_mem_cons.mpr ⟨lw_p6, List.forall_mem_cons.mpr ⟨lw_p7, List.forall_mem_cons.mpr ⟨lw_p8, List.forall_mem_cons.mpr ⟨lw_p9, List.forall_mem_cons.mpr ⟨lw_p10, List.forall_mem_cons.mpr ⟨lw_p11, List.forall_mem_cons.mpr ⟨lw_p12, List.forall_mem_cons.mpr ⟨lw_p13, List.forall_mem_cons.mpr ⟨lw_p14, List.forall_mem_cons.mpr ⟨lw_p15, fun _ h => absurd h List.not_mem_nil⟩⟩⟩⟩⟩⟩⟩⟩⟩⟩⟩⟩⟩⟩⟩⟩
theorem lw_p16 : lw_okq (⟨"MarbleGardenModel", "readTheLaw", "(I)Z"⟩, 29) := ⟨⟨by decide +kernel, by decide +kernel⟩, List.mem_of_getElem? (i := 559) (by decide +kernel), List.mem_of_getElem? (i := 682) (by decide +kernel), List.mem_of_getElem? (i := 683) (by decide +kernel)⟩
theorem lw_p17 : lw_okq (⟨"MarbleGardenModel", "digit", "(III)I"⟩, 29) := ⟨⟨by decide +kernel, by decide +kernel⟩, List.mem_of_getElem? (i := 559) (by decide +kernel), List.mem_of_getElem? (i := 686) (by decide +kernel), List.mem_of_getElem? (i := 687) (by decide +kernel)⟩
theorem lw_p18 : lw_okq (⟨"MarbleGardenModel", "readBlock", "(I)Z"⟩, 29) := ⟨⟨by decide +kernel, by decide +kernel⟩, List.mem_of_getElem? (i := 559) (by decide +kernel), List.mem_of_getElem? (i := 690) (by decide +kernel), List.mem_of_getElem? (i := 691) (by decide +kernel)⟩
theorem lw_p19 : lw_okq (⟨"MarbleGardenModel", "takeGarden", "()V"⟩, 29) := ⟨⟨by decide +kernel, by decide +kernel⟩, List.mem_of_getElem? (i := 559) (by decide +kernel), List.mem_of_getElem? (i := 694) (by decide +kernel), List.mem_of_getElem? (i := 695) (by decide +kernel)⟩
theorem lw_p20 : lw_okq (⟨"MarbleGardenModel", "takeLaw", "(I)V"⟩, 29) := ⟨⟨by decide +kernel, by decide +kernel⟩, List.mem_of_getElem? (i := 559) (by decide +kernel), List.mem_of_getElem? (i := 698) (by decide +kernel), List.mem_of_getElem? (i := 699) (by decide +kernel)⟩
theorem lw_p21 : lw_okq (⟨"MarbleGardenModel", "isBlock", "(I)Z"⟩, 29) := ⟨⟨by decide +kernel, by decide +kernel⟩, List.mem_of_getElem? (i := 559) (by decide +kernel), List.mem_of_getElem? (i := 709) (by decide +kernel), List.mem_of_getElem? (i := 710) (by decide +kernel)⟩
theorem lw_p22 : lw_okq (⟨"MarbleGardenModel", "goesOf", "(I)I"⟩, 29) := ⟨⟨by decide +kernel, by decide +kernel⟩, List.mem_of_getElem? (i := 559) (by decide +kernel), List.mem_of_getElem? (i := 713) (by decide +kernel), List.mem_of_getElem? (i := 714) (by decide +kernel)⟩
theorem lw_p23 : lw_okq (⟨"MarbleGardenModel", "keep", "()V"⟩, 29) := ⟨⟨by decide +kernel, by decide +kernel⟩, List.mem_of_getElem? (i := 559) (by decide +kernel), List.mem_of_getElem? (i := 739) (by decide +kernel), List.mem_of_getElem? (i := 740) (by decide +kernel)⟩
theorem lw_p24 : lw_okq (⟨"MarbleGardenModel", "oneDay", "()V"⟩, 29) := ⟨⟨by decide +kernel, by decide +kernel⟩, List.mem_of_getElem? (i := 559) (by decide +kernel), List.mem_of_getElem? (i := 743) (by decide +kernel), List.mem_of_getElem? (i := 744) (by decide +kernel)⟩
theorem lw_p25 : lw_okq (⟨"MarbleGardenModel", "stepsOn", "(II)I"⟩, 29) := ⟨⟨by decide +kernel, by decide +kernel⟩, List.mem_of_getElem? (i := 559) (by decide +kernel), List.mem_of_getElem? (i := 750) (by decide +kernel), List.mem_of_getElem? (i := 751) (by decide +kernel)⟩
theorem lw_p26 : lw_okq (⟨"MarbleGardenModel", "refusesPair", "(II)I"⟩, 29) := ⟨⟨by decide +kernel, by decide +kernel⟩, List.mem_of_getElem? (i := 559) (by decide +kernel), List.mem_of_getElem? (i := 770) (by decide +kernel), List.mem_of_getElem? (i := 771) (by decide +kernel)⟩
theorem lw_p27 : lw_okq (⟨"MarbleGardenModel", "goYears", "(II)I"⟩, 29) := ⟨⟨by decide +kernel, by decide +kernel⟩, List.mem_of_getElem? (i := 559) (by decide +kernel), List.mem_of_getElem? (i := 774) (by decide +kernel), List.mem_of_getElem? (i := 775) (by decide +kernel)⟩
theorem lw_p28 : lw_okq (⟨"MarbleGardenModel", "does", "(II)Z"⟩, 29) := ⟨⟨by decide +kernel, by decide +kernel⟩, List.mem_of_getElem? (i := 559) (by decide +kernel), List.mem_of_getElem? (i := 778) (by decide +kernel), List.mem_of_getElem? (i := 779) (by decide +kernel)⟩
theorem lw_p29 : lw_okq (⟨"MarbleGardenModel", "areTwins", "()Z"⟩, 29) := ⟨⟨by decide +kernel, by decide +kernel⟩, List.mem_of_getElem? (i := 559) (by decide +kernel), List.mem_of_getElem? (i := 782) (by decide +kernel), List.mem_of_getElem? (i := 783) (by decide +kernel)⟩
theorem lw_p30 : lw_okq (⟨"MarbleGardenModel", "tellYears", "(I)I"⟩, 29) := ⟨⟨by decide +kernel, by decide +kernel⟩, List.mem_of_getElem? (i := 559) (by decide +kernel), List.mem_of_getElem? (i := 786) (by decide +kernel), List.mem_of_getElem? (i := 787) (by decide +kernel)⟩
theorem lw_p31 : lw_okq (⟨"MarbleGardenModel", "comesFrom", "(III)I"⟩, 29) := ⟨⟨by decide +kernel, by decide +kernel⟩, List.mem_of_getElem? (i := 559) (by decide +kernel), List.mem_of_getElem? (i := 794) (by decide +kernel), List.mem_of_getElem? (i := 795) (by decide +kernel)⟩
def lw_privs_2 : List (MethodName × Nat) := [(⟨"MarbleGardenModel", "readTheLaw", "(I)Z"⟩, 29), (⟨"MarbleGardenModel", "digit", "(III)I"⟩, 29), (⟨"MarbleGardenModel", "readBlock", "(I)Z"⟩, 29), (⟨"MarbleGardenModel", "takeGarden", "()V"⟩, 29), (⟨"MarbleGardenModel", "takeLaw", "(I)V"⟩, 29), (⟨"MarbleGardenModel", "isBlock", "(I)Z"⟩, 29), (⟨"MarbleGardenModel", "goesOf", "(I)I"⟩, 29), (⟨"MarbleGardenModel", "keep", "()V"⟩, 29), (⟨"MarbleGardenModel", "oneDay", "()V"⟩, 29), (⟨"MarbleGardenModel", "stepsOn", "(II)I"⟩, 29), (⟨"MarbleGardenModel", "refusesPair", "(II)I"⟩, 29), (⟨"MarbleGardenModel", "goYears", "(II)I"⟩, 29), (⟨"MarbleGardenModel", "does", "(II)Z"⟩, 29), (⟨"MarbleGardenModel", "areTwins", "()Z"⟩, 29), (⟨"MarbleGardenModel", "tellYears", "(I)I"⟩, 29), (⟨"MarbleGardenModel", "comesFrom", "(III)I"⟩, 29)]
theorem lw_r2 : ∀ q ∈ lw_privs_2, lw_okq q := List.forall_mem_cons.mpr ⟨lw_p16, List.forall_mem_cons.mpr ⟨lw_p17, List.forall_mem_cons.mpr ⟨lw_p18, List.forall_mem_cons.mpr ⟨lw_p19, List.forall_mem_cons.mpr ⟨lw_p20, List.forall_mem_cons.mpr ⟨lw_p21, List.forall_mem_cons.mpr ⟨lw_p22, List.forall_mem_cons.mpr ⟨lw_p23, List.forall_mem_cons.mpr ⟨lw_p24, List.forall_mem_cons.mpr ⟨lw_p25, List.forall_mem_cons.mpr ⟨lw_p26, List.forall_mem_cons.mpr ⟨lw_p27, List.forall_mem_cons.mpr ⟨lw_p28, List.forall_mem_cons.mpr ⟨lw_p29, List.forall_mem_cons.mpr ⟨lw_p30, List.forall_mem_cons.mpr ⟨lw_p31, fun _ h => absurd h List.not_mem_nil⟩⟩⟩⟩⟩⟩⟩⟩⟩⟩⟩⟩⟩⟩⟩⟩
theorem lw_p32 : lw_okq (⟨"MarbleGardenModel", "findMust", "(II)V"⟩, 29) := ⟨⟨by decide +kernel, by decide +kernel⟩, List.mem_of_getElem? (i := 559) (by decide +kernel), List.mem_of_getElem? (i := 819) (by decide +kernel), List.mem_of_getElem? (i := 820) (by decide +kernel)⟩
theorem lw_p33 : lw_okq (⟨"MarbleGardenModel", "areSo", "()Z"⟩, 29) := ⟨⟨by decide +kernel, by decide +kernel⟩, List.mem_of_getElem? (i := 559) (by decide +kernel), List.mem_of_getElem? (i := 835) (by decide +kernel), List.mem_of_getElem? (i := 836) (by decide +kernel)⟩
theorem lw_p34 : lw_okq (⟨"MarbleGardenModel", "findFar", "(I)V"⟩, 29) := ⟨⟨by decide +kernel, by decide +kernel⟩, List.mem_of_getElem? (i := 559) (by decide +kernel), List.mem_of_getElem? (i := 848) (by decide +kernel), List.mem_of_getElem? (i := 849) (by decide +kernel)⟩
theorem lw_p35 : lw_okq (⟨"MarbleGardenModel", "square", "()V"⟩, 29) := ⟨⟨by decide +kernel, by decide +kernel⟩, List.mem_of_getElem? (i := 559) (by decide +kernel), List.mem_of_getElem? (i := 852) (by decide +kernel), List.mem_of_getElem? (i := 853) (by decide +kernel)⟩
theorem lw_p36 : lw_okq (⟨"MarbleGardenModel", "lost", "(I)J"⟩, 29) := ⟨⟨by decide +kernel, by decide +kernel⟩, List.mem_of_getElem? (i := 559) (by decide +kernel), List.mem_of_getElem? (i := 880) (by decide +kernel), List.mem_of_getElem? (i := 881) (by decide +kernel)⟩
theorem lw_p37 : lw_okq (⟨"MarbleGardenModel", "begins", "(I)V"⟩, 29) := ⟨⟨by decide +kernel, by decide +kernel⟩, List.mem_of_getElem? (i := 559) (by decide +kernel), List.mem_of_getElem? (i := 892) (by decide +kernel), List.mem_of_getElem? (i := 893) (by decide +kernel)⟩
def lw_privs_3 : List (MethodName × Nat) := [(⟨"MarbleGardenModel", "findMust", "(II)V"⟩, 29), (⟨"MarbleGardenModel", "areSo", "()Z"⟩, 29), (⟨"MarbleGardenModel", "findFar", "(I)V"⟩, 29), (⟨"MarbleGardenModel", "square", "()V"⟩, 29), (⟨"MarbleGardenModel", "lost", "(I)J"⟩, 29), (⟨"MarbleGardenModel", "begins", "(I)V"⟩, 29)]
theorem lw_r3 : ∀ q ∈ lw_privs_3, lw_okq q := List.forall_mem_cons.mpr ⟨lw_p32, List.forall_mem_cons.mpr ⟨lw_p33, List.forall_mem_cons.mpr ⟨lw_p34, List.forall_mem_cons.mpr ⟨lw_p35, List.forall_mem_cons.mpr ⟨lw_p36, List.forall_mem_cons.mpr ⟨lw_p37, fun _ h => absurd h List.not_mem_nil⟩⟩⟩⟩⟩⟩
def lw_privs : List (MethodName × Nat) := lw_privs_1 ++ (lw_privs_2 ++ (lw_privs_3))
def lw_tbl : List Cond := k2_sels lw_privs ++ tables_1
theorem lw_privs_ok : ∀ q ∈ lw_privs, lw_okq q := by
  show ∀ q ∈ lw_privs_1 ++ (lw_privs_2 ++ (lw_privs_3)), lw_okq q
  exact List.forall_mem_append.mpr ⟨lw_r1, List.forall_mem_append.mpr ⟨lw_r2, lw_r3⟩⟩
end
section
def RX0 : String := "MarbleGarden$Blocks"
def TX0 : u_T := fun k => match k with
  | 0 => ("MarbleGarden$Blocks", "count", "I", false)
  | 1 => ("MarbleGarden$Blocks", "day", "I", false)
  | 2 => ("MarbleGarden$Blocks", "lookedAt", "I", false)
  | 3 => ("MarbleGarden$Blocks", "kindOf", "[I", true)
  | 4 => ("MarbleGarden$Blocks", "shapeOf", "[I", true)
  | _ => ("MarbleGarden$Blocks", "paceOf", "[I", true)
def tyX0 : Nat → FieldType := fun k => match k with
  | 0 => .int
  | 1 => .int
  | 2 => .int
  | 3 => .array .int
  | 4 => .array .int
  | _ => .array .int
abbrev wsX00 : List Cond := u_ws RX0 TX0 6
theorem nmX0 : ∀ a, a < 6 → ∀ b, b < 6 → a ≠ b → (TX0 a).2.1 ≠ (TX0 b).2.1 := by decide +kernel
theorem tyX0_ok : ∀ k, k < 6 → parseFieldDescriptor (TX0 k).2.2.1 = some (tyX0 k) := by decide +kernel
abbrev cX0_init : ByteArray := prog_2_method_1_code
def yX0_init : MethodName := ⟨RX0, "<init>", "()V"⟩
abbrev cX0_has : ByteArray := prog_2_method_2_code
def yX0_has : MethodName := ⟨RX0, "has", "(I)Z"⟩
abbrev cX0_begin : ByteArray := prog_2_method_3_code
def yX0_begin : MethodName := ⟨RX0, "begin", "(LMarbleGarden$Sheet;II)V"⟩
abbrev cX0_copyFrom : ByteArray := prog_2_method_4_code
def yX0_copyFrom : MethodName := ⟨RX0, "copyFrom", "(LMarbleGarden$Blocks;)V"⟩
abbrev cX0_stepsADay : ByteArray := prog_2_method_5_code
def yX0_stepsADay : MethodName := ⟨RX0, "stepsADay", "(I)I"⟩
abbrev cX0_goOn : ByteArray := prog_2_method_6_code
def yX0_goOn : MethodName := ⟨RX0, "goOn", "(LMarbleGarden$Law;)V"⟩
abbrev cX0_isLookedAt : ByteArray := prog_2_method_7_code
def yX0_isLookedAt : MethodName := ⟨RX0, "isLookedAt", "(I)Z"⟩
abbrev cX0_lookAt : ByteArray := prog_2_method_8_code
def yX0_lookAt : MethodName := ⟨RX0, "lookAt", "(I)Z"⟩
abbrev cX0_lookAwayFrom : ByteArray := prog_2_method_9_code
def yX0_lookAwayFrom : MethodName := ⟨RX0, "lookAwayFrom", "(I)Z"⟩
abbrev cX0_strikeAt : ByteArray := prog_2_method_10_code
def yX0_strikeAt : MethodName := ⟨RX0, "strikeAt", "(II)V"⟩
abbrev cX0_twoAreAlike : ByteArray := prog_2_method_11_code
def yX0_twoAreAlike : MethodName := ⟨RX0, "twoAreAlike", "()Z"⟩
abbrev cX0_cellsSet : ByteArray := prog_2_method_12_code
def yX0_cellsSet : MethodName := ⟨RX0, "cellsSet", "()I"⟩
def RX1 : String := "MarbleGarden$Law"
def TX1 : u_T := fun k => match k with
  | 0 => ("MarbleGarden$Law", "number", "I", false)
  | _ => ("MarbleGarden$Law", "reached", "[I", true)
def tyX1 : Nat → FieldType := fun k => match k with
  | 0 => .int
  | _ => .array .int
abbrev wsX10 : List Cond := u_ws RX1 TX1 2
theorem nmX1 : ∀ a, a < 2 → ∀ b, b < 2 → a ≠ b → (TX1 a).2.1 ≠ (TX1 b).2.1 := by decide +kernel
theorem tyX1_ok : ∀ k, k < 2 → parseFieldDescriptor (TX1 k).2.2.1 = some (tyX1 k) := by decide +kernel
abbrev cX1_init : ByteArray := prog_3_method_1_code
def yX1_init : MethodName := ⟨RX1, "<init>", "()V"⟩
abbrev cX1_fix : ByteArray := prog_3_method_2_code
def yX1_fix : MethodName := ⟨RX1, "fix", "(I)V"⟩
abbrev cX1_stepOf : ByteArray := prog_3_method_3_code
def yX1_stepOf : MethodName := ⟨RX1, "stepOf", "(I)I"⟩
abbrev cX1_bitOf : ByteArray := prog_3_method_4_code
def yX1_bitOf : MethodName := ⟨RX1, "bitOf", "(II)I"⟩
abbrev cX1_after : ByteArray := prog_3_method_5_code
def yX1_after : MethodName := ⟨RX1, "after", "(II)I"⟩
abbrev cX1_behind : ByteArray := prog_3_method_6_code
def yX1_behind : MethodName := ⟨RX1, "behind", "(III)I"⟩
abbrev cX1_daysTo : ByteArray := prog_3_method_7_code
def yX1_daysTo : MethodName := ⟨RX1, "daysTo", "(III)I"⟩
abbrev cX1_stepsBack : ByteArray := prog_3_method_8_code
def yX1_stepsBack : MethodName := ⟨RX1, "stepsBack", "(I)I"⟩
def RX2 : String := "MarbleGarden$Readings"
def TX2 : u_T := fun k => match k with
  | 0 => ("MarbleGarden$Readings", "count", "I", false)
  | 1 => ("MarbleGarden$Readings", "block", "[I", true)
  | 2 => ("MarbleGarden$Readings", "ahead", "[I", true)
  | _ => ("MarbleGarden$Readings", "seen", "[I", true)
def tyX2 : Nat → FieldType := fun k => match k with
  | 0 => .int
  | 1 => .array .int
  | 2 => .array .int
  | _ => .array .int
abbrev wsX20 : List Cond := u_ws RX2 TX2 4
theorem nmX2 : ∀ a, a < 4 → ∀ b, b < 4 → a ≠ b → (TX2 a).2.1 ≠ (TX2 b).2.1 := by decide +kernel
theorem tyX2_ok : ∀ k, k < 4 → parseFieldDescriptor (TX2 k).2.2.1 = some (tyX2 k) := by decide +kernel
abbrev cX2_init : ByteArray := prog_4_method_1_code
def yX2_init : MethodName := ⟨RX2, "<init>", "()V"⟩
abbrev cX2_forgetAll : ByteArray := prog_4_method_2_code
def yX2_forgetAll : MethodName := ⟨RX2, "forgetAll", "()V"⟩
abbrev cX2_add : ByteArray := prog_4_method_3_code
def yX2_add : MethodName := ⟨RX2, "add", "(III)I"⟩
abbrev cX2_areSo : ByteArray := prog_4_method_4_code
def yX2_areSo : MethodName := ⟨RX2, "areSo", "(LMarbleGarden$Blocks;LMarbleGarden$Law;)Z"⟩
def RX3 : String := "MarbleGarden$Sheet"
def TX3 : u_T := fun k => match k with
  | 0 => ("MarbleGarden$Sheet", "hasRow", "Z", false)
  | 1 => ("MarbleGarden$Sheet", "lane", "I", false)
  | 2 => ("MarbleGarden$Sheet", "length", "I", false)
  | _ => ("MarbleGarden$Sheet", "cells", "[I", true)
def tyX3 : Nat → FieldType := fun k => match k with
  | 0 => .boolean
  | 1 => .int
  | 2 => .int
  | _ => .array .int
abbrev wsX30 : List Cond := u_ws RX3 TX3 4
theorem nmX3 : ∀ a, a < 4 → ∀ b, b < 4 → a ≠ b → (TX3 a).2.1 ≠ (TX3 b).2.1 := by decide +kernel
theorem tyX3_ok : ∀ k, k < 4 → parseFieldDescriptor (TX3 k).2.2.1 = some (tyX3 k) := by decide +kernel
abbrev cX3_init : ByteArray := prog_5_method_1_code
def yX3_init : MethodName := ⟨RX3, "<init>", "()V"⟩
abbrev cX3_renew : ByteArray := prog_5_method_2_code
def yX3_renew : MethodName := ⟨RX3, "renew", "(II)V"⟩
abbrev cX3_empty : ByteArray := prog_5_method_3_code
def yX3_empty : MethodName := ⟨RX3, "empty", "()Z"⟩
abbrev cX3_faultOfTaking : ByteArray := prog_5_method_4_code
def yX3_faultOfTaking : MethodName := ⟨RX3, "faultOfTaking", "(III)I"⟩
abbrev cX3_reaches : ByteArray := prog_5_method_5_code
def yX3_reaches : MethodName := ⟨RX3, "reaches", "(II)Z"⟩
abbrev cX3_at : ByteArray := prog_5_method_6_code
def yX3_at : MethodName := ⟨RX3, "at", "(I)I"⟩
abbrev cX3_write : ByteArray := prog_5_method_7_code
def yX3_write : MethodName := ⟨RX3, "write", "(II)V"⟩
abbrev cX3_cut : ByteArray := prog_5_method_8_code
def yX3_cut : MethodName := ⟨RX3, "cut", "(I)I"⟩
def RX4 : String := "MarbleGarden$Text"
def TX4 : u_T := fun k => match k with
  | _ => ("", "", "", false)
def tyX4 : Nat → FieldType := fun k => match k with
  | _ => .int
abbrev wsX40 : List Cond := u_ws RX4 TX4 0
theorem nmX4 : ∀ a, a < 0 → ∀ b, b < 0 → a ≠ b → (TX4 a).2.1 ≠ (TX4 b).2.1 := by decide +kernel
theorem tyX4_ok : ∀ k, k < 0 → parseFieldDescriptor (TX4 k).2.2.1 = some (tyX4 k) := by decide +kernel
abbrev cX4_firstFault : ByteArray := prog_6_method_2_code
def yX4_firstFault : MethodName := ⟨RX4, "firstFault", "(LMarbleGarden$Sheet;II)I"⟩
abbrev cX4_goesOn : ByteArray := prog_6_method_3_code
def yX4_goesOn : MethodName := ⟨RX4, "goesOn", "(LMarbleGarden$Sheet;II)Z"⟩
abbrev cX4_greatestDigit : ByteArray := prog_6_method_4_code
def yX4_greatestDigit : MethodName := ⟨RX4, "greatestDigit", "(LMarbleGarden$Sheet;II)I"⟩
abbrev cX4_isDigit : ByteArray := prog_6_method_5_code
def yX4_isDigit : MethodName := ⟨RX4, "isDigit", "(III)Z"⟩
abbrev cX4_kindBy : ByteArray := prog_6_method_6_code
def yX4_kindBy : MethodName := ⟨RX4, "kindBy", "(I)I"⟩
abbrev cX4_digitAt : ByteArray := prog_6_method_7_code
def yX4_digitAt : MethodName := ⟨RX4, "digitAt", "(LMarbleGarden$Sheet;I)I"⟩
abbrev cX4_placeOf : ByteArray := prog_6_method_8_code
def yX4_placeOf : MethodName := ⟨RX4, "placeOf", "(II)I"⟩
abbrev cX4_lawOf : ByteArray := prog_6_method_9_code
def yX4_lawOf : MethodName := ⟨RX4, "lawOf", "(LMarbleGarden$Sheet;I)I"⟩
abbrev cX4_blocksIn : ByteArray := prog_6_method_10_code
def yX4_blocksIn : MethodName := ⟨RX4, "blocksIn", "(I)I"⟩
abbrev cX4_kindOf : ByteArray := prog_6_method_11_code
def yX4_kindOf : MethodName := ⟨RX4, "kindOf", "(LMarbleGarden$Sheet;II)I"⟩
abbrev cX4_shapeOf : ByteArray := prog_6_method_12_code
def yX4_shapeOf : MethodName := ⟨RX4, "shapeOf", "(LMarbleGarden$Sheet;II)I"⟩
abbrev cX4_paceOf : ByteArray := prog_6_method_13_code
def yX4_paceOf : MethodName := ⟨RX4, "paceOf", "(LMarbleGarden$Sheet;II)I"⟩
def RX5 : String := "MarbleGarden$Years"
def TX5 : u_T := fun k => match k with
  | 0 => ("MarbleGarden$Years", "then", "LMarbleGarden$Blocks;", true)
  | 1 => ("MarbleGarden$Years", "firstDay", "I", false)
  | 2 => ("MarbleGarden$Years", "firstWrong", "I", false)
  | _ => ("MarbleGarden$Years", "daysAlike", "I", false)
def tyX5 : Nat → FieldType := fun k => match k with
  | 0 => .object "MarbleGarden$Blocks"
  | 1 => .int
  | 2 => .int
  | _ => .int
abbrev wsX50 : List Cond := u_ws RX5 TX5 4
theorem nmX5 : ∀ a, a < 4 → ∀ b, b < 4 → a ≠ b → (TX5 a).2.1 ≠ (TX5 b).2.1 := by decide +kernel
theorem tyX5_ok : ∀ k, k < 4 → parseFieldDescriptor (TX5 k).2.2.1 = some (tyX5 k) := by decide +kernel
abbrev cX5_init : ByteArray := prog_7_method_1_code
def yX5_init : MethodName := ⟨RX5, "<init>", "()V"⟩
abbrev cX5_tells : ByteArray := prog_7_method_2_code
def yX5_tells : MethodName := ⟨RX5, "tells", "(I)Z"⟩
abbrev cX5_refusalOfPairs : ByteArray := prog_7_method_3_code
def yX5_refusalOfPairs : MethodName := ⟨RX5, "refusalOfPairs", "(LMarbleGarden$Blocks;LMarbleGarden$Sheet;II)I"⟩
abbrev cX5_isAct : ByteArray := prog_7_method_4_code
def yX5_isAct : MethodName := ⟨RX5, "isAct", "(I)Z"⟩
abbrev cX5_isStroke : ByteArray := prog_7_method_5_code
def yX5_isStroke : MethodName := ⟨RX5, "isStroke", "(I)Z"⟩
abbrev cX5_live : ByteArray := prog_7_method_6_code
def yX5_live : MethodName := ⟨RX5, "live", "(LMarbleGarden$Blocks;LMarbleGarden$Law;LMarbleGarden$Sheet;II)V"⟩
abbrev cX5_letGo : ByteArray := prog_7_method_7_code
def yX5_letGo : MethodName := ⟨RX5, "letGo", "(LMarbleGarden$Law;I)V"⟩
abbrev cX5_tryAct : ByteArray := prog_7_method_8_code
def yX5_tryAct : MethodName := ⟨RX5, "tryAct", "(II)Z"⟩
abbrev cX5_answer : ByteArray := prog_7_method_9_code
def yX5_answer : MethodName := ⟨RX5, "answer", "(I)I"⟩
def RX6 : String := "MarbleGarden"
def TX6 : u_T := fun k => match k with
  | 0 => ("MarbleGarden", "law", "LMarbleGarden$Law;", true)
  | 1 => ("MarbleGarden", "blocks", "LMarbleGarden$Blocks;", true)
  | 2 => ("MarbleGarden", "supposed", "LMarbleGarden$Blocks;", true)
  | 3 => ("MarbleGarden", "told", "LMarbleGarden$Years;", true)
  | 4 => ("MarbleGarden", "readings", "LMarbleGarden$Readings;", true)
  | 5 => ("MarbleGarden", "sheets", "[LMarbleGarden$Sheet;", true)
  | 6 => ("MarbleGarden", "traced", "I", false)
  | _ => ("MarbleGarden", "latestFault", "I", false)
def tyX6 : Nat → FieldType := fun k => match k with
  | 0 => .object "MarbleGarden$Law"
  | 1 => .object "MarbleGarden$Blocks"
  | 2 => .object "MarbleGarden$Blocks"
  | 3 => .object "MarbleGarden$Years"
  | 4 => .object "MarbleGarden$Readings"
  | 5 => .array (.object "MarbleGarden$Sheet")
  | 6 => .int
  | _ => .int
abbrev wsX60 : List Cond := u_ws RX6 TX6 8
theorem nmX6 : ∀ a, a < 8 → ∀ b, b < 8 → a ≠ b → (TX6 a).2.1 ≠ (TX6 b).2.1 := by decide +kernel
theorem tyX6_ok : ∀ k, k < 8 → parseFieldDescriptor (TX6 k).2.2.1 = some (tyX6 k) := by decide +kernel
abbrev cX6_init : ByteArray := prog_1_method_1_code
def yX6_init : MethodName := ⟨RX6, "<init>", "()V"⟩
abbrev cX6_garden : ByteArray := prog_1_method_2_code
def yX6_garden : MethodName := ⟨RX6, "garden", "(IIII)I"⟩
abbrev cX6_ofBlock : ByteArray := prog_1_method_3_code
def yX6_ofBlock : MethodName := ⟨RX6, "ofBlock", "(II)I"⟩
abbrev cX6_becomes : ByteArray := prog_1_method_4_code
def yX6_becomes : MethodName := ⟨RX6, "becomes", "(I)I"⟩
abbrev cX6_enact : ByteArray := prog_1_method_5_code
def yX6_enact : MethodName := ⟨RX6, "enact", "(I)I"⟩
abbrev cX6_hurry : ByteArray := prog_1_method_6_code
def yX6_hurry : MethodName := ⟨RX6, "hurry", "(II)I"⟩
abbrev cX6_days : ByteArray := prog_1_method_7_code
def yX6_days : MethodName := ⟨RX6, "days", "(I)I"⟩
abbrev cX6_look : ByteArray := prog_1_method_8_code
def yX6_look : MethodName := ⟨RX6, "look", "(I)I"⟩
abbrev cX6_away : ByteArray := prog_1_method_9_code
def yX6_away : MethodName := ⟨RX6, "away", "(I)I"⟩
abbrev cX6_stroke : ByteArray := prog_1_method_10_code
def yX6_stroke : MethodName := ⟨RX6, "stroke", "(II)I"⟩
abbrev cX6_years : ByteArray := prog_1_method_11_code
def yX6_years : MethodName := ⟨RX6, "years", "(IIIII)I"⟩
abbrev cX6_comes : ByteArray := prog_1_method_12_code
def yX6_comes : MethodName := ⟨RX6, "comes", "(II)I"⟩
abbrev cX6_strokes : ByteArray := prog_1_method_13_code
def yX6_strokes : MethodName := ⟨RX6, "strokes", "(II)I"⟩
abbrev cX6_round : ByteArray := prog_1_method_14_code
def yX6_round : MethodName := ⟨RX6, "round", "(II)I"⟩
abbrev cX6_eden : ByteArray := prog_1_method_15_code
def yX6_eden : MethodName := ⟨RX6, "eden", "(I)J"⟩
abbrev cX6_alike : ByteArray := prog_1_method_16_code
def yX6_alike : MethodName := ⟨RX6, "alike", "(II)I"⟩
abbrev cX6_laws : ByteArray := prog_1_method_17_code
def yX6_laws : MethodName := ⟨RX6, "laws", "(IIIII)I"⟩
abbrev cX6_lawsBy : ByteArray := prog_1_method_18_code
def yX6_lawsBy : MethodName := ⟨RX6, "lawsBy", "(LMarbleGarden$Sheet;III)I"⟩
abbrev cX6_reading : ByteArray := prog_1_method_19_code
def yX6_reading : MethodName := ⟨RX6, "reading", "(III)I"⟩
abbrev cX6_back : ByteArray := prog_1_method_20_code
def yX6_back : MethodName := ⟨RX6, "back", "(I)I"⟩
abbrev cX6_paces : ByteArray := prog_1_method_21_code
def yX6_paces : MethodName := ⟨RX6, "paces", "(I)I"⟩
abbrev cX6_kinds : ByteArray := prog_1_method_22_code
def yX6_kinds : MethodName := ⟨RX6, "kinds", "(I)I"⟩
abbrev cX6_starts : ByteArray := prog_1_method_23_code
def yX6_starts : MethodName := ⟨RX6, "starts", "(I)J"⟩
abbrev cX6_odds : ByteArray := prog_1_method_24_code
def yX6_odds : MethodName := ⟨RX6, "odds", "(IIII)J"⟩
abbrev cX6_sheet : ByteArray := prog_1_method_25_code
def yX6_sheet : MethodName := ⟨RX6, "sheet", "(III)I"⟩
abbrev cX6_lose : ByteArray := prog_1_method_26_code
def yX6_lose : MethodName := ⟨RX6, "lose", "(I)I"⟩
abbrev cX6_put : ByteArray := prog_1_method_27_code
def yX6_put : MethodName := ⟨RX6, "put", "(III)I"⟩
abbrev cX6_cell : ByteArray := prog_1_method_28_code
def yX6_cell : MethodName := ⟨RX6, "cell", "(III)J"⟩
abbrev cX6_copy : ByteArray := prog_1_method_29_code
def yX6_copy : MethodName := ⟨RX6, "copy", "(IIIII)I"⟩
abbrev cX6_tell : ByteArray := prog_1_method_30_code
def yX6_tell : MethodName := ⟨RX6, "tell", "(I)I"⟩
abbrev cX6_tellAsBust : ByteArray := prog_1_method_31_code
def yX6_tellAsBust : MethodName := ⟨RX6, "tellAsBust", "(I)I"⟩
abbrev cX6_tellAsNymph : ByteArray := prog_1_method_32_code
def yX6_tellAsNymph : MethodName := ⟨RX6, "tellAsNymph", "(I)I"⟩
abbrev cX6_tellAsHorse : ByteArray := prog_1_method_33_code
def yX6_tellAsHorse : MethodName := ⟨RX6, "tellAsHorse", "(I)I"⟩
abbrev cX6_sign : ByteArray := prog_1_method_34_code
def yX6_sign : MethodName := ⟨RX6, "sign", "(I)I"⟩
abbrev cX6_as : ByteArray := prog_1_method_35_code
def yX6_as : MethodName := ⟨RX6, "as", "(II)I"⟩
abbrev cX6_trace : ByteArray := prog_1_method_36_code
def yX6_trace : MethodName := ⟨RX6, "trace", "()I"⟩
abbrev cX6_fault : ByteArray := prog_1_method_37_code
def yX6_fault : MethodName := ⟨RX6, "fault", "()I"⟩
abbrev cX6_many : ByteArray := prog_1_method_38_code
def yX6_many : MethodName := ⟨RX6, "many", "(I)I"⟩
abbrev cX6_hasGarden : ByteArray := prog_1_method_39_code
def yX6_hasGarden : MethodName := ⟨RX6, "hasGarden", "()Z"⟩
abbrev cX6_refusalOfShape : ByteArray := prog_1_method_40_code
def yX6_refusalOfShape : MethodName := ⟨RX6, "refusalOfShape", "(I)I"⟩
abbrev cX6_isShape : ByteArray := prog_1_method_41_code
def yX6_isShape : MethodName := ⟨RX6, "isShape", "(I)Z"⟩
abbrev cX6_isSheet : ByteArray := prog_1_method_42_code
def yX6_isSheet : MethodName := ⟨RX6, "isSheet", "(I)Z"⟩
abbrev cX6_isLane : ByteArray := prog_1_method_43_code
def yX6_isLane : MethodName := ⟨RX6, "isLane", "(I)Z"⟩
abbrev cX6_canTake : ByteArray := prog_1_method_44_code
def yX6_canTake : MethodName := ⟨RX6, "canTake", "(I)Z"⟩
abbrev cX6_withoutFault : ByteArray := prog_1_method_45_code
def yX6_withoutFault : MethodName := ⟨RX6, "withoutFault", "(I)I"⟩
abbrev cX6_withFault : ByteArray := prog_1_method_46_code
def yX6_withFault : MethodName := ⟨RX6, "withFault", "(I)I"⟩
abbrev cX6_leaveTrace : ByteArray := prog_1_method_47_code
def yX6_leaveTrace : MethodName := ⟨RX6, "leaveTrace", "(I)V"⟩
def RX7 : String := "MarbleGardenModel"
def TX7 : u_T := fun k => match k with
  | 0 => ("MarbleGardenModel", "fault", "I", false)
  | 1 => ("MarbleGardenModel", "trace", "I", false)
  | 2 => ("MarbleGardenModel", "sorts", "[I", true)
  | 3 => ("MarbleGardenModel", "sheetLong", "[I", true)
  | 4 => ("MarbleGardenModel", "cells", "[I", true)
  | 5 => ("MarbleGardenModel", "law", "I", false)
  | 6 => ("MarbleGardenModel", "blocks", "I", false)
  | 7 => ("MarbleGardenModel", "day", "I", false)
  | 8 => ("MarbleGardenModel", "watched", "I", false)
  | 9 => ("MarbleGardenModel", "next", "[I", true)
  | 10 => ("MarbleGardenModel", "kind", "[I", true)
  | 11 => ("MarbleGardenModel", "shapeOf", "[I", true)
  | 12 => ("MarbleGardenModel", "pace", "[I", true)
  | 13 => ("MarbleGardenModel", "at", "I", false)
  | 14 => ("MarbleGardenModel", "readLaw", "I", false)
  | 15 => ("MarbleGardenModel", "readBlocks", "I", false)
  | 16 => ("MarbleGardenModel", "read", "[I", true)
  | 17 => ("MarbleGardenModel", "keptShape", "[I", true)
  | 18 => ("MarbleGardenModel", "yearDays", "I", false)
  | 19 => ("MarbleGardenModel", "twinDays", "I", false)
  | 20 => ("MarbleGardenModel", "mustBe", "I", false)
  | 21 => ("MarbleGardenModel", "mustNot", "I", false)
  | 22 => ("MarbleGardenModel", "readings", "I", false)
  | 23 => ("MarbleGardenModel", "readWhich", "[I", true)
  | 24 => ("MarbleGardenModel", "readDays", "[I", true)
  | 25 => ("MarbleGardenModel", "readShape", "[I", true)
  | 26 => ("MarbleGardenModel", "power", "[I", true)
  | 27 => ("MarbleGardenModel", "far", "[I", true)
  | _ => ("MarbleGardenModel", "twice", "[I", true)
def tyX7 : Nat → FieldType := fun k => match k with
  | 0 => .int
  | 1 => .int
  | 2 => .array .int
  | 3 => .array .int
  | 4 => .array .int
  | 5 => .int
  | 6 => .int
  | 7 => .int
  | 8 => .int
  | 9 => .array .int
  | 10 => .array .int
  | 11 => .array .int
  | 12 => .array .int
  | 13 => .int
  | 14 => .int
  | 15 => .int
  | 16 => .array .int
  | 17 => .array .int
  | 18 => .int
  | 19 => .int
  | 20 => .int
  | 21 => .int
  | 22 => .int
  | 23 => .array .int
  | 24 => .array .int
  | 25 => .array .int
  | 26 => .array .int
  | 27 => .array .int
  | _ => .array .int
abbrev wsX70 : List Cond := u_ws RX7 TX7 29
theorem nmX7 : ∀ a, a < 29 → ∀ b, b < 29 → a ≠ b → (TX7 a).2.1 ≠ (TX7 b).2.1 := by decide +kernel
theorem tyX7_ok : ∀ k, k < 29 → parseFieldDescriptor (TX7 k).2.2.1 = some (tyX7 k) := by decide +kernel
abbrev cX7_init : ByteArray := prog_9_method_1_code
def yX7_init : MethodName := ⟨RX7, "<init>", "()V"⟩
abbrev cX7_fails : ByteArray := prog_9_method_3_code
def yX7_fails : MethodName := ⟨RX7, "fails", "(I)I"⟩
abbrev cX7_lost : ByteArray := prog_9_method_4_code
def yX7_lost : MethodName := ⟨RX7, "lost", "(I)J"⟩
abbrev cX7_within : ByteArray := prog_9_method_5_code
def yX7_within : MethodName := ⟨RX7, "within", "(III)Z"⟩
abbrev cX7_isSheet : ByteArray := prog_9_method_6_code
def yX7_isSheet : MethodName := ⟨RX7, "isSheet", "(I)Z"⟩
abbrev cX7_isSort : ByteArray := prog_9_method_7_code
def yX7_isSort : MethodName := ⟨RX7, "isSort", "(I)Z"⟩
abbrev cX7_against : ByteArray := prog_9_method_8_code
def yX7_against : MethodName := ⟨RX7, "against", "(IIII)I"⟩
abbrev cX7_isBlock : ByteArray := prog_9_method_9_code
def yX7_isBlock : MethodName := ⟨RX7, "isBlock", "(I)Z"⟩
abbrev cX7_isShape : ByteArray := prog_9_method_10_code
def yX7_isShape : MethodName := ⟨RX7, "isShape", "(I)Z"⟩
abbrev cX7_isOf : ByteArray := prog_9_method_11_code
def yX7_isOf : MethodName := ⟨RX7, "isOf", "(II)Z"⟩
abbrev cX7_size : ByteArray := prog_9_method_12_code
def yX7_size : MethodName := ⟨RX7, "size", "(I)I"⟩
abbrev cX7_digit : ByteArray := prog_9_method_13_code
def yX7_digit : MethodName := ⟨RX7, "digit", "(III)I"⟩
abbrev cX7_isSign : ByteArray := prog_9_method_14_code
def yX7_isSign : MethodName := ⟨RX7, "isSign", "(II)Z"⟩
abbrev cX7_garden : ByteArray := prog_9_method_15_code
def yX7_garden : MethodName := ⟨RX7, "garden", "(IIII)I"⟩
abbrev cX7_takeGarden : ByteArray := prog_9_method_16_code
def yX7_takeGarden : MethodName := ⟨RX7, "takeGarden", "()V"⟩
abbrev cX7_bitFor : ByteArray := prog_9_method_17_code
def yX7_bitFor : MethodName := ⟨RX7, "bitFor", "(II)I"⟩
abbrev cX7_takeLaw : ByteArray := prog_9_method_18_code
def yX7_takeLaw : MethodName := ⟨RX7, "takeLaw", "(I)V"⟩
abbrev cX7_readGarden : ByteArray := prog_9_method_19_code
def yX7_readGarden : MethodName := ⟨RX7, "readGarden", "(I)Z"⟩
abbrev cX7_readTheLaw : ByteArray := prog_9_method_20_code
def yX7_readTheLaw : MethodName := ⟨RX7, "readTheLaw", "(I)Z"⟩
abbrev cX7_readBlock : ByteArray := prog_9_method_21_code
def yX7_readBlock : MethodName := ⟨RX7, "readBlock", "(I)Z"⟩
abbrev cX7_goesOf : ByteArray := prog_9_method_22_code
def yX7_goesOf : MethodName := ⟨RX7, "goesOf", "(I)I"⟩
abbrev cX7_stepsOn : ByteArray := prog_9_method_23_code
def yX7_stepsOn : MethodName := ⟨RX7, "stepsOn", "(II)I"⟩
abbrev cX7_ofBlock : ByteArray := prog_9_method_24_code
def yX7_ofBlock : MethodName := ⟨RX7, "ofBlock", "(II)I"⟩
abbrev cX7_becomes : ByteArray := prog_9_method_25_code
def yX7_becomes : MethodName := ⟨RX7, "becomes", "(I)I"⟩
abbrev cX7_enact : ByteArray := prog_9_method_26_code
def yX7_enact : MethodName := ⟨RX7, "enact", "(I)I"⟩
abbrev cX7_hurry : ByteArray := prog_9_method_27_code
def yX7_hurry : MethodName := ⟨RX7, "hurry", "(II)I"⟩
abbrev cX7_keep : ByteArray := prog_9_method_28_code
def yX7_keep : MethodName := ⟨RX7, "keep", "()V"⟩
abbrev cX7_oneDay : ByteArray := prog_9_method_29_code
def yX7_oneDay : MethodName := ⟨RX7, "oneDay", "()V"⟩
abbrev cX7_days : ByteArray := prog_9_method_30_code
def yX7_days : MethodName := ⟨RX7, "days", "(I)I"⟩
abbrev cX7_look : ByteArray := prog_9_method_31_code
def yX7_look : MethodName := ⟨RX7, "look", "(I)I"⟩
abbrev cX7_away : ByteArray := prog_9_method_32_code
def yX7_away : MethodName := ⟨RX7, "away", "(I)I"⟩
abbrev cX7_stroke : ByteArray := prog_9_method_33_code
def yX7_stroke : MethodName := ⟨RX7, "stroke", "(II)I"⟩
abbrev cX7_areTwins : ByteArray := prog_9_method_34_code
def yX7_areTwins : MethodName := ⟨RX7, "areTwins", "()Z"⟩
abbrev cX7_does : ByteArray := prog_9_method_35_code
def yX7_does : MethodName := ⟨RX7, "does", "(II)Z"⟩
abbrev cX7_goYears : ByteArray := prog_9_method_36_code
def yX7_goYears : MethodName := ⟨RX7, "goYears", "(II)I"⟩
abbrev cX7_refusesPair : ByteArray := prog_9_method_37_code
def yX7_refusesPair : MethodName := ⟨RX7, "refusesPair", "(II)I"⟩
abbrev cX7_years : ByteArray := prog_9_method_38_code
def yX7_years : MethodName := ⟨RX7, "years", "(IIIII)I"⟩
abbrev cX7_tellYears : ByteArray := prog_9_method_39_code
def yX7_tellYears : MethodName := ⟨RX7, "tellYears", "(I)I"⟩
abbrev cX7_comesFrom : ByteArray := prog_9_method_40_code
def yX7_comesFrom : MethodName := ⟨RX7, "comesFrom", "(III)I"⟩
abbrev cX7_comes : ByteArray := prog_9_method_41_code
def yX7_comes : MethodName := ⟨RX7, "comes", "(II)I"⟩
abbrev cX7_strokes : ByteArray := prog_9_method_42_code
def yX7_strokes : MethodName := ⟨RX7, "strokes", "(II)I"⟩
abbrev cX7_round : ByteArray := prog_9_method_43_code
def yX7_round : MethodName := ⟨RX7, "round", "(II)I"⟩
abbrev cX7_eden : ByteArray := prog_9_method_44_code
def yX7_eden : MethodName := ⟨RX7, "eden", "(I)J"⟩
abbrev cX7_alike : ByteArray := prog_9_method_45_code
def yX7_alike : MethodName := ⟨RX7, "alike", "(II)I"⟩
abbrev cX7_findMust : ByteArray := prog_9_method_46_code
def yX7_findMust : MethodName := ⟨RX7, "findMust", "(II)V"⟩
abbrev cX7_laws : ByteArray := prog_9_method_47_code
def yX7_laws : MethodName := ⟨RX7, "laws", "(IIIII)I"⟩
abbrev cX7_reading : ByteArray := prog_9_method_48_code
def yX7_reading : MethodName := ⟨RX7, "reading", "(III)I"⟩
abbrev cX7_back : ByteArray := prog_9_method_49_code
def yX7_back : MethodName := ⟨RX7, "back", "(I)I"⟩
abbrev cX7_areSo : ByteArray := prog_9_method_50_code
def yX7_areSo : MethodName := ⟨RX7, "areSo", "()Z"⟩
abbrev cX7_paces : ByteArray := prog_9_method_51_code
def yX7_paces : MethodName := ⟨RX7, "paces", "(I)I"⟩
abbrev cX7_kinds : ByteArray := prog_9_method_52_code
def yX7_kinds : MethodName := ⟨RX7, "kinds", "(I)I"⟩
abbrev cX7_findFar : ByteArray := prog_9_method_53_code
def yX7_findFar : MethodName := ⟨RX7, "findFar", "(I)V"⟩
abbrev cX7_square : ByteArray := prog_9_method_54_code
def yX7_square : MethodName := ⟨RX7, "square", "()V"⟩
abbrev cX7_starts : ByteArray := prog_9_method_55_code
def yX7_starts : MethodName := ⟨RX7, "starts", "(I)J"⟩
abbrev cX7_inLeastTerms : ByteArray := prog_9_method_56_code
def yX7_inLeastTerms : MethodName := ⟨RX7, "inLeastTerms", "(JJI)J"⟩
abbrev cX7_odds : ByteArray := prog_9_method_57_code
def yX7_odds : MethodName := ⟨RX7, "odds", "(IIII)J"⟩
abbrev cX7_sheet : ByteArray := prog_9_method_58_code
def yX7_sheet : MethodName := ⟨RX7, "sheet", "(III)I"⟩
abbrev cX7_lose : ByteArray := prog_9_method_59_code
def yX7_lose : MethodName := ⟨RX7, "lose", "(I)I"⟩
abbrev cX7_put : ByteArray := prog_9_method_60_code
def yX7_put : MethodName := ⟨RX7, "put", "(III)I"⟩
abbrev cX7_cell : ByteArray := prog_9_method_61_code
def yX7_cell : MethodName := ⟨RX7, "cell", "(III)J"⟩
abbrev cX7_copy : ByteArray := prog_9_method_62_code
def yX7_copy : MethodName := ⟨RX7, "copy", "(IIIII)I"⟩
abbrev cX7_begins : ByteArray := prog_9_method_63_code
def yX7_begins : MethodName := ⟨RX7, "begins", "(I)V"⟩
abbrev cX7_tell : ByteArray := prog_9_method_64_code
def yX7_tell : MethodName := ⟨RX7, "tell", "(I)I"⟩
abbrev cX7_sign : ByteArray := prog_9_method_65_code
def yX7_sign : MethodName := ⟨RX7, "sign", "(I)I"⟩
abbrev cX7_as : ByteArray := prog_9_method_66_code
def yX7_as : MethodName := ⟨RX7, "as", "(II)I"⟩
abbrev cX7_trace : ByteArray := prog_9_method_67_code
def yX7_trace : MethodName := ⟨RX7, "trace", "()I"⟩
abbrev cX7_fault : ByteArray := prog_9_method_68_code
def yX7_fault : MethodName := ⟨RX7, "fault", "()I"⟩
abbrev cX7_many : ByteArray := prog_9_method_69_code
def yX7_many : MethodName := ⟨RX7, "many", "(I)I"⟩
def RJ6 : String := "java/lang/Integer"
def TJ6 : u_T := fun k => match k with
  | _ => ("", "", "", false)
def tyJ6 : Nat → FieldType := fun k => match k with
  | _ => .int
abbrev wsJ60 : List Cond := u_ws RJ6 TJ6 0
theorem nmJ6 : ∀ a, a < 0 → ∀ b, b < 0 → a ≠ b → (TJ6 a).2.1 ≠ (TJ6 b).2.1 := by decide +kernel
theorem tyJ6_ok : ∀ k, k < 0 → parseFieldDescriptor (TJ6 k).2.2.1 = some (tyJ6 k) := by decide +kernel
abbrev cJ6_bitCount_0f7a4 : ByteArray := prog_10_method_49_code
def yJ6_bitCount_0f7a4 : MethodName := ⟨RJ6, "bitCount", "(I)I"⟩
def RJ13 : String := "java/lang/Long"
def TJ13 : u_T := fun k => match k with
  | _ => ("", "", "", false)
def tyJ13 : Nat → FieldType := fun k => match k with
  | _ => .int
abbrev wsJ130 : List Cond := u_ws RJ13 TJ13 0
theorem nmJ13 : ∀ a, a < 0 → ∀ b, b < 0 → a ≠ b → (TJ13 a).2.1 ≠ (TJ13 b).2.1 := by decide +kernel
theorem tyJ13_ok : ∀ k, k < 0 → parseFieldDescriptor (TJ13 k).2.2.1 = some (tyJ13 k) := by decide +kernel
abbrev cJ13_bitCount_95d88 : ByteArray := prog_11_method_50_code
def yJ13_bitCount_95d88 : MethodName := ⟨RJ13, "bitCount", "(J)I"⟩
def RJ9 : String := "java/lang/Math"
def TJ9 : u_T := fun k => match k with
  | _ => ("", "", "", false)
def tyJ9 : Nat → FieldType := fun k => match k with
  | _ => .int
abbrev wsJ90 : List Cond := u_ws RJ9 TJ9 0
theorem nmJ9 : ∀ a, a < 0 → ∀ b, b < 0 → a ≠ b → (TJ9 a).2.1 ≠ (TJ9 b).2.1 := by decide +kernel
theorem tyJ9_ok : ∀ k, k < 0 → parseFieldDescriptor (TJ9 k).2.2.1 = some (tyJ9 k) := by decide +kernel
abbrev cJ9_min_7cf53 : ByteArray := prog_12_method_69_code
def yJ9_min_7cf53 : MethodName := ⟨RJ9, "min", "(II)I"⟩
def RJ10 : String := "java/lang/System"
def TJ10 : u_T := fun k => match k with
  | _ => ("", "", "", false)
def tyJ10 : Nat → FieldType := fun k => match k with
  | _ => .int
abbrev wsJ100 : List Cond := u_ws RJ10 TJ10 0
theorem nmJ10 : ∀ a, a < 0 → ∀ b, b < 0 → a ≠ b → (TJ10 a).2.1 ≠ (TJ10 b).2.1 := by decide +kernel
theorem tyJ10_ok : ∀ k, k < 0 → parseFieldDescriptor (TJ10 k).2.2.1 = some (tyJ10 k) := by decide +kernel
def RJ7 : String := "java/util/Arrays"
def TJ7 : u_T := fun k => match k with
  | _ => ("", "", "", false)
def tyJ7 : Nat → FieldType := fun k => match k with
  | _ => .int
abbrev wsJ70 : List Cond := u_ws RJ7 TJ7 0
theorem nmJ7 : ∀ a, a < 0 → ∀ b, b < 0 → a ≠ b → (TJ7 a).2.1 ≠ (TJ7 b).2.1 := by decide +kernel
theorem tyJ7_ok : ∀ k, k < 0 → parseFieldDescriptor (TJ7 k).2.2.1 = some (tyJ7 k) := by decide +kernel
abbrev cJ7_fill_53178 : ByteArray := prog_14_method_103_code
def yJ7_fill_53178 : MethodName := ⟨RJ7, "fill", "([II)V"⟩
def RL : String := "MarbleGardenLaw"
abbrev cL_law : ByteArray := code
def yL_law : MethodName := ⟨RL, "law", "([I)Z"⟩
abbrev vwCl : List vw_C := [(RX0, TX0, 6), (RX1, TX1, 2), (RX2, TX2, 4), (RX3, TX3, 4), (RX5, TX5, 4), (RX6, TX6, 8), (RX7, TX7, 29)]
end
section
theorem dX0_init_0 : decode cX0_init 0 = .ok (.aload_n 0, 1) := by decide +kernel
theorem dX0_init_1 : decode cX0_init 1 = .ok (.invokespecial 3, 3) := by decide +kernel
theorem dX0_init_4 : decode cX0_init 4 = .ok (.aload_n 0, 1) := by decide +kernel
theorem dX0_init_5 : decode cX0_init 5 = .ok (.bipush 6, 2) := by decide +kernel
theorem dX0_init_7 : decode cX0_init 7 = .ok (.newarray .int, 2) := by decide +kernel
theorem dX0_init_9 : decode cX0_init 9 = .ok (.putfield 9, 3) := by decide +kernel
theorem dX0_init_12 : decode cX0_init 12 = .ok (.aload_n 0, 1) := by decide +kernel
theorem dX0_init_13 : decode cX0_init 13 = .ok (.bipush 6, 2) := by decide +kernel
theorem dX0_init_15 : decode cX0_init 15 = .ok (.newarray .int, 2) := by decide +kernel
theorem dX0_init_17 : decode cX0_init 17 = .ok (.putfield 15, 3) := by decide +kernel
theorem dX0_init_20 : decode cX0_init 20 = .ok (.aload_n 0, 1) := by decide +kernel
theorem dX0_init_21 : decode cX0_init 21 = .ok (.bipush 6, 2) := by decide +kernel
theorem dX0_init_23 : decode cX0_init 23 = .ok (.newarray .int, 2) := by decide +kernel
theorem dX0_init_25 : decode cX0_init 25 = .ok (.putfield 18, 3) := by decide +kernel
theorem dX0_init_28 : decode cX0_init 28 = .ok (.return_, 1) := by decide +kernel
theorem dX0_has_0 : decode cX0_has 0 = .ok (.iload_n 1, 1) := by decide +kernel
theorem dX0_has_1 : decode cX0_has 1 = .ok (.ifCond .lt 15, 3) := by decide +kernel
theorem dX0_has_4 : decode cX0_has 4 = .ok (.iload_n 1, 1) := by decide +kernel
theorem dX0_has_5 : decode cX0_has 5 = .ok (.aload_n 0, 1) := by decide +kernel
theorem dX0_has_6 : decode cX0_has 6 = .ok (.getfield 21, 3) := by decide +kernel
theorem dX0_has_9 : decode cX0_has 9 = .ok (.if_icmp .ge 7, 3) := by decide +kernel
theorem dX0_has_12 : decode cX0_has 12 = .ok (.iconst 1, 1) := by decide +kernel
theorem dX0_has_13 : decode cX0_has 13 = .ok (.goto 4, 3) := by decide +kernel
theorem dX0_has_16 : decode cX0_has 16 = .ok (.iconst 0, 1) := by decide +kernel
theorem dX0_has_17 : decode cX0_has 17 = .ok (.ireturn, 1) := by decide +kernel
theorem dX0_begin_0 : decode cX0_begin 0 = .ok (.aload_n 0, 1) := by decide +kernel
theorem dX0_begin_1 : decode cX0_begin 1 = .ok (.iload_n 3, 1) := by decide +kernel
theorem dX0_begin_2 : decode cX0_begin 2 = .ok (.invokestatic 25, 3) := by decide +kernel
theorem dX0_begin_5 : decode cX0_begin 5 = .ok (.bipush 6, 2) := by decide +kernel
theorem dX0_begin_7 : decode cX0_begin 7 = .ok (.invokestatic 31, 3) := by decide +kernel
theorem dX0_begin_10 : decode cX0_begin 10 = .ok (.putfield 21, 3) := by decide +kernel
theorem dX0_begin_13 : decode cX0_begin 13 = .ok (.aload_n 0, 1) := by decide +kernel
theorem dX0_begin_14 : decode cX0_begin 14 = .ok (.iconst 0, 1) := by decide +kernel
theorem dX0_begin_15 : decode cX0_begin 15 = .ok (.putfield 37, 3) := by decide +kernel
theorem dX0_begin_18 : decode cX0_begin 18 = .ok (.aload_n 0, 1) := by decide +kernel
theorem dX0_begin_19 : decode cX0_begin 19 = .ok (.iconst 0, 1) := by decide +kernel
theorem dX0_begin_20 : decode cX0_begin 20 = .ok (.putfield 40, 3) := by decide +kernel
theorem dX0_begin_23 : decode cX0_begin 23 = .ok (.iconst 0, 1) := by decide +kernel
theorem dX0_begin_24 : decode cX0_begin 24 = .ok (.istore 4, 2) := by decide +kernel
theorem dX0_begin_26 : decode cX0_begin 26 = .ok (.iload 4, 2) := by decide +kernel
theorem dX0_begin_28 : decode cX0_begin 28 = .ok (.aload_n 0, 1) := by decide +kernel
theorem dX0_begin_29 : decode cX0_begin 29 = .ok (.getfield 21, 3) := by decide +kernel
theorem dX0_begin_32 : decode cX0_begin 32 = .ok (.if_icmp .ge 51, 3) := by decide +kernel
theorem dX0_begin_35 : decode cX0_begin 35 = .ok (.aload_n 0, 1) := by decide +kernel
theorem dX0_begin_36 : decode cX0_begin 36 = .ok (.getfield 9, 3) := by decide +kernel
theorem dX0_begin_39 : decode cX0_begin 39 = .ok (.iload 4, 2) := by decide +kernel
theorem dX0_begin_41 : decode cX0_begin 41 = .ok (.aload_n 1, 1) := by decide +kernel
theorem dX0_begin_42 : decode cX0_begin 42 = .ok (.iload_n 2, 1) := by decide +kernel
theorem dX0_begin_43 : decode cX0_begin 43 = .ok (.iload 4, 2) := by decide +kernel
theorem dX0_begin_45 : decode cX0_begin 45 = .ok (.invokestatic 43, 3) := by decide +kernel
theorem dX0_begin_48 : decode cX0_begin 48 = .ok (.iastore, 1) := by decide +kernel
theorem dX0_begin_49 : decode cX0_begin 49 = .ok (.aload_n 0, 1) := by decide +kernel
theorem dX0_begin_50 : decode cX0_begin 50 = .ok (.getfield 15, 3) := by decide +kernel
theorem dX0_begin_53 : decode cX0_begin 53 = .ok (.iload 4, 2) := by decide +kernel
theorem dX0_begin_55 : decode cX0_begin 55 = .ok (.aload_n 1, 1) := by decide +kernel
theorem dX0_begin_56 : decode cX0_begin 56 = .ok (.iload_n 2, 1) := by decide +kernel
theorem dX0_begin_57 : decode cX0_begin 57 = .ok (.iload 4, 2) := by decide +kernel
theorem dX0_begin_59 : decode cX0_begin 59 = .ok (.invokestatic 46, 3) := by decide +kernel
theorem dX0_begin_62 : decode cX0_begin 62 = .ok (.iastore, 1) := by decide +kernel
theorem dX0_begin_63 : decode cX0_begin 63 = .ok (.aload_n 0, 1) := by decide +kernel
theorem dX0_begin_64 : decode cX0_begin 64 = .ok (.getfield 18, 3) := by decide +kernel
theorem dX0_begin_67 : decode cX0_begin 67 = .ok (.iload 4, 2) := by decide +kernel
theorem dX0_begin_69 : decode cX0_begin 69 = .ok (.aload_n 1, 1) := by decide +kernel
theorem dX0_begin_70 : decode cX0_begin 70 = .ok (.iload_n 2, 1) := by decide +kernel
theorem dX0_begin_71 : decode cX0_begin 71 = .ok (.iload 4, 2) := by decide +kernel
theorem dX0_begin_73 : decode cX0_begin 73 = .ok (.invokestatic 48, 3) := by decide +kernel
theorem dX0_begin_76 : decode cX0_begin 76 = .ok (.iastore, 1) := by decide +kernel
theorem dX0_begin_77 : decode cX0_begin 77 = .ok (.iinc 4 1, 3) := by decide +kernel
theorem dX0_begin_80 : decode cX0_begin 80 = .ok (.goto (-54), 3) := by decide +kernel
theorem dX0_begin_83 : decode cX0_begin 83 = .ok (.return_, 1) := by decide +kernel
theorem dX0_copyFrom_0 : decode cX0_copyFrom 0 = .ok (.aload_n 0, 1) := by decide +kernel
theorem dX0_copyFrom_1 : decode cX0_copyFrom 1 = .ok (.aload_n 1, 1) := by decide +kernel
theorem dX0_copyFrom_2 : decode cX0_copyFrom 2 = .ok (.getfield 21, 3) := by decide +kernel
theorem dX0_copyFrom_5 : decode cX0_copyFrom 5 = .ok (.putfield 21, 3) := by decide +kernel
theorem dX0_copyFrom_8 : decode cX0_copyFrom 8 = .ok (.aload_n 0, 1) := by decide +kernel
theorem dX0_copyFrom_9 : decode cX0_copyFrom 9 = .ok (.aload_n 1, 1) := by decide +kernel
theorem dX0_copyFrom_10 : decode cX0_copyFrom 10 = .ok (.getfield 37, 3) := by decide +kernel
theorem dX0_copyFrom_13 : decode cX0_copyFrom 13 = .ok (.putfield 37, 3) := by decide +kernel
theorem dX0_copyFrom_16 : decode cX0_copyFrom 16 = .ok (.aload_n 0, 1) := by decide +kernel
theorem dX0_copyFrom_17 : decode cX0_copyFrom 17 = .ok (.aload_n 1, 1) := by decide +kernel
theorem dX0_copyFrom_18 : decode cX0_copyFrom 18 = .ok (.getfield 40, 3) := by decide +kernel
theorem dX0_copyFrom_21 : decode cX0_copyFrom 21 = .ok (.putfield 40, 3) := by decide +kernel
theorem dX0_copyFrom_24 : decode cX0_copyFrom 24 = .ok (.aload_n 1, 1) := by decide +kernel
theorem dX0_copyFrom_25 : decode cX0_copyFrom 25 = .ok (.getfield 9, 3) := by decide +kernel
theorem dX0_copyFrom_28 : decode cX0_copyFrom 28 = .ok (.iconst 0, 1) := by decide +kernel
theorem dX0_copyFrom_29 : decode cX0_copyFrom 29 = .ok (.aload_n 0, 1) := by decide +kernel
theorem dX0_copyFrom_30 : decode cX0_copyFrom 30 = .ok (.getfield 9, 3) := by decide +kernel
theorem dX0_copyFrom_33 : decode cX0_copyFrom 33 = .ok (.iconst 0, 1) := by decide +kernel
theorem dX0_copyFrom_34 : decode cX0_copyFrom 34 = .ok (.bipush 6, 2) := by decide +kernel
theorem dX0_copyFrom_36 : decode cX0_copyFrom 36 = .ok (.invokestatic 50, 3) := by decide +kernel
theorem dX0_copyFrom_39 : decode cX0_copyFrom 39 = .ok (.aload_n 1, 1) := by decide +kernel
theorem dX0_copyFrom_40 : decode cX0_copyFrom 40 = .ok (.getfield 15, 3) := by decide +kernel
theorem dX0_copyFrom_43 : decode cX0_copyFrom 43 = .ok (.iconst 0, 1) := by decide +kernel
theorem dX0_copyFrom_44 : decode cX0_copyFrom 44 = .ok (.aload_n 0, 1) := by decide +kernel
theorem dX0_copyFrom_45 : decode cX0_copyFrom 45 = .ok (.getfield 15, 3) := by decide +kernel
theorem dX0_copyFrom_48 : decode cX0_copyFrom 48 = .ok (.iconst 0, 1) := by decide +kernel
theorem dX0_copyFrom_49 : decode cX0_copyFrom 49 = .ok (.bipush 6, 2) := by decide +kernel
theorem dX0_copyFrom_51 : decode cX0_copyFrom 51 = .ok (.invokestatic 50, 3) := by decide +kernel
theorem dX0_copyFrom_54 : decode cX0_copyFrom 54 = .ok (.aload_n 1, 1) := by decide +kernel
theorem dX0_copyFrom_55 : decode cX0_copyFrom 55 = .ok (.getfield 18, 3) := by decide +kernel
theorem dX0_copyFrom_58 : decode cX0_copyFrom 58 = .ok (.iconst 0, 1) := by decide +kernel
theorem dX0_copyFrom_59 : decode cX0_copyFrom 59 = .ok (.aload_n 0, 1) := by decide +kernel
theorem dX0_copyFrom_60 : decode cX0_copyFrom 60 = .ok (.getfield 18, 3) := by decide +kernel
theorem dX0_copyFrom_63 : decode cX0_copyFrom 63 = .ok (.iconst 0, 1) := by decide +kernel
theorem dX0_copyFrom_64 : decode cX0_copyFrom 64 = .ok (.bipush 6, 2) := by decide +kernel
theorem dX0_copyFrom_66 : decode cX0_copyFrom 66 = .ok (.invokestatic 50, 3) := by decide +kernel
theorem dX0_copyFrom_69 : decode cX0_copyFrom 69 = .ok (.return_, 1) := by decide +kernel
theorem dX0_stepsADay_0 : decode cX0_stepsADay 0 = .ok (.aload_n 0, 1) := by decide +kernel
theorem dX0_stepsADay_1 : decode cX0_stepsADay 1 = .ok (.getfield 9, 3) := by decide +kernel
theorem dX0_stepsADay_4 : decode cX0_stepsADay 4 = .ok (.iload_n 1, 1) := by decide +kernel
theorem dX0_stepsADay_5 : decode cX0_stepsADay 5 = .ok (.iaload, 1) := by decide +kernel
theorem dX0_stepsADay_6 : decode cX0_stepsADay 6 = .ok (.lookupswitch 44 #[(1, 35), (2, 26)], 26) := by decide +kernel
theorem dX0_stepsADay_32 : decode cX0_stepsADay 32 = .ok (.iconst 2, 1) := by decide +kernel
theorem dX0_stepsADay_33 : decode cX0_stepsADay 33 = .ok (.aload_n 0, 1) := by decide +kernel
theorem dX0_stepsADay_34 : decode cX0_stepsADay 34 = .ok (.getfield 18, 3) := by decide +kernel
theorem dX0_stepsADay_37 : decode cX0_stepsADay 37 = .ok (.iload_n 1, 1) := by decide +kernel
theorem dX0_stepsADay_38 : decode cX0_stepsADay 38 = .ok (.iaload, 1) := by decide +kernel
theorem dX0_stepsADay_39 : decode cX0_stepsADay 39 = .ok (.imul, 1) := by decide +kernel
theorem dX0_stepsADay_40 : decode cX0_stepsADay 40 = .ok (.ireturn, 1) := by decide +kernel
theorem dX0_stepsADay_41 : decode cX0_stepsADay 41 = .ok (.aload_n 0, 1) := by decide +kernel
theorem dX0_stepsADay_42 : decode cX0_stepsADay 42 = .ok (.getfield 18, 3) := by decide +kernel
theorem dX0_stepsADay_45 : decode cX0_stepsADay 45 = .ok (.iload_n 1, 1) := by decide +kernel
theorem dX0_stepsADay_46 : decode cX0_stepsADay 46 = .ok (.iaload, 1) := by decide +kernel
theorem dX0_stepsADay_47 : decode cX0_stepsADay 47 = .ok (.iconst 1, 1) := by decide +kernel
theorem dX0_stepsADay_48 : decode cX0_stepsADay 48 = .ok (.iadd, 1) := by decide +kernel
theorem dX0_stepsADay_49 : decode cX0_stepsADay 49 = .ok (.ireturn, 1) := by decide +kernel
theorem dX0_stepsADay_50 : decode cX0_stepsADay 50 = .ok (.aload_n 0, 1) := by decide +kernel
theorem dX0_stepsADay_51 : decode cX0_stepsADay 51 = .ok (.getfield 18, 3) := by decide +kernel
theorem dX0_stepsADay_54 : decode cX0_stepsADay 54 = .ok (.iload_n 1, 1) := by decide +kernel
theorem dX0_stepsADay_55 : decode cX0_stepsADay 55 = .ok (.iaload, 1) := by decide +kernel
theorem dX0_stepsADay_56 : decode cX0_stepsADay 56 = .ok (.ireturn, 1) := by decide +kernel
theorem dX0_goOn_0 : decode cX0_goOn 0 = .ok (.iconst 0, 1) := by decide +kernel
theorem dX0_goOn_1 : decode cX0_goOn 1 = .ok (.istore_n 2, 1) := by decide +kernel
theorem dX0_goOn_2 : decode cX0_goOn 2 = .ok (.iload_n 2, 1) := by decide +kernel
theorem dX0_goOn_3 : decode cX0_goOn 3 = .ok (.aload_n 0, 1) := by decide +kernel
theorem dX0_goOn_4 : decode cX0_goOn 4 = .ok (.getfield 21, 3) := by decide +kernel
theorem dX0_goOn_7 : decode cX0_goOn 7 = .ok (.if_icmp .ge 38, 3) := by decide +kernel
theorem dX0_goOn_10 : decode cX0_goOn 10 = .ok (.aload_n 0, 1) := by decide +kernel
theorem dX0_goOn_11 : decode cX0_goOn 11 = .ok (.iload_n 2, 1) := by decide +kernel
theorem dX0_goOn_12 : decode cX0_goOn 12 = .ok (.invokevirtual 56, 3) := by decide +kernel
theorem dX0_goOn_15 : decode cX0_goOn 15 = .ok (.ifCond .ne 24, 3) := by decide +kernel
theorem dX0_goOn_18 : decode cX0_goOn 18 = .ok (.aload_n 0, 1) := by decide +kernel
theorem dX0_goOn_19 : decode cX0_goOn 19 = .ok (.getfield 15, 3) := by decide +kernel
theorem dX0_goOn_22 : decode cX0_goOn 22 = .ok (.iload_n 2, 1) := by decide +kernel
theorem dX0_goOn_23 : decode cX0_goOn 23 = .ok (.aload_n 1, 1) := by decide +kernel
theorem dX0_goOn_24 : decode cX0_goOn 24 = .ok (.aload_n 0, 1) := by decide +kernel
theorem dX0_goOn_25 : decode cX0_goOn 25 = .ok (.getfield 15, 3) := by decide +kernel
theorem dX0_goOn_28 : decode cX0_goOn 28 = .ok (.iload_n 2, 1) := by decide +kernel
theorem dX0_goOn_29 : decode cX0_goOn 29 = .ok (.iaload, 1) := by decide +kernel
theorem dX0_goOn_30 : decode cX0_goOn 30 = .ok (.aload_n 0, 1) := by decide +kernel
theorem dX0_goOn_31 : decode cX0_goOn 31 = .ok (.iload_n 2, 1) := by decide +kernel
theorem dX0_goOn_32 : decode cX0_goOn 32 = .ok (.invokevirtual 60, 3) := by decide +kernel
theorem dX0_goOn_35 : decode cX0_goOn 35 = .ok (.invokevirtual 63, 3) := by decide +kernel
theorem dX0_goOn_38 : decode cX0_goOn 38 = .ok (.iastore, 1) := by decide +kernel
theorem dX0_goOn_39 : decode cX0_goOn 39 = .ok (.iinc 2 1, 3) := by decide +kernel
theorem dX0_goOn_42 : decode cX0_goOn 42 = .ok (.goto (-40), 3) := by decide +kernel
theorem dX0_goOn_45 : decode cX0_goOn 45 = .ok (.aload_n 0, 1) := by decide +kernel
theorem dX0_goOn_46 : decode cX0_goOn 46 = .ok (.dup, 1) := by decide +kernel
theorem dX0_goOn_47 : decode cX0_goOn 47 = .ok (.getfield 37, 3) := by decide +kernel
theorem dX0_goOn_50 : decode cX0_goOn 50 = .ok (.iconst 1, 1) := by decide +kernel
theorem dX0_goOn_51 : decode cX0_goOn 51 = .ok (.iadd, 1) := by decide +kernel
theorem dX0_goOn_52 : decode cX0_goOn 52 = .ok (.putfield 37, 3) := by decide +kernel
theorem dX0_goOn_55 : decode cX0_goOn 55 = .ok (.return_, 1) := by decide +kernel
theorem dX0_isLookedAt_0 : decode cX0_isLookedAt 0 = .ok (.aload_n 0, 1) := by decide +kernel
theorem dX0_isLookedAt_1 : decode cX0_isLookedAt 1 = .ok (.getfield 40, 3) := by decide +kernel
theorem dX0_isLookedAt_4 : decode cX0_isLookedAt 4 = .ok (.iload_n 1, 1) := by decide +kernel
theorem dX0_isLookedAt_5 : decode cX0_isLookedAt 5 = .ok (.ishr, 1) := by decide +kernel
theorem dX0_isLookedAt_6 : decode cX0_isLookedAt 6 = .ok (.iconst 1, 1) := by decide +kernel
theorem dX0_isLookedAt_7 : decode cX0_isLookedAt 7 = .ok (.iand, 1) := by decide +kernel
theorem dX0_isLookedAt_8 : decode cX0_isLookedAt 8 = .ok (.iconst 1, 1) := by decide +kernel
theorem dX0_isLookedAt_9 : decode cX0_isLookedAt 9 = .ok (.if_icmp .ne 7, 3) := by decide +kernel
theorem dX0_isLookedAt_12 : decode cX0_isLookedAt 12 = .ok (.iconst 1, 1) := by decide +kernel
theorem dX0_isLookedAt_13 : decode cX0_isLookedAt 13 = .ok (.goto 4, 3) := by decide +kernel
theorem dX0_isLookedAt_16 : decode cX0_isLookedAt 16 = .ok (.iconst 0, 1) := by decide +kernel
theorem dX0_isLookedAt_17 : decode cX0_isLookedAt 17 = .ok (.ireturn, 1) := by decide +kernel
theorem dX0_lookAt_0 : decode cX0_lookAt 0 = .ok (.aload_n 0, 1) := by decide +kernel
theorem dX0_lookAt_1 : decode cX0_lookAt 1 = .ok (.iload_n 1, 1) := by decide +kernel
theorem dX0_lookAt_2 : decode cX0_lookAt 2 = .ok (.invokevirtual 56, 3) := by decide +kernel
theorem dX0_lookAt_5 : decode cX0_lookAt 5 = .ok (.ifCond .ne 7, 3) := by decide +kernel
theorem dX0_lookAt_8 : decode cX0_lookAt 8 = .ok (.iconst 1, 1) := by decide +kernel
theorem dX0_lookAt_9 : decode cX0_lookAt 9 = .ok (.goto 4, 3) := by decide +kernel
theorem dX0_lookAt_12 : decode cX0_lookAt 12 = .ok (.iconst 0, 1) := by decide +kernel
theorem dX0_lookAt_13 : decode cX0_lookAt 13 = .ok (.istore_n 2, 1) := by decide +kernel
theorem dX0_lookAt_14 : decode cX0_lookAt 14 = .ok (.aload_n 0, 1) := by decide +kernel
theorem dX0_lookAt_15 : decode cX0_lookAt 15 = .ok (.dup, 1) := by decide +kernel
theorem dX0_lookAt_16 : decode cX0_lookAt 16 = .ok (.getfield 40, 3) := by decide +kernel
theorem dX0_lookAt_19 : decode cX0_lookAt 19 = .ok (.iconst 1, 1) := by decide +kernel
theorem dX0_lookAt_20 : decode cX0_lookAt 20 = .ok (.iload_n 1, 1) := by decide +kernel
theorem dX0_lookAt_21 : decode cX0_lookAt 21 = .ok (.ishl, 1) := by decide +kernel
theorem dX0_lookAt_22 : decode cX0_lookAt 22 = .ok (.ior, 1) := by decide +kernel
theorem dX0_lookAt_23 : decode cX0_lookAt 23 = .ok (.putfield 40, 3) := by decide +kernel
theorem dX0_lookAt_26 : decode cX0_lookAt 26 = .ok (.iload_n 2, 1) := by decide +kernel
theorem dX0_lookAt_27 : decode cX0_lookAt 27 = .ok (.ireturn, 1) := by decide +kernel
theorem dX0_lookAwayFrom_0 : decode cX0_lookAwayFrom 0 = .ok (.aload_n 0, 1) := by decide +kernel
theorem dX0_lookAwayFrom_1 : decode cX0_lookAwayFrom 1 = .ok (.iload_n 1, 1) := by decide +kernel
theorem dX0_lookAwayFrom_2 : decode cX0_lookAwayFrom 2 = .ok (.invokevirtual 56, 3) := by decide +kernel
theorem dX0_lookAwayFrom_5 : decode cX0_lookAwayFrom 5 = .ok (.istore_n 2, 1) := by decide +kernel
theorem dX0_lookAwayFrom_6 : decode cX0_lookAwayFrom 6 = .ok (.aload_n 0, 1) := by decide +kernel
theorem dX0_lookAwayFrom_7 : decode cX0_lookAwayFrom 7 = .ok (.dup, 1) := by decide +kernel
theorem dX0_lookAwayFrom_8 : decode cX0_lookAwayFrom 8 = .ok (.getfield 40, 3) := by decide +kernel
theorem dX0_lookAwayFrom_11 : decode cX0_lookAwayFrom 11 = .ok (.iconst 1, 1) := by decide +kernel
theorem dX0_lookAwayFrom_12 : decode cX0_lookAwayFrom 12 = .ok (.iload_n 1, 1) := by decide +kernel
theorem dX0_lookAwayFrom_13 : decode cX0_lookAwayFrom 13 = .ok (.ishl, 1) := by decide +kernel
theorem dX0_lookAwayFrom_14 : decode cX0_lookAwayFrom 14 = .ok (.iconst (-1), 1) := by decide +kernel
theorem dX0_lookAwayFrom_15 : decode cX0_lookAwayFrom 15 = .ok (.ixor, 1) := by decide +kernel
theorem dX0_lookAwayFrom_16 : decode cX0_lookAwayFrom 16 = .ok (.iand, 1) := by decide +kernel
theorem dX0_lookAwayFrom_17 : decode cX0_lookAwayFrom 17 = .ok (.putfield 40, 3) := by decide +kernel
theorem dX0_lookAwayFrom_20 : decode cX0_lookAwayFrom 20 = .ok (.iload_n 2, 1) := by decide +kernel
theorem dX0_lookAwayFrom_21 : decode cX0_lookAwayFrom 21 = .ok (.ireturn, 1) := by decide +kernel
theorem dX0_strikeAt_0 : decode cX0_strikeAt 0 = .ok (.aload_n 0, 1) := by decide +kernel
theorem dX0_strikeAt_1 : decode cX0_strikeAt 1 = .ok (.getfield 15, 3) := by decide +kernel
theorem dX0_strikeAt_4 : decode cX0_strikeAt 4 = .ok (.iload_n 1, 1) := by decide +kernel
theorem dX0_strikeAt_5 : decode cX0_strikeAt 5 = .ok (.dup2, 1) := by decide +kernel
theorem dX0_strikeAt_6 : decode cX0_strikeAt 6 = .ok (.iaload, 1) := by decide +kernel
theorem dX0_strikeAt_7 : decode cX0_strikeAt 7 = .ok (.iconst 1, 1) := by decide +kernel
theorem dX0_strikeAt_8 : decode cX0_strikeAt 8 = .ok (.iload_n 2, 1) := by decide +kernel
theorem dX0_strikeAt_9 : decode cX0_strikeAt 9 = .ok (.ishl, 1) := by decide +kernel
theorem dX0_strikeAt_10 : decode cX0_strikeAt 10 = .ok (.ixor, 1) := by decide +kernel
theorem dX0_strikeAt_11 : decode cX0_strikeAt 11 = .ok (.iastore, 1) := by decide +kernel
theorem dX0_strikeAt_12 : decode cX0_strikeAt 12 = .ok (.return_, 1) := by decide +kernel
theorem dX0_twoAreAlike_0 : decode cX0_twoAreAlike 0 = .ok (.lconst 0, 1) := by decide +kernel
theorem dX0_twoAreAlike_1 : decode cX0_twoAreAlike 1 = .ok (.lstore_n 1, 1) := by decide +kernel
theorem dX0_twoAreAlike_2 : decode cX0_twoAreAlike 2 = .ok (.iconst 0, 1) := by decide +kernel
theorem dX0_twoAreAlike_3 : decode cX0_twoAreAlike 3 = .ok (.istore_n 3, 1) := by decide +kernel
theorem dX0_twoAreAlike_4 : decode cX0_twoAreAlike 4 = .ok (.iload_n 3, 1) := by decide +kernel
theorem dX0_twoAreAlike_5 : decode cX0_twoAreAlike 5 = .ok (.aload_n 0, 1) := by decide +kernel
theorem dX0_twoAreAlike_6 : decode cX0_twoAreAlike 6 = .ok (.getfield 21, 3) := by decide +kernel
theorem dX0_twoAreAlike_9 : decode cX0_twoAreAlike 9 = .ok (.if_icmp .ge 20, 3) := by decide +kernel
theorem dX0_twoAreAlike_12 : decode cX0_twoAreAlike 12 = .ok (.lload_n 1, 1) := by decide +kernel
theorem dX0_twoAreAlike_13 : decode cX0_twoAreAlike 13 = .ok (.lconst 1, 1) := by decide +kernel
theorem dX0_twoAreAlike_14 : decode cX0_twoAreAlike 14 = .ok (.aload_n 0, 1) := by decide +kernel
theorem dX0_twoAreAlike_15 : decode cX0_twoAreAlike 15 = .ok (.getfield 15, 3) := by decide +kernel
theorem dX0_twoAreAlike_18 : decode cX0_twoAreAlike 18 = .ok (.iload_n 3, 1) := by decide +kernel
theorem dX0_twoAreAlike_19 : decode cX0_twoAreAlike 19 = .ok (.iaload, 1) := by decide +kernel
theorem dX0_twoAreAlike_20 : decode cX0_twoAreAlike 20 = .ok (.lshl, 1) := by decide +kernel
theorem dX0_twoAreAlike_21 : decode cX0_twoAreAlike 21 = .ok (.lor, 1) := by decide +kernel
theorem dX0_twoAreAlike_22 : decode cX0_twoAreAlike 22 = .ok (.lstore_n 1, 1) := by decide +kernel
theorem dX0_twoAreAlike_23 : decode cX0_twoAreAlike 23 = .ok (.iinc 3 1, 3) := by decide +kernel
theorem dX0_twoAreAlike_26 : decode cX0_twoAreAlike 26 = .ok (.goto (-22), 3) := by decide +kernel
theorem dX0_twoAreAlike_29 : decode cX0_twoAreAlike 29 = .ok (.lload_n 1, 1) := by decide +kernel
theorem dX0_twoAreAlike_30 : decode cX0_twoAreAlike 30 = .ok (.invokestatic 68, 3) := by decide +kernel
theorem dX0_twoAreAlike_33 : decode cX0_twoAreAlike 33 = .ok (.aload_n 0, 1) := by decide +kernel
theorem dX0_twoAreAlike_34 : decode cX0_twoAreAlike 34 = .ok (.getfield 21, 3) := by decide +kernel
theorem dX0_twoAreAlike_37 : decode cX0_twoAreAlike 37 = .ok (.if_icmp .ge 7, 3) := by decide +kernel
theorem dX0_twoAreAlike_40 : decode cX0_twoAreAlike 40 = .ok (.iconst 1, 1) := by decide +kernel
theorem dX0_twoAreAlike_41 : decode cX0_twoAreAlike 41 = .ok (.goto 4, 3) := by decide +kernel
theorem dX0_twoAreAlike_44 : decode cX0_twoAreAlike 44 = .ok (.iconst 0, 1) := by decide +kernel
theorem dX0_twoAreAlike_45 : decode cX0_twoAreAlike 45 = .ok (.ireturn, 1) := by decide +kernel
theorem dX0_cellsSet_0 : decode cX0_cellsSet 0 = .ok (.iconst 0, 1) := by decide +kernel
theorem dX0_cellsSet_1 : decode cX0_cellsSet 1 = .ok (.istore_n 1, 1) := by decide +kernel
theorem dX0_cellsSet_2 : decode cX0_cellsSet 2 = .ok (.iconst 0, 1) := by decide +kernel
theorem dX0_cellsSet_3 : decode cX0_cellsSet 3 = .ok (.istore_n 2, 1) := by decide +kernel
theorem dX0_cellsSet_4 : decode cX0_cellsSet 4 = .ok (.iload_n 2, 1) := by decide +kernel
theorem dX0_cellsSet_5 : decode cX0_cellsSet 5 = .ok (.aload_n 0, 1) := by decide +kernel
theorem dX0_cellsSet_6 : decode cX0_cellsSet 6 = .ok (.getfield 21, 3) := by decide +kernel
theorem dX0_cellsSet_9 : decode cX0_cellsSet 9 = .ok (.if_icmp .ge 21, 3) := by decide +kernel
theorem dX0_cellsSet_12 : decode cX0_cellsSet 12 = .ok (.iload_n 1, 1) := by decide +kernel
theorem dX0_cellsSet_13 : decode cX0_cellsSet 13 = .ok (.aload_n 0, 1) := by decide +kernel
theorem dX0_cellsSet_14 : decode cX0_cellsSet 14 = .ok (.getfield 15, 3) := by decide +kernel
theorem dX0_cellsSet_17 : decode cX0_cellsSet 17 = .ok (.iload_n 2, 1) := by decide +kernel
theorem dX0_cellsSet_18 : decode cX0_cellsSet 18 = .ok (.iaload, 1) := by decide +kernel
theorem dX0_cellsSet_19 : decode cX0_cellsSet 19 = .ok (.invokestatic 74, 3) := by decide +kernel
theorem dX0_cellsSet_22 : decode cX0_cellsSet 22 = .ok (.iadd, 1) := by decide +kernel
theorem dX0_cellsSet_23 : decode cX0_cellsSet 23 = .ok (.istore_n 1, 1) := by decide +kernel
theorem dX0_cellsSet_24 : decode cX0_cellsSet 24 = .ok (.iinc 2 1, 3) := by decide +kernel
theorem dX0_cellsSet_27 : decode cX0_cellsSet 27 = .ok (.goto (-23), 3) := by decide +kernel
theorem dX0_cellsSet_30 : decode cX0_cellsSet 30 = .ok (.iload_n 1, 1) := by decide +kernel
theorem dX0_cellsSet_31 : decode cX0_cellsSet 31 = .ok (.ireturn, 1) := by decide +kernel
theorem dX1_init_0 : decode cX1_init 0 = .ok (.aload_n 0, 1) := by decide +kernel
theorem dX1_init_1 : decode cX1_init 1 = .ok (.invokespecial 3, 3) := by decide +kernel
theorem dX1_init_4 : decode cX1_init 4 = .ok (.aload_n 0, 1) := by decide +kernel
theorem dX1_init_5 : decode cX1_init 5 = .ok (.sipush 576, 3) := by decide +kernel
theorem dX1_init_8 : decode cX1_init 8 = .ok (.newarray .int, 2) := by decide +kernel
theorem dX1_init_10 : decode cX1_init 10 = .ok (.putfield 9, 3) := by decide +kernel
theorem dX1_init_13 : decode cX1_init 13 = .ok (.return_, 1) := by decide +kernel
theorem dX1_fix_0 : decode cX1_fix 0 = .ok (.aload_n 0, 1) := by decide +kernel
theorem dX1_fix_1 : decode cX1_fix 1 = .ok (.iload_n 1, 1) := by decide +kernel
theorem dX1_fix_2 : decode cX1_fix 2 = .ok (.putfield 15, 3) := by decide +kernel
theorem dX1_fix_5 : decode cX1_fix 5 = .ok (.iconst 0, 1) := by decide +kernel
theorem dX1_fix_6 : decode cX1_fix 6 = .ok (.istore_n 2, 1) := by decide +kernel
theorem dX1_fix_7 : decode cX1_fix 7 = .ok (.iload_n 2, 1) := by decide +kernel
theorem dX1_fix_8 : decode cX1_fix 8 = .ok (.bipush 64, 2) := by decide +kernel
theorem dX1_fix_10 : decode cX1_fix 10 = .ok (.if_icmp .ge 30, 3) := by decide +kernel
theorem dX1_fix_13 : decode cX1_fix 13 = .ok (.aload_n 0, 1) := by decide +kernel
theorem dX1_fix_14 : decode cX1_fix 14 = .ok (.getfield 9, 3) := by decide +kernel
theorem dX1_fix_17 : decode cX1_fix 17 = .ok (.iload_n 2, 1) := by decide +kernel
theorem dX1_fix_18 : decode cX1_fix 18 = .ok (.iload_n 2, 1) := by decide +kernel
theorem dX1_fix_19 : decode cX1_fix 19 = .ok (.iastore, 1) := by decide +kernel
theorem dX1_fix_20 : decode cX1_fix 20 = .ok (.aload_n 0, 1) := by decide +kernel
theorem dX1_fix_21 : decode cX1_fix 21 = .ok (.getfield 9, 3) := by decide +kernel
theorem dX1_fix_24 : decode cX1_fix 24 = .ok (.bipush 64, 2) := by decide +kernel
theorem dX1_fix_26 : decode cX1_fix 26 = .ok (.iload_n 2, 1) := by decide +kernel
theorem dX1_fix_27 : decode cX1_fix 27 = .ok (.iadd, 1) := by decide +kernel
theorem dX1_fix_28 : decode cX1_fix 28 = .ok (.aload_n 0, 1) := by decide +kernel
theorem dX1_fix_29 : decode cX1_fix 29 = .ok (.iload_n 2, 1) := by decide +kernel
theorem dX1_fix_30 : decode cX1_fix 30 = .ok (.invokevirtual 19, 3) := by decide +kernel
theorem dX1_fix_33 : decode cX1_fix 33 = .ok (.iastore, 1) := by decide +kernel
theorem dX1_fix_34 : decode cX1_fix 34 = .ok (.iinc 2 1, 3) := by decide +kernel
theorem dX1_fix_37 : decode cX1_fix 37 = .ok (.goto (-30), 3) := by decide +kernel
theorem dX1_fix_40 : decode cX1_fix 40 = .ok (.sipush 128, 3) := by decide +kernel
theorem dX1_fix_43 : decode cX1_fix 43 = .ok (.istore_n 2, 1) := by decide +kernel
theorem dX1_fix_44 : decode cX1_fix 44 = .ok (.iload_n 2, 1) := by decide +kernel
theorem dX1_fix_45 : decode cX1_fix 45 = .ok (.aload_n 0, 1) := by decide +kernel
theorem dX1_fix_46 : decode cX1_fix 46 = .ok (.getfield 9, 3) := by decide +kernel
theorem dX1_fix_49 : decode cX1_fix 49 = .ok (.arraylength, 1) := by decide +kernel
theorem dX1_fix_50 : decode cX1_fix 50 = .ok (.if_icmp .ge 29, 3) := by decide +kernel
theorem dX1_fix_53 : decode cX1_fix 53 = .ok (.aload_n 0, 1) := by decide +kernel
theorem dX1_fix_54 : decode cX1_fix 54 = .ok (.getfield 9, 3) := by decide +kernel
theorem dX1_fix_57 : decode cX1_fix 57 = .ok (.iload_n 2, 1) := by decide +kernel
theorem dX1_fix_58 : decode cX1_fix 58 = .ok (.aload_n 0, 1) := by decide +kernel
theorem dX1_fix_59 : decode cX1_fix 59 = .ok (.aload_n 0, 1) := by decide +kernel
theorem dX1_fix_60 : decode cX1_fix 60 = .ok (.getfield 9, 3) := by decide +kernel
theorem dX1_fix_63 : decode cX1_fix 63 = .ok (.iload_n 2, 1) := by decide +kernel
theorem dX1_fix_64 : decode cX1_fix 64 = .ok (.bipush 64, 2) := by decide +kernel
theorem dX1_fix_66 : decode cX1_fix 66 = .ok (.isub, 1) := by decide +kernel
theorem dX1_fix_67 : decode cX1_fix 67 = .ok (.iaload, 1) := by decide +kernel
theorem dX1_fix_68 : decode cX1_fix 68 = .ok (.iconst 1, 1) := by decide +kernel
theorem dX1_fix_69 : decode cX1_fix 69 = .ok (.invokevirtual 23, 3) := by decide +kernel
theorem dX1_fix_72 : decode cX1_fix 72 = .ok (.iastore, 1) := by decide +kernel
theorem dX1_fix_73 : decode cX1_fix 73 = .ok (.iinc 2 1, 3) := by decide +kernel
theorem dX1_fix_76 : decode cX1_fix 76 = .ok (.goto (-32), 3) := by decide +kernel
theorem dX1_fix_79 : decode cX1_fix 79 = .ok (.return_, 1) := by decide +kernel
theorem dX1_stepOf_0 : decode cX1_stepOf 0 = .ok (.iconst 0, 1) := by decide +kernel
theorem dX1_stepOf_1 : decode cX1_stepOf 1 = .ok (.istore_n 2, 1) := by decide +kernel
theorem dX1_stepOf_2 : decode cX1_stepOf 2 = .ok (.iconst 0, 1) := by decide +kernel
theorem dX1_stepOf_3 : decode cX1_stepOf 3 = .ok (.istore_n 3, 1) := by decide +kernel
theorem dX1_stepOf_4 : decode cX1_stepOf 4 = .ok (.iload_n 3, 1) := by decide +kernel
theorem dX1_stepOf_5 : decode cX1_stepOf 5 = .ok (.bipush 6, 2) := by decide +kernel
theorem dX1_stepOf_7 : decode cX1_stepOf 7 = .ok (.if_icmp .ge 26, 3) := by decide +kernel
theorem dX1_stepOf_10 : decode cX1_stepOf 10 = .ok (.iload_n 2, 1) := by decide +kernel
theorem dX1_stepOf_11 : decode cX1_stepOf 11 = .ok (.aload_n 0, 1) := by decide +kernel
theorem dX1_stepOf_12 : decode cX1_stepOf 12 = .ok (.getfield 15, 3) := by decide +kernel
theorem dX1_stepOf_15 : decode cX1_stepOf 15 = .ok (.iload_n 1, 1) := by decide +kernel
theorem dX1_stepOf_16 : decode cX1_stepOf 16 = .ok (.iload_n 3, 1) := by decide +kernel
theorem dX1_stepOf_17 : decode cX1_stepOf 17 = .ok (.invokestatic 27, 3) := by decide +kernel
theorem dX1_stepOf_20 : decode cX1_stepOf 20 = .ok (.ishr, 1) := by decide +kernel
theorem dX1_stepOf_21 : decode cX1_stepOf 21 = .ok (.iconst 1, 1) := by decide +kernel
theorem dX1_stepOf_22 : decode cX1_stepOf 22 = .ok (.iand, 1) := by decide +kernel
theorem dX1_stepOf_23 : decode cX1_stepOf 23 = .ok (.iload_n 3, 1) := by decide +kernel
theorem dX1_stepOf_24 : decode cX1_stepOf 24 = .ok (.ishl, 1) := by decide +kernel
theorem dX1_stepOf_25 : decode cX1_stepOf 25 = .ok (.ior, 1) := by decide +kernel
theorem dX1_stepOf_26 : decode cX1_stepOf 26 = .ok (.istore_n 2, 1) := by decide +kernel
theorem dX1_stepOf_27 : decode cX1_stepOf 27 = .ok (.iinc 3 1, 3) := by decide +kernel
theorem dX1_stepOf_30 : decode cX1_stepOf 30 = .ok (.goto (-26), 3) := by decide +kernel
theorem dX1_stepOf_33 : decode cX1_stepOf 33 = .ok (.iload_n 2, 1) := by decide +kernel
theorem dX1_stepOf_34 : decode cX1_stepOf 34 = .ok (.ireturn, 1) := by decide +kernel
theorem dX1_bitOf_0 : decode cX1_bitOf 0 = .ok (.iload_n 0, 1) := by decide +kernel
theorem dX1_bitOf_1 : decode cX1_bitOf 1 = .ok (.iload_n 1, 1) := by decide +kernel
theorem dX1_bitOf_2 : decode cX1_bitOf 2 = .ok (.iconst 1, 1) := by decide +kernel
theorem dX1_bitOf_3 : decode cX1_bitOf 3 = .ok (.iadd, 1) := by decide +kernel
theorem dX1_bitOf_4 : decode cX1_bitOf 4 = .ok (.bipush 6, 2) := by decide +kernel
theorem dX1_bitOf_6 : decode cX1_bitOf 6 = .ok (.irem, 1) := by decide +kernel
theorem dX1_bitOf_7 : decode cX1_bitOf 7 = .ok (.ishr, 1) := by decide +kernel
theorem dX1_bitOf_8 : decode cX1_bitOf 8 = .ok (.iconst 1, 1) := by decide +kernel
theorem dX1_bitOf_9 : decode cX1_bitOf 9 = .ok (.iand, 1) := by decide +kernel
theorem dX1_bitOf_10 : decode cX1_bitOf 10 = .ok (.istore_n 2, 1) := by decide +kernel
theorem dX1_bitOf_11 : decode cX1_bitOf 11 = .ok (.iload_n 0, 1) := by decide +kernel
theorem dX1_bitOf_12 : decode cX1_bitOf 12 = .ok (.iload_n 1, 1) := by decide +kernel
theorem dX1_bitOf_13 : decode cX1_bitOf 13 = .ok (.ishr, 1) := by decide +kernel
theorem dX1_bitOf_14 : decode cX1_bitOf 14 = .ok (.iconst 1, 1) := by decide +kernel
theorem dX1_bitOf_15 : decode cX1_bitOf 15 = .ok (.iand, 1) := by decide +kernel
theorem dX1_bitOf_16 : decode cX1_bitOf 16 = .ok (.istore_n 3, 1) := by decide +kernel
theorem dX1_bitOf_17 : decode cX1_bitOf 17 = .ok (.iload_n 0, 1) := by decide +kernel
theorem dX1_bitOf_18 : decode cX1_bitOf 18 = .ok (.iload_n 1, 1) := by decide +kernel
theorem dX1_bitOf_19 : decode cX1_bitOf 19 = .ok (.bipush 6, 2) := by decide +kernel
theorem dX1_bitOf_21 : decode cX1_bitOf 21 = .ok (.iadd, 1) := by decide +kernel
theorem dX1_bitOf_22 : decode cX1_bitOf 22 = .ok (.iconst 1, 1) := by decide +kernel
theorem dX1_bitOf_23 : decode cX1_bitOf 23 = .ok (.isub, 1) := by decide +kernel
theorem dX1_bitOf_24 : decode cX1_bitOf 24 = .ok (.bipush 6, 2) := by decide +kernel
theorem dX1_bitOf_26 : decode cX1_bitOf 26 = .ok (.irem, 1) := by decide +kernel
theorem dX1_bitOf_27 : decode cX1_bitOf 27 = .ok (.ishr, 1) := by decide +kernel
theorem dX1_bitOf_28 : decode cX1_bitOf 28 = .ok (.iconst 1, 1) := by decide +kernel
theorem dX1_bitOf_29 : decode cX1_bitOf 29 = .ok (.iand, 1) := by decide +kernel
theorem dX1_bitOf_30 : decode cX1_bitOf 30 = .ok (.istore 4, 2) := by decide +kernel
theorem dX1_bitOf_32 : decode cX1_bitOf 32 = .ok (.iconst 4, 1) := by decide +kernel
theorem dX1_bitOf_33 : decode cX1_bitOf 33 = .ok (.iload_n 2, 1) := by decide +kernel
theorem dX1_bitOf_34 : decode cX1_bitOf 34 = .ok (.imul, 1) := by decide +kernel
theorem dX1_bitOf_35 : decode cX1_bitOf 35 = .ok (.iconst 2, 1) := by decide +kernel
theorem dX1_bitOf_36 : decode cX1_bitOf 36 = .ok (.iload_n 3, 1) := by decide +kernel
theorem dX1_bitOf_37 : decode cX1_bitOf 37 = .ok (.imul, 1) := by decide +kernel
theorem dX1_bitOf_38 : decode cX1_bitOf 38 = .ok (.iadd, 1) := by decide +kernel
theorem dX1_bitOf_39 : decode cX1_bitOf 39 = .ok (.iload 4, 2) := by decide +kernel
theorem dX1_bitOf_41 : decode cX1_bitOf 41 = .ok (.iadd, 1) := by decide +kernel
theorem dX1_bitOf_42 : decode cX1_bitOf 42 = .ok (.ireturn, 1) := by decide +kernel
theorem dX1_after_0 : decode cX1_after 0 = .ok (.iload_n 1, 1) := by decide +kernel
theorem dX1_after_1 : decode cX1_after 1 = .ok (.invokestatic 30, 3) := by decide +kernel
theorem dX1_after_4 : decode cX1_after 4 = .ok (.ifCond .eq 13, 3) := by decide +kernel
theorem dX1_after_7 : decode cX1_after 7 = .ok (.iload_n 2, 1) := by decide +kernel
theorem dX1_after_8 : decode cX1_after 8 = .ok (.ifCond .lt 9, 3) := by decide +kernel
theorem dX1_after_11 : decode cX1_after 11 = .ok (.iload_n 2, 1) := by decide +kernel
theorem dX1_after_12 : decode cX1_after 12 = .ok (.bipush 8, 2) := by decide +kernel
theorem dX1_after_14 : decode cX1_after 14 = .ok (.if_icmp .le 5, 3) := by decide +kernel
theorem dX1_after_17 : decode cX1_after 17 = .ok (.iload_n 1, 1) := by decide +kernel
theorem dX1_after_18 : decode cX1_after 18 = .ok (.ireturn, 1) := by decide +kernel
theorem dX1_after_19 : decode cX1_after 19 = .ok (.aload_n 0, 1) := by decide +kernel
theorem dX1_after_20 : decode cX1_after 20 = .ok (.getfield 9, 3) := by decide +kernel
theorem dX1_after_23 : decode cX1_after 23 = .ok (.iload_n 2, 1) := by decide +kernel
theorem dX1_after_24 : decode cX1_after 24 = .ok (.bipush 64, 2) := by decide +kernel
theorem dX1_after_26 : decode cX1_after 26 = .ok (.imul, 1) := by decide +kernel
theorem dX1_after_27 : decode cX1_after 27 = .ok (.iload_n 1, 1) := by decide +kernel
theorem dX1_after_28 : decode cX1_after 28 = .ok (.iadd, 1) := by decide +kernel
theorem dX1_after_29 : decode cX1_after 29 = .ok (.iaload, 1) := by decide +kernel
theorem dX1_after_30 : decode cX1_after 30 = .ok (.ireturn, 1) := by decide +kernel
theorem dX1_behind_0 : decode cX1_behind 0 = .ok (.iload_n 1, 1) := by decide +kernel
theorem dX1_behind_1 : decode cX1_behind 1 = .ok (.istore 4, 2) := by decide +kernel
theorem dX1_behind_3 : decode cX1_behind 3 = .ok (.iconst 0, 1) := by decide +kernel
theorem dX1_behind_4 : decode cX1_behind 4 = .ok (.istore 5, 2) := by decide +kernel
theorem dX1_behind_6 : decode cX1_behind 6 = .ok (.iload 5, 2) := by decide +kernel
theorem dX1_behind_8 : decode cX1_behind 8 = .ok (.iload_n 3, 1) := by decide +kernel
theorem dX1_behind_9 : decode cX1_behind 9 = .ok (.if_icmp .ge 18, 3) := by decide +kernel
theorem dX1_behind_12 : decode cX1_behind 12 = .ok (.aload_n 0, 1) := by decide +kernel
theorem dX1_behind_13 : decode cX1_behind 13 = .ok (.iload 4, 2) := by decide +kernel
theorem dX1_behind_15 : decode cX1_behind 15 = .ok (.iload_n 2, 1) := by decide +kernel
theorem dX1_behind_16 : decode cX1_behind 16 = .ok (.invokevirtual 23, 3) := by decide +kernel
theorem dX1_behind_19 : decode cX1_behind 19 = .ok (.istore 4, 2) := by decide +kernel
theorem dX1_behind_21 : decode cX1_behind 21 = .ok (.iinc 5 1, 3) := by decide +kernel
theorem dX1_behind_24 : decode cX1_behind 24 = .ok (.goto (-18), 3) := by decide +kernel
theorem dX1_behind_27 : decode cX1_behind 27 = .ok (.iload 4, 2) := by decide +kernel
theorem dX1_behind_29 : decode cX1_behind 29 = .ok (.ireturn, 1) := by decide +kernel
theorem dX1_daysTo_0 : decode cX1_daysTo 0 = .ok (.iload_n 1, 1) := by decide +kernel
theorem dX1_daysTo_1 : decode cX1_daysTo 1 = .ok (.istore 4, 2) := by decide +kernel
theorem dX1_daysTo_3 : decode cX1_daysTo 3 = .ok (.iconst 0, 1) := by decide +kernel
theorem dX1_daysTo_4 : decode cX1_daysTo 4 = .ok (.istore 5, 2) := by decide +kernel
theorem dX1_daysTo_6 : decode cX1_daysTo 6 = .ok (.iload 5, 2) := by decide +kernel
theorem dX1_daysTo_8 : decode cX1_daysTo 8 = .ok (.bipush 64, 2) := by decide +kernel
theorem dX1_daysTo_10 : decode cX1_daysTo 10 = .ok (.if_icmp .ge 27, 3) := by decide +kernel
theorem dX1_daysTo_13 : decode cX1_daysTo 13 = .ok (.iload 4, 2) := by decide +kernel
theorem dX1_daysTo_15 : decode cX1_daysTo 15 = .ok (.iload_n 3, 1) := by decide +kernel
theorem dX1_daysTo_16 : decode cX1_daysTo 16 = .ok (.if_icmp .ne 6, 3) := by decide +kernel
theorem dX1_daysTo_19 : decode cX1_daysTo 19 = .ok (.iload 5, 2) := by decide +kernel
theorem dX1_daysTo_21 : decode cX1_daysTo 21 = .ok (.ireturn, 1) := by decide +kernel
theorem dX1_daysTo_22 : decode cX1_daysTo 22 = .ok (.aload_n 0, 1) := by decide +kernel
theorem dX1_daysTo_23 : decode cX1_daysTo 23 = .ok (.iload 4, 2) := by decide +kernel
theorem dX1_daysTo_25 : decode cX1_daysTo 25 = .ok (.iload_n 2, 1) := by decide +kernel
theorem dX1_daysTo_26 : decode cX1_daysTo 26 = .ok (.invokevirtual 23, 3) := by decide +kernel
theorem dX1_daysTo_29 : decode cX1_daysTo 29 = .ok (.istore 4, 2) := by decide +kernel
theorem dX1_daysTo_31 : decode cX1_daysTo 31 = .ok (.iinc 5 1, 3) := by decide +kernel
theorem dX1_daysTo_34 : decode cX1_daysTo 34 = .ok (.goto (-28), 3) := by decide +kernel
theorem dX1_daysTo_37 : decode cX1_daysTo 37 = .ok (.bipush (-9), 2) := by decide +kernel
theorem dX1_daysTo_39 : decode cX1_daysTo 39 = .ok (.ireturn, 1) := by decide +kernel
theorem dX1_stepsBack_0 : decode cX1_stepsBack 0 = .ok (.aload_n 0, 1) := by decide +kernel
theorem dX1_stepsBack_1 : decode cX1_stepsBack 1 = .ok (.aload_n 0, 1) := by decide +kernel
theorem dX1_stepsBack_2 : decode cX1_stepsBack 2 = .ok (.iload_n 1, 1) := by decide +kernel
theorem dX1_stepsBack_3 : decode cX1_stepsBack 3 = .ok (.iconst 1, 1) := by decide +kernel
theorem dX1_stepsBack_4 : decode cX1_stepsBack 4 = .ok (.invokevirtual 23, 3) := by decide +kernel
theorem dX1_stepsBack_7 : decode cX1_stepsBack 7 = .ok (.iconst 1, 1) := by decide +kernel
theorem dX1_stepsBack_8 : decode cX1_stepsBack 8 = .ok (.iload_n 1, 1) := by decide +kernel
theorem dX1_stepsBack_9 : decode cX1_stepsBack 9 = .ok (.invokevirtual 34, 3) := by decide +kernel
theorem dX1_stepsBack_12 : decode cX1_stepsBack 12 = .ok (.istore_n 2, 1) := by decide +kernel
theorem dX1_stepsBack_13 : decode cX1_stepsBack 13 = .ok (.iload_n 2, 1) := by decide +kernel
theorem dX1_stepsBack_14 : decode cX1_stepsBack 14 = .ok (.bipush (-9), 2) := by decide +kernel
theorem dX1_stepsBack_16 : decode cX1_stepsBack 16 = .ok (.if_icmp .ne 8, 3) := by decide +kernel
theorem dX1_stepsBack_19 : decode cX1_stepsBack 19 = .ok (.bipush (-9), 2) := by decide +kernel
theorem dX1_stepsBack_21 : decode cX1_stepsBack 21 = .ok (.goto 6, 3) := by decide +kernel
theorem dX1_stepsBack_24 : decode cX1_stepsBack 24 = .ok (.iload_n 2, 1) := by decide +kernel
theorem dX1_stepsBack_25 : decode cX1_stepsBack 25 = .ok (.iconst 1, 1) := by decide +kernel
theorem dX1_stepsBack_26 : decode cX1_stepsBack 26 = .ok (.iadd, 1) := by decide +kernel
theorem dX1_stepsBack_27 : decode cX1_stepsBack 27 = .ok (.ireturn, 1) := by decide +kernel
theorem dX2_init_0 : decode cX2_init 0 = .ok (.aload_n 0, 1) := by decide +kernel
theorem dX2_init_1 : decode cX2_init 1 = .ok (.invokespecial 3, 3) := by decide +kernel
theorem dX2_init_4 : decode cX2_init 4 = .ok (.aload_n 0, 1) := by decide +kernel
theorem dX2_init_5 : decode cX2_init 5 = .ok (.bipush 8, 2) := by decide +kernel
theorem dX2_init_7 : decode cX2_init 7 = .ok (.newarray .int, 2) := by decide +kernel
theorem dX2_init_9 : decode cX2_init 9 = .ok (.putfield 9, 3) := by decide +kernel
theorem dX2_init_12 : decode cX2_init 12 = .ok (.aload_n 0, 1) := by decide +kernel
theorem dX2_init_13 : decode cX2_init 13 = .ok (.bipush 8, 2) := by decide +kernel
theorem dX2_init_15 : decode cX2_init 15 = .ok (.newarray .int, 2) := by decide +kernel
theorem dX2_init_17 : decode cX2_init 17 = .ok (.putfield 15, 3) := by decide +kernel
theorem dX2_init_20 : decode cX2_init 20 = .ok (.aload_n 0, 1) := by decide +kernel
theorem dX2_init_21 : decode cX2_init 21 = .ok (.bipush 8, 2) := by decide +kernel
theorem dX2_init_23 : decode cX2_init 23 = .ok (.newarray .int, 2) := by decide +kernel
theorem dX2_init_25 : decode cX2_init 25 = .ok (.putfield 18, 3) := by decide +kernel
theorem dX2_init_28 : decode cX2_init 28 = .ok (.return_, 1) := by decide +kernel
theorem dX2_forgetAll_0 : decode cX2_forgetAll 0 = .ok (.aload_n 0, 1) := by decide +kernel
theorem dX2_forgetAll_1 : decode cX2_forgetAll 1 = .ok (.iconst 0, 1) := by decide +kernel
theorem dX2_forgetAll_2 : decode cX2_forgetAll 2 = .ok (.putfield 21, 3) := by decide +kernel
theorem dX2_forgetAll_5 : decode cX2_forgetAll 5 = .ok (.return_, 1) := by decide +kernel
theorem dX2_add_0 : decode cX2_add 0 = .ok (.aload_n 0, 1) := by decide +kernel
theorem dX2_add_1 : decode cX2_add 1 = .ok (.getfield 21, 3) := by decide +kernel
theorem dX2_add_4 : decode cX2_add 4 = .ok (.ifCond .lt 12, 3) := by decide +kernel
theorem dX2_add_7 : decode cX2_add 7 = .ok (.aload_n 0, 1) := by decide +kernel
theorem dX2_add_8 : decode cX2_add 8 = .ok (.getfield 21, 3) := by decide +kernel
theorem dX2_add_11 : decode cX2_add 11 = .ok (.bipush 8, 2) := by decide +kernel
theorem dX2_add_13 : decode cX2_add 13 = .ok (.if_icmp .lt 6, 3) := by decide +kernel
theorem dX2_add_16 : decode cX2_add 16 = .ok (.bipush (-4), 2) := by decide +kernel
theorem dX2_add_18 : decode cX2_add 18 = .ok (.ireturn, 1) := by decide +kernel
theorem dX2_add_19 : decode cX2_add 19 = .ok (.aload_n 0, 1) := by decide +kernel
theorem dX2_add_20 : decode cX2_add 20 = .ok (.getfield 9, 3) := by decide +kernel
theorem dX2_add_23 : decode cX2_add 23 = .ok (.aload_n 0, 1) := by decide +kernel
theorem dX2_add_24 : decode cX2_add 24 = .ok (.getfield 21, 3) := by decide +kernel
theorem dX2_add_27 : decode cX2_add 27 = .ok (.iload_n 1, 1) := by decide +kernel
theorem dX2_add_28 : decode cX2_add 28 = .ok (.iastore, 1) := by decide +kernel
theorem dX2_add_29 : decode cX2_add 29 = .ok (.aload_n 0, 1) := by decide +kernel
theorem dX2_add_30 : decode cX2_add 30 = .ok (.getfield 15, 3) := by decide +kernel
theorem dX2_add_33 : decode cX2_add 33 = .ok (.aload_n 0, 1) := by decide +kernel
theorem dX2_add_34 : decode cX2_add 34 = .ok (.getfield 21, 3) := by decide +kernel
theorem dX2_add_37 : decode cX2_add 37 = .ok (.iload_n 2, 1) := by decide +kernel
theorem dX2_add_38 : decode cX2_add 38 = .ok (.iastore, 1) := by decide +kernel
theorem dX2_add_39 : decode cX2_add 39 = .ok (.aload_n 0, 1) := by decide +kernel
theorem dX2_add_40 : decode cX2_add 40 = .ok (.getfield 18, 3) := by decide +kernel
theorem dX2_add_43 : decode cX2_add 43 = .ok (.aload_n 0, 1) := by decide +kernel
theorem dX2_add_44 : decode cX2_add 44 = .ok (.getfield 21, 3) := by decide +kernel
theorem dX2_add_47 : decode cX2_add 47 = .ok (.iload_n 3, 1) := by decide +kernel
theorem dX2_add_48 : decode cX2_add 48 = .ok (.iastore, 1) := by decide +kernel
theorem dX2_add_49 : decode cX2_add 49 = .ok (.aload_n 0, 1) := by decide +kernel
theorem dX2_add_50 : decode cX2_add 50 = .ok (.dup, 1) := by decide +kernel
theorem dX2_add_51 : decode cX2_add 51 = .ok (.getfield 21, 3) := by decide +kernel
theorem dX2_add_54 : decode cX2_add 54 = .ok (.iconst 1, 1) := by decide +kernel
theorem dX2_add_55 : decode cX2_add 55 = .ok (.iadd, 1) := by decide +kernel
theorem dX2_add_56 : decode cX2_add 56 = .ok (.putfield 21, 3) := by decide +kernel
theorem dX2_add_59 : decode cX2_add 59 = .ok (.aload_n 0, 1) := by decide +kernel
theorem dX2_add_60 : decode cX2_add 60 = .ok (.getfield 21, 3) := by decide +kernel
theorem dX2_add_63 : decode cX2_add 63 = .ok (.iconst 1, 1) := by decide +kernel
theorem dX2_add_64 : decode cX2_add 64 = .ok (.isub, 1) := by decide +kernel
theorem dX2_add_65 : decode cX2_add 65 = .ok (.ireturn, 1) := by decide +kernel
theorem dX2_areSo_0 : decode cX2_areSo 0 = .ok (.iconst 0, 1) := by decide +kernel
theorem dX2_areSo_1 : decode cX2_areSo 1 = .ok (.istore_n 3, 1) := by decide +kernel
theorem dX2_areSo_2 : decode cX2_areSo 2 = .ok (.iload_n 3, 1) := by decide +kernel
theorem dX2_areSo_3 : decode cX2_areSo 3 = .ok (.aload_n 0, 1) := by decide +kernel
theorem dX2_areSo_4 : decode cX2_areSo 4 = .ok (.getfield 21, 3) := by decide +kernel
theorem dX2_areSo_7 : decode cX2_areSo 7 = .ok (.if_icmp .ge 62, 3) := by decide +kernel
theorem dX2_areSo_10 : decode cX2_areSo 10 = .ok (.aload_n 0, 1) := by decide +kernel
theorem dX2_areSo_11 : decode cX2_areSo 11 = .ok (.getfield 9, 3) := by decide +kernel
theorem dX2_areSo_14 : decode cX2_areSo 14 = .ok (.iload_n 3, 1) := by decide +kernel
theorem dX2_areSo_15 : decode cX2_areSo 15 = .ok (.iaload, 1) := by decide +kernel
theorem dX2_areSo_16 : decode cX2_areSo 16 = .ok (.istore 4, 2) := by decide +kernel
theorem dX2_areSo_18 : decode cX2_areSo 18 = .ok (.aload_n 1, 1) := by decide +kernel
theorem dX2_areSo_19 : decode cX2_areSo 19 = .ok (.iload 4, 2) := by decide +kernel
theorem dX2_areSo_21 : decode cX2_areSo 21 = .ok (.invokevirtual 25, 3) := by decide +kernel
theorem dX2_areSo_24 : decode cX2_areSo 24 = .ok (.ifCond .ne 5, 3) := by decide +kernel
theorem dX2_areSo_27 : decode cX2_areSo 27 = .ok (.iconst 0, 1) := by decide +kernel
theorem dX2_areSo_28 : decode cX2_areSo 28 = .ok (.ireturn, 1) := by decide +kernel
theorem dX2_areSo_29 : decode cX2_areSo 29 = .ok (.aload_n 2, 1) := by decide +kernel
theorem dX2_areSo_30 : decode cX2_areSo 30 = .ok (.aload_n 1, 1) := by decide +kernel
theorem dX2_areSo_31 : decode cX2_areSo 31 = .ok (.getfield 31, 3) := by decide +kernel
theorem dX2_areSo_34 : decode cX2_areSo 34 = .ok (.iload 4, 2) := by decide +kernel
theorem dX2_areSo_36 : decode cX2_areSo 36 = .ok (.iaload, 1) := by decide +kernel
theorem dX2_areSo_37 : decode cX2_areSo 37 = .ok (.aload_n 1, 1) := by decide +kernel
theorem dX2_areSo_38 : decode cX2_areSo 38 = .ok (.iload 4, 2) := by decide +kernel
theorem dX2_areSo_40 : decode cX2_areSo 40 = .ok (.invokevirtual 34, 3) := by decide +kernel
theorem dX2_areSo_43 : decode cX2_areSo 43 = .ok (.aload_n 0, 1) := by decide +kernel
theorem dX2_areSo_44 : decode cX2_areSo 44 = .ok (.getfield 15, 3) := by decide +kernel
theorem dX2_areSo_47 : decode cX2_areSo 47 = .ok (.iload_n 3, 1) := by decide +kernel
theorem dX2_areSo_48 : decode cX2_areSo 48 = .ok (.iaload, 1) := by decide +kernel
theorem dX2_areSo_49 : decode cX2_areSo 49 = .ok (.invokevirtual 38, 3) := by decide +kernel
theorem dX2_areSo_52 : decode cX2_areSo 52 = .ok (.aload_n 0, 1) := by decide +kernel
theorem dX2_areSo_53 : decode cX2_areSo 53 = .ok (.getfield 18, 3) := by decide +kernel
theorem dX2_areSo_56 : decode cX2_areSo 56 = .ok (.iload_n 3, 1) := by decide +kernel
theorem dX2_areSo_57 : decode cX2_areSo 57 = .ok (.iaload, 1) := by decide +kernel
theorem dX2_areSo_58 : decode cX2_areSo 58 = .ok (.if_icmp .eq 5, 3) := by decide +kernel
theorem dX2_areSo_61 : decode cX2_areSo 61 = .ok (.iconst 0, 1) := by decide +kernel
theorem dX2_areSo_62 : decode cX2_areSo 62 = .ok (.ireturn, 1) := by decide +kernel
theorem dX2_areSo_63 : decode cX2_areSo 63 = .ok (.iinc 3 1, 3) := by decide +kernel
theorem dX2_areSo_66 : decode cX2_areSo 66 = .ok (.goto (-64), 3) := by decide +kernel
theorem dX2_areSo_69 : decode cX2_areSo 69 = .ok (.iconst 1, 1) := by decide +kernel
theorem dX2_areSo_70 : decode cX2_areSo 70 = .ok (.ireturn, 1) := by decide +kernel
theorem dX3_init_0 : decode cX3_init 0 = .ok (.aload_n 0, 1) := by decide +kernel
theorem dX3_init_1 : decode cX3_init 1 = .ok (.invokespecial 3, 3) := by decide +kernel
theorem dX3_init_4 : decode cX3_init 4 = .ok (.aload_n 0, 1) := by decide +kernel
theorem dX3_init_5 : decode cX3_init 5 = .ok (.bipush 60, 2) := by decide +kernel
theorem dX3_init_7 : decode cX3_init 7 = .ok (.newarray .int, 2) := by decide +kernel
theorem dX3_init_9 : decode cX3_init 9 = .ok (.putfield 9, 3) := by decide +kernel
theorem dX3_init_12 : decode cX3_init 12 = .ok (.return_, 1) := by decide +kernel
theorem dX3_renew_0 : decode cX3_renew 0 = .ok (.aload_n 0, 1) := by decide +kernel
theorem dX3_renew_1 : decode cX3_renew 1 = .ok (.iconst 1, 1) := by decide +kernel
theorem dX3_renew_2 : decode cX3_renew 2 = .ok (.putfield 15, 3) := by decide +kernel
theorem dX3_renew_5 : decode cX3_renew 5 = .ok (.aload_n 0, 1) := by decide +kernel
theorem dX3_renew_6 : decode cX3_renew 6 = .ok (.iload_n 1, 1) := by decide +kernel
theorem dX3_renew_7 : decode cX3_renew 7 = .ok (.putfield 19, 3) := by decide +kernel
theorem dX3_renew_10 : decode cX3_renew 10 = .ok (.aload_n 0, 1) := by decide +kernel
theorem dX3_renew_11 : decode cX3_renew 11 = .ok (.iload_n 2, 1) := by decide +kernel
theorem dX3_renew_12 : decode cX3_renew 12 = .ok (.putfield 23, 3) := by decide +kernel
theorem dX3_renew_15 : decode cX3_renew 15 = .ok (.aload_n 0, 1) := by decide +kernel
theorem dX3_renew_16 : decode cX3_renew 16 = .ok (.getfield 9, 3) := by decide +kernel
theorem dX3_renew_19 : decode cX3_renew 19 = .ok (.iconst 0, 1) := by decide +kernel
theorem dX3_renew_20 : decode cX3_renew 20 = .ok (.invokestatic 26, 3) := by decide +kernel
theorem dX3_renew_23 : decode cX3_renew 23 = .ok (.return_, 1) := by decide +kernel
theorem dX3_empty_0 : decode cX3_empty 0 = .ok (.aload_n 0, 1) := by decide +kernel
theorem dX3_empty_1 : decode cX3_empty 1 = .ok (.getfield 15, 3) := by decide +kernel
theorem dX3_empty_4 : decode cX3_empty 4 = .ok (.istore_n 1, 1) := by decide +kernel
theorem dX3_empty_5 : decode cX3_empty 5 = .ok (.aload_n 0, 1) := by decide +kernel
theorem dX3_empty_6 : decode cX3_empty 6 = .ok (.iconst 0, 1) := by decide +kernel
theorem dX3_empty_7 : decode cX3_empty 7 = .ok (.putfield 15, 3) := by decide +kernel
theorem dX3_empty_10 : decode cX3_empty 10 = .ok (.aload_n 0, 1) := by decide +kernel
theorem dX3_empty_11 : decode cX3_empty 11 = .ok (.iconst 0, 1) := by decide +kernel
theorem dX3_empty_12 : decode cX3_empty 12 = .ok (.putfield 23, 3) := by decide +kernel
theorem dX3_empty_15 : decode cX3_empty 15 = .ok (.iload_n 1, 1) := by decide +kernel
theorem dX3_empty_16 : decode cX3_empty 16 = .ok (.ireturn, 1) := by decide +kernel
theorem dX3_faultOfTaking_0 : decode cX3_faultOfTaking 0 = .ok (.aload_n 0, 1) := by decide +kernel
theorem dX3_faultOfTaking_1 : decode cX3_faultOfTaking 1 = .ok (.getfield 15, 3) := by decide +kernel
theorem dX3_faultOfTaking_4 : decode cX3_faultOfTaking 4 = .ok (.ifCond .eq 13, 3) := by decide +kernel
theorem dX3_faultOfTaking_7 : decode cX3_faultOfTaking 7 = .ok (.aload_n 0, 1) := by decide +kernel
theorem dX3_faultOfTaking_8 : decode cX3_faultOfTaking 8 = .ok (.getfield 19, 3) := by decide +kernel
theorem dX3_faultOfTaking_11 : decode cX3_faultOfTaking 11 = .ok (.iload_n 1, 1) := by decide +kernel
theorem dX3_faultOfTaking_12 : decode cX3_faultOfTaking 12 = .ok (.if_icmp .eq 5, 3) := by decide +kernel
theorem dX3_faultOfTaking_15 : decode cX3_faultOfTaking 15 = .ok (.iconst 2, 1) := by decide +kernel
theorem dX3_faultOfTaking_16 : decode cX3_faultOfTaking 16 = .ok (.ireturn, 1) := by decide +kernel
theorem dX3_faultOfTaking_17 : decode cX3_faultOfTaking 17 = .ok (.aload_n 0, 1) := by decide +kernel
theorem dX3_faultOfTaking_18 : decode cX3_faultOfTaking 18 = .ok (.getfield 15, 3) := by decide +kernel
theorem dX3_faultOfTaking_21 : decode cX3_faultOfTaking 21 = .ok (.ifCond .ne 5, 3) := by decide +kernel
theorem dX3_faultOfTaking_24 : decode cX3_faultOfTaking 24 = .ok (.iconst 1, 1) := by decide +kernel
theorem dX3_faultOfTaking_25 : decode cX3_faultOfTaking 25 = .ok (.ireturn, 1) := by decide +kernel
theorem dX3_faultOfTaking_26 : decode cX3_faultOfTaking 26 = .ok (.iload_n 3, 1) := by decide +kernel
theorem dX3_faultOfTaking_27 : decode cX3_faultOfTaking 27 = .ok (.ifCond .ge 5, 3) := by decide +kernel
theorem dX3_faultOfTaking_30 : decode cX3_faultOfTaking 30 = .ok (.iconst 4, 1) := by decide +kernel
theorem dX3_faultOfTaking_31 : decode cX3_faultOfTaking 31 = .ok (.ireturn, 1) := by decide +kernel
theorem dX3_faultOfTaking_32 : decode cX3_faultOfTaking 32 = .ok (.aload_n 0, 1) := by decide +kernel
theorem dX3_faultOfTaking_33 : decode cX3_faultOfTaking 33 = .ok (.iload_n 2, 1) := by decide +kernel
theorem dX3_faultOfTaking_34 : decode cX3_faultOfTaking 34 = .ok (.iload_n 3, 1) := by decide +kernel
theorem dX3_faultOfTaking_35 : decode cX3_faultOfTaking 35 = .ok (.invokevirtual 32, 3) := by decide +kernel
theorem dX3_faultOfTaking_38 : decode cX3_faultOfTaking 38 = .ok (.ifCond .eq 7, 3) := by decide +kernel
theorem dX3_faultOfTaking_41 : decode cX3_faultOfTaking 41 = .ok (.iconst 0, 1) := by decide +kernel
theorem dX3_faultOfTaking_42 : decode cX3_faultOfTaking 42 = .ok (.goto 4, 3) := by decide +kernel
theorem dX3_faultOfTaking_45 : decode cX3_faultOfTaking 45 = .ok (.iconst 3, 1) := by decide +kernel
theorem dX3_faultOfTaking_46 : decode cX3_faultOfTaking 46 = .ok (.ireturn, 1) := by decide +kernel
theorem dX3_reaches_0 : decode cX3_reaches 0 = .ok (.iload_n 1, 1) := by decide +kernel
theorem dX3_reaches_1 : decode cX3_reaches 1 = .ok (.ifCond .lt 29, 3) := by decide +kernel
theorem dX3_reaches_4 : decode cX3_reaches 4 = .ok (.iload_n 1, 1) := by decide +kernel
theorem dX3_reaches_5 : decode cX3_reaches 5 = .ok (.aload_n 0, 1) := by decide +kernel
theorem dX3_reaches_6 : decode cX3_reaches 6 = .ok (.getfield 23, 3) := by decide +kernel
theorem dX3_reaches_9 : decode cX3_reaches 9 = .ok (.if_icmp .gt 21, 3) := by decide +kernel
theorem dX3_reaches_12 : decode cX3_reaches 12 = .ok (.iload_n 2, 1) := by decide +kernel
theorem dX3_reaches_13 : decode cX3_reaches 13 = .ok (.ifCond .lt 17, 3) := by decide +kernel
theorem dX3_reaches_16 : decode cX3_reaches 16 = .ok (.iload_n 2, 1) := by decide +kernel
theorem dX3_reaches_17 : decode cX3_reaches 17 = .ok (.aload_n 0, 1) := by decide +kernel
theorem dX3_reaches_18 : decode cX3_reaches 18 = .ok (.getfield 23, 3) := by decide +kernel
theorem dX3_reaches_21 : decode cX3_reaches 21 = .ok (.iload_n 1, 1) := by decide +kernel
theorem dX3_reaches_22 : decode cX3_reaches 22 = .ok (.isub, 1) := by decide +kernel
theorem dX3_reaches_23 : decode cX3_reaches 23 = .ok (.if_icmp .gt 7, 3) := by decide +kernel
theorem dX3_reaches_26 : decode cX3_reaches 26 = .ok (.iconst 1, 1) := by decide +kernel
theorem dX3_reaches_27 : decode cX3_reaches 27 = .ok (.goto 4, 3) := by decide +kernel
theorem dX3_reaches_30 : decode cX3_reaches 30 = .ok (.iconst 0, 1) := by decide +kernel
theorem dX3_reaches_31 : decode cX3_reaches 31 = .ok (.ireturn, 1) := by decide +kernel
theorem dX3_at_0 : decode cX3_at 0 = .ok (.iload_n 1, 1) := by decide +kernel
theorem dX3_at_1 : decode cX3_at 1 = .ok (.ifCond .lt 20, 3) := by decide +kernel
theorem dX3_at_4 : decode cX3_at 4 = .ok (.iload_n 1, 1) := by decide +kernel
theorem dX3_at_5 : decode cX3_at 5 = .ok (.aload_n 0, 1) := by decide +kernel
theorem dX3_at_6 : decode cX3_at 6 = .ok (.getfield 23, 3) := by decide +kernel
theorem dX3_at_9 : decode cX3_at 9 = .ok (.if_icmp .ge 12, 3) := by decide +kernel
theorem dX3_at_12 : decode cX3_at 12 = .ok (.aload_n 0, 1) := by decide +kernel
theorem dX3_at_13 : decode cX3_at 13 = .ok (.getfield 9, 3) := by decide +kernel
theorem dX3_at_16 : decode cX3_at 16 = .ok (.iload_n 1, 1) := by decide +kernel
theorem dX3_at_17 : decode cX3_at 17 = .ok (.iaload, 1) := by decide +kernel
theorem dX3_at_18 : decode cX3_at 18 = .ok (.goto 4, 3) := by decide +kernel
theorem dX3_at_21 : decode cX3_at 21 = .ok (.iconst 0, 1) := by decide +kernel
theorem dX3_at_22 : decode cX3_at 22 = .ok (.ireturn, 1) := by decide +kernel
theorem dX3_write_0 : decode cX3_write 0 = .ok (.iload_n 1, 1) := by decide +kernel
theorem dX3_write_1 : decode cX3_write 1 = .ok (.ifCond .lt 22, 3) := by decide +kernel
theorem dX3_write_4 : decode cX3_write 4 = .ok (.iload_n 1, 1) := by decide +kernel
theorem dX3_write_5 : decode cX3_write 5 = .ok (.aload_n 0, 1) := by decide +kernel
theorem dX3_write_6 : decode cX3_write 6 = .ok (.getfield 23, 3) := by decide +kernel
theorem dX3_write_9 : decode cX3_write 9 = .ok (.if_icmp .ge 14, 3) := by decide +kernel
theorem dX3_write_12 : decode cX3_write 12 = .ok (.aload_n 0, 1) := by decide +kernel
theorem dX3_write_13 : decode cX3_write 13 = .ok (.getfield 9, 3) := by decide +kernel
theorem dX3_write_16 : decode cX3_write 16 = .ok (.iload_n 1, 1) := by decide +kernel
theorem dX3_write_17 : decode cX3_write 17 = .ok (.aload_n 0, 1) := by decide +kernel
theorem dX3_write_18 : decode cX3_write 18 = .ok (.iload_n 2, 1) := by decide +kernel
theorem dX3_write_19 : decode cX3_write 19 = .ok (.invokevirtual 36, 3) := by decide +kernel
theorem dX3_write_22 : decode cX3_write 22 = .ok (.iastore, 1) := by decide +kernel
theorem dX3_write_23 : decode cX3_write 23 = .ok (.return_, 1) := by decide +kernel
theorem dX3_cut_0 : decode cX3_cut 0 = .ok (.aload_n 0, 1) := by decide +kernel
theorem dX3_cut_1 : decode cX3_cut 1 = .ok (.getfield 19, 3) := by decide +kernel
theorem dX3_cut_4 : decode cX3_cut 4 = .ok (.lookupswitch 34 #[(0, 28), (1, 31)], 28) := by decide +kernel
theorem dX3_cut_32 : decode cX3_cut 32 = .ok (.iload_n 1, 1) := by decide +kernel
theorem dX3_cut_33 : decode cX3_cut 33 = .ok (.i2b, 1) := by decide +kernel
theorem dX3_cut_34 : decode cX3_cut 34 = .ok (.ireturn, 1) := by decide +kernel
theorem dX3_cut_35 : decode cX3_cut 35 = .ok (.iload_n 1, 1) := by decide +kernel
theorem dX3_cut_36 : decode cX3_cut 36 = .ok (.i2s, 1) := by decide +kernel
theorem dX3_cut_37 : decode cX3_cut 37 = .ok (.ireturn, 1) := by decide +kernel
theorem dX3_cut_38 : decode cX3_cut 38 = .ok (.iload_n 1, 1) := by decide +kernel
theorem dX3_cut_39 : decode cX3_cut 39 = .ok (.ireturn, 1) := by decide +kernel
theorem dX4_firstFault_0 : decode cX4_firstFault 0 = .ok (.iconst 0, 1) := by decide +kernel
theorem dX4_firstFault_1 : decode cX4_firstFault 1 = .ok (.istore_n 3, 1) := by decide +kernel
theorem dX4_firstFault_2 : decode cX4_firstFault 2 = .ok (.iload_n 3, 1) := by decide +kernel
theorem dX4_firstFault_3 : decode cX4_firstFault 3 = .ok (.iload_n 2, 1) := by decide +kernel
theorem dX4_firstFault_4 : decode cX4_firstFault 4 = .ok (.if_icmp .ge 20, 3) := by decide +kernel
theorem dX4_firstFault_7 : decode cX4_firstFault 7 = .ok (.aload_n 0, 1) := by decide +kernel
theorem dX4_firstFault_8 : decode cX4_firstFault 8 = .ok (.iload_n 1, 1) := by decide +kernel
theorem dX4_firstFault_9 : decode cX4_firstFault 9 = .ok (.iload_n 3, 1) := by decide +kernel
theorem dX4_firstFault_10 : decode cX4_firstFault 10 = .ok (.invokestatic 9, 3) := by decide +kernel
theorem dX4_firstFault_13 : decode cX4_firstFault 13 = .ok (.ifCond .ne 5, 3) := by decide +kernel
theorem dX4_firstFault_16 : decode cX4_firstFault 16 = .ok (.iload_n 3, 1) := by decide +kernel
theorem dX4_firstFault_17 : decode cX4_firstFault 17 = .ok (.ireturn, 1) := by decide +kernel
theorem dX4_firstFault_18 : decode cX4_firstFault 18 = .ok (.iinc 3 1, 3) := by decide +kernel
theorem dX4_firstFault_21 : decode cX4_firstFault 21 = .ok (.goto (-19), 3) := by decide +kernel
theorem dX4_firstFault_24 : decode cX4_firstFault 24 = .ok (.iload_n 2, 1) := by decide +kernel
theorem dX4_firstFault_25 : decode cX4_firstFault 25 = .ok (.iconst 4, 1) := by decide +kernel
theorem dX4_firstFault_26 : decode cX4_firstFault 26 = .ok (.if_icmp .le 15, 3) := by decide +kernel
theorem dX4_firstFault_29 : decode cX4_firstFault 29 = .ok (.iload_n 2, 1) := by decide +kernel
theorem dX4_firstFault_30 : decode cX4_firstFault 30 = .ok (.iconst 4, 1) := by decide +kernel
theorem dX4_firstFault_31 : decode cX4_firstFault 31 = .ok (.isub, 1) := by decide +kernel
theorem dX4_firstFault_32 : decode cX4_firstFault 32 = .ok (.iconst 5, 1) := by decide +kernel
theorem dX4_firstFault_33 : decode cX4_firstFault 33 = .ok (.irem, 1) := by decide +kernel
theorem dX4_firstFault_34 : decode cX4_firstFault 34 = .ok (.ifCond .ne 7, 3) := by decide +kernel
theorem dX4_firstFault_37 : decode cX4_firstFault 37 = .ok (.iconst 1, 1) := by decide +kernel
theorem dX4_firstFault_38 : decode cX4_firstFault 38 = .ok (.goto 4, 3) := by decide +kernel
theorem dX4_firstFault_41 : decode cX4_firstFault 41 = .ok (.iconst 0, 1) := by decide +kernel
theorem dX4_firstFault_42 : decode cX4_firstFault 42 = .ok (.istore_n 3, 1) := by decide +kernel
theorem dX4_firstFault_43 : decode cX4_firstFault 43 = .ok (.iload_n 3, 1) := by decide +kernel
theorem dX4_firstFault_44 : decode cX4_firstFault 44 = .ok (.ifCond .eq 8, 3) := by decide +kernel
theorem dX4_firstFault_47 : decode cX4_firstFault 47 = .ok (.bipush (-9), 2) := by decide +kernel
theorem dX4_firstFault_49 : decode cX4_firstFault 49 = .ok (.goto 4, 3) := by decide +kernel
theorem dX4_firstFault_52 : decode cX4_firstFault 52 = .ok (.iload_n 2, 1) := by decide +kernel
theorem dX4_firstFault_53 : decode cX4_firstFault 53 = .ok (.ireturn, 1) := by decide +kernel
theorem dX4_goesOn_0 : decode cX4_goesOn 0 = .ok (.aload_n 0, 1) := by decide +kernel
theorem dX4_goesOn_1 : decode cX4_goesOn 1 = .ok (.iload_n 1, 1) := by decide +kernel
theorem dX4_goesOn_2 : decode cX4_goesOn 2 = .ok (.iload_n 2, 1) := by decide +kernel
theorem dX4_goesOn_3 : decode cX4_goesOn 3 = .ok (.iadd, 1) := by decide +kernel
theorem dX4_goesOn_4 : decode cX4_goesOn 4 = .ok (.invokevirtual 15, 3) := by decide +kernel
theorem dX4_goesOn_7 : decode cX4_goesOn 7 = .ok (.istore_n 3, 1) := by decide +kernel
theorem dX4_goesOn_8 : decode cX4_goesOn 8 = .ok (.iload_n 2, 1) := by decide +kernel
theorem dX4_goesOn_9 : decode cX4_goesOn 9 = .ok (.ifCond .ne 15, 3) := by decide +kernel
theorem dX4_goesOn_12 : decode cX4_goesOn 12 = .ok (.iload_n 3, 1) := by decide +kernel
theorem dX4_goesOn_13 : decode cX4_goesOn 13 = .ok (.bipush 103, 2) := by decide +kernel
theorem dX4_goesOn_15 : decode cX4_goesOn 15 = .ok (.if_icmp .ne 7, 3) := by decide +kernel
theorem dX4_goesOn_18 : decode cX4_goesOn 18 = .ok (.iconst 1, 1) := by decide +kernel
theorem dX4_goesOn_19 : decode cX4_goesOn 19 = .ok (.goto 4, 3) := by decide +kernel
theorem dX4_goesOn_22 : decode cX4_goesOn 22 = .ok (.iconst 0, 1) := by decide +kernel
theorem dX4_goesOn_23 : decode cX4_goesOn 23 = .ok (.ireturn, 1) := by decide +kernel
theorem dX4_goesOn_24 : decode cX4_goesOn 24 = .ok (.iload_n 2, 1) := by decide +kernel
theorem dX4_goesOn_25 : decode cX4_goesOn 25 = .ok (.iconst 4, 1) := by decide +kernel
theorem dX4_goesOn_26 : decode cX4_goesOn 26 = .ok (.if_icmp .ge 16, 3) := by decide +kernel
theorem dX4_goesOn_29 : decode cX4_goesOn 29 = .ok (.iload_n 3, 1) := by decide +kernel
theorem dX4_goesOn_30 : decode cX4_goesOn 30 = .ok (.bipush 48, 2) := by decide +kernel
theorem dX4_goesOn_32 : decode cX4_goesOn 32 = .ok (.aload_n 0, 1) := by decide +kernel
theorem dX4_goesOn_33 : decode cX4_goesOn 33 = .ok (.iload_n 1, 1) := by decide +kernel
theorem dX4_goesOn_34 : decode cX4_goesOn 34 = .ok (.iload_n 2, 1) := by decide +kernel
theorem dX4_goesOn_35 : decode cX4_goesOn 35 = .ok (.invokestatic 21, 3) := by decide +kernel
theorem dX4_goesOn_38 : decode cX4_goesOn 38 = .ok (.invokestatic 25, 3) := by decide +kernel
theorem dX4_goesOn_41 : decode cX4_goesOn 41 = .ok (.ireturn, 1) := by decide +kernel
theorem dX4_goesOn_42 : decode cX4_goesOn 42 = .ok (.iload_n 2, 1) := by decide +kernel
theorem dX4_goesOn_43 : decode cX4_goesOn 43 = .ok (.bipush 34, 2) := by decide +kernel
theorem dX4_goesOn_45 : decode cX4_goesOn 45 = .ok (.if_icmp .lt 5, 3) := by decide +kernel
theorem dX4_goesOn_48 : decode cX4_goesOn 48 = .ok (.iconst 0, 1) := by decide +kernel
theorem dX4_goesOn_49 : decode cX4_goesOn 49 = .ok (.ireturn, 1) := by decide +kernel
theorem dX4_goesOn_50 : decode cX4_goesOn 50 = .ok (.iload_n 2, 1) := by decide +kernel
theorem dX4_goesOn_51 : decode cX4_goesOn 51 = .ok (.iconst 4, 1) := by decide +kernel
theorem dX4_goesOn_52 : decode cX4_goesOn 52 = .ok (.isub, 1) := by decide +kernel
theorem dX4_goesOn_53 : decode cX4_goesOn 53 = .ok (.iconst 5, 1) := by decide +kernel
theorem dX4_goesOn_54 : decode cX4_goesOn 54 = .ok (.irem, 1) := by decide +kernel
theorem dX4_goesOn_55 : decode cX4_goesOn 55 = .ok (.tableswitch 69 0 4 #[33, 45, 69, 69, 60], 33) := by decide +kernel
theorem dX4_goesOn_88 : decode cX4_goesOn 88 = .ok (.iload_n 3, 1) := by decide +kernel
theorem dX4_goesOn_89 : decode cX4_goesOn 89 = .ok (.bipush 59, 2) := by decide +kernel
theorem dX4_goesOn_91 : decode cX4_goesOn 91 = .ok (.if_icmp .ne 7, 3) := by decide +kernel
theorem dX4_goesOn_94 : decode cX4_goesOn 94 = .ok (.iconst 1, 1) := by decide +kernel
theorem dX4_goesOn_95 : decode cX4_goesOn 95 = .ok (.goto 4, 3) := by decide +kernel
theorem dX4_goesOn_98 : decode cX4_goesOn 98 = .ok (.iconst 0, 1) := by decide +kernel
theorem dX4_goesOn_99 : decode cX4_goesOn 99 = .ok (.ireturn, 1) := by decide +kernel
theorem dX4_goesOn_100 : decode cX4_goesOn 100 = .ok (.iload_n 3, 1) := by decide +kernel
theorem dX4_goesOn_101 : decode cX4_goesOn 101 = .ok (.invokestatic 29, 3) := by decide +kernel
theorem dX4_goesOn_104 : decode cX4_goesOn 104 = .ok (.bipush (-9), 2) := by decide +kernel
theorem dX4_goesOn_106 : decode cX4_goesOn 106 = .ok (.if_icmp .eq 7, 3) := by decide +kernel
theorem dX4_goesOn_109 : decode cX4_goesOn 109 = .ok (.iconst 1, 1) := by decide +kernel
theorem dX4_goesOn_110 : decode cX4_goesOn 110 = .ok (.goto 4, 3) := by decide +kernel
theorem dX4_goesOn_113 : decode cX4_goesOn 113 = .ok (.iconst 0, 1) := by decide +kernel
theorem dX4_goesOn_114 : decode cX4_goesOn 114 = .ok (.ireturn, 1) := by decide +kernel
theorem dX4_goesOn_115 : decode cX4_goesOn 115 = .ok (.iload_n 3, 1) := by decide +kernel
theorem dX4_goesOn_116 : decode cX4_goesOn 116 = .ok (.bipush 49, 2) := by decide +kernel
theorem dX4_goesOn_118 : decode cX4_goesOn 118 = .ok (.bipush 52, 2) := by decide +kernel
theorem dX4_goesOn_120 : decode cX4_goesOn 120 = .ok (.invokestatic 25, 3) := by decide +kernel
theorem dX4_goesOn_123 : decode cX4_goesOn 123 = .ok (.ireturn, 1) := by decide +kernel
theorem dX4_goesOn_124 : decode cX4_goesOn 124 = .ok (.iload_n 3, 1) := by decide +kernel
theorem dX4_goesOn_125 : decode cX4_goesOn 125 = .ok (.bipush 48, 2) := by decide +kernel
theorem dX4_goesOn_127 : decode cX4_goesOn 127 = .ok (.bipush 55, 2) := by decide +kernel
theorem dX4_goesOn_129 : decode cX4_goesOn 129 = .ok (.invokestatic 25, 3) := by decide +kernel
theorem dX4_goesOn_132 : decode cX4_goesOn 132 = .ok (.ireturn, 1) := by decide +kernel
theorem dX4_greatestDigit_0 : decode cX4_greatestDigit 0 = .ok (.iload_n 2, 1) := by decide +kernel
theorem dX4_greatestDigit_1 : decode cX4_greatestDigit 1 = .ok (.iconst 1, 1) := by decide +kernel
theorem dX4_greatestDigit_2 : decode cX4_greatestDigit 2 = .ok (.if_icmp .ne 6, 3) := by decide +kernel
theorem dX4_greatestDigit_5 : decode cX4_greatestDigit 5 = .ok (.bipush 50, 2) := by decide +kernel
theorem dX4_greatestDigit_7 : decode cX4_greatestDigit 7 = .ok (.ireturn, 1) := by decide +kernel
theorem dX4_greatestDigit_8 : decode cX4_greatestDigit 8 = .ok (.aload_n 0, 1) := by decide +kernel
theorem dX4_greatestDigit_9 : decode cX4_greatestDigit 9 = .ok (.iload_n 1, 1) := by decide +kernel
theorem dX4_greatestDigit_10 : decode cX4_greatestDigit 10 = .ok (.iconst 1, 1) := by decide +kernel
theorem dX4_greatestDigit_11 : decode cX4_greatestDigit 11 = .ok (.iadd, 1) := by decide +kernel
theorem dX4_greatestDigit_12 : decode cX4_greatestDigit 12 = .ok (.invokevirtual 15, 3) := by decide +kernel
theorem dX4_greatestDigit_15 : decode cX4_greatestDigit 15 = .ok (.bipush 50, 2) := by decide +kernel
theorem dX4_greatestDigit_17 : decode cX4_greatestDigit 17 = .ok (.if_icmp .ne 24, 3) := by decide +kernel
theorem dX4_greatestDigit_20 : decode cX4_greatestDigit 20 = .ok (.iload_n 2, 1) := by decide +kernel
theorem dX4_greatestDigit_21 : decode cX4_greatestDigit 21 = .ok (.iconst 2, 1) := by decide +kernel
theorem dX4_greatestDigit_22 : decode cX4_greatestDigit 22 = .ok (.if_icmp .eq 15, 3) := by decide +kernel
theorem dX4_greatestDigit_25 : decode cX4_greatestDigit 25 = .ok (.aload_n 0, 1) := by decide +kernel
theorem dX4_greatestDigit_26 : decode cX4_greatestDigit 26 = .ok (.iload_n 1, 1) := by decide +kernel
theorem dX4_greatestDigit_27 : decode cX4_greatestDigit 27 = .ok (.iconst 2, 1) := by decide +kernel
theorem dX4_greatestDigit_28 : decode cX4_greatestDigit 28 = .ok (.iadd, 1) := by decide +kernel
theorem dX4_greatestDigit_29 : decode cX4_greatestDigit 29 = .ok (.invokevirtual 15, 3) := by decide +kernel
theorem dX4_greatestDigit_32 : decode cX4_greatestDigit 32 = .ok (.bipush 53, 2) := by decide +kernel
theorem dX4_greatestDigit_34 : decode cX4_greatestDigit 34 = .ok (.if_icmp .ne 7, 3) := by decide +kernel
theorem dX4_greatestDigit_37 : decode cX4_greatestDigit 37 = .ok (.iconst 1, 1) := by decide +kernel
theorem dX4_greatestDigit_38 : decode cX4_greatestDigit 38 = .ok (.goto 4, 3) := by decide +kernel
theorem dX4_greatestDigit_41 : decode cX4_greatestDigit 41 = .ok (.iconst 0, 1) := by decide +kernel
theorem dX4_greatestDigit_42 : decode cX4_greatestDigit 42 = .ok (.istore_n 3, 1) := by decide +kernel
theorem dX4_greatestDigit_43 : decode cX4_greatestDigit 43 = .ok (.iload_n 3, 1) := by decide +kernel
theorem dX4_greatestDigit_44 : decode cX4_greatestDigit 44 = .ok (.ifCond .eq 8, 3) := by decide +kernel
theorem dX4_greatestDigit_47 : decode cX4_greatestDigit 47 = .ok (.bipush 53, 2) := by decide +kernel
theorem dX4_greatestDigit_49 : decode cX4_greatestDigit 49 = .ok (.goto 5, 3) := by decide +kernel
theorem dX4_greatestDigit_52 : decode cX4_greatestDigit 52 = .ok (.bipush 57, 2) := by decide +kernel
theorem dX4_greatestDigit_54 : decode cX4_greatestDigit 54 = .ok (.ireturn, 1) := by decide +kernel
theorem dX4_isDigit_0 : decode cX4_isDigit 0 = .ok (.iload_n 0, 1) := by decide +kernel
theorem dX4_isDigit_1 : decode cX4_isDigit 1 = .ok (.iload_n 1, 1) := by decide +kernel
theorem dX4_isDigit_2 : decode cX4_isDigit 2 = .ok (.if_icmp .lt 12, 3) := by decide +kernel
theorem dX4_isDigit_5 : decode cX4_isDigit 5 = .ok (.iload_n 0, 1) := by decide +kernel
theorem dX4_isDigit_6 : decode cX4_isDigit 6 = .ok (.iload_n 2, 1) := by decide +kernel
theorem dX4_isDigit_7 : decode cX4_isDigit 7 = .ok (.if_icmp .gt 7, 3) := by decide +kernel
theorem dX4_isDigit_10 : decode cX4_isDigit 10 = .ok (.iconst 1, 1) := by decide +kernel
theorem dX4_isDigit_11 : decode cX4_isDigit 11 = .ok (.goto 4, 3) := by decide +kernel
theorem dX4_isDigit_14 : decode cX4_isDigit 14 = .ok (.iconst 0, 1) := by decide +kernel
theorem dX4_isDigit_15 : decode cX4_isDigit 15 = .ok (.ireturn, 1) := by decide +kernel
theorem dX4_kindBy_0 : decode cX4_kindBy 0 = .ok (.iload_n 0, 1) := by decide +kernel
theorem dX4_kindBy_1 : decode cX4_kindBy 1 = .ok (.lookupswitch 41 #[(98, 35), (104, 39), (110, 37)], 35) := by decide +kernel
theorem dX4_kindBy_36 : decode cX4_kindBy 36 = .ok (.iconst 0, 1) := by decide +kernel
theorem dX4_kindBy_37 : decode cX4_kindBy 37 = .ok (.ireturn, 1) := by decide +kernel
theorem dX4_kindBy_38 : decode cX4_kindBy 38 = .ok (.iconst 1, 1) := by decide +kernel
theorem dX4_kindBy_39 : decode cX4_kindBy 39 = .ok (.ireturn, 1) := by decide +kernel
theorem dX4_kindBy_40 : decode cX4_kindBy 40 = .ok (.iconst 2, 1) := by decide +kernel
theorem dX4_kindBy_41 : decode cX4_kindBy 41 = .ok (.ireturn, 1) := by decide +kernel
theorem dX4_kindBy_42 : decode cX4_kindBy 42 = .ok (.bipush (-9), 2) := by decide +kernel
theorem dX4_kindBy_44 : decode cX4_kindBy 44 = .ok (.ireturn, 1) := by decide +kernel
theorem dX4_digitAt_0 : decode cX4_digitAt 0 = .ok (.aload_n 0, 1) := by decide +kernel
theorem dX4_digitAt_1 : decode cX4_digitAt 1 = .ok (.iload_n 1, 1) := by decide +kernel
theorem dX4_digitAt_2 : decode cX4_digitAt 2 = .ok (.invokevirtual 15, 3) := by decide +kernel
theorem dX4_digitAt_5 : decode cX4_digitAt 5 = .ok (.bipush 48, 2) := by decide +kernel
theorem dX4_digitAt_7 : decode cX4_digitAt 7 = .ok (.isub, 1) := by decide +kernel
theorem dX4_digitAt_8 : decode cX4_digitAt 8 = .ok (.ireturn, 1) := by decide +kernel
theorem dX4_placeOf_0 : decode cX4_placeOf 0 = .ok (.iload_n 0, 1) := by decide +kernel
theorem dX4_placeOf_1 : decode cX4_placeOf 1 = .ok (.iconst 4, 1) := by decide +kernel
theorem dX4_placeOf_2 : decode cX4_placeOf 2 = .ok (.iadd, 1) := by decide +kernel
theorem dX4_placeOf_3 : decode cX4_placeOf 3 = .ok (.iconst 5, 1) := by decide +kernel
theorem dX4_placeOf_4 : decode cX4_placeOf 4 = .ok (.iload_n 1, 1) := by decide +kernel
theorem dX4_placeOf_5 : decode cX4_placeOf 5 = .ok (.imul, 1) := by decide +kernel
theorem dX4_placeOf_6 : decode cX4_placeOf 6 = .ok (.iadd, 1) := by decide +kernel
theorem dX4_placeOf_7 : decode cX4_placeOf 7 = .ok (.ireturn, 1) := by decide +kernel
theorem dX4_lawOf_0 : decode cX4_lawOf 0 = .ok (.bipush 100, 2) := by decide +kernel
theorem dX4_lawOf_2 : decode cX4_lawOf 2 = .ok (.aload_n 0, 1) := by decide +kernel
theorem dX4_lawOf_3 : decode cX4_lawOf 3 = .ok (.iload_n 1, 1) := by decide +kernel
theorem dX4_lawOf_4 : decode cX4_lawOf 4 = .ok (.iconst 1, 1) := by decide +kernel
theorem dX4_lawOf_5 : decode cX4_lawOf 5 = .ok (.iadd, 1) := by decide +kernel
theorem dX4_lawOf_6 : decode cX4_lawOf 6 = .ok (.invokestatic 32, 3) := by decide +kernel
theorem dX4_lawOf_9 : decode cX4_lawOf 9 = .ok (.imul, 1) := by decide +kernel
theorem dX4_lawOf_10 : decode cX4_lawOf 10 = .ok (.bipush 10, 2) := by decide +kernel
theorem dX4_lawOf_12 : decode cX4_lawOf 12 = .ok (.aload_n 0, 1) := by decide +kernel
theorem dX4_lawOf_13 : decode cX4_lawOf 13 = .ok (.iload_n 1, 1) := by decide +kernel
theorem dX4_lawOf_14 : decode cX4_lawOf 14 = .ok (.iconst 2, 1) := by decide +kernel
theorem dX4_lawOf_15 : decode cX4_lawOf 15 = .ok (.iadd, 1) := by decide +kernel
theorem dX4_lawOf_16 : decode cX4_lawOf 16 = .ok (.invokestatic 32, 3) := by decide +kernel
theorem dX4_lawOf_19 : decode cX4_lawOf 19 = .ok (.imul, 1) := by decide +kernel
theorem dX4_lawOf_20 : decode cX4_lawOf 20 = .ok (.iadd, 1) := by decide +kernel
theorem dX4_lawOf_21 : decode cX4_lawOf 21 = .ok (.aload_n 0, 1) := by decide +kernel
theorem dX4_lawOf_22 : decode cX4_lawOf 22 = .ok (.iload_n 1, 1) := by decide +kernel
theorem dX4_lawOf_23 : decode cX4_lawOf 23 = .ok (.iconst 3, 1) := by decide +kernel
theorem dX4_lawOf_24 : decode cX4_lawOf 24 = .ok (.iadd, 1) := by decide +kernel
theorem dX4_lawOf_25 : decode cX4_lawOf 25 = .ok (.invokestatic 32, 3) := by decide +kernel
theorem dX4_lawOf_28 : decode cX4_lawOf 28 = .ok (.iadd, 1) := by decide +kernel
theorem dX4_lawOf_29 : decode cX4_lawOf 29 = .ok (.ireturn, 1) := by decide +kernel
theorem dX4_blocksIn_0 : decode cX4_blocksIn 0 = .ok (.iload_n 0, 1) := by decide +kernel
theorem dX4_blocksIn_1 : decode cX4_blocksIn 1 = .ok (.iconst 4, 1) := by decide +kernel
theorem dX4_blocksIn_2 : decode cX4_blocksIn 2 = .ok (.isub, 1) := by decide +kernel
theorem dX4_blocksIn_3 : decode cX4_blocksIn 3 = .ok (.iconst 5, 1) := by decide +kernel
theorem dX4_blocksIn_4 : decode cX4_blocksIn 4 = .ok (.idiv, 1) := by decide +kernel
theorem dX4_blocksIn_5 : decode cX4_blocksIn 5 = .ok (.ireturn, 1) := by decide +kernel
theorem dX4_kindOf_0 : decode cX4_kindOf 0 = .ok (.aload_n 0, 1) := by decide +kernel
theorem dX4_kindOf_1 : decode cX4_kindOf 1 = .ok (.iload_n 1, 1) := by decide +kernel
theorem dX4_kindOf_2 : decode cX4_kindOf 2 = .ok (.iload_n 2, 1) := by decide +kernel
theorem dX4_kindOf_3 : decode cX4_kindOf 3 = .ok (.invokestatic 36, 3) := by decide +kernel
theorem dX4_kindOf_6 : decode cX4_kindOf 6 = .ok (.iconst 1, 1) := by decide +kernel
theorem dX4_kindOf_7 : decode cX4_kindOf 7 = .ok (.iadd, 1) := by decide +kernel
theorem dX4_kindOf_8 : decode cX4_kindOf 8 = .ok (.invokevirtual 15, 3) := by decide +kernel
theorem dX4_kindOf_11 : decode cX4_kindOf 11 = .ok (.invokestatic 29, 3) := by decide +kernel
theorem dX4_kindOf_14 : decode cX4_kindOf 14 = .ok (.ireturn, 1) := by decide +kernel
theorem dX4_shapeOf_0 : decode cX4_shapeOf 0 = .ok (.bipush 8, 2) := by decide +kernel
theorem dX4_shapeOf_2 : decode cX4_shapeOf 2 = .ok (.aload_n 0, 1) := by decide +kernel
theorem dX4_shapeOf_3 : decode cX4_shapeOf 3 = .ok (.iload_n 1, 1) := by decide +kernel
theorem dX4_shapeOf_4 : decode cX4_shapeOf 4 = .ok (.iload_n 2, 1) := by decide +kernel
theorem dX4_shapeOf_5 : decode cX4_shapeOf 5 = .ok (.invokestatic 36, 3) := by decide +kernel
theorem dX4_shapeOf_8 : decode cX4_shapeOf 8 = .ok (.iconst 2, 1) := by decide +kernel
theorem dX4_shapeOf_9 : decode cX4_shapeOf 9 = .ok (.iadd, 1) := by decide +kernel
theorem dX4_shapeOf_10 : decode cX4_shapeOf 10 = .ok (.invokestatic 32, 3) := by decide +kernel
theorem dX4_shapeOf_13 : decode cX4_shapeOf 13 = .ok (.imul, 1) := by decide +kernel
theorem dX4_shapeOf_14 : decode cX4_shapeOf 14 = .ok (.aload_n 0, 1) := by decide +kernel
theorem dX4_shapeOf_15 : decode cX4_shapeOf 15 = .ok (.iload_n 1, 1) := by decide +kernel
theorem dX4_shapeOf_16 : decode cX4_shapeOf 16 = .ok (.iload_n 2, 1) := by decide +kernel
theorem dX4_shapeOf_17 : decode cX4_shapeOf 17 = .ok (.invokestatic 36, 3) := by decide +kernel
theorem dX4_shapeOf_20 : decode cX4_shapeOf 20 = .ok (.iconst 3, 1) := by decide +kernel
theorem dX4_shapeOf_21 : decode cX4_shapeOf 21 = .ok (.iadd, 1) := by decide +kernel
theorem dX4_shapeOf_22 : decode cX4_shapeOf 22 = .ok (.invokestatic 32, 3) := by decide +kernel
theorem dX4_shapeOf_25 : decode cX4_shapeOf 25 = .ok (.iadd, 1) := by decide +kernel
theorem dX4_shapeOf_26 : decode cX4_shapeOf 26 = .ok (.ireturn, 1) := by decide +kernel
theorem dX4_paceOf_0 : decode cX4_paceOf 0 = .ok (.aload_n 0, 1) := by decide +kernel
theorem dX4_paceOf_1 : decode cX4_paceOf 1 = .ok (.iload_n 1, 1) := by decide +kernel
theorem dX4_paceOf_2 : decode cX4_paceOf 2 = .ok (.iload_n 2, 1) := by decide +kernel
theorem dX4_paceOf_3 : decode cX4_paceOf 3 = .ok (.invokestatic 36, 3) := by decide +kernel
theorem dX4_paceOf_6 : decode cX4_paceOf 6 = .ok (.iconst 4, 1) := by decide +kernel
theorem dX4_paceOf_7 : decode cX4_paceOf 7 = .ok (.iadd, 1) := by decide +kernel
theorem dX4_paceOf_8 : decode cX4_paceOf 8 = .ok (.invokestatic 32, 3) := by decide +kernel
theorem dX4_paceOf_11 : decode cX4_paceOf 11 = .ok (.ireturn, 1) := by decide +kernel
theorem dX5_init_0 : decode cX5_init 0 = .ok (.aload_n 0, 1) := by decide +kernel
theorem dX5_init_1 : decode cX5_init 1 = .ok (.invokespecial 3, 3) := by decide +kernel
theorem dX5_init_4 : decode cX5_init 4 = .ok (.aload_n 0, 1) := by decide +kernel
theorem dX5_init_5 : decode cX5_init 5 = .ok (.new 9, 3) := by decide +kernel
theorem dX5_init_8 : decode cX5_init 8 = .ok (.dup, 1) := by decide +kernel
theorem dX5_init_9 : decode cX5_init 9 = .ok (.invokespecial 11, 3) := by decide +kernel
theorem dX5_init_12 : decode cX5_init 12 = .ok (.putfield 12, 3) := by decide +kernel
theorem dX5_init_15 : decode cX5_init 15 = .ok (.return_, 1) := by decide +kernel
theorem dX5_tells_0 : decode cX5_tells 0 = .ok (.iload_n 0, 1) := by decide +kernel
theorem dX5_tells_1 : decode cX5_tells 1 = .ok (.ifCond .lt 8, 3) := by decide +kernel
theorem dX5_tells_4 : decode cX5_tells 4 = .ok (.iload_n 0, 1) := by decide +kernel
theorem dX5_tells_5 : decode cX5_tells 5 = .ok (.iconst 4, 1) := by decide +kernel
theorem dX5_tells_6 : decode cX5_tells 6 = .ok (.if_icmp .le 15, 3) := by decide +kernel
theorem dX5_tells_9 : decode cX5_tells 9 = .ok (.iload_n 0, 1) := by decide +kernel
theorem dX5_tells_10 : decode cX5_tells 10 = .ok (.bipush 10, 2) := by decide +kernel
theorem dX5_tells_12 : decode cX5_tells 12 = .ok (.if_icmp .lt 13, 3) := by decide +kernel
theorem dX5_tells_15 : decode cX5_tells 15 = .ok (.iload_n 0, 1) := by decide +kernel
theorem dX5_tells_16 : decode cX5_tells 16 = .ok (.bipush 16, 2) := by decide +kernel
theorem dX5_tells_18 : decode cX5_tells 18 = .ok (.if_icmp .ge 7, 3) := by decide +kernel
theorem dX5_tells_21 : decode cX5_tells 21 = .ok (.iconst 1, 1) := by decide +kernel
theorem dX5_tells_22 : decode cX5_tells 22 = .ok (.goto 4, 3) := by decide +kernel
theorem dX5_tells_25 : decode cX5_tells 25 = .ok (.iconst 0, 1) := by decide +kernel
theorem dX5_tells_26 : decode cX5_tells 26 = .ok (.ireturn, 1) := by decide +kernel
theorem dX5_refusalOfPairs_0 : decode cX5_refusalOfPairs 0 = .ok (.iconst 0, 1) := by decide +kernel
theorem dX5_refusalOfPairs_1 : decode cX5_refusalOfPairs 1 = .ok (.istore 4, 2) := by decide +kernel
theorem dX5_refusalOfPairs_3 : decode cX5_refusalOfPairs 3 = .ok (.iload 4, 2) := by decide +kernel
theorem dX5_refusalOfPairs_5 : decode cX5_refusalOfPairs 5 = .ok (.iload_n 3, 1) := by decide +kernel
theorem dX5_refusalOfPairs_6 : decode cX5_refusalOfPairs 6 = .ok (.if_icmp .ge 79, 3) := by decide +kernel
theorem dX5_refusalOfPairs_9 : decode cX5_refusalOfPairs 9 = .ok (.aload_n 1, 1) := by decide +kernel
theorem dX5_refusalOfPairs_10 : decode cX5_refusalOfPairs 10 = .ok (.iload_n 2, 1) := by decide +kernel
theorem dX5_refusalOfPairs_11 : decode cX5_refusalOfPairs 11 = .ok (.iconst 2, 1) := by decide +kernel
theorem dX5_refusalOfPairs_12 : decode cX5_refusalOfPairs 12 = .ok (.iload 4, 2) := by decide +kernel
theorem dX5_refusalOfPairs_14 : decode cX5_refusalOfPairs 14 = .ok (.imul, 1) := by decide +kernel
theorem dX5_refusalOfPairs_15 : decode cX5_refusalOfPairs 15 = .ok (.iadd, 1) := by decide +kernel
theorem dX5_refusalOfPairs_16 : decode cX5_refusalOfPairs 16 = .ok (.invokevirtual 18, 3) := by decide +kernel
theorem dX5_refusalOfPairs_19 : decode cX5_refusalOfPairs 19 = .ok (.istore 5, 2) := by decide +kernel
theorem dX5_refusalOfPairs_21 : decode cX5_refusalOfPairs 21 = .ok (.aload_n 1, 1) := by decide +kernel
theorem dX5_refusalOfPairs_22 : decode cX5_refusalOfPairs 22 = .ok (.iload_n 2, 1) := by decide +kernel
theorem dX5_refusalOfPairs_23 : decode cX5_refusalOfPairs 23 = .ok (.iconst 2, 1) := by decide +kernel
theorem dX5_refusalOfPairs_24 : decode cX5_refusalOfPairs 24 = .ok (.iload 4, 2) := by decide +kernel
theorem dX5_refusalOfPairs_26 : decode cX5_refusalOfPairs 26 = .ok (.imul, 1) := by decide +kernel
theorem dX5_refusalOfPairs_27 : decode cX5_refusalOfPairs 27 = .ok (.iadd, 1) := by decide +kernel
theorem dX5_refusalOfPairs_28 : decode cX5_refusalOfPairs 28 = .ok (.iconst 1, 1) := by decide +kernel
theorem dX5_refusalOfPairs_29 : decode cX5_refusalOfPairs 29 = .ok (.iadd, 1) := by decide +kernel
theorem dX5_refusalOfPairs_30 : decode cX5_refusalOfPairs 30 = .ok (.invokevirtual 18, 3) := by decide +kernel
theorem dX5_refusalOfPairs_33 : decode cX5_refusalOfPairs 33 = .ok (.istore 6, 2) := by decide +kernel
theorem dX5_refusalOfPairs_35 : decode cX5_refusalOfPairs 35 = .ok (.iload 6, 2) := by decide +kernel
theorem dX5_refusalOfPairs_37 : decode cX5_refusalOfPairs 37 = .ok (.invokestatic 24, 3) := by decide +kernel
theorem dX5_refusalOfPairs_40 : decode cX5_refusalOfPairs 40 = .ok (.ifCond .eq 20, 3) := by decide +kernel
theorem dX5_refusalOfPairs_43 : decode cX5_refusalOfPairs 43 = .ok (.iload 6, 2) := by decide +kernel
theorem dX5_refusalOfPairs_45 : decode cX5_refusalOfPairs 45 = .ok (.ifCond .ne 18, 3) := by decide +kernel
theorem dX5_refusalOfPairs_48 : decode cX5_refusalOfPairs 48 = .ok (.iload 5, 2) := by decide +kernel
theorem dX5_refusalOfPairs_50 : decode cX5_refusalOfPairs 50 = .ok (.ifCond .lt 10, 3) := by decide +kernel
theorem dX5_refusalOfPairs_53 : decode cX5_refusalOfPairs 53 = .ok (.iload 5, 2) := by decide +kernel
theorem dX5_refusalOfPairs_55 : decode cX5_refusalOfPairs 55 = .ok (.bipush 99, 2) := by decide +kernel
theorem dX5_refusalOfPairs_57 : decode cX5_refusalOfPairs 57 = .ok (.if_icmp .le 6, 3) := by decide +kernel
theorem dX5_refusalOfPairs_60 : decode cX5_refusalOfPairs 60 = .ok (.bipush (-2), 2) := by decide +kernel
theorem dX5_refusalOfPairs_62 : decode cX5_refusalOfPairs 62 = .ok (.ireturn, 1) := by decide +kernel
theorem dX5_refusalOfPairs_63 : decode cX5_refusalOfPairs 63 = .ok (.iload 6, 2) := by decide +kernel
theorem dX5_refusalOfPairs_65 : decode cX5_refusalOfPairs 65 = .ok (.ifCond .eq 14, 3) := by decide +kernel
theorem dX5_refusalOfPairs_68 : decode cX5_refusalOfPairs 68 = .ok (.aload_n 0, 1) := by decide +kernel
theorem dX5_refusalOfPairs_69 : decode cX5_refusalOfPairs 69 = .ok (.iload 5, 2) := by decide +kernel
theorem dX5_refusalOfPairs_71 : decode cX5_refusalOfPairs 71 = .ok (.invokevirtual 28, 3) := by decide +kernel
theorem dX5_refusalOfPairs_74 : decode cX5_refusalOfPairs 74 = .ok (.ifCond .ne 5, 3) := by decide +kernel
theorem dX5_refusalOfPairs_77 : decode cX5_refusalOfPairs 77 = .ok (.iconst (-1), 1) := by decide +kernel
theorem dX5_refusalOfPairs_78 : decode cX5_refusalOfPairs 78 = .ok (.ireturn, 1) := by decide +kernel
theorem dX5_refusalOfPairs_79 : decode cX5_refusalOfPairs 79 = .ok (.iinc 4 1, 3) := by decide +kernel
theorem dX5_refusalOfPairs_82 : decode cX5_refusalOfPairs 82 = .ok (.goto (-79), 3) := by decide +kernel
theorem dX5_refusalOfPairs_85 : decode cX5_refusalOfPairs 85 = .ok (.iconst 0, 1) := by decide +kernel
theorem dX5_refusalOfPairs_86 : decode cX5_refusalOfPairs 86 = .ok (.ireturn, 1) := by decide +kernel
theorem dX5_isAct_0 : decode cX5_isAct 0 = .ok (.iload_n 0, 1) := by decide +kernel
theorem dX5_isAct_1 : decode cX5_isAct 1 = .ok (.ifCond .lt 8, 3) := by decide +kernel
theorem dX5_isAct_4 : decode cX5_isAct 4 = .ok (.iload_n 0, 1) := by decide +kernel
theorem dX5_isAct_5 : decode cX5_isAct 5 = .ok (.iconst 2, 1) := by decide +kernel
theorem dX5_isAct_6 : decode cX5_isAct 6 = .ok (.if_icmp .le 10, 3) := by decide +kernel
theorem dX5_isAct_9 : decode cX5_isAct 9 = .ok (.iload_n 0, 1) := by decide +kernel
theorem dX5_isAct_10 : decode cX5_isAct 10 = .ok (.invokestatic 31, 3) := by decide +kernel
theorem dX5_isAct_13 : decode cX5_isAct 13 = .ok (.ifCond .eq 7, 3) := by decide +kernel
theorem dX5_isAct_16 : decode cX5_isAct 16 = .ok (.iconst 1, 1) := by decide +kernel
theorem dX5_isAct_17 : decode cX5_isAct 17 = .ok (.goto 4, 3) := by decide +kernel
theorem dX5_isAct_20 : decode cX5_isAct 20 = .ok (.iconst 0, 1) := by decide +kernel
theorem dX5_isAct_21 : decode cX5_isAct 21 = .ok (.ireturn, 1) := by decide +kernel
theorem dX5_isStroke_0 : decode cX5_isStroke 0 = .ok (.iload_n 0, 1) := by decide +kernel
theorem dX5_isStroke_1 : decode cX5_isStroke 1 = .ok (.bipush 10, 2) := by decide +kernel
theorem dX5_isStroke_3 : decode cX5_isStroke 3 = .ok (.if_icmp .lt 13, 3) := by decide +kernel
theorem dX5_isStroke_6 : decode cX5_isStroke 6 = .ok (.iload_n 0, 1) := by decide +kernel
theorem dX5_isStroke_7 : decode cX5_isStroke 7 = .ok (.bipush 16, 2) := by decide +kernel
theorem dX5_isStroke_9 : decode cX5_isStroke 9 = .ok (.if_icmp .ge 7, 3) := by decide +kernel
theorem dX5_isStroke_12 : decode cX5_isStroke 12 = .ok (.iconst 1, 1) := by decide +kernel
theorem dX5_isStroke_13 : decode cX5_isStroke 13 = .ok (.goto 4, 3) := by decide +kernel
theorem dX5_isStroke_16 : decode cX5_isStroke 16 = .ok (.iconst 0, 1) := by decide +kernel
theorem dX5_isStroke_17 : decode cX5_isStroke 17 = .ok (.ireturn, 1) := by decide +kernel
theorem dX5_live_0 : decode cX5_live 0 = .ok (.aload_n 0, 1) := by decide +kernel
theorem dX5_live_1 : decode cX5_live 1 = .ok (.getfield 12, 3) := by decide +kernel
theorem dX5_live_4 : decode cX5_live 4 = .ok (.aload_n 1, 1) := by decide +kernel
theorem dX5_live_5 : decode cX5_live 5 = .ok (.invokevirtual 34, 3) := by decide +kernel
theorem dX5_live_8 : decode cX5_live 8 = .ok (.aload_n 0, 1) := by decide +kernel
theorem dX5_live_9 : decode cX5_live 9 = .ok (.aload_n 1, 1) := by decide +kernel
theorem dX5_live_10 : decode cX5_live 10 = .ok (.getfield 38, 3) := by decide +kernel
theorem dX5_live_13 : decode cX5_live 13 = .ok (.putfield 42, 3) := by decide +kernel
theorem dX5_live_16 : decode cX5_live 16 = .ok (.aload_n 0, 1) := by decide +kernel
theorem dX5_live_17 : decode cX5_live 17 = .ok (.bipush (-9), 2) := by decide +kernel
theorem dX5_live_19 : decode cX5_live 19 = .ok (.putfield 45, 3) := by decide +kernel
theorem dX5_live_22 : decode cX5_live 22 = .ok (.aload_n 0, 1) := by decide +kernel
theorem dX5_live_23 : decode cX5_live 23 = .ok (.iconst 0, 1) := by decide +kernel
theorem dX5_live_24 : decode cX5_live 24 = .ok (.putfield 48, 3) := by decide +kernel
theorem dX5_live_27 : decode cX5_live 27 = .ok (.iconst 0, 1) := by decide +kernel
theorem dX5_live_28 : decode cX5_live 28 = .ok (.istore 6, 2) := by decide +kernel
theorem dX5_live_30 : decode cX5_live 30 = .ok (.iload 6, 2) := by decide +kernel
theorem dX5_live_32 : decode cX5_live 32 = .ok (.iload 5, 2) := by decide +kernel
theorem dX5_live_34 : decode cX5_live 34 = .ok (.if_icmp .ge 78, 3) := by decide +kernel
theorem dX5_live_37 : decode cX5_live 37 = .ok (.aload_n 0, 1) := by decide +kernel
theorem dX5_live_38 : decode cX5_live 38 = .ok (.getfield 45, 3) := by decide +kernel
theorem dX5_live_41 : decode cX5_live 41 = .ok (.bipush (-9), 2) := by decide +kernel
theorem dX5_live_43 : decode cX5_live 43 = .ok (.if_icmp .ne 69, 3) := by decide +kernel
theorem dX5_live_46 : decode cX5_live 46 = .ok (.aload_n 3, 1) := by decide +kernel
theorem dX5_live_47 : decode cX5_live 47 = .ok (.iload 4, 2) := by decide +kernel
theorem dX5_live_49 : decode cX5_live 49 = .ok (.iconst 2, 1) := by decide +kernel
theorem dX5_live_50 : decode cX5_live 50 = .ok (.iload 6, 2) := by decide +kernel
theorem dX5_live_52 : decode cX5_live 52 = .ok (.imul, 1) := by decide +kernel
theorem dX5_live_53 : decode cX5_live 53 = .ok (.iadd, 1) := by decide +kernel
theorem dX5_live_54 : decode cX5_live 54 = .ok (.invokevirtual 18, 3) := by decide +kernel
theorem dX5_live_57 : decode cX5_live 57 = .ok (.istore 7, 2) := by decide +kernel
theorem dX5_live_59 : decode cX5_live 59 = .ok (.aload_n 3, 1) := by decide +kernel
theorem dX5_live_60 : decode cX5_live 60 = .ok (.iload 4, 2) := by decide +kernel
theorem dX5_live_62 : decode cX5_live 62 = .ok (.iconst 2, 1) := by decide +kernel
theorem dX5_live_63 : decode cX5_live 63 = .ok (.iload 6, 2) := by decide +kernel
theorem dX5_live_65 : decode cX5_live 65 = .ok (.imul, 1) := by decide +kernel
theorem dX5_live_66 : decode cX5_live 66 = .ok (.iadd, 1) := by decide +kernel
theorem dX5_live_67 : decode cX5_live 67 = .ok (.iconst 1, 1) := by decide +kernel
theorem dX5_live_68 : decode cX5_live 68 = .ok (.iadd, 1) := by decide +kernel
theorem dX5_live_69 : decode cX5_live 69 = .ok (.invokevirtual 18, 3) := by decide +kernel
theorem dX5_live_72 : decode cX5_live 72 = .ok (.istore 8, 2) := by decide +kernel
theorem dX5_live_74 : decode cX5_live 74 = .ok (.iload 8, 2) := by decide +kernel
theorem dX5_live_76 : decode cX5_live 76 = .ok (.ifCond .ne 13, 3) := by decide +kernel
theorem dX5_live_79 : decode cX5_live 79 = .ok (.aload_n 0, 1) := by decide +kernel
theorem dX5_live_80 : decode cX5_live 80 = .ok (.aload_n 2, 1) := by decide +kernel
theorem dX5_live_81 : decode cX5_live 81 = .ok (.iload 7, 2) := by decide +kernel
theorem dX5_live_83 : decode cX5_live 83 = .ok (.invokevirtual 51, 3) := by decide +kernel
theorem dX5_live_86 : decode cX5_live 86 = .ok (.goto 20, 3) := by decide +kernel
theorem dX5_live_89 : decode cX5_live 89 = .ok (.aload_n 0, 1) := by decide +kernel
theorem dX5_live_90 : decode cX5_live 90 = .ok (.iload 7, 2) := by decide +kernel
theorem dX5_live_92 : decode cX5_live 92 = .ok (.iload 8, 2) := by decide +kernel
theorem dX5_live_94 : decode cX5_live 94 = .ok (.invokevirtual 55, 3) := by decide +kernel
theorem dX5_live_97 : decode cX5_live 97 = .ok (.ifCond .ne 9, 3) := by decide +kernel
theorem dX5_live_100 : decode cX5_live 100 = .ok (.aload_n 0, 1) := by decide +kernel
theorem dX5_live_101 : decode cX5_live 101 = .ok (.iload 6, 2) := by decide +kernel
theorem dX5_live_103 : decode cX5_live 103 = .ok (.putfield 45, 3) := by decide +kernel
theorem dX5_live_106 : decode cX5_live 106 = .ok (.iinc 6 1, 3) := by decide +kernel
theorem dX5_live_109 : decode cX5_live 109 = .ok (.goto (-79), 3) := by decide +kernel
theorem dX5_live_112 : decode cX5_live 112 = .ok (.return_, 1) := by decide +kernel
theorem dX5_letGo_0 : decode cX5_letGo 0 = .ok (.iconst 0, 1) := by decide +kernel
theorem dX5_letGo_1 : decode cX5_letGo 1 = .ok (.istore_n 3, 1) := by decide +kernel
theorem dX5_letGo_2 : decode cX5_letGo 2 = .ok (.iload_n 3, 1) := by decide +kernel
theorem dX5_letGo_3 : decode cX5_letGo 3 = .ok (.iload_n 2, 1) := by decide +kernel
theorem dX5_letGo_4 : decode cX5_letGo 4 = .ok (.if_icmp .ge 37, 3) := by decide +kernel
theorem dX5_letGo_7 : decode cX5_letGo 7 = .ok (.aload_n 0, 1) := by decide +kernel
theorem dX5_letGo_8 : decode cX5_letGo 8 = .ok (.getfield 12, 3) := by decide +kernel
theorem dX5_letGo_11 : decode cX5_letGo 11 = .ok (.aload_n 1, 1) := by decide +kernel
theorem dX5_letGo_12 : decode cX5_letGo 12 = .ok (.invokevirtual 59, 3) := by decide +kernel
theorem dX5_letGo_15 : decode cX5_letGo 15 = .ok (.aload_n 0, 1) := by decide +kernel
theorem dX5_letGo_16 : decode cX5_letGo 16 = .ok (.getfield 12, 3) := by decide +kernel
theorem dX5_letGo_19 : decode cX5_letGo 19 = .ok (.invokevirtual 63, 3) := by decide +kernel
theorem dX5_letGo_22 : decode cX5_letGo 22 = .ok (.ifCond .eq 13, 3) := by decide +kernel
theorem dX5_letGo_25 : decode cX5_letGo 25 = .ok (.aload_n 0, 1) := by decide +kernel
theorem dX5_letGo_26 : decode cX5_letGo 26 = .ok (.dup, 1) := by decide +kernel
theorem dX5_letGo_27 : decode cX5_letGo 27 = .ok (.getfield 48, 3) := by decide +kernel
theorem dX5_letGo_30 : decode cX5_letGo 30 = .ok (.iconst 1, 1) := by decide +kernel
theorem dX5_letGo_31 : decode cX5_letGo 31 = .ok (.iadd, 1) := by decide +kernel
theorem dX5_letGo_32 : decode cX5_letGo 32 = .ok (.putfield 48, 3) := by decide +kernel
theorem dX5_letGo_35 : decode cX5_letGo 35 = .ok (.iinc 3 1, 3) := by decide +kernel
theorem dX5_letGo_38 : decode cX5_letGo 38 = .ok (.goto (-36), 3) := by decide +kernel
theorem dX5_letGo_41 : decode cX5_letGo 41 = .ok (.return_, 1) := by decide +kernel
theorem dX5_tryAct_0 : decode cX5_tryAct 0 = .ok (.aload_n 0, 1) := by decide +kernel
theorem dX5_tryAct_1 : decode cX5_tryAct 1 = .ok (.getfield 12, 3) := by decide +kernel
theorem dX5_tryAct_4 : decode cX5_tryAct 4 = .ok (.iload_n 1, 1) := by decide +kernel
theorem dX5_tryAct_5 : decode cX5_tryAct 5 = .ok (.invokevirtual 28, 3) := by decide +kernel
theorem dX5_tryAct_8 : decode cX5_tryAct 8 = .ok (.ifCond .ne 5, 3) := by decide +kernel
theorem dX5_tryAct_11 : decode cX5_tryAct 11 = .ok (.iconst 0, 1) := by decide +kernel
theorem dX5_tryAct_12 : decode cX5_tryAct 12 = .ok (.ireturn, 1) := by decide +kernel
theorem dX5_tryAct_13 : decode cX5_tryAct 13 = .ok (.iload_n 2, 1) := by decide +kernel
theorem dX5_tryAct_14 : decode cX5_tryAct 14 = .ok (.iconst 1, 1) := by decide +kernel
theorem dX5_tryAct_15 : decode cX5_tryAct 15 = .ok (.if_icmp .ne 12, 3) := by decide +kernel
theorem dX5_tryAct_18 : decode cX5_tryAct 18 = .ok (.aload_n 0, 1) := by decide +kernel
theorem dX5_tryAct_19 : decode cX5_tryAct 19 = .ok (.getfield 12, 3) := by decide +kernel
theorem dX5_tryAct_22 : decode cX5_tryAct 22 = .ok (.iload_n 1, 1) := by decide +kernel
theorem dX5_tryAct_23 : decode cX5_tryAct 23 = .ok (.invokevirtual 67, 3) := by decide +kernel
theorem dX5_tryAct_26 : decode cX5_tryAct 26 = .ok (.ireturn, 1) := by decide +kernel
theorem dX5_tryAct_27 : decode cX5_tryAct 27 = .ok (.iload_n 2, 1) := by decide +kernel
theorem dX5_tryAct_28 : decode cX5_tryAct 28 = .ok (.iconst 2, 1) := by decide +kernel
theorem dX5_tryAct_29 : decode cX5_tryAct 29 = .ok (.if_icmp .ne 12, 3) := by decide +kernel
theorem dX5_tryAct_32 : decode cX5_tryAct 32 = .ok (.aload_n 0, 1) := by decide +kernel
theorem dX5_tryAct_33 : decode cX5_tryAct 33 = .ok (.getfield 12, 3) := by decide +kernel
theorem dX5_tryAct_36 : decode cX5_tryAct 36 = .ok (.iload_n 1, 1) := by decide +kernel
theorem dX5_tryAct_37 : decode cX5_tryAct 37 = .ok (.invokevirtual 70, 3) := by decide +kernel
theorem dX5_tryAct_40 : decode cX5_tryAct 40 = .ok (.ireturn, 1) := by decide +kernel
theorem dX5_tryAct_41 : decode cX5_tryAct 41 = .ok (.aload_n 0, 1) := by decide +kernel
theorem dX5_tryAct_42 : decode cX5_tryAct 42 = .ok (.getfield 12, 3) := by decide +kernel
theorem dX5_tryAct_45 : decode cX5_tryAct 45 = .ok (.iload_n 1, 1) := by decide +kernel
theorem dX5_tryAct_46 : decode cX5_tryAct 46 = .ok (.iload_n 2, 1) := by decide +kernel
theorem dX5_tryAct_47 : decode cX5_tryAct 47 = .ok (.bipush 10, 2) := by decide +kernel
theorem dX5_tryAct_49 : decode cX5_tryAct 49 = .ok (.isub, 1) := by decide +kernel
theorem dX5_tryAct_50 : decode cX5_tryAct 50 = .ok (.invokevirtual 73, 3) := by decide +kernel
theorem dX5_tryAct_53 : decode cX5_tryAct 53 = .ok (.iconst 1, 1) := by decide +kernel
theorem dX5_tryAct_54 : decode cX5_tryAct 54 = .ok (.ireturn, 1) := by decide +kernel
end
section
theorem dX5_answer_0 : decode cX5_answer 0 = .ok (.iload_n 1, 1) := by decide +kernel
theorem dX5_answer_1 : decode cX5_answer 1 = .ok (.iconst 1, 1) := by decide +kernel
theorem dX5_answer_2 : decode cX5_answer 2 = .ok (.if_icmp .ne 8, 3) := by decide +kernel
theorem dX5_answer_5 : decode cX5_answer 5 = .ok (.aload_n 0, 1) := by decide +kernel
theorem dX5_answer_6 : decode cX5_answer 6 = .ok (.getfield 45, 3) := by decide +kernel
theorem dX5_answer_9 : decode cX5_answer 9 = .ok (.ireturn, 1) := by decide +kernel
theorem dX5_answer_10 : decode cX5_answer 10 = .ok (.aload_n 0, 1) := by decide +kernel
theorem dX5_answer_11 : decode cX5_answer 11 = .ok (.getfield 45, 3) := by decide +kernel
theorem dX5_answer_14 : decode cX5_answer 14 = .ok (.bipush (-9), 2) := by decide +kernel
theorem dX5_answer_16 : decode cX5_answer 16 = .ok (.if_icmp .eq 11, 3) := by decide +kernel
theorem dX5_answer_19 : decode cX5_answer 19 = .ok (.bipush (-100), 2) := by decide +kernel
theorem dX5_answer_21 : decode cX5_answer 21 = .ok (.aload_n 0, 1) := by decide +kernel
theorem dX5_answer_22 : decode cX5_answer 22 = .ok (.getfield 45, 3) := by decide +kernel
theorem dX5_answer_25 : decode cX5_answer 25 = .ok (.isub, 1) := by decide +kernel
theorem dX5_answer_26 : decode cX5_answer 26 = .ok (.ireturn, 1) := by decide +kernel
theorem dX5_answer_27 : decode cX5_answer 27 = .ok (.iload_n 1, 1) := by decide +kernel
theorem dX5_answer_28 : decode cX5_answer 28 = .ok (.tableswitch 70 0 4 #[36, 70, 44, 52, 65], 36) := by decide +kernel
theorem dX5_answer_64 : decode cX5_answer 64 = .ok (.aload_n 0, 1) := by decide +kernel
theorem dX5_answer_65 : decode cX5_answer 65 = .ok (.getfield 12, 3) := by decide +kernel
theorem dX5_answer_68 : decode cX5_answer 68 = .ok (.getfield 77, 3) := by decide +kernel
theorem dX5_answer_71 : decode cX5_answer 71 = .ok (.ireturn, 1) := by decide +kernel
theorem dX5_answer_72 : decode cX5_answer 72 = .ok (.aload_n 0, 1) := by decide +kernel
theorem dX5_answer_73 : decode cX5_answer 73 = .ok (.getfield 12, 3) := by decide +kernel
theorem dX5_answer_76 : decode cX5_answer 76 = .ok (.invokevirtual 80, 3) := by decide +kernel
theorem dX5_answer_79 : decode cX5_answer 79 = .ok (.ireturn, 1) := by decide +kernel
theorem dX5_answer_80 : decode cX5_answer 80 = .ok (.aload_n 0, 1) := by decide +kernel
theorem dX5_answer_81 : decode cX5_answer 81 = .ok (.getfield 12, 3) := by decide +kernel
theorem dX5_answer_84 : decode cX5_answer 84 = .ok (.getfield 38, 3) := by decide +kernel
theorem dX5_answer_87 : decode cX5_answer 87 = .ok (.aload_n 0, 1) := by decide +kernel
theorem dX5_answer_88 : decode cX5_answer 88 = .ok (.getfield 42, 3) := by decide +kernel
theorem dX5_answer_91 : decode cX5_answer 91 = .ok (.isub, 1) := by decide +kernel
theorem dX5_answer_92 : decode cX5_answer 92 = .ok (.ireturn, 1) := by decide +kernel
theorem dX5_answer_93 : decode cX5_answer 93 = .ok (.aload_n 0, 1) := by decide +kernel
theorem dX5_answer_94 : decode cX5_answer 94 = .ok (.getfield 48, 3) := by decide +kernel
theorem dX5_answer_97 : decode cX5_answer 97 = .ok (.ireturn, 1) := by decide +kernel
theorem dX5_answer_98 : decode cX5_answer 98 = .ok (.aload_n 0, 1) := by decide +kernel
theorem dX5_answer_99 : decode cX5_answer 99 = .ok (.getfield 12, 3) := by decide +kernel
theorem dX5_answer_102 : decode cX5_answer 102 = .ok (.iload_n 1, 1) := by decide +kernel
theorem dX5_answer_103 : decode cX5_answer 103 = .ok (.bipush 10, 2) := by decide +kernel
theorem dX5_answer_105 : decode cX5_answer 105 = .ok (.isub, 1) := by decide +kernel
theorem dX5_answer_106 : decode cX5_answer 106 = .ok (.invokevirtual 28, 3) := by decide +kernel
theorem dX5_answer_109 : decode cX5_answer 109 = .ok (.ifCond .eq 18, 3) := by decide +kernel
theorem dX5_answer_112 : decode cX5_answer 112 = .ok (.aload_n 0, 1) := by decide +kernel
theorem dX5_answer_113 : decode cX5_answer 113 = .ok (.getfield 12, 3) := by decide +kernel
theorem dX5_answer_116 : decode cX5_answer 116 = .ok (.getfield 84, 3) := by decide +kernel
theorem dX5_answer_119 : decode cX5_answer 119 = .ok (.iload_n 1, 1) := by decide +kernel
theorem dX5_answer_120 : decode cX5_answer 120 = .ok (.bipush 10, 2) := by decide +kernel
theorem dX5_answer_122 : decode cX5_answer 122 = .ok (.isub, 1) := by decide +kernel
theorem dX5_answer_123 : decode cX5_answer 123 = .ok (.iaload, 1) := by decide +kernel
theorem dX5_answer_124 : decode cX5_answer 124 = .ok (.goto 5, 3) := by decide +kernel
theorem dX5_answer_127 : decode cX5_answer 127 = .ok (.bipush (-9), 2) := by decide +kernel
theorem dX5_answer_129 : decode cX5_answer 129 = .ok (.ireturn, 1) := by decide +kernel
theorem dX6_init_0 : decode cX6_init 0 = .ok (.aload_n 0, 1) := by decide +kernel
theorem dX6_init_1 : decode cX6_init 1 = .ok (.invokespecial 3, 3) := by decide +kernel
theorem dX6_init_4 : decode cX6_init 4 = .ok (.aload_n 0, 1) := by decide +kernel
theorem dX6_init_5 : decode cX6_init 5 = .ok (.new 9, 3) := by decide +kernel
theorem dX6_init_8 : decode cX6_init 8 = .ok (.dup, 1) := by decide +kernel
theorem dX6_init_9 : decode cX6_init 9 = .ok (.invokespecial 11, 3) := by decide +kernel
theorem dX6_init_12 : decode cX6_init 12 = .ok (.putfield 12, 3) := by decide +kernel
theorem dX6_init_15 : decode cX6_init 15 = .ok (.aload_n 0, 1) := by decide +kernel
theorem dX6_init_16 : decode cX6_init 16 = .ok (.new 18, 3) := by decide +kernel
theorem dX6_init_19 : decode cX6_init 19 = .ok (.dup, 1) := by decide +kernel
theorem dX6_init_20 : decode cX6_init 20 = .ok (.invokespecial 20, 3) := by decide +kernel
theorem dX6_init_23 : decode cX6_init 23 = .ok (.putfield 21, 3) := by decide +kernel
theorem dX6_init_26 : decode cX6_init 26 = .ok (.aload_n 0, 1) := by decide +kernel
theorem dX6_init_27 : decode cX6_init 27 = .ok (.new 18, 3) := by decide +kernel
theorem dX6_init_30 : decode cX6_init 30 = .ok (.dup, 1) := by decide +kernel
theorem dX6_init_31 : decode cX6_init 31 = .ok (.invokespecial 20, 3) := by decide +kernel
theorem dX6_init_34 : decode cX6_init 34 = .ok (.putfield 25, 3) := by decide +kernel
theorem dX6_init_37 : decode cX6_init 37 = .ok (.aload_n 0, 1) := by decide +kernel
theorem dX6_init_38 : decode cX6_init 38 = .ok (.new 28, 3) := by decide +kernel
theorem dX6_init_41 : decode cX6_init 41 = .ok (.dup, 1) := by decide +kernel
theorem dX6_init_42 : decode cX6_init 42 = .ok (.invokespecial 30, 3) := by decide +kernel
theorem dX6_init_45 : decode cX6_init 45 = .ok (.putfield 31, 3) := by decide +kernel
theorem dX6_init_48 : decode cX6_init 48 = .ok (.aload_n 0, 1) := by decide +kernel
theorem dX6_init_49 : decode cX6_init 49 = .ok (.new 35, 3) := by decide +kernel
theorem dX6_init_52 : decode cX6_init 52 = .ok (.dup, 1) := by decide +kernel
theorem dX6_init_53 : decode cX6_init 53 = .ok (.invokespecial 37, 3) := by decide +kernel
theorem dX6_init_56 : decode cX6_init 56 = .ok (.putfield 38, 3) := by decide +kernel
theorem dX6_init_59 : decode cX6_init 59 = .ok (.aload_n 0, 1) := by decide +kernel
theorem dX6_init_60 : decode cX6_init 60 = .ok (.iconst 4, 1) := by decide +kernel
theorem dX6_init_61 : decode cX6_init 61 = .ok (.anewarray 42, 3) := by decide +kernel
theorem dX6_init_64 : decode cX6_init 64 = .ok (.putfield 44, 3) := by decide +kernel
theorem dX6_init_67 : decode cX6_init 67 = .ok (.iconst 0, 1) := by decide +kernel
theorem dX6_init_68 : decode cX6_init 68 = .ok (.istore_n 1, 1) := by decide +kernel
theorem dX6_init_69 : decode cX6_init 69 = .ok (.iload_n 1, 1) := by decide +kernel
theorem dX6_init_70 : decode cX6_init 70 = .ok (.iconst 4, 1) := by decide +kernel
theorem dX6_init_71 : decode cX6_init 71 = .ok (.if_icmp .ge 22, 3) := by decide +kernel
theorem dX6_init_74 : decode cX6_init 74 = .ok (.aload_n 0, 1) := by decide +kernel
theorem dX6_init_75 : decode cX6_init 75 = .ok (.getfield 44, 3) := by decide +kernel
theorem dX6_init_78 : decode cX6_init 78 = .ok (.iload_n 1, 1) := by decide +kernel
theorem dX6_init_79 : decode cX6_init 79 = .ok (.new 42, 3) := by decide +kernel
theorem dX6_init_82 : decode cX6_init 82 = .ok (.dup, 1) := by decide +kernel
theorem dX6_init_83 : decode cX6_init 83 = .ok (.invokespecial 48, 3) := by decide +kernel
theorem dX6_init_86 : decode cX6_init 86 = .ok (.aastore, 1) := by decide +kernel
theorem dX6_init_87 : decode cX6_init 87 = .ok (.iinc 1 1, 3) := by decide +kernel
theorem dX6_init_90 : decode cX6_init 90 = .ok (.goto (-21), 3) := by decide +kernel
theorem dX6_init_93 : decode cX6_init 93 = .ok (.return_, 1) := by decide +kernel
theorem dX6_garden_0 : decode cX6_garden 0 = .ok (.iload_n 1, 1) := by decide +kernel
theorem dX6_garden_1 : decode cX6_garden 1 = .ok (.invokestatic 49, 3) := by decide +kernel
theorem dX6_garden_4 : decode cX6_garden 4 = .ok (.ifCond .ne 9, 3) := by decide +kernel
theorem dX6_garden_7 : decode cX6_garden 7 = .ok (.aload_n 0, 1) := by decide +kernel
theorem dX6_garden_8 : decode cX6_garden 8 = .ok (.iconst (-1), 1) := by decide +kernel
theorem dX6_garden_9 : decode cX6_garden 9 = .ok (.invokevirtual 53, 3) := by decide +kernel
theorem dX6_garden_12 : decode cX6_garden 12 = .ok (.ireturn, 1) := by decide +kernel
theorem dX6_garden_13 : decode cX6_garden 13 = .ok (.iload_n 2, 1) := by decide +kernel
theorem dX6_garden_14 : decode cX6_garden 14 = .ok (.invokestatic 57, 3) := by decide +kernel
theorem dX6_garden_17 : decode cX6_garden 17 = .ok (.ifCond .ne 10, 3) := by decide +kernel
theorem dX6_garden_20 : decode cX6_garden 20 = .ok (.aload_n 0, 1) := by decide +kernel
theorem dX6_garden_21 : decode cX6_garden 21 = .ok (.bipush (-2), 2) := by decide +kernel
theorem dX6_garden_23 : decode cX6_garden 23 = .ok (.invokevirtual 53, 3) := by decide +kernel
theorem dX6_garden_26 : decode cX6_garden 26 = .ok (.ireturn, 1) := by decide +kernel
theorem dX6_garden_27 : decode cX6_garden 27 = .ok (.aload_n 0, 1) := by decide +kernel
theorem dX6_garden_28 : decode cX6_garden 28 = .ok (.getfield 44, 3) := by decide +kernel
theorem dX6_garden_31 : decode cX6_garden 31 = .ok (.iload_n 1, 1) := by decide +kernel
theorem dX6_garden_32 : decode cX6_garden 32 = .ok (.aaload, 1) := by decide +kernel
theorem dX6_garden_33 : decode cX6_garden 33 = .ok (.astore 5, 2) := by decide +kernel
theorem dX6_garden_35 : decode cX6_garden 35 = .ok (.aload 5, 2) := by decide +kernel
theorem dX6_garden_37 : decode cX6_garden 37 = .ok (.iload_n 2, 1) := by decide +kernel
theorem dX6_garden_38 : decode cX6_garden 38 = .ok (.iload_n 3, 1) := by decide +kernel
theorem dX6_garden_39 : decode cX6_garden 39 = .ok (.iload 4, 2) := by decide +kernel
theorem dX6_garden_41 : decode cX6_garden 41 = .ok (.invokevirtual 60, 3) := by decide +kernel
theorem dX6_garden_44 : decode cX6_garden 44 = .ok (.istore 6, 2) := by decide +kernel
theorem dX6_garden_46 : decode cX6_garden 46 = .ok (.iload 6, 2) := by decide +kernel
theorem dX6_garden_48 : decode cX6_garden 48 = .ok (.ifCond .eq 10, 3) := by decide +kernel
theorem dX6_garden_51 : decode cX6_garden 51 = .ok (.aload_n 0, 1) := by decide +kernel
theorem dX6_garden_52 : decode cX6_garden 52 = .ok (.iload 6, 2) := by decide +kernel
theorem dX6_garden_54 : decode cX6_garden 54 = .ok (.invokevirtual 64, 3) := by decide +kernel
theorem dX6_garden_57 : decode cX6_garden 57 = .ok (.ireturn, 1) := by decide +kernel
theorem dX6_garden_58 : decode cX6_garden 58 = .ok (.aload 5, 2) := by decide +kernel
theorem dX6_garden_60 : decode cX6_garden 60 = .ok (.iload_n 3, 1) := by decide +kernel
theorem dX6_garden_61 : decode cX6_garden 61 = .ok (.iload 4, 2) := by decide +kernel
theorem dX6_garden_63 : decode cX6_garden 63 = .ok (.invokestatic 67, 3) := by decide +kernel
theorem dX6_garden_66 : decode cX6_garden 66 = .ok (.istore 7, 2) := by decide +kernel
theorem dX6_garden_68 : decode cX6_garden 68 = .ok (.iload 7, 2) := by decide +kernel
theorem dX6_garden_70 : decode cX6_garden 70 = .ok (.bipush (-9), 2) := by decide +kernel
theorem dX6_garden_72 : decode cX6_garden 72 = .ok (.if_icmp .eq 13, 3) := by decide +kernel
theorem dX6_garden_75 : decode cX6_garden 75 = .ok (.aload_n 0, 1) := by decide +kernel
theorem dX6_garden_76 : decode cX6_garden 76 = .ok (.bipush (-100), 2) := by decide +kernel
theorem dX6_garden_78 : decode cX6_garden 78 = .ok (.iload 7, 2) := by decide +kernel
theorem dX6_garden_80 : decode cX6_garden 80 = .ok (.isub, 1) := by decide +kernel
theorem dX6_garden_81 : decode cX6_garden 81 = .ok (.invokevirtual 53, 3) := by decide +kernel
theorem dX6_garden_84 : decode cX6_garden 84 = .ok (.ireturn, 1) := by decide +kernel
theorem dX6_garden_85 : decode cX6_garden 85 = .ok (.aload_n 0, 1) := by decide +kernel
theorem dX6_garden_86 : decode cX6_garden 86 = .ok (.getfield 12, 3) := by decide +kernel
theorem dX6_garden_89 : decode cX6_garden 89 = .ok (.aload 5, 2) := by decide +kernel
theorem dX6_garden_91 : decode cX6_garden 91 = .ok (.iload_n 3, 1) := by decide +kernel
theorem dX6_garden_92 : decode cX6_garden 92 = .ok (.invokestatic 73, 3) := by decide +kernel
theorem dX6_garden_95 : decode cX6_garden 95 = .ok (.invokevirtual 77, 3) := by decide +kernel
theorem dX6_garden_98 : decode cX6_garden 98 = .ok (.aload_n 0, 1) := by decide +kernel
theorem dX6_garden_99 : decode cX6_garden 99 = .ok (.getfield 21, 3) := by decide +kernel
theorem dX6_garden_102 : decode cX6_garden 102 = .ok (.aload 5, 2) := by decide +kernel
theorem dX6_garden_104 : decode cX6_garden 104 = .ok (.iload_n 3, 1) := by decide +kernel
theorem dX6_garden_105 : decode cX6_garden 105 = .ok (.iload 4, 2) := by decide +kernel
theorem dX6_garden_107 : decode cX6_garden 107 = .ok (.invokevirtual 81, 3) := by decide +kernel
theorem dX6_garden_110 : decode cX6_garden 110 = .ok (.aload_n 0, 1) := by decide +kernel
theorem dX6_garden_111 : decode cX6_garden 111 = .ok (.getfield 38, 3) := by decide +kernel
theorem dX6_garden_114 : decode cX6_garden 114 = .ok (.invokevirtual 85, 3) := by decide +kernel
theorem dX6_garden_117 : decode cX6_garden 117 = .ok (.aload_n 0, 1) := by decide +kernel
theorem dX6_garden_118 : decode cX6_garden 118 = .ok (.aload_n 0, 1) := by decide +kernel
theorem dX6_garden_119 : decode cX6_garden 119 = .ok (.getfield 21, 3) := by decide +kernel
theorem dX6_garden_122 : decode cX6_garden 122 = .ok (.getfield 88, 3) := by decide +kernel
theorem dX6_garden_125 : decode cX6_garden 125 = .ok (.invokevirtual 53, 3) := by decide +kernel
theorem dX6_garden_128 : decode cX6_garden 128 = .ok (.ireturn, 1) := by decide +kernel
theorem dX6_ofBlock_0 : decode cX6_ofBlock 0 = .ok (.aload_n 0, 1) := by decide +kernel
theorem dX6_ofBlock_1 : decode cX6_ofBlock 1 = .ok (.getfield 21, 3) := by decide +kernel
theorem dX6_ofBlock_4 : decode cX6_ofBlock 4 = .ok (.iload_n 1, 1) := by decide +kernel
theorem dX6_ofBlock_5 : decode cX6_ofBlock 5 = .ok (.invokevirtual 92, 3) := by decide +kernel
theorem dX6_ofBlock_8 : decode cX6_ofBlock 8 = .ok (.ifCond .ne 5, 3) := by decide +kernel
theorem dX6_ofBlock_11 : decode cX6_ofBlock 11 = .ok (.iconst (-1), 1) := by decide +kernel
theorem dX6_ofBlock_12 : decode cX6_ofBlock 12 = .ok (.ireturn, 1) := by decide +kernel
theorem dX6_ofBlock_13 : decode cX6_ofBlock 13 = .ok (.iload_n 2, 1) := by decide +kernel
theorem dX6_ofBlock_14 : decode cX6_ofBlock 14 = .ok (.tableswitch 107 0 5 #[38, 48, 58, 68, 77, 94], 38) := by decide +kernel
theorem dX6_ofBlock_52 : decode cX6_ofBlock 52 = .ok (.aload_n 0, 1) := by decide +kernel
theorem dX6_ofBlock_53 : decode cX6_ofBlock 53 = .ok (.getfield 21, 3) := by decide +kernel
theorem dX6_ofBlock_56 : decode cX6_ofBlock 56 = .ok (.getfield 95, 3) := by decide +kernel
theorem dX6_ofBlock_59 : decode cX6_ofBlock 59 = .ok (.iload_n 1, 1) := by decide +kernel
theorem dX6_ofBlock_60 : decode cX6_ofBlock 60 = .ok (.iaload, 1) := by decide +kernel
theorem dX6_ofBlock_61 : decode cX6_ofBlock 61 = .ok (.ireturn, 1) := by decide +kernel
theorem dX6_ofBlock_62 : decode cX6_ofBlock 62 = .ok (.aload_n 0, 1) := by decide +kernel
theorem dX6_ofBlock_63 : decode cX6_ofBlock 63 = .ok (.getfield 21, 3) := by decide +kernel
theorem dX6_ofBlock_66 : decode cX6_ofBlock 66 = .ok (.getfield 99, 3) := by decide +kernel
theorem dX6_ofBlock_69 : decode cX6_ofBlock 69 = .ok (.iload_n 1, 1) := by decide +kernel
theorem dX6_ofBlock_70 : decode cX6_ofBlock 70 = .ok (.iaload, 1) := by decide +kernel
theorem dX6_ofBlock_71 : decode cX6_ofBlock 71 = .ok (.ireturn, 1) := by decide +kernel
theorem dX6_ofBlock_72 : decode cX6_ofBlock 72 = .ok (.aload_n 0, 1) := by decide +kernel
theorem dX6_ofBlock_73 : decode cX6_ofBlock 73 = .ok (.getfield 21, 3) := by decide +kernel
theorem dX6_ofBlock_76 : decode cX6_ofBlock 76 = .ok (.getfield 102, 3) := by decide +kernel
theorem dX6_ofBlock_79 : decode cX6_ofBlock 79 = .ok (.iload_n 1, 1) := by decide +kernel
theorem dX6_ofBlock_80 : decode cX6_ofBlock 80 = .ok (.iaload, 1) := by decide +kernel
theorem dX6_ofBlock_81 : decode cX6_ofBlock 81 = .ok (.ireturn, 1) := by decide +kernel
theorem dX6_ofBlock_82 : decode cX6_ofBlock 82 = .ok (.aload_n 0, 1) := by decide +kernel
theorem dX6_ofBlock_83 : decode cX6_ofBlock 83 = .ok (.getfield 21, 3) := by decide +kernel
theorem dX6_ofBlock_86 : decode cX6_ofBlock 86 = .ok (.iload_n 1, 1) := by decide +kernel
theorem dX6_ofBlock_87 : decode cX6_ofBlock 87 = .ok (.invokevirtual 105, 3) := by decide +kernel
theorem dX6_ofBlock_90 : decode cX6_ofBlock 90 = .ok (.ireturn, 1) := by decide +kernel
theorem dX6_ofBlock_91 : decode cX6_ofBlock 91 = .ok (.aload_n 0, 1) := by decide +kernel
theorem dX6_ofBlock_92 : decode cX6_ofBlock 92 = .ok (.getfield 21, 3) := by decide +kernel
theorem dX6_ofBlock_95 : decode cX6_ofBlock 95 = .ok (.iload_n 1, 1) := by decide +kernel
theorem dX6_ofBlock_96 : decode cX6_ofBlock 96 = .ok (.invokevirtual 108, 3) := by decide +kernel
theorem dX6_ofBlock_99 : decode cX6_ofBlock 99 = .ok (.ifCond .eq 7, 3) := by decide +kernel
theorem dX6_ofBlock_102 : decode cX6_ofBlock 102 = .ok (.iconst 1, 1) := by decide +kernel
theorem dX6_ofBlock_103 : decode cX6_ofBlock 103 = .ok (.goto 4, 3) := by decide +kernel
theorem dX6_ofBlock_106 : decode cX6_ofBlock 106 = .ok (.iconst 0, 1) := by decide +kernel
theorem dX6_ofBlock_107 : decode cX6_ofBlock 107 = .ok (.ireturn, 1) := by decide +kernel
theorem dX6_ofBlock_108 : decode cX6_ofBlock 108 = .ok (.aload_n 0, 1) := by decide +kernel
theorem dX6_ofBlock_109 : decode cX6_ofBlock 109 = .ok (.getfield 21, 3) := by decide +kernel
theorem dX6_ofBlock_112 : decode cX6_ofBlock 112 = .ok (.getfield 99, 3) := by decide +kernel
theorem dX6_ofBlock_115 : decode cX6_ofBlock 115 = .ok (.iload_n 1, 1) := by decide +kernel
theorem dX6_ofBlock_116 : decode cX6_ofBlock 116 = .ok (.iaload, 1) := by decide +kernel
theorem dX6_ofBlock_117 : decode cX6_ofBlock 117 = .ok (.invokestatic 111, 3) := by decide +kernel
theorem dX6_ofBlock_120 : decode cX6_ofBlock 120 = .ok (.ireturn, 1) := by decide +kernel
theorem dX6_ofBlock_121 : decode cX6_ofBlock 121 = .ok (.bipush (-2), 2) := by decide +kernel
theorem dX6_ofBlock_123 : decode cX6_ofBlock 123 = .ok (.ireturn, 1) := by decide +kernel
theorem dX6_becomes_0 : decode cX6_becomes 0 = .ok (.aload_n 0, 1) := by decide +kernel
theorem dX6_becomes_1 : decode cX6_becomes 1 = .ok (.iload_n 1, 1) := by decide +kernel
theorem dX6_becomes_2 : decode cX6_becomes 2 = .ok (.invokevirtual 116, 3) := by decide +kernel
theorem dX6_becomes_5 : decode cX6_becomes 5 = .ok (.istore_n 2, 1) := by decide +kernel
theorem dX6_becomes_6 : decode cX6_becomes 6 = .ok (.iload_n 2, 1) := by decide +kernel
theorem dX6_becomes_7 : decode cX6_becomes 7 = .ok (.ifCond .eq 7, 3) := by decide +kernel
theorem dX6_becomes_10 : decode cX6_becomes 10 = .ok (.iload_n 2, 1) := by decide +kernel
theorem dX6_becomes_11 : decode cX6_becomes 11 = .ok (.goto 12, 3) := by decide +kernel
theorem dX6_becomes_14 : decode cX6_becomes 14 = .ok (.aload_n 0, 1) := by decide +kernel
theorem dX6_becomes_15 : decode cX6_becomes 15 = .ok (.getfield 12, 3) := by decide +kernel
theorem dX6_becomes_18 : decode cX6_becomes 18 = .ok (.iload_n 1, 1) := by decide +kernel
theorem dX6_becomes_19 : decode cX6_becomes 19 = .ok (.iconst 1, 1) := by decide +kernel
theorem dX6_becomes_20 : decode cX6_becomes 20 = .ok (.invokevirtual 119, 3) := by decide +kernel
theorem dX6_becomes_23 : decode cX6_becomes 23 = .ok (.ireturn, 1) := by decide +kernel
theorem dX6_enact_0 : decode cX6_enact 0 = .ok (.iload_n 1, 1) := by decide +kernel
theorem dX6_enact_1 : decode cX6_enact 1 = .ok (.ifCond .lt 10, 3) := by decide +kernel
theorem dX6_enact_4 : decode cX6_enact 4 = .ok (.iload_n 1, 1) := by decide +kernel
theorem dX6_enact_5 : decode cX6_enact 5 = .ok (.sipush 256, 3) := by decide +kernel
theorem dX6_enact_8 : decode cX6_enact 8 = .ok (.if_icmp .lt 6, 3) := by decide +kernel
theorem dX6_enact_11 : decode cX6_enact 11 = .ok (.bipush (-2), 2) := by decide +kernel
theorem dX6_enact_13 : decode cX6_enact 13 = .ok (.ireturn, 1) := by decide +kernel
theorem dX6_enact_14 : decode cX6_enact 14 = .ok (.aload_n 0, 1) := by decide +kernel
theorem dX6_enact_15 : decode cX6_enact 15 = .ok (.invokevirtual 123, 3) := by decide +kernel
theorem dX6_enact_18 : decode cX6_enact 18 = .ok (.ifCond .ne 6, 3) := by decide +kernel
theorem dX6_enact_21 : decode cX6_enact 21 = .ok (.bipush (-3), 2) := by decide +kernel
theorem dX6_enact_23 : decode cX6_enact 23 = .ok (.ireturn, 1) := by decide +kernel
theorem dX6_enact_24 : decode cX6_enact 24 = .ok (.aload_n 0, 1) := by decide +kernel
theorem dX6_enact_25 : decode cX6_enact 25 = .ok (.getfield 12, 3) := by decide +kernel
theorem dX6_enact_28 : decode cX6_enact 28 = .ok (.getfield 127, 3) := by decide +kernel
theorem dX6_enact_31 : decode cX6_enact 31 = .ok (.istore_n 2, 1) := by decide +kernel
theorem dX6_enact_32 : decode cX6_enact 32 = .ok (.aload_n 0, 1) := by decide +kernel
theorem dX6_enact_33 : decode cX6_enact 33 = .ok (.getfield 12, 3) := by decide +kernel
theorem dX6_enact_36 : decode cX6_enact 36 = .ok (.iload_n 1, 1) := by decide +kernel
theorem dX6_enact_37 : decode cX6_enact 37 = .ok (.invokevirtual 77, 3) := by decide +kernel
theorem dX6_enact_40 : decode cX6_enact 40 = .ok (.iload_n 2, 1) := by decide +kernel
theorem dX6_enact_41 : decode cX6_enact 41 = .ok (.ireturn, 1) := by decide +kernel
theorem dX6_hurry_0 : decode cX6_hurry 0 = .ok (.aload_n 0, 1) := by decide +kernel
theorem dX6_hurry_1 : decode cX6_hurry 1 = .ok (.getfield 21, 3) := by decide +kernel
theorem dX6_hurry_4 : decode cX6_hurry 4 = .ok (.iload_n 1, 1) := by decide +kernel
theorem dX6_hurry_5 : decode cX6_hurry 5 = .ok (.invokevirtual 92, 3) := by decide +kernel
theorem dX6_hurry_8 : decode cX6_hurry 8 = .ok (.ifCond .ne 5, 3) := by decide +kernel
theorem dX6_hurry_11 : decode cX6_hurry 11 = .ok (.iconst (-1), 1) := by decide +kernel
theorem dX6_hurry_12 : decode cX6_hurry 12 = .ok (.ireturn, 1) := by decide +kernel
theorem dX6_hurry_13 : decode cX6_hurry 13 = .ok (.iload_n 2, 1) := by decide +kernel
theorem dX6_hurry_14 : decode cX6_hurry 14 = .ok (.iconst 1, 1) := by decide +kernel
theorem dX6_hurry_15 : decode cX6_hurry 15 = .ok (.if_icmp .lt 8, 3) := by decide +kernel
theorem dX6_hurry_18 : decode cX6_hurry 18 = .ok (.iload_n 2, 1) := by decide +kernel
theorem dX6_hurry_19 : decode cX6_hurry 19 = .ok (.iconst 4, 1) := by decide +kernel
theorem dX6_hurry_20 : decode cX6_hurry 20 = .ok (.if_icmp .le 6, 3) := by decide +kernel
theorem dX6_hurry_23 : decode cX6_hurry 23 = .ok (.bipush (-2), 2) := by decide +kernel
theorem dX6_hurry_25 : decode cX6_hurry 25 = .ok (.ireturn, 1) := by decide +kernel
theorem dX6_hurry_26 : decode cX6_hurry 26 = .ok (.aload_n 0, 1) := by decide +kernel
theorem dX6_hurry_27 : decode cX6_hurry 27 = .ok (.getfield 21, 3) := by decide +kernel
theorem dX6_hurry_30 : decode cX6_hurry 30 = .ok (.getfield 102, 3) := by decide +kernel
theorem dX6_hurry_33 : decode cX6_hurry 33 = .ok (.iload_n 1, 1) := by decide +kernel
theorem dX6_hurry_34 : decode cX6_hurry 34 = .ok (.iaload, 1) := by decide +kernel
theorem dX6_hurry_35 : decode cX6_hurry 35 = .ok (.istore_n 3, 1) := by decide +kernel
theorem dX6_hurry_36 : decode cX6_hurry 36 = .ok (.aload_n 0, 1) := by decide +kernel
theorem dX6_hurry_37 : decode cX6_hurry 37 = .ok (.getfield 21, 3) := by decide +kernel
theorem dX6_hurry_40 : decode cX6_hurry 40 = .ok (.getfield 102, 3) := by decide +kernel
theorem dX6_hurry_43 : decode cX6_hurry 43 = .ok (.iload_n 1, 1) := by decide +kernel
theorem dX6_hurry_44 : decode cX6_hurry 44 = .ok (.iload_n 2, 1) := by decide +kernel
theorem dX6_hurry_45 : decode cX6_hurry 45 = .ok (.iastore, 1) := by decide +kernel
theorem dX6_hurry_46 : decode cX6_hurry 46 = .ok (.iload_n 3, 1) := by decide +kernel
theorem dX6_hurry_47 : decode cX6_hurry 47 = .ok (.ireturn, 1) := by decide +kernel
theorem dX6_days_0 : decode cX6_days 0 = .ok (.iload_n 1, 1) := by decide +kernel
theorem dX6_days_1 : decode cX6_days 1 = .ok (.iconst 1, 1) := by decide +kernel
theorem dX6_days_2 : decode cX6_days 2 = .ok (.if_icmp .lt 10, 3) := by decide +kernel
theorem dX6_days_5 : decode cX6_days 5 = .ok (.iload_n 1, 1) := by decide +kernel
theorem dX6_days_6 : decode cX6_days 6 = .ok (.sipush 300, 3) := by decide +kernel
theorem dX6_days_9 : decode cX6_days 9 = .ok (.if_icmp .le 6, 3) := by decide +kernel
theorem dX6_days_12 : decode cX6_days 12 = .ok (.bipush (-2), 2) := by decide +kernel
theorem dX6_days_14 : decode cX6_days 14 = .ok (.ireturn, 1) := by decide +kernel
theorem dX6_days_15 : decode cX6_days 15 = .ok (.aload_n 0, 1) := by decide +kernel
theorem dX6_days_16 : decode cX6_days 16 = .ok (.invokevirtual 123, 3) := by decide +kernel
theorem dX6_days_19 : decode cX6_days 19 = .ok (.ifCond .ne 6, 3) := by decide +kernel
theorem dX6_days_22 : decode cX6_days 22 = .ok (.bipush (-3), 2) := by decide +kernel
theorem dX6_days_24 : decode cX6_days 24 = .ok (.ireturn, 1) := by decide +kernel
theorem dX6_days_25 : decode cX6_days 25 = .ok (.aload_n 0, 1) := by decide +kernel
theorem dX6_days_26 : decode cX6_days 26 = .ok (.getfield 25, 3) := by decide +kernel
theorem dX6_days_29 : decode cX6_days 29 = .ok (.aload_n 0, 1) := by decide +kernel
theorem dX6_days_30 : decode cX6_days 30 = .ok (.getfield 21, 3) := by decide +kernel
theorem dX6_days_33 : decode cX6_days 33 = .ok (.invokevirtual 130, 3) := by decide +kernel
theorem dX6_days_36 : decode cX6_days 36 = .ok (.iconst 0, 1) := by decide +kernel
theorem dX6_days_37 : decode cX6_days 37 = .ok (.istore_n 2, 1) := by decide +kernel
theorem dX6_days_38 : decode cX6_days 38 = .ok (.iload_n 2, 1) := by decide +kernel
theorem dX6_days_39 : decode cX6_days 39 = .ok (.iload_n 1, 1) := by decide +kernel
theorem dX6_days_40 : decode cX6_days 40 = .ok (.if_icmp .ge 20, 3) := by decide +kernel
theorem dX6_days_43 : decode cX6_days 43 = .ok (.aload_n 0, 1) := by decide +kernel
theorem dX6_days_44 : decode cX6_days 44 = .ok (.getfield 21, 3) := by decide +kernel
theorem dX6_days_47 : decode cX6_days 47 = .ok (.aload_n 0, 1) := by decide +kernel
theorem dX6_days_48 : decode cX6_days 48 = .ok (.getfield 12, 3) := by decide +kernel
theorem dX6_days_51 : decode cX6_days 51 = .ok (.invokevirtual 134, 3) := by decide +kernel
theorem dX6_days_54 : decode cX6_days 54 = .ok (.iinc 2 1, 3) := by decide +kernel
theorem dX6_days_57 : decode cX6_days 57 = .ok (.goto (-19), 3) := by decide +kernel
theorem dX6_days_60 : decode cX6_days 60 = .ok (.iconst 0, 1) := by decide +kernel
theorem dX6_days_61 : decode cX6_days 61 = .ok (.istore_n 2, 1) := by decide +kernel
theorem dX6_days_62 : decode cX6_days 62 = .ok (.iconst 0, 1) := by decide +kernel
theorem dX6_days_63 : decode cX6_days 63 = .ok (.istore_n 3, 1) := by decide +kernel
theorem dX6_days_64 : decode cX6_days 64 = .ok (.iload_n 3, 1) := by decide +kernel
theorem dX6_days_65 : decode cX6_days 65 = .ok (.aload_n 0, 1) := by decide +kernel
theorem dX6_days_66 : decode cX6_days 66 = .ok (.getfield 21, 3) := by decide +kernel
theorem dX6_days_69 : decode cX6_days 69 = .ok (.getfield 88, 3) := by decide +kernel
theorem dX6_days_72 : decode cX6_days 72 = .ok (.if_icmp .ge 33, 3) := by decide +kernel
theorem dX6_days_75 : decode cX6_days 75 = .ok (.aload_n 0, 1) := by decide +kernel
theorem dX6_days_76 : decode cX6_days 76 = .ok (.getfield 21, 3) := by decide +kernel
theorem dX6_days_79 : decode cX6_days 79 = .ok (.getfield 99, 3) := by decide +kernel
theorem dX6_days_82 : decode cX6_days 82 = .ok (.iload_n 3, 1) := by decide +kernel
theorem dX6_days_83 : decode cX6_days 83 = .ok (.iaload, 1) := by decide +kernel
theorem dX6_days_84 : decode cX6_days 84 = .ok (.aload_n 0, 1) := by decide +kernel
theorem dX6_days_85 : decode cX6_days 85 = .ok (.getfield 25, 3) := by decide +kernel
theorem dX6_days_88 : decode cX6_days 88 = .ok (.getfield 99, 3) := by decide +kernel
theorem dX6_days_91 : decode cX6_days 91 = .ok (.iload_n 3, 1) := by decide +kernel
theorem dX6_days_92 : decode cX6_days 92 = .ok (.iaload, 1) := by decide +kernel
theorem dX6_days_93 : decode cX6_days 93 = .ok (.if_icmp .eq 6, 3) := by decide +kernel
theorem dX6_days_96 : decode cX6_days 96 = .ok (.iinc 2 1, 3) := by decide +kernel
theorem dX6_days_99 : decode cX6_days 99 = .ok (.iinc 3 1, 3) := by decide +kernel
theorem dX6_days_102 : decode cX6_days 102 = .ok (.goto (-38), 3) := by decide +kernel
theorem dX6_days_105 : decode cX6_days 105 = .ok (.iload_n 2, 1) := by decide +kernel
theorem dX6_days_106 : decode cX6_days 106 = .ok (.ireturn, 1) := by decide +kernel
theorem dX6_look_0 : decode cX6_look 0 = .ok (.aload_n 0, 1) := by decide +kernel
theorem dX6_look_1 : decode cX6_look 1 = .ok (.getfield 21, 3) := by decide +kernel
theorem dX6_look_4 : decode cX6_look 4 = .ok (.iload_n 1, 1) := by decide +kernel
theorem dX6_look_5 : decode cX6_look 5 = .ok (.invokevirtual 92, 3) := by decide +kernel
theorem dX6_look_8 : decode cX6_look 8 = .ok (.ifCond .ne 5, 3) := by decide +kernel
theorem dX6_look_11 : decode cX6_look 11 = .ok (.iconst (-1), 1) := by decide +kernel
theorem dX6_look_12 : decode cX6_look 12 = .ok (.ireturn, 1) := by decide +kernel
theorem dX6_look_13 : decode cX6_look 13 = .ok (.aload_n 0, 1) := by decide +kernel
theorem dX6_look_14 : decode cX6_look 14 = .ok (.getfield 21, 3) := by decide +kernel
theorem dX6_look_17 : decode cX6_look 17 = .ok (.iload_n 1, 1) := by decide +kernel
theorem dX6_look_18 : decode cX6_look 18 = .ok (.invokevirtual 138, 3) := by decide +kernel
theorem dX6_look_21 : decode cX6_look 21 = .ok (.ifCond .eq 15, 3) := by decide +kernel
theorem dX6_look_24 : decode cX6_look 24 = .ok (.aload_n 0, 1) := by decide +kernel
theorem dX6_look_25 : decode cX6_look 25 = .ok (.getfield 21, 3) := by decide +kernel
theorem dX6_look_28 : decode cX6_look 28 = .ok (.getfield 99, 3) := by decide +kernel
theorem dX6_look_31 : decode cX6_look 31 = .ok (.iload_n 1, 1) := by decide +kernel
theorem dX6_look_32 : decode cX6_look 32 = .ok (.iaload, 1) := by decide +kernel
theorem dX6_look_33 : decode cX6_look 33 = .ok (.goto 5, 3) := by decide +kernel
theorem dX6_look_36 : decode cX6_look 36 = .ok (.bipush (-3), 2) := by decide +kernel
theorem dX6_look_38 : decode cX6_look 38 = .ok (.ireturn, 1) := by decide +kernel
theorem dX6_away_0 : decode cX6_away 0 = .ok (.aload_n 0, 1) := by decide +kernel
theorem dX6_away_1 : decode cX6_away 1 = .ok (.getfield 21, 3) := by decide +kernel
theorem dX6_away_4 : decode cX6_away 4 = .ok (.iload_n 1, 1) := by decide +kernel
theorem dX6_away_5 : decode cX6_away 5 = .ok (.invokevirtual 92, 3) := by decide +kernel
theorem dX6_away_8 : decode cX6_away 8 = .ok (.ifCond .ne 5, 3) := by decide +kernel
theorem dX6_away_11 : decode cX6_away 11 = .ok (.iconst (-1), 1) := by decide +kernel
theorem dX6_away_12 : decode cX6_away 12 = .ok (.ireturn, 1) := by decide +kernel
theorem dX6_away_13 : decode cX6_away 13 = .ok (.aload_n 0, 1) := by decide +kernel
theorem dX6_away_14 : decode cX6_away 14 = .ok (.getfield 21, 3) := by decide +kernel
theorem dX6_away_17 : decode cX6_away 17 = .ok (.iload_n 1, 1) := by decide +kernel
theorem dX6_away_18 : decode cX6_away 18 = .ok (.invokevirtual 141, 3) := by decide +kernel
theorem dX6_away_21 : decode cX6_away 21 = .ok (.ifCond .eq 16, 3) := by decide +kernel
theorem dX6_away_24 : decode cX6_away 24 = .ok (.aload_n 0, 1) := by decide +kernel
theorem dX6_away_25 : decode cX6_away 25 = .ok (.getfield 21, 3) := by decide +kernel
theorem dX6_away_28 : decode cX6_away 28 = .ok (.getfield 144, 3) := by decide +kernel
theorem dX6_away_31 : decode cX6_away 31 = .ok (.invokestatic 111, 3) := by decide +kernel
theorem dX6_away_34 : decode cX6_away 34 = .ok (.goto 5, 3) := by decide +kernel
theorem dX6_away_37 : decode cX6_away 37 = .ok (.bipush (-3), 2) := by decide +kernel
theorem dX6_away_39 : decode cX6_away 39 = .ok (.ireturn, 1) := by decide +kernel
theorem dX6_stroke_0 : decode cX6_stroke 0 = .ok (.aload_n 0, 1) := by decide +kernel
theorem dX6_stroke_1 : decode cX6_stroke 1 = .ok (.getfield 21, 3) := by decide +kernel
theorem dX6_stroke_4 : decode cX6_stroke 4 = .ok (.iload_n 1, 1) := by decide +kernel
theorem dX6_stroke_5 : decode cX6_stroke 5 = .ok (.invokevirtual 92, 3) := by decide +kernel
theorem dX6_stroke_8 : decode cX6_stroke 8 = .ok (.ifCond .ne 5, 3) := by decide +kernel
theorem dX6_stroke_11 : decode cX6_stroke 11 = .ok (.iconst (-1), 1) := by decide +kernel
theorem dX6_stroke_12 : decode cX6_stroke 12 = .ok (.ireturn, 1) := by decide +kernel
theorem dX6_stroke_13 : decode cX6_stroke 13 = .ok (.iload_n 2, 1) := by decide +kernel
theorem dX6_stroke_14 : decode cX6_stroke 14 = .ok (.ifCond .lt 9, 3) := by decide +kernel
theorem dX6_stroke_17 : decode cX6_stroke 17 = .ok (.iload_n 2, 1) := by decide +kernel
theorem dX6_stroke_18 : decode cX6_stroke 18 = .ok (.bipush 6, 2) := by decide +kernel
theorem dX6_stroke_20 : decode cX6_stroke 20 = .ok (.if_icmp .lt 6, 3) := by decide +kernel
theorem dX6_stroke_23 : decode cX6_stroke 23 = .ok (.bipush (-2), 2) := by decide +kernel
theorem dX6_stroke_25 : decode cX6_stroke 25 = .ok (.ireturn, 1) := by decide +kernel
theorem dX6_stroke_26 : decode cX6_stroke 26 = .ok (.aload_n 0, 1) := by decide +kernel
theorem dX6_stroke_27 : decode cX6_stroke 27 = .ok (.getfield 21, 3) := by decide +kernel
theorem dX6_stroke_30 : decode cX6_stroke 30 = .ok (.iload_n 1, 1) := by decide +kernel
theorem dX6_stroke_31 : decode cX6_stroke 31 = .ok (.iload_n 2, 1) := by decide +kernel
theorem dX6_stroke_32 : decode cX6_stroke 32 = .ok (.invokevirtual 147, 3) := by decide +kernel
theorem dX6_stroke_35 : decode cX6_stroke 35 = .ok (.aload_n 0, 1) := by decide +kernel
theorem dX6_stroke_36 : decode cX6_stroke 36 = .ok (.getfield 21, 3) := by decide +kernel
theorem dX6_stroke_39 : decode cX6_stroke 39 = .ok (.getfield 99, 3) := by decide +kernel
theorem dX6_stroke_42 : decode cX6_stroke 42 = .ok (.iload_n 1, 1) := by decide +kernel
theorem dX6_stroke_43 : decode cX6_stroke 43 = .ok (.iaload, 1) := by decide +kernel
theorem dX6_stroke_44 : decode cX6_stroke 44 = .ok (.ireturn, 1) := by decide +kernel
theorem dX6_years_0 : decode cX6_years 0 = .ok (.iload_n 1, 1) := by decide +kernel
theorem dX6_years_1 : decode cX6_years 1 = .ok (.invokestatic 49, 3) := by decide +kernel
theorem dX6_years_4 : decode cX6_years 4 = .ok (.ifCond .ne 9, 3) := by decide +kernel
theorem dX6_years_7 : decode cX6_years 7 = .ok (.aload_n 0, 1) := by decide +kernel
theorem dX6_years_8 : decode cX6_years 8 = .ok (.iconst (-1), 1) := by decide +kernel
theorem dX6_years_9 : decode cX6_years 9 = .ok (.invokevirtual 53, 3) := by decide +kernel
theorem dX6_years_12 : decode cX6_years 12 = .ok (.ireturn, 1) := by decide +kernel
theorem dX6_years_13 : decode cX6_years 13 = .ok (.iload_n 2, 1) := by decide +kernel
theorem dX6_years_14 : decode cX6_years 14 = .ok (.invokestatic 57, 3) := by decide +kernel
theorem dX6_years_17 : decode cX6_years 17 = .ok (.ifCond .eq 19, 3) := by decide +kernel
theorem dX6_years_20 : decode cX6_years 20 = .ok (.iload 4, 2) := by decide +kernel
theorem dX6_years_22 : decode cX6_years 22 = .ok (.invokestatic 151, 3) := by decide +kernel
theorem dX6_years_25 : decode cX6_years 25 = .ok (.ifCond .eq 11, 3) := by decide +kernel
theorem dX6_years_28 : decode cX6_years 28 = .ok (.iload 5, 2) := by decide +kernel
theorem dX6_years_30 : decode cX6_years 30 = .ok (.invokestatic 154, 3) := by decide +kernel
theorem dX6_years_33 : decode cX6_years 33 = .ok (.ifCond .ne 10, 3) := by decide +kernel
theorem dX6_years_36 : decode cX6_years 36 = .ok (.aload_n 0, 1) := by decide +kernel
theorem dX6_years_37 : decode cX6_years 37 = .ok (.bipush (-2), 2) := by decide +kernel
theorem dX6_years_39 : decode cX6_years 39 = .ok (.invokevirtual 53, 3) := by decide +kernel
theorem dX6_years_42 : decode cX6_years 42 = .ok (.ireturn, 1) := by decide +kernel
theorem dX6_years_43 : decode cX6_years 43 = .ok (.aload_n 0, 1) := by decide +kernel
theorem dX6_years_44 : decode cX6_years 44 = .ok (.getfield 44, 3) := by decide +kernel
theorem dX6_years_47 : decode cX6_years 47 = .ok (.iload_n 1, 1) := by decide +kernel
theorem dX6_years_48 : decode cX6_years 48 = .ok (.aaload, 1) := by decide +kernel
theorem dX6_years_49 : decode cX6_years 49 = .ok (.astore 6, 2) := by decide +kernel
theorem dX6_years_51 : decode cX6_years 51 = .ok (.aload 6, 2) := by decide +kernel
theorem dX6_years_53 : decode cX6_years 53 = .ok (.iload_n 2, 1) := by decide +kernel
theorem dX6_years_54 : decode cX6_years 54 = .ok (.iload_n 3, 1) := by decide +kernel
theorem dX6_years_55 : decode cX6_years 55 = .ok (.iconst 2, 1) := by decide +kernel
theorem dX6_years_56 : decode cX6_years 56 = .ok (.iload 4, 2) := by decide +kernel
theorem dX6_years_58 : decode cX6_years 58 = .ok (.imul, 1) := by decide +kernel
theorem dX6_years_59 : decode cX6_years 59 = .ok (.invokevirtual 60, 3) := by decide +kernel
theorem dX6_years_62 : decode cX6_years 62 = .ok (.istore 7, 2) := by decide +kernel
theorem dX6_years_64 : decode cX6_years 64 = .ok (.iload 7, 2) := by decide +kernel
theorem dX6_years_66 : decode cX6_years 66 = .ok (.ifCond .eq 10, 3) := by decide +kernel
theorem dX6_years_69 : decode cX6_years 69 = .ok (.aload_n 0, 1) := by decide +kernel
theorem dX6_years_70 : decode cX6_years 70 = .ok (.iload 7, 2) := by decide +kernel
theorem dX6_years_72 : decode cX6_years 72 = .ok (.invokevirtual 64, 3) := by decide +kernel
theorem dX6_years_75 : decode cX6_years 75 = .ok (.ireturn, 1) := by decide +kernel
theorem dX6_years_76 : decode cX6_years 76 = .ok (.aload_n 0, 1) := by decide +kernel
theorem dX6_years_77 : decode cX6_years 77 = .ok (.invokevirtual 123, 3) := by decide +kernel
theorem dX6_years_80 : decode cX6_years 80 = .ok (.ifCond .ne 10, 3) := by decide +kernel
theorem dX6_years_83 : decode cX6_years 83 = .ok (.aload_n 0, 1) := by decide +kernel
theorem dX6_years_84 : decode cX6_years 84 = .ok (.bipush (-3), 2) := by decide +kernel
theorem dX6_years_86 : decode cX6_years 86 = .ok (.invokevirtual 53, 3) := by decide +kernel
theorem dX6_years_89 : decode cX6_years 89 = .ok (.ireturn, 1) := by decide +kernel
theorem dX6_years_90 : decode cX6_years 90 = .ok (.aload_n 0, 1) := by decide +kernel
theorem dX6_years_91 : decode cX6_years 91 = .ok (.getfield 21, 3) := by decide +kernel
theorem dX6_years_94 : decode cX6_years 94 = .ok (.aload 6, 2) := by decide +kernel
theorem dX6_years_96 : decode cX6_years 96 = .ok (.iload_n 3, 1) := by decide +kernel
theorem dX6_years_97 : decode cX6_years 97 = .ok (.iload 4, 2) := by decide +kernel
theorem dX6_years_99 : decode cX6_years 99 = .ok (.invokestatic 157, 3) := by decide +kernel
theorem dX6_years_102 : decode cX6_years 102 = .ok (.istore 8, 2) := by decide +kernel
theorem dX6_years_104 : decode cX6_years 104 = .ok (.iload 8, 2) := by decide +kernel
theorem dX6_years_106 : decode cX6_years 106 = .ok (.ifCond .eq 10, 3) := by decide +kernel
theorem dX6_years_109 : decode cX6_years 109 = .ok (.aload_n 0, 1) := by decide +kernel
theorem dX6_years_110 : decode cX6_years 110 = .ok (.iload 8, 2) := by decide +kernel
theorem dX6_years_112 : decode cX6_years 112 = .ok (.invokevirtual 53, 3) := by decide +kernel
theorem dX6_years_115 : decode cX6_years 115 = .ok (.ireturn, 1) := by decide +kernel
theorem dX6_years_116 : decode cX6_years 116 = .ok (.aload_n 0, 1) := by decide +kernel
theorem dX6_years_117 : decode cX6_years 117 = .ok (.getfield 31, 3) := by decide +kernel
theorem dX6_years_120 : decode cX6_years 120 = .ok (.aload_n 0, 1) := by decide +kernel
theorem dX6_years_121 : decode cX6_years 121 = .ok (.getfield 21, 3) := by decide +kernel
theorem dX6_years_124 : decode cX6_years 124 = .ok (.aload_n 0, 1) := by decide +kernel
theorem dX6_years_125 : decode cX6_years 125 = .ok (.getfield 12, 3) := by decide +kernel
theorem dX6_years_128 : decode cX6_years 128 = .ok (.aload 6, 2) := by decide +kernel
theorem dX6_years_130 : decode cX6_years 130 = .ok (.iload_n 3, 1) := by decide +kernel
theorem dX6_years_131 : decode cX6_years 131 = .ok (.iload 4, 2) := by decide +kernel
theorem dX6_years_133 : decode cX6_years 133 = .ok (.invokevirtual 161, 3) := by decide +kernel
theorem dX6_years_136 : decode cX6_years 136 = .ok (.aload_n 0, 1) := by decide +kernel
theorem dX6_years_137 : decode cX6_years 137 = .ok (.aload_n 0, 1) := by decide +kernel
theorem dX6_years_138 : decode cX6_years 138 = .ok (.getfield 31, 3) := by decide +kernel
theorem dX6_years_141 : decode cX6_years 141 = .ok (.iload 5, 2) := by decide +kernel
theorem dX6_years_143 : decode cX6_years 143 = .ok (.invokevirtual 165, 3) := by decide +kernel
theorem dX6_years_146 : decode cX6_years 146 = .ok (.invokevirtual 53, 3) := by decide +kernel
theorem dX6_years_149 : decode cX6_years 149 = .ok (.ireturn, 1) := by decide +kernel
theorem dX6_comes_0 : decode cX6_comes 0 = .ok (.aload_n 0, 1) := by decide +kernel
theorem dX6_comes_1 : decode cX6_comes 1 = .ok (.getfield 21, 3) := by decide +kernel
theorem dX6_comes_4 : decode cX6_comes 4 = .ok (.iload_n 1, 1) := by decide +kernel
theorem dX6_comes_5 : decode cX6_comes 5 = .ok (.invokevirtual 92, 3) := by decide +kernel
theorem dX6_comes_8 : decode cX6_comes 8 = .ok (.ifCond .ne 5, 3) := by decide +kernel
theorem dX6_comes_11 : decode cX6_comes 11 = .ok (.iconst (-1), 1) := by decide +kernel
theorem dX6_comes_12 : decode cX6_comes 12 = .ok (.ireturn, 1) := by decide +kernel
theorem dX6_comes_13 : decode cX6_comes 13 = .ok (.iload_n 2, 1) := by decide +kernel
theorem dX6_comes_14 : decode cX6_comes 14 = .ok (.invokestatic 168, 3) := by decide +kernel
theorem dX6_comes_17 : decode cX6_comes 17 = .ok (.ifCond .ne 6, 3) := by decide +kernel
theorem dX6_comes_20 : decode cX6_comes 20 = .ok (.bipush (-2), 2) := by decide +kernel
theorem dX6_comes_22 : decode cX6_comes 22 = .ok (.ireturn, 1) := by decide +kernel
theorem dX6_comes_23 : decode cX6_comes 23 = .ok (.aload_n 0, 1) := by decide +kernel
theorem dX6_comes_24 : decode cX6_comes 24 = .ok (.getfield 12, 3) := by decide +kernel
theorem dX6_comes_27 : decode cX6_comes 27 = .ok (.aload_n 0, 1) := by decide +kernel
theorem dX6_comes_28 : decode cX6_comes 28 = .ok (.getfield 21, 3) := by decide +kernel
theorem dX6_comes_31 : decode cX6_comes 31 = .ok (.getfield 99, 3) := by decide +kernel
theorem dX6_comes_34 : decode cX6_comes 34 = .ok (.iload_n 1, 1) := by decide +kernel
theorem dX6_comes_35 : decode cX6_comes 35 = .ok (.iaload, 1) := by decide +kernel
theorem dX6_comes_36 : decode cX6_comes 36 = .ok (.aload_n 0, 1) := by decide +kernel
theorem dX6_comes_37 : decode cX6_comes 37 = .ok (.getfield 21, 3) := by decide +kernel
theorem dX6_comes_40 : decode cX6_comes 40 = .ok (.iload_n 1, 1) := by decide +kernel
theorem dX6_comes_41 : decode cX6_comes 41 = .ok (.invokevirtual 105, 3) := by decide +kernel
theorem dX6_comes_44 : decode cX6_comes 44 = .ok (.iload_n 2, 1) := by decide +kernel
theorem dX6_comes_45 : decode cX6_comes 45 = .ok (.invokevirtual 171, 3) := by decide +kernel
theorem dX6_comes_48 : decode cX6_comes 48 = .ok (.ireturn, 1) := by decide +kernel
theorem dX6_strokes_0 : decode cX6_strokes 0 = .ok (.aload_n 0, 1) := by decide +kernel
theorem dX6_strokes_1 : decode cX6_strokes 1 = .ok (.getfield 21, 3) := by decide +kernel
theorem dX6_strokes_4 : decode cX6_strokes 4 = .ok (.iload_n 1, 1) := by decide +kernel
theorem dX6_strokes_5 : decode cX6_strokes 5 = .ok (.invokevirtual 92, 3) := by decide +kernel
theorem dX6_strokes_8 : decode cX6_strokes 8 = .ok (.ifCond .ne 5, 3) := by decide +kernel
theorem dX6_strokes_11 : decode cX6_strokes 11 = .ok (.iconst (-1), 1) := by decide +kernel
theorem dX6_strokes_12 : decode cX6_strokes 12 = .ok (.ireturn, 1) := by decide +kernel
theorem dX6_strokes_13 : decode cX6_strokes 13 = .ok (.iload_n 2, 1) := by decide +kernel
theorem dX6_strokes_14 : decode cX6_strokes 14 = .ok (.invokestatic 168, 3) := by decide +kernel
theorem dX6_strokes_17 : decode cX6_strokes 17 = .ok (.ifCond .ne 6, 3) := by decide +kernel
theorem dX6_strokes_20 : decode cX6_strokes 20 = .ok (.bipush (-2), 2) := by decide +kernel
theorem dX6_strokes_22 : decode cX6_strokes 22 = .ok (.ireturn, 1) := by decide +kernel
theorem dX6_strokes_23 : decode cX6_strokes 23 = .ok (.aload_n 0, 1) := by decide +kernel
theorem dX6_strokes_24 : decode cX6_strokes 24 = .ok (.getfield 21, 3) := by decide +kernel
theorem dX6_strokes_27 : decode cX6_strokes 27 = .ok (.iload_n 1, 1) := by decide +kernel
theorem dX6_strokes_28 : decode cX6_strokes 28 = .ok (.invokevirtual 105, 3) := by decide +kernel
theorem dX6_strokes_31 : decode cX6_strokes 31 = .ok (.istore_n 3, 1) := by decide +kernel
theorem dX6_strokes_32 : decode cX6_strokes 32 = .ok (.bipush (-9), 2) := by decide +kernel
theorem dX6_strokes_34 : decode cX6_strokes 34 = .ok (.istore 4, 2) := by decide +kernel
theorem dX6_strokes_36 : decode cX6_strokes 36 = .ok (.bipush 7, 2) := by decide +kernel
theorem dX6_strokes_38 : decode cX6_strokes 38 = .ok (.istore 5, 2) := by decide +kernel
theorem dX6_strokes_40 : decode cX6_strokes 40 = .ok (.iconst 0, 1) := by decide +kernel
theorem dX6_strokes_41 : decode cX6_strokes 41 = .ok (.istore 6, 2) := by decide +kernel
theorem dX6_strokes_43 : decode cX6_strokes 43 = .ok (.iload 6, 2) := by decide +kernel
theorem dX6_strokes_45 : decode cX6_strokes 45 = .ok (.bipush 64, 2) := by decide +kernel
theorem dX6_strokes_47 : decode cX6_strokes 47 = .ok (.if_icmp .ge 57, 3) := by decide +kernel
theorem dX6_strokes_50 : decode cX6_strokes 50 = .ok (.iload 6, 2) := by decide +kernel
theorem dX6_strokes_52 : decode cX6_strokes 52 = .ok (.invokestatic 111, 3) := by decide +kernel
theorem dX6_strokes_55 : decode cX6_strokes 55 = .ok (.istore 7, 2) := by decide +kernel
theorem dX6_strokes_57 : decode cX6_strokes 57 = .ok (.iload 7, 2) := by decide +kernel
theorem dX6_strokes_59 : decode cX6_strokes 59 = .ok (.iload 5, 2) := by decide +kernel
theorem dX6_strokes_61 : decode cX6_strokes 61 = .ok (.if_icmp .ge 37, 3) := by decide +kernel
theorem dX6_strokes_64 : decode cX6_strokes 64 = .ok (.aload_n 0, 1) := by decide +kernel
theorem dX6_strokes_65 : decode cX6_strokes 65 = .ok (.getfield 12, 3) := by decide +kernel
theorem dX6_strokes_68 : decode cX6_strokes 68 = .ok (.aload_n 0, 1) := by decide +kernel
theorem dX6_strokes_69 : decode cX6_strokes 69 = .ok (.getfield 21, 3) := by decide +kernel
theorem dX6_strokes_72 : decode cX6_strokes 72 = .ok (.getfield 99, 3) := by decide +kernel
theorem dX6_strokes_75 : decode cX6_strokes 75 = .ok (.iload_n 1, 1) := by decide +kernel
theorem dX6_strokes_76 : decode cX6_strokes 76 = .ok (.iaload, 1) := by decide +kernel
theorem dX6_strokes_77 : decode cX6_strokes 77 = .ok (.iload 6, 2) := by decide +kernel
theorem dX6_strokes_79 : decode cX6_strokes 79 = .ok (.ixor, 1) := by decide +kernel
theorem dX6_strokes_80 : decode cX6_strokes 80 = .ok (.iload_n 3, 1) := by decide +kernel
theorem dX6_strokes_81 : decode cX6_strokes 81 = .ok (.iload_n 2, 1) := by decide +kernel
theorem dX6_strokes_82 : decode cX6_strokes 82 = .ok (.invokevirtual 171, 3) := by decide +kernel
theorem dX6_strokes_85 : decode cX6_strokes 85 = .ok (.bipush (-9), 2) := by decide +kernel
theorem dX6_strokes_87 : decode cX6_strokes 87 = .ok (.if_icmp .eq 11, 3) := by decide +kernel
theorem dX6_strokes_90 : decode cX6_strokes 90 = .ok (.iload 6, 2) := by decide +kernel
theorem dX6_strokes_92 : decode cX6_strokes 92 = .ok (.istore 4, 2) := by decide +kernel
theorem dX6_strokes_94 : decode cX6_strokes 94 = .ok (.iload 7, 2) := by decide +kernel
theorem dX6_strokes_96 : decode cX6_strokes 96 = .ok (.istore 5, 2) := by decide +kernel
theorem dX6_strokes_98 : decode cX6_strokes 98 = .ok (.iinc 6 1, 3) := by decide +kernel
theorem dX6_strokes_101 : decode cX6_strokes 101 = .ok (.goto (-58), 3) := by decide +kernel
theorem dX6_strokes_104 : decode cX6_strokes 104 = .ok (.iload 4, 2) := by decide +kernel
theorem dX6_strokes_106 : decode cX6_strokes 106 = .ok (.ireturn, 1) := by decide +kernel
theorem dX6_round_0 : decode cX6_round 0 = .ok (.iload_n 1, 1) := by decide +kernel
theorem dX6_round_1 : decode cX6_round 1 = .ok (.invokestatic 168, 3) := by decide +kernel
theorem dX6_round_4 : decode cX6_round 4 = .ok (.ifCond .eq 12, 3) := by decide +kernel
theorem dX6_round_7 : decode cX6_round 7 = .ok (.iload_n 2, 1) := by decide +kernel
theorem dX6_round_8 : decode cX6_round 8 = .ok (.ifCond .lt 8, 3) := by decide +kernel
theorem dX6_round_11 : decode cX6_round 11 = .ok (.iload_n 2, 1) := by decide +kernel
theorem dX6_round_12 : decode cX6_round 12 = .ok (.iconst 1, 1) := by decide +kernel
theorem dX6_round_13 : decode cX6_round 13 = .ok (.if_icmp .le 6, 3) := by decide +kernel
theorem dX6_round_16 : decode cX6_round 16 = .ok (.bipush (-2), 2) := by decide +kernel
theorem dX6_round_18 : decode cX6_round 18 = .ok (.ireturn, 1) := by decide +kernel
theorem dX6_round_19 : decode cX6_round 19 = .ok (.aload_n 0, 1) := by decide +kernel
theorem dX6_round_20 : decode cX6_round 20 = .ok (.invokevirtual 123, 3) := by decide +kernel
theorem dX6_round_23 : decode cX6_round 23 = .ok (.ifCond .ne 6, 3) := by decide +kernel
theorem dX6_round_26 : decode cX6_round 26 = .ok (.bipush (-3), 2) := by decide +kernel
theorem dX6_round_28 : decode cX6_round 28 = .ok (.ireturn, 1) := by decide +kernel
theorem dX6_round_29 : decode cX6_round 29 = .ok (.iconst 0, 1) := by decide +kernel
theorem dX6_round_30 : decode cX6_round 30 = .ok (.istore_n 3, 1) := by decide +kernel
theorem dX6_round_31 : decode cX6_round 31 = .ok (.iload_n 1, 1) := by decide +kernel
theorem dX6_round_32 : decode cX6_round 32 = .ok (.istore 4, 2) := by decide +kernel
theorem dX6_round_34 : decode cX6_round 34 = .ok (.iload_n 3, 1) := by decide +kernel
theorem dX6_round_35 : decode cX6_round 35 = .ok (.bipush 64, 2) := by decide +kernel
theorem dX6_round_37 : decode cX6_round 37 = .ok (.if_icmp .ge 35, 3) := by decide +kernel
theorem dX6_round_40 : decode cX6_round 40 = .ok (.aload_n 0, 1) := by decide +kernel
theorem dX6_round_41 : decode cX6_round 41 = .ok (.getfield 12, 3) := by decide +kernel
theorem dX6_round_44 : decode cX6_round 44 = .ok (.iload 4, 2) := by decide +kernel
theorem dX6_round_46 : decode cX6_round 46 = .ok (.invokevirtual 174, 3) := by decide +kernel
theorem dX6_round_49 : decode cX6_round 49 = .ok (.bipush (-9), 2) := by decide +kernel
theorem dX6_round_51 : decode cX6_round 51 = .ok (.if_icmp .ne 21, 3) := by decide +kernel
theorem dX6_round_54 : decode cX6_round 54 = .ok (.aload_n 0, 1) := by decide +kernel
theorem dX6_round_55 : decode cX6_round 55 = .ok (.getfield 12, 3) := by decide +kernel
theorem dX6_round_58 : decode cX6_round 58 = .ok (.iload 4, 2) := by decide +kernel
theorem dX6_round_60 : decode cX6_round 60 = .ok (.iconst 1, 1) := by decide +kernel
theorem dX6_round_61 : decode cX6_round 61 = .ok (.invokevirtual 119, 3) := by decide +kernel
theorem dX6_round_64 : decode cX6_round 64 = .ok (.istore 4, 2) := by decide +kernel
theorem dX6_round_66 : decode cX6_round 66 = .ok (.iinc 3 1, 3) := by decide +kernel
theorem dX6_round_69 : decode cX6_round 69 = .ok (.goto (-35), 3) := by decide +kernel
theorem dX6_round_72 : decode cX6_round 72 = .ok (.iload_n 2, 1) := by decide +kernel
theorem dX6_round_73 : decode cX6_round 73 = .ok (.ifCond .ne 7, 3) := by decide +kernel
theorem dX6_round_76 : decode cX6_round 76 = .ok (.iload_n 3, 1) := by decide +kernel
theorem dX6_round_77 : decode cX6_round 77 = .ok (.goto 12, 3) := by decide +kernel
theorem dX6_round_80 : decode cX6_round 80 = .ok (.aload_n 0, 1) := by decide +kernel
theorem dX6_round_81 : decode cX6_round 81 = .ok (.getfield 12, 3) := by decide +kernel
theorem dX6_round_84 : decode cX6_round 84 = .ok (.iload 4, 2) := by decide +kernel
theorem dX6_round_86 : decode cX6_round 86 = .ok (.invokevirtual 174, 3) := by decide +kernel
theorem dX6_round_89 : decode cX6_round 89 = .ok (.ireturn, 1) := by decide +kernel
theorem dX6_eden_0 : decode cX6_eden 0 = .ok (.aload_n 0, 1) := by decide +kernel
theorem dX6_eden_1 : decode cX6_eden 1 = .ok (.iload_n 1, 1) := by decide +kernel
theorem dX6_eden_2 : decode cX6_eden 2 = .ok (.invokevirtual 116, 3) := by decide +kernel
theorem dX6_eden_5 : decode cX6_eden 5 = .ok (.ifCond .eq 7, 3) := by decide +kernel
theorem dX6_eden_8 : decode cX6_eden 8 = .ok (.ldc2_w 177, 3) := by decide +kernel
theorem dX6_eden_11 : decode cX6_eden 11 = .ok (.lreturn, 1) := by decide +kernel
theorem dX6_eden_12 : decode cX6_eden 12 = .ok (.lconst 0, 1) := by decide +kernel
theorem dX6_eden_13 : decode cX6_eden 13 = .ok (.lstore_n 2, 1) := by decide +kernel
theorem dX6_eden_14 : decode cX6_eden 14 = .ok (.iconst 0, 1) := by decide +kernel
theorem dX6_eden_15 : decode cX6_eden 15 = .ok (.istore 4, 2) := by decide +kernel
theorem dX6_eden_17 : decode cX6_eden 17 = .ok (.iload 4, 2) := by decide +kernel
theorem dX6_eden_19 : decode cX6_eden 19 = .ok (.bipush 64, 2) := by decide +kernel
theorem dX6_eden_21 : decode cX6_eden 21 = .ok (.if_icmp .ge 30, 3) := by decide +kernel
theorem dX6_eden_24 : decode cX6_eden 24 = .ok (.aload_n 0, 1) := by decide +kernel
theorem dX6_eden_25 : decode cX6_eden 25 = .ok (.getfield 12, 3) := by decide +kernel
theorem dX6_eden_28 : decode cX6_eden 28 = .ok (.iload 4, 2) := by decide +kernel
theorem dX6_eden_30 : decode cX6_eden 30 = .ok (.iconst 1, 1) := by decide +kernel
theorem dX6_eden_31 : decode cX6_eden 31 = .ok (.invokevirtual 119, 3) := by decide +kernel
theorem dX6_eden_34 : decode cX6_eden 34 = .ok (.iload_n 1, 1) := by decide +kernel
theorem dX6_eden_35 : decode cX6_eden 35 = .ok (.if_icmp .ne 10, 3) := by decide +kernel
theorem dX6_eden_38 : decode cX6_eden 38 = .ok (.lload_n 2, 1) := by decide +kernel
theorem dX6_eden_39 : decode cX6_eden 39 = .ok (.lconst 1, 1) := by decide +kernel
theorem dX6_eden_40 : decode cX6_eden 40 = .ok (.iload 4, 2) := by decide +kernel
theorem dX6_eden_42 : decode cX6_eden 42 = .ok (.lshl, 1) := by decide +kernel
theorem dX6_eden_43 : decode cX6_eden 43 = .ok (.lor, 1) := by decide +kernel
theorem dX6_eden_44 : decode cX6_eden 44 = .ok (.lstore_n 2, 1) := by decide +kernel
theorem dX6_eden_45 : decode cX6_eden 45 = .ok (.iinc 4 1, 3) := by decide +kernel
theorem dX6_eden_48 : decode cX6_eden 48 = .ok (.goto (-31), 3) := by decide +kernel
theorem dX6_eden_51 : decode cX6_eden 51 = .ok (.lload_n 2, 1) := by decide +kernel
theorem dX6_eden_52 : decode cX6_eden 52 = .ok (.lreturn, 1) := by decide +kernel
theorem dX6_alike_0 : decode cX6_alike 0 = .ok (.aload_n 0, 1) := by decide +kernel
theorem dX6_alike_1 : decode cX6_alike 1 = .ok (.getfield 21, 3) := by decide +kernel
theorem dX6_alike_4 : decode cX6_alike 4 = .ok (.iload_n 1, 1) := by decide +kernel
theorem dX6_alike_5 : decode cX6_alike 5 = .ok (.invokevirtual 92, 3) := by decide +kernel
theorem dX6_alike_8 : decode cX6_alike 8 = .ok (.ifCond .eq 19, 3) := by decide +kernel
theorem dX6_alike_11 : decode cX6_alike 11 = .ok (.aload_n 0, 1) := by decide +kernel
theorem dX6_alike_12 : decode cX6_alike 12 = .ok (.getfield 21, 3) := by decide +kernel
theorem dX6_alike_15 : decode cX6_alike 15 = .ok (.iload_n 2, 1) := by decide +kernel
theorem dX6_alike_16 : decode cX6_alike 16 = .ok (.invokevirtual 92, 3) := by decide +kernel
theorem dX6_alike_19 : decode cX6_alike 19 = .ok (.ifCond .eq 8, 3) := by decide +kernel
theorem dX6_alike_22 : decode cX6_alike 22 = .ok (.iload_n 1, 1) := by decide +kernel
theorem dX6_alike_23 : decode cX6_alike 23 = .ok (.iload_n 2, 1) := by decide +kernel
theorem dX6_alike_24 : decode cX6_alike 24 = .ok (.if_icmp .ne 5, 3) := by decide +kernel
theorem dX6_alike_27 : decode cX6_alike 27 = .ok (.iconst (-1), 1) := by decide +kernel
theorem dX6_alike_28 : decode cX6_alike 28 = .ok (.ireturn, 1) := by decide +kernel
theorem dX6_alike_29 : decode cX6_alike 29 = .ok (.aload_n 0, 1) := by decide +kernel
theorem dX6_alike_30 : decode cX6_alike 30 = .ok (.getfield 21, 3) := by decide +kernel
theorem dX6_alike_33 : decode cX6_alike 33 = .ok (.getfield 99, 3) := by decide +kernel
theorem dX6_alike_36 : decode cX6_alike 36 = .ok (.iload_n 1, 1) := by decide +kernel
theorem dX6_alike_37 : decode cX6_alike 37 = .ok (.iaload, 1) := by decide +kernel
theorem dX6_alike_38 : decode cX6_alike 38 = .ok (.istore_n 3, 1) := by decide +kernel
theorem dX6_alike_39 : decode cX6_alike 39 = .ok (.aload_n 0, 1) := by decide +kernel
theorem dX6_alike_40 : decode cX6_alike 40 = .ok (.getfield 21, 3) := by decide +kernel
theorem dX6_alike_43 : decode cX6_alike 43 = .ok (.getfield 99, 3) := by decide +kernel
theorem dX6_alike_46 : decode cX6_alike 46 = .ok (.iload_n 2, 1) := by decide +kernel
theorem dX6_alike_47 : decode cX6_alike 47 = .ok (.iaload, 1) := by decide +kernel
theorem dX6_alike_48 : decode cX6_alike 48 = .ok (.istore 4, 2) := by decide +kernel
theorem dX6_alike_50 : decode cX6_alike 50 = .ok (.iconst 0, 1) := by decide +kernel
theorem dX6_alike_51 : decode cX6_alike 51 = .ok (.istore 5, 2) := by decide +kernel
theorem dX6_alike_53 : decode cX6_alike 53 = .ok (.iload 5, 2) := by decide +kernel
theorem dX6_alike_55 : decode cX6_alike 55 = .ok (.bipush 99, 2) := by decide +kernel
theorem dX6_alike_57 : decode cX6_alike 57 = .ok (.if_icmp .gt 54, 3) := by decide +kernel
theorem dX6_alike_60 : decode cX6_alike 60 = .ok (.iload_n 3, 1) := by decide +kernel
theorem dX6_alike_61 : decode cX6_alike 61 = .ok (.iload 4, 2) := by decide +kernel
theorem dX6_alike_63 : decode cX6_alike 63 = .ok (.if_icmp .ne 6, 3) := by decide +kernel
theorem dX6_alike_66 : decode cX6_alike 66 = .ok (.iload 5, 2) := by decide +kernel
theorem dX6_alike_68 : decode cX6_alike 68 = .ok (.ireturn, 1) := by decide +kernel
theorem dX6_alike_69 : decode cX6_alike 69 = .ok (.aload_n 0, 1) := by decide +kernel
theorem dX6_alike_70 : decode cX6_alike 70 = .ok (.getfield 12, 3) := by decide +kernel
theorem dX6_alike_73 : decode cX6_alike 73 = .ok (.iload_n 3, 1) := by decide +kernel
theorem dX6_alike_74 : decode cX6_alike 74 = .ok (.aload_n 0, 1) := by decide +kernel
theorem dX6_alike_75 : decode cX6_alike 75 = .ok (.getfield 21, 3) := by decide +kernel
theorem dX6_alike_78 : decode cX6_alike 78 = .ok (.iload_n 1, 1) := by decide +kernel
theorem dX6_alike_79 : decode cX6_alike 79 = .ok (.invokevirtual 105, 3) := by decide +kernel
theorem dX6_alike_82 : decode cX6_alike 82 = .ok (.invokevirtual 119, 3) := by decide +kernel
theorem dX6_alike_85 : decode cX6_alike 85 = .ok (.istore_n 3, 1) := by decide +kernel
theorem dX6_alike_86 : decode cX6_alike 86 = .ok (.aload_n 0, 1) := by decide +kernel
theorem dX6_alike_87 : decode cX6_alike 87 = .ok (.getfield 12, 3) := by decide +kernel
theorem dX6_alike_90 : decode cX6_alike 90 = .ok (.iload 4, 2) := by decide +kernel
theorem dX6_alike_92 : decode cX6_alike 92 = .ok (.aload_n 0, 1) := by decide +kernel
theorem dX6_alike_93 : decode cX6_alike 93 = .ok (.getfield 21, 3) := by decide +kernel
theorem dX6_alike_96 : decode cX6_alike 96 = .ok (.iload_n 2, 1) := by decide +kernel
theorem dX6_alike_97 : decode cX6_alike 97 = .ok (.invokevirtual 105, 3) := by decide +kernel
theorem dX6_alike_100 : decode cX6_alike 100 = .ok (.invokevirtual 119, 3) := by decide +kernel
theorem dX6_alike_103 : decode cX6_alike 103 = .ok (.istore 4, 2) := by decide +kernel
theorem dX6_alike_105 : decode cX6_alike 105 = .ok (.iinc 5 1, 3) := by decide +kernel
theorem dX6_alike_108 : decode cX6_alike 108 = .ok (.goto (-55), 3) := by decide +kernel
theorem dX6_alike_111 : decode cX6_alike 111 = .ok (.bipush (-9), 2) := by decide +kernel
theorem dX6_alike_113 : decode cX6_alike 113 = .ok (.ireturn, 1) := by decide +kernel
theorem dX6_laws_0 : decode cX6_laws 0 = .ok (.iload_n 1, 1) := by decide +kernel
theorem dX6_laws_1 : decode cX6_laws 1 = .ok (.invokestatic 49, 3) := by decide +kernel
theorem dX6_laws_4 : decode cX6_laws 4 = .ok (.ifCond .ne 9, 3) := by decide +kernel
theorem dX6_laws_7 : decode cX6_laws 7 = .ok (.aload_n 0, 1) := by decide +kernel
theorem dX6_laws_8 : decode cX6_laws 8 = .ok (.iconst (-1), 1) := by decide +kernel
theorem dX6_laws_9 : decode cX6_laws 9 = .ok (.invokevirtual 53, 3) := by decide +kernel
theorem dX6_laws_12 : decode cX6_laws 12 = .ok (.ireturn, 1) := by decide +kernel
theorem dX6_laws_13 : decode cX6_laws 13 = .ok (.iload_n 2, 1) := by decide +kernel
theorem dX6_laws_14 : decode cX6_laws 14 = .ok (.invokestatic 57, 3) := by decide +kernel
theorem dX6_laws_17 : decode cX6_laws 17 = .ok (.ifCond .eq 22, 3) := by decide +kernel
theorem dX6_laws_20 : decode cX6_laws 20 = .ok (.iload 4, 2) := by decide +kernel
theorem dX6_laws_22 : decode cX6_laws 22 = .ok (.invokestatic 151, 3) := by decide +kernel
theorem dX6_laws_25 : decode cX6_laws 25 = .ok (.ifCond .eq 14, 3) := by decide +kernel
theorem dX6_laws_28 : decode cX6_laws 28 = .ok (.iload 5, 2) := by decide +kernel
theorem dX6_laws_30 : decode cX6_laws 30 = .ok (.ifCond .lt 9, 3) := by decide +kernel
theorem dX6_laws_33 : decode cX6_laws 33 = .ok (.iload 5, 2) := by decide +kernel
theorem dX6_laws_35 : decode cX6_laws 35 = .ok (.iconst 2, 1) := by decide +kernel
theorem dX6_laws_36 : decode cX6_laws 36 = .ok (.if_icmp .le 10, 3) := by decide +kernel
theorem dX6_laws_39 : decode cX6_laws 39 = .ok (.aload_n 0, 1) := by decide +kernel
theorem dX6_laws_40 : decode cX6_laws 40 = .ok (.bipush (-2), 2) := by decide +kernel
theorem dX6_laws_42 : decode cX6_laws 42 = .ok (.invokevirtual 53, 3) := by decide +kernel
theorem dX6_laws_45 : decode cX6_laws 45 = .ok (.ireturn, 1) := by decide +kernel
theorem dX6_laws_46 : decode cX6_laws 46 = .ok (.aload_n 0, 1) := by decide +kernel
theorem dX6_laws_47 : decode cX6_laws 47 = .ok (.getfield 44, 3) := by decide +kernel
theorem dX6_laws_50 : decode cX6_laws 50 = .ok (.iload_n 1, 1) := by decide +kernel
theorem dX6_laws_51 : decode cX6_laws 51 = .ok (.aaload, 1) := by decide +kernel
theorem dX6_laws_52 : decode cX6_laws 52 = .ok (.astore 6, 2) := by decide +kernel
theorem dX6_laws_54 : decode cX6_laws 54 = .ok (.aload 6, 2) := by decide +kernel
theorem dX6_laws_56 : decode cX6_laws 56 = .ok (.iload_n 2, 1) := by decide +kernel
theorem dX6_laws_57 : decode cX6_laws 57 = .ok (.iload_n 3, 1) := by decide +kernel
theorem dX6_laws_58 : decode cX6_laws 58 = .ok (.iload 4, 2) := by decide +kernel
theorem dX6_laws_60 : decode cX6_laws 60 = .ok (.invokevirtual 60, 3) := by decide +kernel
theorem dX6_laws_63 : decode cX6_laws 63 = .ok (.istore 7, 2) := by decide +kernel
theorem dX6_laws_65 : decode cX6_laws 65 = .ok (.iload 7, 2) := by decide +kernel
theorem dX6_laws_67 : decode cX6_laws 67 = .ok (.ifCond .eq 10, 3) := by decide +kernel
theorem dX6_laws_70 : decode cX6_laws 70 = .ok (.aload_n 0, 1) := by decide +kernel
theorem dX6_laws_71 : decode cX6_laws 71 = .ok (.iload 7, 2) := by decide +kernel
theorem dX6_laws_73 : decode cX6_laws 73 = .ok (.invokevirtual 64, 3) := by decide +kernel
theorem dX6_laws_76 : decode cX6_laws 76 = .ok (.ireturn, 1) := by decide +kernel
theorem dX6_laws_77 : decode cX6_laws 77 = .ok (.iconst 0, 1) := by decide +kernel
theorem dX6_laws_78 : decode cX6_laws 78 = .ok (.istore 8, 2) := by decide +kernel
theorem dX6_laws_80 : decode cX6_laws 80 = .ok (.iload 8, 2) := by decide +kernel
theorem dX6_laws_82 : decode cX6_laws 82 = .ok (.iload 4, 2) := by decide +kernel
theorem dX6_laws_84 : decode cX6_laws 84 = .ok (.if_icmp .ge 31, 3) := by decide +kernel
theorem dX6_laws_87 : decode cX6_laws 87 = .ok (.aload 6, 2) := by decide +kernel
theorem dX6_laws_89 : decode cX6_laws 89 = .ok (.iload_n 3, 1) := by decide +kernel
theorem dX6_laws_90 : decode cX6_laws 90 = .ok (.iload 8, 2) := by decide +kernel
theorem dX6_laws_92 : decode cX6_laws 92 = .ok (.iadd, 1) := by decide +kernel
theorem dX6_laws_93 : decode cX6_laws 93 = .ok (.invokevirtual 179, 3) := by decide +kernel
theorem dX6_laws_96 : decode cX6_laws 96 = .ok (.invokestatic 168, 3) := by decide +kernel
theorem dX6_laws_99 : decode cX6_laws 99 = .ok (.ifCond .ne 10, 3) := by decide +kernel
theorem dX6_laws_102 : decode cX6_laws 102 = .ok (.aload_n 0, 1) := by decide +kernel
theorem dX6_laws_103 : decode cX6_laws 103 = .ok (.bipush (-2), 2) := by decide +kernel
theorem dX6_laws_105 : decode cX6_laws 105 = .ok (.invokevirtual 53, 3) := by decide +kernel
theorem dX6_laws_108 : decode cX6_laws 108 = .ok (.ireturn, 1) := by decide +kernel
theorem dX6_laws_109 : decode cX6_laws 109 = .ok (.iinc 8 1, 3) := by decide +kernel
theorem dX6_laws_112 : decode cX6_laws 112 = .ok (.goto (-32), 3) := by decide +kernel
theorem dX6_laws_115 : decode cX6_laws 115 = .ok (.aload_n 0, 1) := by decide +kernel
theorem dX6_laws_116 : decode cX6_laws 116 = .ok (.aload 6, 2) := by decide +kernel
theorem dX6_laws_118 : decode cX6_laws 118 = .ok (.iload_n 3, 1) := by decide +kernel
theorem dX6_laws_119 : decode cX6_laws 119 = .ok (.iload 4, 2) := by decide +kernel
theorem dX6_laws_121 : decode cX6_laws 121 = .ok (.iload 5, 2) := by decide +kernel
theorem dX6_laws_123 : decode cX6_laws 123 = .ok (.invokestatic 182, 3) := by decide +kernel
theorem dX6_laws_126 : decode cX6_laws 126 = .ok (.invokevirtual 53, 3) := by decide +kernel
theorem dX6_laws_129 : decode cX6_laws 129 = .ok (.ireturn, 1) := by decide +kernel
theorem dX6_lawsBy_0 : decode cX6_lawsBy 0 = .ok (.iconst 0, 1) := by decide +kernel
theorem dX6_lawsBy_1 : decode cX6_lawsBy 1 = .ok (.istore 4, 2) := by decide +kernel
theorem dX6_lawsBy_3 : decode cX6_lawsBy 3 = .ok (.iconst 0, 1) := by decide +kernel
theorem dX6_lawsBy_4 : decode cX6_lawsBy 4 = .ok (.istore 5, 2) := by decide +kernel
theorem dX6_lawsBy_6 : decode cX6_lawsBy 6 = .ok (.iconst 0, 1) := by decide +kernel
theorem dX6_lawsBy_7 : decode cX6_lawsBy 7 = .ok (.istore 6, 2) := by decide +kernel
theorem dX6_lawsBy_9 : decode cX6_lawsBy 9 = .ok (.iload 6, 2) := by decide +kernel
theorem dX6_lawsBy_11 : decode cX6_lawsBy 11 = .ok (.iconst 1, 1) := by decide +kernel
theorem dX6_lawsBy_12 : decode cX6_lawsBy 12 = .ok (.iadd, 1) := by decide +kernel
theorem dX6_lawsBy_13 : decode cX6_lawsBy 13 = .ok (.iload_n 2, 1) := by decide +kernel
theorem dX6_lawsBy_14 : decode cX6_lawsBy 14 = .ok (.if_icmp .ge 86, 3) := by decide +kernel
theorem dX6_lawsBy_17 : decode cX6_lawsBy 17 = .ok (.aload_n 0, 1) := by decide +kernel
theorem dX6_lawsBy_18 : decode cX6_lawsBy 18 = .ok (.iload_n 1, 1) := by decide +kernel
theorem dX6_lawsBy_19 : decode cX6_lawsBy 19 = .ok (.iload 6, 2) := by decide +kernel
theorem dX6_lawsBy_21 : decode cX6_lawsBy 21 = .ok (.iadd, 1) := by decide +kernel
theorem dX6_lawsBy_22 : decode cX6_lawsBy 22 = .ok (.invokevirtual 179, 3) := by decide +kernel
theorem dX6_lawsBy_25 : decode cX6_lawsBy 25 = .ok (.istore 7, 2) := by decide +kernel
theorem dX6_lawsBy_27 : decode cX6_lawsBy 27 = .ok (.aload_n 0, 1) := by decide +kernel
theorem dX6_lawsBy_28 : decode cX6_lawsBy 28 = .ok (.iload_n 1, 1) := by decide +kernel
theorem dX6_lawsBy_29 : decode cX6_lawsBy 29 = .ok (.iload 6, 2) := by decide +kernel
theorem dX6_lawsBy_31 : decode cX6_lawsBy 31 = .ok (.iadd, 1) := by decide +kernel
theorem dX6_lawsBy_32 : decode cX6_lawsBy 32 = .ok (.iconst 1, 1) := by decide +kernel
theorem dX6_lawsBy_33 : decode cX6_lawsBy 33 = .ok (.iadd, 1) := by decide +kernel
theorem dX6_lawsBy_34 : decode cX6_lawsBy 34 = .ok (.invokevirtual 179, 3) := by decide +kernel
theorem dX6_lawsBy_37 : decode cX6_lawsBy 37 = .ok (.istore 8, 2) := by decide +kernel
theorem dX6_lawsBy_39 : decode cX6_lawsBy 39 = .ok (.iconst 0, 1) := by decide +kernel
theorem dX6_lawsBy_40 : decode cX6_lawsBy 40 = .ok (.istore 9, 2) := by decide +kernel
theorem dX6_lawsBy_42 : decode cX6_lawsBy 42 = .ok (.iload 9, 2) := by decide +kernel
theorem dX6_lawsBy_44 : decode cX6_lawsBy 44 = .ok (.bipush 6, 2) := by decide +kernel
theorem dX6_lawsBy_46 : decode cX6_lawsBy 46 = .ok (.if_icmp .ge 48, 3) := by decide +kernel
theorem dX6_lawsBy_49 : decode cX6_lawsBy 49 = .ok (.iconst 1, 1) := by decide +kernel
theorem dX6_lawsBy_50 : decode cX6_lawsBy 50 = .ok (.iload 7, 2) := by decide +kernel
theorem dX6_lawsBy_52 : decode cX6_lawsBy 52 = .ok (.iload 9, 2) := by decide +kernel
theorem dX6_lawsBy_54 : decode cX6_lawsBy 54 = .ok (.invokestatic 186, 3) := by decide +kernel
theorem dX6_lawsBy_57 : decode cX6_lawsBy 57 = .ok (.ishl, 1) := by decide +kernel
theorem dX6_lawsBy_58 : decode cX6_lawsBy 58 = .ok (.istore 10, 2) := by decide +kernel
theorem dX6_lawsBy_60 : decode cX6_lawsBy 60 = .ok (.iload 8, 2) := by decide +kernel
theorem dX6_lawsBy_62 : decode cX6_lawsBy 62 = .ok (.iload 9, 2) := by decide +kernel
theorem dX6_lawsBy_64 : decode cX6_lawsBy 64 = .ok (.ishr, 1) := by decide +kernel
theorem dX6_lawsBy_65 : decode cX6_lawsBy 65 = .ok (.iconst 1, 1) := by decide +kernel
theorem dX6_lawsBy_66 : decode cX6_lawsBy 66 = .ok (.iand, 1) := by decide +kernel
theorem dX6_lawsBy_67 : decode cX6_lawsBy 67 = .ok (.iconst 1, 1) := by decide +kernel
theorem dX6_lawsBy_68 : decode cX6_lawsBy 68 = .ok (.if_icmp .ne 13, 3) := by decide +kernel
theorem dX6_lawsBy_71 : decode cX6_lawsBy 71 = .ok (.iload 4, 2) := by decide +kernel
theorem dX6_lawsBy_73 : decode cX6_lawsBy 73 = .ok (.iload 10, 2) := by decide +kernel
theorem dX6_lawsBy_75 : decode cX6_lawsBy 75 = .ok (.ior, 1) := by decide +kernel
theorem dX6_lawsBy_76 : decode cX6_lawsBy 76 = .ok (.istore 4, 2) := by decide +kernel
theorem dX6_lawsBy_78 : decode cX6_lawsBy 78 = .ok (.goto 10, 3) := by decide +kernel
theorem dX6_lawsBy_81 : decode cX6_lawsBy 81 = .ok (.iload 5, 2) := by decide +kernel
theorem dX6_lawsBy_83 : decode cX6_lawsBy 83 = .ok (.iload 10, 2) := by decide +kernel
theorem dX6_lawsBy_85 : decode cX6_lawsBy 85 = .ok (.ior, 1) := by decide +kernel
theorem dX6_lawsBy_86 : decode cX6_lawsBy 86 = .ok (.istore 5, 2) := by decide +kernel
theorem dX6_lawsBy_88 : decode cX6_lawsBy 88 = .ok (.iinc 9 1, 3) := by decide +kernel
theorem dX6_lawsBy_91 : decode cX6_lawsBy 91 = .ok (.goto (-49), 3) := by decide +kernel
theorem dX6_lawsBy_94 : decode cX6_lawsBy 94 = .ok (.iinc 6 1, 3) := by decide +kernel
theorem dX6_lawsBy_97 : decode cX6_lawsBy 97 = .ok (.goto (-88), 3) := by decide +kernel
theorem dX6_lawsBy_100 : decode cX6_lawsBy 100 = .ok (.iload 4, 2) := by decide +kernel
theorem dX6_lawsBy_102 : decode cX6_lawsBy 102 = .ok (.iload 5, 2) := by decide +kernel
theorem dX6_lawsBy_104 : decode cX6_lawsBy 104 = .ok (.iand, 1) := by decide +kernel
theorem dX6_lawsBy_105 : decode cX6_lawsBy 105 = .ok (.ifCond .ne 7, 3) := by decide +kernel
theorem dX6_lawsBy_108 : decode cX6_lawsBy 108 = .ok (.iconst 1, 1) := by decide +kernel
theorem dX6_lawsBy_109 : decode cX6_lawsBy 109 = .ok (.goto 4, 3) := by decide +kernel
theorem dX6_lawsBy_112 : decode cX6_lawsBy 112 = .ok (.iconst 0, 1) := by decide +kernel
theorem dX6_lawsBy_113 : decode cX6_lawsBy 113 = .ok (.istore 6, 2) := by decide +kernel
theorem dX6_lawsBy_115 : decode cX6_lawsBy 115 = .ok (.iload_n 3, 1) := by decide +kernel
theorem dX6_lawsBy_116 : decode cX6_lawsBy 116 = .ok (.ifCond .ne 25, 3) := by decide +kernel
theorem dX6_lawsBy_119 : decode cX6_lawsBy 119 = .ok (.iload 6, 2) := by decide +kernel
theorem dX6_lawsBy_121 : decode cX6_lawsBy 121 = .ok (.ifCond .eq 18, 3) := by decide +kernel
theorem dX6_lawsBy_124 : decode cX6_lawsBy 124 = .ok (.sipush 256, 3) := by decide +kernel
theorem dX6_lawsBy_127 : decode cX6_lawsBy 127 = .ok (.iload 4, 2) := by decide +kernel
theorem dX6_lawsBy_129 : decode cX6_lawsBy 129 = .ok (.iload 5, 2) := by decide +kernel
theorem dX6_lawsBy_131 : decode cX6_lawsBy 131 = .ok (.ior, 1) := by decide +kernel
theorem dX6_lawsBy_132 : decode cX6_lawsBy 132 = .ok (.invokestatic 111, 3) := by decide +kernel
theorem dX6_lawsBy_135 : decode cX6_lawsBy 135 = .ok (.ishr, 1) := by decide +kernel
theorem dX6_lawsBy_136 : decode cX6_lawsBy 136 = .ok (.goto 4, 3) := by decide +kernel
theorem dX6_lawsBy_139 : decode cX6_lawsBy 139 = .ok (.iconst 0, 1) := by decide +kernel
theorem dX6_lawsBy_140 : decode cX6_lawsBy 140 = .ok (.ireturn, 1) := by decide +kernel
theorem dX6_lawsBy_141 : decode cX6_lawsBy 141 = .ok (.iload 6, 2) := by decide +kernel
theorem dX6_lawsBy_143 : decode cX6_lawsBy 143 = .ok (.ifCond .ne 6, 3) := by decide +kernel
theorem dX6_lawsBy_146 : decode cX6_lawsBy 146 = .ok (.bipush (-9), 2) := by decide +kernel
theorem dX6_lawsBy_148 : decode cX6_lawsBy 148 = .ok (.ireturn, 1) := by decide +kernel
theorem dX6_lawsBy_149 : decode cX6_lawsBy 149 = .ok (.iload_n 3, 1) := by decide +kernel
theorem dX6_lawsBy_150 : decode cX6_lawsBy 150 = .ok (.iconst 1, 1) := by decide +kernel
theorem dX6_lawsBy_151 : decode cX6_lawsBy 151 = .ok (.if_icmp .ne 8, 3) := by decide +kernel
theorem dX6_lawsBy_154 : decode cX6_lawsBy 154 = .ok (.iload 4, 2) := by decide +kernel
theorem dX6_lawsBy_156 : decode cX6_lawsBy 156 = .ok (.goto 9, 3) := by decide +kernel
theorem dX6_lawsBy_159 : decode cX6_lawsBy 159 = .ok (.sipush 255, 3) := by decide +kernel
theorem dX6_lawsBy_162 : decode cX6_lawsBy 162 = .ok (.iload 5, 2) := by decide +kernel
theorem dX6_lawsBy_164 : decode cX6_lawsBy 164 = .ok (.isub, 1) := by decide +kernel
theorem dX6_lawsBy_165 : decode cX6_lawsBy 165 = .ok (.ireturn, 1) := by decide +kernel
theorem dX6_reading_0 : decode cX6_reading 0 = .ok (.aload_n 0, 1) := by decide +kernel
theorem dX6_reading_1 : decode cX6_reading 1 = .ok (.getfield 21, 3) := by decide +kernel
theorem dX6_reading_4 : decode cX6_reading 4 = .ok (.iload_n 1, 1) := by decide +kernel
theorem dX6_reading_5 : decode cX6_reading 5 = .ok (.invokevirtual 92, 3) := by decide +kernel
theorem dX6_reading_8 : decode cX6_reading 8 = .ok (.ifCond .ne 5, 3) := by decide +kernel
theorem dX6_reading_11 : decode cX6_reading 11 = .ok (.iconst (-1), 1) := by decide +kernel
theorem dX6_reading_12 : decode cX6_reading 12 = .ok (.ireturn, 1) := by decide +kernel
theorem dX6_reading_13 : decode cX6_reading 13 = .ok (.iload_n 2, 1) := by decide +kernel
theorem dX6_reading_14 : decode cX6_reading 14 = .ok (.ifCond .lt 16, 3) := by decide +kernel
theorem dX6_reading_17 : decode cX6_reading 17 = .ok (.iload_n 2, 1) := by decide +kernel
theorem dX6_reading_18 : decode cX6_reading 18 = .ok (.bipush 99, 2) := by decide +kernel
theorem dX6_reading_20 : decode cX6_reading 20 = .ok (.if_icmp .gt 10, 3) := by decide +kernel
theorem dX6_reading_23 : decode cX6_reading 23 = .ok (.iload_n 3, 1) := by decide +kernel
theorem dX6_reading_24 : decode cX6_reading 24 = .ok (.invokestatic 168, 3) := by decide +kernel
theorem dX6_reading_27 : decode cX6_reading 27 = .ok (.ifCond .ne 6, 3) := by decide +kernel
theorem dX6_reading_30 : decode cX6_reading 30 = .ok (.bipush (-2), 2) := by decide +kernel
theorem dX6_reading_32 : decode cX6_reading 32 = .ok (.ireturn, 1) := by decide +kernel
theorem dX6_reading_33 : decode cX6_reading 33 = .ok (.aload_n 0, 1) := by decide +kernel
theorem dX6_reading_34 : decode cX6_reading 34 = .ok (.getfield 38, 3) := by decide +kernel
theorem dX6_reading_37 : decode cX6_reading 37 = .ok (.iload_n 1, 1) := by decide +kernel
theorem dX6_reading_38 : decode cX6_reading 38 = .ok (.iload_n 2, 1) := by decide +kernel
theorem dX6_reading_39 : decode cX6_reading 39 = .ok (.iload_n 3, 1) := by decide +kernel
theorem dX6_reading_40 : decode cX6_reading 40 = .ok (.invokevirtual 189, 3) := by decide +kernel
theorem dX6_reading_43 : decode cX6_reading 43 = .ok (.ireturn, 1) := by decide +kernel
theorem dX6_back_0 : decode cX6_back 0 = .ok (.iload_n 1, 1) := by decide +kernel
theorem dX6_back_1 : decode cX6_back 1 = .ok (.ifCond .lt 14, 3) := by decide +kernel
theorem dX6_back_4 : decode cX6_back 4 = .ok (.iload_n 1, 1) := by decide +kernel
theorem dX6_back_5 : decode cX6_back 5 = .ok (.aload_n 0, 1) := by decide +kernel
theorem dX6_back_6 : decode cX6_back 6 = .ok (.getfield 38, 3) := by decide +kernel
theorem dX6_back_9 : decode cX6_back 9 = .ok (.getfield 192, 3) := by decide +kernel
theorem dX6_back_12 : decode cX6_back 12 = .ok (.if_icmp .le 6, 3) := by decide +kernel
theorem dX6_back_15 : decode cX6_back 15 = .ok (.bipush (-2), 2) := by decide +kernel
theorem dX6_back_17 : decode cX6_back 17 = .ok (.ireturn, 1) := by decide +kernel
theorem dX6_back_18 : decode cX6_back 18 = .ok (.aload_n 0, 1) := by decide +kernel
theorem dX6_back_19 : decode cX6_back 19 = .ok (.getfield 38, 3) := by decide +kernel
theorem dX6_back_22 : decode cX6_back 22 = .ok (.dup, 1) := by decide +kernel
theorem dX6_back_23 : decode cX6_back 23 = .ok (.getfield 192, 3) := by decide +kernel
theorem dX6_back_26 : decode cX6_back 26 = .ok (.iload_n 1, 1) := by decide +kernel
theorem dX6_back_27 : decode cX6_back 27 = .ok (.isub, 1) := by decide +kernel
theorem dX6_back_28 : decode cX6_back 28 = .ok (.putfield 192, 3) := by decide +kernel
theorem dX6_back_31 : decode cX6_back 31 = .ok (.aload_n 0, 1) := by decide +kernel
theorem dX6_back_32 : decode cX6_back 32 = .ok (.getfield 38, 3) := by decide +kernel
theorem dX6_back_35 : decode cX6_back 35 = .ok (.getfield 192, 3) := by decide +kernel
theorem dX6_back_38 : decode cX6_back 38 = .ok (.ireturn, 1) := by decide +kernel
theorem dX6_paces_0 : decode cX6_paces 0 = .ok (.aload_n 0, 1) := by decide +kernel
theorem dX6_paces_1 : decode cX6_paces 1 = .ok (.getfield 21, 3) := by decide +kernel
theorem dX6_paces_4 : decode cX6_paces 4 = .ok (.iload_n 1, 1) := by decide +kernel
theorem dX6_paces_5 : decode cX6_paces 5 = .ok (.invokevirtual 92, 3) := by decide +kernel
theorem dX6_paces_8 : decode cX6_paces 8 = .ok (.ifCond .ne 5, 3) := by decide +kernel
theorem dX6_paces_11 : decode cX6_paces 11 = .ok (.iconst (-1), 1) := by decide +kernel
theorem dX6_paces_12 : decode cX6_paces 12 = .ok (.ireturn, 1) := by decide +kernel
theorem dX6_paces_13 : decode cX6_paces 13 = .ok (.aload_n 0, 1) := by decide +kernel
theorem dX6_paces_14 : decode cX6_paces 14 = .ok (.getfield 25, 3) := by decide +kernel
theorem dX6_paces_17 : decode cX6_paces 17 = .ok (.aload_n 0, 1) := by decide +kernel
theorem dX6_paces_18 : decode cX6_paces 18 = .ok (.getfield 21, 3) := by decide +kernel
theorem dX6_paces_21 : decode cX6_paces 21 = .ok (.invokevirtual 130, 3) := by decide +kernel
theorem dX6_paces_24 : decode cX6_paces 24 = .ok (.iconst 0, 1) := by decide +kernel
theorem dX6_paces_25 : decode cX6_paces 25 = .ok (.istore_n 2, 1) := by decide +kernel
theorem dX6_paces_26 : decode cX6_paces 26 = .ok (.iconst 1, 1) := by decide +kernel
theorem dX6_paces_27 : decode cX6_paces 27 = .ok (.istore_n 3, 1) := by decide +kernel
theorem dX6_paces_28 : decode cX6_paces 28 = .ok (.iload_n 3, 1) := by decide +kernel
theorem dX6_paces_29 : decode cX6_paces 29 = .ok (.iconst 4, 1) := by decide +kernel
theorem dX6_paces_30 : decode cX6_paces 30 = .ok (.if_icmp .gt 43, 3) := by decide +kernel
theorem dX6_paces_33 : decode cX6_paces 33 = .ok (.aload_n 0, 1) := by decide +kernel
theorem dX6_paces_34 : decode cX6_paces 34 = .ok (.getfield 25, 3) := by decide +kernel
theorem dX6_paces_37 : decode cX6_paces 37 = .ok (.getfield 102, 3) := by decide +kernel
theorem dX6_paces_40 : decode cX6_paces 40 = .ok (.iload_n 1, 1) := by decide +kernel
theorem dX6_paces_41 : decode cX6_paces 41 = .ok (.iload_n 3, 1) := by decide +kernel
theorem dX6_paces_42 : decode cX6_paces 42 = .ok (.iastore, 1) := by decide +kernel
theorem dX6_paces_43 : decode cX6_paces 43 = .ok (.aload_n 0, 1) := by decide +kernel
theorem dX6_paces_44 : decode cX6_paces 44 = .ok (.getfield 38, 3) := by decide +kernel
theorem dX6_paces_47 : decode cX6_paces 47 = .ok (.aload_n 0, 1) := by decide +kernel
theorem dX6_paces_48 : decode cX6_paces 48 = .ok (.getfield 25, 3) := by decide +kernel
theorem dX6_paces_51 : decode cX6_paces 51 = .ok (.aload_n 0, 1) := by decide +kernel
theorem dX6_paces_52 : decode cX6_paces 52 = .ok (.getfield 12, 3) := by decide +kernel
theorem dX6_paces_55 : decode cX6_paces 55 = .ok (.invokevirtual 193, 3) := by decide +kernel
theorem dX6_paces_58 : decode cX6_paces 58 = .ok (.ifCond .eq 9, 3) := by decide +kernel
theorem dX6_paces_61 : decode cX6_paces 61 = .ok (.iload_n 2, 1) := by decide +kernel
theorem dX6_paces_62 : decode cX6_paces 62 = .ok (.iconst 1, 1) := by decide +kernel
theorem dX6_paces_63 : decode cX6_paces 63 = .ok (.iload_n 3, 1) := by decide +kernel
theorem dX6_paces_64 : decode cX6_paces 64 = .ok (.ishl, 1) := by decide +kernel
theorem dX6_paces_65 : decode cX6_paces 65 = .ok (.ior, 1) := by decide +kernel
theorem dX6_paces_66 : decode cX6_paces 66 = .ok (.istore_n 2, 1) := by decide +kernel
theorem dX6_paces_67 : decode cX6_paces 67 = .ok (.iinc 3 1, 3) := by decide +kernel
theorem dX6_paces_70 : decode cX6_paces 70 = .ok (.goto (-42), 3) := by decide +kernel
theorem dX6_paces_73 : decode cX6_paces 73 = .ok (.iload_n 2, 1) := by decide +kernel
theorem dX6_paces_74 : decode cX6_paces 74 = .ok (.ireturn, 1) := by decide +kernel
theorem dX6_kinds_0 : decode cX6_kinds 0 = .ok (.aload_n 0, 1) := by decide +kernel
theorem dX6_kinds_1 : decode cX6_kinds 1 = .ok (.getfield 21, 3) := by decide +kernel
theorem dX6_kinds_4 : decode cX6_kinds 4 = .ok (.iload_n 1, 1) := by decide +kernel
theorem dX6_kinds_5 : decode cX6_kinds 5 = .ok (.invokevirtual 92, 3) := by decide +kernel
theorem dX6_kinds_8 : decode cX6_kinds 8 = .ok (.ifCond .ne 5, 3) := by decide +kernel
theorem dX6_kinds_11 : decode cX6_kinds 11 = .ok (.iconst (-1), 1) := by decide +kernel
theorem dX6_kinds_12 : decode cX6_kinds 12 = .ok (.ireturn, 1) := by decide +kernel
theorem dX6_kinds_13 : decode cX6_kinds 13 = .ok (.aload_n 0, 1) := by decide +kernel
theorem dX6_kinds_14 : decode cX6_kinds 14 = .ok (.getfield 25, 3) := by decide +kernel
theorem dX6_kinds_17 : decode cX6_kinds 17 = .ok (.aload_n 0, 1) := by decide +kernel
theorem dX6_kinds_18 : decode cX6_kinds 18 = .ok (.getfield 21, 3) := by decide +kernel
theorem dX6_kinds_21 : decode cX6_kinds 21 = .ok (.invokevirtual 130, 3) := by decide +kernel
theorem dX6_kinds_24 : decode cX6_kinds 24 = .ok (.iconst 0, 1) := by decide +kernel
theorem dX6_kinds_25 : decode cX6_kinds 25 = .ok (.istore_n 2, 1) := by decide +kernel
theorem dX6_kinds_26 : decode cX6_kinds 26 = .ok (.iconst 0, 1) := by decide +kernel
theorem dX6_kinds_27 : decode cX6_kinds 27 = .ok (.istore_n 3, 1) := by decide +kernel
theorem dX6_kinds_28 : decode cX6_kinds 28 = .ok (.iload_n 3, 1) := by decide +kernel
theorem dX6_kinds_29 : decode cX6_kinds 29 = .ok (.iconst 3, 1) := by decide +kernel
theorem dX6_kinds_30 : decode cX6_kinds 30 = .ok (.if_icmp .ge 43, 3) := by decide +kernel
theorem dX6_kinds_33 : decode cX6_kinds 33 = .ok (.aload_n 0, 1) := by decide +kernel
theorem dX6_kinds_34 : decode cX6_kinds 34 = .ok (.getfield 25, 3) := by decide +kernel
theorem dX6_kinds_37 : decode cX6_kinds 37 = .ok (.getfield 95, 3) := by decide +kernel
theorem dX6_kinds_40 : decode cX6_kinds 40 = .ok (.iload_n 1, 1) := by decide +kernel
theorem dX6_kinds_41 : decode cX6_kinds 41 = .ok (.iload_n 3, 1) := by decide +kernel
theorem dX6_kinds_42 : decode cX6_kinds 42 = .ok (.iastore, 1) := by decide +kernel
theorem dX6_kinds_43 : decode cX6_kinds 43 = .ok (.aload_n 0, 1) := by decide +kernel
theorem dX6_kinds_44 : decode cX6_kinds 44 = .ok (.getfield 38, 3) := by decide +kernel
theorem dX6_kinds_47 : decode cX6_kinds 47 = .ok (.aload_n 0, 1) := by decide +kernel
theorem dX6_kinds_48 : decode cX6_kinds 48 = .ok (.getfield 25, 3) := by decide +kernel
theorem dX6_kinds_51 : decode cX6_kinds 51 = .ok (.aload_n 0, 1) := by decide +kernel
theorem dX6_kinds_52 : decode cX6_kinds 52 = .ok (.getfield 12, 3) := by decide +kernel
theorem dX6_kinds_55 : decode cX6_kinds 55 = .ok (.invokevirtual 193, 3) := by decide +kernel
theorem dX6_kinds_58 : decode cX6_kinds 58 = .ok (.ifCond .eq 9, 3) := by decide +kernel
theorem dX6_kinds_61 : decode cX6_kinds 61 = .ok (.iload_n 2, 1) := by decide +kernel
theorem dX6_kinds_62 : decode cX6_kinds 62 = .ok (.iconst 1, 1) := by decide +kernel
theorem dX6_kinds_63 : decode cX6_kinds 63 = .ok (.iload_n 3, 1) := by decide +kernel
theorem dX6_kinds_64 : decode cX6_kinds 64 = .ok (.ishl, 1) := by decide +kernel
theorem dX6_kinds_65 : decode cX6_kinds 65 = .ok (.ior, 1) := by decide +kernel
theorem dX6_kinds_66 : decode cX6_kinds 66 = .ok (.istore_n 2, 1) := by decide +kernel
theorem dX6_kinds_67 : decode cX6_kinds 67 = .ok (.iinc 3 1, 3) := by decide +kernel
theorem dX6_kinds_70 : decode cX6_kinds 70 = .ok (.goto (-42), 3) := by decide +kernel
theorem dX6_kinds_73 : decode cX6_kinds 73 = .ok (.iload_n 2, 1) := by decide +kernel
theorem dX6_kinds_74 : decode cX6_kinds 74 = .ok (.ireturn, 1) := by decide +kernel
theorem dX6_starts_0 : decode cX6_starts 0 = .ok (.aload_n 0, 1) := by decide +kernel
theorem dX6_starts_1 : decode cX6_starts 1 = .ok (.getfield 21, 3) := by decide +kernel
theorem dX6_starts_4 : decode cX6_starts 4 = .ok (.iload_n 1, 1) := by decide +kernel
theorem dX6_starts_5 : decode cX6_starts 5 = .ok (.invokevirtual 92, 3) := by decide +kernel
theorem dX6_starts_8 : decode cX6_starts 8 = .ok (.ifCond .ne 5, 3) := by decide +kernel
theorem dX6_starts_11 : decode cX6_starts 11 = .ok (.lconst 0, 1) := by decide +kernel
theorem dX6_starts_12 : decode cX6_starts 12 = .ok (.lreturn, 1) := by decide +kernel
theorem dX6_starts_13 : decode cX6_starts 13 = .ok (.aload_n 0, 1) := by decide +kernel
theorem dX6_starts_14 : decode cX6_starts 14 = .ok (.getfield 25, 3) := by decide +kernel
theorem dX6_starts_17 : decode cX6_starts 17 = .ok (.aload_n 0, 1) := by decide +kernel
theorem dX6_starts_18 : decode cX6_starts 18 = .ok (.getfield 21, 3) := by decide +kernel
theorem dX6_starts_21 : decode cX6_starts 21 = .ok (.invokevirtual 130, 3) := by decide +kernel
theorem dX6_starts_24 : decode cX6_starts 24 = .ok (.lconst 0, 1) := by decide +kernel
theorem dX6_starts_25 : decode cX6_starts 25 = .ok (.lstore_n 2, 1) := by decide +kernel
theorem dX6_starts_26 : decode cX6_starts 26 = .ok (.iconst 0, 1) := by decide +kernel
theorem dX6_starts_27 : decode cX6_starts 27 = .ok (.istore 4, 2) := by decide +kernel
theorem dX6_starts_29 : decode cX6_starts 29 = .ok (.iload 4, 2) := by decide +kernel
theorem dX6_starts_31 : decode cX6_starts 31 = .ok (.bipush 64, 2) := by decide +kernel
theorem dX6_starts_33 : decode cX6_starts 33 = .ok (.if_icmp .ge 45, 3) := by decide +kernel
theorem dX6_starts_36 : decode cX6_starts 36 = .ok (.aload_n 0, 1) := by decide +kernel
theorem dX6_starts_37 : decode cX6_starts 37 = .ok (.getfield 25, 3) := by decide +kernel
theorem dX6_starts_40 : decode cX6_starts 40 = .ok (.getfield 99, 3) := by decide +kernel
theorem dX6_starts_43 : decode cX6_starts 43 = .ok (.iload_n 1, 1) := by decide +kernel
theorem dX6_starts_44 : decode cX6_starts 44 = .ok (.iload 4, 2) := by decide +kernel
theorem dX6_starts_46 : decode cX6_starts 46 = .ok (.iastore, 1) := by decide +kernel
theorem dX6_starts_47 : decode cX6_starts 47 = .ok (.aload_n 0, 1) := by decide +kernel
theorem dX6_starts_48 : decode cX6_starts 48 = .ok (.getfield 38, 3) := by decide +kernel
theorem dX6_starts_51 : decode cX6_starts 51 = .ok (.aload_n 0, 1) := by decide +kernel
theorem dX6_starts_52 : decode cX6_starts 52 = .ok (.getfield 25, 3) := by decide +kernel
theorem dX6_starts_55 : decode cX6_starts 55 = .ok (.aload_n 0, 1) := by decide +kernel
theorem dX6_starts_56 : decode cX6_starts 56 = .ok (.getfield 12, 3) := by decide +kernel
theorem dX6_starts_59 : decode cX6_starts 59 = .ok (.invokevirtual 193, 3) := by decide +kernel
theorem dX6_starts_62 : decode cX6_starts 62 = .ok (.ifCond .eq 10, 3) := by decide +kernel
theorem dX6_starts_65 : decode cX6_starts 65 = .ok (.lload_n 2, 1) := by decide +kernel
theorem dX6_starts_66 : decode cX6_starts 66 = .ok (.lconst 1, 1) := by decide +kernel
theorem dX6_starts_67 : decode cX6_starts 67 = .ok (.iload 4, 2) := by decide +kernel
theorem dX6_starts_69 : decode cX6_starts 69 = .ok (.lshl, 1) := by decide +kernel
theorem dX6_starts_70 : decode cX6_starts 70 = .ok (.lor, 1) := by decide +kernel
theorem dX6_starts_71 : decode cX6_starts 71 = .ok (.lstore_n 2, 1) := by decide +kernel
theorem dX6_starts_72 : decode cX6_starts 72 = .ok (.iinc 4 1, 3) := by decide +kernel
theorem dX6_starts_75 : decode cX6_starts 75 = .ok (.goto (-46), 3) := by decide +kernel
theorem dX6_starts_78 : decode cX6_starts 78 = .ok (.lload_n 2, 1) := by decide +kernel
theorem dX6_starts_79 : decode cX6_starts 79 = .ok (.lreturn, 1) := by decide +kernel
theorem dX6_odds_0 : decode cX6_odds 0 = .ok (.aload_n 0, 1) := by decide +kernel
theorem dX6_odds_1 : decode cX6_odds 1 = .ok (.getfield 21, 3) := by decide +kernel
theorem dX6_odds_4 : decode cX6_odds 4 = .ok (.iload_n 1, 1) := by decide +kernel
theorem dX6_odds_5 : decode cX6_odds 5 = .ok (.invokevirtual 92, 3) := by decide +kernel
theorem dX6_odds_8 : decode cX6_odds 8 = .ok (.ifCond .ne 7, 3) := by decide +kernel
theorem dX6_odds_11 : decode cX6_odds 11 = .ok (.ldc2_w 177, 3) := by decide +kernel
theorem dX6_odds_14 : decode cX6_odds 14 = .ok (.lreturn, 1) := by decide +kernel
theorem dX6_odds_15 : decode cX6_odds 15 = .ok (.iload_n 2, 1) := by decide +kernel
theorem dX6_odds_16 : decode cX6_odds 16 = .ok (.ifCond .lt 27, 3) := by decide +kernel
theorem dX6_odds_19 : decode cX6_odds 19 = .ok (.iload_n 2, 1) := by decide +kernel
theorem dX6_odds_20 : decode cX6_odds 20 = .ok (.bipush 99, 2) := by decide +kernel
theorem dX6_odds_22 : decode cX6_odds 22 = .ok (.if_icmp .gt 21, 3) := by decide +kernel
theorem dX6_odds_25 : decode cX6_odds 25 = .ok (.iload_n 3, 1) := by decide +kernel
theorem dX6_odds_26 : decode cX6_odds 26 = .ok (.invokestatic 168, 3) := by decide +kernel
theorem dX6_odds_29 : decode cX6_odds 29 = .ok (.ifCond .eq 14, 3) := by decide +kernel
theorem dX6_odds_32 : decode cX6_odds 32 = .ok (.iload 4, 2) := by decide +kernel
theorem dX6_odds_34 : decode cX6_odds 34 = .ok (.ifCond .lt 9, 3) := by decide +kernel
theorem dX6_odds_37 : decode cX6_odds 37 = .ok (.iload 4, 2) := by decide +kernel
theorem dX6_odds_39 : decode cX6_odds 39 = .ok (.iconst 1, 1) := by decide +kernel
theorem dX6_odds_40 : decode cX6_odds 40 = .ok (.if_icmp .le 7, 3) := by decide +kernel
theorem dX6_odds_43 : decode cX6_odds 43 = .ok (.ldc2_w 177, 3) := by decide +kernel
theorem dX6_odds_46 : decode cX6_odds 46 = .ok (.lreturn, 1) := by decide +kernel
theorem dX6_odds_47 : decode cX6_odds 47 = .ok (.iconst 0, 1) := by decide +kernel
theorem dX6_odds_48 : decode cX6_odds 48 = .ok (.istore 5, 2) := by decide +kernel
theorem dX6_odds_50 : decode cX6_odds 50 = .ok (.bipush 64, 2) := by decide +kernel
theorem dX6_odds_52 : decode cX6_odds 52 = .ok (.istore 6, 2) := by decide +kernel
theorem dX6_odds_54 : decode cX6_odds 54 = .ok (.iconst 0, 1) := by decide +kernel
theorem dX6_odds_55 : decode cX6_odds 55 = .ok (.istore 7, 2) := by decide +kernel
theorem dX6_odds_57 : decode cX6_odds 57 = .ok (.iload 7, 2) := by decide +kernel
theorem dX6_odds_59 : decode cX6_odds 59 = .ok (.bipush 64, 2) := by decide +kernel
theorem dX6_odds_61 : decode cX6_odds 61 = .ok (.if_icmp .ge 34, 3) := by decide +kernel
theorem dX6_odds_64 : decode cX6_odds 64 = .ok (.aload_n 0, 1) := by decide +kernel
theorem dX6_odds_65 : decode cX6_odds 65 = .ok (.getfield 12, 3) := by decide +kernel
theorem dX6_odds_68 : decode cX6_odds 68 = .ok (.iload 7, 2) := by decide +kernel
theorem dX6_odds_70 : decode cX6_odds 70 = .ok (.aload_n 0, 1) := by decide +kernel
theorem dX6_odds_71 : decode cX6_odds 71 = .ok (.getfield 21, 3) := by decide +kernel
theorem dX6_odds_74 : decode cX6_odds 74 = .ok (.iload_n 1, 1) := by decide +kernel
theorem dX6_odds_75 : decode cX6_odds 75 = .ok (.invokevirtual 105, 3) := by decide +kernel
theorem dX6_odds_78 : decode cX6_odds 78 = .ok (.iload_n 2, 1) := by decide +kernel
theorem dX6_odds_79 : decode cX6_odds 79 = .ok (.invokevirtual 197, 3) := by decide +kernel
theorem dX6_odds_82 : decode cX6_odds 82 = .ok (.iload_n 3, 1) := by decide +kernel
theorem dX6_odds_83 : decode cX6_odds 83 = .ok (.if_icmp .ne 6, 3) := by decide +kernel
theorem dX6_odds_86 : decode cX6_odds 86 = .ok (.iinc 5 1, 3) := by decide +kernel
theorem dX6_odds_89 : decode cX6_odds 89 = .ok (.iinc 7 1, 3) := by decide +kernel
theorem dX6_odds_92 : decode cX6_odds 92 = .ok (.goto (-35), 3) := by decide +kernel
theorem dX6_odds_95 : decode cX6_odds 95 = .ok (.iload 6, 2) := by decide +kernel
theorem dX6_odds_97 : decode cX6_odds 97 = .ok (.iconst 1, 1) := by decide +kernel
theorem dX6_odds_98 : decode cX6_odds 98 = .ok (.if_icmp .le 25, 3) := by decide +kernel
theorem dX6_odds_101 : decode cX6_odds 101 = .ok (.iload 5, 2) := by decide +kernel
theorem dX6_odds_103 : decode cX6_odds 103 = .ok (.iconst 2, 1) := by decide +kernel
theorem dX6_odds_104 : decode cX6_odds 104 = .ok (.irem, 1) := by decide +kernel
theorem dX6_odds_105 : decode cX6_odds 105 = .ok (.ifCond .ne 18, 3) := by decide +kernel
theorem dX6_odds_108 : decode cX6_odds 108 = .ok (.iload 5, 2) := by decide +kernel
theorem dX6_odds_110 : decode cX6_odds 110 = .ok (.iconst 2, 1) := by decide +kernel
theorem dX6_odds_111 : decode cX6_odds 111 = .ok (.idiv, 1) := by decide +kernel
theorem dX6_odds_112 : decode cX6_odds 112 = .ok (.istore 5, 2) := by decide +kernel
theorem dX6_odds_114 : decode cX6_odds 114 = .ok (.iload 6, 2) := by decide +kernel
theorem dX6_odds_116 : decode cX6_odds 116 = .ok (.iconst 2, 1) := by decide +kernel
theorem dX6_odds_117 : decode cX6_odds 117 = .ok (.idiv, 1) := by decide +kernel
theorem dX6_odds_118 : decode cX6_odds 118 = .ok (.istore 6, 2) := by decide +kernel
theorem dX6_odds_120 : decode cX6_odds 120 = .ok (.goto (-25), 3) := by decide +kernel
theorem dX6_odds_123 : decode cX6_odds 123 = .ok (.iload 4, 2) := by decide +kernel
theorem dX6_odds_125 : decode cX6_odds 125 = .ok (.ifCond .ne 9, 3) := by decide +kernel
theorem dX6_odds_128 : decode cX6_odds 128 = .ok (.iload 5, 2) := by decide +kernel
theorem dX6_odds_130 : decode cX6_odds 130 = .ok (.i2l, 1) := by decide +kernel
theorem dX6_odds_131 : decode cX6_odds 131 = .ok (.goto 6, 3) := by decide +kernel
theorem dX6_odds_134 : decode cX6_odds 134 = .ok (.iload 6, 2) := by decide +kernel
theorem dX6_odds_136 : decode cX6_odds 136 = .ok (.i2l, 1) := by decide +kernel
theorem dX6_odds_137 : decode cX6_odds 137 = .ok (.lreturn, 1) := by decide +kernel
theorem dX6_sheet_0 : decode cX6_sheet 0 = .ok (.iload_n 1, 1) := by decide +kernel
theorem dX6_sheet_1 : decode cX6_sheet 1 = .ok (.invokestatic 49, 3) := by decide +kernel
theorem dX6_sheet_4 : decode cX6_sheet 4 = .ok (.ifCond .ne 9, 3) := by decide +kernel
theorem dX6_sheet_7 : decode cX6_sheet 7 = .ok (.aload_n 0, 1) := by decide +kernel
theorem dX6_sheet_8 : decode cX6_sheet 8 = .ok (.iconst (-1), 1) := by decide +kernel
theorem dX6_sheet_9 : decode cX6_sheet 9 = .ok (.invokevirtual 53, 3) := by decide +kernel
theorem dX6_sheet_12 : decode cX6_sheet 12 = .ok (.ireturn, 1) := by decide +kernel
theorem dX6_sheet_13 : decode cX6_sheet 13 = .ok (.iload_n 2, 1) := by decide +kernel
theorem dX6_sheet_14 : decode cX6_sheet 14 = .ok (.invokestatic 57, 3) := by decide +kernel
theorem dX6_sheet_17 : decode cX6_sheet 17 = .ok (.ifCond .eq 9, 3) := by decide +kernel
theorem dX6_sheet_20 : decode cX6_sheet 20 = .ok (.iload_n 3, 1) := by decide +kernel
theorem dX6_sheet_21 : decode cX6_sheet 21 = .ok (.bipush 60, 2) := by decide +kernel
theorem dX6_sheet_23 : decode cX6_sheet 23 = .ok (.if_icmp .le 10, 3) := by decide +kernel
theorem dX6_sheet_26 : decode cX6_sheet 26 = .ok (.aload_n 0, 1) := by decide +kernel
theorem dX6_sheet_27 : decode cX6_sheet 27 = .ok (.bipush (-2), 2) := by decide +kernel
end
section
theorem dX6_sheet_29 : decode cX6_sheet 29 = .ok (.invokevirtual 53, 3) := by decide +kernel
theorem dX6_sheet_32 : decode cX6_sheet 32 = .ok (.ireturn, 1) := by decide +kernel
theorem dX6_sheet_33 : decode cX6_sheet 33 = .ok (.iload_n 3, 1) := by decide +kernel
theorem dX6_sheet_34 : decode cX6_sheet 34 = .ok (.ifCond .ge 9, 3) := by decide +kernel
theorem dX6_sheet_37 : decode cX6_sheet 37 = .ok (.aload_n 0, 1) := by decide +kernel
theorem dX6_sheet_38 : decode cX6_sheet 38 = .ok (.iconst 4, 1) := by decide +kernel
theorem dX6_sheet_39 : decode cX6_sheet 39 = .ok (.invokevirtual 64, 3) := by decide +kernel
theorem dX6_sheet_42 : decode cX6_sheet 42 = .ok (.ireturn, 1) := by decide +kernel
theorem dX6_sheet_43 : decode cX6_sheet 43 = .ok (.aload_n 0, 1) := by decide +kernel
theorem dX6_sheet_44 : decode cX6_sheet 44 = .ok (.getfield 44, 3) := by decide +kernel
theorem dX6_sheet_47 : decode cX6_sheet 47 = .ok (.iload_n 1, 1) := by decide +kernel
theorem dX6_sheet_48 : decode cX6_sheet 48 = .ok (.aaload, 1) := by decide +kernel
theorem dX6_sheet_49 : decode cX6_sheet 49 = .ok (.iload_n 2, 1) := by decide +kernel
theorem dX6_sheet_50 : decode cX6_sheet 50 = .ok (.iload_n 3, 1) := by decide +kernel
theorem dX6_sheet_51 : decode cX6_sheet 51 = .ok (.invokevirtual 200, 3) := by decide +kernel
theorem dX6_sheet_54 : decode cX6_sheet 54 = .ok (.aload_n 0, 1) := by decide +kernel
theorem dX6_sheet_55 : decode cX6_sheet 55 = .ok (.iconst 1, 1) := by decide +kernel
theorem dX6_sheet_56 : decode cX6_sheet 56 = .ok (.invokevirtual 53, 3) := by decide +kernel
theorem dX6_sheet_59 : decode cX6_sheet 59 = .ok (.ireturn, 1) := by decide +kernel
theorem dX6_lose_0 : decode cX6_lose 0 = .ok (.iload_n 1, 1) := by decide +kernel
theorem dX6_lose_1 : decode cX6_lose 1 = .ok (.invokestatic 49, 3) := by decide +kernel
theorem dX6_lose_4 : decode cX6_lose 4 = .ok (.ifCond .ne 5, 3) := by decide +kernel
theorem dX6_lose_7 : decode cX6_lose 7 = .ok (.iconst (-1), 1) := by decide +kernel
theorem dX6_lose_8 : decode cX6_lose 8 = .ok (.ireturn, 1) := by decide +kernel
theorem dX6_lose_9 : decode cX6_lose 9 = .ok (.aload_n 0, 1) := by decide +kernel
theorem dX6_lose_10 : decode cX6_lose 10 = .ok (.getfield 44, 3) := by decide +kernel
theorem dX6_lose_13 : decode cX6_lose 13 = .ok (.iload_n 1, 1) := by decide +kernel
theorem dX6_lose_14 : decode cX6_lose 14 = .ok (.aaload, 1) := by decide +kernel
theorem dX6_lose_15 : decode cX6_lose 15 = .ok (.invokevirtual 203, 3) := by decide +kernel
theorem dX6_lose_18 : decode cX6_lose 18 = .ok (.ifCond .eq 7, 3) := by decide +kernel
theorem dX6_lose_21 : decode cX6_lose 21 = .ok (.iconst 1, 1) := by decide +kernel
theorem dX6_lose_22 : decode cX6_lose 22 = .ok (.goto 4, 3) := by decide +kernel
theorem dX6_lose_25 : decode cX6_lose 25 = .ok (.iconst 0, 1) := by decide +kernel
theorem dX6_lose_26 : decode cX6_lose 26 = .ok (.ireturn, 1) := by decide +kernel
theorem dX6_put_0 : decode cX6_put 0 = .ok (.iload_n 1, 1) := by decide +kernel
theorem dX6_put_1 : decode cX6_put 1 = .ok (.invokestatic 49, 3) := by decide +kernel
theorem dX6_put_4 : decode cX6_put 4 = .ok (.ifCond .ne 9, 3) := by decide +kernel
theorem dX6_put_7 : decode cX6_put 7 = .ok (.aload_n 0, 1) := by decide +kernel
theorem dX6_put_8 : decode cX6_put 8 = .ok (.iconst (-1), 1) := by decide +kernel
theorem dX6_put_9 : decode cX6_put 9 = .ok (.invokevirtual 53, 3) := by decide +kernel
theorem dX6_put_12 : decode cX6_put 12 = .ok (.ireturn, 1) := by decide +kernel
theorem dX6_put_13 : decode cX6_put 13 = .ok (.aload_n 0, 1) := by decide +kernel
theorem dX6_put_14 : decode cX6_put 14 = .ok (.getfield 44, 3) := by decide +kernel
theorem dX6_put_17 : decode cX6_put 17 = .ok (.iload_n 1, 1) := by decide +kernel
theorem dX6_put_18 : decode cX6_put 18 = .ok (.aaload, 1) := by decide +kernel
theorem dX6_put_19 : decode cX6_put 19 = .ok (.astore 4, 2) := by decide +kernel
theorem dX6_put_21 : decode cX6_put 21 = .ok (.aload 4, 2) := by decide +kernel
theorem dX6_put_23 : decode cX6_put 23 = .ok (.getfield 206, 3) := by decide +kernel
theorem dX6_put_26 : decode cX6_put 26 = .ok (.ifCond .ne 9, 3) := by decide +kernel
theorem dX6_put_29 : decode cX6_put 29 = .ok (.aload_n 0, 1) := by decide +kernel
theorem dX6_put_30 : decode cX6_put 30 = .ok (.iconst 1, 1) := by decide +kernel
theorem dX6_put_31 : decode cX6_put 31 = .ok (.invokevirtual 64, 3) := by decide +kernel
theorem dX6_put_34 : decode cX6_put 34 = .ok (.ireturn, 1) := by decide +kernel
theorem dX6_put_35 : decode cX6_put 35 = .ok (.aload 4, 2) := by decide +kernel
theorem dX6_put_37 : decode cX6_put 37 = .ok (.iload_n 2, 1) := by decide +kernel
theorem dX6_put_38 : decode cX6_put 38 = .ok (.iconst 1, 1) := by decide +kernel
theorem dX6_put_39 : decode cX6_put 39 = .ok (.invokevirtual 210, 3) := by decide +kernel
theorem dX6_put_42 : decode cX6_put 42 = .ok (.ifCond .ne 9, 3) := by decide +kernel
theorem dX6_put_45 : decode cX6_put 45 = .ok (.aload_n 0, 1) := by decide +kernel
theorem dX6_put_46 : decode cX6_put 46 = .ok (.iconst 3, 1) := by decide +kernel
theorem dX6_put_47 : decode cX6_put 47 = .ok (.invokevirtual 64, 3) := by decide +kernel
theorem dX6_put_50 : decode cX6_put 50 = .ok (.ireturn, 1) := by decide +kernel
theorem dX6_put_51 : decode cX6_put 51 = .ok (.aload 4, 2) := by decide +kernel
theorem dX6_put_53 : decode cX6_put 53 = .ok (.iload_n 2, 1) := by decide +kernel
theorem dX6_put_54 : decode cX6_put 54 = .ok (.iload_n 3, 1) := by decide +kernel
theorem dX6_put_55 : decode cX6_put 55 = .ok (.invokevirtual 214, 3) := by decide +kernel
theorem dX6_put_58 : decode cX6_put 58 = .ok (.aload_n 0, 1) := by decide +kernel
theorem dX6_put_59 : decode cX6_put 59 = .ok (.iconst 1, 1) := by decide +kernel
theorem dX6_put_60 : decode cX6_put 60 = .ok (.invokevirtual 53, 3) := by decide +kernel
theorem dX6_put_63 : decode cX6_put 63 = .ok (.ireturn, 1) := by decide +kernel
theorem dX6_cell_0 : decode cX6_cell 0 = .ok (.aload_n 0, 1) := by decide +kernel
theorem dX6_cell_1 : decode cX6_cell 1 = .ok (.iconst 0, 1) := by decide +kernel
theorem dX6_cell_2 : decode cX6_cell 2 = .ok (.putfield 217, 3) := by decide +kernel
theorem dX6_cell_5 : decode cX6_cell 5 = .ok (.iload_n 1, 1) := by decide +kernel
theorem dX6_cell_6 : decode cX6_cell 6 = .ok (.invokestatic 49, 3) := by decide +kernel
theorem dX6_cell_9 : decode cX6_cell 9 = .ok (.ifCond .eq 10, 3) := by decide +kernel
theorem dX6_cell_12 : decode cX6_cell 12 = .ok (.iload_n 3, 1) := by decide +kernel
theorem dX6_cell_13 : decode cX6_cell 13 = .ok (.invokestatic 57, 3) := by decide +kernel
theorem dX6_cell_16 : decode cX6_cell 16 = .ok (.ifCond .ne 7, 3) := by decide +kernel
theorem dX6_cell_19 : decode cX6_cell 19 = .ok (.ldc2_w 177, 3) := by decide +kernel
theorem dX6_cell_22 : decode cX6_cell 22 = .ok (.lreturn, 1) := by decide +kernel
theorem dX6_cell_23 : decode cX6_cell 23 = .ok (.aload_n 0, 1) := by decide +kernel
theorem dX6_cell_24 : decode cX6_cell 24 = .ok (.getfield 44, 3) := by decide +kernel
theorem dX6_cell_27 : decode cX6_cell 27 = .ok (.iload_n 1, 1) := by decide +kernel
theorem dX6_cell_28 : decode cX6_cell 28 = .ok (.aaload, 1) := by decide +kernel
theorem dX6_cell_29 : decode cX6_cell 29 = .ok (.astore 4, 2) := by decide +kernel
theorem dX6_cell_31 : decode cX6_cell 31 = .ok (.aload_n 0, 1) := by decide +kernel
theorem dX6_cell_32 : decode cX6_cell 32 = .ok (.aload 4, 2) := by decide +kernel
theorem dX6_cell_34 : decode cX6_cell 34 = .ok (.iload_n 3, 1) := by decide +kernel
theorem dX6_cell_35 : decode cX6_cell 35 = .ok (.iload_n 2, 1) := by decide +kernel
theorem dX6_cell_36 : decode cX6_cell 36 = .ok (.iconst 1, 1) := by decide +kernel
theorem dX6_cell_37 : decode cX6_cell 37 = .ok (.invokevirtual 60, 3) := by decide +kernel
theorem dX6_cell_40 : decode cX6_cell 40 = .ok (.putfield 217, 3) := by decide +kernel
theorem dX6_cell_43 : decode cX6_cell 43 = .ok (.aload_n 0, 1) := by decide +kernel
theorem dX6_cell_44 : decode cX6_cell 44 = .ok (.getfield 217, 3) := by decide +kernel
theorem dX6_cell_47 : decode cX6_cell 47 = .ok (.ifCond .ne 13, 3) := by decide +kernel
theorem dX6_cell_50 : decode cX6_cell 50 = .ok (.aload 4, 2) := by decide +kernel
theorem dX6_cell_52 : decode cX6_cell 52 = .ok (.iload_n 2, 1) := by decide +kernel
theorem dX6_cell_53 : decode cX6_cell 53 = .ok (.invokevirtual 179, 3) := by decide +kernel
theorem dX6_cell_56 : decode cX6_cell 56 = .ok (.i2l, 1) := by decide +kernel
theorem dX6_cell_57 : decode cX6_cell 57 = .ok (.goto 6, 3) := by decide +kernel
theorem dX6_cell_60 : decode cX6_cell 60 = .ok (.ldc2_w 177, 3) := by decide +kernel
theorem dX6_cell_63 : decode cX6_cell 63 = .ok (.lreturn, 1) := by decide +kernel
theorem dX6_copy_0 : decode cX6_copy 0 = .ok (.iload_n 1, 1) := by decide +kernel
theorem dX6_copy_1 : decode cX6_copy 1 = .ok (.invokestatic 49, 3) := by decide +kernel
theorem dX6_copy_4 : decode cX6_copy 4 = .ok (.ifCond .eq 10, 3) := by decide +kernel
theorem dX6_copy_7 : decode cX6_copy 7 = .ok (.iload_n 3, 1) := by decide +kernel
theorem dX6_copy_8 : decode cX6_copy 8 = .ok (.invokestatic 49, 3) := by decide +kernel
theorem dX6_copy_11 : decode cX6_copy 11 = .ok (.ifCond .ne 9, 3) := by decide +kernel
theorem dX6_copy_14 : decode cX6_copy 14 = .ok (.aload_n 0, 1) := by decide +kernel
theorem dX6_copy_15 : decode cX6_copy 15 = .ok (.iconst (-1), 1) := by decide +kernel
theorem dX6_copy_16 : decode cX6_copy 16 = .ok (.invokevirtual 53, 3) := by decide +kernel
theorem dX6_copy_19 : decode cX6_copy 19 = .ok (.ireturn, 1) := by decide +kernel
theorem dX6_copy_20 : decode cX6_copy 20 = .ok (.aload_n 0, 1) := by decide +kernel
theorem dX6_copy_21 : decode cX6_copy 21 = .ok (.getfield 44, 3) := by decide +kernel
theorem dX6_copy_24 : decode cX6_copy 24 = .ok (.iload_n 1, 1) := by decide +kernel
theorem dX6_copy_25 : decode cX6_copy 25 = .ok (.aaload, 1) := by decide +kernel
theorem dX6_copy_26 : decode cX6_copy 26 = .ok (.astore 6, 2) := by decide +kernel
theorem dX6_copy_28 : decode cX6_copy 28 = .ok (.aload_n 0, 1) := by decide +kernel
theorem dX6_copy_29 : decode cX6_copy 29 = .ok (.getfield 44, 3) := by decide +kernel
theorem dX6_copy_32 : decode cX6_copy 32 = .ok (.iload_n 3, 1) := by decide +kernel
theorem dX6_copy_33 : decode cX6_copy 33 = .ok (.aaload, 1) := by decide +kernel
theorem dX6_copy_34 : decode cX6_copy 34 = .ok (.astore 7, 2) := by decide +kernel
theorem dX6_copy_36 : decode cX6_copy 36 = .ok (.aload 6, 2) := by decide +kernel
theorem dX6_copy_38 : decode cX6_copy 38 = .ok (.getfield 206, 3) := by decide +kernel
theorem dX6_copy_41 : decode cX6_copy 41 = .ok (.ifCond .eq 11, 3) := by decide +kernel
theorem dX6_copy_44 : decode cX6_copy 44 = .ok (.aload 7, 2) := by decide +kernel
theorem dX6_copy_46 : decode cX6_copy 46 = .ok (.getfield 206, 3) := by decide +kernel
theorem dX6_copy_49 : decode cX6_copy 49 = .ok (.ifCond .ne 9, 3) := by decide +kernel
theorem dX6_copy_52 : decode cX6_copy 52 = .ok (.aload_n 0, 1) := by decide +kernel
theorem dX6_copy_53 : decode cX6_copy 53 = .ok (.iconst 1, 1) := by decide +kernel
theorem dX6_copy_54 : decode cX6_copy 54 = .ok (.invokevirtual 64, 3) := by decide +kernel
theorem dX6_copy_57 : decode cX6_copy 57 = .ok (.ireturn, 1) := by decide +kernel
theorem dX6_copy_58 : decode cX6_copy 58 = .ok (.aload 6, 2) := by decide +kernel
theorem dX6_copy_60 : decode cX6_copy 60 = .ok (.getfield 220, 3) := by decide +kernel
theorem dX6_copy_63 : decode cX6_copy 63 = .ok (.aload 7, 2) := by decide +kernel
theorem dX6_copy_65 : decode cX6_copy 65 = .ok (.getfield 220, 3) := by decide +kernel
theorem dX6_copy_68 : decode cX6_copy 68 = .ok (.if_icmp .eq 9, 3) := by decide +kernel
theorem dX6_copy_71 : decode cX6_copy 71 = .ok (.aload_n 0, 1) := by decide +kernel
theorem dX6_copy_72 : decode cX6_copy 72 = .ok (.iconst 2, 1) := by decide +kernel
theorem dX6_copy_73 : decode cX6_copy 73 = .ok (.invokevirtual 64, 3) := by decide +kernel
theorem dX6_copy_76 : decode cX6_copy 76 = .ok (.ireturn, 1) := by decide +kernel
theorem dX6_copy_77 : decode cX6_copy 77 = .ok (.aload 6, 2) := by decide +kernel
theorem dX6_copy_79 : decode cX6_copy 79 = .ok (.iload_n 2, 1) := by decide +kernel
theorem dX6_copy_80 : decode cX6_copy 80 = .ok (.iload 5, 2) := by decide +kernel
theorem dX6_copy_82 : decode cX6_copy 82 = .ok (.invokevirtual 210, 3) := by decide +kernel
theorem dX6_copy_85 : decode cX6_copy 85 = .ok (.ifCond .eq 15, 3) := by decide +kernel
theorem dX6_copy_88 : decode cX6_copy 88 = .ok (.aload 7, 2) := by decide +kernel
theorem dX6_copy_90 : decode cX6_copy 90 = .ok (.iload 4, 2) := by decide +kernel
theorem dX6_copy_92 : decode cX6_copy 92 = .ok (.iload 5, 2) := by decide +kernel
theorem dX6_copy_94 : decode cX6_copy 94 = .ok (.invokevirtual 210, 3) := by decide +kernel
theorem dX6_copy_97 : decode cX6_copy 97 = .ok (.ifCond .ne 9, 3) := by decide +kernel
theorem dX6_copy_100 : decode cX6_copy 100 = .ok (.aload_n 0, 1) := by decide +kernel
theorem dX6_copy_101 : decode cX6_copy 101 = .ok (.iconst 3, 1) := by decide +kernel
theorem dX6_copy_102 : decode cX6_copy 102 = .ok (.invokevirtual 64, 3) := by decide +kernel
theorem dX6_copy_105 : decode cX6_copy 105 = .ok (.ireturn, 1) := by decide +kernel
theorem dX6_copy_106 : decode cX6_copy 106 = .ok (.aload 6, 2) := by decide +kernel
theorem dX6_copy_108 : decode cX6_copy 108 = .ok (.getfield 223, 3) := by decide +kernel
theorem dX6_copy_111 : decode cX6_copy 111 = .ok (.iload_n 2, 1) := by decide +kernel
theorem dX6_copy_112 : decode cX6_copy 112 = .ok (.aload 7, 2) := by decide +kernel
theorem dX6_copy_114 : decode cX6_copy 114 = .ok (.getfield 223, 3) := by decide +kernel
theorem dX6_copy_117 : decode cX6_copy 117 = .ok (.iload 4, 2) := by decide +kernel
theorem dX6_copy_119 : decode cX6_copy 119 = .ok (.iload 5, 2) := by decide +kernel
theorem dX6_copy_121 : decode cX6_copy 121 = .ok (.invokestatic 226, 3) := by decide +kernel
theorem dX6_copy_124 : decode cX6_copy 124 = .ok (.aload_n 0, 1) := by decide +kernel
theorem dX6_copy_125 : decode cX6_copy 125 = .ok (.iload 5, 2) := by decide +kernel
theorem dX6_copy_127 : decode cX6_copy 127 = .ok (.invokevirtual 53, 3) := by decide +kernel
theorem dX6_copy_130 : decode cX6_copy 130 = .ok (.ireturn, 1) := by decide +kernel
theorem dX6_tell_0 : decode cX6_tell 0 = .ok (.aload_n 0, 1) := by decide +kernel
theorem dX6_tell_1 : decode cX6_tell 1 = .ok (.getfield 21, 3) := by decide +kernel
theorem dX6_tell_4 : decode cX6_tell 4 = .ok (.iload_n 1, 1) := by decide +kernel
theorem dX6_tell_5 : decode cX6_tell 5 = .ok (.invokevirtual 92, 3) := by decide +kernel
theorem dX6_tell_8 : decode cX6_tell 8 = .ok (.ifCond .ne 5, 3) := by decide +kernel
theorem dX6_tell_11 : decode cX6_tell 11 = .ok (.iconst (-1), 1) := by decide +kernel
theorem dX6_tell_12 : decode cX6_tell 12 = .ok (.ireturn, 1) := by decide +kernel
theorem dX6_tell_13 : decode cX6_tell 13 = .ok (.aload_n 0, 1) := by decide +kernel
theorem dX6_tell_14 : decode cX6_tell 14 = .ok (.getfield 21, 3) := by decide +kernel
theorem dX6_tell_17 : decode cX6_tell 17 = .ok (.getfield 95, 3) := by decide +kernel
theorem dX6_tell_20 : decode cX6_tell 20 = .ok (.iload_n 1, 1) := by decide +kernel
theorem dX6_tell_21 : decode cX6_tell 21 = .ok (.iaload, 1) := by decide +kernel
theorem dX6_tell_22 : decode cX6_tell 22 = .ok (.lookupswitch 38 #[(1, 32), (2, 26)], 26) := by decide +kernel
theorem dX6_tell_48 : decode cX6_tell 48 = .ok (.aload_n 0, 1) := by decide +kernel
theorem dX6_tell_49 : decode cX6_tell 49 = .ok (.iload_n 1, 1) := by decide +kernel
theorem dX6_tell_50 : decode cX6_tell 50 = .ok (.invokevirtual 232, 3) := by decide +kernel
theorem dX6_tell_53 : decode cX6_tell 53 = .ok (.ireturn, 1) := by decide +kernel
theorem dX6_tell_54 : decode cX6_tell 54 = .ok (.aload_n 0, 1) := by decide +kernel
theorem dX6_tell_55 : decode cX6_tell 55 = .ok (.iload_n 1, 1) := by decide +kernel
theorem dX6_tell_56 : decode cX6_tell 56 = .ok (.invokevirtual 235, 3) := by decide +kernel
theorem dX6_tell_59 : decode cX6_tell 59 = .ok (.ireturn, 1) := by decide +kernel
theorem dX6_tell_60 : decode cX6_tell 60 = .ok (.aload_n 0, 1) := by decide +kernel
theorem dX6_tell_61 : decode cX6_tell 61 = .ok (.iload_n 1, 1) := by decide +kernel
theorem dX6_tell_62 : decode cX6_tell 62 = .ok (.invokevirtual 238, 3) := by decide +kernel
theorem dX6_tell_65 : decode cX6_tell 65 = .ok (.ireturn, 1) := by decide +kernel
theorem dX6_tellAsBust_0 : decode cX6_tellAsBust 0 = .ok (.aload_n 0, 1) := by decide +kernel
theorem dX6_tellAsBust_1 : decode cX6_tellAsBust 1 = .ok (.iconst 1, 1) := by decide +kernel
theorem dX6_tellAsBust_2 : decode cX6_tellAsBust 2 = .ok (.invokevirtual 241, 3) := by decide +kernel
theorem dX6_tellAsBust_5 : decode cX6_tellAsBust 5 = .ok (.aload_n 0, 1) := by decide +kernel
theorem dX6_tellAsBust_6 : decode cX6_tellAsBust 6 = .ok (.getfield 21, 3) := by decide +kernel
theorem dX6_tellAsBust_9 : decode cX6_tellAsBust 9 = .ok (.getfield 102, 3) := by decide +kernel
theorem dX6_tellAsBust_12 : decode cX6_tellAsBust 12 = .ok (.iload_n 1, 1) := by decide +kernel
theorem dX6_tellAsBust_13 : decode cX6_tellAsBust 13 = .ok (.iaload, 1) := by decide +kernel
theorem dX6_tellAsBust_14 : decode cX6_tellAsBust 14 = .ok (.ireturn, 1) := by decide +kernel
theorem dX6_tellAsNymph_0 : decode cX6_tellAsNymph 0 = .ok (.aload_n 0, 1) := by decide +kernel
theorem dX6_tellAsNymph_1 : decode cX6_tellAsNymph 1 = .ok (.iconst 2, 1) := by decide +kernel
theorem dX6_tellAsNymph_2 : decode cX6_tellAsNymph 2 = .ok (.invokevirtual 241, 3) := by decide +kernel
theorem dX6_tellAsNymph_5 : decode cX6_tellAsNymph 5 = .ok (.aload_n 0, 1) := by decide +kernel
theorem dX6_tellAsNymph_6 : decode cX6_tellAsNymph 6 = .ok (.iload_n 1, 1) := by decide +kernel
theorem dX6_tellAsNymph_7 : decode cX6_tellAsNymph 7 = .ok (.invokevirtual 238, 3) := by decide +kernel
theorem dX6_tellAsNymph_10 : decode cX6_tellAsNymph 10 = .ok (.bipush 100, 2) := by decide +kernel
theorem dX6_tellAsNymph_12 : decode cX6_tellAsNymph 12 = .ok (.iadd, 1) := by decide +kernel
theorem dX6_tellAsNymph_13 : decode cX6_tellAsNymph 13 = .ok (.ireturn, 1) := by decide +kernel
theorem dX6_tellAsHorse_0 : decode cX6_tellAsHorse 0 = .ok (.aload_n 0, 1) := by decide +kernel
theorem dX6_tellAsHorse_1 : decode cX6_tellAsHorse 1 = .ok (.iconst 3, 1) := by decide +kernel
theorem dX6_tellAsHorse_2 : decode cX6_tellAsHorse 2 = .ok (.invokevirtual 241, 3) := by decide +kernel
theorem dX6_tellAsHorse_5 : decode cX6_tellAsHorse 5 = .ok (.aload_n 0, 1) := by decide +kernel
theorem dX6_tellAsHorse_6 : decode cX6_tellAsHorse 6 = .ok (.iload_n 1, 1) := by decide +kernel
theorem dX6_tellAsHorse_7 : decode cX6_tellAsHorse 7 = .ok (.invokevirtual 235, 3) := by decide +kernel
theorem dX6_tellAsHorse_10 : decode cX6_tellAsHorse 10 = .ok (.istore_n 2, 1) := by decide +kernel
theorem dX6_tellAsHorse_11 : decode cX6_tellAsHorse 11 = .ok (.iload_n 2, 1) := by decide +kernel
theorem dX6_tellAsHorse_12 : decode cX6_tellAsHorse 12 = .ok (.aload_n 0, 1) := by decide +kernel
theorem dX6_tellAsHorse_13 : decode cX6_tellAsHorse 13 = .ok (.iload_n 1, 1) := by decide +kernel
theorem dX6_tellAsHorse_14 : decode cX6_tellAsHorse 14 = .ok (.invokevirtual 238, 3) := by decide +kernel
theorem dX6_tellAsHorse_17 : decode cX6_tellAsHorse 17 = .ok (.iadd, 1) := by decide +kernel
theorem dX6_tellAsHorse_18 : decode cX6_tellAsHorse 18 = .ok (.ireturn, 1) := by decide +kernel
theorem dX6_sign_0 : decode cX6_sign 0 = .ok (.aload_n 0, 1) := by decide +kernel
theorem dX6_sign_1 : decode cX6_sign 1 = .ok (.getfield 21, 3) := by decide +kernel
theorem dX6_sign_4 : decode cX6_sign 4 = .ok (.iload_n 1, 1) := by decide +kernel
theorem dX6_sign_5 : decode cX6_sign 5 = .ok (.invokevirtual 92, 3) := by decide +kernel
theorem dX6_sign_8 : decode cX6_sign 8 = .ok (.ifCond .ne 5, 3) := by decide +kernel
theorem dX6_sign_11 : decode cX6_sign 11 = .ok (.iconst (-1), 1) := by decide +kernel
theorem dX6_sign_12 : decode cX6_sign 12 = .ok (.ireturn, 1) := by decide +kernel
theorem dX6_sign_13 : decode cX6_sign 13 = .ok (.aload_n 0, 1) := by decide +kernel
theorem dX6_sign_14 : decode cX6_sign 14 = .ok (.getfield 21, 3) := by decide +kernel
theorem dX6_sign_17 : decode cX6_sign 17 = .ok (.getfield 95, 3) := by decide +kernel
theorem dX6_sign_20 : decode cX6_sign 20 = .ok (.iload_n 1, 1) := by decide +kernel
theorem dX6_sign_21 : decode cX6_sign 21 = .ok (.iaload, 1) := by decide +kernel
theorem dX6_sign_22 : decode cX6_sign 22 = .ok (.iconst 2, 1) := by decide +kernel
theorem dX6_sign_23 : decode cX6_sign 23 = .ok (.if_icmp .ne 11, 3) := by decide +kernel
theorem dX6_sign_26 : decode cX6_sign 26 = .ok (.aload_n 0, 1) := by decide +kernel
theorem dX6_sign_27 : decode cX6_sign 27 = .ok (.iconst 5, 1) := by decide +kernel
theorem dX6_sign_28 : decode cX6_sign 28 = .ok (.invokevirtual 241, 3) := by decide +kernel
theorem dX6_sign_31 : decode cX6_sign 31 = .ok (.bipush 40, 2) := by decide +kernel
theorem dX6_sign_33 : decode cX6_sign 33 = .ok (.ireturn, 1) := by decide +kernel
theorem dX6_sign_34 : decode cX6_sign 34 = .ok (.aload_n 0, 1) := by decide +kernel
theorem dX6_sign_35 : decode cX6_sign 35 = .ok (.iconst 4, 1) := by decide +kernel
theorem dX6_sign_36 : decode cX6_sign 36 = .ok (.invokevirtual 241, 3) := by decide +kernel
theorem dX6_sign_39 : decode cX6_sign 39 = .ok (.iload_n 1, 1) := by decide +kernel
theorem dX6_sign_40 : decode cX6_sign 40 = .ok (.ireturn, 1) := by decide +kernel
theorem dX6_as_0 : decode cX6_as 0 = .ok (.aload_n 0, 1) := by decide +kernel
theorem dX6_as_1 : decode cX6_as 1 = .ok (.getfield 21, 3) := by decide +kernel
theorem dX6_as_4 : decode cX6_as 4 = .ok (.iload_n 1, 1) := by decide +kernel
theorem dX6_as_5 : decode cX6_as 5 = .ok (.invokevirtual 92, 3) := by decide +kernel
theorem dX6_as_8 : decode cX6_as 8 = .ok (.ifCond .ne 9, 3) := by decide +kernel
theorem dX6_as_11 : decode cX6_as 11 = .ok (.aload_n 0, 1) := by decide +kernel
theorem dX6_as_12 : decode cX6_as 12 = .ok (.iconst (-1), 1) := by decide +kernel
theorem dX6_as_13 : decode cX6_as 13 = .ok (.invokevirtual 53, 3) := by decide +kernel
theorem dX6_as_16 : decode cX6_as 16 = .ok (.ireturn, 1) := by decide +kernel
theorem dX6_as_17 : decode cX6_as 17 = .ok (.iload_n 2, 1) := by decide +kernel
theorem dX6_as_18 : decode cX6_as 18 = .ok (.ifCond .lt 8, 3) := by decide +kernel
theorem dX6_as_21 : decode cX6_as 21 = .ok (.iload_n 2, 1) := by decide +kernel
theorem dX6_as_22 : decode cX6_as 22 = .ok (.iconst 3, 1) := by decide +kernel
theorem dX6_as_23 : decode cX6_as 23 = .ok (.if_icmp .lt 10, 3) := by decide +kernel
theorem dX6_as_26 : decode cX6_as 26 = .ok (.aload_n 0, 1) := by decide +kernel
theorem dX6_as_27 : decode cX6_as 27 = .ok (.bipush (-2), 2) := by decide +kernel
theorem dX6_as_29 : decode cX6_as 29 = .ok (.invokevirtual 53, 3) := by decide +kernel
theorem dX6_as_32 : decode cX6_as 32 = .ok (.ireturn, 1) := by decide +kernel
theorem dX6_as_33 : decode cX6_as 33 = .ok (.aload_n 0, 1) := by decide +kernel
theorem dX6_as_34 : decode cX6_as 34 = .ok (.getfield 21, 3) := by decide +kernel
theorem dX6_as_37 : decode cX6_as 37 = .ok (.getfield 95, 3) := by decide +kernel
theorem dX6_as_40 : decode cX6_as 40 = .ok (.iload_n 1, 1) := by decide +kernel
theorem dX6_as_41 : decode cX6_as 41 = .ok (.iaload, 1) := by decide +kernel
theorem dX6_as_42 : decode cX6_as 42 = .ok (.iload_n 2, 1) := by decide +kernel
theorem dX6_as_43 : decode cX6_as 43 = .ok (.if_icmp .ge 11, 3) := by decide +kernel
theorem dX6_as_46 : decode cX6_as 46 = .ok (.aload_n 0, 1) := by decide +kernel
theorem dX6_as_47 : decode cX6_as 47 = .ok (.iconst 2, 1) := by decide +kernel
theorem dX6_as_48 : decode cX6_as 48 = .ok (.invokevirtual 64, 3) := by decide +kernel
theorem dX6_as_51 : decode cX6_as 51 = .ok (.goto 8, 3) := by decide +kernel
theorem dX6_as_54 : decode cX6_as 54 = .ok (.aload_n 0, 1) := by decide +kernel
theorem dX6_as_55 : decode cX6_as 55 = .ok (.iconst 1, 1) := by decide +kernel
theorem dX6_as_56 : decode cX6_as 56 = .ok (.invokevirtual 53, 3) := by decide +kernel
theorem dX6_as_59 : decode cX6_as 59 = .ok (.ireturn, 1) := by decide +kernel
theorem dX6_trace_0 : decode cX6_trace 0 = .ok (.aload_n 0, 1) := by decide +kernel
theorem dX6_trace_1 : decode cX6_trace 1 = .ok (.getfield 244, 3) := by decide +kernel
theorem dX6_trace_4 : decode cX6_trace 4 = .ok (.ireturn, 1) := by decide +kernel
theorem dX6_fault_0 : decode cX6_fault 0 = .ok (.aload_n 0, 1) := by decide +kernel
theorem dX6_fault_1 : decode cX6_fault 1 = .ok (.getfield 217, 3) := by decide +kernel
theorem dX6_fault_4 : decode cX6_fault 4 = .ok (.ireturn, 1) := by decide +kernel
theorem dX6_many_0 : decode cX6_many 0 = .ok (.iload_n 1, 1) := by decide +kernel
theorem dX6_many_1 : decode cX6_many 1 = .ok (.tableswitch 78 0 4 #[35, 43, 51, 59, 70], 35) := by decide +kernel
theorem dX6_many_36 : decode cX6_many 36 = .ok (.aload_n 0, 1) := by decide +kernel
theorem dX6_many_37 : decode cX6_many 37 = .ok (.getfield 21, 3) := by decide +kernel
theorem dX6_many_40 : decode cX6_many 40 = .ok (.getfield 88, 3) := by decide +kernel
theorem dX6_many_43 : decode cX6_many 43 = .ok (.ireturn, 1) := by decide +kernel
theorem dX6_many_44 : decode cX6_many 44 = .ok (.aload_n 0, 1) := by decide +kernel
theorem dX6_many_45 : decode cX6_many 45 = .ok (.getfield 12, 3) := by decide +kernel
theorem dX6_many_48 : decode cX6_many 48 = .ok (.getfield 127, 3) := by decide +kernel
theorem dX6_many_51 : decode cX6_many 51 = .ok (.ireturn, 1) := by decide +kernel
theorem dX6_many_52 : decode cX6_many 52 = .ok (.aload_n 0, 1) := by decide +kernel
theorem dX6_many_53 : decode cX6_many 53 = .ok (.getfield 21, 3) := by decide +kernel
theorem dX6_many_56 : decode cX6_many 56 = .ok (.getfield 247, 3) := by decide +kernel
theorem dX6_many_59 : decode cX6_many 59 = .ok (.ireturn, 1) := by decide +kernel
theorem dX6_many_60 : decode cX6_many 60 = .ok (.aload_n 0, 1) := by decide +kernel
theorem dX6_many_61 : decode cX6_many 61 = .ok (.getfield 21, 3) := by decide +kernel
theorem dX6_many_64 : decode cX6_many 64 = .ok (.getfield 144, 3) := by decide +kernel
theorem dX6_many_67 : decode cX6_many 67 = .ok (.invokestatic 111, 3) := by decide +kernel
theorem dX6_many_70 : decode cX6_many 70 = .ok (.ireturn, 1) := by decide +kernel
theorem dX6_many_71 : decode cX6_many 71 = .ok (.aload_n 0, 1) := by decide +kernel
theorem dX6_many_72 : decode cX6_many 72 = .ok (.getfield 38, 3) := by decide +kernel
theorem dX6_many_75 : decode cX6_many 75 = .ok (.getfield 192, 3) := by decide +kernel
theorem dX6_many_78 : decode cX6_many 78 = .ok (.ireturn, 1) := by decide +kernel
theorem dX6_many_79 : decode cX6_many 79 = .ok (.bipush (-2), 2) := by decide +kernel
theorem dX6_many_81 : decode cX6_many 81 = .ok (.ireturn, 1) := by decide +kernel
theorem dX6_hasGarden_0 : decode cX6_hasGarden 0 = .ok (.aload_n 0, 1) := by decide +kernel
theorem dX6_hasGarden_1 : decode cX6_hasGarden 1 = .ok (.getfield 21, 3) := by decide +kernel
theorem dX6_hasGarden_4 : decode cX6_hasGarden 4 = .ok (.getfield 88, 3) := by decide +kernel
theorem dX6_hasGarden_7 : decode cX6_hasGarden 7 = .ok (.ifCond .le 7, 3) := by decide +kernel
theorem dX6_hasGarden_10 : decode cX6_hasGarden 10 = .ok (.iconst 1, 1) := by decide +kernel
theorem dX6_hasGarden_11 : decode cX6_hasGarden 11 = .ok (.goto 4, 3) := by decide +kernel
theorem dX6_hasGarden_14 : decode cX6_hasGarden 14 = .ok (.iconst 0, 1) := by decide +kernel
theorem dX6_hasGarden_15 : decode cX6_hasGarden 15 = .ok (.ireturn, 1) := by decide +kernel
theorem dX6_refusalOfShape_0 : decode cX6_refusalOfShape 0 = .ok (.iload_n 1, 1) := by decide +kernel
theorem dX6_refusalOfShape_1 : decode cX6_refusalOfShape 1 = .ok (.invokestatic 168, 3) := by decide +kernel
theorem dX6_refusalOfShape_4 : decode cX6_refusalOfShape 4 = .ok (.ifCond .ne 6, 3) := by decide +kernel
theorem dX6_refusalOfShape_7 : decode cX6_refusalOfShape 7 = .ok (.bipush (-2), 2) := by decide +kernel
theorem dX6_refusalOfShape_9 : decode cX6_refusalOfShape 9 = .ok (.ireturn, 1) := by decide +kernel
theorem dX6_refusalOfShape_10 : decode cX6_refusalOfShape 10 = .ok (.aload_n 0, 1) := by decide +kernel
theorem dX6_refusalOfShape_11 : decode cX6_refusalOfShape 11 = .ok (.invokevirtual 123, 3) := by decide +kernel
theorem dX6_refusalOfShape_14 : decode cX6_refusalOfShape 14 = .ok (.ifCond .eq 7, 3) := by decide +kernel
theorem dX6_refusalOfShape_17 : decode cX6_refusalOfShape 17 = .ok (.iconst 0, 1) := by decide +kernel
theorem dX6_refusalOfShape_18 : decode cX6_refusalOfShape 18 = .ok (.goto 5, 3) := by decide +kernel
theorem dX6_refusalOfShape_21 : decode cX6_refusalOfShape 21 = .ok (.bipush (-3), 2) := by decide +kernel
theorem dX6_refusalOfShape_23 : decode cX6_refusalOfShape 23 = .ok (.ireturn, 1) := by decide +kernel
theorem dX6_isShape_0 : decode cX6_isShape 0 = .ok (.iload_n 0, 1) := by decide +kernel
theorem dX6_isShape_1 : decode cX6_isShape 1 = .ok (.ifCond .lt 13, 3) := by decide +kernel
theorem dX6_isShape_4 : decode cX6_isShape 4 = .ok (.iload_n 0, 1) := by decide +kernel
theorem dX6_isShape_5 : decode cX6_isShape 5 = .ok (.bipush 64, 2) := by decide +kernel
theorem dX6_isShape_7 : decode cX6_isShape 7 = .ok (.if_icmp .ge 7, 3) := by decide +kernel
theorem dX6_isShape_10 : decode cX6_isShape 10 = .ok (.iconst 1, 1) := by decide +kernel
theorem dX6_isShape_11 : decode cX6_isShape 11 = .ok (.goto 4, 3) := by decide +kernel
theorem dX6_isShape_14 : decode cX6_isShape 14 = .ok (.iconst 0, 1) := by decide +kernel
theorem dX6_isShape_15 : decode cX6_isShape 15 = .ok (.ireturn, 1) := by decide +kernel
theorem dX6_isSheet_0 : decode cX6_isSheet 0 = .ok (.iload_n 0, 1) := by decide +kernel
theorem dX6_isSheet_1 : decode cX6_isSheet 1 = .ok (.ifCond .lt 12, 3) := by decide +kernel
theorem dX6_isSheet_4 : decode cX6_isSheet 4 = .ok (.iload_n 0, 1) := by decide +kernel
theorem dX6_isSheet_5 : decode cX6_isSheet 5 = .ok (.iconst 4, 1) := by decide +kernel
theorem dX6_isSheet_6 : decode cX6_isSheet 6 = .ok (.if_icmp .ge 7, 3) := by decide +kernel
theorem dX6_isSheet_9 : decode cX6_isSheet 9 = .ok (.iconst 1, 1) := by decide +kernel
theorem dX6_isSheet_10 : decode cX6_isSheet 10 = .ok (.goto 4, 3) := by decide +kernel
theorem dX6_isSheet_13 : decode cX6_isSheet 13 = .ok (.iconst 0, 1) := by decide +kernel
theorem dX6_isSheet_14 : decode cX6_isSheet 14 = .ok (.ireturn, 1) := by decide +kernel
theorem dX6_isLane_0 : decode cX6_isLane 0 = .ok (.iload_n 0, 1) := by decide +kernel
theorem dX6_isLane_1 : decode cX6_isLane 1 = .ok (.ifCond .lt 12, 3) := by decide +kernel
theorem dX6_isLane_4 : decode cX6_isLane 4 = .ok (.iload_n 0, 1) := by decide +kernel
theorem dX6_isLane_5 : decode cX6_isLane 5 = .ok (.iconst 3, 1) := by decide +kernel
theorem dX6_isLane_6 : decode cX6_isLane 6 = .ok (.if_icmp .ge 7, 3) := by decide +kernel
theorem dX6_isLane_9 : decode cX6_isLane 9 = .ok (.iconst 1, 1) := by decide +kernel
theorem dX6_isLane_10 : decode cX6_isLane 10 = .ok (.goto 4, 3) := by decide +kernel
theorem dX6_isLane_13 : decode cX6_isLane 13 = .ok (.iconst 0, 1) := by decide +kernel
theorem dX6_isLane_14 : decode cX6_isLane 14 = .ok (.ireturn, 1) := by decide +kernel
theorem dX6_canTake_0 : decode cX6_canTake 0 = .ok (.iload_n 0, 1) := by decide +kernel
theorem dX6_canTake_1 : decode cX6_canTake 1 = .ok (.ifCond .lt 13, 3) := by decide +kernel
theorem dX6_canTake_4 : decode cX6_canTake 4 = .ok (.iload_n 0, 1) := by decide +kernel
theorem dX6_canTake_5 : decode cX6_canTake 5 = .ok (.bipush 20, 2) := by decide +kernel
theorem dX6_canTake_7 : decode cX6_canTake 7 = .ok (.if_icmp .gt 7, 3) := by decide +kernel
theorem dX6_canTake_10 : decode cX6_canTake 10 = .ok (.iconst 1, 1) := by decide +kernel
theorem dX6_canTake_11 : decode cX6_canTake 11 = .ok (.goto 4, 3) := by decide +kernel
theorem dX6_canTake_14 : decode cX6_canTake 14 = .ok (.iconst 0, 1) := by decide +kernel
theorem dX6_canTake_15 : decode cX6_canTake 15 = .ok (.ireturn, 1) := by decide +kernel
theorem dX6_withoutFault_0 : decode cX6_withoutFault 0 = .ok (.aload_n 0, 1) := by decide +kernel
theorem dX6_withoutFault_1 : decode cX6_withoutFault 1 = .ok (.iconst 0, 1) := by decide +kernel
theorem dX6_withoutFault_2 : decode cX6_withoutFault 2 = .ok (.putfield 217, 3) := by decide +kernel
theorem dX6_withoutFault_5 : decode cX6_withoutFault 5 = .ok (.iload_n 1, 1) := by decide +kernel
theorem dX6_withoutFault_6 : decode cX6_withoutFault 6 = .ok (.ireturn, 1) := by decide +kernel
theorem dX6_withFault_0 : decode cX6_withFault 0 = .ok (.aload_n 0, 1) := by decide +kernel
theorem dX6_withFault_1 : decode cX6_withFault 1 = .ok (.iload_n 1, 1) := by decide +kernel
theorem dX6_withFault_2 : decode cX6_withFault 2 = .ok (.putfield 217, 3) := by decide +kernel
theorem dX6_withFault_5 : decode cX6_withFault 5 = .ok (.bipush (-10), 2) := by decide +kernel
theorem dX6_withFault_7 : decode cX6_withFault 7 = .ok (.iload_n 1, 1) := by decide +kernel
theorem dX6_withFault_8 : decode cX6_withFault 8 = .ok (.isub, 1) := by decide +kernel
theorem dX6_withFault_9 : decode cX6_withFault 9 = .ok (.ireturn, 1) := by decide +kernel
theorem dX6_leaveTrace_0 : decode cX6_leaveTrace 0 = .ok (.aload_n 0, 1) := by decide +kernel
theorem dX6_leaveTrace_1 : decode cX6_leaveTrace 1 = .ok (.bipush 31, 2) := by decide +kernel
theorem dX6_leaveTrace_3 : decode cX6_leaveTrace 3 = .ok (.aload_n 0, 1) := by decide +kernel
theorem dX6_leaveTrace_4 : decode cX6_leaveTrace 4 = .ok (.getfield 244, 3) := by decide +kernel
theorem dX6_leaveTrace_7 : decode cX6_leaveTrace 7 = .ok (.imul, 1) := by decide +kernel
theorem dX6_leaveTrace_8 : decode cX6_leaveTrace 8 = .ok (.iload_n 1, 1) := by decide +kernel
theorem dX6_leaveTrace_9 : decode cX6_leaveTrace 9 = .ok (.iadd, 1) := by decide +kernel
theorem dX6_leaveTrace_10 : decode cX6_leaveTrace 10 = .ok (.putfield 244, 3) := by decide +kernel
theorem dX6_leaveTrace_13 : decode cX6_leaveTrace 13 = .ok (.return_, 1) := by decide +kernel
theorem dX7_init_0 : decode cX7_init 0 = .ok (.aload_n 0, 1) := by decide +kernel
theorem dX7_init_1 : decode cX7_init 1 = .ok (.invokespecial 1, 3) := by decide +kernel
theorem dX7_init_4 : decode cX7_init 4 = .ok (.aload_n 0, 1) := by decide +kernel
theorem dX7_init_5 : decode cX7_init 5 = .ok (.iconst 4, 1) := by decide +kernel
theorem dX7_init_6 : decode cX7_init 6 = .ok (.newarray .int, 2) := by decide +kernel
theorem dX7_init_8 : decode cX7_init 8 = .ok (.dup, 1) := by decide +kernel
theorem dX7_init_9 : decode cX7_init 9 = .ok (.iconst 0, 1) := by decide +kernel
theorem dX7_init_10 : decode cX7_init 10 = .ok (.bipush (-9), 2) := by decide +kernel
theorem dX7_init_12 : decode cX7_init 12 = .ok (.iastore, 1) := by decide +kernel
theorem dX7_init_13 : decode cX7_init 13 = .ok (.dup, 1) := by decide +kernel
theorem dX7_init_14 : decode cX7_init 14 = .ok (.iconst 1, 1) := by decide +kernel
theorem dX7_init_15 : decode cX7_init 15 = .ok (.bipush (-9), 2) := by decide +kernel
theorem dX7_init_17 : decode cX7_init 17 = .ok (.iastore, 1) := by decide +kernel
theorem dX7_init_18 : decode cX7_init 18 = .ok (.dup, 1) := by decide +kernel
theorem dX7_init_19 : decode cX7_init 19 = .ok (.iconst 2, 1) := by decide +kernel
theorem dX7_init_20 : decode cX7_init 20 = .ok (.bipush (-9), 2) := by decide +kernel
theorem dX7_init_22 : decode cX7_init 22 = .ok (.iastore, 1) := by decide +kernel
theorem dX7_init_23 : decode cX7_init 23 = .ok (.dup, 1) := by decide +kernel
theorem dX7_init_24 : decode cX7_init 24 = .ok (.iconst 3, 1) := by decide +kernel
theorem dX7_init_25 : decode cX7_init 25 = .ok (.bipush (-9), 2) := by decide +kernel
theorem dX7_init_27 : decode cX7_init 27 = .ok (.iastore, 1) := by decide +kernel
theorem dX7_init_28 : decode cX7_init 28 = .ok (.putfield 9, 3) := by decide +kernel
theorem dX7_init_31 : decode cX7_init 31 = .ok (.aload_n 0, 1) := by decide +kernel
theorem dX7_init_32 : decode cX7_init 32 = .ok (.iconst 4, 1) := by decide +kernel
theorem dX7_init_33 : decode cX7_init 33 = .ok (.newarray .int, 2) := by decide +kernel
theorem dX7_init_35 : decode cX7_init 35 = .ok (.putfield 13, 3) := by decide +kernel
theorem dX7_init_38 : decode cX7_init 38 = .ok (.aload_n 0, 1) := by decide +kernel
theorem dX7_init_39 : decode cX7_init 39 = .ok (.sipush 240, 3) := by decide +kernel
theorem dX7_init_42 : decode cX7_init 42 = .ok (.newarray .int, 2) := by decide +kernel
theorem dX7_init_44 : decode cX7_init 44 = .ok (.putfield 16, 3) := by decide +kernel
theorem dX7_init_47 : decode cX7_init 47 = .ok (.aload_n 0, 1) := by decide +kernel
theorem dX7_init_48 : decode cX7_init 48 = .ok (.bipush 64, 2) := by decide +kernel
theorem dX7_init_50 : decode cX7_init 50 = .ok (.newarray .int, 2) := by decide +kernel
theorem dX7_init_52 : decode cX7_init 52 = .ok (.putfield 19, 3) := by decide +kernel
theorem dX7_init_55 : decode cX7_init 55 = .ok (.aload_n 0, 1) := by decide +kernel
theorem dX7_init_56 : decode cX7_init 56 = .ok (.bipush 6, 2) := by decide +kernel
theorem dX7_init_58 : decode cX7_init 58 = .ok (.newarray .int, 2) := by decide +kernel
theorem dX7_init_60 : decode cX7_init 60 = .ok (.putfield 22, 3) := by decide +kernel
theorem dX7_init_63 : decode cX7_init 63 = .ok (.aload_n 0, 1) := by decide +kernel
theorem dX7_init_64 : decode cX7_init 64 = .ok (.bipush 6, 2) := by decide +kernel
theorem dX7_init_66 : decode cX7_init 66 = .ok (.newarray .int, 2) := by decide +kernel
theorem dX7_init_68 : decode cX7_init 68 = .ok (.putfield 25, 3) := by decide +kernel
theorem dX7_init_71 : decode cX7_init 71 = .ok (.aload_n 0, 1) := by decide +kernel
theorem dX7_init_72 : decode cX7_init 72 = .ok (.bipush 6, 2) := by decide +kernel
theorem dX7_init_74 : decode cX7_init 74 = .ok (.newarray .int, 2) := by decide +kernel
theorem dX7_init_76 : decode cX7_init 76 = .ok (.putfield 28, 3) := by decide +kernel
theorem dX7_init_79 : decode cX7_init 79 = .ok (.aload_n 0, 1) := by decide +kernel
theorem dX7_init_80 : decode cX7_init 80 = .ok (.bipush 18, 2) := by decide +kernel
theorem dX7_init_82 : decode cX7_init 82 = .ok (.newarray .int, 2) := by decide +kernel
theorem dX7_init_84 : decode cX7_init 84 = .ok (.putfield 31, 3) := by decide +kernel
theorem dX7_init_87 : decode cX7_init 87 = .ok (.aload_n 0, 1) := by decide +kernel
theorem dX7_init_88 : decode cX7_init 88 = .ok (.bipush 6, 2) := by decide +kernel
theorem dX7_init_90 : decode cX7_init 90 = .ok (.newarray .int, 2) := by decide +kernel
theorem dX7_init_92 : decode cX7_init 92 = .ok (.putfield 34, 3) := by decide +kernel
theorem dX7_init_95 : decode cX7_init 95 = .ok (.aload_n 0, 1) := by decide +kernel
theorem dX7_init_96 : decode cX7_init 96 = .ok (.bipush 8, 2) := by decide +kernel
theorem dX7_init_98 : decode cX7_init 98 = .ok (.newarray .int, 2) := by decide +kernel
theorem dX7_init_100 : decode cX7_init 100 = .ok (.putfield 37, 3) := by decide +kernel
theorem dX7_init_103 : decode cX7_init 103 = .ok (.aload_n 0, 1) := by decide +kernel
theorem dX7_init_104 : decode cX7_init 104 = .ok (.bipush 8, 2) := by decide +kernel
theorem dX7_init_106 : decode cX7_init 106 = .ok (.newarray .int, 2) := by decide +kernel
theorem dX7_init_108 : decode cX7_init 108 = .ok (.putfield 40, 3) := by decide +kernel
theorem dX7_init_111 : decode cX7_init 111 = .ok (.aload_n 0, 1) := by decide +kernel
theorem dX7_init_112 : decode cX7_init 112 = .ok (.bipush 8, 2) := by decide +kernel
theorem dX7_init_114 : decode cX7_init 114 = .ok (.newarray .int, 2) := by decide +kernel
theorem dX7_init_116 : decode cX7_init 116 = .ok (.putfield 43, 3) := by decide +kernel
theorem dX7_init_119 : decode cX7_init 119 = .ok (.aload_n 0, 1) := by decide +kernel
theorem dX7_init_120 : decode cX7_init 120 = .ok (.bipush 64, 2) := by decide +kernel
theorem dX7_init_122 : decode cX7_init 122 = .ok (.newarray .int, 2) := by decide +kernel
theorem dX7_init_124 : decode cX7_init 124 = .ok (.putfield 46, 3) := by decide +kernel
theorem dX7_init_127 : decode cX7_init 127 = .ok (.aload_n 0, 1) := by decide +kernel
theorem dX7_init_128 : decode cX7_init 128 = .ok (.bipush 64, 2) := by decide +kernel
theorem dX7_init_130 : decode cX7_init 130 = .ok (.newarray .int, 2) := by decide +kernel
theorem dX7_init_132 : decode cX7_init 132 = .ok (.putfield 49, 3) := by decide +kernel
theorem dX7_init_135 : decode cX7_init 135 = .ok (.aload_n 0, 1) := by decide +kernel
theorem dX7_init_136 : decode cX7_init 136 = .ok (.bipush 64, 2) := by decide +kernel
theorem dX7_init_138 : decode cX7_init 138 = .ok (.newarray .int, 2) := by decide +kernel
theorem dX7_init_140 : decode cX7_init 140 = .ok (.putfield 52, 3) := by decide +kernel
theorem dX7_init_143 : decode cX7_init 143 = .ok (.return_, 1) := by decide +kernel
theorem dX7_fails_0 : decode cX7_fails 0 = .ok (.aload_n 0, 1) := by decide +kernel
theorem dX7_fails_1 : decode cX7_fails 1 = .ok (.iload_n 1, 1) := by decide +kernel
theorem dX7_fails_2 : decode cX7_fails 2 = .ok (.putfield 55, 3) := by decide +kernel
theorem dX7_fails_5 : decode cX7_fails 5 = .ok (.bipush (-10), 2) := by decide +kernel
theorem dX7_fails_7 : decode cX7_fails 7 = .ok (.iload_n 1, 1) := by decide +kernel
theorem dX7_fails_8 : decode cX7_fails 8 = .ok (.isub, 1) := by decide +kernel
theorem dX7_fails_9 : decode cX7_fails 9 = .ok (.ireturn, 1) := by decide +kernel
theorem dX7_lost_0 : decode cX7_lost 0 = .ok (.aload_n 0, 1) := by decide +kernel
theorem dX7_lost_1 : decode cX7_lost 1 = .ok (.iload_n 1, 1) := by decide +kernel
theorem dX7_lost_2 : decode cX7_lost 2 = .ok (.putfield 55, 3) := by decide +kernel
theorem dX7_lost_5 : decode cX7_lost 5 = .ok (.ldc2_w 59, 3) := by decide +kernel
theorem dX7_lost_8 : decode cX7_lost 8 = .ok (.lreturn, 1) := by decide +kernel
theorem dX7_within_0 : decode cX7_within 0 = .ok (.iload_n 0, 1) := by decide +kernel
theorem dX7_within_1 : decode cX7_within 1 = .ok (.iload_n 1, 1) := by decide +kernel
theorem dX7_within_2 : decode cX7_within 2 = .ok (.if_icmp .lt 12, 3) := by decide +kernel
theorem dX7_within_5 : decode cX7_within 5 = .ok (.iload_n 0, 1) := by decide +kernel
theorem dX7_within_6 : decode cX7_within 6 = .ok (.iload_n 2, 1) := by decide +kernel
theorem dX7_within_7 : decode cX7_within 7 = .ok (.if_icmp .gt 7, 3) := by decide +kernel
theorem dX7_within_10 : decode cX7_within 10 = .ok (.iconst 1, 1) := by decide +kernel
theorem dX7_within_11 : decode cX7_within 11 = .ok (.goto 4, 3) := by decide +kernel
theorem dX7_within_14 : decode cX7_within 14 = .ok (.iconst 0, 1) := by decide +kernel
theorem dX7_within_15 : decode cX7_within 15 = .ok (.ireturn, 1) := by decide +kernel
theorem dX7_isSheet_0 : decode cX7_isSheet 0 = .ok (.iload_n 0, 1) := by decide +kernel
theorem dX7_isSheet_1 : decode cX7_isSheet 1 = .ok (.iconst 0, 1) := by decide +kernel
theorem dX7_isSheet_2 : decode cX7_isSheet 2 = .ok (.iconst 3, 1) := by decide +kernel
theorem dX7_isSheet_3 : decode cX7_isSheet 3 = .ok (.invokestatic 61, 3) := by decide +kernel
theorem dX7_isSheet_6 : decode cX7_isSheet 6 = .ok (.ireturn, 1) := by decide +kernel
theorem dX7_isSort_0 : decode cX7_isSort 0 = .ok (.iload_n 0, 1) := by decide +kernel
theorem dX7_isSort_1 : decode cX7_isSort 1 = .ok (.iconst 0, 1) := by decide +kernel
theorem dX7_isSort_2 : decode cX7_isSort 2 = .ok (.iconst 2, 1) := by decide +kernel
theorem dX7_isSort_3 : decode cX7_isSort 3 = .ok (.invokestatic 61, 3) := by decide +kernel
theorem dX7_isSort_6 : decode cX7_isSort 6 = .ok (.ireturn, 1) := by decide +kernel
theorem dX7_against_0 : decode cX7_against 0 = .ok (.aload_n 0, 1) := by decide +kernel
theorem dX7_against_1 : decode cX7_against 1 = .ok (.getfield 9, 3) := by decide +kernel
theorem dX7_against_4 : decode cX7_against 4 = .ok (.iload_n 1, 1) := by decide +kernel
theorem dX7_against_5 : decode cX7_against 5 = .ok (.iaload, 1) := by decide +kernel
theorem dX7_against_6 : decode cX7_against 6 = .ok (.bipush (-9), 2) := by decide +kernel
theorem dX7_against_8 : decode cX7_against 8 = .ok (.if_icmp .eq 15, 3) := by decide +kernel
theorem dX7_against_11 : decode cX7_against 11 = .ok (.aload_n 0, 1) := by decide +kernel
theorem dX7_against_12 : decode cX7_against 12 = .ok (.getfield 9, 3) := by decide +kernel
theorem dX7_against_15 : decode cX7_against 15 = .ok (.iload_n 1, 1) := by decide +kernel
theorem dX7_against_16 : decode cX7_against 16 = .ok (.iaload, 1) := by decide +kernel
theorem dX7_against_17 : decode cX7_against 17 = .ok (.iload_n 2, 1) := by decide +kernel
theorem dX7_against_18 : decode cX7_against 18 = .ok (.if_icmp .eq 5, 3) := by decide +kernel
theorem dX7_against_21 : decode cX7_against 21 = .ok (.iconst 2, 1) := by decide +kernel
theorem dX7_against_22 : decode cX7_against 22 = .ok (.ireturn, 1) := by decide +kernel
theorem dX7_against_23 : decode cX7_against 23 = .ok (.aload_n 0, 1) := by decide +kernel
theorem dX7_against_24 : decode cX7_against 24 = .ok (.getfield 9, 3) := by decide +kernel
theorem dX7_against_27 : decode cX7_against 27 = .ok (.iload_n 1, 1) := by decide +kernel
theorem dX7_against_28 : decode cX7_against 28 = .ok (.iaload, 1) := by decide +kernel
theorem dX7_against_29 : decode cX7_against 29 = .ok (.bipush (-9), 2) := by decide +kernel
theorem dX7_against_31 : decode cX7_against 31 = .ok (.if_icmp .ne 5, 3) := by decide +kernel
theorem dX7_against_34 : decode cX7_against 34 = .ok (.iconst 1, 1) := by decide +kernel
theorem dX7_against_35 : decode cX7_against 35 = .ok (.ireturn, 1) := by decide +kernel
theorem dX7_against_36 : decode cX7_against 36 = .ok (.iload 4, 2) := by decide +kernel
theorem dX7_against_38 : decode cX7_against 38 = .ok (.ifCond .ge 5, 3) := by decide +kernel
theorem dX7_against_41 : decode cX7_against 41 = .ok (.iconst 4, 1) := by decide +kernel
theorem dX7_against_42 : decode cX7_against 42 = .ok (.ireturn, 1) := by decide +kernel
theorem dX7_against_43 : decode cX7_against 43 = .ok (.iload_n 3, 1) := by decide +kernel
theorem dX7_against_44 : decode cX7_against 44 = .ok (.ifCond .lt 26, 3) := by decide +kernel
theorem dX7_against_47 : decode cX7_against 47 = .ok (.iload_n 3, 1) := by decide +kernel
theorem dX7_against_48 : decode cX7_against 48 = .ok (.aload_n 0, 1) := by decide +kernel
theorem dX7_against_49 : decode cX7_against 49 = .ok (.getfield 13, 3) := by decide +kernel
theorem dX7_against_52 : decode cX7_against 52 = .ok (.iload_n 1, 1) := by decide +kernel
theorem dX7_against_53 : decode cX7_against 53 = .ok (.iaload, 1) := by decide +kernel
theorem dX7_against_54 : decode cX7_against 54 = .ok (.if_icmp .gt 16, 3) := by decide +kernel
theorem dX7_against_57 : decode cX7_against 57 = .ok (.iload 4, 2) := by decide +kernel
theorem dX7_against_59 : decode cX7_against 59 = .ok (.aload_n 0, 1) := by decide +kernel
theorem dX7_against_60 : decode cX7_against 60 = .ok (.getfield 13, 3) := by decide +kernel
theorem dX7_against_63 : decode cX7_against 63 = .ok (.iload_n 1, 1) := by decide +kernel
theorem dX7_against_64 : decode cX7_against 64 = .ok (.iaload, 1) := by decide +kernel
theorem dX7_against_65 : decode cX7_against 65 = .ok (.iload_n 3, 1) := by decide +kernel
theorem dX7_against_66 : decode cX7_against 66 = .ok (.isub, 1) := by decide +kernel
theorem dX7_against_67 : decode cX7_against 67 = .ok (.if_icmp .le 7, 3) := by decide +kernel
theorem dX7_against_70 : decode cX7_against 70 = .ok (.iconst 3, 1) := by decide +kernel
theorem dX7_against_71 : decode cX7_against 71 = .ok (.goto 4, 3) := by decide +kernel
theorem dX7_against_74 : decode cX7_against 74 = .ok (.iconst 0, 1) := by decide +kernel
theorem dX7_against_75 : decode cX7_against 75 = .ok (.ireturn, 1) := by decide +kernel
theorem dX7_isBlock_0 : decode cX7_isBlock 0 = .ok (.iload_n 1, 1) := by decide +kernel
theorem dX7_isBlock_1 : decode cX7_isBlock 1 = .ok (.ifCond .lt 15, 3) := by decide +kernel
theorem dX7_isBlock_4 : decode cX7_isBlock 4 = .ok (.iload_n 1, 1) := by decide +kernel
theorem dX7_isBlock_5 : decode cX7_isBlock 5 = .ok (.aload_n 0, 1) := by decide +kernel
theorem dX7_isBlock_6 : decode cX7_isBlock 6 = .ok (.getfield 65, 3) := by decide +kernel
theorem dX7_isBlock_9 : decode cX7_isBlock 9 = .ok (.if_icmp .ge 7, 3) := by decide +kernel
theorem dX7_isBlock_12 : decode cX7_isBlock 12 = .ok (.iconst 1, 1) := by decide +kernel
theorem dX7_isBlock_13 : decode cX7_isBlock 13 = .ok (.goto 4, 3) := by decide +kernel
theorem dX7_isBlock_16 : decode cX7_isBlock 16 = .ok (.iconst 0, 1) := by decide +kernel
theorem dX7_isBlock_17 : decode cX7_isBlock 17 = .ok (.ireturn, 1) := by decide +kernel
theorem dX7_isShape_0 : decode cX7_isShape 0 = .ok (.iload_n 0, 1) := by decide +kernel
theorem dX7_isShape_1 : decode cX7_isShape 1 = .ok (.iconst 0, 1) := by decide +kernel
theorem dX7_isShape_2 : decode cX7_isShape 2 = .ok (.bipush 63, 2) := by decide +kernel
theorem dX7_isShape_4 : decode cX7_isShape 4 = .ok (.invokestatic 61, 3) := by decide +kernel
theorem dX7_isShape_7 : decode cX7_isShape 7 = .ok (.ireturn, 1) := by decide +kernel
theorem dX7_isOf_0 : decode cX7_isOf 0 = .ok (.iload_n 0, 1) := by decide +kernel
theorem dX7_isOf_1 : decode cX7_isOf 1 = .ok (.iload_n 1, 1) := by decide +kernel
theorem dX7_isOf_2 : decode cX7_isOf 2 = .ok (.ishr, 1) := by decide +kernel
theorem dX7_isOf_3 : decode cX7_isOf 3 = .ok (.iconst 1, 1) := by decide +kernel
theorem dX7_isOf_4 : decode cX7_isOf 4 = .ok (.iand, 1) := by decide +kernel
theorem dX7_isOf_5 : decode cX7_isOf 5 = .ok (.iconst 1, 1) := by decide +kernel
theorem dX7_isOf_6 : decode cX7_isOf 6 = .ok (.if_icmp .ne 7, 3) := by decide +kernel
theorem dX7_isOf_9 : decode cX7_isOf 9 = .ok (.iconst 1, 1) := by decide +kernel
theorem dX7_isOf_10 : decode cX7_isOf 10 = .ok (.goto 4, 3) := by decide +kernel
theorem dX7_isOf_13 : decode cX7_isOf 13 = .ok (.iconst 0, 1) := by decide +kernel
theorem dX7_isOf_14 : decode cX7_isOf 14 = .ok (.ireturn, 1) := by decide +kernel
theorem dX7_size_0 : decode cX7_size 0 = .ok (.iconst 0, 1) := by decide +kernel
theorem dX7_size_1 : decode cX7_size 1 = .ok (.istore_n 1, 1) := by decide +kernel
theorem dX7_size_2 : decode cX7_size 2 = .ok (.iload_n 0, 1) := by decide +kernel
theorem dX7_size_3 : decode cX7_size 3 = .ok (.istore_n 2, 1) := by decide +kernel
theorem dX7_size_4 : decode cX7_size 4 = .ok (.iload_n 2, 1) := by decide +kernel
theorem dX7_size_5 : decode cX7_size 5 = .ok (.ifCond .le 16, 3) := by decide +kernel
theorem dX7_size_8 : decode cX7_size 8 = .ok (.iload_n 1, 1) := by decide +kernel
theorem dX7_size_9 : decode cX7_size 9 = .ok (.iload_n 2, 1) := by decide +kernel
theorem dX7_size_10 : decode cX7_size 10 = .ok (.iconst 1, 1) := by decide +kernel
theorem dX7_size_11 : decode cX7_size 11 = .ok (.iand, 1) := by decide +kernel
theorem dX7_size_12 : decode cX7_size 12 = .ok (.iadd, 1) := by decide +kernel
theorem dX7_size_13 : decode cX7_size 13 = .ok (.istore_n 1, 1) := by decide +kernel
theorem dX7_size_14 : decode cX7_size 14 = .ok (.iload_n 2, 1) := by decide +kernel
theorem dX7_size_15 : decode cX7_size 15 = .ok (.iconst 1, 1) := by decide +kernel
theorem dX7_size_16 : decode cX7_size 16 = .ok (.ishr, 1) := by decide +kernel
theorem dX7_size_17 : decode cX7_size 17 = .ok (.istore_n 2, 1) := by decide +kernel
theorem dX7_size_18 : decode cX7_size 18 = .ok (.goto (-14), 3) := by decide +kernel
theorem dX7_size_21 : decode cX7_size 21 = .ok (.iload_n 1, 1) := by decide +kernel
theorem dX7_size_22 : decode cX7_size 22 = .ok (.ireturn, 1) := by decide +kernel
theorem dX7_digit_0 : decode cX7_digit 0 = .ok (.aload_n 0, 1) := by decide +kernel
theorem dX7_digit_1 : decode cX7_digit 1 = .ok (.getfield 68, 3) := by decide +kernel
theorem dX7_digit_4 : decode cX7_digit 4 = .ok (.iload_n 1, 1) := by decide +kernel
theorem dX7_digit_5 : decode cX7_digit 5 = .ok (.if_icmp .ge 26, 3) := by decide +kernel
theorem dX7_digit_8 : decode cX7_digit 8 = .ok (.aload_n 0, 1) := by decide +kernel
theorem dX7_digit_9 : decode cX7_digit 9 = .ok (.getfield 16, 3) := by decide +kernel
theorem dX7_digit_12 : decode cX7_digit 12 = .ok (.aload_n 0, 1) := by decide +kernel
theorem dX7_digit_13 : decode cX7_digit 13 = .ok (.getfield 68, 3) := by decide +kernel
theorem dX7_digit_16 : decode cX7_digit 16 = .ok (.iaload, 1) := by decide +kernel
theorem dX7_digit_17 : decode cX7_digit 17 = .ok (.bipush 48, 2) := by decide +kernel
theorem dX7_digit_19 : decode cX7_digit 19 = .ok (.iload_n 2, 1) := by decide +kernel
theorem dX7_digit_20 : decode cX7_digit 20 = .ok (.iadd, 1) := by decide +kernel
theorem dX7_digit_21 : decode cX7_digit 21 = .ok (.bipush 48, 2) := by decide +kernel
theorem dX7_digit_23 : decode cX7_digit 23 = .ok (.iload_n 3, 1) := by decide +kernel
theorem dX7_digit_24 : decode cX7_digit 24 = .ok (.iadd, 1) := by decide +kernel
theorem dX7_digit_25 : decode cX7_digit 25 = .ok (.invokestatic 61, 3) := by decide +kernel
theorem dX7_digit_28 : decode cX7_digit 28 = .ok (.ifCond .ne 6, 3) := by decide +kernel
theorem dX7_digit_31 : decode cX7_digit 31 = .ok (.bipush (-9), 2) := by decide +kernel
theorem dX7_digit_33 : decode cX7_digit 33 = .ok (.ireturn, 1) := by decide +kernel
theorem dX7_digit_34 : decode cX7_digit 34 = .ok (.aload_n 0, 1) := by decide +kernel
theorem dX7_digit_35 : decode cX7_digit 35 = .ok (.dup, 1) := by decide +kernel
theorem dX7_digit_36 : decode cX7_digit 36 = .ok (.getfield 68, 3) := by decide +kernel
theorem dX7_digit_39 : decode cX7_digit 39 = .ok (.iconst 1, 1) := by decide +kernel
theorem dX7_digit_40 : decode cX7_digit 40 = .ok (.iadd, 1) := by decide +kernel
theorem dX7_digit_41 : decode cX7_digit 41 = .ok (.putfield 68, 3) := by decide +kernel
theorem dX7_digit_44 : decode cX7_digit 44 = .ok (.aload_n 0, 1) := by decide +kernel
theorem dX7_digit_45 : decode cX7_digit 45 = .ok (.getfield 16, 3) := by decide +kernel
theorem dX7_digit_48 : decode cX7_digit 48 = .ok (.aload_n 0, 1) := by decide +kernel
theorem dX7_digit_49 : decode cX7_digit 49 = .ok (.getfield 68, 3) := by decide +kernel
theorem dX7_digit_52 : decode cX7_digit 52 = .ok (.iconst 1, 1) := by decide +kernel
theorem dX7_digit_53 : decode cX7_digit 53 = .ok (.isub, 1) := by decide +kernel
theorem dX7_digit_54 : decode cX7_digit 54 = .ok (.iaload, 1) := by decide +kernel
theorem dX7_digit_55 : decode cX7_digit 55 = .ok (.bipush 48, 2) := by decide +kernel
theorem dX7_digit_57 : decode cX7_digit 57 = .ok (.isub, 1) := by decide +kernel
theorem dX7_digit_58 : decode cX7_digit 58 = .ok (.ireturn, 1) := by decide +kernel
theorem dX7_isSign_0 : decode cX7_isSign 0 = .ok (.aload_n 0, 1) := by decide +kernel
theorem dX7_isSign_1 : decode cX7_isSign 1 = .ok (.getfield 68, 3) := by decide +kernel
theorem dX7_isSign_4 : decode cX7_isSign 4 = .ok (.iload_n 1, 1) := by decide +kernel
theorem dX7_isSign_5 : decode cX7_isSign 5 = .ok (.if_icmp .ge 16, 3) := by decide +kernel
theorem dX7_isSign_8 : decode cX7_isSign 8 = .ok (.aload_n 0, 1) := by decide +kernel
theorem dX7_isSign_9 : decode cX7_isSign 9 = .ok (.getfield 16, 3) := by decide +kernel
theorem dX7_isSign_12 : decode cX7_isSign 12 = .ok (.aload_n 0, 1) := by decide +kernel
theorem dX7_isSign_13 : decode cX7_isSign 13 = .ok (.getfield 68, 3) := by decide +kernel
theorem dX7_isSign_16 : decode cX7_isSign 16 = .ok (.iaload, 1) := by decide +kernel
theorem dX7_isSign_17 : decode cX7_isSign 17 = .ok (.iload_n 2, 1) := by decide +kernel
theorem dX7_isSign_18 : decode cX7_isSign 18 = .ok (.if_icmp .eq 5, 3) := by decide +kernel
theorem dX7_isSign_21 : decode cX7_isSign 21 = .ok (.iconst 0, 1) := by decide +kernel
theorem dX7_isSign_22 : decode cX7_isSign 22 = .ok (.ireturn, 1) := by decide +kernel
theorem dX7_isSign_23 : decode cX7_isSign 23 = .ok (.aload_n 0, 1) := by decide +kernel
theorem dX7_isSign_24 : decode cX7_isSign 24 = .ok (.dup, 1) := by decide +kernel
theorem dX7_isSign_25 : decode cX7_isSign 25 = .ok (.getfield 68, 3) := by decide +kernel
theorem dX7_isSign_28 : decode cX7_isSign 28 = .ok (.iconst 1, 1) := by decide +kernel
theorem dX7_isSign_29 : decode cX7_isSign 29 = .ok (.iadd, 1) := by decide +kernel
theorem dX7_isSign_30 : decode cX7_isSign 30 = .ok (.putfield 68, 3) := by decide +kernel
theorem dX7_isSign_33 : decode cX7_isSign 33 = .ok (.iconst 1, 1) := by decide +kernel
theorem dX7_isSign_34 : decode cX7_isSign 34 = .ok (.ireturn, 1) := by decide +kernel
theorem dX7_garden_0 : decode cX7_garden 0 = .ok (.aload_n 0, 1) := by decide +kernel
theorem dX7_garden_1 : decode cX7_garden 1 = .ok (.iconst 0, 1) := by decide +kernel
theorem dX7_garden_2 : decode cX7_garden 2 = .ok (.putfield 55, 3) := by decide +kernel
theorem dX7_garden_5 : decode cX7_garden 5 = .ok (.iload_n 1, 1) := by decide +kernel
theorem dX7_garden_6 : decode cX7_garden 6 = .ok (.invokestatic 71, 3) := by decide +kernel
theorem dX7_garden_9 : decode cX7_garden 9 = .ok (.ifCond .ne 5, 3) := by decide +kernel
theorem dX7_garden_12 : decode cX7_garden 12 = .ok (.iconst (-1), 1) := by decide +kernel
theorem dX7_garden_13 : decode cX7_garden 13 = .ok (.ireturn, 1) := by decide +kernel
theorem dX7_garden_14 : decode cX7_garden 14 = .ok (.iload_n 2, 1) := by decide +kernel
theorem dX7_garden_15 : decode cX7_garden 15 = .ok (.invokestatic 75, 3) := by decide +kernel
theorem dX7_garden_18 : decode cX7_garden 18 = .ok (.ifCond .ne 6, 3) := by decide +kernel
theorem dX7_garden_21 : decode cX7_garden 21 = .ok (.bipush (-2), 2) := by decide +kernel
theorem dX7_garden_23 : decode cX7_garden 23 = .ok (.ireturn, 1) := by decide +kernel
theorem dX7_garden_24 : decode cX7_garden 24 = .ok (.aload_n 0, 1) := by decide +kernel
theorem dX7_garden_25 : decode cX7_garden 25 = .ok (.iload_n 1, 1) := by decide +kernel
theorem dX7_garden_26 : decode cX7_garden 26 = .ok (.iload_n 2, 1) := by decide +kernel
theorem dX7_garden_27 : decode cX7_garden 27 = .ok (.iload_n 3, 1) := by decide +kernel
theorem dX7_garden_28 : decode cX7_garden 28 = .ok (.iload 4, 2) := by decide +kernel
theorem dX7_garden_30 : decode cX7_garden 30 = .ok (.invokevirtual 78, 3) := by decide +kernel
theorem dX7_garden_33 : decode cX7_garden 33 = .ok (.istore 5, 2) := by decide +kernel
theorem dX7_garden_35 : decode cX7_garden 35 = .ok (.iload 5, 2) := by decide +kernel
theorem dX7_garden_37 : decode cX7_garden 37 = .ok (.ifCond .eq 10, 3) := by decide +kernel
theorem dX7_garden_40 : decode cX7_garden 40 = .ok (.aload_n 0, 1) := by decide +kernel
theorem dX7_garden_41 : decode cX7_garden 41 = .ok (.iload 5, 2) := by decide +kernel
theorem dX7_garden_43 : decode cX7_garden 43 = .ok (.invokevirtual 82, 3) := by decide +kernel
theorem dX7_garden_46 : decode cX7_garden 46 = .ok (.ireturn, 1) := by decide +kernel
theorem dX7_garden_47 : decode cX7_garden 47 = .ok (.bipush 60, 2) := by decide +kernel
theorem dX7_garden_49 : decode cX7_garden 49 = .ok (.iload_n 1, 1) := by decide +kernel
theorem dX7_garden_50 : decode cX7_garden 50 = .ok (.imul, 1) := by decide +kernel
theorem dX7_garden_51 : decode cX7_garden 51 = .ok (.iload_n 3, 1) := by decide +kernel
theorem dX7_garden_52 : decode cX7_garden 52 = .ok (.iadd, 1) := by decide +kernel
theorem dX7_garden_53 : decode cX7_garden 53 = .ok (.istore 6, 2) := by decide +kernel
theorem dX7_garden_55 : decode cX7_garden 55 = .ok (.aload_n 0, 1) := by decide +kernel
theorem dX7_garden_56 : decode cX7_garden 56 = .ok (.iload 6, 2) := by decide +kernel
theorem dX7_garden_58 : decode cX7_garden 58 = .ok (.putfield 68, 3) := by decide +kernel
theorem dX7_garden_61 : decode cX7_garden 61 = .ok (.aload_n 0, 1) := by decide +kernel
theorem dX7_garden_62 : decode cX7_garden 62 = .ok (.iload 6, 2) := by decide +kernel
theorem dX7_garden_64 : decode cX7_garden 64 = .ok (.iload 4, 2) := by decide +kernel
theorem dX7_garden_66 : decode cX7_garden 66 = .ok (.iadd, 1) := by decide +kernel
theorem dX7_garden_67 : decode cX7_garden 67 = .ok (.invokevirtual 86, 3) := by decide +kernel
theorem dX7_garden_70 : decode cX7_garden 70 = .ok (.ifCond .ne 14, 3) := by decide +kernel
theorem dX7_garden_73 : decode cX7_garden 73 = .ok (.bipush (-100), 2) := by decide +kernel
theorem dX7_garden_75 : decode cX7_garden 75 = .ok (.aload_n 0, 1) := by decide +kernel
theorem dX7_garden_76 : decode cX7_garden 76 = .ok (.getfield 68, 3) := by decide +kernel
theorem dX7_garden_79 : decode cX7_garden 79 = .ok (.iload 6, 2) := by decide +kernel
theorem dX7_garden_81 : decode cX7_garden 81 = .ok (.isub, 1) := by decide +kernel
theorem dX7_garden_82 : decode cX7_garden 82 = .ok (.isub, 1) := by decide +kernel
theorem dX7_garden_83 : decode cX7_garden 83 = .ok (.ireturn, 1) := by decide +kernel
theorem dX7_garden_84 : decode cX7_garden 84 = .ok (.aload_n 0, 1) := by decide +kernel
theorem dX7_garden_85 : decode cX7_garden 85 = .ok (.invokevirtual 89, 3) := by decide +kernel
theorem dX7_garden_88 : decode cX7_garden 88 = .ok (.aload_n 0, 1) := by decide +kernel
theorem dX7_garden_89 : decode cX7_garden 89 = .ok (.getfield 65, 3) := by decide +kernel
theorem dX7_garden_92 : decode cX7_garden 92 = .ok (.ireturn, 1) := by decide +kernel
theorem dX7_takeGarden_0 : decode cX7_takeGarden 0 = .ok (.aload_n 0, 1) := by decide +kernel
theorem dX7_takeGarden_1 : decode cX7_takeGarden 1 = .ok (.aload_n 0, 1) := by decide +kernel
theorem dX7_takeGarden_2 : decode cX7_takeGarden 2 = .ok (.getfield 92, 3) := by decide +kernel
theorem dX7_takeGarden_5 : decode cX7_takeGarden 5 = .ok (.invokevirtual 95, 3) := by decide +kernel
theorem dX7_takeGarden_8 : decode cX7_takeGarden 8 = .ok (.aload_n 0, 1) := by decide +kernel
theorem dX7_takeGarden_9 : decode cX7_takeGarden 9 = .ok (.aload_n 0, 1) := by decide +kernel
theorem dX7_takeGarden_10 : decode cX7_takeGarden 10 = .ok (.getfield 99, 3) := by decide +kernel
theorem dX7_takeGarden_13 : decode cX7_takeGarden 13 = .ok (.putfield 65, 3) := by decide +kernel
theorem dX7_takeGarden_16 : decode cX7_takeGarden 16 = .ok (.iconst 0, 1) := by decide +kernel
theorem dX7_takeGarden_17 : decode cX7_takeGarden 17 = .ok (.istore_n 1, 1) := by decide +kernel
theorem dX7_takeGarden_18 : decode cX7_takeGarden 18 = .ok (.iload_n 1, 1) := by decide +kernel
theorem dX7_takeGarden_19 : decode cX7_takeGarden 19 = .ok (.aload_n 0, 1) := by decide +kernel
theorem dX7_takeGarden_20 : decode cX7_takeGarden 20 = .ok (.getfield 65, 3) := by decide +kernel
theorem dX7_takeGarden_23 : decode cX7_takeGarden 23 = .ok (.if_icmp .ge 55, 3) := by decide +kernel
theorem dX7_takeGarden_26 : decode cX7_takeGarden 26 = .ok (.aload_n 0, 1) := by decide +kernel
theorem dX7_takeGarden_27 : decode cX7_takeGarden 27 = .ok (.getfield 22, 3) := by decide +kernel
theorem dX7_takeGarden_30 : decode cX7_takeGarden 30 = .ok (.iload_n 1, 1) := by decide +kernel
theorem dX7_takeGarden_31 : decode cX7_takeGarden 31 = .ok (.aload_n 0, 1) := by decide +kernel
theorem dX7_takeGarden_32 : decode cX7_takeGarden 32 = .ok (.getfield 31, 3) := by decide +kernel
theorem dX7_takeGarden_35 : decode cX7_takeGarden 35 = .ok (.iconst 3, 1) := by decide +kernel
theorem dX7_takeGarden_36 : decode cX7_takeGarden 36 = .ok (.iload_n 1, 1) := by decide +kernel
theorem dX7_takeGarden_37 : decode cX7_takeGarden 37 = .ok (.imul, 1) := by decide +kernel
theorem dX7_takeGarden_38 : decode cX7_takeGarden 38 = .ok (.iaload, 1) := by decide +kernel
theorem dX7_takeGarden_39 : decode cX7_takeGarden 39 = .ok (.iastore, 1) := by decide +kernel
theorem dX7_takeGarden_40 : decode cX7_takeGarden 40 = .ok (.aload_n 0, 1) := by decide +kernel
theorem dX7_takeGarden_41 : decode cX7_takeGarden 41 = .ok (.getfield 25, 3) := by decide +kernel
theorem dX7_takeGarden_44 : decode cX7_takeGarden 44 = .ok (.iload_n 1, 1) := by decide +kernel
theorem dX7_takeGarden_45 : decode cX7_takeGarden 45 = .ok (.aload_n 0, 1) := by decide +kernel
theorem dX7_takeGarden_46 : decode cX7_takeGarden 46 = .ok (.getfield 31, 3) := by decide +kernel
theorem dX7_takeGarden_49 : decode cX7_takeGarden 49 = .ok (.iconst 3, 1) := by decide +kernel
theorem dX7_takeGarden_50 : decode cX7_takeGarden 50 = .ok (.iload_n 1, 1) := by decide +kernel
theorem dX7_takeGarden_51 : decode cX7_takeGarden 51 = .ok (.imul, 1) := by decide +kernel
theorem dX7_takeGarden_52 : decode cX7_takeGarden 52 = .ok (.iconst 1, 1) := by decide +kernel
theorem dX7_takeGarden_53 : decode cX7_takeGarden 53 = .ok (.iadd, 1) := by decide +kernel
theorem dX7_takeGarden_54 : decode cX7_takeGarden 54 = .ok (.iaload, 1) := by decide +kernel
theorem dX7_takeGarden_55 : decode cX7_takeGarden 55 = .ok (.iastore, 1) := by decide +kernel
theorem dX7_takeGarden_56 : decode cX7_takeGarden 56 = .ok (.aload_n 0, 1) := by decide +kernel
theorem dX7_takeGarden_57 : decode cX7_takeGarden 57 = .ok (.getfield 28, 3) := by decide +kernel
theorem dX7_takeGarden_60 : decode cX7_takeGarden 60 = .ok (.iload_n 1, 1) := by decide +kernel
theorem dX7_takeGarden_61 : decode cX7_takeGarden 61 = .ok (.aload_n 0, 1) := by decide +kernel
theorem dX7_takeGarden_62 : decode cX7_takeGarden 62 = .ok (.getfield 31, 3) := by decide +kernel
theorem dX7_takeGarden_65 : decode cX7_takeGarden 65 = .ok (.iconst 3, 1) := by decide +kernel
theorem dX7_takeGarden_66 : decode cX7_takeGarden 66 = .ok (.iload_n 1, 1) := by decide +kernel
theorem dX7_takeGarden_67 : decode cX7_takeGarden 67 = .ok (.imul, 1) := by decide +kernel
theorem dX7_takeGarden_68 : decode cX7_takeGarden 68 = .ok (.iconst 2, 1) := by decide +kernel
theorem dX7_takeGarden_69 : decode cX7_takeGarden 69 = .ok (.iadd, 1) := by decide +kernel
theorem dX7_takeGarden_70 : decode cX7_takeGarden 70 = .ok (.iaload, 1) := by decide +kernel
theorem dX7_takeGarden_71 : decode cX7_takeGarden 71 = .ok (.iastore, 1) := by decide +kernel
theorem dX7_takeGarden_72 : decode cX7_takeGarden 72 = .ok (.iinc 1 1, 3) := by decide +kernel
theorem dX7_takeGarden_75 : decode cX7_takeGarden 75 = .ok (.goto (-57), 3) := by decide +kernel
theorem dX7_takeGarden_78 : decode cX7_takeGarden 78 = .ok (.aload_n 0, 1) := by decide +kernel
theorem dX7_takeGarden_79 : decode cX7_takeGarden 79 = .ok (.iconst 0, 1) := by decide +kernel
theorem dX7_takeGarden_80 : decode cX7_takeGarden 80 = .ok (.putfield 102, 3) := by decide +kernel
theorem dX7_takeGarden_83 : decode cX7_takeGarden 83 = .ok (.aload_n 0, 1) := by decide +kernel
theorem dX7_takeGarden_84 : decode cX7_takeGarden 84 = .ok (.iconst 0, 1) := by decide +kernel
theorem dX7_takeGarden_85 : decode cX7_takeGarden 85 = .ok (.putfield 105, 3) := by decide +kernel
theorem dX7_takeGarden_88 : decode cX7_takeGarden 88 = .ok (.aload_n 0, 1) := by decide +kernel
theorem dX7_takeGarden_89 : decode cX7_takeGarden 89 = .ok (.iconst 0, 1) := by decide +kernel
theorem dX7_takeGarden_90 : decode cX7_takeGarden 90 = .ok (.putfield 108, 3) := by decide +kernel
theorem dX7_takeGarden_93 : decode cX7_takeGarden 93 = .ok (.return_, 1) := by decide +kernel
theorem dX7_bitFor_0 : decode cX7_bitFor 0 = .ok (.iload_n 0, 1) := by decide +kernel
theorem dX7_bitFor_1 : decode cX7_bitFor 1 = .ok (.iload_n 1, 1) := by decide +kernel
theorem dX7_bitFor_2 : decode cX7_bitFor 2 = .ok (.iconst 1, 1) := by decide +kernel
theorem dX7_bitFor_3 : decode cX7_bitFor 3 = .ok (.iadd, 1) := by decide +kernel
theorem dX7_bitFor_4 : decode cX7_bitFor 4 = .ok (.bipush 6, 2) := by decide +kernel
theorem dX7_bitFor_6 : decode cX7_bitFor 6 = .ok (.irem, 1) := by decide +kernel
theorem dX7_bitFor_7 : decode cX7_bitFor 7 = .ok (.ishr, 1) := by decide +kernel
theorem dX7_bitFor_8 : decode cX7_bitFor 8 = .ok (.iconst 1, 1) := by decide +kernel
theorem dX7_bitFor_9 : decode cX7_bitFor 9 = .ok (.iand, 1) := by decide +kernel
theorem dX7_bitFor_10 : decode cX7_bitFor 10 = .ok (.istore_n 2, 1) := by decide +kernel
theorem dX7_bitFor_11 : decode cX7_bitFor 11 = .ok (.iload_n 0, 1) := by decide +kernel
theorem dX7_bitFor_12 : decode cX7_bitFor 12 = .ok (.iload_n 1, 1) := by decide +kernel
theorem dX7_bitFor_13 : decode cX7_bitFor 13 = .ok (.bipush 6, 2) := by decide +kernel
theorem dX7_bitFor_15 : decode cX7_bitFor 15 = .ok (.iadd, 1) := by decide +kernel
theorem dX7_bitFor_16 : decode cX7_bitFor 16 = .ok (.iconst 1, 1) := by decide +kernel
theorem dX7_bitFor_17 : decode cX7_bitFor 17 = .ok (.isub, 1) := by decide +kernel
theorem dX7_bitFor_18 : decode cX7_bitFor 18 = .ok (.bipush 6, 2) := by decide +kernel
theorem dX7_bitFor_20 : decode cX7_bitFor 20 = .ok (.irem, 1) := by decide +kernel
theorem dX7_bitFor_21 : decode cX7_bitFor 21 = .ok (.ishr, 1) := by decide +kernel
theorem dX7_bitFor_22 : decode cX7_bitFor 22 = .ok (.iconst 1, 1) := by decide +kernel
theorem dX7_bitFor_23 : decode cX7_bitFor 23 = .ok (.iand, 1) := by decide +kernel
theorem dX7_bitFor_24 : decode cX7_bitFor 24 = .ok (.istore_n 3, 1) := by decide +kernel
theorem dX7_bitFor_25 : decode cX7_bitFor 25 = .ok (.iconst 4, 1) := by decide +kernel
theorem dX7_bitFor_26 : decode cX7_bitFor 26 = .ok (.iload_n 2, 1) := by decide +kernel
theorem dX7_bitFor_27 : decode cX7_bitFor 27 = .ok (.imul, 1) := by decide +kernel
theorem dX7_bitFor_28 : decode cX7_bitFor 28 = .ok (.iconst 2, 1) := by decide +kernel
theorem dX7_bitFor_29 : decode cX7_bitFor 29 = .ok (.iload_n 0, 1) := by decide +kernel
theorem dX7_bitFor_30 : decode cX7_bitFor 30 = .ok (.iload_n 1, 1) := by decide +kernel
theorem dX7_bitFor_31 : decode cX7_bitFor 31 = .ok (.ishr, 1) := by decide +kernel
theorem dX7_bitFor_32 : decode cX7_bitFor 32 = .ok (.iconst 1, 1) := by decide +kernel
theorem dX7_bitFor_33 : decode cX7_bitFor 33 = .ok (.iand, 1) := by decide +kernel
theorem dX7_bitFor_34 : decode cX7_bitFor 34 = .ok (.imul, 1) := by decide +kernel
theorem dX7_bitFor_35 : decode cX7_bitFor 35 = .ok (.iadd, 1) := by decide +kernel
theorem dX7_bitFor_36 : decode cX7_bitFor 36 = .ok (.iload_n 3, 1) := by decide +kernel
theorem dX7_bitFor_37 : decode cX7_bitFor 37 = .ok (.iadd, 1) := by decide +kernel
theorem dX7_bitFor_38 : decode cX7_bitFor 38 = .ok (.ireturn, 1) := by decide +kernel
theorem dX7_takeLaw_0 : decode cX7_takeLaw 0 = .ok (.aload_n 0, 1) := by decide +kernel
theorem dX7_takeLaw_1 : decode cX7_takeLaw 1 = .ok (.iload_n 1, 1) := by decide +kernel
theorem dX7_takeLaw_2 : decode cX7_takeLaw 2 = .ok (.putfield 111, 3) := by decide +kernel
theorem dX7_takeLaw_5 : decode cX7_takeLaw 5 = .ok (.iconst 0, 1) := by decide +kernel
theorem dX7_takeLaw_6 : decode cX7_takeLaw 6 = .ok (.istore_n 2, 1) := by decide +kernel
theorem dX7_takeLaw_7 : decode cX7_takeLaw 7 = .ok (.iload_n 2, 1) := by decide +kernel
theorem dX7_takeLaw_8 : decode cX7_takeLaw 8 = .ok (.bipush 64, 2) := by decide +kernel
theorem dX7_takeLaw_10 : decode cX7_takeLaw 10 = .ok (.if_icmp .ge 53, 3) := by decide +kernel
theorem dX7_takeLaw_13 : decode cX7_takeLaw 13 = .ok (.aload_n 0, 1) := by decide +kernel
theorem dX7_takeLaw_14 : decode cX7_takeLaw 14 = .ok (.getfield 19, 3) := by decide +kernel
theorem dX7_takeLaw_17 : decode cX7_takeLaw 17 = .ok (.iload_n 2, 1) := by decide +kernel
theorem dX7_takeLaw_18 : decode cX7_takeLaw 18 = .ok (.iconst 0, 1) := by decide +kernel
theorem dX7_takeLaw_19 : decode cX7_takeLaw 19 = .ok (.iastore, 1) := by decide +kernel
theorem dX7_takeLaw_20 : decode cX7_takeLaw 20 = .ok (.iconst 0, 1) := by decide +kernel
theorem dX7_takeLaw_21 : decode cX7_takeLaw 21 = .ok (.istore_n 3, 1) := by decide +kernel
theorem dX7_takeLaw_22 : decode cX7_takeLaw 22 = .ok (.iload_n 3, 1) := by decide +kernel
theorem dX7_takeLaw_23 : decode cX7_takeLaw 23 = .ok (.bipush 6, 2) := by decide +kernel
theorem dX7_takeLaw_25 : decode cX7_takeLaw 25 = .ok (.if_icmp .ge 32, 3) := by decide +kernel
theorem dX7_takeLaw_28 : decode cX7_takeLaw 28 = .ok (.aload_n 0, 1) := by decide +kernel
theorem dX7_takeLaw_29 : decode cX7_takeLaw 29 = .ok (.getfield 19, 3) := by decide +kernel
theorem dX7_takeLaw_32 : decode cX7_takeLaw 32 = .ok (.iload_n 2, 1) := by decide +kernel
theorem dX7_takeLaw_33 : decode cX7_takeLaw 33 = .ok (.dup2, 1) := by decide +kernel
theorem dX7_takeLaw_34 : decode cX7_takeLaw 34 = .ok (.iaload, 1) := by decide +kernel
theorem dX7_takeLaw_35 : decode cX7_takeLaw 35 = .ok (.aload_n 0, 1) := by decide +kernel
theorem dX7_takeLaw_36 : decode cX7_takeLaw 36 = .ok (.getfield 111, 3) := by decide +kernel
theorem dX7_takeLaw_39 : decode cX7_takeLaw 39 = .ok (.iload_n 2, 1) := by decide +kernel
theorem dX7_takeLaw_40 : decode cX7_takeLaw 40 = .ok (.iload_n 3, 1) := by decide +kernel
theorem dX7_takeLaw_41 : decode cX7_takeLaw 41 = .ok (.invokestatic 114, 3) := by decide +kernel
theorem dX7_takeLaw_44 : decode cX7_takeLaw 44 = .ok (.ishr, 1) := by decide +kernel
theorem dX7_takeLaw_45 : decode cX7_takeLaw 45 = .ok (.iconst 1, 1) := by decide +kernel
theorem dX7_takeLaw_46 : decode cX7_takeLaw 46 = .ok (.iand, 1) := by decide +kernel
theorem dX7_takeLaw_47 : decode cX7_takeLaw 47 = .ok (.iload_n 3, 1) := by decide +kernel
theorem dX7_takeLaw_48 : decode cX7_takeLaw 48 = .ok (.ishl, 1) := by decide +kernel
theorem dX7_takeLaw_49 : decode cX7_takeLaw 49 = .ok (.ior, 1) := by decide +kernel
theorem dX7_takeLaw_50 : decode cX7_takeLaw 50 = .ok (.iastore, 1) := by decide +kernel
theorem dX7_takeLaw_51 : decode cX7_takeLaw 51 = .ok (.iinc 3 1, 3) := by decide +kernel
theorem dX7_takeLaw_54 : decode cX7_takeLaw 54 = .ok (.goto (-32), 3) := by decide +kernel
theorem dX7_takeLaw_57 : decode cX7_takeLaw 57 = .ok (.iinc 2 1, 3) := by decide +kernel
theorem dX7_takeLaw_60 : decode cX7_takeLaw 60 = .ok (.goto (-53), 3) := by decide +kernel
theorem dX7_takeLaw_63 : decode cX7_takeLaw 63 = .ok (.return_, 1) := by decide +kernel
theorem dX7_readGarden_0 : decode cX7_readGarden 0 = .ok (.aload_n 0, 1) := by decide +kernel
theorem dX7_readGarden_1 : decode cX7_readGarden 1 = .ok (.iconst 0, 1) := by decide +kernel
theorem dX7_readGarden_2 : decode cX7_readGarden 2 = .ok (.putfield 99, 3) := by decide +kernel
theorem dX7_readGarden_5 : decode cX7_readGarden 5 = .ok (.aload_n 0, 1) := by decide +kernel
theorem dX7_readGarden_6 : decode cX7_readGarden 6 = .ok (.iload_n 1, 1) := by decide +kernel
theorem dX7_readGarden_7 : decode cX7_readGarden 7 = .ok (.bipush 103, 2) := by decide +kernel
theorem dX7_readGarden_9 : decode cX7_readGarden 9 = .ok (.invokevirtual 118, 3) := by decide +kernel
theorem dX7_readGarden_12 : decode cX7_readGarden 12 = .ok (.ifCond .eq 11, 3) := by decide +kernel
theorem dX7_readGarden_15 : decode cX7_readGarden 15 = .ok (.aload_n 0, 1) := by decide +kernel
theorem dX7_readGarden_16 : decode cX7_readGarden 16 = .ok (.iload_n 1, 1) := by decide +kernel
theorem dX7_readGarden_17 : decode cX7_readGarden 17 = .ok (.invokevirtual 122, 3) := by decide +kernel
theorem dX7_readGarden_20 : decode cX7_readGarden 20 = .ok (.ifCond .ne 5, 3) := by decide +kernel
theorem dX7_readGarden_23 : decode cX7_readGarden 23 = .ok (.iconst 0, 1) := by decide +kernel
theorem dX7_readGarden_24 : decode cX7_readGarden 24 = .ok (.ireturn, 1) := by decide +kernel
theorem dX7_readGarden_25 : decode cX7_readGarden 25 = .ok (.aload_n 0, 1) := by decide +kernel
theorem dX7_readGarden_26 : decode cX7_readGarden 26 = .ok (.getfield 99, 3) := by decide +kernel
theorem dX7_readGarden_29 : decode cX7_readGarden 29 = .ok (.ifCond .eq 20, 3) := by decide +kernel
theorem dX7_readGarden_32 : decode cX7_readGarden 32 = .ok (.aload_n 0, 1) := by decide +kernel
theorem dX7_readGarden_33 : decode cX7_readGarden 33 = .ok (.getfield 99, 3) := by decide +kernel
theorem dX7_readGarden_36 : decode cX7_readGarden 36 = .ok (.bipush 6, 2) := by decide +kernel
theorem dX7_readGarden_38 : decode cX7_readGarden 38 = .ok (.if_icmp .ge 31, 3) := by decide +kernel
theorem dX7_readGarden_41 : decode cX7_readGarden 41 = .ok (.aload_n 0, 1) := by decide +kernel
theorem dX7_readGarden_42 : decode cX7_readGarden 42 = .ok (.getfield 68, 3) := by decide +kernel
theorem dX7_readGarden_45 : decode cX7_readGarden 45 = .ok (.iload_n 1, 1) := by decide +kernel
theorem dX7_readGarden_46 : decode cX7_readGarden 46 = .ok (.if_icmp .ge 23, 3) := by decide +kernel
theorem dX7_readGarden_49 : decode cX7_readGarden 49 = .ok (.aload_n 0, 1) := by decide +kernel
theorem dX7_readGarden_50 : decode cX7_readGarden 50 = .ok (.iload_n 1, 1) := by decide +kernel
theorem dX7_readGarden_51 : decode cX7_readGarden 51 = .ok (.bipush 59, 2) := by decide +kernel
theorem dX7_readGarden_53 : decode cX7_readGarden 53 = .ok (.invokevirtual 118, 3) := by decide +kernel
theorem dX7_readGarden_56 : decode cX7_readGarden 56 = .ok (.ifCond .eq 11, 3) := by decide +kernel
theorem dX7_readGarden_59 : decode cX7_readGarden 59 = .ok (.aload_n 0, 1) := by decide +kernel
theorem dX7_readGarden_60 : decode cX7_readGarden 60 = .ok (.iload_n 1, 1) := by decide +kernel
theorem dX7_readGarden_61 : decode cX7_readGarden 61 = .ok (.invokevirtual 125, 3) := by decide +kernel
theorem dX7_readGarden_64 : decode cX7_readGarden 64 = .ok (.ifCond .ne (-39), 3) := by decide +kernel
theorem dX7_readGarden_67 : decode cX7_readGarden 67 = .ok (.iconst 0, 1) := by decide +kernel
theorem dX7_readGarden_68 : decode cX7_readGarden 68 = .ok (.ireturn, 1) := by decide +kernel
theorem dX7_readGarden_69 : decode cX7_readGarden 69 = .ok (.aload_n 0, 1) := by decide +kernel
theorem dX7_readGarden_70 : decode cX7_readGarden 70 = .ok (.getfield 68, 3) := by decide +kernel
theorem dX7_readGarden_73 : decode cX7_readGarden 73 = .ok (.iload_n 1, 1) := by decide +kernel
theorem dX7_readGarden_74 : decode cX7_readGarden 74 = .ok (.if_icmp .ne 7, 3) := by decide +kernel
theorem dX7_readGarden_77 : decode cX7_readGarden 77 = .ok (.iconst 1, 1) := by decide +kernel
theorem dX7_readGarden_78 : decode cX7_readGarden 78 = .ok (.goto 4, 3) := by decide +kernel
theorem dX7_readGarden_81 : decode cX7_readGarden 81 = .ok (.iconst 0, 1) := by decide +kernel
theorem dX7_readGarden_82 : decode cX7_readGarden 82 = .ok (.ireturn, 1) := by decide +kernel
theorem dX7_readTheLaw_0 : decode cX7_readTheLaw 0 = .ok (.aload_n 0, 1) := by decide +kernel
theorem dX7_readTheLaw_1 : decode cX7_readTheLaw 1 = .ok (.iload_n 1, 1) := by decide +kernel
theorem dX7_readTheLaw_2 : decode cX7_readTheLaw 2 = .ok (.iconst 0, 1) := by decide +kernel
theorem dX7_readTheLaw_3 : decode cX7_readTheLaw 3 = .ok (.iconst 2, 1) := by decide +kernel
theorem dX7_readTheLaw_4 : decode cX7_readTheLaw 4 = .ok (.invokevirtual 128, 3) := by decide +kernel
theorem dX7_readTheLaw_7 : decode cX7_readTheLaw 7 = .ok (.istore_n 2, 1) := by decide +kernel
theorem dX7_readTheLaw_8 : decode cX7_readTheLaw 8 = .ok (.iload_n 2, 1) := by decide +kernel
theorem dX7_readTheLaw_9 : decode cX7_readTheLaw 9 = .ok (.bipush (-9), 2) := by decide +kernel
theorem dX7_readTheLaw_11 : decode cX7_readTheLaw 11 = .ok (.if_icmp .ne 5, 3) := by decide +kernel
theorem dX7_readTheLaw_14 : decode cX7_readTheLaw 14 = .ok (.iconst 0, 1) := by decide +kernel
theorem dX7_readTheLaw_15 : decode cX7_readTheLaw 15 = .ok (.ireturn, 1) := by decide +kernel
theorem dX7_readTheLaw_16 : decode cX7_readTheLaw 16 = .ok (.aload_n 0, 1) := by decide +kernel
theorem dX7_readTheLaw_17 : decode cX7_readTheLaw 17 = .ok (.iload_n 1, 1) := by decide +kernel
theorem dX7_readTheLaw_18 : decode cX7_readTheLaw 18 = .ok (.iconst 0, 1) := by decide +kernel
theorem dX7_readTheLaw_19 : decode cX7_readTheLaw 19 = .ok (.iload_n 2, 1) := by decide +kernel
theorem dX7_readTheLaw_20 : decode cX7_readTheLaw 20 = .ok (.iconst 2, 1) := by decide +kernel
theorem dX7_readTheLaw_21 : decode cX7_readTheLaw 21 = .ok (.if_icmp .ne 7, 3) := by decide +kernel
theorem dX7_readTheLaw_24 : decode cX7_readTheLaw 24 = .ok (.iconst 5, 1) := by decide +kernel
theorem dX7_readTheLaw_25 : decode cX7_readTheLaw 25 = .ok (.goto 5, 3) := by decide +kernel
theorem dX7_readTheLaw_28 : decode cX7_readTheLaw 28 = .ok (.bipush 9, 2) := by decide +kernel
theorem dX7_readTheLaw_30 : decode cX7_readTheLaw 30 = .ok (.invokevirtual 128, 3) := by decide +kernel
theorem dX7_readTheLaw_33 : decode cX7_readTheLaw 33 = .ok (.istore_n 3, 1) := by decide +kernel
theorem dX7_readTheLaw_34 : decode cX7_readTheLaw 34 = .ok (.iload_n 3, 1) := by decide +kernel
theorem dX7_readTheLaw_35 : decode cX7_readTheLaw 35 = .ok (.bipush (-9), 2) := by decide +kernel
theorem dX7_readTheLaw_37 : decode cX7_readTheLaw 37 = .ok (.if_icmp .ne 5, 3) := by decide +kernel
theorem dX7_readTheLaw_40 : decode cX7_readTheLaw 40 = .ok (.iconst 0, 1) := by decide +kernel
theorem dX7_readTheLaw_41 : decode cX7_readTheLaw 41 = .ok (.ireturn, 1) := by decide +kernel
theorem dX7_readTheLaw_42 : decode cX7_readTheLaw 42 = .ok (.aload_n 0, 1) := by decide +kernel
theorem dX7_readTheLaw_43 : decode cX7_readTheLaw 43 = .ok (.iload_n 1, 1) := by decide +kernel
theorem dX7_readTheLaw_44 : decode cX7_readTheLaw 44 = .ok (.iconst 0, 1) := by decide +kernel
theorem dX7_readTheLaw_45 : decode cX7_readTheLaw 45 = .ok (.iload_n 2, 1) := by decide +kernel
theorem dX7_readTheLaw_46 : decode cX7_readTheLaw 46 = .ok (.iconst 2, 1) := by decide +kernel
theorem dX7_readTheLaw_47 : decode cX7_readTheLaw 47 = .ok (.if_icmp .ne 12, 3) := by decide +kernel
theorem dX7_readTheLaw_50 : decode cX7_readTheLaw 50 = .ok (.iload_n 3, 1) := by decide +kernel
theorem dX7_readTheLaw_51 : decode cX7_readTheLaw 51 = .ok (.iconst 5, 1) := by decide +kernel
theorem dX7_readTheLaw_52 : decode cX7_readTheLaw 52 = .ok (.if_icmp .ne 7, 3) := by decide +kernel
theorem dX7_readTheLaw_55 : decode cX7_readTheLaw 55 = .ok (.iconst 5, 1) := by decide +kernel
theorem dX7_readTheLaw_56 : decode cX7_readTheLaw 56 = .ok (.goto 5, 3) := by decide +kernel
theorem dX7_readTheLaw_59 : decode cX7_readTheLaw 59 = .ok (.bipush 9, 2) := by decide +kernel
theorem dX7_readTheLaw_61 : decode cX7_readTheLaw 61 = .ok (.invokevirtual 128, 3) := by decide +kernel
theorem dX7_readTheLaw_64 : decode cX7_readTheLaw 64 = .ok (.istore 4, 2) := by decide +kernel
theorem dX7_readTheLaw_66 : decode cX7_readTheLaw 66 = .ok (.aload_n 0, 1) := by decide +kernel
theorem dX7_readTheLaw_67 : decode cX7_readTheLaw 67 = .ok (.bipush 100, 2) := by decide +kernel
theorem dX7_readTheLaw_69 : decode cX7_readTheLaw 69 = .ok (.iload_n 2, 1) := by decide +kernel
theorem dX7_readTheLaw_70 : decode cX7_readTheLaw 70 = .ok (.imul, 1) := by decide +kernel
theorem dX7_readTheLaw_71 : decode cX7_readTheLaw 71 = .ok (.bipush 10, 2) := by decide +kernel
theorem dX7_readTheLaw_73 : decode cX7_readTheLaw 73 = .ok (.iload_n 3, 1) := by decide +kernel
theorem dX7_readTheLaw_74 : decode cX7_readTheLaw 74 = .ok (.imul, 1) := by decide +kernel
theorem dX7_readTheLaw_75 : decode cX7_readTheLaw 75 = .ok (.iadd, 1) := by decide +kernel
theorem dX7_readTheLaw_76 : decode cX7_readTheLaw 76 = .ok (.iload 4, 2) := by decide +kernel
theorem dX7_readTheLaw_78 : decode cX7_readTheLaw 78 = .ok (.iadd, 1) := by decide +kernel
theorem dX7_readTheLaw_79 : decode cX7_readTheLaw 79 = .ok (.putfield 92, 3) := by decide +kernel
theorem dX7_readTheLaw_82 : decode cX7_readTheLaw 82 = .ok (.iload 4, 2) := by decide +kernel
theorem dX7_readTheLaw_84 : decode cX7_readTheLaw 84 = .ok (.bipush (-9), 2) := by decide +kernel
theorem dX7_readTheLaw_86 : decode cX7_readTheLaw 86 = .ok (.if_icmp .eq 7, 3) := by decide +kernel
theorem dX7_readTheLaw_89 : decode cX7_readTheLaw 89 = .ok (.iconst 1, 1) := by decide +kernel
theorem dX7_readTheLaw_90 : decode cX7_readTheLaw 90 = .ok (.goto 4, 3) := by decide +kernel
theorem dX7_readTheLaw_93 : decode cX7_readTheLaw 93 = .ok (.iconst 0, 1) := by decide +kernel
theorem dX7_readTheLaw_94 : decode cX7_readTheLaw 94 = .ok (.ireturn, 1) := by decide +kernel
theorem dX7_readBlock_0 : decode cX7_readBlock 0 = .ok (.aload_n 0, 1) := by decide +kernel
theorem dX7_readBlock_1 : decode cX7_readBlock 1 = .ok (.getfield 68, 3) := by decide +kernel
theorem dX7_readBlock_4 : decode cX7_readBlock 4 = .ok (.iload_n 1, 1) := by decide +kernel
theorem dX7_readBlock_5 : decode cX7_readBlock 5 = .ok (.if_icmp .ge 15, 3) := by decide +kernel
theorem dX7_readBlock_8 : decode cX7_readBlock 8 = .ok (.aload_n 0, 1) := by decide +kernel
theorem dX7_readBlock_9 : decode cX7_readBlock 9 = .ok (.getfield 16, 3) := by decide +kernel
theorem dX7_readBlock_12 : decode cX7_readBlock 12 = .ok (.aload_n 0, 1) := by decide +kernel
theorem dX7_readBlock_13 : decode cX7_readBlock 13 = .ok (.getfield 68, 3) := by decide +kernel
theorem dX7_readBlock_16 : decode cX7_readBlock 16 = .ok (.iaload, 1) := by decide +kernel
theorem dX7_readBlock_17 : decode cX7_readBlock 17 = .ok (.goto 4, 3) := by decide +kernel
theorem dX7_readBlock_20 : decode cX7_readBlock 20 = .ok (.iconst 0, 1) := by decide +kernel
theorem dX7_readBlock_21 : decode cX7_readBlock 21 = .ok (.istore_n 2, 1) := by decide +kernel
theorem dX7_readBlock_22 : decode cX7_readBlock 22 = .ok (.iconst 3, 1) := by decide +kernel
theorem dX7_readBlock_23 : decode cX7_readBlock 23 = .ok (.aload_n 0, 1) := by decide +kernel
theorem dX7_readBlock_24 : decode cX7_readBlock 24 = .ok (.getfield 99, 3) := by decide +kernel
theorem dX7_readBlock_27 : decode cX7_readBlock 27 = .ok (.imul, 1) := by decide +kernel
theorem dX7_readBlock_28 : decode cX7_readBlock 28 = .ok (.istore_n 3, 1) := by decide +kernel
theorem dX7_readBlock_29 : decode cX7_readBlock 29 = .ok (.aload_n 0, 1) := by decide +kernel
theorem dX7_readBlock_30 : decode cX7_readBlock 30 = .ok (.getfield 31, 3) := by decide +kernel
theorem dX7_readBlock_33 : decode cX7_readBlock 33 = .ok (.iload_n 3, 1) := by decide +kernel
theorem dX7_readBlock_34 : decode cX7_readBlock 34 = .ok (.iload_n 2, 1) := by decide +kernel
theorem dX7_readBlock_35 : decode cX7_readBlock 35 = .ok (.bipush 98, 2) := by decide +kernel
theorem dX7_readBlock_37 : decode cX7_readBlock 37 = .ok (.if_icmp .ne 7, 3) := by decide +kernel
theorem dX7_readBlock_40 : decode cX7_readBlock 40 = .ok (.iconst 0, 1) := by decide +kernel
theorem dX7_readBlock_41 : decode cX7_readBlock 41 = .ok (.goto 25, 3) := by decide +kernel
theorem dX7_readBlock_44 : decode cX7_readBlock 44 = .ok (.iload_n 2, 1) := by decide +kernel
theorem dX7_readBlock_45 : decode cX7_readBlock 45 = .ok (.bipush 110, 2) := by decide +kernel
theorem dX7_readBlock_47 : decode cX7_readBlock 47 = .ok (.if_icmp .ne 7, 3) := by decide +kernel
theorem dX7_readBlock_50 : decode cX7_readBlock 50 = .ok (.iconst 1, 1) := by decide +kernel
theorem dX7_readBlock_51 : decode cX7_readBlock 51 = .ok (.goto 15, 3) := by decide +kernel
theorem dX7_readBlock_54 : decode cX7_readBlock 54 = .ok (.iload_n 2, 1) := by decide +kernel
theorem dX7_readBlock_55 : decode cX7_readBlock 55 = .ok (.bipush 104, 2) := by decide +kernel
theorem dX7_readBlock_57 : decode cX7_readBlock 57 = .ok (.if_icmp .ne 7, 3) := by decide +kernel
theorem dX7_readBlock_60 : decode cX7_readBlock 60 = .ok (.iconst 2, 1) := by decide +kernel
theorem dX7_readBlock_61 : decode cX7_readBlock 61 = .ok (.goto 5, 3) := by decide +kernel
theorem dX7_readBlock_64 : decode cX7_readBlock 64 = .ok (.bipush (-9), 2) := by decide +kernel
theorem dX7_readBlock_66 : decode cX7_readBlock 66 = .ok (.iastore, 1) := by decide +kernel
theorem dX7_readBlock_67 : decode cX7_readBlock 67 = .ok (.aload_n 0, 1) := by decide +kernel
theorem dX7_readBlock_68 : decode cX7_readBlock 68 = .ok (.getfield 31, 3) := by decide +kernel
theorem dX7_readBlock_71 : decode cX7_readBlock 71 = .ok (.iload_n 3, 1) := by decide +kernel
theorem dX7_readBlock_72 : decode cX7_readBlock 72 = .ok (.iaload, 1) := by decide +kernel
theorem dX7_readBlock_73 : decode cX7_readBlock 73 = .ok (.bipush (-9), 2) := by decide +kernel
theorem dX7_readBlock_75 : decode cX7_readBlock 75 = .ok (.if_icmp .ne 5, 3) := by decide +kernel
theorem dX7_readBlock_78 : decode cX7_readBlock 78 = .ok (.iconst 0, 1) := by decide +kernel
theorem dX7_readBlock_79 : decode cX7_readBlock 79 = .ok (.ireturn, 1) := by decide +kernel
theorem dX7_readBlock_80 : decode cX7_readBlock 80 = .ok (.aload_n 0, 1) := by decide +kernel
theorem dX7_readBlock_81 : decode cX7_readBlock 81 = .ok (.dup, 1) := by decide +kernel
theorem dX7_readBlock_82 : decode cX7_readBlock 82 = .ok (.getfield 68, 3) := by decide +kernel
theorem dX7_readBlock_85 : decode cX7_readBlock 85 = .ok (.iconst 1, 1) := by decide +kernel
theorem dX7_readBlock_86 : decode cX7_readBlock 86 = .ok (.iadd, 1) := by decide +kernel
theorem dX7_readBlock_87 : decode cX7_readBlock 87 = .ok (.putfield 68, 3) := by decide +kernel
theorem dX7_readBlock_90 : decode cX7_readBlock 90 = .ok (.aload_n 0, 1) := by decide +kernel
theorem dX7_readBlock_91 : decode cX7_readBlock 91 = .ok (.iload_n 1, 1) := by decide +kernel
theorem dX7_readBlock_92 : decode cX7_readBlock 92 = .ok (.iconst 0, 1) := by decide +kernel
theorem dX7_readBlock_93 : decode cX7_readBlock 93 = .ok (.bipush 7, 2) := by decide +kernel
theorem dX7_readBlock_95 : decode cX7_readBlock 95 = .ok (.invokevirtual 128, 3) := by decide +kernel
theorem dX7_readBlock_98 : decode cX7_readBlock 98 = .ok (.istore 4, 2) := by decide +kernel
theorem dX7_readBlock_100 : decode cX7_readBlock 100 = .ok (.iload 4, 2) := by decide +kernel
theorem dX7_readBlock_102 : decode cX7_readBlock 102 = .ok (.bipush (-9), 2) := by decide +kernel
theorem dX7_readBlock_104 : decode cX7_readBlock 104 = .ok (.if_icmp .ne 5, 3) := by decide +kernel
theorem dX7_readBlock_107 : decode cX7_readBlock 107 = .ok (.iconst 0, 1) := by decide +kernel
theorem dX7_readBlock_108 : decode cX7_readBlock 108 = .ok (.ireturn, 1) := by decide +kernel
theorem dX7_readBlock_109 : decode cX7_readBlock 109 = .ok (.aload_n 0, 1) := by decide +kernel
theorem dX7_readBlock_110 : decode cX7_readBlock 110 = .ok (.iload_n 1, 1) := by decide +kernel
theorem dX7_readBlock_111 : decode cX7_readBlock 111 = .ok (.iconst 0, 1) := by decide +kernel
theorem dX7_readBlock_112 : decode cX7_readBlock 112 = .ok (.bipush 7, 2) := by decide +kernel
theorem dX7_readBlock_114 : decode cX7_readBlock 114 = .ok (.invokevirtual 128, 3) := by decide +kernel
theorem dX7_readBlock_117 : decode cX7_readBlock 117 = .ok (.istore 5, 2) := by decide +kernel
theorem dX7_readBlock_119 : decode cX7_readBlock 119 = .ok (.iload 5, 2) := by decide +kernel
theorem dX7_readBlock_121 : decode cX7_readBlock 121 = .ok (.bipush (-9), 2) := by decide +kernel
theorem dX7_readBlock_123 : decode cX7_readBlock 123 = .ok (.if_icmp .ne 5, 3) := by decide +kernel
theorem dX7_readBlock_126 : decode cX7_readBlock 126 = .ok (.iconst 0, 1) := by decide +kernel
theorem dX7_readBlock_127 : decode cX7_readBlock 127 = .ok (.ireturn, 1) := by decide +kernel
theorem dX7_readBlock_128 : decode cX7_readBlock 128 = .ok (.aload_n 0, 1) := by decide +kernel
theorem dX7_readBlock_129 : decode cX7_readBlock 129 = .ok (.getfield 31, 3) := by decide +kernel
theorem dX7_readBlock_132 : decode cX7_readBlock 132 = .ok (.iload_n 3, 1) := by decide +kernel
theorem dX7_readBlock_133 : decode cX7_readBlock 133 = .ok (.iconst 1, 1) := by decide +kernel
theorem dX7_readBlock_134 : decode cX7_readBlock 134 = .ok (.iadd, 1) := by decide +kernel
theorem dX7_readBlock_135 : decode cX7_readBlock 135 = .ok (.bipush 8, 2) := by decide +kernel
theorem dX7_readBlock_137 : decode cX7_readBlock 137 = .ok (.iload 4, 2) := by decide +kernel
theorem dX7_readBlock_139 : decode cX7_readBlock 139 = .ok (.imul, 1) := by decide +kernel
theorem dX7_readBlock_140 : decode cX7_readBlock 140 = .ok (.iload 5, 2) := by decide +kernel
theorem dX7_readBlock_142 : decode cX7_readBlock 142 = .ok (.iadd, 1) := by decide +kernel
theorem dX7_readBlock_143 : decode cX7_readBlock 143 = .ok (.iastore, 1) := by decide +kernel
theorem dX7_readBlock_144 : decode cX7_readBlock 144 = .ok (.aload_n 0, 1) := by decide +kernel
theorem dX7_readBlock_145 : decode cX7_readBlock 145 = .ok (.getfield 31, 3) := by decide +kernel
theorem dX7_readBlock_148 : decode cX7_readBlock 148 = .ok (.iload_n 3, 1) := by decide +kernel
theorem dX7_readBlock_149 : decode cX7_readBlock 149 = .ok (.iconst 2, 1) := by decide +kernel
theorem dX7_readBlock_150 : decode cX7_readBlock 150 = .ok (.iadd, 1) := by decide +kernel
theorem dX7_readBlock_151 : decode cX7_readBlock 151 = .ok (.aload_n 0, 1) := by decide +kernel
theorem dX7_readBlock_152 : decode cX7_readBlock 152 = .ok (.iload_n 1, 1) := by decide +kernel
theorem dX7_readBlock_153 : decode cX7_readBlock 153 = .ok (.iconst 1, 1) := by decide +kernel
theorem dX7_readBlock_154 : decode cX7_readBlock 154 = .ok (.iconst 4, 1) := by decide +kernel
theorem dX7_readBlock_155 : decode cX7_readBlock 155 = .ok (.invokevirtual 128, 3) := by decide +kernel
theorem dX7_readBlock_158 : decode cX7_readBlock 158 = .ok (.iastore, 1) := by decide +kernel
theorem dX7_readBlock_159 : decode cX7_readBlock 159 = .ok (.aload_n 0, 1) := by decide +kernel
theorem dX7_readBlock_160 : decode cX7_readBlock 160 = .ok (.dup, 1) := by decide +kernel
theorem dX7_readBlock_161 : decode cX7_readBlock 161 = .ok (.getfield 99, 3) := by decide +kernel
theorem dX7_readBlock_164 : decode cX7_readBlock 164 = .ok (.iconst 1, 1) := by decide +kernel
theorem dX7_readBlock_165 : decode cX7_readBlock 165 = .ok (.iadd, 1) := by decide +kernel
theorem dX7_readBlock_166 : decode cX7_readBlock 166 = .ok (.putfield 99, 3) := by decide +kernel
theorem dX7_readBlock_169 : decode cX7_readBlock 169 = .ok (.aload_n 0, 1) := by decide +kernel
theorem dX7_readBlock_170 : decode cX7_readBlock 170 = .ok (.getfield 31, 3) := by decide +kernel
theorem dX7_readBlock_173 : decode cX7_readBlock 173 = .ok (.iload_n 3, 1) := by decide +kernel
theorem dX7_readBlock_174 : decode cX7_readBlock 174 = .ok (.iconst 2, 1) := by decide +kernel
theorem dX7_readBlock_175 : decode cX7_readBlock 175 = .ok (.iadd, 1) := by decide +kernel
theorem dX7_readBlock_176 : decode cX7_readBlock 176 = .ok (.iaload, 1) := by decide +kernel
theorem dX7_readBlock_177 : decode cX7_readBlock 177 = .ok (.bipush (-9), 2) := by decide +kernel
theorem dX7_readBlock_179 : decode cX7_readBlock 179 = .ok (.if_icmp .eq 7, 3) := by decide +kernel
theorem dX7_readBlock_182 : decode cX7_readBlock 182 = .ok (.iconst 1, 1) := by decide +kernel
theorem dX7_readBlock_183 : decode cX7_readBlock 183 = .ok (.goto 4, 3) := by decide +kernel
theorem dX7_readBlock_186 : decode cX7_readBlock 186 = .ok (.iconst 0, 1) := by decide +kernel
theorem dX7_readBlock_187 : decode cX7_readBlock 187 = .ok (.ireturn, 1) := by decide +kernel
theorem dX7_goesOf_0 : decode cX7_goesOf 0 = .ok (.aload_n 0, 1) := by decide +kernel
theorem dX7_goesOf_1 : decode cX7_goesOf 1 = .ok (.getfield 22, 3) := by decide +kernel
theorem dX7_goesOf_4 : decode cX7_goesOf 4 = .ok (.iload_n 1, 1) := by decide +kernel
theorem dX7_goesOf_5 : decode cX7_goesOf 5 = .ok (.iaload, 1) := by decide +kernel
theorem dX7_goesOf_6 : decode cX7_goesOf 6 = .ok (.ifCond .ne 12, 3) := by decide +kernel
theorem dX7_goesOf_9 : decode cX7_goesOf 9 = .ok (.aload_n 0, 1) := by decide +kernel
theorem dX7_goesOf_10 : decode cX7_goesOf 10 = .ok (.getfield 28, 3) := by decide +kernel
theorem dX7_goesOf_13 : decode cX7_goesOf 13 = .ok (.iload_n 1, 1) := by decide +kernel
theorem dX7_goesOf_14 : decode cX7_goesOf 14 = .ok (.iaload, 1) := by decide +kernel
theorem dX7_goesOf_15 : decode cX7_goesOf 15 = .ok (.goto 32, 3) := by decide +kernel
theorem dX7_goesOf_18 : decode cX7_goesOf 18 = .ok (.aload_n 0, 1) := by decide +kernel
theorem dX7_goesOf_19 : decode cX7_goesOf 19 = .ok (.getfield 22, 3) := by decide +kernel
theorem dX7_goesOf_22 : decode cX7_goesOf 22 = .ok (.iload_n 1, 1) := by decide +kernel
theorem dX7_goesOf_23 : decode cX7_goesOf 23 = .ok (.iaload, 1) := by decide +kernel
theorem dX7_goesOf_24 : decode cX7_goesOf 24 = .ok (.iconst 1, 1) := by decide +kernel
theorem dX7_goesOf_25 : decode cX7_goesOf 25 = .ok (.if_icmp .ne 14, 3) := by decide +kernel
theorem dX7_goesOf_28 : decode cX7_goesOf 28 = .ok (.aload_n 0, 1) := by decide +kernel
theorem dX7_goesOf_29 : decode cX7_goesOf 29 = .ok (.getfield 28, 3) := by decide +kernel
theorem dX7_goesOf_32 : decode cX7_goesOf 32 = .ok (.iload_n 1, 1) := by decide +kernel
theorem dX7_goesOf_33 : decode cX7_goesOf 33 = .ok (.iaload, 1) := by decide +kernel
theorem dX7_goesOf_34 : decode cX7_goesOf 34 = .ok (.iconst 1, 1) := by decide +kernel
theorem dX7_goesOf_35 : decode cX7_goesOf 35 = .ok (.iadd, 1) := by decide +kernel
theorem dX7_goesOf_36 : decode cX7_goesOf 36 = .ok (.goto 11, 3) := by decide +kernel
theorem dX7_goesOf_39 : decode cX7_goesOf 39 = .ok (.iconst 2, 1) := by decide +kernel
theorem dX7_goesOf_40 : decode cX7_goesOf 40 = .ok (.aload_n 0, 1) := by decide +kernel
theorem dX7_goesOf_41 : decode cX7_goesOf 41 = .ok (.getfield 28, 3) := by decide +kernel
theorem dX7_goesOf_44 : decode cX7_goesOf 44 = .ok (.iload_n 1, 1) := by decide +kernel
theorem dX7_goesOf_45 : decode cX7_goesOf 45 = .ok (.iaload, 1) := by decide +kernel
theorem dX7_goesOf_46 : decode cX7_goesOf 46 = .ok (.imul, 1) := by decide +kernel
theorem dX7_goesOf_47 : decode cX7_goesOf 47 = .ok (.ireturn, 1) := by decide +kernel
theorem dX7_stepsOn_0 : decode cX7_stepsOn 0 = .ok (.iload_n 1, 1) := by decide +kernel
theorem dX7_stepsOn_1 : decode cX7_stepsOn 1 = .ok (.istore_n 3, 1) := by decide +kernel
theorem dX7_stepsOn_2 : decode cX7_stepsOn 2 = .ok (.iconst 0, 1) := by decide +kernel
theorem dX7_stepsOn_3 : decode cX7_stepsOn 3 = .ok (.istore 4, 2) := by decide +kernel
theorem dX7_stepsOn_5 : decode cX7_stepsOn 5 = .ok (.iload 4, 2) := by decide +kernel
theorem dX7_stepsOn_7 : decode cX7_stepsOn 7 = .ok (.iload_n 2, 1) := by decide +kernel
theorem dX7_stepsOn_8 : decode cX7_stepsOn 8 = .ok (.if_icmp .ge 16, 3) := by decide +kernel
theorem dX7_stepsOn_11 : decode cX7_stepsOn 11 = .ok (.aload_n 0, 1) := by decide +kernel
theorem dX7_stepsOn_12 : decode cX7_stepsOn 12 = .ok (.getfield 19, 3) := by decide +kernel
theorem dX7_stepsOn_15 : decode cX7_stepsOn 15 = .ok (.iload_n 3, 1) := by decide +kernel
theorem dX7_stepsOn_16 : decode cX7_stepsOn 16 = .ok (.iaload, 1) := by decide +kernel
theorem dX7_stepsOn_17 : decode cX7_stepsOn 17 = .ok (.istore_n 3, 1) := by decide +kernel
theorem dX7_stepsOn_18 : decode cX7_stepsOn 18 = .ok (.iinc 4 1, 3) := by decide +kernel
theorem dX7_stepsOn_21 : decode cX7_stepsOn 21 = .ok (.goto (-16), 3) := by decide +kernel
theorem dX7_stepsOn_24 : decode cX7_stepsOn 24 = .ok (.iload_n 3, 1) := by decide +kernel
theorem dX7_stepsOn_25 : decode cX7_stepsOn 25 = .ok (.ireturn, 1) := by decide +kernel
theorem dX7_ofBlock_0 : decode cX7_ofBlock 0 = .ok (.aload_n 0, 1) := by decide +kernel
theorem dX7_ofBlock_1 : decode cX7_ofBlock 1 = .ok (.iload_n 1, 1) := by decide +kernel
end
section
theorem dX7_ofBlock_2 : decode cX7_ofBlock 2 = .ok (.invokevirtual 132, 3) := by decide +kernel
theorem dX7_ofBlock_5 : decode cX7_ofBlock 5 = .ok (.ifCond .ne 5, 3) := by decide +kernel
theorem dX7_ofBlock_8 : decode cX7_ofBlock 8 = .ok (.iconst (-1), 1) := by decide +kernel
theorem dX7_ofBlock_9 : decode cX7_ofBlock 9 = .ok (.ireturn, 1) := by decide +kernel
theorem dX7_ofBlock_10 : decode cX7_ofBlock 10 = .ok (.iload_n 2, 1) := by decide +kernel
theorem dX7_ofBlock_11 : decode cX7_ofBlock 11 = .ok (.tableswitch 83 0 5 #[37, 44, 51, 58, 64, 73], 37) := by decide +kernel
theorem dX7_ofBlock_48 : decode cX7_ofBlock 48 = .ok (.aload_n 0, 1) := by decide +kernel
theorem dX7_ofBlock_49 : decode cX7_ofBlock 49 = .ok (.getfield 22, 3) := by decide +kernel
theorem dX7_ofBlock_52 : decode cX7_ofBlock 52 = .ok (.iload_n 1, 1) := by decide +kernel
theorem dX7_ofBlock_53 : decode cX7_ofBlock 53 = .ok (.iaload, 1) := by decide +kernel
theorem dX7_ofBlock_54 : decode cX7_ofBlock 54 = .ok (.ireturn, 1) := by decide +kernel
theorem dX7_ofBlock_55 : decode cX7_ofBlock 55 = .ok (.aload_n 0, 1) := by decide +kernel
theorem dX7_ofBlock_56 : decode cX7_ofBlock 56 = .ok (.getfield 25, 3) := by decide +kernel
theorem dX7_ofBlock_59 : decode cX7_ofBlock 59 = .ok (.iload_n 1, 1) := by decide +kernel
theorem dX7_ofBlock_60 : decode cX7_ofBlock 60 = .ok (.iaload, 1) := by decide +kernel
theorem dX7_ofBlock_61 : decode cX7_ofBlock 61 = .ok (.ireturn, 1) := by decide +kernel
theorem dX7_ofBlock_62 : decode cX7_ofBlock 62 = .ok (.aload_n 0, 1) := by decide +kernel
theorem dX7_ofBlock_63 : decode cX7_ofBlock 63 = .ok (.getfield 28, 3) := by decide +kernel
theorem dX7_ofBlock_66 : decode cX7_ofBlock 66 = .ok (.iload_n 1, 1) := by decide +kernel
theorem dX7_ofBlock_67 : decode cX7_ofBlock 67 = .ok (.iaload, 1) := by decide +kernel
theorem dX7_ofBlock_68 : decode cX7_ofBlock 68 = .ok (.ireturn, 1) := by decide +kernel
theorem dX7_ofBlock_69 : decode cX7_ofBlock 69 = .ok (.aload_n 0, 1) := by decide +kernel
theorem dX7_ofBlock_70 : decode cX7_ofBlock 70 = .ok (.iload_n 1, 1) := by decide +kernel
theorem dX7_ofBlock_71 : decode cX7_ofBlock 71 = .ok (.invokevirtual 135, 3) := by decide +kernel
theorem dX7_ofBlock_74 : decode cX7_ofBlock 74 = .ok (.ireturn, 1) := by decide +kernel
theorem dX7_ofBlock_75 : decode cX7_ofBlock 75 = .ok (.aload_n 0, 1) := by decide +kernel
theorem dX7_ofBlock_76 : decode cX7_ofBlock 76 = .ok (.getfield 105, 3) := by decide +kernel
theorem dX7_ofBlock_79 : decode cX7_ofBlock 79 = .ok (.iload_n 1, 1) := by decide +kernel
theorem dX7_ofBlock_80 : decode cX7_ofBlock 80 = .ok (.ishr, 1) := by decide +kernel
theorem dX7_ofBlock_81 : decode cX7_ofBlock 81 = .ok (.iconst 1, 1) := by decide +kernel
theorem dX7_ofBlock_82 : decode cX7_ofBlock 82 = .ok (.iand, 1) := by decide +kernel
theorem dX7_ofBlock_83 : decode cX7_ofBlock 83 = .ok (.ireturn, 1) := by decide +kernel
theorem dX7_ofBlock_84 : decode cX7_ofBlock 84 = .ok (.aload_n 0, 1) := by decide +kernel
theorem dX7_ofBlock_85 : decode cX7_ofBlock 85 = .ok (.getfield 25, 3) := by decide +kernel
theorem dX7_ofBlock_88 : decode cX7_ofBlock 88 = .ok (.iload_n 1, 1) := by decide +kernel
theorem dX7_ofBlock_89 : decode cX7_ofBlock 89 = .ok (.iaload, 1) := by decide +kernel
theorem dX7_ofBlock_90 : decode cX7_ofBlock 90 = .ok (.invokestatic 138, 3) := by decide +kernel
theorem dX7_ofBlock_93 : decode cX7_ofBlock 93 = .ok (.ireturn, 1) := by decide +kernel
theorem dX7_ofBlock_94 : decode cX7_ofBlock 94 = .ok (.bipush (-2), 2) := by decide +kernel
theorem dX7_ofBlock_96 : decode cX7_ofBlock 96 = .ok (.ireturn, 1) := by decide +kernel
theorem dX7_becomes_0 : decode cX7_becomes 0 = .ok (.iload_n 1, 1) := by decide +kernel
theorem dX7_becomes_1 : decode cX7_becomes 1 = .ok (.invokestatic 141, 3) := by decide +kernel
theorem dX7_becomes_4 : decode cX7_becomes 4 = .ok (.ifCond .ne 6, 3) := by decide +kernel
theorem dX7_becomes_7 : decode cX7_becomes 7 = .ok (.bipush (-2), 2) := by decide +kernel
theorem dX7_becomes_9 : decode cX7_becomes 9 = .ok (.ireturn, 1) := by decide +kernel
theorem dX7_becomes_10 : decode cX7_becomes 10 = .ok (.aload_n 0, 1) := by decide +kernel
theorem dX7_becomes_11 : decode cX7_becomes 11 = .ok (.getfield 65, 3) := by decide +kernel
theorem dX7_becomes_14 : decode cX7_becomes 14 = .ok (.ifCond .ne 8, 3) := by decide +kernel
theorem dX7_becomes_17 : decode cX7_becomes 17 = .ok (.bipush (-3), 2) := by decide +kernel
theorem dX7_becomes_19 : decode cX7_becomes 19 = .ok (.goto 9, 3) := by decide +kernel
theorem dX7_becomes_22 : decode cX7_becomes 22 = .ok (.aload_n 0, 1) := by decide +kernel
theorem dX7_becomes_23 : decode cX7_becomes 23 = .ok (.getfield 19, 3) := by decide +kernel
theorem dX7_becomes_26 : decode cX7_becomes 26 = .ok (.iload_n 1, 1) := by decide +kernel
theorem dX7_becomes_27 : decode cX7_becomes 27 = .ok (.iaload, 1) := by decide +kernel
theorem dX7_becomes_28 : decode cX7_becomes 28 = .ok (.ireturn, 1) := by decide +kernel
theorem dX7_enact_0 : decode cX7_enact 0 = .ok (.iload_n 1, 1) := by decide +kernel
theorem dX7_enact_1 : decode cX7_enact 1 = .ok (.iconst 0, 1) := by decide +kernel
theorem dX7_enact_2 : decode cX7_enact 2 = .ok (.sipush 255, 3) := by decide +kernel
theorem dX7_enact_5 : decode cX7_enact 5 = .ok (.invokestatic 61, 3) := by decide +kernel
theorem dX7_enact_8 : decode cX7_enact 8 = .ok (.ifCond .ne 6, 3) := by decide +kernel
theorem dX7_enact_11 : decode cX7_enact 11 = .ok (.bipush (-2), 2) := by decide +kernel
theorem dX7_enact_13 : decode cX7_enact 13 = .ok (.ireturn, 1) := by decide +kernel
theorem dX7_enact_14 : decode cX7_enact 14 = .ok (.aload_n 0, 1) := by decide +kernel
theorem dX7_enact_15 : decode cX7_enact 15 = .ok (.getfield 65, 3) := by decide +kernel
theorem dX7_enact_18 : decode cX7_enact 18 = .ok (.ifCond .ne 6, 3) := by decide +kernel
theorem dX7_enact_21 : decode cX7_enact 21 = .ok (.bipush (-3), 2) := by decide +kernel
theorem dX7_enact_23 : decode cX7_enact 23 = .ok (.ireturn, 1) := by decide +kernel
theorem dX7_enact_24 : decode cX7_enact 24 = .ok (.aload_n 0, 1) := by decide +kernel
theorem dX7_enact_25 : decode cX7_enact 25 = .ok (.getfield 111, 3) := by decide +kernel
theorem dX7_enact_28 : decode cX7_enact 28 = .ok (.istore_n 2, 1) := by decide +kernel
theorem dX7_enact_29 : decode cX7_enact 29 = .ok (.aload_n 0, 1) := by decide +kernel
theorem dX7_enact_30 : decode cX7_enact 30 = .ok (.iload_n 1, 1) := by decide +kernel
theorem dX7_enact_31 : decode cX7_enact 31 = .ok (.invokevirtual 95, 3) := by decide +kernel
theorem dX7_enact_34 : decode cX7_enact 34 = .ok (.iload_n 2, 1) := by decide +kernel
theorem dX7_enact_35 : decode cX7_enact 35 = .ok (.ireturn, 1) := by decide +kernel
theorem dX7_hurry_0 : decode cX7_hurry 0 = .ok (.aload_n 0, 1) := by decide +kernel
theorem dX7_hurry_1 : decode cX7_hurry 1 = .ok (.iload_n 1, 1) := by decide +kernel
theorem dX7_hurry_2 : decode cX7_hurry 2 = .ok (.invokevirtual 132, 3) := by decide +kernel
theorem dX7_hurry_5 : decode cX7_hurry 5 = .ok (.ifCond .ne 5, 3) := by decide +kernel
theorem dX7_hurry_8 : decode cX7_hurry 8 = .ok (.iconst (-1), 1) := by decide +kernel
theorem dX7_hurry_9 : decode cX7_hurry 9 = .ok (.ireturn, 1) := by decide +kernel
theorem dX7_hurry_10 : decode cX7_hurry 10 = .ok (.iload_n 2, 1) := by decide +kernel
theorem dX7_hurry_11 : decode cX7_hurry 11 = .ok (.iconst 1, 1) := by decide +kernel
theorem dX7_hurry_12 : decode cX7_hurry 12 = .ok (.iconst 4, 1) := by decide +kernel
theorem dX7_hurry_13 : decode cX7_hurry 13 = .ok (.invokestatic 61, 3) := by decide +kernel
theorem dX7_hurry_16 : decode cX7_hurry 16 = .ok (.ifCond .ne 6, 3) := by decide +kernel
theorem dX7_hurry_19 : decode cX7_hurry 19 = .ok (.bipush (-2), 2) := by decide +kernel
theorem dX7_hurry_21 : decode cX7_hurry 21 = .ok (.ireturn, 1) := by decide +kernel
theorem dX7_hurry_22 : decode cX7_hurry 22 = .ok (.aload_n 0, 1) := by decide +kernel
theorem dX7_hurry_23 : decode cX7_hurry 23 = .ok (.getfield 28, 3) := by decide +kernel
theorem dX7_hurry_26 : decode cX7_hurry 26 = .ok (.iload_n 1, 1) := by decide +kernel
theorem dX7_hurry_27 : decode cX7_hurry 27 = .ok (.iaload, 1) := by decide +kernel
theorem dX7_hurry_28 : decode cX7_hurry 28 = .ok (.istore_n 3, 1) := by decide +kernel
theorem dX7_hurry_29 : decode cX7_hurry 29 = .ok (.aload_n 0, 1) := by decide +kernel
theorem dX7_hurry_30 : decode cX7_hurry 30 = .ok (.getfield 28, 3) := by decide +kernel
theorem dX7_hurry_33 : decode cX7_hurry 33 = .ok (.iload_n 1, 1) := by decide +kernel
theorem dX7_hurry_34 : decode cX7_hurry 34 = .ok (.iload_n 2, 1) := by decide +kernel
theorem dX7_hurry_35 : decode cX7_hurry 35 = .ok (.iastore, 1) := by decide +kernel
theorem dX7_hurry_36 : decode cX7_hurry 36 = .ok (.iload_n 3, 1) := by decide +kernel
theorem dX7_hurry_37 : decode cX7_hurry 37 = .ok (.ireturn, 1) := by decide +kernel
theorem dX7_keep_0 : decode cX7_keep 0 = .ok (.iconst 0, 1) := by decide +kernel
theorem dX7_keep_1 : decode cX7_keep 1 = .ok (.istore_n 1, 1) := by decide +kernel
theorem dX7_keep_2 : decode cX7_keep 2 = .ok (.iload_n 1, 1) := by decide +kernel
theorem dX7_keep_3 : decode cX7_keep 3 = .ok (.aload_n 0, 1) := by decide +kernel
theorem dX7_keep_4 : decode cX7_keep 4 = .ok (.getfield 65, 3) := by decide +kernel
theorem dX7_keep_7 : decode cX7_keep 7 = .ok (.if_icmp .ge 21, 3) := by decide +kernel
theorem dX7_keep_10 : decode cX7_keep 10 = .ok (.aload_n 0, 1) := by decide +kernel
theorem dX7_keep_11 : decode cX7_keep 11 = .ok (.getfield 34, 3) := by decide +kernel
theorem dX7_keep_14 : decode cX7_keep 14 = .ok (.iload_n 1, 1) := by decide +kernel
theorem dX7_keep_15 : decode cX7_keep 15 = .ok (.aload_n 0, 1) := by decide +kernel
theorem dX7_keep_16 : decode cX7_keep 16 = .ok (.getfield 25, 3) := by decide +kernel
theorem dX7_keep_19 : decode cX7_keep 19 = .ok (.iload_n 1, 1) := by decide +kernel
theorem dX7_keep_20 : decode cX7_keep 20 = .ok (.iaload, 1) := by decide +kernel
theorem dX7_keep_21 : decode cX7_keep 21 = .ok (.iastore, 1) := by decide +kernel
theorem dX7_keep_22 : decode cX7_keep 22 = .ok (.iinc 1 1, 3) := by decide +kernel
theorem dX7_keep_25 : decode cX7_keep 25 = .ok (.goto (-23), 3) := by decide +kernel
theorem dX7_keep_28 : decode cX7_keep 28 = .ok (.return_, 1) := by decide +kernel
theorem dX7_oneDay_0 : decode cX7_oneDay 0 = .ok (.iconst 0, 1) := by decide +kernel
theorem dX7_oneDay_1 : decode cX7_oneDay 1 = .ok (.istore_n 1, 1) := by decide +kernel
theorem dX7_oneDay_2 : decode cX7_oneDay 2 = .ok (.iload_n 1, 1) := by decide +kernel
theorem dX7_oneDay_3 : decode cX7_oneDay 3 = .ok (.aload_n 0, 1) := by decide +kernel
theorem dX7_oneDay_4 : decode cX7_oneDay 4 = .ok (.getfield 65, 3) := by decide +kernel
theorem dX7_oneDay_7 : decode cX7_oneDay 7 = .ok (.if_icmp .ge 41, 3) := by decide +kernel
theorem dX7_oneDay_10 : decode cX7_oneDay 10 = .ok (.aload_n 0, 1) := by decide +kernel
theorem dX7_oneDay_11 : decode cX7_oneDay 11 = .ok (.getfield 105, 3) := by decide +kernel
theorem dX7_oneDay_14 : decode cX7_oneDay 14 = .ok (.iload_n 1, 1) := by decide +kernel
theorem dX7_oneDay_15 : decode cX7_oneDay 15 = .ok (.invokestatic 144, 3) := by decide +kernel
theorem dX7_oneDay_18 : decode cX7_oneDay 18 = .ok (.ifCond .ne 24, 3) := by decide +kernel
theorem dX7_oneDay_21 : decode cX7_oneDay 21 = .ok (.aload_n 0, 1) := by decide +kernel
theorem dX7_oneDay_22 : decode cX7_oneDay 22 = .ok (.getfield 25, 3) := by decide +kernel
theorem dX7_oneDay_25 : decode cX7_oneDay 25 = .ok (.iload_n 1, 1) := by decide +kernel
theorem dX7_oneDay_26 : decode cX7_oneDay 26 = .ok (.aload_n 0, 1) := by decide +kernel
theorem dX7_oneDay_27 : decode cX7_oneDay 27 = .ok (.aload_n 0, 1) := by decide +kernel
theorem dX7_oneDay_28 : decode cX7_oneDay 28 = .ok (.getfield 25, 3) := by decide +kernel
theorem dX7_oneDay_31 : decode cX7_oneDay 31 = .ok (.iload_n 1, 1) := by decide +kernel
theorem dX7_oneDay_32 : decode cX7_oneDay 32 = .ok (.iaload, 1) := by decide +kernel
theorem dX7_oneDay_33 : decode cX7_oneDay 33 = .ok (.aload_n 0, 1) := by decide +kernel
theorem dX7_oneDay_34 : decode cX7_oneDay 34 = .ok (.iload_n 1, 1) := by decide +kernel
theorem dX7_oneDay_35 : decode cX7_oneDay 35 = .ok (.invokevirtual 135, 3) := by decide +kernel
theorem dX7_oneDay_38 : decode cX7_oneDay 38 = .ok (.invokevirtual 147, 3) := by decide +kernel
theorem dX7_oneDay_41 : decode cX7_oneDay 41 = .ok (.iastore, 1) := by decide +kernel
theorem dX7_oneDay_42 : decode cX7_oneDay 42 = .ok (.iinc 1 1, 3) := by decide +kernel
theorem dX7_oneDay_45 : decode cX7_oneDay 45 = .ok (.goto (-43), 3) := by decide +kernel
theorem dX7_oneDay_48 : decode cX7_oneDay 48 = .ok (.return_, 1) := by decide +kernel
theorem dX7_days_0 : decode cX7_days 0 = .ok (.iload_n 1, 1) := by decide +kernel
theorem dX7_days_1 : decode cX7_days 1 = .ok (.iconst 1, 1) := by decide +kernel
theorem dX7_days_2 : decode cX7_days 2 = .ok (.sipush 300, 3) := by decide +kernel
theorem dX7_days_5 : decode cX7_days 5 = .ok (.invokestatic 61, 3) := by decide +kernel
theorem dX7_days_8 : decode cX7_days 8 = .ok (.ifCond .ne 6, 3) := by decide +kernel
theorem dX7_days_11 : decode cX7_days 11 = .ok (.bipush (-2), 2) := by decide +kernel
theorem dX7_days_13 : decode cX7_days 13 = .ok (.ireturn, 1) := by decide +kernel
theorem dX7_days_14 : decode cX7_days 14 = .ok (.aload_n 0, 1) := by decide +kernel
theorem dX7_days_15 : decode cX7_days 15 = .ok (.getfield 65, 3) := by decide +kernel
theorem dX7_days_18 : decode cX7_days 18 = .ok (.ifCond .ne 6, 3) := by decide +kernel
theorem dX7_days_21 : decode cX7_days 21 = .ok (.bipush (-3), 2) := by decide +kernel
theorem dX7_days_23 : decode cX7_days 23 = .ok (.ireturn, 1) := by decide +kernel
theorem dX7_days_24 : decode cX7_days 24 = .ok (.aload_n 0, 1) := by decide +kernel
theorem dX7_days_25 : decode cX7_days 25 = .ok (.invokevirtual 150, 3) := by decide +kernel
theorem dX7_days_28 : decode cX7_days 28 = .ok (.iconst 0, 1) := by decide +kernel
theorem dX7_days_29 : decode cX7_days 29 = .ok (.istore_n 2, 1) := by decide +kernel
theorem dX7_days_30 : decode cX7_days 30 = .ok (.iload_n 2, 1) := by decide +kernel
theorem dX7_days_31 : decode cX7_days 31 = .ok (.iload_n 1, 1) := by decide +kernel
theorem dX7_days_32 : decode cX7_days 32 = .ok (.if_icmp .ge 13, 3) := by decide +kernel
theorem dX7_days_35 : decode cX7_days 35 = .ok (.aload_n 0, 1) := by decide +kernel
theorem dX7_days_36 : decode cX7_days 36 = .ok (.invokevirtual 153, 3) := by decide +kernel
theorem dX7_days_39 : decode cX7_days 39 = .ok (.iinc 2 1, 3) := by decide +kernel
theorem dX7_days_42 : decode cX7_days 42 = .ok (.goto (-12), 3) := by decide +kernel
theorem dX7_days_45 : decode cX7_days 45 = .ok (.aload_n 0, 1) := by decide +kernel
theorem dX7_days_46 : decode cX7_days 46 = .ok (.dup, 1) := by decide +kernel
theorem dX7_days_47 : decode cX7_days 47 = .ok (.getfield 102, 3) := by decide +kernel
theorem dX7_days_50 : decode cX7_days 50 = .ok (.iload_n 1, 1) := by decide +kernel
theorem dX7_days_51 : decode cX7_days 51 = .ok (.iadd, 1) := by decide +kernel
theorem dX7_days_52 : decode cX7_days 52 = .ok (.putfield 102, 3) := by decide +kernel
theorem dX7_days_55 : decode cX7_days 55 = .ok (.iconst 0, 1) := by decide +kernel
theorem dX7_days_56 : decode cX7_days 56 = .ok (.istore_n 2, 1) := by decide +kernel
theorem dX7_days_57 : decode cX7_days 57 = .ok (.iconst 0, 1) := by decide +kernel
theorem dX7_days_58 : decode cX7_days 58 = .ok (.istore_n 3, 1) := by decide +kernel
theorem dX7_days_59 : decode cX7_days 59 = .ok (.iload_n 3, 1) := by decide +kernel
theorem dX7_days_60 : decode cX7_days 60 = .ok (.aload_n 0, 1) := by decide +kernel
theorem dX7_days_61 : decode cX7_days 61 = .ok (.getfield 65, 3) := by decide +kernel
theorem dX7_days_64 : decode cX7_days 64 = .ok (.if_icmp .ge 32, 3) := by decide +kernel
theorem dX7_days_67 : decode cX7_days 67 = .ok (.iload_n 2, 1) := by decide +kernel
theorem dX7_days_68 : decode cX7_days 68 = .ok (.aload_n 0, 1) := by decide +kernel
theorem dX7_days_69 : decode cX7_days 69 = .ok (.getfield 25, 3) := by decide +kernel
theorem dX7_days_72 : decode cX7_days 72 = .ok (.iload_n 3, 1) := by decide +kernel
theorem dX7_days_73 : decode cX7_days 73 = .ok (.iaload, 1) := by decide +kernel
theorem dX7_days_74 : decode cX7_days 74 = .ok (.aload_n 0, 1) := by decide +kernel
theorem dX7_days_75 : decode cX7_days 75 = .ok (.getfield 34, 3) := by decide +kernel
theorem dX7_days_78 : decode cX7_days 78 = .ok (.iload_n 3, 1) := by decide +kernel
theorem dX7_days_79 : decode cX7_days 79 = .ok (.iaload, 1) := by decide +kernel
theorem dX7_days_80 : decode cX7_days 80 = .ok (.if_icmp .ne 7, 3) := by decide +kernel
theorem dX7_days_83 : decode cX7_days 83 = .ok (.iconst 0, 1) := by decide +kernel
theorem dX7_days_84 : decode cX7_days 84 = .ok (.goto 4, 3) := by decide +kernel
theorem dX7_days_87 : decode cX7_days 87 = .ok (.iconst 1, 1) := by decide +kernel
theorem dX7_days_88 : decode cX7_days 88 = .ok (.iadd, 1) := by decide +kernel
theorem dX7_days_89 : decode cX7_days 89 = .ok (.istore_n 2, 1) := by decide +kernel
theorem dX7_days_90 : decode cX7_days 90 = .ok (.iinc 3 1, 3) := by decide +kernel
theorem dX7_days_93 : decode cX7_days 93 = .ok (.goto (-34), 3) := by decide +kernel
theorem dX7_days_96 : decode cX7_days 96 = .ok (.iload_n 2, 1) := by decide +kernel
theorem dX7_days_97 : decode cX7_days 97 = .ok (.ireturn, 1) := by decide +kernel
theorem dX7_look_0 : decode cX7_look 0 = .ok (.aload_n 0, 1) := by decide +kernel
theorem dX7_look_1 : decode cX7_look 1 = .ok (.iload_n 1, 1) := by decide +kernel
theorem dX7_look_2 : decode cX7_look 2 = .ok (.invokevirtual 132, 3) := by decide +kernel
theorem dX7_look_5 : decode cX7_look 5 = .ok (.ifCond .ne 5, 3) := by decide +kernel
theorem dX7_look_8 : decode cX7_look 8 = .ok (.iconst (-1), 1) := by decide +kernel
theorem dX7_look_9 : decode cX7_look 9 = .ok (.ireturn, 1) := by decide +kernel
theorem dX7_look_10 : decode cX7_look 10 = .ok (.aload_n 0, 1) := by decide +kernel
theorem dX7_look_11 : decode cX7_look 11 = .ok (.getfield 105, 3) := by decide +kernel
theorem dX7_look_14 : decode cX7_look 14 = .ok (.iload_n 1, 1) := by decide +kernel
theorem dX7_look_15 : decode cX7_look 15 = .ok (.invokestatic 144, 3) := by decide +kernel
theorem dX7_look_18 : decode cX7_look 18 = .ok (.ifCond .eq 6, 3) := by decide +kernel
theorem dX7_look_21 : decode cX7_look 21 = .ok (.bipush (-3), 2) := by decide +kernel
theorem dX7_look_23 : decode cX7_look 23 = .ok (.ireturn, 1) := by decide +kernel
theorem dX7_look_24 : decode cX7_look 24 = .ok (.aload_n 0, 1) := by decide +kernel
theorem dX7_look_25 : decode cX7_look 25 = .ok (.dup, 1) := by decide +kernel
theorem dX7_look_26 : decode cX7_look 26 = .ok (.getfield 105, 3) := by decide +kernel
theorem dX7_look_29 : decode cX7_look 29 = .ok (.iconst 1, 1) := by decide +kernel
theorem dX7_look_30 : decode cX7_look 30 = .ok (.iload_n 1, 1) := by decide +kernel
theorem dX7_look_31 : decode cX7_look 31 = .ok (.ishl, 1) := by decide +kernel
theorem dX7_look_32 : decode cX7_look 32 = .ok (.ior, 1) := by decide +kernel
theorem dX7_look_33 : decode cX7_look 33 = .ok (.putfield 105, 3) := by decide +kernel
theorem dX7_look_36 : decode cX7_look 36 = .ok (.aload_n 0, 1) := by decide +kernel
theorem dX7_look_37 : decode cX7_look 37 = .ok (.getfield 25, 3) := by decide +kernel
theorem dX7_look_40 : decode cX7_look 40 = .ok (.iload_n 1, 1) := by decide +kernel
theorem dX7_look_41 : decode cX7_look 41 = .ok (.iaload, 1) := by decide +kernel
theorem dX7_look_42 : decode cX7_look 42 = .ok (.ireturn, 1) := by decide +kernel
theorem dX7_away_0 : decode cX7_away 0 = .ok (.aload_n 0, 1) := by decide +kernel
theorem dX7_away_1 : decode cX7_away 1 = .ok (.iload_n 1, 1) := by decide +kernel
theorem dX7_away_2 : decode cX7_away 2 = .ok (.invokevirtual 132, 3) := by decide +kernel
theorem dX7_away_5 : decode cX7_away 5 = .ok (.ifCond .ne 5, 3) := by decide +kernel
theorem dX7_away_8 : decode cX7_away 8 = .ok (.iconst (-1), 1) := by decide +kernel
theorem dX7_away_9 : decode cX7_away 9 = .ok (.ireturn, 1) := by decide +kernel
theorem dX7_away_10 : decode cX7_away 10 = .ok (.aload_n 0, 1) := by decide +kernel
theorem dX7_away_11 : decode cX7_away 11 = .ok (.getfield 105, 3) := by decide +kernel
theorem dX7_away_14 : decode cX7_away 14 = .ok (.iload_n 1, 1) := by decide +kernel
theorem dX7_away_15 : decode cX7_away 15 = .ok (.invokestatic 144, 3) := by decide +kernel
theorem dX7_away_18 : decode cX7_away 18 = .ok (.ifCond .ne 6, 3) := by decide +kernel
theorem dX7_away_21 : decode cX7_away 21 = .ok (.bipush (-3), 2) := by decide +kernel
theorem dX7_away_23 : decode cX7_away 23 = .ok (.ireturn, 1) := by decide +kernel
theorem dX7_away_24 : decode cX7_away 24 = .ok (.aload_n 0, 1) := by decide +kernel
theorem dX7_away_25 : decode cX7_away 25 = .ok (.dup, 1) := by decide +kernel
theorem dX7_away_26 : decode cX7_away 26 = .ok (.getfield 105, 3) := by decide +kernel
theorem dX7_away_29 : decode cX7_away 29 = .ok (.iconst 1, 1) := by decide +kernel
theorem dX7_away_30 : decode cX7_away 30 = .ok (.iload_n 1, 1) := by decide +kernel
theorem dX7_away_31 : decode cX7_away 31 = .ok (.ishl, 1) := by decide +kernel
theorem dX7_away_32 : decode cX7_away 32 = .ok (.iconst (-1), 1) := by decide +kernel
theorem dX7_away_33 : decode cX7_away 33 = .ok (.ixor, 1) := by decide +kernel
theorem dX7_away_34 : decode cX7_away 34 = .ok (.iand, 1) := by decide +kernel
theorem dX7_away_35 : decode cX7_away 35 = .ok (.putfield 105, 3) := by decide +kernel
theorem dX7_away_38 : decode cX7_away 38 = .ok (.aload_n 0, 1) := by decide +kernel
theorem dX7_away_39 : decode cX7_away 39 = .ok (.getfield 105, 3) := by decide +kernel
theorem dX7_away_42 : decode cX7_away 42 = .ok (.invokestatic 138, 3) := by decide +kernel
theorem dX7_away_45 : decode cX7_away 45 = .ok (.ireturn, 1) := by decide +kernel
theorem dX7_stroke_0 : decode cX7_stroke 0 = .ok (.aload_n 0, 1) := by decide +kernel
theorem dX7_stroke_1 : decode cX7_stroke 1 = .ok (.iload_n 1, 1) := by decide +kernel
theorem dX7_stroke_2 : decode cX7_stroke 2 = .ok (.invokevirtual 132, 3) := by decide +kernel
theorem dX7_stroke_5 : decode cX7_stroke 5 = .ok (.ifCond .ne 5, 3) := by decide +kernel
theorem dX7_stroke_8 : decode cX7_stroke 8 = .ok (.iconst (-1), 1) := by decide +kernel
theorem dX7_stroke_9 : decode cX7_stroke 9 = .ok (.ireturn, 1) := by decide +kernel
theorem dX7_stroke_10 : decode cX7_stroke 10 = .ok (.iload_n 2, 1) := by decide +kernel
theorem dX7_stroke_11 : decode cX7_stroke 11 = .ok (.iconst 0, 1) := by decide +kernel
theorem dX7_stroke_12 : decode cX7_stroke 12 = .ok (.iconst 5, 1) := by decide +kernel
theorem dX7_stroke_13 : decode cX7_stroke 13 = .ok (.invokestatic 61, 3) := by decide +kernel
theorem dX7_stroke_16 : decode cX7_stroke 16 = .ok (.ifCond .ne 6, 3) := by decide +kernel
theorem dX7_stroke_19 : decode cX7_stroke 19 = .ok (.bipush (-2), 2) := by decide +kernel
theorem dX7_stroke_21 : decode cX7_stroke 21 = .ok (.ireturn, 1) := by decide +kernel
theorem dX7_stroke_22 : decode cX7_stroke 22 = .ok (.aload_n 0, 1) := by decide +kernel
theorem dX7_stroke_23 : decode cX7_stroke 23 = .ok (.getfield 25, 3) := by decide +kernel
theorem dX7_stroke_26 : decode cX7_stroke 26 = .ok (.iload_n 1, 1) := by decide +kernel
theorem dX7_stroke_27 : decode cX7_stroke 27 = .ok (.dup2, 1) := by decide +kernel
theorem dX7_stroke_28 : decode cX7_stroke 28 = .ok (.iaload, 1) := by decide +kernel
theorem dX7_stroke_29 : decode cX7_stroke 29 = .ok (.iconst 1, 1) := by decide +kernel
theorem dX7_stroke_30 : decode cX7_stroke 30 = .ok (.iload_n 2, 1) := by decide +kernel
theorem dX7_stroke_31 : decode cX7_stroke 31 = .ok (.ishl, 1) := by decide +kernel
theorem dX7_stroke_32 : decode cX7_stroke 32 = .ok (.ixor, 1) := by decide +kernel
theorem dX7_stroke_33 : decode cX7_stroke 33 = .ok (.iastore, 1) := by decide +kernel
theorem dX7_stroke_34 : decode cX7_stroke 34 = .ok (.aload_n 0, 1) := by decide +kernel
theorem dX7_stroke_35 : decode cX7_stroke 35 = .ok (.getfield 25, 3) := by decide +kernel
theorem dX7_stroke_38 : decode cX7_stroke 38 = .ok (.iload_n 1, 1) := by decide +kernel
theorem dX7_stroke_39 : decode cX7_stroke 39 = .ok (.iaload, 1) := by decide +kernel
theorem dX7_stroke_40 : decode cX7_stroke 40 = .ok (.ireturn, 1) := by decide +kernel
theorem dX7_areTwins_0 : decode cX7_areTwins 0 = .ok (.iconst 0, 1) := by decide +kernel
theorem dX7_areTwins_1 : decode cX7_areTwins 1 = .ok (.istore_n 1, 1) := by decide +kernel
theorem dX7_areTwins_2 : decode cX7_areTwins 2 = .ok (.iload_n 1, 1) := by decide +kernel
theorem dX7_areTwins_3 : decode cX7_areTwins 3 = .ok (.aload_n 0, 1) := by decide +kernel
theorem dX7_areTwins_4 : decode cX7_areTwins 4 = .ok (.getfield 65, 3) := by decide +kernel
theorem dX7_areTwins_7 : decode cX7_areTwins 7 = .ok (.if_icmp .ge 44, 3) := by decide +kernel
theorem dX7_areTwins_10 : decode cX7_areTwins 10 = .ok (.iload_n 1, 1) := by decide +kernel
theorem dX7_areTwins_11 : decode cX7_areTwins 11 = .ok (.iconst 1, 1) := by decide +kernel
theorem dX7_areTwins_12 : decode cX7_areTwins 12 = .ok (.iadd, 1) := by decide +kernel
theorem dX7_areTwins_13 : decode cX7_areTwins 13 = .ok (.istore_n 2, 1) := by decide +kernel
theorem dX7_areTwins_14 : decode cX7_areTwins 14 = .ok (.iload_n 2, 1) := by decide +kernel
theorem dX7_areTwins_15 : decode cX7_areTwins 15 = .ok (.aload_n 0, 1) := by decide +kernel
theorem dX7_areTwins_16 : decode cX7_areTwins 16 = .ok (.getfield 65, 3) := by decide +kernel
theorem dX7_areTwins_19 : decode cX7_areTwins 19 = .ok (.if_icmp .ge 26, 3) := by decide +kernel
theorem dX7_areTwins_22 : decode cX7_areTwins 22 = .ok (.aload_n 0, 1) := by decide +kernel
theorem dX7_areTwins_23 : decode cX7_areTwins 23 = .ok (.getfield 25, 3) := by decide +kernel
theorem dX7_areTwins_26 : decode cX7_areTwins 26 = .ok (.iload_n 1, 1) := by decide +kernel
theorem dX7_areTwins_27 : decode cX7_areTwins 27 = .ok (.iaload, 1) := by decide +kernel
theorem dX7_areTwins_28 : decode cX7_areTwins 28 = .ok (.aload_n 0, 1) := by decide +kernel
theorem dX7_areTwins_29 : decode cX7_areTwins 29 = .ok (.getfield 25, 3) := by decide +kernel
theorem dX7_areTwins_32 : decode cX7_areTwins 32 = .ok (.iload_n 2, 1) := by decide +kernel
theorem dX7_areTwins_33 : decode cX7_areTwins 33 = .ok (.iaload, 1) := by decide +kernel
theorem dX7_areTwins_34 : decode cX7_areTwins 34 = .ok (.if_icmp .ne 5, 3) := by decide +kernel
theorem dX7_areTwins_37 : decode cX7_areTwins 37 = .ok (.iconst 1, 1) := by decide +kernel
theorem dX7_areTwins_38 : decode cX7_areTwins 38 = .ok (.ireturn, 1) := by decide +kernel
theorem dX7_areTwins_39 : decode cX7_areTwins 39 = .ok (.iinc 2 1, 3) := by decide +kernel
theorem dX7_areTwins_42 : decode cX7_areTwins 42 = .ok (.goto (-28), 3) := by decide +kernel
theorem dX7_areTwins_45 : decode cX7_areTwins 45 = .ok (.iinc 1 1, 3) := by decide +kernel
theorem dX7_areTwins_48 : decode cX7_areTwins 48 = .ok (.goto (-46), 3) := by decide +kernel
theorem dX7_areTwins_51 : decode cX7_areTwins 51 = .ok (.iconst 0, 1) := by decide +kernel
theorem dX7_areTwins_52 : decode cX7_areTwins 52 = .ok (.ireturn, 1) := by decide +kernel
theorem dX7_does_0 : decode cX7_does 0 = .ok (.iload_n 2, 1) := by decide +kernel
theorem dX7_does_1 : decode cX7_does 1 = .ok (.ifCond .ne 53, 3) := by decide +kernel
theorem dX7_does_4 : decode cX7_does 4 = .ok (.iconst 0, 1) := by decide +kernel
theorem dX7_does_5 : decode cX7_does 5 = .ok (.istore_n 3, 1) := by decide +kernel
theorem dX7_does_6 : decode cX7_does 6 = .ok (.iload_n 3, 1) := by decide +kernel
theorem dX7_does_7 : decode cX7_does 7 = .ok (.iload_n 1, 1) := by decide +kernel
theorem dX7_does_8 : decode cX7_does 8 = .ok (.if_icmp .ge 44, 3) := by decide +kernel
theorem dX7_does_11 : decode cX7_does 11 = .ok (.aload_n 0, 1) := by decide +kernel
theorem dX7_does_12 : decode cX7_does 12 = .ok (.invokevirtual 153, 3) := by decide +kernel
theorem dX7_does_15 : decode cX7_does 15 = .ok (.aload_n 0, 1) := by decide +kernel
theorem dX7_does_16 : decode cX7_does 16 = .ok (.dup, 1) := by decide +kernel
theorem dX7_does_17 : decode cX7_does 17 = .ok (.getfield 156, 3) := by decide +kernel
theorem dX7_does_20 : decode cX7_does 20 = .ok (.iconst 1, 1) := by decide +kernel
theorem dX7_does_21 : decode cX7_does 21 = .ok (.iadd, 1) := by decide +kernel
theorem dX7_does_22 : decode cX7_does 22 = .ok (.putfield 156, 3) := by decide +kernel
theorem dX7_does_25 : decode cX7_does 25 = .ok (.aload_n 0, 1) := by decide +kernel
theorem dX7_does_26 : decode cX7_does 26 = .ok (.dup, 1) := by decide +kernel
theorem dX7_does_27 : decode cX7_does 27 = .ok (.getfield 159, 3) := by decide +kernel
theorem dX7_does_30 : decode cX7_does 30 = .ok (.aload_n 0, 1) := by decide +kernel
theorem dX7_does_31 : decode cX7_does 31 = .ok (.invokevirtual 162, 3) := by decide +kernel
theorem dX7_does_34 : decode cX7_does 34 = .ok (.ifCond .eq 7, 3) := by decide +kernel
theorem dX7_does_37 : decode cX7_does 37 = .ok (.iconst 1, 1) := by decide +kernel
theorem dX7_does_38 : decode cX7_does 38 = .ok (.goto 4, 3) := by decide +kernel
theorem dX7_does_41 : decode cX7_does 41 = .ok (.iconst 0, 1) := by decide +kernel
theorem dX7_does_42 : decode cX7_does 42 = .ok (.iadd, 1) := by decide +kernel
theorem dX7_does_43 : decode cX7_does 43 = .ok (.putfield 159, 3) := by decide +kernel
theorem dX7_does_46 : decode cX7_does 46 = .ok (.iinc 3 1, 3) := by decide +kernel
theorem dX7_does_49 : decode cX7_does 49 = .ok (.goto (-43), 3) := by decide +kernel
theorem dX7_does_52 : decode cX7_does 52 = .ok (.iconst 1, 1) := by decide +kernel
theorem dX7_does_53 : decode cX7_does 53 = .ok (.ireturn, 1) := by decide +kernel
theorem dX7_does_54 : decode cX7_does 54 = .ok (.iload_n 2, 1) := by decide +kernel
theorem dX7_does_55 : decode cX7_does 55 = .ok (.bipush 10, 2) := by decide +kernel
theorem dX7_does_57 : decode cX7_does 57 = .ok (.if_icmp .lt 20, 3) := by decide +kernel
theorem dX7_does_60 : decode cX7_does 60 = .ok (.aload_n 0, 1) := by decide +kernel
theorem dX7_does_61 : decode cX7_does 61 = .ok (.getfield 25, 3) := by decide +kernel
theorem dX7_does_64 : decode cX7_does 64 = .ok (.iload_n 1, 1) := by decide +kernel
theorem dX7_does_65 : decode cX7_does 65 = .ok (.dup2, 1) := by decide +kernel
theorem dX7_does_66 : decode cX7_does 66 = .ok (.iaload, 1) := by decide +kernel
theorem dX7_does_67 : decode cX7_does 67 = .ok (.iconst 1, 1) := by decide +kernel
theorem dX7_does_68 : decode cX7_does 68 = .ok (.iload_n 2, 1) := by decide +kernel
theorem dX7_does_69 : decode cX7_does 69 = .ok (.bipush 10, 2) := by decide +kernel
theorem dX7_does_71 : decode cX7_does 71 = .ok (.isub, 1) := by decide +kernel
theorem dX7_does_72 : decode cX7_does 72 = .ok (.ishl, 1) := by decide +kernel
theorem dX7_does_73 : decode cX7_does 73 = .ok (.ixor, 1) := by decide +kernel
theorem dX7_does_74 : decode cX7_does 74 = .ok (.iastore, 1) := by decide +kernel
theorem dX7_does_75 : decode cX7_does 75 = .ok (.iconst 1, 1) := by decide +kernel
theorem dX7_does_76 : decode cX7_does 76 = .ok (.ireturn, 1) := by decide +kernel
theorem dX7_does_77 : decode cX7_does 77 = .ok (.aload_n 0, 1) := by decide +kernel
theorem dX7_does_78 : decode cX7_does 78 = .ok (.getfield 105, 3) := by decide +kernel
theorem dX7_does_81 : decode cX7_does 81 = .ok (.iload_n 1, 1) := by decide +kernel
theorem dX7_does_82 : decode cX7_does 82 = .ok (.invokestatic 144, 3) := by decide +kernel
theorem dX7_does_85 : decode cX7_does 85 = .ok (.iload_n 2, 1) := by decide +kernel
theorem dX7_does_86 : decode cX7_does 86 = .ok (.iconst 2, 1) := by decide +kernel
theorem dX7_does_87 : decode cX7_does 87 = .ok (.if_icmp .ne 7, 3) := by decide +kernel
theorem dX7_does_90 : decode cX7_does 90 = .ok (.iconst 1, 1) := by decide +kernel
theorem dX7_does_91 : decode cX7_does 91 = .ok (.goto 4, 3) := by decide +kernel
theorem dX7_does_94 : decode cX7_does 94 = .ok (.iconst 0, 1) := by decide +kernel
theorem dX7_does_95 : decode cX7_does 95 = .ok (.if_icmp .eq 5, 3) := by decide +kernel
theorem dX7_does_98 : decode cX7_does 98 = .ok (.iconst 0, 1) := by decide +kernel
theorem dX7_does_99 : decode cX7_does 99 = .ok (.ireturn, 1) := by decide +kernel
theorem dX7_does_100 : decode cX7_does 100 = .ok (.aload_n 0, 1) := by decide +kernel
theorem dX7_does_101 : decode cX7_does 101 = .ok (.dup, 1) := by decide +kernel
theorem dX7_does_102 : decode cX7_does 102 = .ok (.getfield 105, 3) := by decide +kernel
theorem dX7_does_105 : decode cX7_does 105 = .ok (.iconst 1, 1) := by decide +kernel
theorem dX7_does_106 : decode cX7_does 106 = .ok (.iload_n 1, 1) := by decide +kernel
theorem dX7_does_107 : decode cX7_does 107 = .ok (.ishl, 1) := by decide +kernel
theorem dX7_does_108 : decode cX7_does 108 = .ok (.ixor, 1) := by decide +kernel
theorem dX7_does_109 : decode cX7_does 109 = .ok (.putfield 105, 3) := by decide +kernel
theorem dX7_does_112 : decode cX7_does 112 = .ok (.iconst 1, 1) := by decide +kernel
theorem dX7_does_113 : decode cX7_does 113 = .ok (.ireturn, 1) := by decide +kernel
theorem dX7_goYears_0 : decode cX7_goYears 0 = .ok (.aload_n 0, 1) := by decide +kernel
theorem dX7_goYears_1 : decode cX7_goYears 1 = .ok (.iconst 0, 1) := by decide +kernel
theorem dX7_goYears_2 : decode cX7_goYears 2 = .ok (.putfield 156, 3) := by decide +kernel
theorem dX7_goYears_5 : decode cX7_goYears 5 = .ok (.aload_n 0, 1) := by decide +kernel
theorem dX7_goYears_6 : decode cX7_goYears 6 = .ok (.iconst 0, 1) := by decide +kernel
theorem dX7_goYears_7 : decode cX7_goYears 7 = .ok (.putfield 159, 3) := by decide +kernel
theorem dX7_goYears_10 : decode cX7_goYears 10 = .ok (.iconst 0, 1) := by decide +kernel
theorem dX7_goYears_11 : decode cX7_goYears 11 = .ok (.istore_n 3, 1) := by decide +kernel
theorem dX7_goYears_12 : decode cX7_goYears 12 = .ok (.iload_n 3, 1) := by decide +kernel
theorem dX7_goYears_13 : decode cX7_goYears 13 = .ok (.iload_n 2, 1) := by decide +kernel
theorem dX7_goYears_14 : decode cX7_goYears 14 = .ok (.if_icmp .ge 40, 3) := by decide +kernel
theorem dX7_goYears_17 : decode cX7_goYears 17 = .ok (.aload_n 0, 1) := by decide +kernel
theorem dX7_goYears_18 : decode cX7_goYears 18 = .ok (.aload_n 0, 1) := by decide +kernel
theorem dX7_goYears_19 : decode cX7_goYears 19 = .ok (.getfield 16, 3) := by decide +kernel
theorem dX7_goYears_22 : decode cX7_goYears 22 = .ok (.iload_n 1, 1) := by decide +kernel
theorem dX7_goYears_23 : decode cX7_goYears 23 = .ok (.iconst 2, 1) := by decide +kernel
theorem dX7_goYears_24 : decode cX7_goYears 24 = .ok (.iload_n 3, 1) := by decide +kernel
theorem dX7_goYears_25 : decode cX7_goYears 25 = .ok (.imul, 1) := by decide +kernel
theorem dX7_goYears_26 : decode cX7_goYears 26 = .ok (.iadd, 1) := by decide +kernel
theorem dX7_goYears_27 : decode cX7_goYears 27 = .ok (.iaload, 1) := by decide +kernel
theorem dX7_goYears_28 : decode cX7_goYears 28 = .ok (.aload_n 0, 1) := by decide +kernel
theorem dX7_goYears_29 : decode cX7_goYears 29 = .ok (.getfield 16, 3) := by decide +kernel
theorem dX7_goYears_32 : decode cX7_goYears 32 = .ok (.iload_n 1, 1) := by decide +kernel
theorem dX7_goYears_33 : decode cX7_goYears 33 = .ok (.iconst 2, 1) := by decide +kernel
theorem dX7_goYears_34 : decode cX7_goYears 34 = .ok (.iload_n 3, 1) := by decide +kernel
theorem dX7_goYears_35 : decode cX7_goYears 35 = .ok (.imul, 1) := by decide +kernel
theorem dX7_goYears_36 : decode cX7_goYears 36 = .ok (.iadd, 1) := by decide +kernel
theorem dX7_goYears_37 : decode cX7_goYears 37 = .ok (.iconst 1, 1) := by decide +kernel
theorem dX7_goYears_38 : decode cX7_goYears 38 = .ok (.iadd, 1) := by decide +kernel
theorem dX7_goYears_39 : decode cX7_goYears 39 = .ok (.iaload, 1) := by decide +kernel
theorem dX7_goYears_40 : decode cX7_goYears 40 = .ok (.invokevirtual 166, 3) := by decide +kernel
theorem dX7_goYears_43 : decode cX7_goYears 43 = .ok (.ifCond .ne 5, 3) := by decide +kernel
theorem dX7_goYears_46 : decode cX7_goYears 46 = .ok (.iload_n 3, 1) := by decide +kernel
theorem dX7_goYears_47 : decode cX7_goYears 47 = .ok (.ireturn, 1) := by decide +kernel
theorem dX7_goYears_48 : decode cX7_goYears 48 = .ok (.iinc 3 1, 3) := by decide +kernel
theorem dX7_goYears_51 : decode cX7_goYears 51 = .ok (.goto (-39), 3) := by decide +kernel
theorem dX7_goYears_54 : decode cX7_goYears 54 = .ok (.bipush (-9), 2) := by decide +kernel
theorem dX7_goYears_56 : decode cX7_goYears 56 = .ok (.ireturn, 1) := by decide +kernel
theorem dX7_refusesPair_0 : decode cX7_refusesPair 0 = .ok (.iload_n 2, 1) := by decide +kernel
theorem dX7_refusesPair_1 : decode cX7_refusesPair 1 = .ok (.iconst 0, 1) := by decide +kernel
theorem dX7_refusesPair_2 : decode cX7_refusesPair 2 = .ok (.iconst 2, 1) := by decide +kernel
theorem dX7_refusesPair_3 : decode cX7_refusesPair 3 = .ok (.invokestatic 61, 3) := by decide +kernel
theorem dX7_refusesPair_6 : decode cX7_refusesPair 6 = .ok (.ifCond .ne 14, 3) := by decide +kernel
theorem dX7_refusesPair_9 : decode cX7_refusesPair 9 = .ok (.iload_n 2, 1) := by decide +kernel
theorem dX7_refusesPair_10 : decode cX7_refusesPair 10 = .ok (.bipush 10, 2) := by decide +kernel
theorem dX7_refusesPair_12 : decode cX7_refusesPair 12 = .ok (.bipush 15, 2) := by decide +kernel
theorem dX7_refusesPair_14 : decode cX7_refusesPair 14 = .ok (.invokestatic 61, 3) := by decide +kernel
theorem dX7_refusesPair_17 : decode cX7_refusesPair 17 = .ok (.ifCond .eq 17, 3) := by decide +kernel
theorem dX7_refusesPair_20 : decode cX7_refusesPair 20 = .ok (.iload_n 2, 1) := by decide +kernel
theorem dX7_refusesPair_21 : decode cX7_refusesPair 21 = .ok (.ifCond .ne 16, 3) := by decide +kernel
theorem dX7_refusesPair_24 : decode cX7_refusesPair 24 = .ok (.iload_n 1, 1) := by decide +kernel
theorem dX7_refusesPair_25 : decode cX7_refusesPair 25 = .ok (.iconst 0, 1) := by decide +kernel
theorem dX7_refusesPair_26 : decode cX7_refusesPair 26 = .ok (.bipush 99, 2) := by decide +kernel
theorem dX7_refusesPair_28 : decode cX7_refusesPair 28 = .ok (.invokestatic 61, 3) := by decide +kernel
theorem dX7_refusesPair_31 : decode cX7_refusesPair 31 = .ok (.ifCond .ne 6, 3) := by decide +kernel
theorem dX7_refusesPair_34 : decode cX7_refusesPair 34 = .ok (.bipush (-2), 2) := by decide +kernel
theorem dX7_refusesPair_36 : decode cX7_refusesPair 36 = .ok (.ireturn, 1) := by decide +kernel
theorem dX7_refusesPair_37 : decode cX7_refusesPair 37 = .ok (.iload_n 2, 1) := by decide +kernel
theorem dX7_refusesPair_38 : decode cX7_refusesPair 38 = .ok (.ifCond .eq 15, 3) := by decide +kernel
theorem dX7_refusesPair_41 : decode cX7_refusesPair 41 = .ok (.aload_n 0, 1) := by decide +kernel
theorem dX7_refusesPair_42 : decode cX7_refusesPair 42 = .ok (.iload_n 1, 1) := by decide +kernel
theorem dX7_refusesPair_43 : decode cX7_refusesPair 43 = .ok (.invokevirtual 132, 3) := by decide +kernel
theorem dX7_refusesPair_46 : decode cX7_refusesPair 46 = .ok (.ifCond .ne 7, 3) := by decide +kernel
theorem dX7_refusesPair_49 : decode cX7_refusesPair 49 = .ok (.iconst (-1), 1) := by decide +kernel
theorem dX7_refusesPair_50 : decode cX7_refusesPair 50 = .ok (.goto 4, 3) := by decide +kernel
theorem dX7_refusesPair_53 : decode cX7_refusesPair 53 = .ok (.iconst 0, 1) := by decide +kernel
theorem dX7_refusesPair_54 : decode cX7_refusesPair 54 = .ok (.ireturn, 1) := by decide +kernel
theorem dX7_years_0 : decode cX7_years 0 = .ok (.aload_n 0, 1) := by decide +kernel
theorem dX7_years_1 : decode cX7_years 1 = .ok (.iconst 0, 1) := by decide +kernel
theorem dX7_years_2 : decode cX7_years 2 = .ok (.putfield 55, 3) := by decide +kernel
theorem dX7_years_5 : decode cX7_years 5 = .ok (.iload_n 1, 1) := by decide +kernel
theorem dX7_years_6 : decode cX7_years 6 = .ok (.invokestatic 71, 3) := by decide +kernel
theorem dX7_years_9 : decode cX7_years 9 = .ok (.ifCond .ne 5, 3) := by decide +kernel
theorem dX7_years_12 : decode cX7_years 12 = .ok (.iconst (-1), 1) := by decide +kernel
theorem dX7_years_13 : decode cX7_years 13 = .ok (.ireturn, 1) := by decide +kernel
theorem dX7_years_14 : decode cX7_years 14 = .ok (.iload_n 2, 1) := by decide +kernel
theorem dX7_years_15 : decode cX7_years 15 = .ok (.invokestatic 75, 3) := by decide +kernel
theorem dX7_years_18 : decode cX7_years 18 = .ok (.ifCond .eq 36, 3) := by decide +kernel
theorem dX7_years_21 : decode cX7_years 21 = .ok (.iload 4, 2) := by decide +kernel
theorem dX7_years_23 : decode cX7_years 23 = .ok (.iconst 0, 1) := by decide +kernel
theorem dX7_years_24 : decode cX7_years 24 = .ok (.bipush 20, 2) := by decide +kernel
theorem dX7_years_26 : decode cX7_years 26 = .ok (.invokestatic 61, 3) := by decide +kernel
theorem dX7_years_29 : decode cX7_years 29 = .ok (.ifCond .eq 25, 3) := by decide +kernel
theorem dX7_years_32 : decode cX7_years 32 = .ok (.iload 5, 2) := by decide +kernel
theorem dX7_years_34 : decode cX7_years 34 = .ok (.iconst 0, 1) := by decide +kernel
theorem dX7_years_35 : decode cX7_years 35 = .ok (.iconst 4, 1) := by decide +kernel
theorem dX7_years_36 : decode cX7_years 36 = .ok (.invokestatic 61, 3) := by decide +kernel
theorem dX7_years_39 : decode cX7_years 39 = .ok (.ifCond .ne 18, 3) := by decide +kernel
theorem dX7_years_42 : decode cX7_years 42 = .ok (.iload 5, 2) := by decide +kernel
theorem dX7_years_44 : decode cX7_years 44 = .ok (.bipush 10, 2) := by decide +kernel
theorem dX7_years_46 : decode cX7_years 46 = .ok (.bipush 15, 2) := by decide +kernel
theorem dX7_years_48 : decode cX7_years 48 = .ok (.invokestatic 61, 3) := by decide +kernel
theorem dX7_years_51 : decode cX7_years 51 = .ok (.ifCond .ne 6, 3) := by decide +kernel
theorem dX7_years_54 : decode cX7_years 54 = .ok (.bipush (-2), 2) := by decide +kernel
theorem dX7_years_56 : decode cX7_years 56 = .ok (.ireturn, 1) := by decide +kernel
theorem dX7_years_57 : decode cX7_years 57 = .ok (.aload_n 0, 1) := by decide +kernel
theorem dX7_years_58 : decode cX7_years 58 = .ok (.iload_n 1, 1) := by decide +kernel
theorem dX7_years_59 : decode cX7_years 59 = .ok (.iload_n 2, 1) := by decide +kernel
theorem dX7_years_60 : decode cX7_years 60 = .ok (.iload_n 3, 1) := by decide +kernel
theorem dX7_years_61 : decode cX7_years 61 = .ok (.iconst 2, 1) := by decide +kernel
theorem dX7_years_62 : decode cX7_years 62 = .ok (.iload 4, 2) := by decide +kernel
theorem dX7_years_64 : decode cX7_years 64 = .ok (.imul, 1) := by decide +kernel
theorem dX7_years_65 : decode cX7_years 65 = .ok (.invokevirtual 78, 3) := by decide +kernel
theorem dX7_years_68 : decode cX7_years 68 = .ok (.istore 6, 2) := by decide +kernel
theorem dX7_years_70 : decode cX7_years 70 = .ok (.iload 6, 2) := by decide +kernel
theorem dX7_years_72 : decode cX7_years 72 = .ok (.ifCond .eq 10, 3) := by decide +kernel
theorem dX7_years_75 : decode cX7_years 75 = .ok (.aload_n 0, 1) := by decide +kernel
theorem dX7_years_76 : decode cX7_years 76 = .ok (.iload 6, 2) := by decide +kernel
theorem dX7_years_78 : decode cX7_years 78 = .ok (.invokevirtual 82, 3) := by decide +kernel
theorem dX7_years_81 : decode cX7_years 81 = .ok (.ireturn, 1) := by decide +kernel
theorem dX7_years_82 : decode cX7_years 82 = .ok (.aload_n 0, 1) := by decide +kernel
theorem dX7_years_83 : decode cX7_years 83 = .ok (.getfield 65, 3) := by decide +kernel
theorem dX7_years_86 : decode cX7_years 86 = .ok (.ifCond .ne 6, 3) := by decide +kernel
theorem dX7_years_89 : decode cX7_years 89 = .ok (.bipush (-3), 2) := by decide +kernel
theorem dX7_years_91 : decode cX7_years 91 = .ok (.ireturn, 1) := by decide +kernel
theorem dX7_years_92 : decode cX7_years 92 = .ok (.bipush 60, 2) := by decide +kernel
theorem dX7_years_94 : decode cX7_years 94 = .ok (.iload_n 1, 1) := by decide +kernel
theorem dX7_years_95 : decode cX7_years 95 = .ok (.imul, 1) := by decide +kernel
theorem dX7_years_96 : decode cX7_years 96 = .ok (.iload_n 3, 1) := by decide +kernel
theorem dX7_years_97 : decode cX7_years 97 = .ok (.iadd, 1) := by decide +kernel
theorem dX7_years_98 : decode cX7_years 98 = .ok (.istore 7, 2) := by decide +kernel
theorem dX7_years_100 : decode cX7_years 100 = .ok (.iconst 0, 1) := by decide +kernel
theorem dX7_years_101 : decode cX7_years 101 = .ok (.istore 8, 2) := by decide +kernel
theorem dX7_years_103 : decode cX7_years 103 = .ok (.iload 8, 2) := by decide +kernel
theorem dX7_years_105 : decode cX7_years 105 = .ok (.iload 4, 2) := by decide +kernel
theorem dX7_years_107 : decode cX7_years 107 = .ok (.if_icmp .ge 49, 3) := by decide +kernel
theorem dX7_years_110 : decode cX7_years 110 = .ok (.aload_n 0, 1) := by decide +kernel
theorem dX7_years_111 : decode cX7_years 111 = .ok (.aload_n 0, 1) := by decide +kernel
theorem dX7_years_112 : decode cX7_years 112 = .ok (.getfield 16, 3) := by decide +kernel
theorem dX7_years_115 : decode cX7_years 115 = .ok (.iload 7, 2) := by decide +kernel
theorem dX7_years_117 : decode cX7_years 117 = .ok (.iconst 2, 1) := by decide +kernel
theorem dX7_years_118 : decode cX7_years 118 = .ok (.iload 8, 2) := by decide +kernel
theorem dX7_years_120 : decode cX7_years 120 = .ok (.imul, 1) := by decide +kernel
theorem dX7_years_121 : decode cX7_years 121 = .ok (.iadd, 1) := by decide +kernel
theorem dX7_years_122 : decode cX7_years 122 = .ok (.iaload, 1) := by decide +kernel
theorem dX7_years_123 : decode cX7_years 123 = .ok (.aload_n 0, 1) := by decide +kernel
theorem dX7_years_124 : decode cX7_years 124 = .ok (.getfield 16, 3) := by decide +kernel
theorem dX7_years_127 : decode cX7_years 127 = .ok (.iload 7, 2) := by decide +kernel
theorem dX7_years_129 : decode cX7_years 129 = .ok (.iconst 2, 1) := by decide +kernel
theorem dX7_years_130 : decode cX7_years 130 = .ok (.iload 8, 2) := by decide +kernel
theorem dX7_years_132 : decode cX7_years 132 = .ok (.imul, 1) := by decide +kernel
theorem dX7_years_133 : decode cX7_years 133 = .ok (.iadd, 1) := by decide +kernel
theorem dX7_years_134 : decode cX7_years 134 = .ok (.iconst 1, 1) := by decide +kernel
theorem dX7_years_135 : decode cX7_years 135 = .ok (.iadd, 1) := by decide +kernel
theorem dX7_years_136 : decode cX7_years 136 = .ok (.iaload, 1) := by decide +kernel
theorem dX7_years_137 : decode cX7_years 137 = .ok (.invokevirtual 169, 3) := by decide +kernel
theorem dX7_years_140 : decode cX7_years 140 = .ok (.istore 9, 2) := by decide +kernel
theorem dX7_years_142 : decode cX7_years 142 = .ok (.iload 9, 2) := by decide +kernel
theorem dX7_years_144 : decode cX7_years 144 = .ok (.ifCond .eq 6, 3) := by decide +kernel
theorem dX7_years_147 : decode cX7_years 147 = .ok (.iload 9, 2) := by decide +kernel
theorem dX7_years_149 : decode cX7_years 149 = .ok (.ireturn, 1) := by decide +kernel
theorem dX7_years_150 : decode cX7_years 150 = .ok (.iinc 8 1, 3) := by decide +kernel
theorem dX7_years_153 : decode cX7_years 153 = .ok (.goto (-50), 3) := by decide +kernel
theorem dX7_years_156 : decode cX7_years 156 = .ok (.aload_n 0, 1) := by decide +kernel
theorem dX7_years_157 : decode cX7_years 157 = .ok (.invokevirtual 150, 3) := by decide +kernel
theorem dX7_years_160 : decode cX7_years 160 = .ok (.aload_n 0, 1) := by decide +kernel
theorem dX7_years_161 : decode cX7_years 161 = .ok (.getfield 105, 3) := by decide +kernel
theorem dX7_years_164 : decode cX7_years 164 = .ok (.istore 8, 2) := by decide +kernel
theorem dX7_years_166 : decode cX7_years 166 = .ok (.aload_n 0, 1) := by decide +kernel
theorem dX7_years_167 : decode cX7_years 167 = .ok (.iload 7, 2) := by decide +kernel
theorem dX7_years_169 : decode cX7_years 169 = .ok (.iload 4, 2) := by decide +kernel
theorem dX7_years_171 : decode cX7_years 171 = .ok (.invokevirtual 172, 3) := by decide +kernel
theorem dX7_years_174 : decode cX7_years 174 = .ok (.istore 9, 2) := by decide +kernel
theorem dX7_years_176 : decode cX7_years 176 = .ok (.aload_n 0, 1) := by decide +kernel
theorem dX7_years_177 : decode cX7_years 177 = .ok (.iload 5, 2) := by decide +kernel
theorem dX7_years_179 : decode cX7_years 179 = .ok (.invokevirtual 175, 3) := by decide +kernel
theorem dX7_years_182 : decode cX7_years 182 = .ok (.istore 10, 2) := by decide +kernel
theorem dX7_years_184 : decode cX7_years 184 = .ok (.aload_n 0, 1) := by decide +kernel
theorem dX7_years_185 : decode cX7_years 185 = .ok (.iload 8, 2) := by decide +kernel
theorem dX7_years_187 : decode cX7_years 187 = .ok (.putfield 105, 3) := by decide +kernel
theorem dX7_years_190 : decode cX7_years 190 = .ok (.iconst 0, 1) := by decide +kernel
theorem dX7_years_191 : decode cX7_years 191 = .ok (.istore 11, 2) := by decide +kernel
theorem dX7_years_193 : decode cX7_years 193 = .ok (.iload 11, 2) := by decide +kernel
theorem dX7_years_195 : decode cX7_years 195 = .ok (.aload_n 0, 1) := by decide +kernel
theorem dX7_years_196 : decode cX7_years 196 = .ok (.getfield 65, 3) := by decide +kernel
theorem dX7_years_199 : decode cX7_years 199 = .ok (.if_icmp .ge 23, 3) := by decide +kernel
theorem dX7_years_202 : decode cX7_years 202 = .ok (.aload_n 0, 1) := by decide +kernel
theorem dX7_years_203 : decode cX7_years 203 = .ok (.getfield 25, 3) := by decide +kernel
theorem dX7_years_206 : decode cX7_years 206 = .ok (.iload 11, 2) := by decide +kernel
theorem dX7_years_208 : decode cX7_years 208 = .ok (.aload_n 0, 1) := by decide +kernel
theorem dX7_years_209 : decode cX7_years 209 = .ok (.getfield 34, 3) := by decide +kernel
theorem dX7_years_212 : decode cX7_years 212 = .ok (.iload 11, 2) := by decide +kernel
theorem dX7_years_214 : decode cX7_years 214 = .ok (.iaload, 1) := by decide +kernel
theorem dX7_years_215 : decode cX7_years 215 = .ok (.iastore, 1) := by decide +kernel
theorem dX7_years_216 : decode cX7_years 216 = .ok (.iinc 11 1, 3) := by decide +kernel
theorem dX7_years_219 : decode cX7_years 219 = .ok (.goto (-26), 3) := by decide +kernel
theorem dX7_years_222 : decode cX7_years 222 = .ok (.iload 5, 2) := by decide +kernel
theorem dX7_years_224 : decode cX7_years 224 = .ok (.iconst 1, 1) := by decide +kernel
theorem dX7_years_225 : decode cX7_years 225 = .ok (.if_icmp .ne 8, 3) := by decide +kernel
theorem dX7_years_228 : decode cX7_years 228 = .ok (.iload 9, 2) := by decide +kernel
theorem dX7_years_230 : decode cX7_years 230 = .ok (.goto 20, 3) := by decide +kernel
theorem dX7_years_233 : decode cX7_years 233 = .ok (.iload 9, 2) := by decide +kernel
theorem dX7_years_235 : decode cX7_years 235 = .ok (.bipush (-9), 2) := by decide +kernel
theorem dX7_years_237 : decode cX7_years 237 = .ok (.if_icmp .ne 8, 3) := by decide +kernel
theorem dX7_years_240 : decode cX7_years 240 = .ok (.iload 10, 2) := by decide +kernel
theorem dX7_years_242 : decode cX7_years 242 = .ok (.goto 8, 3) := by decide +kernel
theorem dX7_years_245 : decode cX7_years 245 = .ok (.bipush (-100), 2) := by decide +kernel
theorem dX7_years_247 : decode cX7_years 247 = .ok (.iload 9, 2) := by decide +kernel
theorem dX7_years_249 : decode cX7_years 249 = .ok (.isub, 1) := by decide +kernel
theorem dX7_years_250 : decode cX7_years 250 = .ok (.ireturn, 1) := by decide +kernel
theorem dX7_tellYears_0 : decode cX7_tellYears 0 = .ok (.iload_n 1, 1) := by decide +kernel
theorem dX7_tellYears_1 : decode cX7_tellYears 1 = .ok (.bipush 10, 2) := by decide +kernel
theorem dX7_tellYears_3 : decode cX7_tellYears 3 = .ok (.if_icmp .lt 29, 3) := by decide +kernel
theorem dX7_tellYears_6 : decode cX7_tellYears 6 = .ok (.aload_n 0, 1) := by decide +kernel
theorem dX7_tellYears_7 : decode cX7_tellYears 7 = .ok (.iload_n 1, 1) := by decide +kernel
theorem dX7_tellYears_8 : decode cX7_tellYears 8 = .ok (.bipush 10, 2) := by decide +kernel
theorem dX7_tellYears_10 : decode cX7_tellYears 10 = .ok (.isub, 1) := by decide +kernel
theorem dX7_tellYears_11 : decode cX7_tellYears 11 = .ok (.invokevirtual 132, 3) := by decide +kernel
theorem dX7_tellYears_14 : decode cX7_tellYears 14 = .ok (.ifCond .eq 15, 3) := by decide +kernel
theorem dX7_tellYears_17 : decode cX7_tellYears 17 = .ok (.aload_n 0, 1) := by decide +kernel
theorem dX7_tellYears_18 : decode cX7_tellYears 18 = .ok (.getfield 25, 3) := by decide +kernel
theorem dX7_tellYears_21 : decode cX7_tellYears 21 = .ok (.iload_n 1, 1) := by decide +kernel
theorem dX7_tellYears_22 : decode cX7_tellYears 22 = .ok (.bipush 10, 2) := by decide +kernel
theorem dX7_tellYears_24 : decode cX7_tellYears 24 = .ok (.isub, 1) := by decide +kernel
theorem dX7_tellYears_25 : decode cX7_tellYears 25 = .ok (.iaload, 1) := by decide +kernel
theorem dX7_tellYears_26 : decode cX7_tellYears 26 = .ok (.goto 5, 3) := by decide +kernel
theorem dX7_tellYears_29 : decode cX7_tellYears 29 = .ok (.bipush (-9), 2) := by decide +kernel
theorem dX7_tellYears_31 : decode cX7_tellYears 31 = .ok (.ireturn, 1) := by decide +kernel
theorem dX7_tellYears_32 : decode cX7_tellYears 32 = .ok (.iload_n 1, 1) := by decide +kernel
theorem dX7_tellYears_33 : decode cX7_tellYears 33 = .ok (.tableswitch 73 0 3 #[31, 73, 36, 68], 31) := by decide +kernel
theorem dX7_tellYears_64 : decode cX7_tellYears 64 = .ok (.aload_n 0, 1) := by decide +kernel
theorem dX7_tellYears_65 : decode cX7_tellYears 65 = .ok (.getfield 105, 3) := by decide +kernel
theorem dX7_tellYears_68 : decode cX7_tellYears 68 = .ok (.ireturn, 1) := by decide +kernel
theorem dX7_tellYears_69 : decode cX7_tellYears 69 = .ok (.iconst 0, 1) := by decide +kernel
theorem dX7_tellYears_70 : decode cX7_tellYears 70 = .ok (.istore_n 2, 1) := by decide +kernel
theorem dX7_tellYears_71 : decode cX7_tellYears 71 = .ok (.iconst 0, 1) := by decide +kernel
theorem dX7_tellYears_72 : decode cX7_tellYears 72 = .ok (.istore_n 3, 1) := by decide +kernel
theorem dX7_tellYears_73 : decode cX7_tellYears 73 = .ok (.iload_n 3, 1) := by decide +kernel
theorem dX7_tellYears_74 : decode cX7_tellYears 74 = .ok (.aload_n 0, 1) := by decide +kernel
theorem dX7_tellYears_75 : decode cX7_tellYears 75 = .ok (.getfield 65, 3) := by decide +kernel
theorem dX7_tellYears_78 : decode cX7_tellYears 78 = .ok (.if_icmp .ge 21, 3) := by decide +kernel
theorem dX7_tellYears_81 : decode cX7_tellYears 81 = .ok (.iload_n 2, 1) := by decide +kernel
theorem dX7_tellYears_82 : decode cX7_tellYears 82 = .ok (.aload_n 0, 1) := by decide +kernel
theorem dX7_tellYears_83 : decode cX7_tellYears 83 = .ok (.getfield 25, 3) := by decide +kernel
theorem dX7_tellYears_86 : decode cX7_tellYears 86 = .ok (.iload_n 3, 1) := by decide +kernel
theorem dX7_tellYears_87 : decode cX7_tellYears 87 = .ok (.iaload, 1) := by decide +kernel
theorem dX7_tellYears_88 : decode cX7_tellYears 88 = .ok (.invokestatic 138, 3) := by decide +kernel
theorem dX7_tellYears_91 : decode cX7_tellYears 91 = .ok (.iadd, 1) := by decide +kernel
theorem dX7_tellYears_92 : decode cX7_tellYears 92 = .ok (.istore_n 2, 1) := by decide +kernel
theorem dX7_tellYears_93 : decode cX7_tellYears 93 = .ok (.iinc 3 1, 3) := by decide +kernel
theorem dX7_tellYears_96 : decode cX7_tellYears 96 = .ok (.goto (-23), 3) := by decide +kernel
theorem dX7_tellYears_99 : decode cX7_tellYears 99 = .ok (.iload_n 2, 1) := by decide +kernel
theorem dX7_tellYears_100 : decode cX7_tellYears 100 = .ok (.ireturn, 1) := by decide +kernel
theorem dX7_tellYears_101 : decode cX7_tellYears 101 = .ok (.aload_n 0, 1) := by decide +kernel
theorem dX7_tellYears_102 : decode cX7_tellYears 102 = .ok (.getfield 156, 3) := by decide +kernel
theorem dX7_tellYears_105 : decode cX7_tellYears 105 = .ok (.ireturn, 1) := by decide +kernel
theorem dX7_tellYears_106 : decode cX7_tellYears 106 = .ok (.aload_n 0, 1) := by decide +kernel
theorem dX7_tellYears_107 : decode cX7_tellYears 107 = .ok (.getfield 159, 3) := by decide +kernel
theorem dX7_tellYears_110 : decode cX7_tellYears 110 = .ok (.ireturn, 1) := by decide +kernel
theorem dX7_comesFrom_0 : decode cX7_comesFrom 0 = .ok (.iload_n 1, 1) := by decide +kernel
theorem dX7_comesFrom_1 : decode cX7_comesFrom 1 = .ok (.istore 4, 2) := by decide +kernel
theorem dX7_comesFrom_3 : decode cX7_comesFrom 3 = .ok (.iconst 0, 1) := by decide +kernel
theorem dX7_comesFrom_4 : decode cX7_comesFrom 4 = .ok (.istore 5, 2) := by decide +kernel
theorem dX7_comesFrom_6 : decode cX7_comesFrom 6 = .ok (.iload 5, 2) := by decide +kernel
theorem dX7_comesFrom_8 : decode cX7_comesFrom 8 = .ok (.bipush 64, 2) := by decide +kernel
theorem dX7_comesFrom_10 : decode cX7_comesFrom 10 = .ok (.if_icmp .ge 27, 3) := by decide +kernel
theorem dX7_comesFrom_13 : decode cX7_comesFrom 13 = .ok (.iload 4, 2) := by decide +kernel
theorem dX7_comesFrom_15 : decode cX7_comesFrom 15 = .ok (.iload_n 3, 1) := by decide +kernel
theorem dX7_comesFrom_16 : decode cX7_comesFrom 16 = .ok (.if_icmp .ne 6, 3) := by decide +kernel
theorem dX7_comesFrom_19 : decode cX7_comesFrom 19 = .ok (.iload 5, 2) := by decide +kernel
theorem dX7_comesFrom_21 : decode cX7_comesFrom 21 = .ok (.ireturn, 1) := by decide +kernel
theorem dX7_comesFrom_22 : decode cX7_comesFrom 22 = .ok (.aload_n 0, 1) := by decide +kernel
theorem dX7_comesFrom_23 : decode cX7_comesFrom 23 = .ok (.iload 4, 2) := by decide +kernel
theorem dX7_comesFrom_25 : decode cX7_comesFrom 25 = .ok (.iload_n 2, 1) := by decide +kernel
theorem dX7_comesFrom_26 : decode cX7_comesFrom 26 = .ok (.invokevirtual 147, 3) := by decide +kernel
theorem dX7_comesFrom_29 : decode cX7_comesFrom 29 = .ok (.istore 4, 2) := by decide +kernel
theorem dX7_comesFrom_31 : decode cX7_comesFrom 31 = .ok (.iinc 5 1, 3) := by decide +kernel
theorem dX7_comesFrom_34 : decode cX7_comesFrom 34 = .ok (.goto (-28), 3) := by decide +kernel
theorem dX7_comesFrom_37 : decode cX7_comesFrom 37 = .ok (.bipush (-9), 2) := by decide +kernel
theorem dX7_comesFrom_39 : decode cX7_comesFrom 39 = .ok (.ireturn, 1) := by decide +kernel
theorem dX7_comes_0 : decode cX7_comes 0 = .ok (.aload_n 0, 1) := by decide +kernel
theorem dX7_comes_1 : decode cX7_comes 1 = .ok (.iload_n 1, 1) := by decide +kernel
theorem dX7_comes_2 : decode cX7_comes 2 = .ok (.invokevirtual 132, 3) := by decide +kernel
theorem dX7_comes_5 : decode cX7_comes 5 = .ok (.ifCond .ne 5, 3) := by decide +kernel
theorem dX7_comes_8 : decode cX7_comes 8 = .ok (.iconst (-1), 1) := by decide +kernel
theorem dX7_comes_9 : decode cX7_comes 9 = .ok (.ireturn, 1) := by decide +kernel
theorem dX7_comes_10 : decode cX7_comes 10 = .ok (.iload_n 2, 1) := by decide +kernel
theorem dX7_comes_11 : decode cX7_comes 11 = .ok (.invokestatic 141, 3) := by decide +kernel
theorem dX7_comes_14 : decode cX7_comes 14 = .ok (.ifCond .eq 22, 3) := by decide +kernel
theorem dX7_comes_17 : decode cX7_comes 17 = .ok (.aload_n 0, 1) := by decide +kernel
theorem dX7_comes_18 : decode cX7_comes 18 = .ok (.aload_n 0, 1) := by decide +kernel
theorem dX7_comes_19 : decode cX7_comes 19 = .ok (.getfield 25, 3) := by decide +kernel
theorem dX7_comes_22 : decode cX7_comes 22 = .ok (.iload_n 1, 1) := by decide +kernel
theorem dX7_comes_23 : decode cX7_comes 23 = .ok (.iaload, 1) := by decide +kernel
theorem dX7_comes_24 : decode cX7_comes 24 = .ok (.aload_n 0, 1) := by decide +kernel
theorem dX7_comes_25 : decode cX7_comes 25 = .ok (.iload_n 1, 1) := by decide +kernel
theorem dX7_comes_26 : decode cX7_comes 26 = .ok (.invokevirtual 135, 3) := by decide +kernel
theorem dX7_comes_29 : decode cX7_comes 29 = .ok (.iload_n 2, 1) := by decide +kernel
theorem dX7_comes_30 : decode cX7_comes 30 = .ok (.invokevirtual 178, 3) := by decide +kernel
theorem dX7_comes_33 : decode cX7_comes 33 = .ok (.goto 5, 3) := by decide +kernel
theorem dX7_comes_36 : decode cX7_comes 36 = .ok (.bipush (-2), 2) := by decide +kernel
theorem dX7_comes_38 : decode cX7_comes 38 = .ok (.ireturn, 1) := by decide +kernel
theorem dX7_strokes_0 : decode cX7_strokes 0 = .ok (.aload_n 0, 1) := by decide +kernel
theorem dX7_strokes_1 : decode cX7_strokes 1 = .ok (.iload_n 1, 1) := by decide +kernel
theorem dX7_strokes_2 : decode cX7_strokes 2 = .ok (.invokevirtual 132, 3) := by decide +kernel
theorem dX7_strokes_5 : decode cX7_strokes 5 = .ok (.ifCond .ne 5, 3) := by decide +kernel
theorem dX7_strokes_8 : decode cX7_strokes 8 = .ok (.iconst (-1), 1) := by decide +kernel
theorem dX7_strokes_9 : decode cX7_strokes 9 = .ok (.ireturn, 1) := by decide +kernel
theorem dX7_strokes_10 : decode cX7_strokes 10 = .ok (.iload_n 2, 1) := by decide +kernel
theorem dX7_strokes_11 : decode cX7_strokes 11 = .ok (.invokestatic 141, 3) := by decide +kernel
theorem dX7_strokes_14 : decode cX7_strokes 14 = .ok (.ifCond .ne 6, 3) := by decide +kernel
theorem dX7_strokes_17 : decode cX7_strokes 17 = .ok (.bipush (-2), 2) := by decide +kernel
theorem dX7_strokes_19 : decode cX7_strokes 19 = .ok (.ireturn, 1) := by decide +kernel
theorem dX7_strokes_20 : decode cX7_strokes 20 = .ok (.bipush (-9), 2) := by decide +kernel
theorem dX7_strokes_22 : decode cX7_strokes 22 = .ok (.istore_n 3, 1) := by decide +kernel
theorem dX7_strokes_23 : decode cX7_strokes 23 = .ok (.iconst 0, 1) := by decide +kernel
theorem dX7_strokes_24 : decode cX7_strokes 24 = .ok (.istore 4, 2) := by decide +kernel
theorem dX7_strokes_26 : decode cX7_strokes 26 = .ok (.iload 4, 2) := by decide +kernel
theorem dX7_strokes_28 : decode cX7_strokes 28 = .ok (.bipush 64, 2) := by decide +kernel
theorem dX7_strokes_30 : decode cX7_strokes 30 = .ok (.if_icmp .ge 66, 3) := by decide +kernel
theorem dX7_strokes_33 : decode cX7_strokes 33 = .ok (.iload_n 3, 1) := by decide +kernel
theorem dX7_strokes_34 : decode cX7_strokes 34 = .ok (.bipush (-9), 2) := by decide +kernel
theorem dX7_strokes_36 : decode cX7_strokes 36 = .ok (.if_icmp .eq 15, 3) := by decide +kernel
theorem dX7_strokes_39 : decode cX7_strokes 39 = .ok (.iload 4, 2) := by decide +kernel
theorem dX7_strokes_41 : decode cX7_strokes 41 = .ok (.invokestatic 138, 3) := by decide +kernel
theorem dX7_strokes_44 : decode cX7_strokes 44 = .ok (.iload_n 3, 1) := by decide +kernel
theorem dX7_strokes_45 : decode cX7_strokes 45 = .ok (.invokestatic 138, 3) := by decide +kernel
theorem dX7_strokes_48 : decode cX7_strokes 48 = .ok (.if_icmp .ge 7, 3) := by decide +kernel
theorem dX7_strokes_51 : decode cX7_strokes 51 = .ok (.iconst 1, 1) := by decide +kernel
theorem dX7_strokes_52 : decode cX7_strokes 52 = .ok (.goto 4, 3) := by decide +kernel
theorem dX7_strokes_55 : decode cX7_strokes 55 = .ok (.iconst 0, 1) := by decide +kernel
theorem dX7_strokes_56 : decode cX7_strokes 56 = .ok (.istore 5, 2) := by decide +kernel
theorem dX7_strokes_58 : decode cX7_strokes 58 = .ok (.iload 5, 2) := by decide +kernel
theorem dX7_strokes_60 : decode cX7_strokes 60 = .ok (.ifCond .eq 30, 3) := by decide +kernel
theorem dX7_strokes_63 : decode cX7_strokes 63 = .ok (.aload_n 0, 1) := by decide +kernel
theorem dX7_strokes_64 : decode cX7_strokes 64 = .ok (.aload_n 0, 1) := by decide +kernel
theorem dX7_strokes_65 : decode cX7_strokes 65 = .ok (.getfield 25, 3) := by decide +kernel
theorem dX7_strokes_68 : decode cX7_strokes 68 = .ok (.iload_n 1, 1) := by decide +kernel
theorem dX7_strokes_69 : decode cX7_strokes 69 = .ok (.iaload, 1) := by decide +kernel
theorem dX7_strokes_70 : decode cX7_strokes 70 = .ok (.iload 4, 2) := by decide +kernel
theorem dX7_strokes_72 : decode cX7_strokes 72 = .ok (.ixor, 1) := by decide +kernel
theorem dX7_strokes_73 : decode cX7_strokes 73 = .ok (.aload_n 0, 1) := by decide +kernel
theorem dX7_strokes_74 : decode cX7_strokes 74 = .ok (.iload_n 1, 1) := by decide +kernel
theorem dX7_strokes_75 : decode cX7_strokes 75 = .ok (.invokevirtual 135, 3) := by decide +kernel
theorem dX7_strokes_78 : decode cX7_strokes 78 = .ok (.iload_n 2, 1) := by decide +kernel
theorem dX7_strokes_79 : decode cX7_strokes 79 = .ok (.invokevirtual 178, 3) := by decide +kernel
theorem dX7_strokes_82 : decode cX7_strokes 82 = .ok (.bipush (-9), 2) := by decide +kernel
theorem dX7_strokes_84 : decode cX7_strokes 84 = .ok (.if_icmp .eq 6, 3) := by decide +kernel
theorem dX7_strokes_87 : decode cX7_strokes 87 = .ok (.iload 4, 2) := by decide +kernel
theorem dX7_strokes_89 : decode cX7_strokes 89 = .ok (.istore_n 3, 1) := by decide +kernel
theorem dX7_strokes_90 : decode cX7_strokes 90 = .ok (.iinc 4 1, 3) := by decide +kernel
theorem dX7_strokes_93 : decode cX7_strokes 93 = .ok (.goto (-67), 3) := by decide +kernel
theorem dX7_strokes_96 : decode cX7_strokes 96 = .ok (.iload_n 3, 1) := by decide +kernel
theorem dX7_strokes_97 : decode cX7_strokes 97 = .ok (.ireturn, 1) := by decide +kernel
theorem dX7_round_0 : decode cX7_round 0 = .ok (.iload_n 1, 1) := by decide +kernel
theorem dX7_round_1 : decode cX7_round 1 = .ok (.invokestatic 141, 3) := by decide +kernel
theorem dX7_round_4 : decode cX7_round 4 = .ok (.ifCond .eq 12, 3) := by decide +kernel
theorem dX7_round_7 : decode cX7_round 7 = .ok (.iload_n 2, 1) := by decide +kernel
theorem dX7_round_8 : decode cX7_round 8 = .ok (.iconst 0, 1) := by decide +kernel
theorem dX7_round_9 : decode cX7_round 9 = .ok (.iconst 1, 1) := by decide +kernel
theorem dX7_round_10 : decode cX7_round 10 = .ok (.invokestatic 61, 3) := by decide +kernel
theorem dX7_round_13 : decode cX7_round 13 = .ok (.ifCond .ne 6, 3) := by decide +kernel
theorem dX7_round_16 : decode cX7_round 16 = .ok (.bipush (-2), 2) := by decide +kernel
theorem dX7_round_18 : decode cX7_round 18 = .ok (.ireturn, 1) := by decide +kernel
theorem dX7_round_19 : decode cX7_round 19 = .ok (.aload_n 0, 1) := by decide +kernel
theorem dX7_round_20 : decode cX7_round 20 = .ok (.getfield 65, 3) := by decide +kernel
theorem dX7_round_23 : decode cX7_round 23 = .ok (.ifCond .ne 6, 3) := by decide +kernel
theorem dX7_round_26 : decode cX7_round 26 = .ok (.bipush (-3), 2) := by decide +kernel
theorem dX7_round_28 : decode cX7_round 28 = .ok (.ireturn, 1) := by decide +kernel
theorem dX7_round_29 : decode cX7_round 29 = .ok (.aload_n 0, 1) := by decide +kernel
theorem dX7_round_30 : decode cX7_round 30 = .ok (.iload_n 1, 1) := by decide +kernel
theorem dX7_round_31 : decode cX7_round 31 = .ok (.bipush 64, 2) := by decide +kernel
theorem dX7_round_33 : decode cX7_round 33 = .ok (.invokevirtual 147, 3) := by decide +kernel
theorem dX7_round_36 : decode cX7_round 36 = .ok (.istore_n 3, 1) := by decide +kernel
theorem dX7_round_37 : decode cX7_round 37 = .ok (.iconst 1, 1) := by decide +kernel
theorem dX7_round_38 : decode cX7_round 38 = .ok (.istore 4, 2) := by decide +kernel
theorem dX7_round_40 : decode cX7_round 40 = .ok (.aload_n 0, 1) := by decide +kernel
theorem dX7_round_41 : decode cX7_round 41 = .ok (.getfield 19, 3) := by decide +kernel
theorem dX7_round_44 : decode cX7_round 44 = .ok (.iload_n 3, 1) := by decide +kernel
theorem dX7_round_45 : decode cX7_round 45 = .ok (.iaload, 1) := by decide +kernel
theorem dX7_round_46 : decode cX7_round 46 = .ok (.istore 5, 2) := by decide +kernel
theorem dX7_round_48 : decode cX7_round 48 = .ok (.iload 5, 2) := by decide +kernel
theorem dX7_round_50 : decode cX7_round 50 = .ok (.iload_n 3, 1) := by decide +kernel
theorem dX7_round_51 : decode cX7_round 51 = .ok (.if_icmp .eq 18, 3) := by decide +kernel
theorem dX7_round_54 : decode cX7_round 54 = .ok (.iinc 4 1, 3) := by decide +kernel
theorem dX7_round_57 : decode cX7_round 57 = .ok (.aload_n 0, 1) := by decide +kernel
theorem dX7_round_58 : decode cX7_round 58 = .ok (.getfield 19, 3) := by decide +kernel
theorem dX7_round_61 : decode cX7_round 61 = .ok (.iload 5, 2) := by decide +kernel
theorem dX7_round_63 : decode cX7_round 63 = .ok (.iaload, 1) := by decide +kernel
theorem dX7_round_64 : decode cX7_round 64 = .ok (.istore 5, 2) := by decide +kernel
theorem dX7_round_66 : decode cX7_round 66 = .ok (.goto (-18), 3) := by decide +kernel
theorem dX7_round_69 : decode cX7_round 69 = .ok (.iload_n 1, 1) := by decide +kernel
theorem dX7_round_70 : decode cX7_round 70 = .ok (.istore 5, 2) := by decide +kernel
theorem dX7_round_72 : decode cX7_round 72 = .ok (.aload_n 0, 1) := by decide +kernel
theorem dX7_round_73 : decode cX7_round 73 = .ok (.iload_n 1, 1) := by decide +kernel
theorem dX7_round_74 : decode cX7_round 74 = .ok (.iload 4, 2) := by decide +kernel
theorem dX7_round_76 : decode cX7_round 76 = .ok (.invokevirtual 147, 3) := by decide +kernel
theorem dX7_round_79 : decode cX7_round 79 = .ok (.istore 6, 2) := by decide +kernel
theorem dX7_round_81 : decode cX7_round 81 = .ok (.iconst 0, 1) := by decide +kernel
theorem dX7_round_82 : decode cX7_round 82 = .ok (.istore 7, 2) := by decide +kernel
theorem dX7_round_84 : decode cX7_round 84 = .ok (.iload 5, 2) := by decide +kernel
theorem dX7_round_86 : decode cX7_round 86 = .ok (.iload 6, 2) := by decide +kernel
theorem dX7_round_88 : decode cX7_round 88 = .ok (.if_icmp .eq 27, 3) := by decide +kernel
theorem dX7_round_91 : decode cX7_round 91 = .ok (.aload_n 0, 1) := by decide +kernel
theorem dX7_round_92 : decode cX7_round 92 = .ok (.getfield 19, 3) := by decide +kernel
theorem dX7_round_95 : decode cX7_round 95 = .ok (.iload 5, 2) := by decide +kernel
theorem dX7_round_97 : decode cX7_round 97 = .ok (.iaload, 1) := by decide +kernel
theorem dX7_round_98 : decode cX7_round 98 = .ok (.istore 5, 2) := by decide +kernel
theorem dX7_round_100 : decode cX7_round 100 = .ok (.aload_n 0, 1) := by decide +kernel
theorem dX7_round_101 : decode cX7_round 101 = .ok (.getfield 19, 3) := by decide +kernel
theorem dX7_round_104 : decode cX7_round 104 = .ok (.iload 6, 2) := by decide +kernel
theorem dX7_round_106 : decode cX7_round 106 = .ok (.iaload, 1) := by decide +kernel
theorem dX7_round_107 : decode cX7_round 107 = .ok (.istore 6, 2) := by decide +kernel
theorem dX7_round_109 : decode cX7_round 109 = .ok (.iinc 7 1, 3) := by decide +kernel
theorem dX7_round_112 : decode cX7_round 112 = .ok (.goto (-28), 3) := by decide +kernel
theorem dX7_round_115 : decode cX7_round 115 = .ok (.iload_n 2, 1) := by decide +kernel
theorem dX7_round_116 : decode cX7_round 116 = .ok (.ifCond .ne 8, 3) := by decide +kernel
theorem dX7_round_119 : decode cX7_round 119 = .ok (.iload 7, 2) := by decide +kernel
theorem dX7_round_121 : decode cX7_round 121 = .ok (.goto 5, 3) := by decide +kernel
theorem dX7_round_124 : decode cX7_round 124 = .ok (.iload 4, 2) := by decide +kernel
theorem dX7_round_126 : decode cX7_round 126 = .ok (.ireturn, 1) := by decide +kernel
theorem dX7_eden_0 : decode cX7_eden 0 = .ok (.iload_n 1, 1) := by decide +kernel
theorem dX7_eden_1 : decode cX7_eden 1 = .ok (.invokestatic 141, 3) := by decide +kernel
theorem dX7_eden_4 : decode cX7_eden 4 = .ok (.ifCond .eq 10, 3) := by decide +kernel
theorem dX7_eden_7 : decode cX7_eden 7 = .ok (.aload_n 0, 1) := by decide +kernel
theorem dX7_eden_8 : decode cX7_eden 8 = .ok (.getfield 65, 3) := by decide +kernel
theorem dX7_eden_11 : decode cX7_eden 11 = .ok (.ifCond .ne 7, 3) := by decide +kernel
theorem dX7_eden_14 : decode cX7_eden 14 = .ok (.ldc2_w 59, 3) := by decide +kernel
theorem dX7_eden_17 : decode cX7_eden 17 = .ok (.lreturn, 1) := by decide +kernel
theorem dX7_eden_18 : decode cX7_eden 18 = .ok (.lconst 0, 1) := by decide +kernel
theorem dX7_eden_19 : decode cX7_eden 19 = .ok (.lstore_n 2, 1) := by decide +kernel
theorem dX7_eden_20 : decode cX7_eden 20 = .ok (.iconst 0, 1) := by decide +kernel
theorem dX7_eden_21 : decode cX7_eden 21 = .ok (.istore 4, 2) := by decide +kernel
theorem dX7_eden_23 : decode cX7_eden 23 = .ok (.iload 4, 2) := by decide +kernel
theorem dX7_eden_25 : decode cX7_eden 25 = .ok (.bipush 64, 2) := by decide +kernel
theorem dX7_eden_27 : decode cX7_eden 27 = .ok (.if_icmp .ge 31, 3) := by decide +kernel
theorem dX7_eden_30 : decode cX7_eden 30 = .ok (.lload_n 2, 1) := by decide +kernel
theorem dX7_eden_31 : decode cX7_eden 31 = .ok (.aload_n 0, 1) := by decide +kernel
theorem dX7_eden_32 : decode cX7_eden 32 = .ok (.getfield 19, 3) := by decide +kernel
theorem dX7_eden_35 : decode cX7_eden 35 = .ok (.iload 4, 2) := by decide +kernel
theorem dX7_eden_37 : decode cX7_eden 37 = .ok (.iaload, 1) := by decide +kernel
theorem dX7_eden_38 : decode cX7_eden 38 = .ok (.iload_n 1, 1) := by decide +kernel
theorem dX7_eden_39 : decode cX7_eden 39 = .ok (.if_icmp .ne 10, 3) := by decide +kernel
theorem dX7_eden_42 : decode cX7_eden 42 = .ok (.lconst 1, 1) := by decide +kernel
theorem dX7_eden_43 : decode cX7_eden 43 = .ok (.iload 4, 2) := by decide +kernel
theorem dX7_eden_45 : decode cX7_eden 45 = .ok (.lshl, 1) := by decide +kernel
theorem dX7_eden_46 : decode cX7_eden 46 = .ok (.goto 4, 3) := by decide +kernel
theorem dX7_eden_49 : decode cX7_eden 49 = .ok (.lconst 0, 1) := by decide +kernel
theorem dX7_eden_50 : decode cX7_eden 50 = .ok (.lor, 1) := by decide +kernel
theorem dX7_eden_51 : decode cX7_eden 51 = .ok (.lstore_n 2, 1) := by decide +kernel
theorem dX7_eden_52 : decode cX7_eden 52 = .ok (.iinc 4 1, 3) := by decide +kernel
theorem dX7_eden_55 : decode cX7_eden 55 = .ok (.goto (-32), 3) := by decide +kernel
theorem dX7_eden_58 : decode cX7_eden 58 = .ok (.lload_n 2, 1) := by decide +kernel
theorem dX7_eden_59 : decode cX7_eden 59 = .ok (.lreturn, 1) := by decide +kernel
theorem dX7_alike_0 : decode cX7_alike 0 = .ok (.aload_n 0, 1) := by decide +kernel
theorem dX7_alike_1 : decode cX7_alike 1 = .ok (.iload_n 1, 1) := by decide +kernel
theorem dX7_alike_2 : decode cX7_alike 2 = .ok (.invokevirtual 132, 3) := by decide +kernel
theorem dX7_alike_5 : decode cX7_alike 5 = .ok (.ifCond .eq 16, 3) := by decide +kernel
theorem dX7_alike_8 : decode cX7_alike 8 = .ok (.aload_n 0, 1) := by decide +kernel
theorem dX7_alike_9 : decode cX7_alike 9 = .ok (.iload_n 2, 1) := by decide +kernel
theorem dX7_alike_10 : decode cX7_alike 10 = .ok (.invokevirtual 132, 3) := by decide +kernel
theorem dX7_alike_13 : decode cX7_alike 13 = .ok (.ifCond .eq 8, 3) := by decide +kernel
theorem dX7_alike_16 : decode cX7_alike 16 = .ok (.iload_n 1, 1) := by decide +kernel
theorem dX7_alike_17 : decode cX7_alike 17 = .ok (.iload_n 2, 1) := by decide +kernel
theorem dX7_alike_18 : decode cX7_alike 18 = .ok (.if_icmp .ne 5, 3) := by decide +kernel
theorem dX7_alike_21 : decode cX7_alike 21 = .ok (.iconst (-1), 1) := by decide +kernel
theorem dX7_alike_22 : decode cX7_alike 22 = .ok (.ireturn, 1) := by decide +kernel
theorem dX7_alike_23 : decode cX7_alike 23 = .ok (.aload_n 0, 1) := by decide +kernel
theorem dX7_alike_24 : decode cX7_alike 24 = .ok (.getfield 25, 3) := by decide +kernel
theorem dX7_alike_27 : decode cX7_alike 27 = .ok (.iload_n 1, 1) := by decide +kernel
theorem dX7_alike_28 : decode cX7_alike 28 = .ok (.iaload, 1) := by decide +kernel
theorem dX7_alike_29 : decode cX7_alike 29 = .ok (.istore_n 3, 1) := by decide +kernel
theorem dX7_alike_30 : decode cX7_alike 30 = .ok (.aload_n 0, 1) := by decide +kernel
theorem dX7_alike_31 : decode cX7_alike 31 = .ok (.getfield 25, 3) := by decide +kernel
theorem dX7_alike_34 : decode cX7_alike 34 = .ok (.iload_n 2, 1) := by decide +kernel
theorem dX7_alike_35 : decode cX7_alike 35 = .ok (.iaload, 1) := by decide +kernel
theorem dX7_alike_36 : decode cX7_alike 36 = .ok (.istore 4, 2) := by decide +kernel
theorem dX7_alike_38 : decode cX7_alike 38 = .ok (.iconst 0, 1) := by decide +kernel
theorem dX7_alike_39 : decode cX7_alike 39 = .ok (.istore 5, 2) := by decide +kernel
theorem dX7_alike_41 : decode cX7_alike 41 = .ok (.iload 5, 2) := by decide +kernel
theorem dX7_alike_43 : decode cX7_alike 43 = .ok (.bipush 99, 2) := by decide +kernel
theorem dX7_alike_45 : decode cX7_alike 45 = .ok (.if_icmp .gt 42, 3) := by decide +kernel
theorem dX7_alike_48 : decode cX7_alike 48 = .ok (.iload_n 3, 1) := by decide +kernel
theorem dX7_alike_49 : decode cX7_alike 49 = .ok (.iload 4, 2) := by decide +kernel
theorem dX7_alike_51 : decode cX7_alike 51 = .ok (.if_icmp .ne 6, 3) := by decide +kernel
theorem dX7_alike_54 : decode cX7_alike 54 = .ok (.iload 5, 2) := by decide +kernel
theorem dX7_alike_56 : decode cX7_alike 56 = .ok (.ireturn, 1) := by decide +kernel
theorem dX7_alike_57 : decode cX7_alike 57 = .ok (.aload_n 0, 1) := by decide +kernel
theorem dX7_alike_58 : decode cX7_alike 58 = .ok (.iload_n 3, 1) := by decide +kernel
theorem dX7_alike_59 : decode cX7_alike 59 = .ok (.aload_n 0, 1) := by decide +kernel
theorem dX7_alike_60 : decode cX7_alike 60 = .ok (.iload_n 1, 1) := by decide +kernel
theorem dX7_alike_61 : decode cX7_alike 61 = .ok (.invokevirtual 135, 3) := by decide +kernel
theorem dX7_alike_64 : decode cX7_alike 64 = .ok (.invokevirtual 147, 3) := by decide +kernel
theorem dX7_alike_67 : decode cX7_alike 67 = .ok (.istore_n 3, 1) := by decide +kernel
theorem dX7_alike_68 : decode cX7_alike 68 = .ok (.aload_n 0, 1) := by decide +kernel
theorem dX7_alike_69 : decode cX7_alike 69 = .ok (.iload 4, 2) := by decide +kernel
theorem dX7_alike_71 : decode cX7_alike 71 = .ok (.aload_n 0, 1) := by decide +kernel
theorem dX7_alike_72 : decode cX7_alike 72 = .ok (.iload_n 2, 1) := by decide +kernel
theorem dX7_alike_73 : decode cX7_alike 73 = .ok (.invokevirtual 135, 3) := by decide +kernel
theorem dX7_alike_76 : decode cX7_alike 76 = .ok (.invokevirtual 147, 3) := by decide +kernel
theorem dX7_alike_79 : decode cX7_alike 79 = .ok (.istore 4, 2) := by decide +kernel
theorem dX7_alike_81 : decode cX7_alike 81 = .ok (.iinc 5 1, 3) := by decide +kernel
theorem dX7_alike_84 : decode cX7_alike 84 = .ok (.goto (-43), 3) := by decide +kernel
theorem dX7_alike_87 : decode cX7_alike 87 = .ok (.bipush (-9), 2) := by decide +kernel
theorem dX7_alike_89 : decode cX7_alike 89 = .ok (.ireturn, 1) := by decide +kernel
theorem dX7_findMust_0 : decode cX7_findMust 0 = .ok (.aload_n 0, 1) := by decide +kernel
theorem dX7_findMust_1 : decode cX7_findMust 1 = .ok (.iconst 0, 1) := by decide +kernel
theorem dX7_findMust_2 : decode cX7_findMust 2 = .ok (.putfield 181, 3) := by decide +kernel
theorem dX7_findMust_5 : decode cX7_findMust 5 = .ok (.aload_n 0, 1) := by decide +kernel
theorem dX7_findMust_6 : decode cX7_findMust 6 = .ok (.iconst 0, 1) := by decide +kernel
theorem dX7_findMust_7 : decode cX7_findMust 7 = .ok (.putfield 184, 3) := by decide +kernel
theorem dX7_findMust_10 : decode cX7_findMust 10 = .ok (.iconst 1, 1) := by decide +kernel
theorem dX7_findMust_11 : decode cX7_findMust 11 = .ok (.istore_n 3, 1) := by decide +kernel
theorem dX7_findMust_12 : decode cX7_findMust 12 = .ok (.iload_n 3, 1) := by decide +kernel
theorem dX7_findMust_13 : decode cX7_findMust 13 = .ok (.iload_n 2, 1) := by decide +kernel
theorem dX7_findMust_14 : decode cX7_findMust 14 = .ok (.if_icmp .ge 99, 3) := by decide +kernel
theorem dX7_findMust_17 : decode cX7_findMust 17 = .ok (.iconst 0, 1) := by decide +kernel
theorem dX7_findMust_18 : decode cX7_findMust 18 = .ok (.istore 4, 2) := by decide +kernel
theorem dX7_findMust_20 : decode cX7_findMust 20 = .ok (.iload 4, 2) := by decide +kernel
theorem dX7_findMust_22 : decode cX7_findMust 22 = .ok (.bipush 6, 2) := by decide +kernel
theorem dX7_findMust_24 : decode cX7_findMust 24 = .ok (.if_icmp .ge 83, 3) := by decide +kernel
theorem dX7_findMust_27 : decode cX7_findMust 27 = .ok (.iconst 1, 1) := by decide +kernel
theorem dX7_findMust_28 : decode cX7_findMust 28 = .ok (.aload_n 0, 1) := by decide +kernel
theorem dX7_findMust_29 : decode cX7_findMust 29 = .ok (.getfield 16, 3) := by decide +kernel
theorem dX7_findMust_32 : decode cX7_findMust 32 = .ok (.iload_n 1, 1) := by decide +kernel
theorem dX7_findMust_33 : decode cX7_findMust 33 = .ok (.iload_n 3, 1) := by decide +kernel
theorem dX7_findMust_34 : decode cX7_findMust 34 = .ok (.iadd, 1) := by decide +kernel
theorem dX7_findMust_35 : decode cX7_findMust 35 = .ok (.iconst 1, 1) := by decide +kernel
theorem dX7_findMust_36 : decode cX7_findMust 36 = .ok (.isub, 1) := by decide +kernel
theorem dX7_findMust_37 : decode cX7_findMust 37 = .ok (.iaload, 1) := by decide +kernel
theorem dX7_findMust_38 : decode cX7_findMust 38 = .ok (.iload 4, 2) := by decide +kernel
theorem dX7_findMust_40 : decode cX7_findMust 40 = .ok (.invokestatic 114, 3) := by decide +kernel
theorem dX7_findMust_43 : decode cX7_findMust 43 = .ok (.ishl, 1) := by decide +kernel
theorem dX7_findMust_44 : decode cX7_findMust 44 = .ok (.istore 5, 2) := by decide +kernel
theorem dX7_findMust_46 : decode cX7_findMust 46 = .ok (.aload_n 0, 1) := by decide +kernel
theorem dX7_findMust_47 : decode cX7_findMust 47 = .ok (.getfield 16, 3) := by decide +kernel
theorem dX7_findMust_50 : decode cX7_findMust 50 = .ok (.iload_n 1, 1) := by decide +kernel
theorem dX7_findMust_51 : decode cX7_findMust 51 = .ok (.iload_n 3, 1) := by decide +kernel
theorem dX7_findMust_52 : decode cX7_findMust 52 = .ok (.iadd, 1) := by decide +kernel
theorem dX7_findMust_53 : decode cX7_findMust 53 = .ok (.iaload, 1) := by decide +kernel
theorem dX7_findMust_54 : decode cX7_findMust 54 = .ok (.iload 4, 2) := by decide +kernel
theorem dX7_findMust_56 : decode cX7_findMust 56 = .ok (.invokestatic 144, 3) := by decide +kernel
theorem dX7_findMust_59 : decode cX7_findMust 59 = .ok (.istore 6, 2) := by decide +kernel
theorem dX7_findMust_61 : decode cX7_findMust 61 = .ok (.aload_n 0, 1) := by decide +kernel
theorem dX7_findMust_62 : decode cX7_findMust 62 = .ok (.dup, 1) := by decide +kernel
theorem dX7_findMust_63 : decode cX7_findMust 63 = .ok (.getfield 181, 3) := by decide +kernel
theorem dX7_findMust_66 : decode cX7_findMust 66 = .ok (.iload 6, 2) := by decide +kernel
theorem dX7_findMust_68 : decode cX7_findMust 68 = .ok (.ifCond .eq 8, 3) := by decide +kernel
theorem dX7_findMust_71 : decode cX7_findMust 71 = .ok (.iload 5, 2) := by decide +kernel
theorem dX7_findMust_73 : decode cX7_findMust 73 = .ok (.goto 4, 3) := by decide +kernel
theorem dX7_findMust_76 : decode cX7_findMust 76 = .ok (.iconst 0, 1) := by decide +kernel
theorem dX7_findMust_77 : decode cX7_findMust 77 = .ok (.ior, 1) := by decide +kernel
theorem dX7_findMust_78 : decode cX7_findMust 78 = .ok (.putfield 181, 3) := by decide +kernel
theorem dX7_findMust_81 : decode cX7_findMust 81 = .ok (.aload_n 0, 1) := by decide +kernel
theorem dX7_findMust_82 : decode cX7_findMust 82 = .ok (.dup, 1) := by decide +kernel
theorem dX7_findMust_83 : decode cX7_findMust 83 = .ok (.getfield 184, 3) := by decide +kernel
theorem dX7_findMust_86 : decode cX7_findMust 86 = .ok (.iload 6, 2) := by decide +kernel
theorem dX7_findMust_88 : decode cX7_findMust 88 = .ok (.ifCond .eq 7, 3) := by decide +kernel
theorem dX7_findMust_91 : decode cX7_findMust 91 = .ok (.iconst 0, 1) := by decide +kernel
theorem dX7_findMust_92 : decode cX7_findMust 92 = .ok (.goto 5, 3) := by decide +kernel
theorem dX7_findMust_95 : decode cX7_findMust 95 = .ok (.iload 5, 2) := by decide +kernel
theorem dX7_findMust_97 : decode cX7_findMust 97 = .ok (.ior, 1) := by decide +kernel
theorem dX7_findMust_98 : decode cX7_findMust 98 = .ok (.putfield 184, 3) := by decide +kernel
theorem dX7_findMust_101 : decode cX7_findMust 101 = .ok (.iinc 4 1, 3) := by decide +kernel
theorem dX7_findMust_104 : decode cX7_findMust 104 = .ok (.goto (-84), 3) := by decide +kernel
theorem dX7_findMust_107 : decode cX7_findMust 107 = .ok (.iinc 3 1, 3) := by decide +kernel
theorem dX7_findMust_110 : decode cX7_findMust 110 = .ok (.goto (-98), 3) := by decide +kernel
theorem dX7_findMust_113 : decode cX7_findMust 113 = .ok (.return_, 1) := by decide +kernel
theorem dX7_laws_0 : decode cX7_laws 0 = .ok (.aload_n 0, 1) := by decide +kernel
theorem dX7_laws_1 : decode cX7_laws 1 = .ok (.iconst 0, 1) := by decide +kernel
theorem dX7_laws_2 : decode cX7_laws 2 = .ok (.putfield 55, 3) := by decide +kernel
theorem dX7_laws_5 : decode cX7_laws 5 = .ok (.iload_n 1, 1) := by decide +kernel
theorem dX7_laws_6 : decode cX7_laws 6 = .ok (.invokestatic 71, 3) := by decide +kernel
theorem dX7_laws_9 : decode cX7_laws 9 = .ok (.ifCond .ne 5, 3) := by decide +kernel
theorem dX7_laws_12 : decode cX7_laws 12 = .ok (.iconst (-1), 1) := by decide +kernel
theorem dX7_laws_13 : decode cX7_laws 13 = .ok (.ireturn, 1) := by decide +kernel
theorem dX7_laws_14 : decode cX7_laws 14 = .ok (.iload_n 2, 1) := by decide +kernel
theorem dX7_laws_15 : decode cX7_laws 15 = .ok (.invokestatic 75, 3) := by decide +kernel
theorem dX7_laws_18 : decode cX7_laws 18 = .ok (.ifCond .eq 24, 3) := by decide +kernel
theorem dX7_laws_21 : decode cX7_laws 21 = .ok (.iload 4, 2) := by decide +kernel
theorem dX7_laws_23 : decode cX7_laws 23 = .ok (.iconst 0, 1) := by decide +kernel
theorem dX7_laws_24 : decode cX7_laws 24 = .ok (.bipush 20, 2) := by decide +kernel
theorem dX7_laws_26 : decode cX7_laws 26 = .ok (.invokestatic 61, 3) := by decide +kernel
theorem dX7_laws_29 : decode cX7_laws 29 = .ok (.ifCond .eq 13, 3) := by decide +kernel
theorem dX7_laws_32 : decode cX7_laws 32 = .ok (.iload 5, 2) := by decide +kernel
theorem dX7_laws_34 : decode cX7_laws 34 = .ok (.iconst 0, 1) := by decide +kernel
theorem dX7_laws_35 : decode cX7_laws 35 = .ok (.iconst 2, 1) := by decide +kernel
theorem dX7_laws_36 : decode cX7_laws 36 = .ok (.invokestatic 61, 3) := by decide +kernel
theorem dX7_laws_39 : decode cX7_laws 39 = .ok (.ifCond .ne 6, 3) := by decide +kernel
theorem dX7_laws_42 : decode cX7_laws 42 = .ok (.bipush (-2), 2) := by decide +kernel
theorem dX7_laws_44 : decode cX7_laws 44 = .ok (.ireturn, 1) := by decide +kernel
theorem dX7_laws_45 : decode cX7_laws 45 = .ok (.aload_n 0, 1) := by decide +kernel
theorem dX7_laws_46 : decode cX7_laws 46 = .ok (.iload_n 1, 1) := by decide +kernel
theorem dX7_laws_47 : decode cX7_laws 47 = .ok (.iload_n 2, 1) := by decide +kernel
theorem dX7_laws_48 : decode cX7_laws 48 = .ok (.iload_n 3, 1) := by decide +kernel
theorem dX7_laws_49 : decode cX7_laws 49 = .ok (.iload 4, 2) := by decide +kernel
theorem dX7_laws_51 : decode cX7_laws 51 = .ok (.invokevirtual 78, 3) := by decide +kernel
theorem dX7_laws_54 : decode cX7_laws 54 = .ok (.istore 6, 2) := by decide +kernel
theorem dX7_laws_56 : decode cX7_laws 56 = .ok (.iload 6, 2) := by decide +kernel
theorem dX7_laws_58 : decode cX7_laws 58 = .ok (.ifCond .eq 10, 3) := by decide +kernel
theorem dX7_laws_61 : decode cX7_laws 61 = .ok (.aload_n 0, 1) := by decide +kernel
theorem dX7_laws_62 : decode cX7_laws 62 = .ok (.iload 6, 2) := by decide +kernel
theorem dX7_laws_64 : decode cX7_laws 64 = .ok (.invokevirtual 82, 3) := by decide +kernel
theorem dX7_laws_67 : decode cX7_laws 67 = .ok (.ireturn, 1) := by decide +kernel
theorem dX7_laws_68 : decode cX7_laws 68 = .ok (.bipush 60, 2) := by decide +kernel
theorem dX7_laws_70 : decode cX7_laws 70 = .ok (.iload_n 1, 1) := by decide +kernel
theorem dX7_laws_71 : decode cX7_laws 71 = .ok (.imul, 1) := by decide +kernel
theorem dX7_laws_72 : decode cX7_laws 72 = .ok (.iload_n 3, 1) := by decide +kernel
theorem dX7_laws_73 : decode cX7_laws 73 = .ok (.iadd, 1) := by decide +kernel
theorem dX7_laws_74 : decode cX7_laws 74 = .ok (.istore 7, 2) := by decide +kernel
theorem dX7_laws_76 : decode cX7_laws 76 = .ok (.iconst 0, 1) := by decide +kernel
theorem dX7_laws_77 : decode cX7_laws 77 = .ok (.istore 8, 2) := by decide +kernel
theorem dX7_laws_79 : decode cX7_laws 79 = .ok (.iload 8, 2) := by decide +kernel
theorem dX7_laws_81 : decode cX7_laws 81 = .ok (.iload 4, 2) := by decide +kernel
theorem dX7_laws_83 : decode cX7_laws 83 = .ok (.if_icmp .ge 28, 3) := by decide +kernel
theorem dX7_laws_86 : decode cX7_laws 86 = .ok (.aload_n 0, 1) := by decide +kernel
theorem dX7_laws_87 : decode cX7_laws 87 = .ok (.getfield 16, 3) := by decide +kernel
theorem dX7_laws_90 : decode cX7_laws 90 = .ok (.iload 7, 2) := by decide +kernel
theorem dX7_laws_92 : decode cX7_laws 92 = .ok (.iload 8, 2) := by decide +kernel
theorem dX7_laws_94 : decode cX7_laws 94 = .ok (.iadd, 1) := by decide +kernel
theorem dX7_laws_95 : decode cX7_laws 95 = .ok (.iaload, 1) := by decide +kernel
theorem dX7_laws_96 : decode cX7_laws 96 = .ok (.invokestatic 141, 3) := by decide +kernel
theorem dX7_laws_99 : decode cX7_laws 99 = .ok (.ifCond .ne 6, 3) := by decide +kernel
theorem dX7_laws_102 : decode cX7_laws 102 = .ok (.bipush (-2), 2) := by decide +kernel
theorem dX7_laws_104 : decode cX7_laws 104 = .ok (.ireturn, 1) := by decide +kernel
theorem dX7_laws_105 : decode cX7_laws 105 = .ok (.iinc 8 1, 3) := by decide +kernel
theorem dX7_laws_108 : decode cX7_laws 108 = .ok (.goto (-29), 3) := by decide +kernel
theorem dX7_laws_111 : decode cX7_laws 111 = .ok (.aload_n 0, 1) := by decide +kernel
theorem dX7_laws_112 : decode cX7_laws 112 = .ok (.iload 7, 2) := by decide +kernel
theorem dX7_laws_114 : decode cX7_laws 114 = .ok (.iload 4, 2) := by decide +kernel
theorem dX7_laws_116 : decode cX7_laws 116 = .ok (.invokevirtual 187, 3) := by decide +kernel
theorem dX7_laws_119 : decode cX7_laws 119 = .ok (.aload_n 0, 1) := by decide +kernel
theorem dX7_laws_120 : decode cX7_laws 120 = .ok (.getfield 181, 3) := by decide +kernel
theorem dX7_laws_123 : decode cX7_laws 123 = .ok (.aload_n 0, 1) := by decide +kernel
theorem dX7_laws_124 : decode cX7_laws 124 = .ok (.getfield 184, 3) := by decide +kernel
theorem dX7_laws_127 : decode cX7_laws 127 = .ok (.iand, 1) := by decide +kernel
theorem dX7_laws_128 : decode cX7_laws 128 = .ok (.ifCond .eq 15, 3) := by decide +kernel
theorem dX7_laws_131 : decode cX7_laws 131 = .ok (.iload 5, 2) := by decide +kernel
theorem dX7_laws_133 : decode cX7_laws 133 = .ok (.ifCond .ne 7, 3) := by decide +kernel
theorem dX7_laws_136 : decode cX7_laws 136 = .ok (.iconst 0, 1) := by decide +kernel
theorem dX7_laws_137 : decode cX7_laws 137 = .ok (.goto 5, 3) := by decide +kernel
theorem dX7_laws_140 : decode cX7_laws 140 = .ok (.bipush (-9), 2) := by decide +kernel
theorem dX7_laws_142 : decode cX7_laws 142 = .ok (.ireturn, 1) := by decide +kernel
theorem dX7_laws_143 : decode cX7_laws 143 = .ok (.iload 5, 2) := by decide +kernel
theorem dX7_laws_145 : decode cX7_laws 145 = .ok (.ifCond .ne 23, 3) := by decide +kernel
theorem dX7_laws_148 : decode cX7_laws 148 = .ok (.iconst 1, 1) := by decide +kernel
theorem dX7_laws_149 : decode cX7_laws 149 = .ok (.bipush 8, 2) := by decide +kernel
theorem dX7_laws_151 : decode cX7_laws 151 = .ok (.aload_n 0, 1) := by decide +kernel
theorem dX7_laws_152 : decode cX7_laws 152 = .ok (.getfield 181, 3) := by decide +kernel
theorem dX7_laws_155 : decode cX7_laws 155 = .ok (.aload_n 0, 1) := by decide +kernel
theorem dX7_laws_156 : decode cX7_laws 156 = .ok (.getfield 184, 3) := by decide +kernel
theorem dX7_laws_159 : decode cX7_laws 159 = .ok (.ior, 1) := by decide +kernel
theorem dX7_laws_160 : decode cX7_laws 160 = .ok (.invokestatic 138, 3) := by decide +kernel
theorem dX7_laws_163 : decode cX7_laws 163 = .ok (.isub, 1) := by decide +kernel
theorem dX7_laws_164 : decode cX7_laws 164 = .ok (.ishl, 1) := by decide +kernel
theorem dX7_laws_165 : decode cX7_laws 165 = .ok (.goto 26, 3) := by decide +kernel
theorem dX7_laws_168 : decode cX7_laws 168 = .ok (.iload 5, 2) := by decide +kernel
theorem dX7_laws_170 : decode cX7_laws 170 = .ok (.iconst 1, 1) := by decide +kernel
theorem dX7_laws_171 : decode cX7_laws 171 = .ok (.if_icmp .ne 10, 3) := by decide +kernel
theorem dX7_laws_174 : decode cX7_laws 174 = .ok (.aload_n 0, 1) := by decide +kernel
theorem dX7_laws_175 : decode cX7_laws 175 = .ok (.getfield 181, 3) := by decide +kernel
theorem dX7_laws_178 : decode cX7_laws 178 = .ok (.goto 13, 3) := by decide +kernel
theorem dX7_laws_181 : decode cX7_laws 181 = .ok (.sipush 255, 3) := by decide +kernel
theorem dX7_laws_184 : decode cX7_laws 184 = .ok (.aload_n 0, 1) := by decide +kernel
theorem dX7_laws_185 : decode cX7_laws 185 = .ok (.getfield 184, 3) := by decide +kernel
theorem dX7_laws_188 : decode cX7_laws 188 = .ok (.iconst (-1), 1) := by decide +kernel
theorem dX7_laws_189 : decode cX7_laws 189 = .ok (.ixor, 1) := by decide +kernel
theorem dX7_laws_190 : decode cX7_laws 190 = .ok (.iand, 1) := by decide +kernel
theorem dX7_laws_191 : decode cX7_laws 191 = .ok (.ireturn, 1) := by decide +kernel
theorem dX7_reading_0 : decode cX7_reading 0 = .ok (.aload_n 0, 1) := by decide +kernel
theorem dX7_reading_1 : decode cX7_reading 1 = .ok (.iload_n 1, 1) := by decide +kernel
theorem dX7_reading_2 : decode cX7_reading 2 = .ok (.invokevirtual 132, 3) := by decide +kernel
theorem dX7_reading_5 : decode cX7_reading 5 = .ok (.ifCond .ne 5, 3) := by decide +kernel
theorem dX7_reading_8 : decode cX7_reading 8 = .ok (.iconst (-1), 1) := by decide +kernel
theorem dX7_reading_9 : decode cX7_reading 9 = .ok (.ireturn, 1) := by decide +kernel
theorem dX7_reading_10 : decode cX7_reading 10 = .ok (.iload_n 2, 1) := by decide +kernel
theorem dX7_reading_11 : decode cX7_reading 11 = .ok (.iconst 0, 1) := by decide +kernel
theorem dX7_reading_12 : decode cX7_reading 12 = .ok (.bipush 99, 2) := by decide +kernel
theorem dX7_reading_14 : decode cX7_reading 14 = .ok (.invokestatic 61, 3) := by decide +kernel
theorem dX7_reading_17 : decode cX7_reading 17 = .ok (.ifCond .eq 10, 3) := by decide +kernel
theorem dX7_reading_20 : decode cX7_reading 20 = .ok (.iload_n 3, 1) := by decide +kernel
theorem dX7_reading_21 : decode cX7_reading 21 = .ok (.invokestatic 141, 3) := by decide +kernel
theorem dX7_reading_24 : decode cX7_reading 24 = .ok (.ifCond .ne 6, 3) := by decide +kernel
theorem dX7_reading_27 : decode cX7_reading 27 = .ok (.bipush (-2), 2) := by decide +kernel
theorem dX7_reading_29 : decode cX7_reading 29 = .ok (.ireturn, 1) := by decide +kernel
theorem dX7_reading_30 : decode cX7_reading 30 = .ok (.aload_n 0, 1) := by decide +kernel
theorem dX7_reading_31 : decode cX7_reading 31 = .ok (.getfield 108, 3) := by decide +kernel
theorem dX7_reading_34 : decode cX7_reading 34 = .ok (.bipush 8, 2) := by decide +kernel
theorem dX7_reading_36 : decode cX7_reading 36 = .ok (.if_icmp .ne 6, 3) := by decide +kernel
theorem dX7_reading_39 : decode cX7_reading 39 = .ok (.bipush (-4), 2) := by decide +kernel
theorem dX7_reading_41 : decode cX7_reading 41 = .ok (.ireturn, 1) := by decide +kernel
theorem dX7_reading_42 : decode cX7_reading 42 = .ok (.aload_n 0, 1) := by decide +kernel
theorem dX7_reading_43 : decode cX7_reading 43 = .ok (.getfield 37, 3) := by decide +kernel
theorem dX7_reading_46 : decode cX7_reading 46 = .ok (.aload_n 0, 1) := by decide +kernel
theorem dX7_reading_47 : decode cX7_reading 47 = .ok (.getfield 108, 3) := by decide +kernel
theorem dX7_reading_50 : decode cX7_reading 50 = .ok (.iload_n 1, 1) := by decide +kernel
theorem dX7_reading_51 : decode cX7_reading 51 = .ok (.iastore, 1) := by decide +kernel
theorem dX7_reading_52 : decode cX7_reading 52 = .ok (.aload_n 0, 1) := by decide +kernel
theorem dX7_reading_53 : decode cX7_reading 53 = .ok (.getfield 40, 3) := by decide +kernel
theorem dX7_reading_56 : decode cX7_reading 56 = .ok (.aload_n 0, 1) := by decide +kernel
theorem dX7_reading_57 : decode cX7_reading 57 = .ok (.getfield 108, 3) := by decide +kernel
theorem dX7_reading_60 : decode cX7_reading 60 = .ok (.iload_n 2, 1) := by decide +kernel
theorem dX7_reading_61 : decode cX7_reading 61 = .ok (.iastore, 1) := by decide +kernel
theorem dX7_reading_62 : decode cX7_reading 62 = .ok (.aload_n 0, 1) := by decide +kernel
theorem dX7_reading_63 : decode cX7_reading 63 = .ok (.getfield 43, 3) := by decide +kernel
theorem dX7_reading_66 : decode cX7_reading 66 = .ok (.aload_n 0, 1) := by decide +kernel
theorem dX7_reading_67 : decode cX7_reading 67 = .ok (.getfield 108, 3) := by decide +kernel
theorem dX7_reading_70 : decode cX7_reading 70 = .ok (.iload_n 3, 1) := by decide +kernel
theorem dX7_reading_71 : decode cX7_reading 71 = .ok (.iastore, 1) := by decide +kernel
theorem dX7_reading_72 : decode cX7_reading 72 = .ok (.aload_n 0, 1) := by decide +kernel
theorem dX7_reading_73 : decode cX7_reading 73 = .ok (.dup, 1) := by decide +kernel
theorem dX7_reading_74 : decode cX7_reading 74 = .ok (.getfield 108, 3) := by decide +kernel
theorem dX7_reading_77 : decode cX7_reading 77 = .ok (.iconst 1, 1) := by decide +kernel
theorem dX7_reading_78 : decode cX7_reading 78 = .ok (.iadd, 1) := by decide +kernel
theorem dX7_reading_79 : decode cX7_reading 79 = .ok (.putfield 108, 3) := by decide +kernel
theorem dX7_reading_82 : decode cX7_reading 82 = .ok (.aload_n 0, 1) := by decide +kernel
theorem dX7_reading_83 : decode cX7_reading 83 = .ok (.getfield 108, 3) := by decide +kernel
theorem dX7_reading_86 : decode cX7_reading 86 = .ok (.iconst 1, 1) := by decide +kernel
theorem dX7_reading_87 : decode cX7_reading 87 = .ok (.isub, 1) := by decide +kernel
theorem dX7_reading_88 : decode cX7_reading 88 = .ok (.ireturn, 1) := by decide +kernel
theorem dX7_back_0 : decode cX7_back 0 = .ok (.iload_n 1, 1) := by decide +kernel
theorem dX7_back_1 : decode cX7_back 1 = .ok (.iconst 0, 1) := by decide +kernel
theorem dX7_back_2 : decode cX7_back 2 = .ok (.aload_n 0, 1) := by decide +kernel
theorem dX7_back_3 : decode cX7_back 3 = .ok (.getfield 108, 3) := by decide +kernel
theorem dX7_back_6 : decode cX7_back 6 = .ok (.invokestatic 61, 3) := by decide +kernel
theorem dX7_back_9 : decode cX7_back 9 = .ok (.ifCond .ne 6, 3) := by decide +kernel
theorem dX7_back_12 : decode cX7_back 12 = .ok (.bipush (-2), 2) := by decide +kernel
theorem dX7_back_14 : decode cX7_back 14 = .ok (.ireturn, 1) := by decide +kernel
end
section
theorem dX7_back_15 : decode cX7_back 15 = .ok (.aload_n 0, 1) := by decide +kernel
theorem dX7_back_16 : decode cX7_back 16 = .ok (.dup, 1) := by decide +kernel
theorem dX7_back_17 : decode cX7_back 17 = .ok (.getfield 108, 3) := by decide +kernel
theorem dX7_back_20 : decode cX7_back 20 = .ok (.iload_n 1, 1) := by decide +kernel
theorem dX7_back_21 : decode cX7_back 21 = .ok (.isub, 1) := by decide +kernel
theorem dX7_back_22 : decode cX7_back 22 = .ok (.putfield 108, 3) := by decide +kernel
theorem dX7_back_25 : decode cX7_back 25 = .ok (.aload_n 0, 1) := by decide +kernel
theorem dX7_back_26 : decode cX7_back 26 = .ok (.getfield 108, 3) := by decide +kernel
theorem dX7_back_29 : decode cX7_back 29 = .ok (.ireturn, 1) := by decide +kernel
theorem dX7_areSo_0 : decode cX7_areSo 0 = .ok (.iconst 0, 1) := by decide +kernel
theorem dX7_areSo_1 : decode cX7_areSo 1 = .ok (.istore_n 1, 1) := by decide +kernel
theorem dX7_areSo_2 : decode cX7_areSo 2 = .ok (.iload_n 1, 1) := by decide +kernel
theorem dX7_areSo_3 : decode cX7_areSo 3 = .ok (.aload_n 0, 1) := by decide +kernel
theorem dX7_areSo_4 : decode cX7_areSo 4 = .ok (.getfield 108, 3) := by decide +kernel
theorem dX7_areSo_7 : decode cX7_areSo 7 = .ok (.if_icmp .ge 49, 3) := by decide +kernel
theorem dX7_areSo_10 : decode cX7_areSo 10 = .ok (.aload_n 0, 1) := by decide +kernel
theorem dX7_areSo_11 : decode cX7_areSo 11 = .ok (.getfield 37, 3) := by decide +kernel
theorem dX7_areSo_14 : decode cX7_areSo 14 = .ok (.iload_n 1, 1) := by decide +kernel
theorem dX7_areSo_15 : decode cX7_areSo 15 = .ok (.iaload, 1) := by decide +kernel
theorem dX7_areSo_16 : decode cX7_areSo 16 = .ok (.istore_n 2, 1) := by decide +kernel
theorem dX7_areSo_17 : decode cX7_areSo 17 = .ok (.aload_n 0, 1) := by decide +kernel
theorem dX7_areSo_18 : decode cX7_areSo 18 = .ok (.aload_n 0, 1) := by decide +kernel
theorem dX7_areSo_19 : decode cX7_areSo 19 = .ok (.getfield 25, 3) := by decide +kernel
theorem dX7_areSo_22 : decode cX7_areSo 22 = .ok (.iload_n 2, 1) := by decide +kernel
theorem dX7_areSo_23 : decode cX7_areSo 23 = .ok (.iaload, 1) := by decide +kernel
theorem dX7_areSo_24 : decode cX7_areSo 24 = .ok (.aload_n 0, 1) := by decide +kernel
theorem dX7_areSo_25 : decode cX7_areSo 25 = .ok (.getfield 40, 3) := by decide +kernel
theorem dX7_areSo_28 : decode cX7_areSo 28 = .ok (.iload_n 1, 1) := by decide +kernel
theorem dX7_areSo_29 : decode cX7_areSo 29 = .ok (.iaload, 1) := by decide +kernel
theorem dX7_areSo_30 : decode cX7_areSo 30 = .ok (.aload_n 0, 1) := by decide +kernel
theorem dX7_areSo_31 : decode cX7_areSo 31 = .ok (.iload_n 2, 1) := by decide +kernel
theorem dX7_areSo_32 : decode cX7_areSo 32 = .ok (.invokevirtual 135, 3) := by decide +kernel
theorem dX7_areSo_35 : decode cX7_areSo 35 = .ok (.imul, 1) := by decide +kernel
theorem dX7_areSo_36 : decode cX7_areSo 36 = .ok (.invokevirtual 147, 3) := by decide +kernel
theorem dX7_areSo_39 : decode cX7_areSo 39 = .ok (.aload_n 0, 1) := by decide +kernel
theorem dX7_areSo_40 : decode cX7_areSo 40 = .ok (.getfield 43, 3) := by decide +kernel
theorem dX7_areSo_43 : decode cX7_areSo 43 = .ok (.iload_n 1, 1) := by decide +kernel
theorem dX7_areSo_44 : decode cX7_areSo 44 = .ok (.iaload, 1) := by decide +kernel
theorem dX7_areSo_45 : decode cX7_areSo 45 = .ok (.if_icmp .eq 5, 3) := by decide +kernel
theorem dX7_areSo_48 : decode cX7_areSo 48 = .ok (.iconst 0, 1) := by decide +kernel
theorem dX7_areSo_49 : decode cX7_areSo 49 = .ok (.ireturn, 1) := by decide +kernel
theorem dX7_areSo_50 : decode cX7_areSo 50 = .ok (.iinc 1 1, 3) := by decide +kernel
theorem dX7_areSo_53 : decode cX7_areSo 53 = .ok (.goto (-51), 3) := by decide +kernel
theorem dX7_areSo_56 : decode cX7_areSo 56 = .ok (.iconst 1, 1) := by decide +kernel
theorem dX7_areSo_57 : decode cX7_areSo 57 = .ok (.ireturn, 1) := by decide +kernel
theorem dX7_paces_0 : decode cX7_paces 0 = .ok (.aload_n 0, 1) := by decide +kernel
theorem dX7_paces_1 : decode cX7_paces 1 = .ok (.iload_n 1, 1) := by decide +kernel
theorem dX7_paces_2 : decode cX7_paces 2 = .ok (.invokevirtual 132, 3) := by decide +kernel
theorem dX7_paces_5 : decode cX7_paces 5 = .ok (.ifCond .ne 5, 3) := by decide +kernel
theorem dX7_paces_8 : decode cX7_paces 8 = .ok (.iconst (-1), 1) := by decide +kernel
theorem dX7_paces_9 : decode cX7_paces 9 = .ok (.ireturn, 1) := by decide +kernel
theorem dX7_paces_10 : decode cX7_paces 10 = .ok (.aload_n 0, 1) := by decide +kernel
theorem dX7_paces_11 : decode cX7_paces 11 = .ok (.getfield 28, 3) := by decide +kernel
theorem dX7_paces_14 : decode cX7_paces 14 = .ok (.iload_n 1, 1) := by decide +kernel
theorem dX7_paces_15 : decode cX7_paces 15 = .ok (.iaload, 1) := by decide +kernel
theorem dX7_paces_16 : decode cX7_paces 16 = .ok (.istore_n 2, 1) := by decide +kernel
theorem dX7_paces_17 : decode cX7_paces 17 = .ok (.iconst 0, 1) := by decide +kernel
theorem dX7_paces_18 : decode cX7_paces 18 = .ok (.istore_n 3, 1) := by decide +kernel
theorem dX7_paces_19 : decode cX7_paces 19 = .ok (.iconst 1, 1) := by decide +kernel
theorem dX7_paces_20 : decode cX7_paces 20 = .ok (.istore 4, 2) := by decide +kernel
theorem dX7_paces_22 : decode cX7_paces 22 = .ok (.iload 4, 2) := by decide +kernel
theorem dX7_paces_24 : decode cX7_paces 24 = .ok (.iconst 4, 1) := by decide +kernel
theorem dX7_paces_25 : decode cX7_paces 25 = .ok (.if_icmp .gt 35, 3) := by decide +kernel
theorem dX7_paces_28 : decode cX7_paces 28 = .ok (.aload_n 0, 1) := by decide +kernel
theorem dX7_paces_29 : decode cX7_paces 29 = .ok (.getfield 28, 3) := by decide +kernel
theorem dX7_paces_32 : decode cX7_paces 32 = .ok (.iload_n 1, 1) := by decide +kernel
theorem dX7_paces_33 : decode cX7_paces 33 = .ok (.iload 4, 2) := by decide +kernel
theorem dX7_paces_35 : decode cX7_paces 35 = .ok (.iastore, 1) := by decide +kernel
theorem dX7_paces_36 : decode cX7_paces 36 = .ok (.iload_n 3, 1) := by decide +kernel
theorem dX7_paces_37 : decode cX7_paces 37 = .ok (.aload_n 0, 1) := by decide +kernel
theorem dX7_paces_38 : decode cX7_paces 38 = .ok (.invokevirtual 191, 3) := by decide +kernel
theorem dX7_paces_41 : decode cX7_paces 41 = .ok (.ifCond .eq 10, 3) := by decide +kernel
theorem dX7_paces_44 : decode cX7_paces 44 = .ok (.iconst 1, 1) := by decide +kernel
theorem dX7_paces_45 : decode cX7_paces 45 = .ok (.iload 4, 2) := by decide +kernel
theorem dX7_paces_47 : decode cX7_paces 47 = .ok (.ishl, 1) := by decide +kernel
theorem dX7_paces_48 : decode cX7_paces 48 = .ok (.goto 4, 3) := by decide +kernel
theorem dX7_paces_51 : decode cX7_paces 51 = .ok (.iconst 0, 1) := by decide +kernel
theorem dX7_paces_52 : decode cX7_paces 52 = .ok (.ior, 1) := by decide +kernel
theorem dX7_paces_53 : decode cX7_paces 53 = .ok (.istore_n 3, 1) := by decide +kernel
theorem dX7_paces_54 : decode cX7_paces 54 = .ok (.iinc 4 1, 3) := by decide +kernel
theorem dX7_paces_57 : decode cX7_paces 57 = .ok (.goto (-35), 3) := by decide +kernel
theorem dX7_paces_60 : decode cX7_paces 60 = .ok (.aload_n 0, 1) := by decide +kernel
theorem dX7_paces_61 : decode cX7_paces 61 = .ok (.getfield 28, 3) := by decide +kernel
theorem dX7_paces_64 : decode cX7_paces 64 = .ok (.iload_n 1, 1) := by decide +kernel
theorem dX7_paces_65 : decode cX7_paces 65 = .ok (.iload_n 2, 1) := by decide +kernel
theorem dX7_paces_66 : decode cX7_paces 66 = .ok (.iastore, 1) := by decide +kernel
theorem dX7_paces_67 : decode cX7_paces 67 = .ok (.iload_n 3, 1) := by decide +kernel
theorem dX7_paces_68 : decode cX7_paces 68 = .ok (.ireturn, 1) := by decide +kernel
theorem dX7_kinds_0 : decode cX7_kinds 0 = .ok (.aload_n 0, 1) := by decide +kernel
theorem dX7_kinds_1 : decode cX7_kinds 1 = .ok (.iload_n 1, 1) := by decide +kernel
theorem dX7_kinds_2 : decode cX7_kinds 2 = .ok (.invokevirtual 132, 3) := by decide +kernel
theorem dX7_kinds_5 : decode cX7_kinds 5 = .ok (.ifCond .ne 5, 3) := by decide +kernel
theorem dX7_kinds_8 : decode cX7_kinds 8 = .ok (.iconst (-1), 1) := by decide +kernel
theorem dX7_kinds_9 : decode cX7_kinds 9 = .ok (.ireturn, 1) := by decide +kernel
theorem dX7_kinds_10 : decode cX7_kinds 10 = .ok (.aload_n 0, 1) := by decide +kernel
theorem dX7_kinds_11 : decode cX7_kinds 11 = .ok (.getfield 22, 3) := by decide +kernel
theorem dX7_kinds_14 : decode cX7_kinds 14 = .ok (.iload_n 1, 1) := by decide +kernel
theorem dX7_kinds_15 : decode cX7_kinds 15 = .ok (.iaload, 1) := by decide +kernel
theorem dX7_kinds_16 : decode cX7_kinds 16 = .ok (.istore_n 2, 1) := by decide +kernel
theorem dX7_kinds_17 : decode cX7_kinds 17 = .ok (.iconst 0, 1) := by decide +kernel
theorem dX7_kinds_18 : decode cX7_kinds 18 = .ok (.istore_n 3, 1) := by decide +kernel
theorem dX7_kinds_19 : decode cX7_kinds 19 = .ok (.iconst 0, 1) := by decide +kernel
theorem dX7_kinds_20 : decode cX7_kinds 20 = .ok (.istore 4, 2) := by decide +kernel
theorem dX7_kinds_22 : decode cX7_kinds 22 = .ok (.iload 4, 2) := by decide +kernel
theorem dX7_kinds_24 : decode cX7_kinds 24 = .ok (.iconst 3, 1) := by decide +kernel
theorem dX7_kinds_25 : decode cX7_kinds 25 = .ok (.if_icmp .ge 35, 3) := by decide +kernel
theorem dX7_kinds_28 : decode cX7_kinds 28 = .ok (.aload_n 0, 1) := by decide +kernel
theorem dX7_kinds_29 : decode cX7_kinds 29 = .ok (.getfield 22, 3) := by decide +kernel
theorem dX7_kinds_32 : decode cX7_kinds 32 = .ok (.iload_n 1, 1) := by decide +kernel
theorem dX7_kinds_33 : decode cX7_kinds 33 = .ok (.iload 4, 2) := by decide +kernel
theorem dX7_kinds_35 : decode cX7_kinds 35 = .ok (.iastore, 1) := by decide +kernel
theorem dX7_kinds_36 : decode cX7_kinds 36 = .ok (.iload_n 3, 1) := by decide +kernel
theorem dX7_kinds_37 : decode cX7_kinds 37 = .ok (.aload_n 0, 1) := by decide +kernel
theorem dX7_kinds_38 : decode cX7_kinds 38 = .ok (.invokevirtual 191, 3) := by decide +kernel
theorem dX7_kinds_41 : decode cX7_kinds 41 = .ok (.ifCond .eq 10, 3) := by decide +kernel
theorem dX7_kinds_44 : decode cX7_kinds 44 = .ok (.iconst 1, 1) := by decide +kernel
theorem dX7_kinds_45 : decode cX7_kinds 45 = .ok (.iload 4, 2) := by decide +kernel
theorem dX7_kinds_47 : decode cX7_kinds 47 = .ok (.ishl, 1) := by decide +kernel
theorem dX7_kinds_48 : decode cX7_kinds 48 = .ok (.goto 4, 3) := by decide +kernel
theorem dX7_kinds_51 : decode cX7_kinds 51 = .ok (.iconst 0, 1) := by decide +kernel
theorem dX7_kinds_52 : decode cX7_kinds 52 = .ok (.ior, 1) := by decide +kernel
theorem dX7_kinds_53 : decode cX7_kinds 53 = .ok (.istore_n 3, 1) := by decide +kernel
theorem dX7_kinds_54 : decode cX7_kinds 54 = .ok (.iinc 4 1, 3) := by decide +kernel
theorem dX7_kinds_57 : decode cX7_kinds 57 = .ok (.goto (-35), 3) := by decide +kernel
theorem dX7_kinds_60 : decode cX7_kinds 60 = .ok (.aload_n 0, 1) := by decide +kernel
theorem dX7_kinds_61 : decode cX7_kinds 61 = .ok (.getfield 22, 3) := by decide +kernel
theorem dX7_kinds_64 : decode cX7_kinds 64 = .ok (.iload_n 1, 1) := by decide +kernel
theorem dX7_kinds_65 : decode cX7_kinds 65 = .ok (.iload_n 2, 1) := by decide +kernel
theorem dX7_kinds_66 : decode cX7_kinds 66 = .ok (.iastore, 1) := by decide +kernel
theorem dX7_kinds_67 : decode cX7_kinds 67 = .ok (.iload_n 3, 1) := by decide +kernel
theorem dX7_kinds_68 : decode cX7_kinds 68 = .ok (.ireturn, 1) := by decide +kernel
theorem dX7_findFar_0 : decode cX7_findFar 0 = .ok (.iconst 0, 1) := by decide +kernel
theorem dX7_findFar_1 : decode cX7_findFar 1 = .ok (.istore_n 2, 1) := by decide +kernel
theorem dX7_findFar_2 : decode cX7_findFar 2 = .ok (.iload_n 2, 1) := by decide +kernel
theorem dX7_findFar_3 : decode cX7_findFar 3 = .ok (.bipush 64, 2) := by decide +kernel
theorem dX7_findFar_5 : decode cX7_findFar 5 = .ok (.if_icmp .ge 28, 3) := by decide +kernel
theorem dX7_findFar_8 : decode cX7_findFar 8 = .ok (.aload_n 0, 1) := by decide +kernel
theorem dX7_findFar_9 : decode cX7_findFar 9 = .ok (.getfield 49, 3) := by decide +kernel
theorem dX7_findFar_12 : decode cX7_findFar 12 = .ok (.iload_n 2, 1) := by decide +kernel
theorem dX7_findFar_13 : decode cX7_findFar 13 = .ok (.iload_n 2, 1) := by decide +kernel
theorem dX7_findFar_14 : decode cX7_findFar 14 = .ok (.iastore, 1) := by decide +kernel
theorem dX7_findFar_15 : decode cX7_findFar 15 = .ok (.aload_n 0, 1) := by decide +kernel
theorem dX7_findFar_16 : decode cX7_findFar 16 = .ok (.getfield 46, 3) := by decide +kernel
theorem dX7_findFar_19 : decode cX7_findFar 19 = .ok (.iload_n 2, 1) := by decide +kernel
theorem dX7_findFar_20 : decode cX7_findFar 20 = .ok (.aload_n 0, 1) := by decide +kernel
theorem dX7_findFar_21 : decode cX7_findFar 21 = .ok (.getfield 19, 3) := by decide +kernel
theorem dX7_findFar_24 : decode cX7_findFar 24 = .ok (.iload_n 2, 1) := by decide +kernel
theorem dX7_findFar_25 : decode cX7_findFar 25 = .ok (.iaload, 1) := by decide +kernel
theorem dX7_findFar_26 : decode cX7_findFar 26 = .ok (.iastore, 1) := by decide +kernel
theorem dX7_findFar_27 : decode cX7_findFar 27 = .ok (.iinc 2 1, 3) := by decide +kernel
theorem dX7_findFar_30 : decode cX7_findFar 30 = .ok (.goto (-28), 3) := by decide +kernel
theorem dX7_findFar_33 : decode cX7_findFar 33 = .ok (.iload_n 1, 1) := by decide +kernel
theorem dX7_findFar_34 : decode cX7_findFar 34 = .ok (.istore_n 2, 1) := by decide +kernel
theorem dX7_findFar_35 : decode cX7_findFar 35 = .ok (.iload_n 2, 1) := by decide +kernel
theorem dX7_findFar_36 : decode cX7_findFar 36 = .ok (.ifCond .le 52, 3) := by decide +kernel
theorem dX7_findFar_39 : decode cX7_findFar 39 = .ok (.iload_n 2, 1) := by decide +kernel
theorem dX7_findFar_40 : decode cX7_findFar 40 = .ok (.iconst 1, 1) := by decide +kernel
theorem dX7_findFar_41 : decode cX7_findFar 41 = .ok (.iand, 1) := by decide +kernel
theorem dX7_findFar_42 : decode cX7_findFar 42 = .ok (.iconst 1, 1) := by decide +kernel
theorem dX7_findFar_43 : decode cX7_findFar 43 = .ok (.if_icmp .ne 34, 3) := by decide +kernel
theorem dX7_findFar_46 : decode cX7_findFar 46 = .ok (.iconst 0, 1) := by decide +kernel
theorem dX7_findFar_47 : decode cX7_findFar 47 = .ok (.istore_n 3, 1) := by decide +kernel
theorem dX7_findFar_48 : decode cX7_findFar 48 = .ok (.iload_n 3, 1) := by decide +kernel
theorem dX7_findFar_49 : decode cX7_findFar 49 = .ok (.bipush 64, 2) := by decide +kernel
theorem dX7_findFar_51 : decode cX7_findFar 51 = .ok (.if_icmp .ge 26, 3) := by decide +kernel
theorem dX7_findFar_54 : decode cX7_findFar 54 = .ok (.aload_n 0, 1) := by decide +kernel
theorem dX7_findFar_55 : decode cX7_findFar 55 = .ok (.getfield 49, 3) := by decide +kernel
theorem dX7_findFar_58 : decode cX7_findFar 58 = .ok (.iload_n 3, 1) := by decide +kernel
theorem dX7_findFar_59 : decode cX7_findFar 59 = .ok (.aload_n 0, 1) := by decide +kernel
theorem dX7_findFar_60 : decode cX7_findFar 60 = .ok (.getfield 46, 3) := by decide +kernel
theorem dX7_findFar_63 : decode cX7_findFar 63 = .ok (.aload_n 0, 1) := by decide +kernel
theorem dX7_findFar_64 : decode cX7_findFar 64 = .ok (.getfield 49, 3) := by decide +kernel
theorem dX7_findFar_67 : decode cX7_findFar 67 = .ok (.iload_n 3, 1) := by decide +kernel
theorem dX7_findFar_68 : decode cX7_findFar 68 = .ok (.iaload, 1) := by decide +kernel
theorem dX7_findFar_69 : decode cX7_findFar 69 = .ok (.iaload, 1) := by decide +kernel
theorem dX7_findFar_70 : decode cX7_findFar 70 = .ok (.iastore, 1) := by decide +kernel
theorem dX7_findFar_71 : decode cX7_findFar 71 = .ok (.iinc 3 1, 3) := by decide +kernel
theorem dX7_findFar_74 : decode cX7_findFar 74 = .ok (.goto (-26), 3) := by decide +kernel
theorem dX7_findFar_77 : decode cX7_findFar 77 = .ok (.aload_n 0, 1) := by decide +kernel
theorem dX7_findFar_78 : decode cX7_findFar 78 = .ok (.invokevirtual 194, 3) := by decide +kernel
theorem dX7_findFar_81 : decode cX7_findFar 81 = .ok (.iload_n 2, 1) := by decide +kernel
theorem dX7_findFar_82 : decode cX7_findFar 82 = .ok (.iconst 1, 1) := by decide +kernel
theorem dX7_findFar_83 : decode cX7_findFar 83 = .ok (.ishr, 1) := by decide +kernel
theorem dX7_findFar_84 : decode cX7_findFar 84 = .ok (.istore_n 2, 1) := by decide +kernel
theorem dX7_findFar_85 : decode cX7_findFar 85 = .ok (.goto (-50), 3) := by decide +kernel
theorem dX7_findFar_88 : decode cX7_findFar 88 = .ok (.return_, 1) := by decide +kernel
theorem dX7_square_0 : decode cX7_square 0 = .ok (.iconst 0, 1) := by decide +kernel
theorem dX7_square_1 : decode cX7_square 1 = .ok (.istore_n 1, 1) := by decide +kernel
theorem dX7_square_2 : decode cX7_square 2 = .ok (.iload_n 1, 1) := by decide +kernel
theorem dX7_square_3 : decode cX7_square 3 = .ok (.bipush 64, 2) := by decide +kernel
theorem dX7_square_5 : decode cX7_square 5 = .ok (.if_icmp .ge 26, 3) := by decide +kernel
theorem dX7_square_8 : decode cX7_square 8 = .ok (.aload_n 0, 1) := by decide +kernel
theorem dX7_square_9 : decode cX7_square 9 = .ok (.getfield 52, 3) := by decide +kernel
theorem dX7_square_12 : decode cX7_square 12 = .ok (.iload_n 1, 1) := by decide +kernel
theorem dX7_square_13 : decode cX7_square 13 = .ok (.aload_n 0, 1) := by decide +kernel
theorem dX7_square_14 : decode cX7_square 14 = .ok (.getfield 46, 3) := by decide +kernel
theorem dX7_square_17 : decode cX7_square 17 = .ok (.aload_n 0, 1) := by decide +kernel
theorem dX7_square_18 : decode cX7_square 18 = .ok (.getfield 46, 3) := by decide +kernel
theorem dX7_square_21 : decode cX7_square 21 = .ok (.iload_n 1, 1) := by decide +kernel
theorem dX7_square_22 : decode cX7_square 22 = .ok (.iaload, 1) := by decide +kernel
theorem dX7_square_23 : decode cX7_square 23 = .ok (.iaload, 1) := by decide +kernel
theorem dX7_square_24 : decode cX7_square 24 = .ok (.iastore, 1) := by decide +kernel
theorem dX7_square_25 : decode cX7_square 25 = .ok (.iinc 1 1, 3) := by decide +kernel
theorem dX7_square_28 : decode cX7_square 28 = .ok (.goto (-26), 3) := by decide +kernel
theorem dX7_square_31 : decode cX7_square 31 = .ok (.iconst 0, 1) := by decide +kernel
theorem dX7_square_32 : decode cX7_square 32 = .ok (.istore_n 1, 1) := by decide +kernel
theorem dX7_square_33 : decode cX7_square 33 = .ok (.iload_n 1, 1) := by decide +kernel
theorem dX7_square_34 : decode cX7_square 34 = .ok (.bipush 64, 2) := by decide +kernel
theorem dX7_square_36 : decode cX7_square 36 = .ok (.if_icmp .ge 21, 3) := by decide +kernel
theorem dX7_square_39 : decode cX7_square 39 = .ok (.aload_n 0, 1) := by decide +kernel
theorem dX7_square_40 : decode cX7_square 40 = .ok (.getfield 46, 3) := by decide +kernel
theorem dX7_square_43 : decode cX7_square 43 = .ok (.iload_n 1, 1) := by decide +kernel
theorem dX7_square_44 : decode cX7_square 44 = .ok (.aload_n 0, 1) := by decide +kernel
theorem dX7_square_45 : decode cX7_square 45 = .ok (.getfield 52, 3) := by decide +kernel
theorem dX7_square_48 : decode cX7_square 48 = .ok (.iload_n 1, 1) := by decide +kernel
theorem dX7_square_49 : decode cX7_square 49 = .ok (.iaload, 1) := by decide +kernel
theorem dX7_square_50 : decode cX7_square 50 = .ok (.iastore, 1) := by decide +kernel
theorem dX7_square_51 : decode cX7_square 51 = .ok (.iinc 1 1, 3) := by decide +kernel
theorem dX7_square_54 : decode cX7_square 54 = .ok (.goto (-21), 3) := by decide +kernel
theorem dX7_square_57 : decode cX7_square 57 = .ok (.return_, 1) := by decide +kernel
theorem dX7_starts_0 : decode cX7_starts 0 = .ok (.aload_n 0, 1) := by decide +kernel
theorem dX7_starts_1 : decode cX7_starts 1 = .ok (.iload_n 1, 1) := by decide +kernel
theorem dX7_starts_2 : decode cX7_starts 2 = .ok (.invokevirtual 132, 3) := by decide +kernel
theorem dX7_starts_5 : decode cX7_starts 5 = .ok (.ifCond .ne 5, 3) := by decide +kernel
theorem dX7_starts_8 : decode cX7_starts 8 = .ok (.lconst 0, 1) := by decide +kernel
theorem dX7_starts_9 : decode cX7_starts 9 = .ok (.lreturn, 1) := by decide +kernel
theorem dX7_starts_10 : decode cX7_starts 10 = .ok (.ldc2_w 197, 3) := by decide +kernel
theorem dX7_starts_13 : decode cX7_starts 13 = .ok (.lstore_n 2, 1) := by decide +kernel
theorem dX7_starts_14 : decode cX7_starts 14 = .ok (.iconst 0, 1) := by decide +kernel
theorem dX7_starts_15 : decode cX7_starts 15 = .ok (.istore 4, 2) := by decide +kernel
theorem dX7_starts_17 : decode cX7_starts 17 = .ok (.iload 4, 2) := by decide +kernel
theorem dX7_starts_19 : decode cX7_starts 19 = .ok (.aload_n 0, 1) := by decide +kernel
theorem dX7_starts_20 : decode cX7_starts 20 = .ok (.getfield 108, 3) := by decide +kernel
theorem dX7_starts_23 : decode cX7_starts 23 = .ok (.if_icmp .ge 112, 3) := by decide +kernel
theorem dX7_starts_26 : decode cX7_starts 26 = .ok (.aload_n 0, 1) := by decide +kernel
theorem dX7_starts_27 : decode cX7_starts 27 = .ok (.aload_n 0, 1) := by decide +kernel
theorem dX7_starts_28 : decode cX7_starts 28 = .ok (.getfield 40, 3) := by decide +kernel
theorem dX7_starts_31 : decode cX7_starts 31 = .ok (.iload 4, 2) := by decide +kernel
theorem dX7_starts_33 : decode cX7_starts 33 = .ok (.iaload, 1) := by decide +kernel
theorem dX7_starts_34 : decode cX7_starts 34 = .ok (.aload_n 0, 1) := by decide +kernel
theorem dX7_starts_35 : decode cX7_starts 35 = .ok (.aload_n 0, 1) := by decide +kernel
theorem dX7_starts_36 : decode cX7_starts 36 = .ok (.getfield 37, 3) := by decide +kernel
theorem dX7_starts_39 : decode cX7_starts 39 = .ok (.iload 4, 2) := by decide +kernel
theorem dX7_starts_41 : decode cX7_starts 41 = .ok (.iaload, 1) := by decide +kernel
theorem dX7_starts_42 : decode cX7_starts 42 = .ok (.invokevirtual 135, 3) := by decide +kernel
theorem dX7_starts_45 : decode cX7_starts 45 = .ok (.imul, 1) := by decide +kernel
theorem dX7_starts_46 : decode cX7_starts 46 = .ok (.invokevirtual 199, 3) := by decide +kernel
theorem dX7_starts_49 : decode cX7_starts 49 = .ok (.iconst 0, 1) := by decide +kernel
theorem dX7_starts_50 : decode cX7_starts 50 = .ok (.istore 5, 2) := by decide +kernel
theorem dX7_starts_52 : decode cX7_starts 52 = .ok (.iload 5, 2) := by decide +kernel
theorem dX7_starts_54 : decode cX7_starts 54 = .ok (.bipush 64, 2) := by decide +kernel
theorem dX7_starts_56 : decode cX7_starts 56 = .ok (.if_icmp .ge 73, 3) := by decide +kernel
theorem dX7_starts_59 : decode cX7_starts 59 = .ok (.aload_n 0, 1) := by decide +kernel
theorem dX7_starts_60 : decode cX7_starts 60 = .ok (.getfield 37, 3) := by decide +kernel
theorem dX7_starts_63 : decode cX7_starts 63 = .ok (.iload 4, 2) := by decide +kernel
theorem dX7_starts_65 : decode cX7_starts 65 = .ok (.iaload, 1) := by decide +kernel
theorem dX7_starts_66 : decode cX7_starts 66 = .ok (.iload_n 1, 1) := by decide +kernel
theorem dX7_starts_67 : decode cX7_starts 67 = .ok (.if_icmp .ne 8, 3) := by decide +kernel
theorem dX7_starts_70 : decode cX7_starts 70 = .ok (.iload 5, 2) := by decide +kernel
theorem dX7_starts_72 : decode cX7_starts 72 = .ok (.goto 15, 3) := by decide +kernel
theorem dX7_starts_75 : decode cX7_starts 75 = .ok (.aload_n 0, 1) := by decide +kernel
theorem dX7_starts_76 : decode cX7_starts 76 = .ok (.getfield 25, 3) := by decide +kernel
theorem dX7_starts_79 : decode cX7_starts 79 = .ok (.aload_n 0, 1) := by decide +kernel
theorem dX7_starts_80 : decode cX7_starts 80 = .ok (.getfield 37, 3) := by decide +kernel
theorem dX7_starts_83 : decode cX7_starts 83 = .ok (.iload 4, 2) := by decide +kernel
theorem dX7_starts_85 : decode cX7_starts 85 = .ok (.iaload, 1) := by decide +kernel
theorem dX7_starts_86 : decode cX7_starts 86 = .ok (.iaload, 1) := by decide +kernel
theorem dX7_starts_87 : decode cX7_starts 87 = .ok (.istore 6, 2) := by decide +kernel
theorem dX7_starts_89 : decode cX7_starts 89 = .ok (.lload_n 2, 1) := by decide +kernel
theorem dX7_starts_90 : decode cX7_starts 90 = .ok (.aload_n 0, 1) := by decide +kernel
theorem dX7_starts_91 : decode cX7_starts 91 = .ok (.getfield 49, 3) := by decide +kernel
theorem dX7_starts_94 : decode cX7_starts 94 = .ok (.iload 6, 2) := by decide +kernel
theorem dX7_starts_96 : decode cX7_starts 96 = .ok (.iaload, 1) := by decide +kernel
theorem dX7_starts_97 : decode cX7_starts 97 = .ok (.aload_n 0, 1) := by decide +kernel
theorem dX7_starts_98 : decode cX7_starts 98 = .ok (.getfield 43, 3) := by decide +kernel
theorem dX7_starts_101 : decode cX7_starts 101 = .ok (.iload 4, 2) := by decide +kernel
theorem dX7_starts_103 : decode cX7_starts 103 = .ok (.iaload, 1) := by decide +kernel
theorem dX7_starts_104 : decode cX7_starts 104 = .ok (.if_icmp .ne 9, 3) := by decide +kernel
theorem dX7_starts_107 : decode cX7_starts 107 = .ok (.ldc2_w 197, 3) := by decide +kernel
theorem dX7_starts_110 : decode cX7_starts 110 = .ok (.goto 11, 3) := by decide +kernel
theorem dX7_starts_113 : decode cX7_starts 113 = .ok (.lconst 1, 1) := by decide +kernel
theorem dX7_starts_114 : decode cX7_starts 114 = .ok (.iload 5, 2) := by decide +kernel
theorem dX7_starts_116 : decode cX7_starts 116 = .ok (.lshl, 1) := by decide +kernel
theorem dX7_starts_117 : decode cX7_starts 117 = .ok (.ldc2_w 197, 3) := by decide +kernel
theorem dX7_starts_120 : decode cX7_starts 120 = .ok (.lxor, 1) := by decide +kernel
theorem dX7_starts_121 : decode cX7_starts 121 = .ok (.land, 1) := by decide +kernel
theorem dX7_starts_122 : decode cX7_starts 122 = .ok (.lstore_n 2, 1) := by decide +kernel
theorem dX7_starts_123 : decode cX7_starts 123 = .ok (.iinc 5 1, 3) := by decide +kernel
theorem dX7_starts_126 : decode cX7_starts 126 = .ok (.goto (-74), 3) := by decide +kernel
theorem dX7_starts_129 : decode cX7_starts 129 = .ok (.iinc 4 1, 3) := by decide +kernel
theorem dX7_starts_132 : decode cX7_starts 132 = .ok (.goto (-115), 3) := by decide +kernel
theorem dX7_starts_135 : decode cX7_starts 135 = .ok (.lload_n 2, 1) := by decide +kernel
theorem dX7_starts_136 : decode cX7_starts 136 = .ok (.lreturn, 1) := by decide +kernel
theorem dX7_inLeastTerms_0 : decode cX7_inLeastTerms 0 = .ok (.lload_n 0, 1) := by decide +kernel
theorem dX7_inLeastTerms_1 : decode cX7_inLeastTerms 1 = .ok (.lstore 5, 2) := by decide +kernel
theorem dX7_inLeastTerms_3 : decode cX7_inLeastTerms 3 = .ok (.lload_n 2, 1) := by decide +kernel
theorem dX7_inLeastTerms_4 : decode cX7_inLeastTerms 4 = .ok (.lstore 7, 2) := by decide +kernel
theorem dX7_inLeastTerms_6 : decode cX7_inLeastTerms 6 = .ok (.lload 7, 2) := by decide +kernel
theorem dX7_inLeastTerms_8 : decode cX7_inLeastTerms 8 = .ok (.lconst 0, 1) := by decide +kernel
theorem dX7_inLeastTerms_9 : decode cX7_inLeastTerms 9 = .ok (.lcmp, 1) := by decide +kernel
theorem dX7_inLeastTerms_10 : decode cX7_inLeastTerms 10 = .ok (.ifCond .eq 21, 3) := by decide +kernel
theorem dX7_inLeastTerms_13 : decode cX7_inLeastTerms 13 = .ok (.lload 5, 2) := by decide +kernel
theorem dX7_inLeastTerms_15 : decode cX7_inLeastTerms 15 = .ok (.lload 7, 2) := by decide +kernel
theorem dX7_inLeastTerms_17 : decode cX7_inLeastTerms 17 = .ok (.lrem, 1) := by decide +kernel
theorem dX7_inLeastTerms_18 : decode cX7_inLeastTerms 18 = .ok (.lstore 9, 2) := by decide +kernel
theorem dX7_inLeastTerms_20 : decode cX7_inLeastTerms 20 = .ok (.lload 7, 2) := by decide +kernel
theorem dX7_inLeastTerms_22 : decode cX7_inLeastTerms 22 = .ok (.lstore 5, 2) := by decide +kernel
theorem dX7_inLeastTerms_24 : decode cX7_inLeastTerms 24 = .ok (.lload 9, 2) := by decide +kernel
theorem dX7_inLeastTerms_26 : decode cX7_inLeastTerms 26 = .ok (.lstore 7, 2) := by decide +kernel
theorem dX7_inLeastTerms_28 : decode cX7_inLeastTerms 28 = .ok (.goto (-22), 3) := by decide +kernel
theorem dX7_inLeastTerms_31 : decode cX7_inLeastTerms 31 = .ok (.iload 4, 2) := by decide +kernel
theorem dX7_inLeastTerms_33 : decode cX7_inLeastTerms 33 = .ok (.ifCond .ne 10, 3) := by decide +kernel
theorem dX7_inLeastTerms_36 : decode cX7_inLeastTerms 36 = .ok (.lload_n 0, 1) := by decide +kernel
theorem dX7_inLeastTerms_37 : decode cX7_inLeastTerms 37 = .ok (.lload 5, 2) := by decide +kernel
theorem dX7_inLeastTerms_39 : decode cX7_inLeastTerms 39 = .ok (.ldiv, 1) := by decide +kernel
theorem dX7_inLeastTerms_40 : decode cX7_inLeastTerms 40 = .ok (.goto 7, 3) := by decide +kernel
theorem dX7_inLeastTerms_43 : decode cX7_inLeastTerms 43 = .ok (.lload_n 2, 1) := by decide +kernel
theorem dX7_inLeastTerms_44 : decode cX7_inLeastTerms 44 = .ok (.lload 5, 2) := by decide +kernel
theorem dX7_inLeastTerms_46 : decode cX7_inLeastTerms 46 = .ok (.ldiv, 1) := by decide +kernel
theorem dX7_inLeastTerms_47 : decode cX7_inLeastTerms 47 = .ok (.lreturn, 1) := by decide +kernel
theorem dX7_odds_0 : decode cX7_odds 0 = .ok (.aload_n 0, 1) := by decide +kernel
theorem dX7_odds_1 : decode cX7_odds 1 = .ok (.iload_n 1, 1) := by decide +kernel
theorem dX7_odds_2 : decode cX7_odds 2 = .ok (.invokevirtual 132, 3) := by decide +kernel
theorem dX7_odds_5 : decode cX7_odds 5 = .ok (.ifCond .eq 30, 3) := by decide +kernel
theorem dX7_odds_8 : decode cX7_odds 8 = .ok (.iload_n 2, 1) := by decide +kernel
theorem dX7_odds_9 : decode cX7_odds 9 = .ok (.iconst 0, 1) := by decide +kernel
theorem dX7_odds_10 : decode cX7_odds 10 = .ok (.bipush 99, 2) := by decide +kernel
theorem dX7_odds_12 : decode cX7_odds 12 = .ok (.invokestatic 61, 3) := by decide +kernel
theorem dX7_odds_15 : decode cX7_odds 15 = .ok (.ifCond .eq 20, 3) := by decide +kernel
theorem dX7_odds_18 : decode cX7_odds 18 = .ok (.iload_n 3, 1) := by decide +kernel
theorem dX7_odds_19 : decode cX7_odds 19 = .ok (.invokestatic 141, 3) := by decide +kernel
theorem dX7_odds_22 : decode cX7_odds 22 = .ok (.ifCond .eq 13, 3) := by decide +kernel
theorem dX7_odds_25 : decode cX7_odds 25 = .ok (.iload 4, 2) := by decide +kernel
theorem dX7_odds_27 : decode cX7_odds 27 = .ok (.iconst 0, 1) := by decide +kernel
theorem dX7_odds_28 : decode cX7_odds 28 = .ok (.iconst 1, 1) := by decide +kernel
theorem dX7_odds_29 : decode cX7_odds 29 = .ok (.invokestatic 61, 3) := by decide +kernel
theorem dX7_odds_32 : decode cX7_odds 32 = .ok (.ifCond .ne 7, 3) := by decide +kernel
theorem dX7_odds_35 : decode cX7_odds 35 = .ok (.ldc2_w 59, 3) := by decide +kernel
theorem dX7_odds_38 : decode cX7_odds 38 = .ok (.lreturn, 1) := by decide +kernel
theorem dX7_odds_39 : decode cX7_odds 39 = .ok (.aload_n 0, 1) := by decide +kernel
theorem dX7_odds_40 : decode cX7_odds 40 = .ok (.iload_n 2, 1) := by decide +kernel
theorem dX7_odds_41 : decode cX7_odds 41 = .ok (.aload_n 0, 1) := by decide +kernel
theorem dX7_odds_42 : decode cX7_odds 42 = .ok (.iload_n 1, 1) := by decide +kernel
theorem dX7_odds_43 : decode cX7_odds 43 = .ok (.invokevirtual 135, 3) := by decide +kernel
theorem dX7_odds_46 : decode cX7_odds 46 = .ok (.imul, 1) := by decide +kernel
theorem dX7_odds_47 : decode cX7_odds 47 = .ok (.invokevirtual 199, 3) := by decide +kernel
theorem dX7_odds_50 : decode cX7_odds 50 = .ok (.iconst 0, 1) := by decide +kernel
theorem dX7_odds_51 : decode cX7_odds 51 = .ok (.istore 5, 2) := by decide +kernel
theorem dX7_odds_53 : decode cX7_odds 53 = .ok (.iconst 0, 1) := by decide +kernel
theorem dX7_odds_54 : decode cX7_odds 54 = .ok (.istore 6, 2) := by decide +kernel
theorem dX7_odds_56 : decode cX7_odds 56 = .ok (.iload 6, 2) := by decide +kernel
theorem dX7_odds_58 : decode cX7_odds 58 = .ok (.bipush 64, 2) := by decide +kernel
theorem dX7_odds_60 : decode cX7_odds 60 = .ok (.if_icmp .ge 30, 3) := by decide +kernel
theorem dX7_odds_63 : decode cX7_odds 63 = .ok (.iload 5, 2) := by decide +kernel
theorem dX7_odds_65 : decode cX7_odds 65 = .ok (.aload_n 0, 1) := by decide +kernel
theorem dX7_odds_66 : decode cX7_odds 66 = .ok (.getfield 49, 3) := by decide +kernel
theorem dX7_odds_69 : decode cX7_odds 69 = .ok (.iload 6, 2) := by decide +kernel
theorem dX7_odds_71 : decode cX7_odds 71 = .ok (.iaload, 1) := by decide +kernel
theorem dX7_odds_72 : decode cX7_odds 72 = .ok (.iload_n 3, 1) := by decide +kernel
theorem dX7_odds_73 : decode cX7_odds 73 = .ok (.if_icmp .ne 7, 3) := by decide +kernel
theorem dX7_odds_76 : decode cX7_odds 76 = .ok (.iconst 1, 1) := by decide +kernel
theorem dX7_odds_77 : decode cX7_odds 77 = .ok (.goto 4, 3) := by decide +kernel
theorem dX7_odds_80 : decode cX7_odds 80 = .ok (.iconst 0, 1) := by decide +kernel
theorem dX7_odds_81 : decode cX7_odds 81 = .ok (.iadd, 1) := by decide +kernel
theorem dX7_odds_82 : decode cX7_odds 82 = .ok (.istore 5, 2) := by decide +kernel
theorem dX7_odds_84 : decode cX7_odds 84 = .ok (.iinc 6 1, 3) := by decide +kernel
theorem dX7_odds_87 : decode cX7_odds 87 = .ok (.goto (-31), 3) := by decide +kernel
theorem dX7_odds_90 : decode cX7_odds 90 = .ok (.iload 5, 2) := by decide +kernel
theorem dX7_odds_92 : decode cX7_odds 92 = .ok (.i2l, 1) := by decide +kernel
theorem dX7_odds_93 : decode cX7_odds 93 = .ok (.ldc2_w 202, 3) := by decide +kernel
theorem dX7_odds_96 : decode cX7_odds 96 = .ok (.iload 4, 2) := by decide +kernel
theorem dX7_odds_98 : decode cX7_odds 98 = .ok (.invokestatic 204, 3) := by decide +kernel
theorem dX7_odds_101 : decode cX7_odds 101 = .ok (.lreturn, 1) := by decide +kernel
theorem dX7_sheet_0 : decode cX7_sheet 0 = .ok (.aload_n 0, 1) := by decide +kernel
theorem dX7_sheet_1 : decode cX7_sheet 1 = .ok (.iconst 0, 1) := by decide +kernel
theorem dX7_sheet_2 : decode cX7_sheet 2 = .ok (.putfield 55, 3) := by decide +kernel
theorem dX7_sheet_5 : decode cX7_sheet 5 = .ok (.iload_n 1, 1) := by decide +kernel
theorem dX7_sheet_6 : decode cX7_sheet 6 = .ok (.invokestatic 71, 3) := by decide +kernel
theorem dX7_sheet_9 : decode cX7_sheet 9 = .ok (.ifCond .ne 5, 3) := by decide +kernel
theorem dX7_sheet_12 : decode cX7_sheet 12 = .ok (.iconst (-1), 1) := by decide +kernel
theorem dX7_sheet_13 : decode cX7_sheet 13 = .ok (.ireturn, 1) := by decide +kernel
theorem dX7_sheet_14 : decode cX7_sheet 14 = .ok (.iload_n 2, 1) := by decide +kernel
theorem dX7_sheet_15 : decode cX7_sheet 15 = .ok (.invokestatic 75, 3) := by decide +kernel
theorem dX7_sheet_18 : decode cX7_sheet 18 = .ok (.ifCond .eq 9, 3) := by decide +kernel
theorem dX7_sheet_21 : decode cX7_sheet 21 = .ok (.iload_n 3, 1) := by decide +kernel
theorem dX7_sheet_22 : decode cX7_sheet 22 = .ok (.bipush 60, 2) := by decide +kernel
theorem dX7_sheet_24 : decode cX7_sheet 24 = .ok (.if_icmp .le 6, 3) := by decide +kernel
theorem dX7_sheet_27 : decode cX7_sheet 27 = .ok (.bipush (-2), 2) := by decide +kernel
theorem dX7_sheet_29 : decode cX7_sheet 29 = .ok (.ireturn, 1) := by decide +kernel
theorem dX7_sheet_30 : decode cX7_sheet 30 = .ok (.iload_n 3, 1) := by decide +kernel
theorem dX7_sheet_31 : decode cX7_sheet 31 = .ok (.ifCond .ge 9, 3) := by decide +kernel
theorem dX7_sheet_34 : decode cX7_sheet 34 = .ok (.aload_n 0, 1) := by decide +kernel
theorem dX7_sheet_35 : decode cX7_sheet 35 = .ok (.iconst 4, 1) := by decide +kernel
theorem dX7_sheet_36 : decode cX7_sheet 36 = .ok (.invokevirtual 82, 3) := by decide +kernel
theorem dX7_sheet_39 : decode cX7_sheet 39 = .ok (.ireturn, 1) := by decide +kernel
theorem dX7_sheet_40 : decode cX7_sheet 40 = .ok (.aload_n 0, 1) := by decide +kernel
theorem dX7_sheet_41 : decode cX7_sheet 41 = .ok (.getfield 9, 3) := by decide +kernel
theorem dX7_sheet_44 : decode cX7_sheet 44 = .ok (.iload_n 1, 1) := by decide +kernel
theorem dX7_sheet_45 : decode cX7_sheet 45 = .ok (.iload_n 2, 1) := by decide +kernel
theorem dX7_sheet_46 : decode cX7_sheet 46 = .ok (.iastore, 1) := by decide +kernel
theorem dX7_sheet_47 : decode cX7_sheet 47 = .ok (.aload_n 0, 1) := by decide +kernel
theorem dX7_sheet_48 : decode cX7_sheet 48 = .ok (.getfield 13, 3) := by decide +kernel
theorem dX7_sheet_51 : decode cX7_sheet 51 = .ok (.iload_n 1, 1) := by decide +kernel
theorem dX7_sheet_52 : decode cX7_sheet 52 = .ok (.iload_n 3, 1) := by decide +kernel
theorem dX7_sheet_53 : decode cX7_sheet 53 = .ok (.iastore, 1) := by decide +kernel
theorem dX7_sheet_54 : decode cX7_sheet 54 = .ok (.iconst 0, 1) := by decide +kernel
theorem dX7_sheet_55 : decode cX7_sheet 55 = .ok (.istore 4, 2) := by decide +kernel
theorem dX7_sheet_57 : decode cX7_sheet 57 = .ok (.iload 4, 2) := by decide +kernel
theorem dX7_sheet_59 : decode cX7_sheet 59 = .ok (.bipush 60, 2) := by decide +kernel
theorem dX7_sheet_61 : decode cX7_sheet 61 = .ok (.if_icmp .ge 22, 3) := by decide +kernel
theorem dX7_sheet_64 : decode cX7_sheet 64 = .ok (.aload_n 0, 1) := by decide +kernel
theorem dX7_sheet_65 : decode cX7_sheet 65 = .ok (.getfield 16, 3) := by decide +kernel
theorem dX7_sheet_68 : decode cX7_sheet 68 = .ok (.bipush 60, 2) := by decide +kernel
theorem dX7_sheet_70 : decode cX7_sheet 70 = .ok (.iload_n 1, 1) := by decide +kernel
theorem dX7_sheet_71 : decode cX7_sheet 71 = .ok (.imul, 1) := by decide +kernel
theorem dX7_sheet_72 : decode cX7_sheet 72 = .ok (.iload 4, 2) := by decide +kernel
theorem dX7_sheet_74 : decode cX7_sheet 74 = .ok (.iadd, 1) := by decide +kernel
theorem dX7_sheet_75 : decode cX7_sheet 75 = .ok (.iconst 0, 1) := by decide +kernel
theorem dX7_sheet_76 : decode cX7_sheet 76 = .ok (.iastore, 1) := by decide +kernel
theorem dX7_sheet_77 : decode cX7_sheet 77 = .ok (.iinc 4 1, 3) := by decide +kernel
theorem dX7_sheet_80 : decode cX7_sheet 80 = .ok (.goto (-23), 3) := by decide +kernel
theorem dX7_sheet_83 : decode cX7_sheet 83 = .ok (.iconst 1, 1) := by decide +kernel
theorem dX7_sheet_84 : decode cX7_sheet 84 = .ok (.ireturn, 1) := by decide +kernel
theorem dX7_lose_0 : decode cX7_lose 0 = .ok (.iload_n 1, 1) := by decide +kernel
theorem dX7_lose_1 : decode cX7_lose 1 = .ok (.invokestatic 71, 3) := by decide +kernel
theorem dX7_lose_4 : decode cX7_lose 4 = .ok (.ifCond .ne 5, 3) := by decide +kernel
theorem dX7_lose_7 : decode cX7_lose 7 = .ok (.iconst (-1), 1) := by decide +kernel
theorem dX7_lose_8 : decode cX7_lose 8 = .ok (.ireturn, 1) := by decide +kernel
theorem dX7_lose_9 : decode cX7_lose 9 = .ok (.aload_n 0, 1) := by decide +kernel
theorem dX7_lose_10 : decode cX7_lose 10 = .ok (.getfield 9, 3) := by decide +kernel
theorem dX7_lose_13 : decode cX7_lose 13 = .ok (.iload_n 1, 1) := by decide +kernel
theorem dX7_lose_14 : decode cX7_lose 14 = .ok (.iaload, 1) := by decide +kernel
theorem dX7_lose_15 : decode cX7_lose 15 = .ok (.bipush (-9), 2) := by decide +kernel
theorem dX7_lose_17 : decode cX7_lose 17 = .ok (.if_icmp .ne 7, 3) := by decide +kernel
theorem dX7_lose_20 : decode cX7_lose 20 = .ok (.iconst 0, 1) := by decide +kernel
theorem dX7_lose_21 : decode cX7_lose 21 = .ok (.goto 4, 3) := by decide +kernel
theorem dX7_lose_24 : decode cX7_lose 24 = .ok (.iconst 1, 1) := by decide +kernel
theorem dX7_lose_25 : decode cX7_lose 25 = .ok (.istore_n 2, 1) := by decide +kernel
theorem dX7_lose_26 : decode cX7_lose 26 = .ok (.aload_n 0, 1) := by decide +kernel
theorem dX7_lose_27 : decode cX7_lose 27 = .ok (.getfield 9, 3) := by decide +kernel
theorem dX7_lose_30 : decode cX7_lose 30 = .ok (.iload_n 1, 1) := by decide +kernel
theorem dX7_lose_31 : decode cX7_lose 31 = .ok (.bipush (-9), 2) := by decide +kernel
theorem dX7_lose_33 : decode cX7_lose 33 = .ok (.iastore, 1) := by decide +kernel
theorem dX7_lose_34 : decode cX7_lose 34 = .ok (.iload_n 2, 1) := by decide +kernel
theorem dX7_lose_35 : decode cX7_lose 35 = .ok (.ireturn, 1) := by decide +kernel
theorem dX7_put_0 : decode cX7_put 0 = .ok (.aload_n 0, 1) := by decide +kernel
theorem dX7_put_1 : decode cX7_put 1 = .ok (.iconst 0, 1) := by decide +kernel
theorem dX7_put_2 : decode cX7_put 2 = .ok (.putfield 55, 3) := by decide +kernel
theorem dX7_put_5 : decode cX7_put 5 = .ok (.iload_n 1, 1) := by decide +kernel
theorem dX7_put_6 : decode cX7_put 6 = .ok (.invokestatic 71, 3) := by decide +kernel
theorem dX7_put_9 : decode cX7_put 9 = .ok (.ifCond .ne 5, 3) := by decide +kernel
theorem dX7_put_12 : decode cX7_put 12 = .ok (.iconst (-1), 1) := by decide +kernel
theorem dX7_put_13 : decode cX7_put 13 = .ok (.ireturn, 1) := by decide +kernel
theorem dX7_put_14 : decode cX7_put 14 = .ok (.aload_n 0, 1) := by decide +kernel
theorem dX7_put_15 : decode cX7_put 15 = .ok (.getfield 9, 3) := by decide +kernel
theorem dX7_put_18 : decode cX7_put 18 = .ok (.iload_n 1, 1) := by decide +kernel
theorem dX7_put_19 : decode cX7_put 19 = .ok (.iaload, 1) := by decide +kernel
theorem dX7_put_20 : decode cX7_put 20 = .ok (.bipush (-9), 2) := by decide +kernel
theorem dX7_put_22 : decode cX7_put 22 = .ok (.if_icmp .ne 9, 3) := by decide +kernel
theorem dX7_put_25 : decode cX7_put 25 = .ok (.aload_n 0, 1) := by decide +kernel
theorem dX7_put_26 : decode cX7_put 26 = .ok (.iconst 1, 1) := by decide +kernel
theorem dX7_put_27 : decode cX7_put 27 = .ok (.invokevirtual 82, 3) := by decide +kernel
theorem dX7_put_30 : decode cX7_put 30 = .ok (.ireturn, 1) := by decide +kernel
theorem dX7_put_31 : decode cX7_put 31 = .ok (.iload_n 2, 1) := by decide +kernel
theorem dX7_put_32 : decode cX7_put 32 = .ok (.iconst 0, 1) := by decide +kernel
theorem dX7_put_33 : decode cX7_put 33 = .ok (.aload_n 0, 1) := by decide +kernel
theorem dX7_put_34 : decode cX7_put 34 = .ok (.getfield 13, 3) := by decide +kernel
theorem dX7_put_37 : decode cX7_put 37 = .ok (.iload_n 1, 1) := by decide +kernel
theorem dX7_put_38 : decode cX7_put 38 = .ok (.iaload, 1) := by decide +kernel
theorem dX7_put_39 : decode cX7_put 39 = .ok (.iconst 1, 1) := by decide +kernel
theorem dX7_put_40 : decode cX7_put 40 = .ok (.isub, 1) := by decide +kernel
theorem dX7_put_41 : decode cX7_put 41 = .ok (.invokestatic 61, 3) := by decide +kernel
theorem dX7_put_44 : decode cX7_put 44 = .ok (.ifCond .ne 9, 3) := by decide +kernel
theorem dX7_put_47 : decode cX7_put 47 = .ok (.aload_n 0, 1) := by decide +kernel
theorem dX7_put_48 : decode cX7_put 48 = .ok (.iconst 3, 1) := by decide +kernel
theorem dX7_put_49 : decode cX7_put 49 = .ok (.invokevirtual 82, 3) := by decide +kernel
theorem dX7_put_52 : decode cX7_put 52 = .ok (.ireturn, 1) := by decide +kernel
theorem dX7_put_53 : decode cX7_put 53 = .ok (.aload_n 0, 1) := by decide +kernel
theorem dX7_put_54 : decode cX7_put 54 = .ok (.getfield 16, 3) := by decide +kernel
theorem dX7_put_57 : decode cX7_put 57 = .ok (.bipush 60, 2) := by decide +kernel
theorem dX7_put_59 : decode cX7_put 59 = .ok (.iload_n 1, 1) := by decide +kernel
theorem dX7_put_60 : decode cX7_put 60 = .ok (.imul, 1) := by decide +kernel
theorem dX7_put_61 : decode cX7_put 61 = .ok (.iload_n 2, 1) := by decide +kernel
theorem dX7_put_62 : decode cX7_put 62 = .ok (.iadd, 1) := by decide +kernel
theorem dX7_put_63 : decode cX7_put 63 = .ok (.aload_n 0, 1) := by decide +kernel
theorem dX7_put_64 : decode cX7_put 64 = .ok (.getfield 9, 3) := by decide +kernel
theorem dX7_put_67 : decode cX7_put 67 = .ok (.iload_n 1, 1) := by decide +kernel
theorem dX7_put_68 : decode cX7_put 68 = .ok (.iaload, 1) := by decide +kernel
theorem dX7_put_69 : decode cX7_put 69 = .ok (.ifCond .ne 8, 3) := by decide +kernel
theorem dX7_put_72 : decode cX7_put 72 = .ok (.iload_n 3, 1) := by decide +kernel
theorem dX7_put_73 : decode cX7_put 73 = .ok (.i2b, 1) := by decide +kernel
theorem dX7_put_74 : decode cX7_put 74 = .ok (.goto 19, 3) := by decide +kernel
theorem dX7_put_77 : decode cX7_put 77 = .ok (.aload_n 0, 1) := by decide +kernel
theorem dX7_put_78 : decode cX7_put 78 = .ok (.getfield 9, 3) := by decide +kernel
theorem dX7_put_81 : decode cX7_put 81 = .ok (.iload_n 1, 1) := by decide +kernel
theorem dX7_put_82 : decode cX7_put 82 = .ok (.iaload, 1) := by decide +kernel
theorem dX7_put_83 : decode cX7_put 83 = .ok (.iconst 1, 1) := by decide +kernel
theorem dX7_put_84 : decode cX7_put 84 = .ok (.if_icmp .ne 8, 3) := by decide +kernel
theorem dX7_put_87 : decode cX7_put 87 = .ok (.iload_n 3, 1) := by decide +kernel
theorem dX7_put_88 : decode cX7_put 88 = .ok (.i2s, 1) := by decide +kernel
theorem dX7_put_89 : decode cX7_put 89 = .ok (.goto 4, 3) := by decide +kernel
theorem dX7_put_92 : decode cX7_put 92 = .ok (.iload_n 3, 1) := by decide +kernel
theorem dX7_put_93 : decode cX7_put 93 = .ok (.iastore, 1) := by decide +kernel
theorem dX7_put_94 : decode cX7_put 94 = .ok (.iconst 1, 1) := by decide +kernel
theorem dX7_put_95 : decode cX7_put 95 = .ok (.ireturn, 1) := by decide +kernel
theorem dX7_cell_0 : decode cX7_cell 0 = .ok (.aload_n 0, 1) := by decide +kernel
theorem dX7_cell_1 : decode cX7_cell 1 = .ok (.iconst 0, 1) := by decide +kernel
theorem dX7_cell_2 : decode cX7_cell 2 = .ok (.putfield 55, 3) := by decide +kernel
theorem dX7_cell_5 : decode cX7_cell 5 = .ok (.iload_n 1, 1) := by decide +kernel
theorem dX7_cell_6 : decode cX7_cell 6 = .ok (.invokestatic 71, 3) := by decide +kernel
theorem dX7_cell_9 : decode cX7_cell 9 = .ok (.ifCond .eq 10, 3) := by decide +kernel
theorem dX7_cell_12 : decode cX7_cell 12 = .ok (.iload_n 3, 1) := by decide +kernel
theorem dX7_cell_13 : decode cX7_cell 13 = .ok (.invokestatic 75, 3) := by decide +kernel
theorem dX7_cell_16 : decode cX7_cell 16 = .ok (.ifCond .ne 7, 3) := by decide +kernel
theorem dX7_cell_19 : decode cX7_cell 19 = .ok (.ldc2_w 59, 3) := by decide +kernel
theorem dX7_cell_22 : decode cX7_cell 22 = .ok (.lreturn, 1) := by decide +kernel
theorem dX7_cell_23 : decode cX7_cell 23 = .ok (.aload_n 0, 1) := by decide +kernel
theorem dX7_cell_24 : decode cX7_cell 24 = .ok (.getfield 9, 3) := by decide +kernel
theorem dX7_cell_27 : decode cX7_cell 27 = .ok (.iload_n 1, 1) := by decide +kernel
theorem dX7_cell_28 : decode cX7_cell 28 = .ok (.iaload, 1) := by decide +kernel
theorem dX7_cell_29 : decode cX7_cell 29 = .ok (.bipush (-9), 2) := by decide +kernel
theorem dX7_cell_31 : decode cX7_cell 31 = .ok (.if_icmp .eq 19, 3) := by decide +kernel
theorem dX7_cell_34 : decode cX7_cell 34 = .ok (.aload_n 0, 1) := by decide +kernel
theorem dX7_cell_35 : decode cX7_cell 35 = .ok (.getfield 9, 3) := by decide +kernel
theorem dX7_cell_38 : decode cX7_cell 38 = .ok (.iload_n 1, 1) := by decide +kernel
theorem dX7_cell_39 : decode cX7_cell 39 = .ok (.iaload, 1) := by decide +kernel
theorem dX7_cell_40 : decode cX7_cell 40 = .ok (.iload_n 3, 1) := by decide +kernel
theorem dX7_cell_41 : decode cX7_cell 41 = .ok (.if_icmp .eq 9, 3) := by decide +kernel
theorem dX7_cell_44 : decode cX7_cell 44 = .ok (.aload_n 0, 1) := by decide +kernel
theorem dX7_cell_45 : decode cX7_cell 45 = .ok (.iconst 2, 1) := by decide +kernel
theorem dX7_cell_46 : decode cX7_cell 46 = .ok (.invokevirtual 208, 3) := by decide +kernel
theorem dX7_cell_49 : decode cX7_cell 49 = .ok (.lreturn, 1) := by decide +kernel
theorem dX7_cell_50 : decode cX7_cell 50 = .ok (.aload_n 0, 1) := by decide +kernel
theorem dX7_cell_51 : decode cX7_cell 51 = .ok (.getfield 9, 3) := by decide +kernel
theorem dX7_cell_54 : decode cX7_cell 54 = .ok (.iload_n 1, 1) := by decide +kernel
theorem dX7_cell_55 : decode cX7_cell 55 = .ok (.iaload, 1) := by decide +kernel
theorem dX7_cell_56 : decode cX7_cell 56 = .ok (.bipush (-9), 2) := by decide +kernel
theorem dX7_cell_58 : decode cX7_cell 58 = .ok (.if_icmp .ne 9, 3) := by decide +kernel
theorem dX7_cell_61 : decode cX7_cell 61 = .ok (.aload_n 0, 1) := by decide +kernel
theorem dX7_cell_62 : decode cX7_cell 62 = .ok (.iconst 1, 1) := by decide +kernel
theorem dX7_cell_63 : decode cX7_cell 63 = .ok (.invokevirtual 208, 3) := by decide +kernel
theorem dX7_cell_66 : decode cX7_cell 66 = .ok (.lreturn, 1) := by decide +kernel
theorem dX7_cell_67 : decode cX7_cell 67 = .ok (.iload_n 2, 1) := by decide +kernel
theorem dX7_cell_68 : decode cX7_cell 68 = .ok (.iconst 0, 1) := by decide +kernel
theorem dX7_cell_69 : decode cX7_cell 69 = .ok (.aload_n 0, 1) := by decide +kernel
theorem dX7_cell_70 : decode cX7_cell 70 = .ok (.getfield 13, 3) := by decide +kernel
theorem dX7_cell_73 : decode cX7_cell 73 = .ok (.iload_n 1, 1) := by decide +kernel
theorem dX7_cell_74 : decode cX7_cell 74 = .ok (.iaload, 1) := by decide +kernel
theorem dX7_cell_75 : decode cX7_cell 75 = .ok (.iconst 1, 1) := by decide +kernel
theorem dX7_cell_76 : decode cX7_cell 76 = .ok (.isub, 1) := by decide +kernel
theorem dX7_cell_77 : decode cX7_cell 77 = .ok (.invokestatic 61, 3) := by decide +kernel
theorem dX7_cell_80 : decode cX7_cell 80 = .ok (.ifCond .ne 9, 3) := by decide +kernel
theorem dX7_cell_83 : decode cX7_cell 83 = .ok (.aload_n 0, 1) := by decide +kernel
theorem dX7_cell_84 : decode cX7_cell 84 = .ok (.iconst 3, 1) := by decide +kernel
theorem dX7_cell_85 : decode cX7_cell 85 = .ok (.invokevirtual 208, 3) := by decide +kernel
theorem dX7_cell_88 : decode cX7_cell 88 = .ok (.lreturn, 1) := by decide +kernel
theorem dX7_cell_89 : decode cX7_cell 89 = .ok (.aload_n 0, 1) := by decide +kernel
theorem dX7_cell_90 : decode cX7_cell 90 = .ok (.getfield 16, 3) := by decide +kernel
theorem dX7_cell_93 : decode cX7_cell 93 = .ok (.bipush 60, 2) := by decide +kernel
theorem dX7_cell_95 : decode cX7_cell 95 = .ok (.iload_n 1, 1) := by decide +kernel
theorem dX7_cell_96 : decode cX7_cell 96 = .ok (.imul, 1) := by decide +kernel
theorem dX7_cell_97 : decode cX7_cell 97 = .ok (.iload_n 2, 1) := by decide +kernel
theorem dX7_cell_98 : decode cX7_cell 98 = .ok (.iadd, 1) := by decide +kernel
theorem dX7_cell_99 : decode cX7_cell 99 = .ok (.iaload, 1) := by decide +kernel
theorem dX7_cell_100 : decode cX7_cell 100 = .ok (.i2l, 1) := by decide +kernel
theorem dX7_cell_101 : decode cX7_cell 101 = .ok (.lreturn, 1) := by decide +kernel
theorem dX7_copy_0 : decode cX7_copy 0 = .ok (.aload_n 0, 1) := by decide +kernel
theorem dX7_copy_1 : decode cX7_copy 1 = .ok (.iconst 0, 1) := by decide +kernel
theorem dX7_copy_2 : decode cX7_copy 2 = .ok (.putfield 55, 3) := by decide +kernel
theorem dX7_copy_5 : decode cX7_copy 5 = .ok (.iload_n 1, 1) := by decide +kernel
theorem dX7_copy_6 : decode cX7_copy 6 = .ok (.invokestatic 71, 3) := by decide +kernel
theorem dX7_copy_9 : decode cX7_copy 9 = .ok (.ifCond .eq 10, 3) := by decide +kernel
theorem dX7_copy_12 : decode cX7_copy 12 = .ok (.iload_n 3, 1) := by decide +kernel
theorem dX7_copy_13 : decode cX7_copy 13 = .ok (.invokestatic 71, 3) := by decide +kernel
theorem dX7_copy_16 : decode cX7_copy 16 = .ok (.ifCond .ne 5, 3) := by decide +kernel
theorem dX7_copy_19 : decode cX7_copy 19 = .ok (.iconst (-1), 1) := by decide +kernel
theorem dX7_copy_20 : decode cX7_copy 20 = .ok (.ireturn, 1) := by decide +kernel
theorem dX7_copy_21 : decode cX7_copy 21 = .ok (.aload_n 0, 1) := by decide +kernel
theorem dX7_copy_22 : decode cX7_copy 22 = .ok (.getfield 9, 3) := by decide +kernel
theorem dX7_copy_25 : decode cX7_copy 25 = .ok (.iload_n 1, 1) := by decide +kernel
theorem dX7_copy_26 : decode cX7_copy 26 = .ok (.iaload, 1) := by decide +kernel
theorem dX7_copy_27 : decode cX7_copy 27 = .ok (.bipush (-9), 2) := by decide +kernel
theorem dX7_copy_29 : decode cX7_copy 29 = .ok (.if_icmp .eq 14, 3) := by decide +kernel
theorem dX7_copy_32 : decode cX7_copy 32 = .ok (.aload_n 0, 1) := by decide +kernel
theorem dX7_copy_33 : decode cX7_copy 33 = .ok (.getfield 9, 3) := by decide +kernel
theorem dX7_copy_36 : decode cX7_copy 36 = .ok (.iload_n 3, 1) := by decide +kernel
theorem dX7_copy_37 : decode cX7_copy 37 = .ok (.iaload, 1) := by decide +kernel
theorem dX7_copy_38 : decode cX7_copy 38 = .ok (.bipush (-9), 2) := by decide +kernel
theorem dX7_copy_40 : decode cX7_copy 40 = .ok (.if_icmp .ne 9, 3) := by decide +kernel
theorem dX7_copy_43 : decode cX7_copy 43 = .ok (.aload_n 0, 1) := by decide +kernel
theorem dX7_copy_44 : decode cX7_copy 44 = .ok (.iconst 1, 1) := by decide +kernel
theorem dX7_copy_45 : decode cX7_copy 45 = .ok (.invokevirtual 82, 3) := by decide +kernel
theorem dX7_copy_48 : decode cX7_copy 48 = .ok (.ireturn, 1) := by decide +kernel
theorem dX7_copy_49 : decode cX7_copy 49 = .ok (.aload_n 0, 1) := by decide +kernel
theorem dX7_copy_50 : decode cX7_copy 50 = .ok (.getfield 9, 3) := by decide +kernel
theorem dX7_copy_53 : decode cX7_copy 53 = .ok (.iload_n 1, 1) := by decide +kernel
theorem dX7_copy_54 : decode cX7_copy 54 = .ok (.iaload, 1) := by decide +kernel
theorem dX7_copy_55 : decode cX7_copy 55 = .ok (.aload_n 0, 1) := by decide +kernel
theorem dX7_copy_56 : decode cX7_copy 56 = .ok (.getfield 9, 3) := by decide +kernel
theorem dX7_copy_59 : decode cX7_copy 59 = .ok (.iload_n 3, 1) := by decide +kernel
theorem dX7_copy_60 : decode cX7_copy 60 = .ok (.iaload, 1) := by decide +kernel
theorem dX7_copy_61 : decode cX7_copy 61 = .ok (.if_icmp .eq 9, 3) := by decide +kernel
theorem dX7_copy_64 : decode cX7_copy 64 = .ok (.aload_n 0, 1) := by decide +kernel
theorem dX7_copy_65 : decode cX7_copy 65 = .ok (.iconst 2, 1) := by decide +kernel
theorem dX7_copy_66 : decode cX7_copy 66 = .ok (.invokevirtual 82, 3) := by decide +kernel
theorem dX7_copy_69 : decode cX7_copy 69 = .ok (.ireturn, 1) := by decide +kernel
theorem dX7_copy_70 : decode cX7_copy 70 = .ok (.iload_n 2, 1) := by decide +kernel
theorem dX7_copy_71 : decode cX7_copy 71 = .ok (.ifCond .lt 38, 3) := by decide +kernel
theorem dX7_copy_74 : decode cX7_copy 74 = .ok (.iload 4, 2) := by decide +kernel
theorem dX7_copy_76 : decode cX7_copy 76 = .ok (.ifCond .lt 33, 3) := by decide +kernel
theorem dX7_copy_79 : decode cX7_copy 79 = .ok (.iload 5, 2) := by decide +kernel
theorem dX7_copy_81 : decode cX7_copy 81 = .ok (.ifCond .lt 28, 3) := by decide +kernel
theorem dX7_copy_84 : decode cX7_copy 84 = .ok (.iload_n 2, 1) := by decide +kernel
theorem dX7_copy_85 : decode cX7_copy 85 = .ok (.aload_n 0, 1) := by decide +kernel
theorem dX7_copy_86 : decode cX7_copy 86 = .ok (.getfield 13, 3) := by decide +kernel
theorem dX7_copy_89 : decode cX7_copy 89 = .ok (.iload_n 1, 1) := by decide +kernel
theorem dX7_copy_90 : decode cX7_copy 90 = .ok (.iaload, 1) := by decide +kernel
theorem dX7_copy_91 : decode cX7_copy 91 = .ok (.if_icmp .gt 18, 3) := by decide +kernel
theorem dX7_copy_94 : decode cX7_copy 94 = .ok (.iload 4, 2) := by decide +kernel
theorem dX7_copy_96 : decode cX7_copy 96 = .ok (.aload_n 0, 1) := by decide +kernel
theorem dX7_copy_97 : decode cX7_copy 97 = .ok (.getfield 13, 3) := by decide +kernel
theorem dX7_copy_100 : decode cX7_copy 100 = .ok (.iload_n 3, 1) := by decide +kernel
theorem dX7_copy_101 : decode cX7_copy 101 = .ok (.iaload, 1) := by decide +kernel
theorem dX7_copy_102 : decode cX7_copy 102 = .ok (.if_icmp .gt 7, 3) := by decide +kernel
theorem dX7_copy_105 : decode cX7_copy 105 = .ok (.iconst 1, 1) := by decide +kernel
theorem dX7_copy_106 : decode cX7_copy 106 = .ok (.goto 4, 3) := by decide +kernel
theorem dX7_copy_109 : decode cX7_copy 109 = .ok (.iconst 0, 1) := by decide +kernel
theorem dX7_copy_110 : decode cX7_copy 110 = .ok (.istore 6, 2) := by decide +kernel
theorem dX7_copy_112 : decode cX7_copy 112 = .ok (.iload 6, 2) := by decide +kernel
theorem dX7_copy_114 : decode cX7_copy 114 = .ok (.ifCond .eq 30, 3) := by decide +kernel
theorem dX7_copy_117 : decode cX7_copy 117 = .ok (.iload 5, 2) := by decide +kernel
theorem dX7_copy_119 : decode cX7_copy 119 = .ok (.aload_n 0, 1) := by decide +kernel
theorem dX7_copy_120 : decode cX7_copy 120 = .ok (.getfield 13, 3) := by decide +kernel
theorem dX7_copy_123 : decode cX7_copy 123 = .ok (.iload_n 1, 1) := by decide +kernel
theorem dX7_copy_124 : decode cX7_copy 124 = .ok (.iaload, 1) := by decide +kernel
theorem dX7_copy_125 : decode cX7_copy 125 = .ok (.iload_n 2, 1) := by decide +kernel
theorem dX7_copy_126 : decode cX7_copy 126 = .ok (.isub, 1) := by decide +kernel
theorem dX7_copy_127 : decode cX7_copy 127 = .ok (.if_icmp .gt 17, 3) := by decide +kernel
theorem dX7_copy_130 : decode cX7_copy 130 = .ok (.iload 5, 2) := by decide +kernel
theorem dX7_copy_132 : decode cX7_copy 132 = .ok (.aload_n 0, 1) := by decide +kernel
theorem dX7_copy_133 : decode cX7_copy 133 = .ok (.getfield 13, 3) := by decide +kernel
theorem dX7_copy_136 : decode cX7_copy 136 = .ok (.iload_n 3, 1) := by decide +kernel
theorem dX7_copy_137 : decode cX7_copy 137 = .ok (.iaload, 1) := by decide +kernel
theorem dX7_copy_138 : decode cX7_copy 138 = .ok (.iload 4, 2) := by decide +kernel
theorem dX7_copy_140 : decode cX7_copy 140 = .ok (.isub, 1) := by decide +kernel
theorem dX7_copy_141 : decode cX7_copy 141 = .ok (.if_icmp .le 9, 3) := by decide +kernel
theorem dX7_copy_144 : decode cX7_copy 144 = .ok (.aload_n 0, 1) := by decide +kernel
theorem dX7_copy_145 : decode cX7_copy 145 = .ok (.iconst 3, 1) := by decide +kernel
theorem dX7_copy_146 : decode cX7_copy 146 = .ok (.invokevirtual 82, 3) := by decide +kernel
theorem dX7_copy_149 : decode cX7_copy 149 = .ok (.ireturn, 1) := by decide +kernel
theorem dX7_copy_150 : decode cX7_copy 150 = .ok (.iload_n 2, 1) := by decide +kernel
theorem dX7_copy_151 : decode cX7_copy 151 = .ok (.iload 4, 2) := by decide +kernel
theorem dX7_copy_153 : decode cX7_copy 153 = .ok (.if_icmp .ge 7, 3) := by decide +kernel
theorem dX7_copy_156 : decode cX7_copy 156 = .ok (.iconst 1, 1) := by decide +kernel
theorem dX7_copy_157 : decode cX7_copy 157 = .ok (.goto 4, 3) := by decide +kernel
theorem dX7_copy_160 : decode cX7_copy 160 = .ok (.iconst 0, 1) := by decide +kernel
theorem dX7_copy_161 : decode cX7_copy 161 = .ok (.istore 7, 2) := by decide +kernel
theorem dX7_copy_163 : decode cX7_copy 163 = .ok (.iconst 0, 1) := by decide +kernel
theorem dX7_copy_164 : decode cX7_copy 164 = .ok (.istore 8, 2) := by decide +kernel
theorem dX7_copy_166 : decode cX7_copy 166 = .ok (.iload 8, 2) := by decide +kernel
theorem dX7_copy_168 : decode cX7_copy 168 = .ok (.iload 5, 2) := by decide +kernel
theorem dX7_copy_170 : decode cX7_copy 170 = .ok (.if_icmp .ge 57, 3) := by decide +kernel
theorem dX7_copy_173 : decode cX7_copy 173 = .ok (.iload 7, 2) := by decide +kernel
theorem dX7_copy_175 : decode cX7_copy 175 = .ok (.ifCond .eq 13, 3) := by decide +kernel
theorem dX7_copy_178 : decode cX7_copy 178 = .ok (.iload 5, 2) := by decide +kernel
theorem dX7_copy_180 : decode cX7_copy 180 = .ok (.iconst 1, 1) := by decide +kernel
theorem dX7_copy_181 : decode cX7_copy 181 = .ok (.isub, 1) := by decide +kernel
theorem dX7_copy_182 : decode cX7_copy 182 = .ok (.iload 8, 2) := by decide +kernel
theorem dX7_copy_184 : decode cX7_copy 184 = .ok (.isub, 1) := by decide +kernel
theorem dX7_copy_185 : decode cX7_copy 185 = .ok (.goto 5, 3) := by decide +kernel
theorem dX7_copy_188 : decode cX7_copy 188 = .ok (.iload 8, 2) := by decide +kernel
theorem dX7_copy_190 : decode cX7_copy 190 = .ok (.istore 9, 2) := by decide +kernel
theorem dX7_copy_192 : decode cX7_copy 192 = .ok (.aload_n 0, 1) := by decide +kernel
theorem dX7_copy_193 : decode cX7_copy 193 = .ok (.getfield 16, 3) := by decide +kernel
theorem dX7_copy_196 : decode cX7_copy 196 = .ok (.bipush 60, 2) := by decide +kernel
theorem dX7_copy_198 : decode cX7_copy 198 = .ok (.iload_n 3, 1) := by decide +kernel
theorem dX7_copy_199 : decode cX7_copy 199 = .ok (.imul, 1) := by decide +kernel
theorem dX7_copy_200 : decode cX7_copy 200 = .ok (.iload 4, 2) := by decide +kernel
theorem dX7_copy_202 : decode cX7_copy 202 = .ok (.iadd, 1) := by decide +kernel
theorem dX7_copy_203 : decode cX7_copy 203 = .ok (.iload 9, 2) := by decide +kernel
theorem dX7_copy_205 : decode cX7_copy 205 = .ok (.iadd, 1) := by decide +kernel
theorem dX7_copy_206 : decode cX7_copy 206 = .ok (.aload_n 0, 1) := by decide +kernel
theorem dX7_copy_207 : decode cX7_copy 207 = .ok (.getfield 16, 3) := by decide +kernel
theorem dX7_copy_210 : decode cX7_copy 210 = .ok (.bipush 60, 2) := by decide +kernel
theorem dX7_copy_212 : decode cX7_copy 212 = .ok (.iload_n 1, 1) := by decide +kernel
theorem dX7_copy_213 : decode cX7_copy 213 = .ok (.imul, 1) := by decide +kernel
theorem dX7_copy_214 : decode cX7_copy 214 = .ok (.iload_n 2, 1) := by decide +kernel
theorem dX7_copy_215 : decode cX7_copy 215 = .ok (.iadd, 1) := by decide +kernel
theorem dX7_copy_216 : decode cX7_copy 216 = .ok (.iload 9, 2) := by decide +kernel
theorem dX7_copy_218 : decode cX7_copy 218 = .ok (.iadd, 1) := by decide +kernel
theorem dX7_copy_219 : decode cX7_copy 219 = .ok (.iaload, 1) := by decide +kernel
theorem dX7_copy_220 : decode cX7_copy 220 = .ok (.iastore, 1) := by decide +kernel
theorem dX7_copy_221 : decode cX7_copy 221 = .ok (.iinc 8 1, 3) := by decide +kernel
theorem dX7_copy_224 : decode cX7_copy 224 = .ok (.goto (-58), 3) := by decide +kernel
theorem dX7_copy_227 : decode cX7_copy 227 = .ok (.iload 5, 2) := by decide +kernel
theorem dX7_copy_229 : decode cX7_copy 229 = .ok (.ireturn, 1) := by decide +kernel
theorem dX7_begins_0 : decode cX7_begins 0 = .ok (.aload_n 0, 1) := by decide +kernel
theorem dX7_begins_1 : decode cX7_begins 1 = .ok (.bipush 31, 2) := by decide +kernel
theorem dX7_begins_3 : decode cX7_begins 3 = .ok (.aload_n 0, 1) := by decide +kernel
theorem dX7_begins_4 : decode cX7_begins 4 = .ok (.getfield 212, 3) := by decide +kernel
theorem dX7_begins_7 : decode cX7_begins 7 = .ok (.imul, 1) := by decide +kernel
theorem dX7_begins_8 : decode cX7_begins 8 = .ok (.iload_n 1, 1) := by decide +kernel
theorem dX7_begins_9 : decode cX7_begins 9 = .ok (.iadd, 1) := by decide +kernel
theorem dX7_begins_10 : decode cX7_begins 10 = .ok (.putfield 212, 3) := by decide +kernel
theorem dX7_begins_13 : decode cX7_begins 13 = .ok (.return_, 1) := by decide +kernel
theorem dX7_tell_0 : decode cX7_tell 0 = .ok (.aload_n 0, 1) := by decide +kernel
theorem dX7_tell_1 : decode cX7_tell 1 = .ok (.iload_n 1, 1) := by decide +kernel
theorem dX7_tell_2 : decode cX7_tell 2 = .ok (.invokevirtual 132, 3) := by decide +kernel
theorem dX7_tell_5 : decode cX7_tell 5 = .ok (.ifCond .ne 5, 3) := by decide +kernel
theorem dX7_tell_8 : decode cX7_tell 8 = .ok (.iconst (-1), 1) := by decide +kernel
theorem dX7_tell_9 : decode cX7_tell 9 = .ok (.ireturn, 1) := by decide +kernel
theorem dX7_tell_10 : decode cX7_tell 10 = .ok (.aload_n 0, 1) := by decide +kernel
theorem dX7_tell_11 : decode cX7_tell 11 = .ok (.getfield 28, 3) := by decide +kernel
theorem dX7_tell_14 : decode cX7_tell 14 = .ok (.iload_n 1, 1) := by decide +kernel
theorem dX7_tell_15 : decode cX7_tell 15 = .ok (.iaload, 1) := by decide +kernel
theorem dX7_tell_16 : decode cX7_tell 16 = .ok (.istore_n 2, 1) := by decide +kernel
theorem dX7_tell_17 : decode cX7_tell 17 = .ok (.aload_n 0, 1) := by decide +kernel
theorem dX7_tell_18 : decode cX7_tell 18 = .ok (.getfield 22, 3) := by decide +kernel
theorem dX7_tell_21 : decode cX7_tell 21 = .ok (.iload_n 1, 1) := by decide +kernel
theorem dX7_tell_22 : decode cX7_tell 22 = .ok (.iaload, 1) := by decide +kernel
theorem dX7_tell_23 : decode cX7_tell 23 = .ok (.lookupswitch 67 #[(1, 25), (2, 40)], 25) := by decide +kernel
theorem dX7_tell_48 : decode cX7_tell 48 = .ok (.aload_n 0, 1) := by decide +kernel
theorem dX7_tell_49 : decode cX7_tell 49 = .ok (.iconst 2, 1) := by decide +kernel
theorem dX7_tell_50 : decode cX7_tell 50 = .ok (.invokevirtual 215, 3) := by decide +kernel
theorem dX7_tell_53 : decode cX7_tell 53 = .ok (.aload_n 0, 1) := by decide +kernel
theorem dX7_tell_54 : decode cX7_tell 54 = .ok (.iconst 1, 1) := by decide +kernel
theorem dX7_tell_55 : decode cX7_tell 55 = .ok (.invokevirtual 215, 3) := by decide +kernel
theorem dX7_tell_58 : decode cX7_tell 58 = .ok (.iload_n 2, 1) := by decide +kernel
theorem dX7_tell_59 : decode cX7_tell 59 = .ok (.bipush 100, 2) := by decide +kernel
theorem dX7_tell_61 : decode cX7_tell 61 = .ok (.iadd, 1) := by decide +kernel
theorem dX7_tell_62 : decode cX7_tell 62 = .ok (.ireturn, 1) := by decide +kernel
theorem dX7_tell_63 : decode cX7_tell 63 = .ok (.aload_n 0, 1) := by decide +kernel
theorem dX7_tell_64 : decode cX7_tell 64 = .ok (.iconst 3, 1) := by decide +kernel
theorem dX7_tell_65 : decode cX7_tell 65 = .ok (.invokevirtual 215, 3) := by decide +kernel
theorem dX7_tell_68 : decode cX7_tell 68 = .ok (.aload_n 0, 1) := by decide +kernel
theorem dX7_tell_69 : decode cX7_tell 69 = .ok (.iconst 2, 1) := by decide +kernel
theorem dX7_tell_70 : decode cX7_tell 70 = .ok (.invokevirtual 215, 3) := by decide +kernel
theorem dX7_tell_73 : decode cX7_tell 73 = .ok (.aload_n 0, 1) := by decide +kernel
theorem dX7_tell_74 : decode cX7_tell 74 = .ok (.iconst 1, 1) := by decide +kernel
theorem dX7_tell_75 : decode cX7_tell 75 = .ok (.invokevirtual 215, 3) := by decide +kernel
theorem dX7_tell_78 : decode cX7_tell 78 = .ok (.aload_n 0, 1) := by decide +kernel
theorem dX7_tell_79 : decode cX7_tell 79 = .ok (.iconst 1, 1) := by decide +kernel
theorem dX7_tell_80 : decode cX7_tell 80 = .ok (.invokevirtual 215, 3) := by decide +kernel
theorem dX7_tell_83 : decode cX7_tell 83 = .ok (.iconst 2, 1) := by decide +kernel
theorem dX7_tell_84 : decode cX7_tell 84 = .ok (.iload_n 2, 1) := by decide +kernel
theorem dX7_tell_85 : decode cX7_tell 85 = .ok (.imul, 1) := by decide +kernel
theorem dX7_tell_86 : decode cX7_tell 86 = .ok (.bipush 100, 2) := by decide +kernel
theorem dX7_tell_88 : decode cX7_tell 88 = .ok (.iadd, 1) := by decide +kernel
theorem dX7_tell_89 : decode cX7_tell 89 = .ok (.ireturn, 1) := by decide +kernel
theorem dX7_tell_90 : decode cX7_tell 90 = .ok (.aload_n 0, 1) := by decide +kernel
theorem dX7_tell_91 : decode cX7_tell 91 = .ok (.iconst 1, 1) := by decide +kernel
theorem dX7_tell_92 : decode cX7_tell 92 = .ok (.invokevirtual 215, 3) := by decide +kernel
theorem dX7_tell_95 : decode cX7_tell 95 = .ok (.iload_n 2, 1) := by decide +kernel
theorem dX7_tell_96 : decode cX7_tell 96 = .ok (.ireturn, 1) := by decide +kernel
theorem dX7_sign_0 : decode cX7_sign 0 = .ok (.aload_n 0, 1) := by decide +kernel
theorem dX7_sign_1 : decode cX7_sign 1 = .ok (.iload_n 1, 1) := by decide +kernel
theorem dX7_sign_2 : decode cX7_sign 2 = .ok (.invokevirtual 132, 3) := by decide +kernel
theorem dX7_sign_5 : decode cX7_sign 5 = .ok (.ifCond .ne 5, 3) := by decide +kernel
theorem dX7_sign_8 : decode cX7_sign 8 = .ok (.iconst (-1), 1) := by decide +kernel
theorem dX7_sign_9 : decode cX7_sign 9 = .ok (.ireturn, 1) := by decide +kernel
theorem dX7_sign_10 : decode cX7_sign 10 = .ok (.aload_n 0, 1) := by decide +kernel
theorem dX7_sign_11 : decode cX7_sign 11 = .ok (.aload_n 0, 1) := by decide +kernel
theorem dX7_sign_12 : decode cX7_sign 12 = .ok (.getfield 22, 3) := by decide +kernel
theorem dX7_sign_15 : decode cX7_sign 15 = .ok (.iload_n 1, 1) := by decide +kernel
theorem dX7_sign_16 : decode cX7_sign 16 = .ok (.iaload, 1) := by decide +kernel
theorem dX7_sign_17 : decode cX7_sign 17 = .ok (.iconst 2, 1) := by decide +kernel
theorem dX7_sign_18 : decode cX7_sign 18 = .ok (.if_icmp .ne 7, 3) := by decide +kernel
theorem dX7_sign_21 : decode cX7_sign 21 = .ok (.iconst 5, 1) := by decide +kernel
theorem dX7_sign_22 : decode cX7_sign 22 = .ok (.goto 4, 3) := by decide +kernel
theorem dX7_sign_25 : decode cX7_sign 25 = .ok (.iconst 4, 1) := by decide +kernel
theorem dX7_sign_26 : decode cX7_sign 26 = .ok (.invokevirtual 215, 3) := by decide +kernel
theorem dX7_sign_29 : decode cX7_sign 29 = .ok (.aload_n 0, 1) := by decide +kernel
theorem dX7_sign_30 : decode cX7_sign 30 = .ok (.getfield 22, 3) := by decide +kernel
theorem dX7_sign_33 : decode cX7_sign 33 = .ok (.iload_n 1, 1) := by decide +kernel
theorem dX7_sign_34 : decode cX7_sign 34 = .ok (.iaload, 1) := by decide +kernel
theorem dX7_sign_35 : decode cX7_sign 35 = .ok (.iconst 2, 1) := by decide +kernel
theorem dX7_sign_36 : decode cX7_sign 36 = .ok (.if_icmp .ne 8, 3) := by decide +kernel
theorem dX7_sign_39 : decode cX7_sign 39 = .ok (.bipush 40, 2) := by decide +kernel
theorem dX7_sign_41 : decode cX7_sign 41 = .ok (.goto 4, 3) := by decide +kernel
theorem dX7_sign_44 : decode cX7_sign 44 = .ok (.iload_n 1, 1) := by decide +kernel
theorem dX7_sign_45 : decode cX7_sign 45 = .ok (.ireturn, 1) := by decide +kernel
theorem dX7_as_0 : decode cX7_as 0 = .ok (.aload_n 0, 1) := by decide +kernel
theorem dX7_as_1 : decode cX7_as 1 = .ok (.iconst 0, 1) := by decide +kernel
theorem dX7_as_2 : decode cX7_as 2 = .ok (.putfield 55, 3) := by decide +kernel
theorem dX7_as_5 : decode cX7_as 5 = .ok (.aload_n 0, 1) := by decide +kernel
theorem dX7_as_6 : decode cX7_as 6 = .ok (.iload_n 1, 1) := by decide +kernel
theorem dX7_as_7 : decode cX7_as 7 = .ok (.invokevirtual 132, 3) := by decide +kernel
theorem dX7_as_10 : decode cX7_as 10 = .ok (.ifCond .ne 5, 3) := by decide +kernel
theorem dX7_as_13 : decode cX7_as 13 = .ok (.iconst (-1), 1) := by decide +kernel
theorem dX7_as_14 : decode cX7_as 14 = .ok (.ireturn, 1) := by decide +kernel
theorem dX7_as_15 : decode cX7_as 15 = .ok (.iload_n 2, 1) := by decide +kernel
theorem dX7_as_16 : decode cX7_as 16 = .ok (.iconst 0, 1) := by decide +kernel
theorem dX7_as_17 : decode cX7_as 17 = .ok (.iconst 2, 1) := by decide +kernel
theorem dX7_as_18 : decode cX7_as 18 = .ok (.invokestatic 61, 3) := by decide +kernel
theorem dX7_as_21 : decode cX7_as 21 = .ok (.ifCond .ne 6, 3) := by decide +kernel
theorem dX7_as_24 : decode cX7_as 24 = .ok (.bipush (-2), 2) := by decide +kernel
theorem dX7_as_26 : decode cX7_as 26 = .ok (.ireturn, 1) := by decide +kernel
theorem dX7_as_27 : decode cX7_as 27 = .ok (.aload_n 0, 1) := by decide +kernel
theorem dX7_as_28 : decode cX7_as 28 = .ok (.getfield 22, 3) := by decide +kernel
theorem dX7_as_31 : decode cX7_as 31 = .ok (.iload_n 1, 1) := by decide +kernel
theorem dX7_as_32 : decode cX7_as 32 = .ok (.iaload, 1) := by decide +kernel
theorem dX7_as_33 : decode cX7_as 33 = .ok (.iload_n 2, 1) := by decide +kernel
theorem dX7_as_34 : decode cX7_as 34 = .ok (.if_icmp .lt 7, 3) := by decide +kernel
theorem dX7_as_37 : decode cX7_as 37 = .ok (.iconst 1, 1) := by decide +kernel
theorem dX7_as_38 : decode cX7_as 38 = .ok (.goto 8, 3) := by decide +kernel
theorem dX7_as_41 : decode cX7_as 41 = .ok (.aload_n 0, 1) := by decide +kernel
theorem dX7_as_42 : decode cX7_as 42 = .ok (.iconst 2, 1) := by decide +kernel
theorem dX7_as_43 : decode cX7_as 43 = .ok (.invokevirtual 82, 3) := by decide +kernel
theorem dX7_as_46 : decode cX7_as 46 = .ok (.ireturn, 1) := by decide +kernel
theorem dX7_trace_0 : decode cX7_trace 0 = .ok (.aload_n 0, 1) := by decide +kernel
theorem dX7_trace_1 : decode cX7_trace 1 = .ok (.getfield 212, 3) := by decide +kernel
theorem dX7_trace_4 : decode cX7_trace 4 = .ok (.ireturn, 1) := by decide +kernel
theorem dX7_fault_0 : decode cX7_fault 0 = .ok (.aload_n 0, 1) := by decide +kernel
theorem dX7_fault_1 : decode cX7_fault 1 = .ok (.getfield 55, 3) := by decide +kernel
theorem dX7_fault_4 : decode cX7_fault 4 = .ok (.ireturn, 1) := by decide +kernel
theorem dX7_many_0 : decode cX7_many 0 = .ok (.iload_n 1, 1) := by decide +kernel
theorem dX7_many_1 : decode cX7_many 1 = .ok (.tableswitch 63 0 4 #[35, 40, 45, 50, 58], 35) := by decide +kernel
theorem dX7_many_36 : decode cX7_many 36 = .ok (.aload_n 0, 1) := by decide +kernel
theorem dX7_many_37 : decode cX7_many 37 = .ok (.getfield 65, 3) := by decide +kernel
theorem dX7_many_40 : decode cX7_many 40 = .ok (.ireturn, 1) := by decide +kernel
theorem dX7_many_41 : decode cX7_many 41 = .ok (.aload_n 0, 1) := by decide +kernel
theorem dX7_many_42 : decode cX7_many 42 = .ok (.getfield 111, 3) := by decide +kernel
theorem dX7_many_45 : decode cX7_many 45 = .ok (.ireturn, 1) := by decide +kernel
theorem dX7_many_46 : decode cX7_many 46 = .ok (.aload_n 0, 1) := by decide +kernel
theorem dX7_many_47 : decode cX7_many 47 = .ok (.getfield 102, 3) := by decide +kernel
theorem dX7_many_50 : decode cX7_many 50 = .ok (.ireturn, 1) := by decide +kernel
theorem dX7_many_51 : decode cX7_many 51 = .ok (.aload_n 0, 1) := by decide +kernel
theorem dX7_many_52 : decode cX7_many 52 = .ok (.getfield 105, 3) := by decide +kernel
theorem dX7_many_55 : decode cX7_many 55 = .ok (.invokestatic 138, 3) := by decide +kernel
theorem dX7_many_58 : decode cX7_many 58 = .ok (.ireturn, 1) := by decide +kernel
theorem dX7_many_59 : decode cX7_many 59 = .ok (.aload_n 0, 1) := by decide +kernel
theorem dX7_many_60 : decode cX7_many 60 = .ok (.getfield 108, 3) := by decide +kernel
theorem dX7_many_63 : decode cX7_many 63 = .ok (.ireturn, 1) := by decide +kernel
theorem dX7_many_64 : decode cX7_many 64 = .ok (.bipush (-2), 2) := by decide +kernel
theorem dX7_many_66 : decode cX7_many 66 = .ok (.ireturn, 1) := by decide +kernel
theorem dJ6_bitCount_0f7a4_0 : decode cJ6_bitCount_0f7a4 0 = .ok (.iload_n 0, 1) := by decide +kernel
theorem dJ6_bitCount_0f7a4_1 : decode cJ6_bitCount_0f7a4 1 = .ok (.iload_n 0, 1) := by decide +kernel
theorem dJ6_bitCount_0f7a4_2 : decode cJ6_bitCount_0f7a4 2 = .ok (.iconst 1, 1) := by decide +kernel
theorem dJ6_bitCount_0f7a4_3 : decode cJ6_bitCount_0f7a4 3 = .ok (.iushr, 1) := by decide +kernel
theorem dJ6_bitCount_0f7a4_4 : decode cJ6_bitCount_0f7a4 4 = .ok (.ldc_w 265, 3) := by decide +kernel
theorem dJ6_bitCount_0f7a4_7 : decode cJ6_bitCount_0f7a4 7 = .ok (.iand, 1) := by decide +kernel
theorem dJ6_bitCount_0f7a4_8 : decode cJ6_bitCount_0f7a4 8 = .ok (.isub, 1) := by decide +kernel
theorem dJ6_bitCount_0f7a4_9 : decode cJ6_bitCount_0f7a4 9 = .ok (.istore_n 0, 1) := by decide +kernel
theorem dJ6_bitCount_0f7a4_10 : decode cJ6_bitCount_0f7a4 10 = .ok (.iload_n 0, 1) := by decide +kernel
theorem dJ6_bitCount_0f7a4_11 : decode cJ6_bitCount_0f7a4 11 = .ok (.ldc_w 266, 3) := by decide +kernel
theorem dJ6_bitCount_0f7a4_14 : decode cJ6_bitCount_0f7a4 14 = .ok (.iand, 1) := by decide +kernel
theorem dJ6_bitCount_0f7a4_15 : decode cJ6_bitCount_0f7a4 15 = .ok (.iload_n 0, 1) := by decide +kernel
theorem dJ6_bitCount_0f7a4_16 : decode cJ6_bitCount_0f7a4 16 = .ok (.iconst 2, 1) := by decide +kernel
theorem dJ6_bitCount_0f7a4_17 : decode cJ6_bitCount_0f7a4 17 = .ok (.iushr, 1) := by decide +kernel
theorem dJ6_bitCount_0f7a4_18 : decode cJ6_bitCount_0f7a4 18 = .ok (.ldc_w 266, 3) := by decide +kernel
theorem dJ6_bitCount_0f7a4_21 : decode cJ6_bitCount_0f7a4 21 = .ok (.iand, 1) := by decide +kernel
theorem dJ6_bitCount_0f7a4_22 : decode cJ6_bitCount_0f7a4 22 = .ok (.iadd, 1) := by decide +kernel
theorem dJ6_bitCount_0f7a4_23 : decode cJ6_bitCount_0f7a4 23 = .ok (.istore_n 0, 1) := by decide +kernel
theorem dJ6_bitCount_0f7a4_24 : decode cJ6_bitCount_0f7a4 24 = .ok (.iload_n 0, 1) := by decide +kernel
theorem dJ6_bitCount_0f7a4_25 : decode cJ6_bitCount_0f7a4 25 = .ok (.iload_n 0, 1) := by decide +kernel
theorem dJ6_bitCount_0f7a4_26 : decode cJ6_bitCount_0f7a4 26 = .ok (.iconst 4, 1) := by decide +kernel
theorem dJ6_bitCount_0f7a4_27 : decode cJ6_bitCount_0f7a4 27 = .ok (.iushr, 1) := by decide +kernel
theorem dJ6_bitCount_0f7a4_28 : decode cJ6_bitCount_0f7a4 28 = .ok (.iadd, 1) := by decide +kernel
theorem dJ6_bitCount_0f7a4_29 : decode cJ6_bitCount_0f7a4 29 = .ok (.ldc_w 267, 3) := by decide +kernel
theorem dJ6_bitCount_0f7a4_32 : decode cJ6_bitCount_0f7a4 32 = .ok (.iand, 1) := by decide +kernel
theorem dJ6_bitCount_0f7a4_33 : decode cJ6_bitCount_0f7a4 33 = .ok (.istore_n 0, 1) := by decide +kernel
theorem dJ6_bitCount_0f7a4_34 : decode cJ6_bitCount_0f7a4 34 = .ok (.iload_n 0, 1) := by decide +kernel
theorem dJ6_bitCount_0f7a4_35 : decode cJ6_bitCount_0f7a4 35 = .ok (.iload_n 0, 1) := by decide +kernel
theorem dJ6_bitCount_0f7a4_36 : decode cJ6_bitCount_0f7a4 36 = .ok (.bipush 8, 2) := by decide +kernel
theorem dJ6_bitCount_0f7a4_38 : decode cJ6_bitCount_0f7a4 38 = .ok (.iushr, 1) := by decide +kernel
theorem dJ6_bitCount_0f7a4_39 : decode cJ6_bitCount_0f7a4 39 = .ok (.iadd, 1) := by decide +kernel
theorem dJ6_bitCount_0f7a4_40 : decode cJ6_bitCount_0f7a4 40 = .ok (.istore_n 0, 1) := by decide +kernel
theorem dJ6_bitCount_0f7a4_41 : decode cJ6_bitCount_0f7a4 41 = .ok (.iload_n 0, 1) := by decide +kernel
theorem dJ6_bitCount_0f7a4_42 : decode cJ6_bitCount_0f7a4 42 = .ok (.iload_n 0, 1) := by decide +kernel
theorem dJ6_bitCount_0f7a4_43 : decode cJ6_bitCount_0f7a4 43 = .ok (.bipush 16, 2) := by decide +kernel
theorem dJ6_bitCount_0f7a4_45 : decode cJ6_bitCount_0f7a4 45 = .ok (.iushr, 1) := by decide +kernel
theorem dJ6_bitCount_0f7a4_46 : decode cJ6_bitCount_0f7a4 46 = .ok (.iadd, 1) := by decide +kernel
theorem dJ6_bitCount_0f7a4_47 : decode cJ6_bitCount_0f7a4 47 = .ok (.istore_n 0, 1) := by decide +kernel
theorem dJ6_bitCount_0f7a4_48 : decode cJ6_bitCount_0f7a4 48 = .ok (.iload_n 0, 1) := by decide +kernel
theorem dJ6_bitCount_0f7a4_49 : decode cJ6_bitCount_0f7a4 49 = .ok (.bipush 63, 2) := by decide +kernel
theorem dJ6_bitCount_0f7a4_51 : decode cJ6_bitCount_0f7a4 51 = .ok (.iand, 1) := by decide +kernel
theorem dJ6_bitCount_0f7a4_52 : decode cJ6_bitCount_0f7a4 52 = .ok (.ireturn, 1) := by decide +kernel
theorem dJ13_bitCount_95d88_0 : decode cJ13_bitCount_95d88 0 = .ok (.lload_n 0, 1) := by decide +kernel
theorem dJ13_bitCount_95d88_1 : decode cJ13_bitCount_95d88 1 = .ok (.lload_n 0, 1) := by decide +kernel
theorem dJ13_bitCount_95d88_2 : decode cJ13_bitCount_95d88 2 = .ok (.iconst 1, 1) := by decide +kernel
theorem dJ13_bitCount_95d88_3 : decode cJ13_bitCount_95d88 3 = .ok (.lushr, 1) := by decide +kernel
theorem dJ13_bitCount_95d88_4 : decode cJ13_bitCount_95d88 4 = .ok (.ldc2_w 314, 3) := by decide +kernel
theorem dJ13_bitCount_95d88_7 : decode cJ13_bitCount_95d88 7 = .ok (.land, 1) := by decide +kernel
theorem dJ13_bitCount_95d88_8 : decode cJ13_bitCount_95d88 8 = .ok (.lsub, 1) := by decide +kernel
theorem dJ13_bitCount_95d88_9 : decode cJ13_bitCount_95d88 9 = .ok (.lstore_n 0, 1) := by decide +kernel
theorem dJ13_bitCount_95d88_10 : decode cJ13_bitCount_95d88 10 = .ok (.lload_n 0, 1) := by decide +kernel
theorem dJ13_bitCount_95d88_11 : decode cJ13_bitCount_95d88 11 = .ok (.ldc2_w 316, 3) := by decide +kernel
theorem dJ13_bitCount_95d88_14 : decode cJ13_bitCount_95d88 14 = .ok (.land, 1) := by decide +kernel
theorem dJ13_bitCount_95d88_15 : decode cJ13_bitCount_95d88 15 = .ok (.lload_n 0, 1) := by decide +kernel
theorem dJ13_bitCount_95d88_16 : decode cJ13_bitCount_95d88 16 = .ok (.iconst 2, 1) := by decide +kernel
theorem dJ13_bitCount_95d88_17 : decode cJ13_bitCount_95d88 17 = .ok (.lushr, 1) := by decide +kernel
theorem dJ13_bitCount_95d88_18 : decode cJ13_bitCount_95d88 18 = .ok (.ldc2_w 316, 3) := by decide +kernel
theorem dJ13_bitCount_95d88_21 : decode cJ13_bitCount_95d88 21 = .ok (.land, 1) := by decide +kernel
theorem dJ13_bitCount_95d88_22 : decode cJ13_bitCount_95d88 22 = .ok (.ladd, 1) := by decide +kernel
theorem dJ13_bitCount_95d88_23 : decode cJ13_bitCount_95d88 23 = .ok (.lstore_n 0, 1) := by decide +kernel
theorem dJ13_bitCount_95d88_24 : decode cJ13_bitCount_95d88 24 = .ok (.lload_n 0, 1) := by decide +kernel
theorem dJ13_bitCount_95d88_25 : decode cJ13_bitCount_95d88 25 = .ok (.lload_n 0, 1) := by decide +kernel
theorem dJ13_bitCount_95d88_26 : decode cJ13_bitCount_95d88 26 = .ok (.iconst 4, 1) := by decide +kernel
theorem dJ13_bitCount_95d88_27 : decode cJ13_bitCount_95d88 27 = .ok (.lushr, 1) := by decide +kernel
theorem dJ13_bitCount_95d88_28 : decode cJ13_bitCount_95d88 28 = .ok (.ladd, 1) := by decide +kernel
theorem dJ13_bitCount_95d88_29 : decode cJ13_bitCount_95d88 29 = .ok (.ldc2_w 318, 3) := by decide +kernel
theorem dJ13_bitCount_95d88_32 : decode cJ13_bitCount_95d88 32 = .ok (.land, 1) := by decide +kernel
theorem dJ13_bitCount_95d88_33 : decode cJ13_bitCount_95d88 33 = .ok (.lstore_n 0, 1) := by decide +kernel
theorem dJ13_bitCount_95d88_34 : decode cJ13_bitCount_95d88 34 = .ok (.lload_n 0, 1) := by decide +kernel
theorem dJ13_bitCount_95d88_35 : decode cJ13_bitCount_95d88 35 = .ok (.lload_n 0, 1) := by decide +kernel
theorem dJ13_bitCount_95d88_36 : decode cJ13_bitCount_95d88 36 = .ok (.bipush 8, 2) := by decide +kernel
theorem dJ13_bitCount_95d88_38 : decode cJ13_bitCount_95d88 38 = .ok (.lushr, 1) := by decide +kernel
theorem dJ13_bitCount_95d88_39 : decode cJ13_bitCount_95d88 39 = .ok (.ladd, 1) := by decide +kernel
theorem dJ13_bitCount_95d88_40 : decode cJ13_bitCount_95d88 40 = .ok (.lstore_n 0, 1) := by decide +kernel
theorem dJ13_bitCount_95d88_41 : decode cJ13_bitCount_95d88 41 = .ok (.lload_n 0, 1) := by decide +kernel
theorem dJ13_bitCount_95d88_42 : decode cJ13_bitCount_95d88 42 = .ok (.lload_n 0, 1) := by decide +kernel
theorem dJ13_bitCount_95d88_43 : decode cJ13_bitCount_95d88 43 = .ok (.bipush 16, 2) := by decide +kernel
theorem dJ13_bitCount_95d88_45 : decode cJ13_bitCount_95d88 45 = .ok (.lushr, 1) := by decide +kernel
theorem dJ13_bitCount_95d88_46 : decode cJ13_bitCount_95d88 46 = .ok (.ladd, 1) := by decide +kernel
theorem dJ13_bitCount_95d88_47 : decode cJ13_bitCount_95d88 47 = .ok (.lstore_n 0, 1) := by decide +kernel
theorem dJ13_bitCount_95d88_48 : decode cJ13_bitCount_95d88 48 = .ok (.lload_n 0, 1) := by decide +kernel
theorem dJ13_bitCount_95d88_49 : decode cJ13_bitCount_95d88 49 = .ok (.lload_n 0, 1) := by decide +kernel
theorem dJ13_bitCount_95d88_50 : decode cJ13_bitCount_95d88 50 = .ok (.bipush 32, 2) := by decide +kernel
theorem dJ13_bitCount_95d88_52 : decode cJ13_bitCount_95d88 52 = .ok (.lushr, 1) := by decide +kernel
theorem dJ13_bitCount_95d88_53 : decode cJ13_bitCount_95d88 53 = .ok (.ladd, 1) := by decide +kernel
theorem dJ13_bitCount_95d88_54 : decode cJ13_bitCount_95d88 54 = .ok (.lstore_n 0, 1) := by decide +kernel
theorem dJ13_bitCount_95d88_55 : decode cJ13_bitCount_95d88 55 = .ok (.lload_n 0, 1) := by decide +kernel
theorem dJ13_bitCount_95d88_56 : decode cJ13_bitCount_95d88 56 = .ok (.l2i, 1) := by decide +kernel
theorem dJ13_bitCount_95d88_57 : decode cJ13_bitCount_95d88 57 = .ok (.bipush 127, 2) := by decide +kernel
theorem dJ13_bitCount_95d88_59 : decode cJ13_bitCount_95d88 59 = .ok (.iand, 1) := by decide +kernel
theorem dJ13_bitCount_95d88_60 : decode cJ13_bitCount_95d88 60 = .ok (.ireturn, 1) := by decide +kernel
theorem dJ9_min_7cf53_0 : decode cJ9_min_7cf53 0 = .ok (.iload_n 0, 1) := by decide +kernel
theorem dJ9_min_7cf53_1 : decode cJ9_min_7cf53 1 = .ok (.iload_n 1, 1) := by decide +kernel
theorem dJ9_min_7cf53_2 : decode cJ9_min_7cf53 2 = .ok (.if_icmp .gt 7, 3) := by decide +kernel
theorem dJ9_min_7cf53_5 : decode cJ9_min_7cf53 5 = .ok (.iload_n 0, 1) := by decide +kernel
theorem dJ9_min_7cf53_6 : decode cJ9_min_7cf53 6 = .ok (.goto 4, 3) := by decide +kernel
theorem dJ9_min_7cf53_9 : decode cJ9_min_7cf53 9 = .ok (.iload_n 1, 1) := by decide +kernel
theorem dJ9_min_7cf53_10 : decode cJ9_min_7cf53 10 = .ok (.ireturn, 1) := by decide +kernel
theorem dJ7_fill_53178_0 : decode cJ7_fill_53178 0 = .ok (.iconst 0, 1) := by decide +kernel
theorem dJ7_fill_53178_1 : decode cJ7_fill_53178 1 = .ok (.istore_n 2, 1) := by decide +kernel
theorem dJ7_fill_53178_2 : decode cJ7_fill_53178 2 = .ok (.aload_n 0, 1) := by decide +kernel
theorem dJ7_fill_53178_3 : decode cJ7_fill_53178 3 = .ok (.arraylength, 1) := by decide +kernel
theorem dJ7_fill_53178_4 : decode cJ7_fill_53178 4 = .ok (.istore_n 3, 1) := by decide +kernel
theorem dJ7_fill_53178_5 : decode cJ7_fill_53178 5 = .ok (.iload_n 2, 1) := by decide +kernel
theorem dJ7_fill_53178_6 : decode cJ7_fill_53178 6 = .ok (.iload_n 3, 1) := by decide +kernel
theorem dJ7_fill_53178_7 : decode cJ7_fill_53178 7 = .ok (.if_icmp .ge 13, 3) := by decide +kernel
theorem dJ7_fill_53178_10 : decode cJ7_fill_53178 10 = .ok (.aload_n 0, 1) := by decide +kernel
theorem dJ7_fill_53178_11 : decode cJ7_fill_53178 11 = .ok (.iload_n 2, 1) := by decide +kernel
theorem dJ7_fill_53178_12 : decode cJ7_fill_53178 12 = .ok (.iload_n 1, 1) := by decide +kernel
theorem dJ7_fill_53178_13 : decode cJ7_fill_53178 13 = .ok (.iastore, 1) := by decide +kernel
theorem dJ7_fill_53178_14 : decode cJ7_fill_53178 14 = .ok (.iinc 2 1, 3) := by decide +kernel
theorem dJ7_fill_53178_17 : decode cJ7_fill_53178 17 = .ok (.goto (-12), 3) := by decide +kernel
theorem dJ7_fill_53178_20 : decode cJ7_fill_53178 20 = .ok (.return_, 1) := by decide +kernel
end
section
theorem dL_law_0 : decode cL_law 0 = .ok (.new 7, 3) := by decide +kernel
theorem dL_law_3 : decode cL_law 3 = .ok (.dup, 1) := by decide +kernel
theorem dL_law_4 : decode cL_law 4 = .ok (.invokespecial 9, 3) := by decide +kernel
theorem dL_law_7 : decode cL_law 7 = .ok (.astore_n 1, 1) := by decide +kernel
theorem dL_law_8 : decode cL_law 8 = .ok (.new 10, 3) := by decide +kernel
theorem dL_law_11 : decode cL_law 11 = .ok (.dup, 1) := by decide +kernel
theorem dL_law_12 : decode cL_law 12 = .ok (.invokespecial 12, 3) := by decide +kernel
theorem dL_law_15 : decode cL_law 15 = .ok (.astore_n 2, 1) := by decide +kernel
theorem dL_law_16 : decode cL_law 16 = .ok (.iconst 0, 1) := by decide +kernel
theorem dL_law_17 : decode cL_law 17 = .ok (.istore_n 3, 1) := by decide +kernel
theorem dL_law_18 : decode cL_law 18 = .ok (.iload_n 3, 1) := by decide +kernel
theorem dL_law_19 : decode cL_law 19 = .ok (.aload_n 0, 1) := by decide +kernel
theorem dL_law_20 : decode cL_law 20 = .ok (.arraylength, 1) := by decide +kernel
theorem dL_law_21 : decode cL_law 21 = .ok (.bipush 6, 2) := by decide +kernel
theorem dL_law_23 : decode cL_law 23 = .ok (.isub, 1) := by decide +kernel
theorem dL_law_24 : decode cL_law 24 = .ok (.if_icmp .gt 1245, 3) := by decide +kernel
theorem dL_law_27 : decode cL_law 27 = .ok (.aload_n 0, 1) := by decide +kernel
theorem dL_law_28 : decode cL_law 28 = .ok (.iload_n 3, 1) := by decide +kernel
theorem dL_law_29 : decode cL_law 29 = .ok (.iaload, 1) := by decide +kernel
theorem dL_law_30 : decode cL_law 30 = .ok (.bipush 63, 2) := by decide +kernel
theorem dL_law_32 : decode cL_law 32 = .ok (.iand, 1) := by decide +kernel
theorem dL_law_33 : decode cL_law 33 = .ok (.tableswitch 1230 0 32 #[147, 200, 233, 256, 279, 312, 335, 358, 381, 414, 477, 510, 543, 576, 600, 633, 696, 739, 762, 785, 808, 832, 886, 929, 952, 995, 1039, 1102, 1125, 1148, 1181, 1194, 1207], 147) := by decide +kernel
theorem dL_law_180 : decode cL_law 180 = .ok (.aload_n 1, 1) := by decide +kernel
theorem dL_law_181 : decode cL_law 181 = .ok (.aload_n 0, 1) := by decide +kernel
theorem dL_law_182 : decode cL_law 182 = .ok (.iload_n 3, 1) := by decide +kernel
theorem dL_law_183 : decode cL_law 183 = .ok (.iconst 1, 1) := by decide +kernel
theorem dL_law_184 : decode cL_law 184 = .ok (.iadd, 1) := by decide +kernel
theorem dL_law_185 : decode cL_law 185 = .ok (.iaload, 1) := by decide +kernel
theorem dL_law_186 : decode cL_law 186 = .ok (.aload_n 0, 1) := by decide +kernel
theorem dL_law_187 : decode cL_law 187 = .ok (.iload_n 3, 1) := by decide +kernel
theorem dL_law_188 : decode cL_law 188 = .ok (.iconst 2, 1) := by decide +kernel
theorem dL_law_189 : decode cL_law 189 = .ok (.iadd, 1) := by decide +kernel
theorem dL_law_190 : decode cL_law 190 = .ok (.iaload, 1) := by decide +kernel
theorem dL_law_191 : decode cL_law 191 = .ok (.aload_n 0, 1) := by decide +kernel
theorem dL_law_192 : decode cL_law 192 = .ok (.iload_n 3, 1) := by decide +kernel
theorem dL_law_193 : decode cL_law 193 = .ok (.iconst 3, 1) := by decide +kernel
theorem dL_law_194 : decode cL_law 194 = .ok (.iadd, 1) := by decide +kernel
theorem dL_law_195 : decode cL_law 195 = .ok (.iaload, 1) := by decide +kernel
theorem dL_law_196 : decode cL_law 196 = .ok (.aload_n 0, 1) := by decide +kernel
theorem dL_law_197 : decode cL_law 197 = .ok (.iload_n 3, 1) := by decide +kernel
theorem dL_law_198 : decode cL_law 198 = .ok (.iconst 4, 1) := by decide +kernel
theorem dL_law_199 : decode cL_law 199 = .ok (.iadd, 1) := by decide +kernel
theorem dL_law_200 : decode cL_law 200 = .ok (.iaload, 1) := by decide +kernel
theorem dL_law_201 : decode cL_law 201 = .ok (.invokevirtual 13, 3) := by decide +kernel
theorem dL_law_204 : decode cL_law 204 = .ok (.aload_n 2, 1) := by decide +kernel
theorem dL_law_205 : decode cL_law 205 = .ok (.aload_n 0, 1) := by decide +kernel
theorem dL_law_206 : decode cL_law 206 = .ok (.iload_n 3, 1) := by decide +kernel
theorem dL_law_207 : decode cL_law 207 = .ok (.iconst 1, 1) := by decide +kernel
theorem dL_law_208 : decode cL_law 208 = .ok (.iadd, 1) := by decide +kernel
theorem dL_law_209 : decode cL_law 209 = .ok (.iaload, 1) := by decide +kernel
theorem dL_law_210 : decode cL_law 210 = .ok (.aload_n 0, 1) := by decide +kernel
theorem dL_law_211 : decode cL_law 211 = .ok (.iload_n 3, 1) := by decide +kernel
theorem dL_law_212 : decode cL_law 212 = .ok (.iconst 2, 1) := by decide +kernel
theorem dL_law_213 : decode cL_law 213 = .ok (.iadd, 1) := by decide +kernel
theorem dL_law_214 : decode cL_law 214 = .ok (.iaload, 1) := by decide +kernel
theorem dL_law_215 : decode cL_law 215 = .ok (.aload_n 0, 1) := by decide +kernel
theorem dL_law_216 : decode cL_law 216 = .ok (.iload_n 3, 1) := by decide +kernel
theorem dL_law_217 : decode cL_law 217 = .ok (.iconst 3, 1) := by decide +kernel
theorem dL_law_218 : decode cL_law 218 = .ok (.iadd, 1) := by decide +kernel
theorem dL_law_219 : decode cL_law 219 = .ok (.iaload, 1) := by decide +kernel
theorem dL_law_220 : decode cL_law 220 = .ok (.aload_n 0, 1) := by decide +kernel
theorem dL_law_221 : decode cL_law 221 = .ok (.iload_n 3, 1) := by decide +kernel
theorem dL_law_222 : decode cL_law 222 = .ok (.iconst 4, 1) := by decide +kernel
theorem dL_law_223 : decode cL_law 223 = .ok (.iadd, 1) := by decide +kernel
theorem dL_law_224 : decode cL_law 224 = .ok (.iaload, 1) := by decide +kernel
theorem dL_law_225 : decode cL_law 225 = .ok (.invokevirtual 17, 3) := by decide +kernel
theorem dL_law_228 : decode cL_law 228 = .ok (.if_icmp .eq 1035, 3) := by decide +kernel
theorem dL_law_231 : decode cL_law 231 = .ok (.iconst 0, 1) := by decide +kernel
theorem dL_law_232 : decode cL_law 232 = .ok (.ireturn, 1) := by decide +kernel
theorem dL_law_233 : decode cL_law 233 = .ok (.aload_n 1, 1) := by decide +kernel
theorem dL_law_234 : decode cL_law 234 = .ok (.aload_n 0, 1) := by decide +kernel
theorem dL_law_235 : decode cL_law 235 = .ok (.iload_n 3, 1) := by decide +kernel
theorem dL_law_236 : decode cL_law 236 = .ok (.iconst 1, 1) := by decide +kernel
theorem dL_law_237 : decode cL_law 237 = .ok (.iadd, 1) := by decide +kernel
theorem dL_law_238 : decode cL_law 238 = .ok (.iaload, 1) := by decide +kernel
theorem dL_law_239 : decode cL_law 239 = .ok (.aload_n 0, 1) := by decide +kernel
theorem dL_law_240 : decode cL_law 240 = .ok (.iload_n 3, 1) := by decide +kernel
theorem dL_law_241 : decode cL_law 241 = .ok (.iconst 2, 1) := by decide +kernel
theorem dL_law_242 : decode cL_law 242 = .ok (.iadd, 1) := by decide +kernel
theorem dL_law_243 : decode cL_law 243 = .ok (.iaload, 1) := by decide +kernel
theorem dL_law_244 : decode cL_law 244 = .ok (.invokevirtual 18, 3) := by decide +kernel
theorem dL_law_247 : decode cL_law 247 = .ok (.aload_n 2, 1) := by decide +kernel
theorem dL_law_248 : decode cL_law 248 = .ok (.aload_n 0, 1) := by decide +kernel
theorem dL_law_249 : decode cL_law 249 = .ok (.iload_n 3, 1) := by decide +kernel
theorem dL_law_250 : decode cL_law 250 = .ok (.iconst 1, 1) := by decide +kernel
theorem dL_law_251 : decode cL_law 251 = .ok (.iadd, 1) := by decide +kernel
theorem dL_law_252 : decode cL_law 252 = .ok (.iaload, 1) := by decide +kernel
theorem dL_law_253 : decode cL_law 253 = .ok (.aload_n 0, 1) := by decide +kernel
theorem dL_law_254 : decode cL_law 254 = .ok (.iload_n 3, 1) := by decide +kernel
theorem dL_law_255 : decode cL_law 255 = .ok (.iconst 2, 1) := by decide +kernel
theorem dL_law_256 : decode cL_law 256 = .ok (.iadd, 1) := by decide +kernel
theorem dL_law_257 : decode cL_law 257 = .ok (.iaload, 1) := by decide +kernel
theorem dL_law_258 : decode cL_law 258 = .ok (.invokevirtual 22, 3) := by decide +kernel
theorem dL_law_261 : decode cL_law 261 = .ok (.if_icmp .eq 1002, 3) := by decide +kernel
theorem dL_law_264 : decode cL_law 264 = .ok (.iconst 0, 1) := by decide +kernel
theorem dL_law_265 : decode cL_law 265 = .ok (.ireturn, 1) := by decide +kernel
theorem dL_law_266 : decode cL_law 266 = .ok (.aload_n 1, 1) := by decide +kernel
theorem dL_law_267 : decode cL_law 267 = .ok (.aload_n 0, 1) := by decide +kernel
theorem dL_law_268 : decode cL_law 268 = .ok (.iload_n 3, 1) := by decide +kernel
theorem dL_law_269 : decode cL_law 269 = .ok (.iconst 1, 1) := by decide +kernel
theorem dL_law_270 : decode cL_law 270 = .ok (.iadd, 1) := by decide +kernel
theorem dL_law_271 : decode cL_law 271 = .ok (.iaload, 1) := by decide +kernel
theorem dL_law_272 : decode cL_law 272 = .ok (.invokevirtual 23, 3) := by decide +kernel
theorem dL_law_275 : decode cL_law 275 = .ok (.aload_n 2, 1) := by decide +kernel
theorem dL_law_276 : decode cL_law 276 = .ok (.aload_n 0, 1) := by decide +kernel
theorem dL_law_277 : decode cL_law 277 = .ok (.iload_n 3, 1) := by decide +kernel
theorem dL_law_278 : decode cL_law 278 = .ok (.iconst 1, 1) := by decide +kernel
theorem dL_law_279 : decode cL_law 279 = .ok (.iadd, 1) := by decide +kernel
theorem dL_law_280 : decode cL_law 280 = .ok (.iaload, 1) := by decide +kernel
theorem dL_law_281 : decode cL_law 281 = .ok (.invokevirtual 27, 3) := by decide +kernel
theorem dL_law_284 : decode cL_law 284 = .ok (.if_icmp .eq 979, 3) := by decide +kernel
theorem dL_law_287 : decode cL_law 287 = .ok (.iconst 0, 1) := by decide +kernel
theorem dL_law_288 : decode cL_law 288 = .ok (.ireturn, 1) := by decide +kernel
theorem dL_law_289 : decode cL_law 289 = .ok (.aload_n 1, 1) := by decide +kernel
theorem dL_law_290 : decode cL_law 290 = .ok (.aload_n 0, 1) := by decide +kernel
theorem dL_law_291 : decode cL_law 291 = .ok (.iload_n 3, 1) := by decide +kernel
theorem dL_law_292 : decode cL_law 292 = .ok (.iconst 1, 1) := by decide +kernel
theorem dL_law_293 : decode cL_law 293 = .ok (.iadd, 1) := by decide +kernel
theorem dL_law_294 : decode cL_law 294 = .ok (.iaload, 1) := by decide +kernel
theorem dL_law_295 : decode cL_law 295 = .ok (.invokevirtual 28, 3) := by decide +kernel
theorem dL_law_298 : decode cL_law 298 = .ok (.aload_n 2, 1) := by decide +kernel
theorem dL_law_299 : decode cL_law 299 = .ok (.aload_n 0, 1) := by decide +kernel
theorem dL_law_300 : decode cL_law 300 = .ok (.iload_n 3, 1) := by decide +kernel
theorem dL_law_301 : decode cL_law 301 = .ok (.iconst 1, 1) := by decide +kernel
theorem dL_law_302 : decode cL_law 302 = .ok (.iadd, 1) := by decide +kernel
theorem dL_law_303 : decode cL_law 303 = .ok (.iaload, 1) := by decide +kernel
theorem dL_law_304 : decode cL_law 304 = .ok (.invokevirtual 31, 3) := by decide +kernel
theorem dL_law_307 : decode cL_law 307 = .ok (.if_icmp .eq 956, 3) := by decide +kernel
theorem dL_law_310 : decode cL_law 310 = .ok (.iconst 0, 1) := by decide +kernel
theorem dL_law_311 : decode cL_law 311 = .ok (.ireturn, 1) := by decide +kernel
theorem dL_law_312 : decode cL_law 312 = .ok (.aload_n 1, 1) := by decide +kernel
theorem dL_law_313 : decode cL_law 313 = .ok (.aload_n 0, 1) := by decide +kernel
theorem dL_law_314 : decode cL_law 314 = .ok (.iload_n 3, 1) := by decide +kernel
theorem dL_law_315 : decode cL_law 315 = .ok (.iconst 1, 1) := by decide +kernel
theorem dL_law_316 : decode cL_law 316 = .ok (.iadd, 1) := by decide +kernel
theorem dL_law_317 : decode cL_law 317 = .ok (.iaload, 1) := by decide +kernel
theorem dL_law_318 : decode cL_law 318 = .ok (.aload_n 0, 1) := by decide +kernel
theorem dL_law_319 : decode cL_law 319 = .ok (.iload_n 3, 1) := by decide +kernel
theorem dL_law_320 : decode cL_law 320 = .ok (.iconst 2, 1) := by decide +kernel
theorem dL_law_321 : decode cL_law 321 = .ok (.iadd, 1) := by decide +kernel
theorem dL_law_322 : decode cL_law 322 = .ok (.iaload, 1) := by decide +kernel
theorem dL_law_323 : decode cL_law 323 = .ok (.invokevirtual 32, 3) := by decide +kernel
theorem dL_law_326 : decode cL_law 326 = .ok (.aload_n 2, 1) := by decide +kernel
theorem dL_law_327 : decode cL_law 327 = .ok (.aload_n 0, 1) := by decide +kernel
theorem dL_law_328 : decode cL_law 328 = .ok (.iload_n 3, 1) := by decide +kernel
theorem dL_law_329 : decode cL_law 329 = .ok (.iconst 1, 1) := by decide +kernel
theorem dL_law_330 : decode cL_law 330 = .ok (.iadd, 1) := by decide +kernel
theorem dL_law_331 : decode cL_law 331 = .ok (.iaload, 1) := by decide +kernel
theorem dL_law_332 : decode cL_law 332 = .ok (.aload_n 0, 1) := by decide +kernel
theorem dL_law_333 : decode cL_law 333 = .ok (.iload_n 3, 1) := by decide +kernel
theorem dL_law_334 : decode cL_law 334 = .ok (.iconst 2, 1) := by decide +kernel
theorem dL_law_335 : decode cL_law 335 = .ok (.iadd, 1) := by decide +kernel
theorem dL_law_336 : decode cL_law 336 = .ok (.iaload, 1) := by decide +kernel
theorem dL_law_337 : decode cL_law 337 = .ok (.invokevirtual 35, 3) := by decide +kernel
theorem dL_law_340 : decode cL_law 340 = .ok (.if_icmp .eq 923, 3) := by decide +kernel
theorem dL_law_343 : decode cL_law 343 = .ok (.iconst 0, 1) := by decide +kernel
theorem dL_law_344 : decode cL_law 344 = .ok (.ireturn, 1) := by decide +kernel
theorem dL_law_345 : decode cL_law 345 = .ok (.aload_n 1, 1) := by decide +kernel
theorem dL_law_346 : decode cL_law 346 = .ok (.aload_n 0, 1) := by decide +kernel
theorem dL_law_347 : decode cL_law 347 = .ok (.iload_n 3, 1) := by decide +kernel
theorem dL_law_348 : decode cL_law 348 = .ok (.iconst 1, 1) := by decide +kernel
theorem dL_law_349 : decode cL_law 349 = .ok (.iadd, 1) := by decide +kernel
theorem dL_law_350 : decode cL_law 350 = .ok (.iaload, 1) := by decide +kernel
theorem dL_law_351 : decode cL_law 351 = .ok (.invokevirtual 36, 3) := by decide +kernel
theorem dL_law_354 : decode cL_law 354 = .ok (.aload_n 2, 1) := by decide +kernel
theorem dL_law_355 : decode cL_law 355 = .ok (.aload_n 0, 1) := by decide +kernel
theorem dL_law_356 : decode cL_law 356 = .ok (.iload_n 3, 1) := by decide +kernel
theorem dL_law_357 : decode cL_law 357 = .ok (.iconst 1, 1) := by decide +kernel
theorem dL_law_358 : decode cL_law 358 = .ok (.iadd, 1) := by decide +kernel
theorem dL_law_359 : decode cL_law 359 = .ok (.iaload, 1) := by decide +kernel
theorem dL_law_360 : decode cL_law 360 = .ok (.invokevirtual 39, 3) := by decide +kernel
theorem dL_law_363 : decode cL_law 363 = .ok (.if_icmp .eq 900, 3) := by decide +kernel
theorem dL_law_366 : decode cL_law 366 = .ok (.iconst 0, 1) := by decide +kernel
theorem dL_law_367 : decode cL_law 367 = .ok (.ireturn, 1) := by decide +kernel
theorem dL_law_368 : decode cL_law 368 = .ok (.aload_n 1, 1) := by decide +kernel
theorem dL_law_369 : decode cL_law 369 = .ok (.aload_n 0, 1) := by decide +kernel
theorem dL_law_370 : decode cL_law 370 = .ok (.iload_n 3, 1) := by decide +kernel
theorem dL_law_371 : decode cL_law 371 = .ok (.iconst 1, 1) := by decide +kernel
theorem dL_law_372 : decode cL_law 372 = .ok (.iadd, 1) := by decide +kernel
theorem dL_law_373 : decode cL_law 373 = .ok (.iaload, 1) := by decide +kernel
theorem dL_law_374 : decode cL_law 374 = .ok (.invokevirtual 40, 3) := by decide +kernel
theorem dL_law_377 : decode cL_law 377 = .ok (.aload_n 2, 1) := by decide +kernel
theorem dL_law_378 : decode cL_law 378 = .ok (.aload_n 0, 1) := by decide +kernel
theorem dL_law_379 : decode cL_law 379 = .ok (.iload_n 3, 1) := by decide +kernel
theorem dL_law_380 : decode cL_law 380 = .ok (.iconst 1, 1) := by decide +kernel
theorem dL_law_381 : decode cL_law 381 = .ok (.iadd, 1) := by decide +kernel
theorem dL_law_382 : decode cL_law 382 = .ok (.iaload, 1) := by decide +kernel
theorem dL_law_383 : decode cL_law 383 = .ok (.invokevirtual 43, 3) := by decide +kernel
theorem dL_law_386 : decode cL_law 386 = .ok (.if_icmp .eq 877, 3) := by decide +kernel
theorem dL_law_389 : decode cL_law 389 = .ok (.iconst 0, 1) := by decide +kernel
theorem dL_law_390 : decode cL_law 390 = .ok (.ireturn, 1) := by decide +kernel
theorem dL_law_391 : decode cL_law 391 = .ok (.aload_n 1, 1) := by decide +kernel
theorem dL_law_392 : decode cL_law 392 = .ok (.aload_n 0, 1) := by decide +kernel
theorem dL_law_393 : decode cL_law 393 = .ok (.iload_n 3, 1) := by decide +kernel
theorem dL_law_394 : decode cL_law 394 = .ok (.iconst 1, 1) := by decide +kernel
theorem dL_law_395 : decode cL_law 395 = .ok (.iadd, 1) := by decide +kernel
theorem dL_law_396 : decode cL_law 396 = .ok (.iaload, 1) := by decide +kernel
theorem dL_law_397 : decode cL_law 397 = .ok (.invokevirtual 44, 3) := by decide +kernel
theorem dL_law_400 : decode cL_law 400 = .ok (.aload_n 2, 1) := by decide +kernel
theorem dL_law_401 : decode cL_law 401 = .ok (.aload_n 0, 1) := by decide +kernel
theorem dL_law_402 : decode cL_law 402 = .ok (.iload_n 3, 1) := by decide +kernel
theorem dL_law_403 : decode cL_law 403 = .ok (.iconst 1, 1) := by decide +kernel
theorem dL_law_404 : decode cL_law 404 = .ok (.iadd, 1) := by decide +kernel
theorem dL_law_405 : decode cL_law 405 = .ok (.iaload, 1) := by decide +kernel
theorem dL_law_406 : decode cL_law 406 = .ok (.invokevirtual 47, 3) := by decide +kernel
theorem dL_law_409 : decode cL_law 409 = .ok (.if_icmp .eq 854, 3) := by decide +kernel
theorem dL_law_412 : decode cL_law 412 = .ok (.iconst 0, 1) := by decide +kernel
theorem dL_law_413 : decode cL_law 413 = .ok (.ireturn, 1) := by decide +kernel
theorem dL_law_414 : decode cL_law 414 = .ok (.aload_n 1, 1) := by decide +kernel
theorem dL_law_415 : decode cL_law 415 = .ok (.aload_n 0, 1) := by decide +kernel
theorem dL_law_416 : decode cL_law 416 = .ok (.iload_n 3, 1) := by decide +kernel
theorem dL_law_417 : decode cL_law 417 = .ok (.iconst 1, 1) := by decide +kernel
theorem dL_law_418 : decode cL_law 418 = .ok (.iadd, 1) := by decide +kernel
theorem dL_law_419 : decode cL_law 419 = .ok (.iaload, 1) := by decide +kernel
theorem dL_law_420 : decode cL_law 420 = .ok (.aload_n 0, 1) := by decide +kernel
theorem dL_law_421 : decode cL_law 421 = .ok (.iload_n 3, 1) := by decide +kernel
theorem dL_law_422 : decode cL_law 422 = .ok (.iconst 2, 1) := by decide +kernel
theorem dL_law_423 : decode cL_law 423 = .ok (.iadd, 1) := by decide +kernel
theorem dL_law_424 : decode cL_law 424 = .ok (.iaload, 1) := by decide +kernel
theorem dL_law_425 : decode cL_law 425 = .ok (.invokevirtual 48, 3) := by decide +kernel
theorem dL_law_428 : decode cL_law 428 = .ok (.aload_n 2, 1) := by decide +kernel
theorem dL_law_429 : decode cL_law 429 = .ok (.aload_n 0, 1) := by decide +kernel
theorem dL_law_430 : decode cL_law 430 = .ok (.iload_n 3, 1) := by decide +kernel
theorem dL_law_431 : decode cL_law 431 = .ok (.iconst 1, 1) := by decide +kernel
theorem dL_law_432 : decode cL_law 432 = .ok (.iadd, 1) := by decide +kernel
theorem dL_law_433 : decode cL_law 433 = .ok (.iaload, 1) := by decide +kernel
theorem dL_law_434 : decode cL_law 434 = .ok (.aload_n 0, 1) := by decide +kernel
theorem dL_law_435 : decode cL_law 435 = .ok (.iload_n 3, 1) := by decide +kernel
theorem dL_law_436 : decode cL_law 436 = .ok (.iconst 2, 1) := by decide +kernel
theorem dL_law_437 : decode cL_law 437 = .ok (.iadd, 1) := by decide +kernel
theorem dL_law_438 : decode cL_law 438 = .ok (.iaload, 1) := by decide +kernel
theorem dL_law_439 : decode cL_law 439 = .ok (.invokevirtual 51, 3) := by decide +kernel
theorem dL_law_442 : decode cL_law 442 = .ok (.if_icmp .eq 821, 3) := by decide +kernel
theorem dL_law_445 : decode cL_law 445 = .ok (.iconst 0, 1) := by decide +kernel
theorem dL_law_446 : decode cL_law 446 = .ok (.ireturn, 1) := by decide +kernel
theorem dL_law_447 : decode cL_law 447 = .ok (.aload_n 1, 1) := by decide +kernel
theorem dL_law_448 : decode cL_law 448 = .ok (.aload_n 0, 1) := by decide +kernel
theorem dL_law_449 : decode cL_law 449 = .ok (.iload_n 3, 1) := by decide +kernel
theorem dL_law_450 : decode cL_law 450 = .ok (.iconst 1, 1) := by decide +kernel
theorem dL_law_451 : decode cL_law 451 = .ok (.iadd, 1) := by decide +kernel
theorem dL_law_452 : decode cL_law 452 = .ok (.iaload, 1) := by decide +kernel
theorem dL_law_453 : decode cL_law 453 = .ok (.aload_n 0, 1) := by decide +kernel
theorem dL_law_454 : decode cL_law 454 = .ok (.iload_n 3, 1) := by decide +kernel
theorem dL_law_455 : decode cL_law 455 = .ok (.iconst 2, 1) := by decide +kernel
theorem dL_law_456 : decode cL_law 456 = .ok (.iadd, 1) := by decide +kernel
theorem dL_law_457 : decode cL_law 457 = .ok (.iaload, 1) := by decide +kernel
theorem dL_law_458 : decode cL_law 458 = .ok (.aload_n 0, 1) := by decide +kernel
theorem dL_law_459 : decode cL_law 459 = .ok (.iload_n 3, 1) := by decide +kernel
theorem dL_law_460 : decode cL_law 460 = .ok (.iconst 3, 1) := by decide +kernel
theorem dL_law_461 : decode cL_law 461 = .ok (.iadd, 1) := by decide +kernel
theorem dL_law_462 : decode cL_law 462 = .ok (.iaload, 1) := by decide +kernel
theorem dL_law_463 : decode cL_law 463 = .ok (.aload_n 0, 1) := by decide +kernel
theorem dL_law_464 : decode cL_law 464 = .ok (.iload_n 3, 1) := by decide +kernel
theorem dL_law_465 : decode cL_law 465 = .ok (.iconst 4, 1) := by decide +kernel
theorem dL_law_466 : decode cL_law 466 = .ok (.iadd, 1) := by decide +kernel
theorem dL_law_467 : decode cL_law 467 = .ok (.iaload, 1) := by decide +kernel
theorem dL_law_468 : decode cL_law 468 = .ok (.aload_n 0, 1) := by decide +kernel
theorem dL_law_469 : decode cL_law 469 = .ok (.iload_n 3, 1) := by decide +kernel
theorem dL_law_470 : decode cL_law 470 = .ok (.iconst 5, 1) := by decide +kernel
theorem dL_law_471 : decode cL_law 471 = .ok (.iadd, 1) := by decide +kernel
theorem dL_law_472 : decode cL_law 472 = .ok (.iaload, 1) := by decide +kernel
theorem dL_law_473 : decode cL_law 473 = .ok (.invokevirtual 52, 3) := by decide +kernel
theorem dL_law_476 : decode cL_law 476 = .ok (.aload_n 2, 1) := by decide +kernel
theorem dL_law_477 : decode cL_law 477 = .ok (.aload_n 0, 1) := by decide +kernel
theorem dL_law_478 : decode cL_law 478 = .ok (.iload_n 3, 1) := by decide +kernel
theorem dL_law_479 : decode cL_law 479 = .ok (.iconst 1, 1) := by decide +kernel
theorem dL_law_480 : decode cL_law 480 = .ok (.iadd, 1) := by decide +kernel
theorem dL_law_481 : decode cL_law 481 = .ok (.iaload, 1) := by decide +kernel
theorem dL_law_482 : decode cL_law 482 = .ok (.aload_n 0, 1) := by decide +kernel
theorem dL_law_483 : decode cL_law 483 = .ok (.iload_n 3, 1) := by decide +kernel
theorem dL_law_484 : decode cL_law 484 = .ok (.iconst 2, 1) := by decide +kernel
theorem dL_law_485 : decode cL_law 485 = .ok (.iadd, 1) := by decide +kernel
theorem dL_law_486 : decode cL_law 486 = .ok (.iaload, 1) := by decide +kernel
theorem dL_law_487 : decode cL_law 487 = .ok (.aload_n 0, 1) := by decide +kernel
theorem dL_law_488 : decode cL_law 488 = .ok (.iload_n 3, 1) := by decide +kernel
theorem dL_law_489 : decode cL_law 489 = .ok (.iconst 3, 1) := by decide +kernel
theorem dL_law_490 : decode cL_law 490 = .ok (.iadd, 1) := by decide +kernel
theorem dL_law_491 : decode cL_law 491 = .ok (.iaload, 1) := by decide +kernel
theorem dL_law_492 : decode cL_law 492 = .ok (.aload_n 0, 1) := by decide +kernel
theorem dL_law_493 : decode cL_law 493 = .ok (.iload_n 3, 1) := by decide +kernel
theorem dL_law_494 : decode cL_law 494 = .ok (.iconst 4, 1) := by decide +kernel
theorem dL_law_495 : decode cL_law 495 = .ok (.iadd, 1) := by decide +kernel
theorem dL_law_496 : decode cL_law 496 = .ok (.iaload, 1) := by decide +kernel
theorem dL_law_497 : decode cL_law 497 = .ok (.aload_n 0, 1) := by decide +kernel
theorem dL_law_498 : decode cL_law 498 = .ok (.iload_n 3, 1) := by decide +kernel
theorem dL_law_499 : decode cL_law 499 = .ok (.iconst 5, 1) := by decide +kernel
theorem dL_law_500 : decode cL_law 500 = .ok (.iadd, 1) := by decide +kernel
theorem dL_law_501 : decode cL_law 501 = .ok (.iaload, 1) := by decide +kernel
theorem dL_law_502 : decode cL_law 502 = .ok (.invokevirtual 56, 3) := by decide +kernel
theorem dL_law_505 : decode cL_law 505 = .ok (.if_icmp .eq 758, 3) := by decide +kernel
theorem dL_law_508 : decode cL_law 508 = .ok (.iconst 0, 1) := by decide +kernel
theorem dL_law_509 : decode cL_law 509 = .ok (.ireturn, 1) := by decide +kernel
theorem dL_law_510 : decode cL_law 510 = .ok (.aload_n 1, 1) := by decide +kernel
theorem dL_law_511 : decode cL_law 511 = .ok (.aload_n 0, 1) := by decide +kernel
theorem dL_law_512 : decode cL_law 512 = .ok (.iload_n 3, 1) := by decide +kernel
theorem dL_law_513 : decode cL_law 513 = .ok (.iconst 1, 1) := by decide +kernel
theorem dL_law_514 : decode cL_law 514 = .ok (.iadd, 1) := by decide +kernel
theorem dL_law_515 : decode cL_law 515 = .ok (.iaload, 1) := by decide +kernel
theorem dL_law_516 : decode cL_law 516 = .ok (.aload_n 0, 1) := by decide +kernel
theorem dL_law_517 : decode cL_law 517 = .ok (.iload_n 3, 1) := by decide +kernel
theorem dL_law_518 : decode cL_law 518 = .ok (.iconst 2, 1) := by decide +kernel
theorem dL_law_519 : decode cL_law 519 = .ok (.iadd, 1) := by decide +kernel
theorem dL_law_520 : decode cL_law 520 = .ok (.iaload, 1) := by decide +kernel
theorem dL_law_521 : decode cL_law 521 = .ok (.invokevirtual 57, 3) := by decide +kernel
theorem dL_law_524 : decode cL_law 524 = .ok (.aload_n 2, 1) := by decide +kernel
theorem dL_law_525 : decode cL_law 525 = .ok (.aload_n 0, 1) := by decide +kernel
theorem dL_law_526 : decode cL_law 526 = .ok (.iload_n 3, 1) := by decide +kernel
theorem dL_law_527 : decode cL_law 527 = .ok (.iconst 1, 1) := by decide +kernel
theorem dL_law_528 : decode cL_law 528 = .ok (.iadd, 1) := by decide +kernel
theorem dL_law_529 : decode cL_law 529 = .ok (.iaload, 1) := by decide +kernel
theorem dL_law_530 : decode cL_law 530 = .ok (.aload_n 0, 1) := by decide +kernel
theorem dL_law_531 : decode cL_law 531 = .ok (.iload_n 3, 1) := by decide +kernel
theorem dL_law_532 : decode cL_law 532 = .ok (.iconst 2, 1) := by decide +kernel
theorem dL_law_533 : decode cL_law 533 = .ok (.iadd, 1) := by decide +kernel
theorem dL_law_534 : decode cL_law 534 = .ok (.iaload, 1) := by decide +kernel
theorem dL_law_535 : decode cL_law 535 = .ok (.invokevirtual 60, 3) := by decide +kernel
theorem dL_law_538 : decode cL_law 538 = .ok (.if_icmp .eq 725, 3) := by decide +kernel
theorem dL_law_541 : decode cL_law 541 = .ok (.iconst 0, 1) := by decide +kernel
theorem dL_law_542 : decode cL_law 542 = .ok (.ireturn, 1) := by decide +kernel
theorem dL_law_543 : decode cL_law 543 = .ok (.aload_n 1, 1) := by decide +kernel
theorem dL_law_544 : decode cL_law 544 = .ok (.aload_n 0, 1) := by decide +kernel
theorem dL_law_545 : decode cL_law 545 = .ok (.iload_n 3, 1) := by decide +kernel
theorem dL_law_546 : decode cL_law 546 = .ok (.iconst 1, 1) := by decide +kernel
theorem dL_law_547 : decode cL_law 547 = .ok (.iadd, 1) := by decide +kernel
theorem dL_law_548 : decode cL_law 548 = .ok (.iaload, 1) := by decide +kernel
theorem dL_law_549 : decode cL_law 549 = .ok (.aload_n 0, 1) := by decide +kernel
theorem dL_law_550 : decode cL_law 550 = .ok (.iload_n 3, 1) := by decide +kernel
theorem dL_law_551 : decode cL_law 551 = .ok (.iconst 2, 1) := by decide +kernel
theorem dL_law_552 : decode cL_law 552 = .ok (.iadd, 1) := by decide +kernel
theorem dL_law_553 : decode cL_law 553 = .ok (.iaload, 1) := by decide +kernel
theorem dL_law_554 : decode cL_law 554 = .ok (.invokevirtual 61, 3) := by decide +kernel
theorem dL_law_557 : decode cL_law 557 = .ok (.aload_n 2, 1) := by decide +kernel
theorem dL_law_558 : decode cL_law 558 = .ok (.aload_n 0, 1) := by decide +kernel
theorem dL_law_559 : decode cL_law 559 = .ok (.iload_n 3, 1) := by decide +kernel
theorem dL_law_560 : decode cL_law 560 = .ok (.iconst 1, 1) := by decide +kernel
theorem dL_law_561 : decode cL_law 561 = .ok (.iadd, 1) := by decide +kernel
theorem dL_law_562 : decode cL_law 562 = .ok (.iaload, 1) := by decide +kernel
theorem dL_law_563 : decode cL_law 563 = .ok (.aload_n 0, 1) := by decide +kernel
theorem dL_law_564 : decode cL_law 564 = .ok (.iload_n 3, 1) := by decide +kernel
theorem dL_law_565 : decode cL_law 565 = .ok (.iconst 2, 1) := by decide +kernel
theorem dL_law_566 : decode cL_law 566 = .ok (.iadd, 1) := by decide +kernel
theorem dL_law_567 : decode cL_law 567 = .ok (.iaload, 1) := by decide +kernel
theorem dL_law_568 : decode cL_law 568 = .ok (.invokevirtual 64, 3) := by decide +kernel
theorem dL_law_571 : decode cL_law 571 = .ok (.if_icmp .eq 692, 3) := by decide +kernel
theorem dL_law_574 : decode cL_law 574 = .ok (.iconst 0, 1) := by decide +kernel
theorem dL_law_575 : decode cL_law 575 = .ok (.ireturn, 1) := by decide +kernel
theorem dL_law_576 : decode cL_law 576 = .ok (.aload_n 1, 1) := by decide +kernel
theorem dL_law_577 : decode cL_law 577 = .ok (.aload_n 0, 1) := by decide +kernel
theorem dL_law_578 : decode cL_law 578 = .ok (.iload_n 3, 1) := by decide +kernel
theorem dL_law_579 : decode cL_law 579 = .ok (.iconst 1, 1) := by decide +kernel
theorem dL_law_580 : decode cL_law 580 = .ok (.iadd, 1) := by decide +kernel
theorem dL_law_581 : decode cL_law 581 = .ok (.iaload, 1) := by decide +kernel
theorem dL_law_582 : decode cL_law 582 = .ok (.aload_n 0, 1) := by decide +kernel
theorem dL_law_583 : decode cL_law 583 = .ok (.iload_n 3, 1) := by decide +kernel
theorem dL_law_584 : decode cL_law 584 = .ok (.iconst 2, 1) := by decide +kernel
theorem dL_law_585 : decode cL_law 585 = .ok (.iadd, 1) := by decide +kernel
theorem dL_law_586 : decode cL_law 586 = .ok (.iaload, 1) := by decide +kernel
theorem dL_law_587 : decode cL_law 587 = .ok (.invokevirtual 65, 3) := by decide +kernel
theorem dL_law_590 : decode cL_law 590 = .ok (.aload_n 2, 1) := by decide +kernel
theorem dL_law_591 : decode cL_law 591 = .ok (.aload_n 0, 1) := by decide +kernel
theorem dL_law_592 : decode cL_law 592 = .ok (.iload_n 3, 1) := by decide +kernel
theorem dL_law_593 : decode cL_law 593 = .ok (.iconst 1, 1) := by decide +kernel
theorem dL_law_594 : decode cL_law 594 = .ok (.iadd, 1) := by decide +kernel
theorem dL_law_595 : decode cL_law 595 = .ok (.iaload, 1) := by decide +kernel
theorem dL_law_596 : decode cL_law 596 = .ok (.aload_n 0, 1) := by decide +kernel
theorem dL_law_597 : decode cL_law 597 = .ok (.iload_n 3, 1) := by decide +kernel
theorem dL_law_598 : decode cL_law 598 = .ok (.iconst 2, 1) := by decide +kernel
theorem dL_law_599 : decode cL_law 599 = .ok (.iadd, 1) := by decide +kernel
theorem dL_law_600 : decode cL_law 600 = .ok (.iaload, 1) := by decide +kernel
theorem dL_law_601 : decode cL_law 601 = .ok (.invokevirtual 68, 3) := by decide +kernel
theorem dL_law_604 : decode cL_law 604 = .ok (.if_icmp .eq 659, 3) := by decide +kernel
theorem dL_law_607 : decode cL_law 607 = .ok (.iconst 0, 1) := by decide +kernel
theorem dL_law_608 : decode cL_law 608 = .ok (.ireturn, 1) := by decide +kernel
theorem dL_law_609 : decode cL_law 609 = .ok (.aload_n 1, 1) := by decide +kernel
theorem dL_law_610 : decode cL_law 610 = .ok (.aload_n 0, 1) := by decide +kernel
theorem dL_law_611 : decode cL_law 611 = .ok (.iload_n 3, 1) := by decide +kernel
theorem dL_law_612 : decode cL_law 612 = .ok (.iconst 1, 1) := by decide +kernel
theorem dL_law_613 : decode cL_law 613 = .ok (.iadd, 1) := by decide +kernel
theorem dL_law_614 : decode cL_law 614 = .ok (.iaload, 1) := by decide +kernel
theorem dL_law_615 : decode cL_law 615 = .ok (.invokevirtual 69, 3) := by decide +kernel
theorem dL_law_618 : decode cL_law 618 = .ok (.aload_n 2, 1) := by decide +kernel
theorem dL_law_619 : decode cL_law 619 = .ok (.aload_n 0, 1) := by decide +kernel
theorem dL_law_620 : decode cL_law 620 = .ok (.iload_n 3, 1) := by decide +kernel
theorem dL_law_621 : decode cL_law 621 = .ok (.iconst 1, 1) := by decide +kernel
theorem dL_law_622 : decode cL_law 622 = .ok (.iadd, 1) := by decide +kernel
theorem dL_law_623 : decode cL_law 623 = .ok (.iaload, 1) := by decide +kernel
theorem dL_law_624 : decode cL_law 624 = .ok (.invokevirtual 73, 3) := by decide +kernel
theorem dL_law_627 : decode cL_law 627 = .ok (.lcmp, 1) := by decide +kernel
theorem dL_law_628 : decode cL_law 628 = .ok (.ifCond .eq 635, 3) := by decide +kernel
theorem dL_law_631 : decode cL_law 631 = .ok (.iconst 0, 1) := by decide +kernel
theorem dL_law_632 : decode cL_law 632 = .ok (.ireturn, 1) := by decide +kernel
theorem dL_law_633 : decode cL_law 633 = .ok (.aload_n 1, 1) := by decide +kernel
theorem dL_law_634 : decode cL_law 634 = .ok (.aload_n 0, 1) := by decide +kernel
theorem dL_law_635 : decode cL_law 635 = .ok (.iload_n 3, 1) := by decide +kernel
theorem dL_law_636 : decode cL_law 636 = .ok (.iconst 1, 1) := by decide +kernel
theorem dL_law_637 : decode cL_law 637 = .ok (.iadd, 1) := by decide +kernel
theorem dL_law_638 : decode cL_law 638 = .ok (.iaload, 1) := by decide +kernel
theorem dL_law_639 : decode cL_law 639 = .ok (.aload_n 0, 1) := by decide +kernel
theorem dL_law_640 : decode cL_law 640 = .ok (.iload_n 3, 1) := by decide +kernel
theorem dL_law_641 : decode cL_law 641 = .ok (.iconst 2, 1) := by decide +kernel
theorem dL_law_642 : decode cL_law 642 = .ok (.iadd, 1) := by decide +kernel
theorem dL_law_643 : decode cL_law 643 = .ok (.iaload, 1) := by decide +kernel
theorem dL_law_644 : decode cL_law 644 = .ok (.invokevirtual 74, 3) := by decide +kernel
theorem dL_law_647 : decode cL_law 647 = .ok (.aload_n 2, 1) := by decide +kernel
theorem dL_law_648 : decode cL_law 648 = .ok (.aload_n 0, 1) := by decide +kernel
theorem dL_law_649 : decode cL_law 649 = .ok (.iload_n 3, 1) := by decide +kernel
theorem dL_law_650 : decode cL_law 650 = .ok (.iconst 1, 1) := by decide +kernel
theorem dL_law_651 : decode cL_law 651 = .ok (.iadd, 1) := by decide +kernel
theorem dL_law_652 : decode cL_law 652 = .ok (.iaload, 1) := by decide +kernel
theorem dL_law_653 : decode cL_law 653 = .ok (.aload_n 0, 1) := by decide +kernel
theorem dL_law_654 : decode cL_law 654 = .ok (.iload_n 3, 1) := by decide +kernel
theorem dL_law_655 : decode cL_law 655 = .ok (.iconst 2, 1) := by decide +kernel
theorem dL_law_656 : decode cL_law 656 = .ok (.iadd, 1) := by decide +kernel
theorem dL_law_657 : decode cL_law 657 = .ok (.iaload, 1) := by decide +kernel
theorem dL_law_658 : decode cL_law 658 = .ok (.invokevirtual 77, 3) := by decide +kernel
theorem dL_law_661 : decode cL_law 661 = .ok (.if_icmp .eq 602, 3) := by decide +kernel
theorem dL_law_664 : decode cL_law 664 = .ok (.iconst 0, 1) := by decide +kernel
theorem dL_law_665 : decode cL_law 665 = .ok (.ireturn, 1) := by decide +kernel
theorem dL_law_666 : decode cL_law 666 = .ok (.aload_n 1, 1) := by decide +kernel
theorem dL_law_667 : decode cL_law 667 = .ok (.aload_n 0, 1) := by decide +kernel
theorem dL_law_668 : decode cL_law 668 = .ok (.iload_n 3, 1) := by decide +kernel
theorem dL_law_669 : decode cL_law 669 = .ok (.iconst 1, 1) := by decide +kernel
theorem dL_law_670 : decode cL_law 670 = .ok (.iadd, 1) := by decide +kernel
theorem dL_law_671 : decode cL_law 671 = .ok (.iaload, 1) := by decide +kernel
theorem dL_law_672 : decode cL_law 672 = .ok (.aload_n 0, 1) := by decide +kernel
theorem dL_law_673 : decode cL_law 673 = .ok (.iload_n 3, 1) := by decide +kernel
theorem dL_law_674 : decode cL_law 674 = .ok (.iconst 2, 1) := by decide +kernel
theorem dL_law_675 : decode cL_law 675 = .ok (.iadd, 1) := by decide +kernel
theorem dL_law_676 : decode cL_law 676 = .ok (.iaload, 1) := by decide +kernel
theorem dL_law_677 : decode cL_law 677 = .ok (.aload_n 0, 1) := by decide +kernel
theorem dL_law_678 : decode cL_law 678 = .ok (.iload_n 3, 1) := by decide +kernel
theorem dL_law_679 : decode cL_law 679 = .ok (.iconst 3, 1) := by decide +kernel
theorem dL_law_680 : decode cL_law 680 = .ok (.iadd, 1) := by decide +kernel
theorem dL_law_681 : decode cL_law 681 = .ok (.iaload, 1) := by decide +kernel
theorem dL_law_682 : decode cL_law 682 = .ok (.aload_n 0, 1) := by decide +kernel
theorem dL_law_683 : decode cL_law 683 = .ok (.iload_n 3, 1) := by decide +kernel
theorem dL_law_684 : decode cL_law 684 = .ok (.iconst 4, 1) := by decide +kernel
theorem dL_law_685 : decode cL_law 685 = .ok (.iadd, 1) := by decide +kernel
theorem dL_law_686 : decode cL_law 686 = .ok (.iaload, 1) := by decide +kernel
theorem dL_law_687 : decode cL_law 687 = .ok (.aload_n 0, 1) := by decide +kernel
theorem dL_law_688 : decode cL_law 688 = .ok (.iload_n 3, 1) := by decide +kernel
theorem dL_law_689 : decode cL_law 689 = .ok (.iconst 5, 1) := by decide +kernel
theorem dL_law_690 : decode cL_law 690 = .ok (.iadd, 1) := by decide +kernel
theorem dL_law_691 : decode cL_law 691 = .ok (.iaload, 1) := by decide +kernel
theorem dL_law_692 : decode cL_law 692 = .ok (.invokevirtual 78, 3) := by decide +kernel
theorem dL_law_695 : decode cL_law 695 = .ok (.aload_n 2, 1) := by decide +kernel
theorem dL_law_696 : decode cL_law 696 = .ok (.aload_n 0, 1) := by decide +kernel
theorem dL_law_697 : decode cL_law 697 = .ok (.iload_n 3, 1) := by decide +kernel
theorem dL_law_698 : decode cL_law 698 = .ok (.iconst 1, 1) := by decide +kernel
theorem dL_law_699 : decode cL_law 699 = .ok (.iadd, 1) := by decide +kernel
theorem dL_law_700 : decode cL_law 700 = .ok (.iaload, 1) := by decide +kernel
theorem dL_law_701 : decode cL_law 701 = .ok (.aload_n 0, 1) := by decide +kernel
theorem dL_law_702 : decode cL_law 702 = .ok (.iload_n 3, 1) := by decide +kernel
theorem dL_law_703 : decode cL_law 703 = .ok (.iconst 2, 1) := by decide +kernel
theorem dL_law_704 : decode cL_law 704 = .ok (.iadd, 1) := by decide +kernel
theorem dL_law_705 : decode cL_law 705 = .ok (.iaload, 1) := by decide +kernel
theorem dL_law_706 : decode cL_law 706 = .ok (.aload_n 0, 1) := by decide +kernel
theorem dL_law_707 : decode cL_law 707 = .ok (.iload_n 3, 1) := by decide +kernel
theorem dL_law_708 : decode cL_law 708 = .ok (.iconst 3, 1) := by decide +kernel
theorem dL_law_709 : decode cL_law 709 = .ok (.iadd, 1) := by decide +kernel
theorem dL_law_710 : decode cL_law 710 = .ok (.iaload, 1) := by decide +kernel
theorem dL_law_711 : decode cL_law 711 = .ok (.aload_n 0, 1) := by decide +kernel
theorem dL_law_712 : decode cL_law 712 = .ok (.iload_n 3, 1) := by decide +kernel
theorem dL_law_713 : decode cL_law 713 = .ok (.iconst 4, 1) := by decide +kernel
theorem dL_law_714 : decode cL_law 714 = .ok (.iadd, 1) := by decide +kernel
theorem dL_law_715 : decode cL_law 715 = .ok (.iaload, 1) := by decide +kernel
theorem dL_law_716 : decode cL_law 716 = .ok (.aload_n 0, 1) := by decide +kernel
theorem dL_law_717 : decode cL_law 717 = .ok (.iload_n 3, 1) := by decide +kernel
theorem dL_law_718 : decode cL_law 718 = .ok (.iconst 5, 1) := by decide +kernel
theorem dL_law_719 : decode cL_law 719 = .ok (.iadd, 1) := by decide +kernel
theorem dL_law_720 : decode cL_law 720 = .ok (.iaload, 1) := by decide +kernel
theorem dL_law_721 : decode cL_law 721 = .ok (.invokevirtual 81, 3) := by decide +kernel
theorem dL_law_724 : decode cL_law 724 = .ok (.if_icmp .eq 539, 3) := by decide +kernel
theorem dL_law_727 : decode cL_law 727 = .ok (.iconst 0, 1) := by decide +kernel
theorem dL_law_728 : decode cL_law 728 = .ok (.ireturn, 1) := by decide +kernel
theorem dL_law_729 : decode cL_law 729 = .ok (.aload_n 1, 1) := by decide +kernel
theorem dL_law_730 : decode cL_law 730 = .ok (.aload_n 0, 1) := by decide +kernel
theorem dL_law_731 : decode cL_law 731 = .ok (.iload_n 3, 1) := by decide +kernel
theorem dL_law_732 : decode cL_law 732 = .ok (.iconst 1, 1) := by decide +kernel
theorem dL_law_733 : decode cL_law 733 = .ok (.iadd, 1) := by decide +kernel
theorem dL_law_734 : decode cL_law 734 = .ok (.iaload, 1) := by decide +kernel
theorem dL_law_735 : decode cL_law 735 = .ok (.aload_n 0, 1) := by decide +kernel
theorem dL_law_736 : decode cL_law 736 = .ok (.iload_n 3, 1) := by decide +kernel
theorem dL_law_737 : decode cL_law 737 = .ok (.iconst 2, 1) := by decide +kernel
theorem dL_law_738 : decode cL_law 738 = .ok (.iadd, 1) := by decide +kernel
theorem dL_law_739 : decode cL_law 739 = .ok (.iaload, 1) := by decide +kernel
theorem dL_law_740 : decode cL_law 740 = .ok (.aload_n 0, 1) := by decide +kernel
theorem dL_law_741 : decode cL_law 741 = .ok (.iload_n 3, 1) := by decide +kernel
theorem dL_law_742 : decode cL_law 742 = .ok (.iconst 3, 1) := by decide +kernel
theorem dL_law_743 : decode cL_law 743 = .ok (.iadd, 1) := by decide +kernel
theorem dL_law_744 : decode cL_law 744 = .ok (.iaload, 1) := by decide +kernel
theorem dL_law_745 : decode cL_law 745 = .ok (.invokevirtual 82, 3) := by decide +kernel
theorem dL_law_748 : decode cL_law 748 = .ok (.aload_n 2, 1) := by decide +kernel
theorem dL_law_749 : decode cL_law 749 = .ok (.aload_n 0, 1) := by decide +kernel
theorem dL_law_750 : decode cL_law 750 = .ok (.iload_n 3, 1) := by decide +kernel
theorem dL_law_751 : decode cL_law 751 = .ok (.iconst 1, 1) := by decide +kernel
theorem dL_law_752 : decode cL_law 752 = .ok (.iadd, 1) := by decide +kernel
theorem dL_law_753 : decode cL_law 753 = .ok (.iaload, 1) := by decide +kernel
theorem dL_law_754 : decode cL_law 754 = .ok (.aload_n 0, 1) := by decide +kernel
theorem dL_law_755 : decode cL_law 755 = .ok (.iload_n 3, 1) := by decide +kernel
theorem dL_law_756 : decode cL_law 756 = .ok (.iconst 2, 1) := by decide +kernel
theorem dL_law_757 : decode cL_law 757 = .ok (.iadd, 1) := by decide +kernel
theorem dL_law_758 : decode cL_law 758 = .ok (.iaload, 1) := by decide +kernel
theorem dL_law_759 : decode cL_law 759 = .ok (.aload_n 0, 1) := by decide +kernel
theorem dL_law_760 : decode cL_law 760 = .ok (.iload_n 3, 1) := by decide +kernel
theorem dL_law_761 : decode cL_law 761 = .ok (.iconst 3, 1) := by decide +kernel
theorem dL_law_762 : decode cL_law 762 = .ok (.iadd, 1) := by decide +kernel
theorem dL_law_763 : decode cL_law 763 = .ok (.iaload, 1) := by decide +kernel
theorem dL_law_764 : decode cL_law 764 = .ok (.invokevirtual 86, 3) := by decide +kernel
theorem dL_law_767 : decode cL_law 767 = .ok (.if_icmp .eq 496, 3) := by decide +kernel
theorem dL_law_770 : decode cL_law 770 = .ok (.iconst 0, 1) := by decide +kernel
theorem dL_law_771 : decode cL_law 771 = .ok (.ireturn, 1) := by decide +kernel
theorem dL_law_772 : decode cL_law 772 = .ok (.aload_n 1, 1) := by decide +kernel
theorem dL_law_773 : decode cL_law 773 = .ok (.aload_n 0, 1) := by decide +kernel
theorem dL_law_774 : decode cL_law 774 = .ok (.iload_n 3, 1) := by decide +kernel
theorem dL_law_775 : decode cL_law 775 = .ok (.iconst 1, 1) := by decide +kernel
theorem dL_law_776 : decode cL_law 776 = .ok (.iadd, 1) := by decide +kernel
theorem dL_law_777 : decode cL_law 777 = .ok (.iaload, 1) := by decide +kernel
theorem dL_law_778 : decode cL_law 778 = .ok (.invokevirtual 87, 3) := by decide +kernel
theorem dL_law_781 : decode cL_law 781 = .ok (.aload_n 2, 1) := by decide +kernel
theorem dL_law_782 : decode cL_law 782 = .ok (.aload_n 0, 1) := by decide +kernel
theorem dL_law_783 : decode cL_law 783 = .ok (.iload_n 3, 1) := by decide +kernel
theorem dL_law_784 : decode cL_law 784 = .ok (.iconst 1, 1) := by decide +kernel
theorem dL_law_785 : decode cL_law 785 = .ok (.iadd, 1) := by decide +kernel
theorem dL_law_786 : decode cL_law 786 = .ok (.iaload, 1) := by decide +kernel
theorem dL_law_787 : decode cL_law 787 = .ok (.invokevirtual 90, 3) := by decide +kernel
theorem dL_law_790 : decode cL_law 790 = .ok (.if_icmp .eq 473, 3) := by decide +kernel
theorem dL_law_793 : decode cL_law 793 = .ok (.iconst 0, 1) := by decide +kernel
theorem dL_law_794 : decode cL_law 794 = .ok (.ireturn, 1) := by decide +kernel
theorem dL_law_795 : decode cL_law 795 = .ok (.aload_n 1, 1) := by decide +kernel
theorem dL_law_796 : decode cL_law 796 = .ok (.aload_n 0, 1) := by decide +kernel
theorem dL_law_797 : decode cL_law 797 = .ok (.iload_n 3, 1) := by decide +kernel
theorem dL_law_798 : decode cL_law 798 = .ok (.iconst 1, 1) := by decide +kernel
theorem dL_law_799 : decode cL_law 799 = .ok (.iadd, 1) := by decide +kernel
theorem dL_law_800 : decode cL_law 800 = .ok (.iaload, 1) := by decide +kernel
theorem dL_law_801 : decode cL_law 801 = .ok (.invokevirtual 91, 3) := by decide +kernel
theorem dL_law_804 : decode cL_law 804 = .ok (.aload_n 2, 1) := by decide +kernel
theorem dL_law_805 : decode cL_law 805 = .ok (.aload_n 0, 1) := by decide +kernel
theorem dL_law_806 : decode cL_law 806 = .ok (.iload_n 3, 1) := by decide +kernel
theorem dL_law_807 : decode cL_law 807 = .ok (.iconst 1, 1) := by decide +kernel
theorem dL_law_808 : decode cL_law 808 = .ok (.iadd, 1) := by decide +kernel
theorem dL_law_809 : decode cL_law 809 = .ok (.iaload, 1) := by decide +kernel
theorem dL_law_810 : decode cL_law 810 = .ok (.invokevirtual 94, 3) := by decide +kernel
theorem dL_law_813 : decode cL_law 813 = .ok (.if_icmp .eq 450, 3) := by decide +kernel
theorem dL_law_816 : decode cL_law 816 = .ok (.iconst 0, 1) := by decide +kernel
theorem dL_law_817 : decode cL_law 817 = .ok (.ireturn, 1) := by decide +kernel
theorem dL_law_818 : decode cL_law 818 = .ok (.aload_n 1, 1) := by decide +kernel
theorem dL_law_819 : decode cL_law 819 = .ok (.aload_n 0, 1) := by decide +kernel
theorem dL_law_820 : decode cL_law 820 = .ok (.iload_n 3, 1) := by decide +kernel
theorem dL_law_821 : decode cL_law 821 = .ok (.iconst 1, 1) := by decide +kernel
theorem dL_law_822 : decode cL_law 822 = .ok (.iadd, 1) := by decide +kernel
theorem dL_law_823 : decode cL_law 823 = .ok (.iaload, 1) := by decide +kernel
theorem dL_law_824 : decode cL_law 824 = .ok (.invokevirtual 95, 3) := by decide +kernel
theorem dL_law_827 : decode cL_law 827 = .ok (.aload_n 2, 1) := by decide +kernel
theorem dL_law_828 : decode cL_law 828 = .ok (.aload_n 0, 1) := by decide +kernel
theorem dL_law_829 : decode cL_law 829 = .ok (.iload_n 3, 1) := by decide +kernel
theorem dL_law_830 : decode cL_law 830 = .ok (.iconst 1, 1) := by decide +kernel
theorem dL_law_831 : decode cL_law 831 = .ok (.iadd, 1) := by decide +kernel
theorem dL_law_832 : decode cL_law 832 = .ok (.iaload, 1) := by decide +kernel
theorem dL_law_833 : decode cL_law 833 = .ok (.invokevirtual 98, 3) := by decide +kernel
theorem dL_law_836 : decode cL_law 836 = .ok (.if_icmp .eq 427, 3) := by decide +kernel
theorem dL_law_839 : decode cL_law 839 = .ok (.iconst 0, 1) := by decide +kernel
theorem dL_law_840 : decode cL_law 840 = .ok (.ireturn, 1) := by decide +kernel
theorem dL_law_841 : decode cL_law 841 = .ok (.aload_n 1, 1) := by decide +kernel
theorem dL_law_842 : decode cL_law 842 = .ok (.aload_n 0, 1) := by decide +kernel
theorem dL_law_843 : decode cL_law 843 = .ok (.iload_n 3, 1) := by decide +kernel
theorem dL_law_844 : decode cL_law 844 = .ok (.iconst 1, 1) := by decide +kernel
theorem dL_law_845 : decode cL_law 845 = .ok (.iadd, 1) := by decide +kernel
theorem dL_law_846 : decode cL_law 846 = .ok (.iaload, 1) := by decide +kernel
theorem dL_law_847 : decode cL_law 847 = .ok (.invokevirtual 99, 3) := by decide +kernel
theorem dL_law_850 : decode cL_law 850 = .ok (.aload_n 2, 1) := by decide +kernel
theorem dL_law_851 : decode cL_law 851 = .ok (.aload_n 0, 1) := by decide +kernel
theorem dL_law_852 : decode cL_law 852 = .ok (.iload_n 3, 1) := by decide +kernel
theorem dL_law_853 : decode cL_law 853 = .ok (.iconst 1, 1) := by decide +kernel
theorem dL_law_854 : decode cL_law 854 = .ok (.iadd, 1) := by decide +kernel
theorem dL_law_855 : decode cL_law 855 = .ok (.iaload, 1) := by decide +kernel
theorem dL_law_856 : decode cL_law 856 = .ok (.invokevirtual 102, 3) := by decide +kernel
theorem dL_law_859 : decode cL_law 859 = .ok (.lcmp, 1) := by decide +kernel
theorem dL_law_860 : decode cL_law 860 = .ok (.ifCond .eq 403, 3) := by decide +kernel
theorem dL_law_863 : decode cL_law 863 = .ok (.iconst 0, 1) := by decide +kernel
theorem dL_law_864 : decode cL_law 864 = .ok (.ireturn, 1) := by decide +kernel
theorem dL_law_865 : decode cL_law 865 = .ok (.aload_n 1, 1) := by decide +kernel
theorem dL_law_866 : decode cL_law 866 = .ok (.aload_n 0, 1) := by decide +kernel
theorem dL_law_867 : decode cL_law 867 = .ok (.iload_n 3, 1) := by decide +kernel
theorem dL_law_868 : decode cL_law 868 = .ok (.iconst 1, 1) := by decide +kernel
theorem dL_law_869 : decode cL_law 869 = .ok (.iadd, 1) := by decide +kernel
theorem dL_law_870 : decode cL_law 870 = .ok (.iaload, 1) := by decide +kernel
theorem dL_law_871 : decode cL_law 871 = .ok (.aload_n 0, 1) := by decide +kernel
theorem dL_law_872 : decode cL_law 872 = .ok (.iload_n 3, 1) := by decide +kernel
theorem dL_law_873 : decode cL_law 873 = .ok (.iconst 2, 1) := by decide +kernel
theorem dL_law_874 : decode cL_law 874 = .ok (.iadd, 1) := by decide +kernel
theorem dL_law_875 : decode cL_law 875 = .ok (.iaload, 1) := by decide +kernel
theorem dL_law_876 : decode cL_law 876 = .ok (.aload_n 0, 1) := by decide +kernel
theorem dL_law_877 : decode cL_law 877 = .ok (.iload_n 3, 1) := by decide +kernel
theorem dL_law_878 : decode cL_law 878 = .ok (.iconst 3, 1) := by decide +kernel
theorem dL_law_879 : decode cL_law 879 = .ok (.iadd, 1) := by decide +kernel
theorem dL_law_880 : decode cL_law 880 = .ok (.iaload, 1) := by decide +kernel
theorem dL_law_881 : decode cL_law 881 = .ok (.aload_n 0, 1) := by decide +kernel
theorem dL_law_882 : decode cL_law 882 = .ok (.iload_n 3, 1) := by decide +kernel
theorem dL_law_883 : decode cL_law 883 = .ok (.iconst 4, 1) := by decide +kernel
theorem dL_law_884 : decode cL_law 884 = .ok (.iadd, 1) := by decide +kernel
theorem dL_law_885 : decode cL_law 885 = .ok (.iaload, 1) := by decide +kernel
theorem dL_law_886 : decode cL_law 886 = .ok (.invokevirtual 103, 3) := by decide +kernel
theorem dL_law_889 : decode cL_law 889 = .ok (.aload_n 2, 1) := by decide +kernel
theorem dL_law_890 : decode cL_law 890 = .ok (.aload_n 0, 1) := by decide +kernel
theorem dL_law_891 : decode cL_law 891 = .ok (.iload_n 3, 1) := by decide +kernel
theorem dL_law_892 : decode cL_law 892 = .ok (.iconst 1, 1) := by decide +kernel
theorem dL_law_893 : decode cL_law 893 = .ok (.iadd, 1) := by decide +kernel
theorem dL_law_894 : decode cL_law 894 = .ok (.iaload, 1) := by decide +kernel
theorem dL_law_895 : decode cL_law 895 = .ok (.aload_n 0, 1) := by decide +kernel
theorem dL_law_896 : decode cL_law 896 = .ok (.iload_n 3, 1) := by decide +kernel
theorem dL_law_897 : decode cL_law 897 = .ok (.iconst 2, 1) := by decide +kernel
theorem dL_law_898 : decode cL_law 898 = .ok (.iadd, 1) := by decide +kernel
theorem dL_law_899 : decode cL_law 899 = .ok (.iaload, 1) := by decide +kernel
theorem dL_law_900 : decode cL_law 900 = .ok (.aload_n 0, 1) := by decide +kernel
theorem dL_law_901 : decode cL_law 901 = .ok (.iload_n 3, 1) := by decide +kernel
theorem dL_law_902 : decode cL_law 902 = .ok (.iconst 3, 1) := by decide +kernel
theorem dL_law_903 : decode cL_law 903 = .ok (.iadd, 1) := by decide +kernel
theorem dL_law_904 : decode cL_law 904 = .ok (.iaload, 1) := by decide +kernel
theorem dL_law_905 : decode cL_law 905 = .ok (.aload_n 0, 1) := by decide +kernel
theorem dL_law_906 : decode cL_law 906 = .ok (.iload_n 3, 1) := by decide +kernel
theorem dL_law_907 : decode cL_law 907 = .ok (.iconst 4, 1) := by decide +kernel
theorem dL_law_908 : decode cL_law 908 = .ok (.iadd, 1) := by decide +kernel
theorem dL_law_909 : decode cL_law 909 = .ok (.iaload, 1) := by decide +kernel
theorem dL_law_910 : decode cL_law 910 = .ok (.invokevirtual 107, 3) := by decide +kernel
theorem dL_law_913 : decode cL_law 913 = .ok (.lcmp, 1) := by decide +kernel
theorem dL_law_914 : decode cL_law 914 = .ok (.ifCond .eq 349, 3) := by decide +kernel
theorem dL_law_917 : decode cL_law 917 = .ok (.iconst 0, 1) := by decide +kernel
theorem dL_law_918 : decode cL_law 918 = .ok (.ireturn, 1) := by decide +kernel
theorem dL_law_919 : decode cL_law 919 = .ok (.aload_n 1, 1) := by decide +kernel
theorem dL_law_920 : decode cL_law 920 = .ok (.aload_n 0, 1) := by decide +kernel
theorem dL_law_921 : decode cL_law 921 = .ok (.iload_n 3, 1) := by decide +kernel
theorem dL_law_922 : decode cL_law 922 = .ok (.iconst 1, 1) := by decide +kernel
theorem dL_law_923 : decode cL_law 923 = .ok (.iadd, 1) := by decide +kernel
theorem dL_law_924 : decode cL_law 924 = .ok (.iaload, 1) := by decide +kernel
theorem dL_law_925 : decode cL_law 925 = .ok (.aload_n 0, 1) := by decide +kernel
theorem dL_law_926 : decode cL_law 926 = .ok (.iload_n 3, 1) := by decide +kernel
theorem dL_law_927 : decode cL_law 927 = .ok (.iconst 2, 1) := by decide +kernel
theorem dL_law_928 : decode cL_law 928 = .ok (.iadd, 1) := by decide +kernel
theorem dL_law_929 : decode cL_law 929 = .ok (.iaload, 1) := by decide +kernel
theorem dL_law_930 : decode cL_law 930 = .ok (.aload_n 0, 1) := by decide +kernel
theorem dL_law_931 : decode cL_law 931 = .ok (.iload_n 3, 1) := by decide +kernel
theorem dL_law_932 : decode cL_law 932 = .ok (.iconst 3, 1) := by decide +kernel
theorem dL_law_933 : decode cL_law 933 = .ok (.iadd, 1) := by decide +kernel
theorem dL_law_934 : decode cL_law 934 = .ok (.iaload, 1) := by decide +kernel
theorem dL_law_935 : decode cL_law 935 = .ok (.invokevirtual 108, 3) := by decide +kernel
theorem dL_law_938 : decode cL_law 938 = .ok (.aload_n 2, 1) := by decide +kernel
theorem dL_law_939 : decode cL_law 939 = .ok (.aload_n 0, 1) := by decide +kernel
theorem dL_law_940 : decode cL_law 940 = .ok (.iload_n 3, 1) := by decide +kernel
theorem dL_law_941 : decode cL_law 941 = .ok (.iconst 1, 1) := by decide +kernel
theorem dL_law_942 : decode cL_law 942 = .ok (.iadd, 1) := by decide +kernel
theorem dL_law_943 : decode cL_law 943 = .ok (.iaload, 1) := by decide +kernel
theorem dL_law_944 : decode cL_law 944 = .ok (.aload_n 0, 1) := by decide +kernel
theorem dL_law_945 : decode cL_law 945 = .ok (.iload_n 3, 1) := by decide +kernel
theorem dL_law_946 : decode cL_law 946 = .ok (.iconst 2, 1) := by decide +kernel
theorem dL_law_947 : decode cL_law 947 = .ok (.iadd, 1) := by decide +kernel
theorem dL_law_948 : decode cL_law 948 = .ok (.iaload, 1) := by decide +kernel
theorem dL_law_949 : decode cL_law 949 = .ok (.aload_n 0, 1) := by decide +kernel
theorem dL_law_950 : decode cL_law 950 = .ok (.iload_n 3, 1) := by decide +kernel
theorem dL_law_951 : decode cL_law 951 = .ok (.iconst 3, 1) := by decide +kernel
theorem dL_law_952 : decode cL_law 952 = .ok (.iadd, 1) := by decide +kernel
theorem dL_law_953 : decode cL_law 953 = .ok (.iaload, 1) := by decide +kernel
theorem dL_law_954 : decode cL_law 954 = .ok (.invokevirtual 111, 3) := by decide +kernel
theorem dL_law_957 : decode cL_law 957 = .ok (.if_icmp .eq 306, 3) := by decide +kernel
theorem dL_law_960 : decode cL_law 960 = .ok (.iconst 0, 1) := by decide +kernel
theorem dL_law_961 : decode cL_law 961 = .ok (.ireturn, 1) := by decide +kernel
theorem dL_law_962 : decode cL_law 962 = .ok (.aload_n 1, 1) := by decide +kernel
theorem dL_law_963 : decode cL_law 963 = .ok (.aload_n 0, 1) := by decide +kernel
theorem dL_law_964 : decode cL_law 964 = .ok (.iload_n 3, 1) := by decide +kernel
theorem dL_law_965 : decode cL_law 965 = .ok (.iconst 1, 1) := by decide +kernel
theorem dL_law_966 : decode cL_law 966 = .ok (.iadd, 1) := by decide +kernel
theorem dL_law_967 : decode cL_law 967 = .ok (.iaload, 1) := by decide +kernel
theorem dL_law_968 : decode cL_law 968 = .ok (.invokevirtual 112, 3) := by decide +kernel
theorem dL_law_971 : decode cL_law 971 = .ok (.aload_n 2, 1) := by decide +kernel
theorem dL_law_972 : decode cL_law 972 = .ok (.aload_n 0, 1) := by decide +kernel
theorem dL_law_973 : decode cL_law 973 = .ok (.iload_n 3, 1) := by decide +kernel
theorem dL_law_974 : decode cL_law 974 = .ok (.iconst 1, 1) := by decide +kernel
theorem dL_law_975 : decode cL_law 975 = .ok (.iadd, 1) := by decide +kernel
theorem dL_law_976 : decode cL_law 976 = .ok (.iaload, 1) := by decide +kernel
theorem dL_law_977 : decode cL_law 977 = .ok (.invokevirtual 115, 3) := by decide +kernel
theorem dL_law_980 : decode cL_law 980 = .ok (.if_icmp .eq 283, 3) := by decide +kernel
theorem dL_law_983 : decode cL_law 983 = .ok (.iconst 0, 1) := by decide +kernel
theorem dL_law_984 : decode cL_law 984 = .ok (.ireturn, 1) := by decide +kernel
theorem dL_law_985 : decode cL_law 985 = .ok (.aload_n 1, 1) := by decide +kernel
theorem dL_law_986 : decode cL_law 986 = .ok (.aload_n 0, 1) := by decide +kernel
theorem dL_law_987 : decode cL_law 987 = .ok (.iload_n 3, 1) := by decide +kernel
theorem dL_law_988 : decode cL_law 988 = .ok (.iconst 1, 1) := by decide +kernel
theorem dL_law_989 : decode cL_law 989 = .ok (.iadd, 1) := by decide +kernel
theorem dL_law_990 : decode cL_law 990 = .ok (.iaload, 1) := by decide +kernel
theorem dL_law_991 : decode cL_law 991 = .ok (.aload_n 0, 1) := by decide +kernel
theorem dL_law_992 : decode cL_law 992 = .ok (.iload_n 3, 1) := by decide +kernel
theorem dL_law_993 : decode cL_law 993 = .ok (.iconst 2, 1) := by decide +kernel
theorem dL_law_994 : decode cL_law 994 = .ok (.iadd, 1) := by decide +kernel
theorem dL_law_995 : decode cL_law 995 = .ok (.iaload, 1) := by decide +kernel
theorem dL_law_996 : decode cL_law 996 = .ok (.aload_n 0, 1) := by decide +kernel
theorem dL_law_997 : decode cL_law 997 = .ok (.iload_n 3, 1) := by decide +kernel
theorem dL_law_998 : decode cL_law 998 = .ok (.iconst 3, 1) := by decide +kernel
theorem dL_law_999 : decode cL_law 999 = .ok (.iadd, 1) := by decide +kernel
theorem dL_law_1000 : decode cL_law 1000 = .ok (.iaload, 1) := by decide +kernel
theorem dL_law_1001 : decode cL_law 1001 = .ok (.invokevirtual 116, 3) := by decide +kernel
theorem dL_law_1004 : decode cL_law 1004 = .ok (.aload_n 2, 1) := by decide +kernel
theorem dL_law_1005 : decode cL_law 1005 = .ok (.aload_n 0, 1) := by decide +kernel
theorem dL_law_1006 : decode cL_law 1006 = .ok (.iload_n 3, 1) := by decide +kernel
theorem dL_law_1007 : decode cL_law 1007 = .ok (.iconst 1, 1) := by decide +kernel
theorem dL_law_1008 : decode cL_law 1008 = .ok (.iadd, 1) := by decide +kernel
theorem dL_law_1009 : decode cL_law 1009 = .ok (.iaload, 1) := by decide +kernel
theorem dL_law_1010 : decode cL_law 1010 = .ok (.aload_n 0, 1) := by decide +kernel
theorem dL_law_1011 : decode cL_law 1011 = .ok (.iload_n 3, 1) := by decide +kernel
theorem dL_law_1012 : decode cL_law 1012 = .ok (.iconst 2, 1) := by decide +kernel
theorem dL_law_1013 : decode cL_law 1013 = .ok (.iadd, 1) := by decide +kernel
theorem dL_law_1014 : decode cL_law 1014 = .ok (.iaload, 1) := by decide +kernel
theorem dL_law_1015 : decode cL_law 1015 = .ok (.aload_n 0, 1) := by decide +kernel
theorem dL_law_1016 : decode cL_law 1016 = .ok (.iload_n 3, 1) := by decide +kernel
theorem dL_law_1017 : decode cL_law 1017 = .ok (.iconst 3, 1) := by decide +kernel
theorem dL_law_1018 : decode cL_law 1018 = .ok (.iadd, 1) := by decide +kernel
theorem dL_law_1019 : decode cL_law 1019 = .ok (.iaload, 1) := by decide +kernel
theorem dL_law_1020 : decode cL_law 1020 = .ok (.invokevirtual 119, 3) := by decide +kernel
theorem dL_law_1023 : decode cL_law 1023 = .ok (.if_icmp .eq 240, 3) := by decide +kernel
theorem dL_law_1026 : decode cL_law 1026 = .ok (.iconst 0, 1) := by decide +kernel
theorem dL_law_1027 : decode cL_law 1027 = .ok (.ireturn, 1) := by decide +kernel
theorem dL_law_1028 : decode cL_law 1028 = .ok (.aload_n 1, 1) := by decide +kernel
theorem dL_law_1029 : decode cL_law 1029 = .ok (.aload_n 0, 1) := by decide +kernel
theorem dL_law_1030 : decode cL_law 1030 = .ok (.iload_n 3, 1) := by decide +kernel
theorem dL_law_1031 : decode cL_law 1031 = .ok (.iconst 1, 1) := by decide +kernel
theorem dL_law_1032 : decode cL_law 1032 = .ok (.iadd, 1) := by decide +kernel
theorem dL_law_1033 : decode cL_law 1033 = .ok (.iaload, 1) := by decide +kernel
theorem dL_law_1034 : decode cL_law 1034 = .ok (.aload_n 0, 1) := by decide +kernel
theorem dL_law_1035 : decode cL_law 1035 = .ok (.iload_n 3, 1) := by decide +kernel
theorem dL_law_1036 : decode cL_law 1036 = .ok (.iconst 2, 1) := by decide +kernel
theorem dL_law_1037 : decode cL_law 1037 = .ok (.iadd, 1) := by decide +kernel
theorem dL_law_1038 : decode cL_law 1038 = .ok (.iaload, 1) := by decide +kernel
theorem dL_law_1039 : decode cL_law 1039 = .ok (.aload_n 0, 1) := by decide +kernel
theorem dL_law_1040 : decode cL_law 1040 = .ok (.iload_n 3, 1) := by decide +kernel
theorem dL_law_1041 : decode cL_law 1041 = .ok (.iconst 3, 1) := by decide +kernel
theorem dL_law_1042 : decode cL_law 1042 = .ok (.iadd, 1) := by decide +kernel
theorem dL_law_1043 : decode cL_law 1043 = .ok (.iaload, 1) := by decide +kernel
theorem dL_law_1044 : decode cL_law 1044 = .ok (.invokevirtual 120, 3) := by decide +kernel
theorem dL_law_1047 : decode cL_law 1047 = .ok (.aload_n 2, 1) := by decide +kernel
theorem dL_law_1048 : decode cL_law 1048 = .ok (.aload_n 0, 1) := by decide +kernel
theorem dL_law_1049 : decode cL_law 1049 = .ok (.iload_n 3, 1) := by decide +kernel
theorem dL_law_1050 : decode cL_law 1050 = .ok (.iconst 1, 1) := by decide +kernel
theorem dL_law_1051 : decode cL_law 1051 = .ok (.iadd, 1) := by decide +kernel
theorem dL_law_1052 : decode cL_law 1052 = .ok (.iaload, 1) := by decide +kernel
theorem dL_law_1053 : decode cL_law 1053 = .ok (.aload_n 0, 1) := by decide +kernel
theorem dL_law_1054 : decode cL_law 1054 = .ok (.iload_n 3, 1) := by decide +kernel
theorem dL_law_1055 : decode cL_law 1055 = .ok (.iconst 2, 1) := by decide +kernel
theorem dL_law_1056 : decode cL_law 1056 = .ok (.iadd, 1) := by decide +kernel
theorem dL_law_1057 : decode cL_law 1057 = .ok (.iaload, 1) := by decide +kernel
theorem dL_law_1058 : decode cL_law 1058 = .ok (.aload_n 0, 1) := by decide +kernel
theorem dL_law_1059 : decode cL_law 1059 = .ok (.iload_n 3, 1) := by decide +kernel
theorem dL_law_1060 : decode cL_law 1060 = .ok (.iconst 3, 1) := by decide +kernel
theorem dL_law_1061 : decode cL_law 1061 = .ok (.iadd, 1) := by decide +kernel
theorem dL_law_1062 : decode cL_law 1062 = .ok (.iaload, 1) := by decide +kernel
theorem dL_law_1063 : decode cL_law 1063 = .ok (.invokevirtual 124, 3) := by decide +kernel
theorem dL_law_1066 : decode cL_law 1066 = .ok (.lcmp, 1) := by decide +kernel
theorem dL_law_1067 : decode cL_law 1067 = .ok (.ifCond .eq 196, 3) := by decide +kernel
theorem dL_law_1070 : decode cL_law 1070 = .ok (.iconst 0, 1) := by decide +kernel
theorem dL_law_1071 : decode cL_law 1071 = .ok (.ireturn, 1) := by decide +kernel
theorem dL_law_1072 : decode cL_law 1072 = .ok (.aload_n 1, 1) := by decide +kernel
theorem dL_law_1073 : decode cL_law 1073 = .ok (.aload_n 0, 1) := by decide +kernel
theorem dL_law_1074 : decode cL_law 1074 = .ok (.iload_n 3, 1) := by decide +kernel
theorem dL_law_1075 : decode cL_law 1075 = .ok (.iconst 1, 1) := by decide +kernel
theorem dL_law_1076 : decode cL_law 1076 = .ok (.iadd, 1) := by decide +kernel
theorem dL_law_1077 : decode cL_law 1077 = .ok (.iaload, 1) := by decide +kernel
theorem dL_law_1078 : decode cL_law 1078 = .ok (.aload_n 0, 1) := by decide +kernel
theorem dL_law_1079 : decode cL_law 1079 = .ok (.iload_n 3, 1) := by decide +kernel
theorem dL_law_1080 : decode cL_law 1080 = .ok (.iconst 2, 1) := by decide +kernel
theorem dL_law_1081 : decode cL_law 1081 = .ok (.iadd, 1) := by decide +kernel
theorem dL_law_1082 : decode cL_law 1082 = .ok (.iaload, 1) := by decide +kernel
theorem dL_law_1083 : decode cL_law 1083 = .ok (.aload_n 0, 1) := by decide +kernel
theorem dL_law_1084 : decode cL_law 1084 = .ok (.iload_n 3, 1) := by decide +kernel
theorem dL_law_1085 : decode cL_law 1085 = .ok (.iconst 3, 1) := by decide +kernel
theorem dL_law_1086 : decode cL_law 1086 = .ok (.iadd, 1) := by decide +kernel
theorem dL_law_1087 : decode cL_law 1087 = .ok (.iaload, 1) := by decide +kernel
theorem dL_law_1088 : decode cL_law 1088 = .ok (.aload_n 0, 1) := by decide +kernel
theorem dL_law_1089 : decode cL_law 1089 = .ok (.iload_n 3, 1) := by decide +kernel
theorem dL_law_1090 : decode cL_law 1090 = .ok (.iconst 4, 1) := by decide +kernel
theorem dL_law_1091 : decode cL_law 1091 = .ok (.iadd, 1) := by decide +kernel
theorem dL_law_1092 : decode cL_law 1092 = .ok (.iaload, 1) := by decide +kernel
theorem dL_law_1093 : decode cL_law 1093 = .ok (.aload_n 0, 1) := by decide +kernel
theorem dL_law_1094 : decode cL_law 1094 = .ok (.iload_n 3, 1) := by decide +kernel
theorem dL_law_1095 : decode cL_law 1095 = .ok (.iconst 5, 1) := by decide +kernel
theorem dL_law_1096 : decode cL_law 1096 = .ok (.iadd, 1) := by decide +kernel
theorem dL_law_1097 : decode cL_law 1097 = .ok (.iaload, 1) := by decide +kernel
theorem dL_law_1098 : decode cL_law 1098 = .ok (.invokevirtual 125, 3) := by decide +kernel
theorem dL_law_1101 : decode cL_law 1101 = .ok (.aload_n 2, 1) := by decide +kernel
theorem dL_law_1102 : decode cL_law 1102 = .ok (.aload_n 0, 1) := by decide +kernel
theorem dL_law_1103 : decode cL_law 1103 = .ok (.iload_n 3, 1) := by decide +kernel
theorem dL_law_1104 : decode cL_law 1104 = .ok (.iconst 1, 1) := by decide +kernel
theorem dL_law_1105 : decode cL_law 1105 = .ok (.iadd, 1) := by decide +kernel
theorem dL_law_1106 : decode cL_law 1106 = .ok (.iaload, 1) := by decide +kernel
theorem dL_law_1107 : decode cL_law 1107 = .ok (.aload_n 0, 1) := by decide +kernel
theorem dL_law_1108 : decode cL_law 1108 = .ok (.iload_n 3, 1) := by decide +kernel
theorem dL_law_1109 : decode cL_law 1109 = .ok (.iconst 2, 1) := by decide +kernel
theorem dL_law_1110 : decode cL_law 1110 = .ok (.iadd, 1) := by decide +kernel
theorem dL_law_1111 : decode cL_law 1111 = .ok (.iaload, 1) := by decide +kernel
theorem dL_law_1112 : decode cL_law 1112 = .ok (.aload_n 0, 1) := by decide +kernel
theorem dL_law_1113 : decode cL_law 1113 = .ok (.iload_n 3, 1) := by decide +kernel
theorem dL_law_1114 : decode cL_law 1114 = .ok (.iconst 3, 1) := by decide +kernel
theorem dL_law_1115 : decode cL_law 1115 = .ok (.iadd, 1) := by decide +kernel
theorem dL_law_1116 : decode cL_law 1116 = .ok (.iaload, 1) := by decide +kernel
theorem dL_law_1117 : decode cL_law 1117 = .ok (.aload_n 0, 1) := by decide +kernel
theorem dL_law_1118 : decode cL_law 1118 = .ok (.iload_n 3, 1) := by decide +kernel
theorem dL_law_1119 : decode cL_law 1119 = .ok (.iconst 4, 1) := by decide +kernel
theorem dL_law_1120 : decode cL_law 1120 = .ok (.iadd, 1) := by decide +kernel
theorem dL_law_1121 : decode cL_law 1121 = .ok (.iaload, 1) := by decide +kernel
theorem dL_law_1122 : decode cL_law 1122 = .ok (.aload_n 0, 1) := by decide +kernel
theorem dL_law_1123 : decode cL_law 1123 = .ok (.iload_n 3, 1) := by decide +kernel
theorem dL_law_1124 : decode cL_law 1124 = .ok (.iconst 5, 1) := by decide +kernel
theorem dL_law_1125 : decode cL_law 1125 = .ok (.iadd, 1) := by decide +kernel
theorem dL_law_1126 : decode cL_law 1126 = .ok (.iaload, 1) := by decide +kernel
theorem dL_law_1127 : decode cL_law 1127 = .ok (.invokevirtual 128, 3) := by decide +kernel
theorem dL_law_1130 : decode cL_law 1130 = .ok (.if_icmp .eq 133, 3) := by decide +kernel
theorem dL_law_1133 : decode cL_law 1133 = .ok (.iconst 0, 1) := by decide +kernel
theorem dL_law_1134 : decode cL_law 1134 = .ok (.ireturn, 1) := by decide +kernel
theorem dL_law_1135 : decode cL_law 1135 = .ok (.aload_n 1, 1) := by decide +kernel
theorem dL_law_1136 : decode cL_law 1136 = .ok (.aload_n 0, 1) := by decide +kernel
theorem dL_law_1137 : decode cL_law 1137 = .ok (.iload_n 3, 1) := by decide +kernel
theorem dL_law_1138 : decode cL_law 1138 = .ok (.iconst 1, 1) := by decide +kernel
theorem dL_law_1139 : decode cL_law 1139 = .ok (.iadd, 1) := by decide +kernel
theorem dL_law_1140 : decode cL_law 1140 = .ok (.iaload, 1) := by decide +kernel
theorem dL_law_1141 : decode cL_law 1141 = .ok (.invokevirtual 129, 3) := by decide +kernel
theorem dL_law_1144 : decode cL_law 1144 = .ok (.aload_n 2, 1) := by decide +kernel
theorem dL_law_1145 : decode cL_law 1145 = .ok (.aload_n 0, 1) := by decide +kernel
theorem dL_law_1146 : decode cL_law 1146 = .ok (.iload_n 3, 1) := by decide +kernel
theorem dL_law_1147 : decode cL_law 1147 = .ok (.iconst 1, 1) := by decide +kernel
theorem dL_law_1148 : decode cL_law 1148 = .ok (.iadd, 1) := by decide +kernel
theorem dL_law_1149 : decode cL_law 1149 = .ok (.iaload, 1) := by decide +kernel
theorem dL_law_1150 : decode cL_law 1150 = .ok (.invokevirtual 132, 3) := by decide +kernel
theorem dL_law_1153 : decode cL_law 1153 = .ok (.if_icmp .eq 110, 3) := by decide +kernel
theorem dL_law_1156 : decode cL_law 1156 = .ok (.iconst 0, 1) := by decide +kernel
theorem dL_law_1157 : decode cL_law 1157 = .ok (.ireturn, 1) := by decide +kernel
theorem dL_law_1158 : decode cL_law 1158 = .ok (.aload_n 1, 1) := by decide +kernel
theorem dL_law_1159 : decode cL_law 1159 = .ok (.aload_n 0, 1) := by decide +kernel
theorem dL_law_1160 : decode cL_law 1160 = .ok (.iload_n 3, 1) := by decide +kernel
theorem dL_law_1161 : decode cL_law 1161 = .ok (.iconst 1, 1) := by decide +kernel
theorem dL_law_1162 : decode cL_law 1162 = .ok (.iadd, 1) := by decide +kernel
theorem dL_law_1163 : decode cL_law 1163 = .ok (.iaload, 1) := by decide +kernel
theorem dL_law_1164 : decode cL_law 1164 = .ok (.invokevirtual 133, 3) := by decide +kernel
theorem dL_law_1167 : decode cL_law 1167 = .ok (.aload_n 2, 1) := by decide +kernel
theorem dL_law_1168 : decode cL_law 1168 = .ok (.aload_n 0, 1) := by decide +kernel
theorem dL_law_1169 : decode cL_law 1169 = .ok (.iload_n 3, 1) := by decide +kernel
theorem dL_law_1170 : decode cL_law 1170 = .ok (.iconst 1, 1) := by decide +kernel
theorem dL_law_1171 : decode cL_law 1171 = .ok (.iadd, 1) := by decide +kernel
theorem dL_law_1172 : decode cL_law 1172 = .ok (.iaload, 1) := by decide +kernel
theorem dL_law_1173 : decode cL_law 1173 = .ok (.invokevirtual 136, 3) := by decide +kernel
theorem dL_law_1176 : decode cL_law 1176 = .ok (.if_icmp .eq 87, 3) := by decide +kernel
theorem dL_law_1179 : decode cL_law 1179 = .ok (.iconst 0, 1) := by decide +kernel
theorem dL_law_1180 : decode cL_law 1180 = .ok (.ireturn, 1) := by decide +kernel
theorem dL_law_1181 : decode cL_law 1181 = .ok (.aload_n 1, 1) := by decide +kernel
theorem dL_law_1182 : decode cL_law 1182 = .ok (.aload_n 0, 1) := by decide +kernel
theorem dL_law_1183 : decode cL_law 1183 = .ok (.iload_n 3, 1) := by decide +kernel
theorem dL_law_1184 : decode cL_law 1184 = .ok (.iconst 1, 1) := by decide +kernel
theorem dL_law_1185 : decode cL_law 1185 = .ok (.iadd, 1) := by decide +kernel
theorem dL_law_1186 : decode cL_law 1186 = .ok (.iaload, 1) := by decide +kernel
theorem dL_law_1187 : decode cL_law 1187 = .ok (.aload_n 0, 1) := by decide +kernel
theorem dL_law_1188 : decode cL_law 1188 = .ok (.iload_n 3, 1) := by decide +kernel
theorem dL_law_1189 : decode cL_law 1189 = .ok (.iconst 2, 1) := by decide +kernel
theorem dL_law_1190 : decode cL_law 1190 = .ok (.iadd, 1) := by decide +kernel
theorem dL_law_1191 : decode cL_law 1191 = .ok (.iaload, 1) := by decide +kernel
theorem dL_law_1192 : decode cL_law 1192 = .ok (.invokevirtual 137, 3) := by decide +kernel
theorem dL_law_1195 : decode cL_law 1195 = .ok (.aload_n 2, 1) := by decide +kernel
theorem dL_law_1196 : decode cL_law 1196 = .ok (.aload_n 0, 1) := by decide +kernel
theorem dL_law_1197 : decode cL_law 1197 = .ok (.iload_n 3, 1) := by decide +kernel
theorem dL_law_1198 : decode cL_law 1198 = .ok (.iconst 1, 1) := by decide +kernel
theorem dL_law_1199 : decode cL_law 1199 = .ok (.iadd, 1) := by decide +kernel
theorem dL_law_1200 : decode cL_law 1200 = .ok (.iaload, 1) := by decide +kernel
theorem dL_law_1201 : decode cL_law 1201 = .ok (.aload_n 0, 1) := by decide +kernel
theorem dL_law_1202 : decode cL_law 1202 = .ok (.iload_n 3, 1) := by decide +kernel
theorem dL_law_1203 : decode cL_law 1203 = .ok (.iconst 2, 1) := by decide +kernel
theorem dL_law_1204 : decode cL_law 1204 = .ok (.iadd, 1) := by decide +kernel
theorem dL_law_1205 : decode cL_law 1205 = .ok (.iaload, 1) := by decide +kernel
theorem dL_law_1206 : decode cL_law 1206 = .ok (.invokevirtual 140, 3) := by decide +kernel
theorem dL_law_1209 : decode cL_law 1209 = .ok (.if_icmp .eq 54, 3) := by decide +kernel
theorem dL_law_1212 : decode cL_law 1212 = .ok (.iconst 0, 1) := by decide +kernel
theorem dL_law_1213 : decode cL_law 1213 = .ok (.ireturn, 1) := by decide +kernel
theorem dL_law_1214 : decode cL_law 1214 = .ok (.aload_n 1, 1) := by decide +kernel
theorem dL_law_1215 : decode cL_law 1215 = .ok (.invokevirtual 141, 3) := by decide +kernel
theorem dL_law_1218 : decode cL_law 1218 = .ok (.aload_n 2, 1) := by decide +kernel
theorem dL_law_1219 : decode cL_law 1219 = .ok (.invokevirtual 145, 3) := by decide +kernel
theorem dL_law_1222 : decode cL_law 1222 = .ok (.if_icmp .eq 41, 3) := by decide +kernel
theorem dL_law_1225 : decode cL_law 1225 = .ok (.iconst 0, 1) := by decide +kernel
theorem dL_law_1226 : decode cL_law 1226 = .ok (.ireturn, 1) := by decide +kernel
theorem dL_law_1227 : decode cL_law 1227 = .ok (.aload_n 1, 1) := by decide +kernel
theorem dL_law_1228 : decode cL_law 1228 = .ok (.invokevirtual 146, 3) := by decide +kernel
theorem dL_law_1231 : decode cL_law 1231 = .ok (.aload_n 2, 1) := by decide +kernel
theorem dL_law_1232 : decode cL_law 1232 = .ok (.invokevirtual 149, 3) := by decide +kernel
theorem dL_law_1235 : decode cL_law 1235 = .ok (.if_icmp .eq 28, 3) := by decide +kernel
theorem dL_law_1238 : decode cL_law 1238 = .ok (.iconst 0, 1) := by decide +kernel
theorem dL_law_1239 : decode cL_law 1239 = .ok (.ireturn, 1) := by decide +kernel
theorem dL_law_1240 : decode cL_law 1240 = .ok (.aload_n 1, 1) := by decide +kernel
theorem dL_law_1241 : decode cL_law 1241 = .ok (.aload_n 0, 1) := by decide +kernel
theorem dL_law_1242 : decode cL_law 1242 = .ok (.iload_n 3, 1) := by decide +kernel
theorem dL_law_1243 : decode cL_law 1243 = .ok (.iconst 1, 1) := by decide +kernel
theorem dL_law_1244 : decode cL_law 1244 = .ok (.iadd, 1) := by decide +kernel
theorem dL_law_1245 : decode cL_law 1245 = .ok (.iaload, 1) := by decide +kernel
theorem dL_law_1246 : decode cL_law 1246 = .ok (.invokevirtual 150, 3) := by decide +kernel
theorem dL_law_1249 : decode cL_law 1249 = .ok (.aload_n 2, 1) := by decide +kernel
theorem dL_law_1250 : decode cL_law 1250 = .ok (.aload_n 0, 1) := by decide +kernel
theorem dL_law_1251 : decode cL_law 1251 = .ok (.iload_n 3, 1) := by decide +kernel
theorem dL_law_1252 : decode cL_law 1252 = .ok (.iconst 1, 1) := by decide +kernel
theorem dL_law_1253 : decode cL_law 1253 = .ok (.iadd, 1) := by decide +kernel
theorem dL_law_1254 : decode cL_law 1254 = .ok (.iaload, 1) := by decide +kernel
theorem dL_law_1255 : decode cL_law 1255 = .ok (.invokevirtual 153, 3) := by decide +kernel
theorem dL_law_1258 : decode cL_law 1258 = .ok (.if_icmp .eq 5, 3) := by decide +kernel
theorem dL_law_1261 : decode cL_law 1261 = .ok (.iconst 0, 1) := by decide +kernel
theorem dL_law_1262 : decode cL_law 1262 = .ok (.ireturn, 1) := by decide +kernel
theorem dL_law_1263 : decode cL_law 1263 = .ok (.iinc 3 6, 3) := by decide +kernel
theorem dL_law_1266 : decode cL_law 1266 = .ok (.goto (-1248), 3) := by decide +kernel
theorem dL_law_1269 : decode cL_law 1269 = .ok (.iconst 1, 1) := by decide +kernel
theorem dL_law_1270 : decode cL_law 1270 = .ok (.ireturn, 1) := by decide +kernel
end
section
/-! my own rows over the kit: states as tables of numbers, worlds as pictures of them, contracts by functions -/
abbrev ST : Type := Nat → Nat → Int32
def st (t : ST) (i j : Nat) (x : Int32) : ST := fun p => if p = i then upd (t i) j x else t p
def sr (t : ST) (i : Nat) (f : Nat → Int32) : ST := fun p => if p = i then f else t p
def sb (t : ST) (b : Nat) : ST := fun i => t (b + i)
def gr (t : ST) (b n : Nat) (u : ST) : ST := fun i => if b ≤ i ∧ i < b + n then u (i - b) else t i
def sa (a : Nat → Nat) (b : Nat) : Nat → Nat := fun i => a (b + i)
def rd (n : Nat) (f : Nat → Int32) (i : Int32) : Option Int32 := if i < 0 ∨ n ≤ i.toNatClampNeg then none else some (f i.toNatClampNeg)
def ix (n : Nat) (i : Int32) : Option Nat := if i < 0 ∨ n ≤ i.toNatClampNeg then none else some i.toNatClampNeg
def cpy (n0 n1 : Nat) (f g : Nat → Int32) (sp dp n : Int32) : Option (Nat → Int32) := if (¬ sp < 0) ∧ (¬ dp < 0) ∧ (¬ n < 0) ∧ sp.toNatClampNeg + n.toNatClampNeg ≤ n0 ∧ dp.toNatClampNeg + n.toNatClampNeg ≤ n1 then some (va_cpy f g sp.toNatClampNeg dp.toNatClampNeg n.toNatClampNeg) else none
def nz (y : Int32) : Option Unit := if y = 0 then none else some ()
def nzl (y : Int64) : Option Unit := if y = 0 then none else some ()
theorem rd_some {n : Nat} {f : Nat → Int32} {i v : Int32} (h : rd n f i = some v) : vp_in i n ∧ f i.toNatClampNeg = v := by
  unfold rd at h
  by_cases c : i < 0 ∨ n ≤ i.toNatClampNeg
  · rw [if_pos c] at h; cases h
  · rw [if_neg c] at h; exact ⟨c, Option.some.inj h⟩
theorem ix_some {n : Nat} {i : Int32} {k : Nat} (h : ix n i = some k) : vp_in i n ∧ i.toNatClampNeg = k ∧ k < n := by
  unfold ix at h
  by_cases c : i < 0 ∨ n ≤ i.toNatClampNeg
  · rw [if_pos c] at h; cases h
  · rw [if_neg c] at h
    have h2 := Option.some.inj h
    exact ⟨c, h2, by rw [← h2]; exact Nat.lt_of_not_le (fun z => c (Or.inr z))⟩
theorem cpy_some {n0 n1 : Nat} {f g r : Nat → Int32} {sp dp n : Int32} (h : cpy n0 n1 f g sp dp n = some r) : (¬ sp < 0) ∧ (¬ dp < 0) ∧ (¬ n < 0) ∧ sp.toNatClampNeg + n.toNatClampNeg ≤ n0 ∧ dp.toNatClampNeg + n.toNatClampNeg ≤ n1 ∧ va_cpy f g sp.toNatClampNeg dp.toNatClampNeg n.toNatClampNeg = r := by
  unfold cpy at h
  by_cases c : (¬ sp < 0) ∧ (¬ dp < 0) ∧ (¬ n < 0) ∧ sp.toNatClampNeg + n.toNatClampNeg ≤ n0 ∧ dp.toNatClampNeg + n.toNatClampNeg ≤ n1
  · rw [if_pos c] at h; exact ⟨c.1, c.2.1, c.2.2.1, c.2.2.2.1, c.2.2.2.2, Option.some.inj h⟩
  · rw [if_neg c] at h; cases h
theorem nz_some {y : Int32} {u : Unit} (h : nz y = some u) : ¬ y = 0 := fun z => by simp [nz, z] at h
theorem nzl_some {y : Int64} {u : Unit} (h : nzl y = some u) : ¬ y = 0 := fun z => by simp [nzl, z] at h
theorem bd {α β : Type} {x : Option α} {f : α → Option β} {o : β} (h : x.bind f = some o) : ∃ a, x = some a ∧ f a = some o := by
  cases x with
  | none => cases h
  | some a => exact ⟨a, rfl, h⟩
def b2 {α β γ : Type} (x : Option (α × β)) (f : α → β → Option γ) : Option γ := match x with
  | none => none
  | some q => f q.1 q.2
theorem bd2 {α β γ : Type} {x : Option (α × β)} {f : α → β → Option γ} {o : γ} (h : b2 x f = some o) : ∃ a b, x = some (a, b) ∧ f a b = some o := by
  cases x with
  | none => cases h
  | some q => exact ⟨q.1, q.2, rfl, h⟩
def bz (v : Int32) : Option Unit := if v = 0 ∨ v = 1 then some () else none
theorem bz_some {v : Int32} {u : Unit} (h : bz v = some u) : v = 0 ∨ v = 1 := by
  unfold bz at h
  by_cases c : v = 0 ∨ v = 1
  · exact c
  · rw [if_neg c] at h; cases h
theorem pnil {D : va_G} {cl : List vw_C} {H : Heap} : va_P D cl [] H := fun k q h => by simp at h
theorem ip {c : Prop} {hd : Decidable c} {α : Type} {a b o : α} (h : c) (hF : (@ite α c hd a b) = o) : a = o := by rw [if_pos h] at hF; exact hF
theorem iq {c : Prop} {hd : Decidable c} {α : Type} {a b o : α} (h : ¬ c) (hF : (@ite α c hd a b) = o) : b = o := by rw [if_neg h] at hF; exact hF
theorem ne_toInt {x y : Int32} (h : ¬ x = y) {k : Int} (hk : y.toInt = k) : ¬ x.toInt = k := fun z => h (Int32.toInt_inj.mp (z.trans hk.symm))
theorem b01 {x : Int32} (h : x = 0 ∨ x = 1) : narrow .boolean (.int x) = .int x := by rcases h with rfl | rfl <;> rfl
theorem lt4 {k : Nat} (h : k < 4) : k = 0 ∨ k = 1 ∨ k = 2 ∨ k = 3 := by omega
/-- the words of the tables that stay -/
def ALL : List Cond := lw_tbl.filter goodWord
theorem all_in {w : Cond} (i : Nat) (h : lw_tbl[i]? = some w) (hg : goodWord w = true) : w ∈ ALL := List.mem_filter.mpr ⟨List.mem_of_getElem? h, hg⟩
theorem all_ins {ws : List Cond} (is : List Nat) (h : ws = is.filterMap (fun i => lw_tbl[i]?)) (hg : ws.all goodWord = true) : ∀ w ∈ ws, w ∈ ALL := by
  intro w hw
  refine List.mem_filter.mpr ⟨?_, List.all_eq_true.mp hg w hw⟩
  rw [h] at hw
  obtain ⟨i, -, hi⟩ := List.mem_filterMap.mp hw
  exact List.mem_of_getElem? hi
def TW (Ts : List Cond) : Prop := ∀ w ∈ ALL, w ∈ Ts
theorem TW.cons (w : Cond) : TW (w :: ALL) := fun _ h => List.mem_cons_of_mem _ h
theorem TW.tbl : TW lw_tbl := fun _ h => (List.mem_filter.mp h).1
theorem good_all {Ts : List Cond} (hT : TW Ts) {w : Cond} (hc : w ∈ ALL) : GoodIn Ts (w :: ALL) := by
  intro v hv
  rcases List.mem_cons.mp hv with rfl | h
  · exact ⟨hT _ hc, good_of_word (List.mem_filter.mp hc).2⟩
  · exact ⟨hT _ h, good_of_word (List.mem_filter.mp h).2⟩
/-- links of nest mates -/
abbrev nF : Type := String × Nat × String × String × String × String
abbrev nM : Type := String × Nat × MethodName × String
abbrev nFw (q : nF) : Cond := .fieldLinkNest q.1 q.2.1 q.2.2.1 q.2.2.2.1 q.2.2.2.2.1 q.2.2.2.2.2
abbrev nMw (q : nM) : Cond := .methodLinkNest q.1 q.2.1 q.2.2.1 q.2.2.2
def nestF : List nF := [(RX6, 88, "MarbleGarden$Blocks", "count", "I", "MarbleGarden"), (RX6, 95, "MarbleGarden$Blocks", "kindOf", "[I", "MarbleGarden"), (RX6, 99, "MarbleGarden$Blocks", "shapeOf", "[I", "MarbleGarden"), (RX6, 102, "MarbleGarden$Blocks", "paceOf", "[I", "MarbleGarden"), (RX6, 127, "MarbleGarden$Law", "number", "I", "MarbleGarden"), (RX6, 144, "MarbleGarden$Blocks", "lookedAt", "I", "MarbleGarden"), (RX6, 192, "MarbleGarden$Readings", "count", "I", "MarbleGarden"), (RX6, 206, "MarbleGarden$Sheet", "hasRow", "Z", "MarbleGarden"), (RX6, 220, "MarbleGarden$Sheet", "lane", "I", "MarbleGarden"), (RX6, 223, "MarbleGarden$Sheet", "cells", "[I", "MarbleGarden"), (RX6, 247, "MarbleGarden$Blocks", "day", "I", "MarbleGarden"), (RX2, 31, "MarbleGarden$Blocks", "shapeOf", "[I", "MarbleGarden"), (RX5, 38, "MarbleGarden$Blocks", "day", "I", "MarbleGarden"), (RX5, 77, "MarbleGarden$Blocks", "lookedAt", "I", "MarbleGarden"), (RX5, 84, "MarbleGarden$Blocks", "shapeOf", "[I", "MarbleGarden")]
def nestM : List nM := [(RX6, 11, yX1_init, "MarbleGarden"), (RX6, 20, yX0_init, "MarbleGarden"), (RX6, 30, yX5_init, "MarbleGarden"), (RX6, 37, yX2_init, "MarbleGarden"), (RX6, 48, yX3_init, "MarbleGarden"), (RX1, 30, yX6_isShape, "MarbleGarden"), (RX5, 11, yX0_init, "MarbleGarden")]
def KK (D : va_G) (cI cS : ClassId) (U : State) : Prop := va_K D vwCl [(cI, .int), (cS, .object RX3)] U ∧ (∀ q ∈ nestF, va_Nw (nFw q) U) ∧ ∀ q ∈ nestM, va_Nw (nMw q) U
theorem KK.warm {D : va_G} {cI cS : ClassId} {s U : State} (hW : s.WarmedH U.vm) (h : KK D cI cS s) : KK D cI cS U := ⟨va_K.moved hW.alike h.1, fun q hq => va_Nw.warmF hW (h.2.1 q hq), fun q hq => va_Nw.warmM hW (h.2.2 q hq)⟩
theorem KK.call {D : va_G} {cI cS : ClassId} {U : State} {g : JFrame} {mk : MethodId} {a : Array Value} (h : KK D cI cS U) : KK D cI cS (U.calling g mk a) := ⟨va_K.moved (u := U) (U := U.calling g mk a) (Vm.Alike.refl U.vm) h.1, fun q hq => va_Nw.same (u := U) rfl rfl (h.2.1 q hq), fun q hq => va_Nw.same (u := U) rfl rfl (h.2.2 q hq)⟩
def PreR (D : va_G) (cI cS : ClassId) (av : List Value) (w : va_W) : Array Value → State → Prop := va_Pc av (fun U => va_P D vwCl w U.heap ∧ KK D cI cS U)
def PreW (D : va_G) (cI cS : ClassId) (av : List Value) (w : va_W) : Array Value → State → Prop := va_Pc av (fun U => va_P D vwCl w U.heap ∧ KK D cI cS U ∧ va_D (fun _ => True) w)
theorem blR {D : va_G} {cI cS : ClassId} {av : List Value} {w : va_W} : FrameBlind (PreR D cI cS av w) := fun _ _ _ _ q => ⟨q.1, q.2.1, q.2.2.call⟩
theorem blW {D : va_G} {cI cS : ClassId} {av : List Value} {w : va_W} : FrameBlind (PreW D cI cS av w) := fun _ _ _ _ q => ⟨q.1, q.2.1, q.2.2.1.call, q.2.2.2⟩
def AD (w : va_W) : Nat → Prop := fun q => q ∈ w.map Prod.fst
theorem AD.self {w : va_W} (h : va_D (fun _ => True) w) : va_D (AD w) w := ⟨h.1, fun _ q hk => List.mem_map.mpr ⟨q, List.mem_of_getElem? hk, rfl⟩⟩
theorem va_D.adr {A : Nat → Prop} {ws ws' : va_W} (hD : va_D A ws) (h : ws'.map Prod.fst = ws.map Prod.fst) : va_D A ws' := by
  have key : ∀ (k : Nat) (q : Nat × va_E), ws'[k]? = some q → ∃ q0, ws[k]? = some q0 ∧ q0.1 = q.1 := by
    intro k q hk
    have h1 : (ws'.map Prod.fst)[k]? = some q.1 := by rw [List.getElem?_map, hk]; rfl
    rw [h, List.getElem?_map] at h1
    cases hq : ws[k]? with
    | none => rw [hq] at h1; cases h1
    | some q0 => rw [hq] at h1; exact ⟨q0, rfl, Option.some.inj h1⟩
  refine ⟨fun i j x y hi hj hxy => ?_, fun k q hk => ?_⟩
  · obtain ⟨x0, h1, h2⟩ := key i x hi
    obtain ⟨y0, h3, h4⟩ := key j y hj
    exact hD.1 i j x0 y0 h1 h3 (h2.trans (hxy.trans h4.symm))
  · obtain ⟨q0, h1, h2⟩ := key k q hk
    rw [← h2]
    exact hD.2 k q0 h1
def plv (ws w1 : va_W) : Nat ⊕ Nat → Option (Nat × va_E)
  | .inl i => ws[i]?
  | .inr j => w1[j]?
def plk (isC : List Nat) : Nat ⊕ Nat → Bool
  | .inl i => !(isC.contains i)
  | .inr _ => true
/-- behind a call: each cell of the caller's world is an old one, that the callee has not, or one of the callee's -/
theorem jn {D : va_G} {cl : List vw_C} {A : Nat → Prop} {ws wc w1 ws' : va_W} {H H1 : Heap} (hP : va_P D cl ws H) (hD : va_D A ws) (isC : List Nat) (hC : isC.map (fun i => ws[i]?) = wc.map some) (hk : ∀ q : Nat, q < H.size → ¬ AD wc q → H1[q]? = H[q]?) (hP1 : va_P D cl w1 H1) (pl : List (Nat ⊕ Nat)) (hw : pl.map (plv ws w1) = ws'.map some) (hdis : pl.all (plk isC) = true) : va_P D cl ws' H1 := by
  intro k q hq
  have h1 : (pl.map (plv ws w1))[k]? = some (some q) := by rw [hw, List.getElem?_map, hq]; rfl
  rw [List.getElem?_map] at h1
  cases hp : pl[k]? with
  | none => rw [hp] at h1; cases h1
  | some x =>
    rw [hp] at h1
    have h2 : plv ws w1 x = some q := Option.some.inj h1
    have h3 := List.all_eq_true.mp hdis x (List.mem_of_getElem? hp)
    cases x with
    | inr j => exact hP1 j q h2
    | inl i =>
      have h2 : ws[i]? = some q := h2
      have hni : i ∉ isC := by
        intro z
        have h4 : (!(isC.contains i)) = true := h3
        rw [List.contains_iff_mem.mpr z] at h4
        cases h4
      refine (hP i q h2).kept (hk q.1 (hP i q h2).lt ?_)
      intro z
      obtain ⟨q2, hq2, e2⟩ := List.mem_map.mp z
      obtain ⟨j, hj⟩ := List.getElem?_of_mem hq2
      have h5 : (isC.map (fun i => ws[i]?))[j]? = some (some q2) := by rw [hC, List.getElem?_map, hj]; rfl
      rw [List.getElem?_map] at h5
      cases hi : isC[j]? with
      | none => rw [hi] at h5; cases h5
      | some i2 =>
        rw [hi] at h5
        have h6 : ws[i2]? = some q2 := Option.some.inj h5
        have h7 := hD.1 i i2 q q2 h2 h6 e2.symm
        subst h7
        exact hni (List.mem_of_getElem? hi)
theorem AD.sub {A : Nat → Prop} {ws wc : va_W} (hD : va_D A ws) (isC : List Nat) (hC : isC.map (fun i => ws[i]?) = wc.map some) : ∀ q, AD wc q → A q := by
  intro q h
  obtain ⟨q2, hq2, e2⟩ := List.mem_map.mp h
  obtain ⟨j, hj⟩ := List.getElem?_of_mem hq2
  have h5 : (isC.map (fun i => ws[i]?))[j]? = some (some q2) := by rw [hC, List.getElem?_map, hj]; rfl
  rw [List.getElem?_map] at h5
  cases hi : isC[j]? with
  | none => rw [hi] at h5; cases h5
  | some i2 =>
    rw [hi] at h5
    rw [← e2]
    exact hD.2 i2 q2 (Option.some.inj h5)
/-- what a callee's links are -/
def LV (y : MethodName) (bytes : ByteArray) (maxL : Nat) (ret : Option FieldType) (C : String) (n : Nat) : Prop := Cond.code y bytes maxL ret ∈ ALL ∧ Cond.instanceMethod y ∈ ALL ∧ Cond.selects C y y ∈ ALL ∧ Cond.initialized y.cls ∈ ALL ∧ y.cls ≠ "java/lang/invoke/MethodHandle" ∧ y.cls ≠ "java/lang/invoke/VarHandle" ∧ (parseMethodDescriptor y.desc).map (fun d => d.parameters.length) = some n
def LSt (y : MethodName) (bytes : ByteArray) (maxL : Nat) (ret : Option FieldType) (n : Nat) : Prop := Cond.code y bytes maxL ret ∈ ALL ∧ Cond.static y ∈ ALL ∧ Cond.initialized y.cls ∈ ALL ∧ y.cls ≠ "java/lang/invoke/MethodHandle" ∧ y.cls ≠ "java/lang/invoke/VarHandle" ∧ (parseMethodDescriptor y.desc).map (fun d => d.parameters.length) = some n
section KT
variable {p : Program} {l : Launch} {e : Env} {R : Room} {s : State} {m : MethodId} {args : Array Value} {below : List Frame} {meth : Method} {c : Code} {H : Heap} {locs : List Loc} {cells slots : Nat} {Q : State → Prop} {cc : ByteArray} {pc nL : Nat} {ls : Array Slot} {rest st0 : List Value} {D : va_G} {cl : List vw_C} {A : Nat → Prop} {a : Nat} {tys : List (ClassId × FieldType)} {ws ws' wc w1 : va_W} {H0 : Heap} {cI cS : ClassId}
variable {y : MethodName} {bytes : ByteArray} {maxL n index : Nat} {ret : Option FieldType} {rm : Room} {Ts : List Cond} {own C host : String} {b : Addr} {As : List Value}
theorem cwVA (ht : ∀ w ∈ Ts, w.before args s = true) (hT : TW Ts) (L : LV y bytes maxL ret C n) (hl : Cond.methodLink own index y ∈ ALL) (hr0 : rm.cells = 0 ∧ rm.slots = 0) (hR : rm.frames + 1 ≤ R.frames ∧ 8 + (maxL + 11) + rm.locals ≤ R.locals) : CallW R s args own C index y bytes maxL ret (Cond.code y bytes maxL ret :: ALL) rm 0 0 n :=
  ⟨callB_of n ht (good_all hT L.1) rfl hr0.1 hr0.2 (ht _ (hT _ L.2.2.2.1)) (ht _ (hT _ hl)) L.2.2.2.2 hR, ht _ (hT _ L.2.1), ht _ (hT _ L.2.2.1)⟩
theorem cwSA (ht : ∀ w ∈ Ts, w.before args s = true) (hT : TW Ts) (L : LSt y bytes maxL ret n) (hl : Cond.methodLink own index y ∈ ALL) (hr0 : rm.cells = 0 ∧ rm.slots = 0) (hR : rm.frames + 1 ≤ R.frames ∧ 8 + (maxL + 11) + rm.locals ≤ R.locals) : CallB R s args own index y bytes maxL ret (Cond.code y bytes maxL ret :: ALL) rm 0 0 n ∧ (Cond.static y).before args s = true :=
  ⟨callB_of n ht (good_all hT L.1) rfl hr0.1 hr0.2 (ht _ (hT _ L.2.2.1)) (ht _ (hT _ hl)) L.2.2.2 hR, ht _ (hT _ L.2.1)⟩
theorem cwNA (ht : ∀ w ∈ Ts, w.before args s = true) (hT : TW Ts) (L : LSt y bytes maxL ret n) (hl : va_Nw (.methodLinkNest own index y host) s) (hr0 : rm.cells = 0 ∧ rm.slots = 0) (hR : rm.frames + 1 ≤ R.frames ∧ 8 + (maxL + 11) + rm.locals ≤ R.locals) : va_CN R s args own index y host bytes maxL ret (Cond.code y bytes maxL ret :: ALL) rm 0 0 n ∧ (Cond.static y).before args s = true ∧ True :=
  ⟨va_cnB n ht (good_all hT L.1) rfl hr0.1 hr0.2 hl (ht _ (hT _ L.2.2.1)) L.2.2.2 hR, ht _ (hT _ L.2.1), trivial⟩
/-- what comes back from a call that reads only -/
theorem cRi0 {post : Int32 → Prop} {av : Array Value} (hr : va_Run p l e R s m args below meth c H locs cells slots 0 0 (F0 m pc ls st0) rest (vp_Si post av) (fun _ => False)) (kk : ∀ r : Int32, post r → W p l e R s m args below meth c H locs cells slots Q (F0 m (pc + 3) ls (.int r :: rest))) : W p l e R s m args below meth c H locs cells slots Q (F0 m pc ls st0) := by
  intro T hT X
  obtain ⟨v, st₀, t, T', L, h0, X', hL, e1, e2, ⟨r, hv, hp, hh⟩, st⟩ := hr T hT X
  cases hv
  obtain ⟨t2, a1, b1⟩ := kk r hp T' (by rw [e1, hh, h0]) (Stand.forget X' (fun q h => (hL q h).elim))
  exact ⟨t2, st t2 a1, b1⟩
theorem cRl0 {post : Int64 → Prop} {av : Array Value} (hr : va_Run p l e R s m args below meth c H locs cells slots 0 0 (F0 m pc ls st0) rest (vp_Sl post av) (fun _ => False)) (kk : ∀ r : Int64, post r → W p l e R s m args below meth c H locs cells slots Q (F0 m (pc + 3) ls (.long r :: rest))) : W p l e R s m args below meth c H locs cells slots Q (F0 m pc ls st0) := by
  intro T hT X
  obtain ⟨v, st₀, t, T', L, h0, X', hL, e1, e2, ⟨r, hv, hp, hh⟩, st⟩ := hr T hT X
  cases hv
  obtain ⟨t2, a1, b1⟩ := kk r hp T' (by rw [e1, hh, h0]) (Stand.forget X' (fun q h => (hL q h).elim))
  exact ⟨t2, st t2 a1, b1⟩
/-- a read-only contract, and what the caller has to give -/
theorem pRV {q : vw_C} {fs : List Value} {ci : Nat} (hK : KK D cI cS s) (hP : va_P D vwCl wc H) (hc : vwCl[ci]? = some q) (he : wc[0]? = some (b, .inr (ci, fs))) : PreV s H q.1 b (PreR D cI cS (.ref b :: As) wc) As := ⟨blR, va_recv hK.1 hP hc he, fun U hU hW => ⟨rfl, by rw [hU]; exact hP, hK.warm hW⟩⟩
theorem pRS (hK : KK D cI cS s) (hP : va_P D vwCl wc H) : PreS s H (PreR D cI cS As wc) As := ⟨blR, fun U hU hW => ⟨rfl, by rw [hU]; exact hP, hK.warm hW⟩⟩
theorem pWV {q : vw_C} {fs : List Value} {ci : Nat} (hK : KK D cI cS s) (hP : va_P D vwCl wc H) (hD : va_D A wc) (hc : vwCl[ci]? = some q) (he : wc[0]? = some (b, .inr (ci, fs))) : PreV s H q.1 b (PreW D cI cS (.ref b :: As) wc) As := ⟨blW, va_recv hK.1 hP hc he, fun U hU hW => ⟨rfl, by rw [hU]; exact hP, hK.warm hW, hD.weaken (fun _ _ _ _ => trivial)⟩⟩
theorem pWS (hK : KK D cI cS s) (hP : va_P D vwCl wc H) (hD : va_D A wc) : PreS s H (PreW D cI cS As wc) As := ⟨blW, fun U hU hW => ⟨rfl, by rw [hU]; exact hP, hK.warm hW, hD.weaken (fun _ _ _ _ => trivial)⟩⟩
/-- arrays -/
theorem rI (hexec : p.tables.exec = Jvm.exec) (hb : c.code = cc) (hK : va_K D cl tys s) (hP : va_P D cl ws H) (q0 t0 : Nat) {cA : ClassId} {n : Nat} {f : Nat → Int32} (ha : ws[q0]? = some (a, .inl (cA, n, .inl f))) (ht : tys[t0]? = some (cA, .int)) {i v : Int32} (hr : rd n f i = some v) (hdg : decode cc pc = .ok (.iaload, 1))
    (kk : W p l e R s m args below meth c H locs cells slots Q (F0 m (pc + 1) ls (.int v :: rest))) : W p l e R s m args below meth c H locs cells slots Q (F0 m pc ls (.int i :: .ref a :: rest)) := by
  obtain ⟨h1, h2⟩ := rd_some hr
  subst h2
  exact va_iald hexec hb hK hP q0 t0 ha ht h1 hdg kk
theorem wI (hexec : p.tables.exec = Jvm.exec) (hb : c.code = cc) (hK : va_K D cl tys s) (hP : va_P D cl ws H) (hD : va_D A ws) (hS : va_S A H0 H locs) (q0 t0 : Nat) {cA : ClassId} {n j : Nat} {f : Nat → Int32} (ha : ws[q0]? = some (a, .inl (cA, n, .inl f))) (ht : tys[t0]? = some (cA, .int)) {i : Int32} {x : Int32} (hr : ix n i = some j) (hw : ws.set q0 (a, .inl (cA, n, .inl (upd f j x))) = ws') (hdg : decode cc pc = .ok (.iastore, 1))
    (kk : ∀ (H1 : Heap) (locs1 : List Loc), va_P D cl ws' H1 → va_D A ws' → va_S A H0 H1 locs1 → W p l e R s m args below meth c H1 locs1 cells slots Q (F0 m (pc + 1) ls rest)) : W p l e R s m args below meth c H locs cells slots Q (F0 m pc ls (.int x :: .int i :: .ref a :: rest)) := by
  obtain ⟨h1, h2, -⟩ := ix_some hr
  subst h2
  subst hw
  exact va_iast hexec hb hK hP hD hS q0 t0 ha ht h1 hdg kk
/-- a field of numbers is written -/
theorem wF (hexec : p.tables.exec = Jvm.exec) (hb : c.code = cc) {T : u_T} {N ci : Nat} (hts : ∀ w ∈ Ts, w.before args s = true) (hin : ∀ w ∈ u_ws C T N, w ∈ Ts) (ty0 : Nat → FieldType) (hty : ∀ k, k < N → parseFieldDescriptor (T k).2.2.1 = some (ty0 k)) (hnm : ∀ a, a < N → ∀ b, b < N → a ≠ b → (T a).2.1 ≠ (T b).2.1) (hown : s.vm.findClass own = some m.cls) (hK : va_K D cl tys s) (hP : va_P D cl ws H) (hD : va_D A ws) (hS0 : va_S A H0 H locs) (q0 : Nat) {fs : List Value} (he : ws[q0]? = some (a, .inr (ci, fs))) (hc : cl[ci]? = some (C, T, N)) (k : Nat) (hk : k < N) (hlink : (Cond.fieldLink own index (T k).1 (T k).2.1 (T k).2.2.1).before args s = true) (hfin : (T k).2.2.2 = false) {ty : FieldType} {v : Value} (hd : parseFieldDescriptor (T k).2.2.1 = some ty) (hn : narrow ty v = v) (hfit : fits ty v = true) (hl : k < fs.length) (hw : ws.set q0 (a, .inr (ci, fs.set k v)) = ws')
    (hdg : decode cc pc = .ok (.putfield index, 3)) (kk : ∀ (H1 : Heap) (locs1 : List Loc), va_P D cl ws' H1 → va_D A ws' → va_S A H0 H1 locs1 → W p l e R s m args below meth c H1 locs1 cells slots Q (F0 m (pc + 3) ls rest)) : W p l e R s m args below meth c H locs cells slots Q (F0 m pc ls (v :: .ref a :: rest)) := by
  subst hw
  exact va_put hexec hb hts hin ty0 hty hnm hown hK hP hD hS0 q0 he hc k hk hlink (fun _ h => h) hfin hd hn hfit hl hdg kk
theorem wFN (hexec : p.tables.exec = Jvm.exec) (hb : c.code = cc) {T : u_T} {N ci : Nat} (hts : ∀ w ∈ Ts, w.before args s = true) (hin : ∀ w ∈ u_ws C T N, w ∈ Ts) (ty0 : Nat → FieldType) (hty : ∀ k, k < N → parseFieldDescriptor (T k).2.2.1 = some (ty0 k)) (hnm : ∀ a, a < N → ∀ b, b < N → a ≠ b → (T a).2.1 ≠ (T b).2.1) (hown : s.vm.findClass own = some m.cls) (hK : va_K D cl tys s) (hP : va_P D cl ws H) (hD : va_D A ws) (hS0 : va_S A H0 H locs) (q0 : Nat) {fs : List Value} (he : ws[q0]? = some (a, .inr (ci, fs))) (hc : cl[ci]? = some (C, T, N)) (k : Nat) (hk : k < N) (hlink : (Cond.fieldLinkNest own index (T k).1 (T k).2.1 (T k).2.2.1 host).before args s = true) (hfin : (T k).2.2.2 = false) {ty : FieldType} {v : Value} (hd : parseFieldDescriptor (T k).2.2.1 = some ty) (hn : narrow ty v = v) (hfit : fits ty v = true) (hl : k < fs.length) (hw : ws.set q0 (a, .inr (ci, fs.set k v)) = ws')
    (hdg : decode cc pc = .ok (.putfield index, 3)) (kk : ∀ (H1 : Heap) (locs1 : List Loc), va_P D cl ws' H1 → va_D A ws' → va_S A H0 H1 locs1 → W p l e R s m args below meth c H1 locs1 cells slots Q (F0 m (pc + 3) ls rest)) : W p l e R s m args below meth c H locs cells slots Q (F0 m pc ls (v :: .ref a :: rest)) := by
  subst hw
  exact va_putN hexec hb hts hin ty0 hty hnm hown hK hP hD hS0 q0 he hc k hk hlink (fun _ h => h) hfin hd hn hfit hl hdg kk
/-- what comes back from a call that writes -/
theorem cWi0 {post : Int32 → Prop} {av : Array Value} (hr : va_Run p l e R s m args below meth c H locs cells slots 0 0 (F0 m pc ls st0) rest (va_Qi (fun x (_ : Unit) => post x) (fun _ t => va_P D cl w1 t.heap) (AD wc) av) (AD wc)) (hP : va_P D cl ws H) (hD : va_D A ws) (hS : va_S A H0 H locs) (isC : List Nat) (hC : isC.map (fun i => ws[i]?) = wc.map some) (pl : List (Nat ⊕ Nat)) (hw : pl.map (plv ws w1) = ws'.map some) (hdis : pl.all (plk isC) = true) (hadr : ws'.map Prod.fst = ws.map Prod.fst)
    (kk : ∀ (r : Int32) (H1 : Heap) (locs1 : List Loc), post r → va_P D cl ws' H1 → va_D A ws' → va_S A H0 H1 locs1 → W p l e R s m args below meth c H1 locs1 cells slots Q (F0 m (pc + 3) ls (.int r :: rest))) : W p l e R s m args below meth c H locs cells slots Q (F0 m pc ls st0) := by
  have hF := AD.sub hD isC hC
  refine va_calli hr hS (fun q _ h => hF q h) hF (fun r u t H1 locs1 ht hvm hp hB hz hk hS1 => ?_)
  rw [ht] at hB
  exact kk r H1 locs1 hp (jn hP hD isC hC hk hB pl hw hdis) (hD.adr hadr) hS1
theorem cWv {av : Array Value} (hr : va_Run p l e R s m args below meth c H locs cells slots 0 0 (F0 m pc ls st0) rest (va_Qv (fun (_ : Unit) => True) (fun _ t => va_P D cl w1 t.heap) (AD wc) av) (AD wc)) (hP : va_P D cl ws H) (hD : va_D A ws) (hS : va_S A H0 H locs) (isC : List Nat) (hC : isC.map (fun i => ws[i]?) = wc.map some) (pl : List (Nat ⊕ Nat)) (hw : pl.map (plv ws w1) = ws'.map some) (hdis : pl.all (plk isC) = true) (hadr : ws'.map Prod.fst = ws.map Prod.fst)
    (kk : ∀ (H1 : Heap) (locs1 : List Loc), va_P D cl ws' H1 → va_D A ws' → va_S A H0 H1 locs1 → W p l e R s m args below meth c H1 locs1 cells slots Q (F0 m (pc + 3) ls rest)) : W p l e R s m args below meth c H locs cells slots Q (F0 m pc ls st0) := by
  have hF := AD.sub hD isC hC
  refine va_callv hr hS (fun q _ h => hF q h) hF (fun u t H1 locs1 ht hvm hp hB hz hk hS1 => ?_)
  rw [ht] at hB
  exact kk H1 locs1 (jn hP hD isC hC hk hB pl hw hdis) (hD.adr hadr) hS1
theorem cWl0 {post : Int64 → Prop} {av : Array Value} (hr : va_Run p l e R s m args below meth c H locs cells slots 0 0 (F0 m pc ls st0) rest (va_Ql (fun x (_ : Unit) => post x) (fun _ t => va_P D cl w1 t.heap) (AD wc) av) (AD wc)) (hP : va_P D cl ws H) (hD : va_D A ws) (hS : va_S A H0 H locs) (isC : List Nat) (hC : isC.map (fun i => ws[i]?) = wc.map some) (pl : List (Nat ⊕ Nat)) (hw : pl.map (plv ws w1) = ws'.map some) (hdis : pl.all (plk isC) = true) (hadr : ws'.map Prod.fst = ws.map Prod.fst)
    (kk : ∀ (r : Int64) (H1 : Heap) (locs1 : List Loc), post r → va_P D cl ws' H1 → va_D A ws' → va_S A H0 H1 locs1 → W p l e R s m args below meth c H1 locs1 cells slots Q (F0 m (pc + 3) ls (.long r :: rest))) : W p l e R s m args below meth c H locs cells slots Q (F0 m pc ls st0) := by
  have hF := AD.sub hD isC hC
  refine va_calll hr hS (fun q _ h => hF q h) hF (fun r u t H1 locs1 ht hvm hp hB hz hk hS1 => ?_)
  rw [ht] at hB
  exact kk r H1 locs1 hp (jn hP hD isC hC hk hB pl hw hdis) (hD.adr hadr) hS1
/-- a method whose world is all that the caller has -/
theorem cAi0 {post : Int32 → Prop} {av : Array Value} (hr : va_Run p l e R s m args below meth c H locs cells slots 0 0 (F0 m pc ls st0) rest (va_Qi (fun x (_ : Unit) => post x) (fun _ t => va_P D cl ws' t.heap) (AD ws) av) (AD ws)) (hD : va_D A ws) (hS : va_S A H0 H locs) (hadr : ws'.map Prod.fst = ws.map Prod.fst)
    (kk : ∀ (r : Int32) (H1 : Heap) (locs1 : List Loc), post r → va_P D cl ws' H1 → va_D A ws' → va_S A H0 H1 locs1 → W p l e R s m args below meth c H1 locs1 cells slots Q (F0 m (pc + 3) ls (.int r :: rest))) : W p l e R s m args below meth c H locs cells slots Q (F0 m pc ls st0) := by
  have hF : ∀ q, AD ws q → A q := fun q h => by
    obtain ⟨q2, hq2, e2⟩ := List.mem_map.mp h
    obtain ⟨j, hj⟩ := List.getElem?_of_mem hq2
    rw [← e2]
    exact hD.2 j q2 hj
  refine va_calli hr hS (fun q _ h => hF q h) hF (fun r u t H1 locs1 ht hvm hp hB hz hk hS1 => ?_)
  rw [ht] at hB
  exact kk r H1 locs1 hp hB (hD.adr hadr) hS1
theorem cAv {av : Array Value} (hr : va_Run p l e R s m args below meth c H locs cells slots 0 0 (F0 m pc ls st0) rest (va_Qv (fun (_ : Unit) => True) (fun _ t => va_P D cl ws' t.heap) (AD ws) av) (AD ws)) (hD : va_D A ws) (hS : va_S A H0 H locs) (hadr : ws'.map Prod.fst = ws.map Prod.fst)
    (kk : ∀ (H1 : Heap) (locs1 : List Loc), va_P D cl ws' H1 → va_D A ws' → va_S A H0 H1 locs1 → W p l e R s m args below meth c H1 locs1 cells slots Q (F0 m (pc + 3) ls rest)) : W p l e R s m args below meth c H locs cells slots Q (F0 m pc ls st0) := by
  have hF : ∀ q, AD ws q → A q := fun q h => by
    obtain ⟨q2, hq2, e2⟩ := List.mem_map.mp h
    obtain ⟨j, hj⟩ := List.getElem?_of_mem hq2
    rw [← e2]
    exact hD.2 j q2 hj
  refine va_callv hr hS (fun q _ h => hF q h) hF (fun u t H1 locs1 ht hvm hp hB hz hk hS1 => ?_)
  rw [ht] at hB
  exact kk H1 locs1 hB (hD.adr hadr) hS1
theorem cAl0 {post : Int64 → Prop} {av : Array Value} (hr : va_Run p l e R s m args below meth c H locs cells slots 0 0 (F0 m pc ls st0) rest (va_Ql (fun x (_ : Unit) => post x) (fun _ t => va_P D cl ws' t.heap) (AD ws) av) (AD ws)) (hD : va_D A ws) (hS : va_S A H0 H locs) (hadr : ws'.map Prod.fst = ws.map Prod.fst)
    (kk : ∀ (r : Int64) (H1 : Heap) (locs1 : List Loc), post r → va_P D cl ws' H1 → va_D A ws' → va_S A H0 H1 locs1 → W p l e R s m args below meth c H1 locs1 cells slots Q (F0 m (pc + 3) ls (.long r :: rest))) : W p l e R s m args below meth c H locs cells slots Q (F0 m pc ls st0) := by
  have hF : ∀ q, AD ws q → A q := fun q h => by
    obtain ⟨q2, hq2, e2⟩ := List.mem_map.mp h
    obtain ⟨j, hj⟩ := List.getElem?_of_mem hq2
    rw [← e2]
    exact hD.2 j q2 hj
  refine va_calll hr hS (fun q _ h => hF q h) hF (fun r u t H1 locs1 ht hvm hp hB hz hk hS1 => ?_)
  rw [ht] at hB
  exact kk r H1 locs1 hp hB (hD.adr hadr) hS1
theorem cRe {r : Int32} {av : Array Value} (hr : va_Run p l e R s m args below meth c H locs cells slots 0 0 (F0 m pc ls st0) rest (vp_Si (fun x => x = r) av) (fun _ => False)) (kk : W p l e R s m args below meth c H locs cells slots Q (F0 m (pc + 3) ls (.int r :: rest))) : W p l e R s m args below meth c H locs cells slots Q (F0 m pc ls st0) := cRi0 hr (fun x h => by rw [h]; exact kk)
theorem cRb {r : Int32} {av : Array Value} (hr : va_Run p l e R s m args below meth c H locs cells slots 0 0 (F0 m pc ls st0) rest (vp_Si (fun x => x = r ∧ (x = 0 ∨ x = 1)) av) (fun _ => False)) (kk : r = 0 ∨ r = 1 → W p l e R s m args below meth c H locs cells slots Q (F0 m (pc + 3) ls (.int r :: rest))) : W p l e R s m args below meth c H locs cells slots Q (F0 m pc ls st0) := cRi0 hr (fun x h => by obtain ⟨rfl, h2⟩ := h; exact kk h2)
theorem cRl {r : Int64} {av : Array Value} (hr : va_Run p l e R s m args below meth c H locs cells slots 0 0 (F0 m pc ls st0) rest (vp_Sl (fun x => x = r) av) (fun _ => False)) (kk : W p l e R s m args below meth c H locs cells slots Q (F0 m (pc + 3) ls (.long r :: rest))) : W p l e R s m args below meth c H locs cells slots Q (F0 m pc ls st0) := cRl0 hr (fun x h => by rw [h]; exact kk)
theorem cWe {r : Int32} {av : Array Value} (hr : va_Run p l e R s m args below meth c H locs cells slots 0 0 (F0 m pc ls st0) rest (va_Qi (fun x (_ : Unit) => x = r) (fun _ t => va_P D cl w1 t.heap) (AD wc) av) (AD wc)) (hP : va_P D cl ws H) (hD : va_D A ws) (hS : va_S A H0 H locs) (isC : List Nat) (hC : isC.map (fun i => ws[i]?) = wc.map some) (pl : List (Nat ⊕ Nat)) (hw : pl.map (plv ws w1) = ws'.map some) (hdis : pl.all (plk isC) = true) (hadr : ws'.map Prod.fst = ws.map Prod.fst) (kk : ∀ (H1 : Heap) (locs1 : List Loc), va_P D cl ws' H1 → va_D A ws' → va_S A H0 H1 locs1 → W p l e R s m args below meth c H1 locs1 cells slots Q (F0 m (pc + 3) ls (.int r :: rest))) : W p l e R s m args below meth c H locs cells slots Q (F0 m pc ls st0) := cWi0 (post := fun x => x = r) hr hP hD hS isC hC pl hw hdis hadr (fun x H1 l1 h a1 a2 a3 => by rw [h]; exact kk H1 l1 a1 a2 a3)
theorem cAe {r : Int32} {av : Array Value} (hr : va_Run p l e R s m args below meth c H locs cells slots 0 0 (F0 m pc ls st0) rest (va_Qi (fun x (_ : Unit) => x = r) (fun _ t => va_P D cl ws' t.heap) (AD ws) av) (AD ws)) (hD : va_D A ws) (hS : va_S A H0 H locs) (hadr : ws'.map Prod.fst = ws.map Prod.fst) (kk : ∀ (H1 : Heap) (locs1 : List Loc), va_P D cl ws' H1 → va_D A ws' → va_S A H0 H1 locs1 → W p l e R s m args below meth c H1 locs1 cells slots Q (F0 m (pc + 3) ls (.int r :: rest))) : W p l e R s m args below meth c H locs cells slots Q (F0 m pc ls st0) := cAi0 (post := fun x => x = r) hr hD hS hadr (fun x H1 l1 h a1 a2 a3 => by rw [h]; exact kk H1 l1 a1 a2 a3)
theorem cWb {r : Int32} {av : Array Value} (hr : va_Run p l e R s m args below meth c H locs cells slots 0 0 (F0 m pc ls st0) rest (va_Qi (fun x (_ : Unit) => x = r ∧ (x = 0 ∨ x = 1)) (fun _ t => va_P D cl w1 t.heap) (AD wc) av) (AD wc)) (hP : va_P D cl ws H) (hD : va_D A ws) (hS : va_S A H0 H locs) (isC : List Nat) (hC : isC.map (fun i => ws[i]?) = wc.map some) (pl : List (Nat ⊕ Nat)) (hw : pl.map (plv ws w1) = ws'.map some) (hdis : pl.all (plk isC) = true) (hadr : ws'.map Prod.fst = ws.map Prod.fst) (kk : r = 0 ∨ r = 1 → ∀ (H1 : Heap) (locs1 : List Loc), va_P D cl ws' H1 → va_D A ws' → va_S A H0 H1 locs1 → W p l e R s m args below meth c H1 locs1 cells slots Q (F0 m (pc + 3) ls (.int r :: rest))) : W p l e R s m args below meth c H locs cells slots Q (F0 m pc ls st0) := cWi0 (post := fun x => x = r ∧ (x = 0 ∨ x = 1)) hr hP hD hS isC hC pl hw hdis hadr (fun x H1 l1 h a1 a2 a3 => by obtain ⟨rfl, h2⟩ := h; exact kk h2 H1 l1 a1 a2 a3)
theorem cAb {r : Int32} {av : Array Value} (hr : va_Run p l e R s m args below meth c H locs cells slots 0 0 (F0 m pc ls st0) rest (va_Qi (fun x (_ : Unit) => x = r ∧ (x = 0 ∨ x = 1)) (fun _ t => va_P D cl ws' t.heap) (AD ws) av) (AD ws)) (hD : va_D A ws) (hS : va_S A H0 H locs) (hadr : ws'.map Prod.fst = ws.map Prod.fst) (kk : r = 0 ∨ r = 1 → ∀ (H1 : Heap) (locs1 : List Loc), va_P D cl ws' H1 → va_D A ws' → va_S A H0 H1 locs1 → W p l e R s m args below meth c H1 locs1 cells slots Q (F0 m (pc + 3) ls (.int r :: rest))) : W p l e R s m args below meth c H locs cells slots Q (F0 m pc ls st0) := cAi0 (post := fun x => x = r ∧ (x = 0 ∨ x = 1)) hr hD hS hadr (fun x H1 l1 h a1 a2 a3 => by obtain ⟨rfl, h2⟩ := h; exact kk h2 H1 l1 a1 a2 a3)
theorem cWl {r : Int64} {av : Array Value} (hr : va_Run p l e R s m args below meth c H locs cells slots 0 0 (F0 m pc ls st0) rest (va_Ql (fun x (_ : Unit) => x = r) (fun _ t => va_P D cl w1 t.heap) (AD wc) av) (AD wc)) (hP : va_P D cl ws H) (hD : va_D A ws) (hS : va_S A H0 H locs) (isC : List Nat) (hC : isC.map (fun i => ws[i]?) = wc.map some) (pl : List (Nat ⊕ Nat)) (hw : pl.map (plv ws w1) = ws'.map some) (hdis : pl.all (plk isC) = true) (hadr : ws'.map Prod.fst = ws.map Prod.fst) (kk : ∀ (H1 : Heap) (locs1 : List Loc), va_P D cl ws' H1 → va_D A ws' → va_S A H0 H1 locs1 → W p l e R s m args below meth c H1 locs1 cells slots Q (F0 m (pc + 3) ls (.long r :: rest))) : W p l e R s m args below meth c H locs cells slots Q (F0 m pc ls st0) := cWl0 (post := fun x => x = r) hr hP hD hS isC hC pl hw hdis hadr (fun x H1 l1 h a1 a2 a3 => by rw [h]; exact kk H1 l1 a1 a2 a3)
theorem cAl {r : Int64} {av : Array Value} (hr : va_Run p l e R s m args below meth c H locs cells slots 0 0 (F0 m pc ls st0) rest (va_Ql (fun x (_ : Unit) => x = r) (fun _ t => va_P D cl ws' t.heap) (AD ws) av) (AD ws)) (hD : va_D A ws) (hS : va_S A H0 H locs) (hadr : ws'.map Prod.fst = ws.map Prod.fst) (kk : ∀ (H1 : Heap) (locs1 : List Loc), va_P D cl ws' H1 → va_D A ws' → va_S A H0 H1 locs1 → W p l e R s m args below meth c H1 locs1 cells slots Q (F0 m (pc + 3) ls (.long r :: rest))) : W p l e R s m args below meth c H locs cells slots Q (F0 m pc ls st0) := cAl0 (post := fun x => x = r) hr hD hS hadr (fun x H1 l1 h a1 a2 a3 => by rw [h]; exact kk H1 l1 a1 a2 a3)
theorem rR (hexec : p.tables.exec = Jvm.exec) (hb : c.code = cc) (hK : va_K D cl tys s) (hP : va_P D cl ws H) (q0 t0 : Nat) {cA : ClassId} {C : String} {n k : Nat} {f : Nat → Option Nat} (ha : ws[q0]? = some (a, .inl (cA, n, .inr (.inr (.inr (.inr f)))))) (ht : tys[t0]? = some (cA, .object C)) {i : Int32} (hr : ix n i = some k) (hv : f k = some b) (hdg : decode cc pc = .ok (.aaload, 1))
    (kk : W p l e R s m args below meth c H locs cells slots Q (F0 m (pc + 1) ls (.ref b :: rest))) : W p l e R s m args below meth c H locs cells slots Q (F0 m pc ls (.int i :: .ref a :: rest)) := by
  obtain ⟨h1, h2, -⟩ := ix_some hr
  subst h2
  refine va_aldq hexec hb hK hP q0 t0 ha ht h1 hdg ?_
  rw [hv]
  exact kk
theorem wC (hexec : p.tables.exec = Jvm.exec) (hb : c.code = cc) (hml : c.maxLocals = ls.size) (hown : s.vm.findClass own = some m.cls) (hlink : (Cond.methodLink own index arraycopyName).before args s = true) (hnat : (Cond.native arraycopyName).before args s = true) (hstat : (Cond.static arraycopyName).before args s = true) (hini : (Cond.initialized "java/lang/System").before args s = true) (hK : va_K D cl tys s) (hP : va_P D cl ws H) (hD : va_D A ws) (hS : va_S A H0 H locs) (q0 q1 t0 : Nat) {a0 : Nat} {c0 : ClassId} {n0 n1 : Nat} {f g r : Nat → Int32} (ha0 : ws[q0]? = some (a0, .inl (c0, n0, .inl f))) (ha1 : ws[q1]? = some (a, .inl (c0, n1, .inl g))) (ht0 : tys[t0]? = some (c0, .int)) {sp dp n : Int32} (hr : cpy n0 n1 f g sp dp n = some r) (hw : ws.set q1 (a, .inl (c0, n1, .inl r)) = ws')
    (hframes : 1 ≤ R.frames) (hlocals : (rest.map fun v => v.category).sum + (nativeFrameWords "java/lang/System" "arraycopy" 5 + 11) ≤ R.locals) (hdg : decode cc pc = .ok (.invokestatic index, 3))
    (kk : ∀ (H1 : Heap) (locs1 : List Loc), va_P D cl ws' H1 → va_D A ws' → va_S A H0 H1 locs1 → W p l e R s m args below meth c H1 locs1 cells slots Q (F0 m (pc + 3) ls rest)) : W p l e R s m args below meth c H locs cells slots Q (F0 m pc ls (.int n :: .int dp :: .ref a :: .int sp :: .ref a0 :: rest)) := by
  obtain ⟨h1, h2, h3, h4, h5, h6⟩ := cpy_some hr
  subst h6
  subst hw
  exact va_copyi hexec hb hml hown hlink hnat hstat hini hK hP hD hS q0 q1 t0 t0 ha0 ha1 ht0 ht0 rfl h1 h2 h3 h4 h5 (fun _ _ => rfl) hframes hlocals hdg kk
end KT
/-- what a method's walk begins with -/
theorem mR (l : Launch) (D : va_G) (cI cS : ClassId) {y : MethodName} {cc : ByteArray} {maxL : Nat} {ret : Option FieldType} {rm : Room} {av : List Value} {w : va_W} {Qc : Array Value → State → Outcome → State → Prop} (hy : plainName y.cls = true) (hn : (lg_sl av).length ≤ maxL)
    (body : ∀ (p : Program) (e : Env) (s : State) (m : MethodId) (below : List Frame) (meth : Method) (c : Code) (ls : Array Slot), p.tables.exec = Jvm.exec → c.code = cc → meth.sig.returnType = ret → c.maxLocals = maxL → s.vm.findClass y.cls = some m.cls → (∀ v ∈ Cond.code y cc maxL ret :: ALL, v.before av.toArray s = true) → meth.locks = false → va_P D vwCl w s.heap → KK D cI cS s → lv_has ls maxL (lv_args 0 av) → W p l e rm s m av.toArray below meth c s.heap [] 0 0 (MQ below Qc av.toArray s 0 0 (fun _ => False)) (F0 m 0 ls [])) : Met l y (Cond.code y cc maxL ret :: ALL) rm (PreR D cI cS av w) Qc 0 0 (fun _ => False) := by
  refine Met.ofW (cc := cc) (maxL := maxL) (ret := ret) hy rfl ?_
  intro p e s m args below meth c s₁ B hml hv
  obtain ⟨rfl, hP, hK⟩ := hv
  have hts := atoms_spec (ws := Cond.code y cc maxL ret :: ALL) B.pre
  rw [lg_entry_eq]
  exact body p e s m below meth c _ B.exec B.bytes B.returns hml (findClass_of_methodNamed B.named) hts B.notSynchronized hP hK (lv_entry av hn)
theorem mW (l : Launch) (D : va_G) (cI cS : ClassId) {y : MethodName} {cc : ByteArray} {maxL : Nat} {ret : Option FieldType} {rm : Room} {av : List Value} {w : va_W} {Qc : Array Value → State → Outcome → State → Prop} (hy : plainName y.cls = true) (hn : (lg_sl av).length ≤ maxL)
    (body : ∀ (p : Program) (e : Env) (s : State) (m : MethodId) (below : List Frame) (meth : Method) (c : Code) (ls : Array Slot), p.tables.exec = Jvm.exec → c.code = cc → meth.sig.returnType = ret → c.maxLocals = maxL → s.vm.findClass y.cls = some m.cls → (∀ v ∈ Cond.code y cc maxL ret :: ALL, v.before av.toArray s = true) → meth.locks = false → va_P D vwCl w s.heap → KK D cI cS s → va_D (AD w) w → va_S (AD w) s.heap s.heap [] → lv_has ls maxL (lv_args 0 av) → W p l e rm s m av.toArray below meth c s.heap [] 0 0 (MQ below Qc av.toArray s 0 0 (AD w)) (F0 m 0 ls [])) : Met l y (Cond.code y cc maxL ret :: ALL) rm (PreW D cI cS av w) Qc 0 0 (AD w) := by
  refine Met.ofW (cc := cc) (maxL := maxL) (ret := ret) hy rfl ?_
  intro p e s m args below meth c s₁ B hml hv
  obtain ⟨rfl, hP, hK, hD⟩ := hv
  have hts := atoms_spec (ws := Cond.code y cc maxL ret :: ALL) B.pre
  rw [lg_entry_eq]
  exact body p e s m below meth c _ B.exec B.bytes B.returns hml (findClass_of_methodNamed B.named) hts B.notSynchronized hP hK (AD.self hD) va_S.rf (lv_entry av hn)
def pA (cI cS : ClassId) (a : Nat → Nat) (t : ST) : va_W := [(a 0, .inl (cI, 60, .inl (t 0)))]
def pB (cI cS : ClassId) (a : Nat → Nat) (t : ST) : va_W := [(a 0, .inr (0, [.int (t 0 0), .int (t 0 1), .int (t 0 2), .ref (a 1), .ref (a 2), .ref (a 3)])), (a 1, .inl (cI, 6, .inl (t 1))), (a 2, .inl (cI, 6, .inl (t 2))), (a 3, .inl (cI, 6, .inl (t 3)))]
def pL (cI cS : ClassId) (a : Nat → Nat) (t : ST) : va_W := [(a 0, .inr (1, [.int (t 0 0), .ref (a 1)])), (a 1, .inl (cI, 576, .inl (t 1)))]
def pD (cI cS : ClassId) (a : Nat → Nat) (t : ST) : va_W := [(a 0, .inr (2, [.int (t 0 0), .ref (a 1), .ref (a 2), .ref (a 3)])), (a 1, .inl (cI, 8, .inl (t 1))), (a 2, .inl (cI, 8, .inl (t 2))), (a 3, .inl (cI, 8, .inl (t 3)))]
def pS (cI cS : ClassId) (a : Nat → Nat) (t : ST) : va_W := [(a 0, .inr (3, [.int (t 0 0), .int (t 0 1), .int (t 0 2), .ref (a 1)])), (a 1, .inl (cI, 60, .inl (t 1)))]
def pY (cI cS : ClassId) (a : Nat → Nat) (t : ST) : va_W := [(a 0, .inr (4, [.ref (a 1), .int (t 0 0), .int (t 0 1), .int (t 0 2)])), (a 1, .inr (0, [.int (t 1 0), .int (t 1 1), .int (t 1 2), .ref (a 2), .ref (a 3), .ref (a 4)])), (a 2, .inl (cI, 6, .inl (t 2))), (a 3, .inl (cI, 6, .inl (t 3))), (a 4, .inl (cI, 6, .inl (t 4)))]
def pC (cI cS : ClassId) (a : Nat → Nat) (t : ST) : va_W := [(a 0, .inr (5, [.ref (a 1), .ref (a 3), .ref (a 7), .ref (a 11), .ref (a 16), .ref (a 28), .int (t 0 0), .int (t 0 1)])), (a 1, .inr (1, [.int (t 1 0), .ref (a 2)])), (a 2, .inl (cI, 576, .inl (t 2))), (a 3, .inr (0, [.int (t 3 0), .int (t 3 1), .int (t 3 2), .ref (a 4), .ref (a 5), .ref (a 6)])), (a 4, .inl (cI, 6, .inl (t 4))), (a 5, .inl (cI, 6, .inl (t 5))), (a 6, .inl (cI, 6, .inl (t 6))), (a 7, .inr (0, [.int (t 7 0), .int (t 7 1), .int (t 7 2), .ref (a 8), .ref (a 9), .ref (a 10)])), (a 8, .inl (cI, 6, .inl (t 8))), (a 9, .inl (cI, 6, .inl (t 9))), (a 10, .inl (cI, 6, .inl (t 10))), (a 11, .inr (4, [.ref (a 12), .int (t 11 0), .int (t 11 1), .int (t 11 2)])), (a 12, .inr (0, [.int (t 12 0), .int (t 12 1), .int (t 12 2), .ref (a 13), .ref (a 14), .ref (a 15)])), (a 13, .inl (cI, 6, .inl (t 13))), (a 14, .inl (cI, 6, .inl (t 14))), (a 15, .inl (cI, 6, .inl (t 15))), (a 16, .inr (2, [.int (t 16 0), .ref (a 17), .ref (a 18), .ref (a 19)])), (a 17, .inl (cI, 8, .inl (t 17))), (a 18, .inl (cI, 8, .inl (t 18))), (a 19, .inl (cI, 8, .inl (t 19))), (a 20, .inr (3, [.int (t 20 0), .int (t 20 1), .int (t 20 2), .ref (a 21)])), (a 21, .inl (cI, 60, .inl (t 21))), (a 22, .inr (3, [.int (t 22 0), .int (t 22 1), .int (t 22 2), .ref (a 23)])), (a 23, .inl (cI, 60, .inl (t 23))), (a 24, .inr (3, [.int (t 24 0), .int (t 24 1), .int (t 24 2), .ref (a 25)])), (a 25, .inl (cI, 60, .inl (t 25))), (a 26, .inr (3, [.int (t 26 0), .int (t 26 1), .int (t 26 2), .ref (a 27)])), (a 27, .inl (cI, 60, .inl (t 27))), (a 28, .inl (cS, 4, .inr (.inr (.inr (.inr (fun k => some (a (20 + 2 * k))))))))]
def pM (cI cS : ClassId) (a : Nat → Nat) (t : ST) : va_W := [(a 0, .inr (6, [.int (t 0 0), .int (t 0 1), .ref (a 1), .ref (a 2), .ref (a 3), .int (t 0 2), .int (t 0 3), .int (t 0 4), .int (t 0 5), .ref (a 4), .ref (a 5), .ref (a 6), .ref (a 7), .int (t 0 6), .int (t 0 7), .int (t 0 8), .ref (a 8), .ref (a 9), .int (t 0 9), .int (t 0 10), .int (t 0 11), .int (t 0 12), .int (t 0 13), .ref (a 10), .ref (a 11), .ref (a 12), .ref (a 13), .ref (a 14), .ref (a 15)])), (a 1, .inl (cI, 4, .inl (t 1))), (a 2, .inl (cI, 4, .inl (t 2))), (a 3, .inl (cI, 240, .inl (t 3))), (a 4, .inl (cI, 64, .inl (t 4))), (a 5, .inl (cI, 6, .inl (t 5))), (a 6, .inl (cI, 6, .inl (t 6))), (a 7, .inl (cI, 6, .inl (t 7))), (a 8, .inl (cI, 18, .inl (t 8))), (a 9, .inl (cI, 6, .inl (t 9))), (a 10, .inl (cI, 8, .inl (t 10))), (a 11, .inl (cI, 8, .inl (t 11))), (a 12, .inl (cI, 8, .inl (t 12))), (a 13, .inl (cI, 64, .inl (t 13))), (a 14, .inl (cI, 64, .inl (t 14))), (a 15, .inl (cI, 64, .inl (t 15)))]
end
section
theorem nf_RX6_88 : (RX6, 88, "MarbleGarden$Blocks", "count", "I", "MarbleGarden") ∈ nestF := List.mem_of_getElem? (i := 0) rfl
theorem nf_RX6_95 : (RX6, 95, "MarbleGarden$Blocks", "kindOf", "[I", "MarbleGarden") ∈ nestF := List.mem_of_getElem? (i := 1) rfl
theorem nf_RX6_99 : (RX6, 99, "MarbleGarden$Blocks", "shapeOf", "[I", "MarbleGarden") ∈ nestF := List.mem_of_getElem? (i := 2) rfl
theorem nf_RX6_102 : (RX6, 102, "MarbleGarden$Blocks", "paceOf", "[I", "MarbleGarden") ∈ nestF := List.mem_of_getElem? (i := 3) rfl
theorem nf_RX6_127 : (RX6, 127, "MarbleGarden$Law", "number", "I", "MarbleGarden") ∈ nestF := List.mem_of_getElem? (i := 4) rfl
theorem nf_RX6_144 : (RX6, 144, "MarbleGarden$Blocks", "lookedAt", "I", "MarbleGarden") ∈ nestF := List.mem_of_getElem? (i := 5) rfl
theorem nf_RX6_192 : (RX6, 192, "MarbleGarden$Readings", "count", "I", "MarbleGarden") ∈ nestF := List.mem_of_getElem? (i := 6) rfl
theorem nf_RX6_206 : (RX6, 206, "MarbleGarden$Sheet", "hasRow", "Z", "MarbleGarden") ∈ nestF := List.mem_of_getElem? (i := 7) rfl
theorem nf_RX6_220 : (RX6, 220, "MarbleGarden$Sheet", "lane", "I", "MarbleGarden") ∈ nestF := List.mem_of_getElem? (i := 8) rfl
theorem nf_RX6_223 : (RX6, 223, "MarbleGarden$Sheet", "cells", "[I", "MarbleGarden") ∈ nestF := List.mem_of_getElem? (i := 9) rfl
theorem nf_RX6_247 : (RX6, 247, "MarbleGarden$Blocks", "day", "I", "MarbleGarden") ∈ nestF := List.mem_of_getElem? (i := 10) rfl
theorem nf_RX2_31 : (RX2, 31, "MarbleGarden$Blocks", "shapeOf", "[I", "MarbleGarden") ∈ nestF := List.mem_of_getElem? (i := 11) rfl
theorem nf_RX5_38 : (RX5, 38, "MarbleGarden$Blocks", "day", "I", "MarbleGarden") ∈ nestF := List.mem_of_getElem? (i := 12) rfl
theorem nf_RX5_77 : (RX5, 77, "MarbleGarden$Blocks", "lookedAt", "I", "MarbleGarden") ∈ nestF := List.mem_of_getElem? (i := 13) rfl
theorem nf_RX5_84 : (RX5, 84, "MarbleGarden$Blocks", "shapeOf", "[I", "MarbleGarden") ∈ nestF := List.mem_of_getElem? (i := 14) rfl
theorem nm_RX6_11 : (RX6, 11, yX1_init, "MarbleGarden") ∈ nestM := List.mem_of_getElem? (i := 0) rfl
theorem nm_RX6_20 : (RX6, 20, yX0_init, "MarbleGarden") ∈ nestM := List.mem_of_getElem? (i := 1) rfl
theorem nm_RX6_30 : (RX6, 30, yX5_init, "MarbleGarden") ∈ nestM := List.mem_of_getElem? (i := 2) rfl
theorem nm_RX6_37 : (RX6, 37, yX2_init, "MarbleGarden") ∈ nestM := List.mem_of_getElem? (i := 3) rfl
theorem nm_RX6_48 : (RX6, 48, yX3_init, "MarbleGarden") ∈ nestM := List.mem_of_getElem? (i := 4) rfl
theorem nm_RX1_30 : (RX1, 30, yX6_isShape, "MarbleGarden") ∈ nestM := List.mem_of_getElem? (i := 5) rfl
theorem nm_RX5_11 : (RX5, 11, yX0_init, "MarbleGarden") ∈ nestM := List.mem_of_getElem? (i := 6) rfl
theorem inAX0 : ∀ w ∈ u_ws RX0 TX0 6, w ∈ ALL := all_ins [97, 99, 101, 103, 105, 107] (by decide +kernel) (by decide +kernel)
theorem inAX1 : ∀ w ∈ u_ws RX1 TX1 2, w ∈ ALL := all_ins [69, 71] (by decide +kernel) (by decide +kernel)
theorem inAX2 : ∀ w ∈ u_ws RX2 TX2 4, w ∈ ALL := all_ins [142, 144, 146, 148] (by decide +kernel) (by decide +kernel)
theorem inAX3 : ∀ w ∈ u_ws RX3 TX3 4, w ∈ ALL := all_ins [165, 167, 169, 171] (by decide +kernel) (by decide +kernel)
theorem inAX5 : ∀ w ∈ u_ws RX5 TX5 4, w ∈ ALL := all_ins [122, 124, 126, 128] (by decide +kernel) (by decide +kernel)
theorem inAX6 : ∀ w ∈ u_ws RX6 TX6 8, w ∈ ALL := all_ins [182, 184, 186, 188, 190, 192, 194, 196] (by decide +kernel) (by decide +kernel)
theorem inAX7 : ∀ w ∈ u_ws RX7 TX7 29, w ∈ ALL := all_ins [631, 633, 635, 637, 639, 641, 643, 645, 647, 649, 651, 653, 655, 657, 659, 661, 663, 665, 667, 669, 671, 673, 675, 677, 679, 681, 683, 685, 687] (by decide +kernel) (by decide +kernel)
theorem fl_RX6_12 : Cond.fieldLink RX6 12 "MarbleGarden" "law" "LMarbleGarden$Law;" ∈ ALL := all_in 174 (by decide +kernel) (by decide +kernel)
theorem fl_RX6_21 : Cond.fieldLink RX6 21 "MarbleGarden" "blocks" "LMarbleGarden$Blocks;" ∈ ALL := all_in 175 (by decide +kernel) (by decide +kernel)
theorem fl_RX6_25 : Cond.fieldLink RX6 25 "MarbleGarden" "supposed" "LMarbleGarden$Blocks;" ∈ ALL := all_in 176 (by decide +kernel) (by decide +kernel)
theorem fl_RX6_31 : Cond.fieldLink RX6 31 "MarbleGarden" "told" "LMarbleGarden$Years;" ∈ ALL := all_in 177 (by decide +kernel) (by decide +kernel)
theorem fl_RX6_38 : Cond.fieldLink RX6 38 "MarbleGarden" "readings" "LMarbleGarden$Readings;" ∈ ALL := all_in 178 (by decide +kernel) (by decide +kernel)
theorem fl_RX6_44 : Cond.fieldLink RX6 44 "MarbleGarden" "sheets" "[LMarbleGarden$Sheet;" ∈ ALL := all_in 179 (by decide +kernel) (by decide +kernel)
theorem fl_RX6_217 : Cond.fieldLink RX6 217 "MarbleGarden" "latestFault" "I" ∈ ALL := all_in 181 (by decide +kernel) (by decide +kernel)
theorem fl_RX6_244 : Cond.fieldLink RX6 244 "MarbleGarden" "traced" "I" ∈ ALL := all_in 180 (by decide +kernel) (by decide +kernel)
theorem fl_RX0_9 : Cond.fieldLink RX0 9 "MarbleGarden$Blocks" "kindOf" "[I" ∈ ALL := all_in 89 (by decide +kernel) (by decide +kernel)
theorem fl_RX0_15 : Cond.fieldLink RX0 15 "MarbleGarden$Blocks" "shapeOf" "[I" ∈ ALL := all_in 91 (by decide +kernel) (by decide +kernel)
theorem fl_RX0_18 : Cond.fieldLink RX0 18 "MarbleGarden$Blocks" "paceOf" "[I" ∈ ALL := all_in 95 (by decide +kernel) (by decide +kernel)
theorem fl_RX0_21 : Cond.fieldLink RX0 21 "MarbleGarden$Blocks" "count" "I" ∈ ALL := all_in 81 (by decide +kernel) (by decide +kernel)
theorem fl_RX0_37 : Cond.fieldLink RX0 37 "MarbleGarden$Blocks" "day" "I" ∈ ALL := all_in 83 (by decide +kernel) (by decide +kernel)
theorem fl_RX0_40 : Cond.fieldLink RX0 40 "MarbleGarden$Blocks" "lookedAt" "I" ∈ ALL := all_in 86 (by decide +kernel) (by decide +kernel)
theorem fl_RX1_9 : Cond.fieldLink RX1 9 "MarbleGarden$Law" "reached" "[I" ∈ ALL := all_in 68 (by decide +kernel) (by decide +kernel)
theorem fl_RX1_15 : Cond.fieldLink RX1 15 "MarbleGarden$Law" "number" "I" ∈ ALL := all_in 66 (by decide +kernel) (by decide +kernel)
theorem fl_RX2_9 : Cond.fieldLink RX2 9 "MarbleGarden$Readings" "block" "[I" ∈ ALL := all_in 139 (by decide +kernel) (by decide +kernel)
theorem fl_RX2_15 : Cond.fieldLink RX2 15 "MarbleGarden$Readings" "ahead" "[I" ∈ ALL := all_in 140 (by decide +kernel) (by decide +kernel)
theorem fl_RX2_18 : Cond.fieldLink RX2 18 "MarbleGarden$Readings" "seen" "[I" ∈ ALL := all_in 141 (by decide +kernel) (by decide +kernel)
theorem fl_RX2_21 : Cond.fieldLink RX2 21 "MarbleGarden$Readings" "count" "I" ∈ ALL := all_in 137 (by decide +kernel) (by decide +kernel)
theorem fl_RX3_9 : Cond.fieldLink RX3 9 "MarbleGarden$Sheet" "cells" "[I" ∈ ALL := all_in 163 (by decide +kernel) (by decide +kernel)
theorem fl_RX3_15 : Cond.fieldLink RX3 15 "MarbleGarden$Sheet" "hasRow" "Z" ∈ ALL := all_in 158 (by decide +kernel) (by decide +kernel)
theorem fl_RX3_19 : Cond.fieldLink RX3 19 "MarbleGarden$Sheet" "lane" "I" ∈ ALL := all_in 160 (by decide +kernel) (by decide +kernel)
theorem fl_RX3_23 : Cond.fieldLink RX3 23 "MarbleGarden$Sheet" "length" "I" ∈ ALL := all_in 162 (by decide +kernel) (by decide +kernel)
theorem fl_RX5_12 : Cond.fieldLink RX5 12 "MarbleGarden$Years" "then" "LMarbleGarden$Blocks;" ∈ ALL := all_in 118 (by decide +kernel) (by decide +kernel)
theorem fl_RX5_42 : Cond.fieldLink RX5 42 "MarbleGarden$Years" "firstDay" "I" ∈ ALL := all_in 119 (by decide +kernel) (by decide +kernel)
theorem fl_RX5_45 : Cond.fieldLink RX5 45 "MarbleGarden$Years" "firstWrong" "I" ∈ ALL := all_in 120 (by decide +kernel) (by decide +kernel)
theorem fl_RX5_48 : Cond.fieldLink RX5 48 "MarbleGarden$Years" "daysAlike" "I" ∈ ALL := all_in 121 (by decide +kernel) (by decide +kernel)
theorem fl_RX7_9 : Cond.fieldLink RX7 9 "MarbleGardenModel" "sorts" "[I" ∈ ALL := all_in 604 (by decide +kernel) (by decide +kernel)
theorem fl_RX7_13 : Cond.fieldLink RX7 13 "MarbleGardenModel" "sheetLong" "[I" ∈ ALL := all_in 605 (by decide +kernel) (by decide +kernel)
theorem fl_RX7_16 : Cond.fieldLink RX7 16 "MarbleGardenModel" "cells" "[I" ∈ ALL := all_in 606 (by decide +kernel) (by decide +kernel)
theorem fl_RX7_19 : Cond.fieldLink RX7 19 "MarbleGardenModel" "next" "[I" ∈ ALL := all_in 611 (by decide +kernel) (by decide +kernel)
theorem fl_RX7_22 : Cond.fieldLink RX7 22 "MarbleGardenModel" "kind" "[I" ∈ ALL := all_in 612 (by decide +kernel) (by decide +kernel)
theorem fl_RX7_25 : Cond.fieldLink RX7 25 "MarbleGardenModel" "shapeOf" "[I" ∈ ALL := all_in 613 (by decide +kernel) (by decide +kernel)
theorem fl_RX7_28 : Cond.fieldLink RX7 28 "MarbleGardenModel" "pace" "[I" ∈ ALL := all_in 614 (by decide +kernel) (by decide +kernel)
theorem fl_RX7_31 : Cond.fieldLink RX7 31 "MarbleGardenModel" "read" "[I" ∈ ALL := all_in 618 (by decide +kernel) (by decide +kernel)
theorem fl_RX7_34 : Cond.fieldLink RX7 34 "MarbleGardenModel" "keptShape" "[I" ∈ ALL := all_in 619 (by decide +kernel) (by decide +kernel)
theorem fl_RX7_37 : Cond.fieldLink RX7 37 "MarbleGardenModel" "readWhich" "[I" ∈ ALL := all_in 625 (by decide +kernel) (by decide +kernel)
theorem fl_RX7_40 : Cond.fieldLink RX7 40 "MarbleGardenModel" "readDays" "[I" ∈ ALL := all_in 626 (by decide +kernel) (by decide +kernel)
theorem fl_RX7_43 : Cond.fieldLink RX7 43 "MarbleGardenModel" "readShape" "[I" ∈ ALL := all_in 627 (by decide +kernel) (by decide +kernel)
theorem fl_RX7_46 : Cond.fieldLink RX7 46 "MarbleGardenModel" "power" "[I" ∈ ALL := all_in 628 (by decide +kernel) (by decide +kernel)
theorem fl_RX7_49 : Cond.fieldLink RX7 49 "MarbleGardenModel" "far" "[I" ∈ ALL := all_in 629 (by decide +kernel) (by decide +kernel)
theorem fl_RX7_52 : Cond.fieldLink RX7 52 "MarbleGardenModel" "twice" "[I" ∈ ALL := all_in 630 (by decide +kernel) (by decide +kernel)
theorem fl_RX7_55 : Cond.fieldLink RX7 55 "MarbleGardenModel" "fault" "I" ∈ ALL := all_in 602 (by decide +kernel) (by decide +kernel)
theorem fl_RX7_65 : Cond.fieldLink RX7 65 "MarbleGardenModel" "blocks" "I" ∈ ALL := all_in 608 (by decide +kernel) (by decide +kernel)
theorem fl_RX7_68 : Cond.fieldLink RX7 68 "MarbleGardenModel" "at" "I" ∈ ALL := all_in 615 (by decide +kernel) (by decide +kernel)
theorem fl_RX7_92 : Cond.fieldLink RX7 92 "MarbleGardenModel" "readLaw" "I" ∈ ALL := all_in 616 (by decide +kernel) (by decide +kernel)
theorem fl_RX7_99 : Cond.fieldLink RX7 99 "MarbleGardenModel" "readBlocks" "I" ∈ ALL := all_in 617 (by decide +kernel) (by decide +kernel)
theorem fl_RX7_102 : Cond.fieldLink RX7 102 "MarbleGardenModel" "day" "I" ∈ ALL := all_in 609 (by decide +kernel) (by decide +kernel)
theorem fl_RX7_105 : Cond.fieldLink RX7 105 "MarbleGardenModel" "watched" "I" ∈ ALL := all_in 610 (by decide +kernel) (by decide +kernel)
theorem fl_RX7_108 : Cond.fieldLink RX7 108 "MarbleGardenModel" "readings" "I" ∈ ALL := all_in 624 (by decide +kernel) (by decide +kernel)
theorem fl_RX7_111 : Cond.fieldLink RX7 111 "MarbleGardenModel" "law" "I" ∈ ALL := all_in 607 (by decide +kernel) (by decide +kernel)
theorem fl_RX7_156 : Cond.fieldLink RX7 156 "MarbleGardenModel" "yearDays" "I" ∈ ALL := all_in 620 (by decide +kernel) (by decide +kernel)
theorem fl_RX7_159 : Cond.fieldLink RX7 159 "MarbleGardenModel" "twinDays" "I" ∈ ALL := all_in 621 (by decide +kernel) (by decide +kernel)
theorem fl_RX7_181 : Cond.fieldLink RX7 181 "MarbleGardenModel" "mustBe" "I" ∈ ALL := all_in 622 (by decide +kernel) (by decide +kernel)
theorem fl_RX7_184 : Cond.fieldLink RX7 184 "MarbleGardenModel" "mustNot" "I" ∈ ALL := all_in 623 (by decide +kernel) (by decide +kernel)
theorem fl_RX7_212 : Cond.fieldLink RX7 212 "MarbleGardenModel" "trace" "I" ∈ ALL := all_in 603 (by decide +kernel) (by decide +kernel)
theorem ml_RX6_49 : Cond.methodLink RX6 49 yX6_isSheet ∈ ALL := all_in 203 (by decide +kernel) (by decide +kernel)
theorem ml_RX6_53 : Cond.methodLink RX6 53 yX6_withoutFault ∈ ALL := all_in 206 (by decide +kernel) (by decide +kernel)
theorem ml_RX6_57 : Cond.methodLink RX6 57 yX6_isLane ∈ ALL := all_in 210 (by decide +kernel) (by decide +kernel)
theorem ml_RX6_60 : Cond.methodLink RX6 60 yX3_faultOfTaking ∈ ALL := all_in 213 (by decide +kernel) (by decide +kernel)
theorem ml_RX6_64 : Cond.methodLink RX6 64 yX6_withFault ∈ ALL := all_in 221 (by decide +kernel) (by decide +kernel)
theorem ml_RX6_67 : Cond.methodLink RX6 67 yX4_firstFault ∈ ALL := all_in 225 (by decide +kernel) (by decide +kernel)
theorem ml_RX6_73 : Cond.methodLink RX6 73 yX4_lawOf ∈ ALL := all_in 244 (by decide +kernel) (by decide +kernel)
theorem ml_RX6_77 : Cond.methodLink RX6 77 yX1_fix ∈ ALL := all_in 250 (by decide +kernel) (by decide +kernel)
theorem ml_RX6_81 : Cond.methodLink RX6 81 yX0_begin ∈ ALL := all_in 268 (by decide +kernel) (by decide +kernel)
theorem ml_RX6_85 : Cond.methodLink RX6 85 yX2_forgetAll ∈ ALL := all_in 290 (by decide +kernel) (by decide +kernel)
theorem ml_RX6_92 : Cond.methodLink RX6 92 yX0_has ∈ ALL := all_in 298 (by decide +kernel) (by decide +kernel)
theorem ml_RX6_105 : Cond.methodLink RX6 105 yX0_stepsADay ∈ ALL := all_in 302 (by decide +kernel) (by decide +kernel)
theorem ml_RX6_108 : Cond.methodLink RX6 108 yX0_isLookedAt ∈ ALL := all_in 306 (by decide +kernel) (by decide +kernel)
theorem ml_RX6_111 : Cond.methodLink RX6 111 yJ6_bitCount_0f7a4 ∈ ALL := all_in 310 (by decide +kernel) (by decide +kernel)
theorem ml_RX6_116 : Cond.methodLink RX6 116 yX6_refusalOfShape ∈ ALL := all_in 320 (by decide +kernel) (by decide +kernel)
theorem ml_RX6_119 : Cond.methodLink RX6 119 yX1_after ∈ ALL := all_in 329 (by decide +kernel) (by decide +kernel)
theorem ml_RX6_123 : Cond.methodLink RX6 123 yX6_hasGarden ∈ ALL := all_in 325 (by decide +kernel) (by decide +kernel)
theorem ml_RX6_130 : Cond.methodLink RX6 130 yX0_copyFrom ∈ ALL := all_in 342 (by decide +kernel) (by decide +kernel)
theorem ml_RX6_134 : Cond.methodLink RX6 134 yX0_goOn ∈ ALL := all_in 349 (by decide +kernel) (by decide +kernel)
theorem ml_RX6_138 : Cond.methodLink RX6 138 yX0_lookAt ∈ ALL := all_in 360 (by decide +kernel) (by decide +kernel)
theorem ml_RX6_141 : Cond.methodLink RX6 141 yX0_lookAwayFrom ∈ ALL := all_in 368 (by decide +kernel) (by decide +kernel)
theorem ml_RX6_147 : Cond.methodLink RX6 147 yX0_strikeAt ∈ ALL := all_in 376 (by decide +kernel) (by decide +kernel)
theorem ml_RX6_151 : Cond.methodLink RX6 151 yX6_canTake ∈ ALL := all_in 384 (by decide +kernel) (by decide +kernel)
theorem ml_RX6_154 : Cond.methodLink RX6 154 yX5_tells ∈ ALL := all_in 387 (by decide +kernel) (by decide +kernel)
theorem ml_RX6_157 : Cond.methodLink RX6 157 yX5_refusalOfPairs ∈ ALL := all_in 390 (by decide +kernel) (by decide +kernel)
theorem ml_RX6_161 : Cond.methodLink RX6 161 yX5_live ∈ ALL := all_in 401 (by decide +kernel) (by decide +kernel)
theorem ml_RX6_165 : Cond.methodLink RX6 165 yX5_answer ∈ ALL := all_in 428 (by decide +kernel) (by decide +kernel)
theorem ml_RX6_168 : Cond.methodLink RX6 168 yX6_isShape ∈ ALL := all_in 324 (by decide +kernel) (by decide +kernel)
theorem ml_RX6_171 : Cond.methodLink RX6 171 yX1_daysTo ∈ ALL := all_in 441 (by decide +kernel) (by decide +kernel)
theorem ml_RX6_174 : Cond.methodLink RX6 174 yX1_stepsBack ∈ ALL := all_in 453 (by decide +kernel) (by decide +kernel)
theorem ml_RX6_179 : Cond.methodLink RX6 179 yX3_at ∈ ALL := all_in 471 (by decide +kernel) (by decide +kernel)
theorem ml_RX6_182 : Cond.methodLink RX6 182 yX6_lawsBy ∈ ALL := all_in 472 (by decide +kernel) (by decide +kernel)
theorem ml_RX6_186 : Cond.methodLink RX6 186 yX1_bitOf ∈ ALL := all_in 475 (by decide +kernel) (by decide +kernel)
theorem ml_RX6_189 : Cond.methodLink RX6 189 yX2_add ∈ ALL := all_in 480 (by decide +kernel) (by decide +kernel)
theorem ml_RX6_193 : Cond.methodLink RX6 193 yX2_areSo ∈ ALL := all_in 492 (by decide +kernel) (by decide +kernel)
theorem ml_RX6_197 : Cond.methodLink RX6 197 yX1_behind ∈ ALL := all_in 514 (by decide +kernel) (by decide +kernel)
theorem ml_RX6_200 : Cond.methodLink RX6 200 yX3_renew ∈ ALL := all_in 519 (by decide +kernel) (by decide +kernel)
theorem ml_RX6_203 : Cond.methodLink RX6 203 yX3_empty ∈ ALL := all_in 530 (by decide +kernel) (by decide +kernel)
theorem ml_RX6_210 : Cond.methodLink RX6 210 yX3_reaches ∈ ALL := all_in 538 (by decide +kernel) (by decide +kernel)
theorem ml_RX6_214 : Cond.methodLink RX6 214 yX3_write ∈ ALL := all_in 539 (by decide +kernel) (by decide +kernel)
theorem ml_RX6_226 : Cond.methodLink RX6 226 arraycopyName ∈ ALL := all_in 555 (by decide +kernel) (by decide +kernel)
theorem ml_RX6_232 : Cond.methodLink RX6 232 yX6_tellAsHorse ∈ ALL := all_in 560 (by decide +kernel) (by decide +kernel)
theorem ml_RX6_235 : Cond.methodLink RX6 235 yX6_tellAsNymph ∈ ALL := all_in 568 (by decide +kernel) (by decide +kernel)
theorem ml_RX6_238 : Cond.methodLink RX6 238 yX6_tellAsBust ∈ ALL := all_in 572 (by decide +kernel) (by decide +kernel)
theorem ml_RX6_241 : Cond.methodLink RX6 241 yX6_leaveTrace ∈ ALL := all_in 564 (by decide +kernel) (by decide +kernel)
theorem ml_RX0_25 : Cond.methodLink RX0 25 yX4_blocksIn ∈ ALL := all_in 272 (by decide +kernel) (by decide +kernel)
theorem ml_RX0_31 : Cond.methodLink RX0 31 Lib.Math.min.name ∈ ALL := all_in 275 (by decide +kernel) (by decide +kernel)
theorem ml_RX0_43 : Cond.methodLink RX0 43 yX4_kindOf ∈ ALL := all_in 278 (by decide +kernel) (by decide +kernel)
theorem ml_RX0_46 : Cond.methodLink RX0 46 yX4_shapeOf ∈ ALL := all_in 284 (by decide +kernel) (by decide +kernel)
theorem ml_RX0_48 : Cond.methodLink RX0 48 yX4_paceOf ∈ ALL := all_in 287 (by decide +kernel) (by decide +kernel)
theorem ml_RX0_50 : Cond.methodLink RX0 50 arraycopyName ∈ ALL := all_in 346 (by decide +kernel) (by decide +kernel)
theorem ml_RX0_56 : Cond.methodLink RX0 56 yX0_isLookedAt ∈ ALL := all_in 353 (by decide +kernel) (by decide +kernel)
theorem ml_RX0_60 : Cond.methodLink RX0 60 yX0_stepsADay ∈ ALL := all_in 354 (by decide +kernel) (by decide +kernel)
theorem ml_RX0_63 : Cond.methodLink RX0 63 yX1_after ∈ ALL := all_in 355 (by decide +kernel) (by decide +kernel)
theorem ml_RX0_68 : Cond.methodLink RX0 68 yJ13_bitCount_95d88 ∈ ALL := all_in 415 (by decide +kernel) (by decide +kernel)
theorem ml_RX0_74 : Cond.methodLink RX0 74 yJ6_bitCount_0f7a4 ∈ ALL := all_in 436 (by decide +kernel) (by decide +kernel)
theorem ml_RX1_19 : Cond.methodLink RX1 19 yX1_stepOf ∈ ALL := all_in 254 (by decide +kernel) (by decide +kernel)
theorem ml_RX1_23 : Cond.methodLink RX1 23 yX1_after ∈ ALL := all_in 261 (by decide +kernel) (by decide +kernel)
theorem ml_RX1_27 : Cond.methodLink RX1 27 yX1_bitOf ∈ ALL := all_in 258 (by decide +kernel) (by decide +kernel)
theorem ml_RX1_34 : Cond.methodLink RX1 34 yX1_daysTo ∈ ALL := all_in 457 (by decide +kernel) (by decide +kernel)
theorem ml_RX2_25 : Cond.methodLink RX2 25 yX0_has ∈ ALL := all_in 496 (by decide +kernel) (by decide +kernel)
theorem ml_RX2_34 : Cond.methodLink RX2 34 yX0_stepsADay ∈ ALL := all_in 497 (by decide +kernel) (by decide +kernel)
theorem ml_RX2_38 : Cond.methodLink RX2 38 yX1_behind ∈ ALL := all_in 498 (by decide +kernel) (by decide +kernel)
theorem ml_RX3_26 : Cond.methodLink RX3 26 yJ7_fill_53178 ∈ ALL := all_in 523 (by decide +kernel) (by decide +kernel)
theorem ml_RX3_32 : Cond.methodLink RX3 32 yX3_reaches ∈ ALL := all_in 217 (by decide +kernel) (by decide +kernel)
theorem ml_RX3_36 : Cond.methodLink RX3 36 yX3_cut ∈ ALL := all_in 543 (by decide +kernel) (by decide +kernel)
theorem ml_RX4_9 : Cond.methodLink RX4 9 yX4_goesOn ∈ ALL := all_in 228 (by decide +kernel) (by decide +kernel)
theorem ml_RX4_15 : Cond.methodLink RX4 15 yX3_at ∈ ALL := all_in 231 (by decide +kernel) (by decide +kernel)
theorem ml_RX4_21 : Cond.methodLink RX4 21 yX4_greatestDigit ∈ ALL := all_in 235 (by decide +kernel) (by decide +kernel)
theorem ml_RX4_25 : Cond.methodLink RX4 25 yX4_isDigit ∈ ALL := all_in 238 (by decide +kernel) (by decide +kernel)
theorem ml_RX4_29 : Cond.methodLink RX4 29 yX4_kindBy ∈ ALL := all_in 241 (by decide +kernel) (by decide +kernel)
theorem ml_RX4_32 : Cond.methodLink RX4 32 yX4_digitAt ∈ ALL := all_in 247 (by decide +kernel) (by decide +kernel)
theorem ml_RX4_36 : Cond.methodLink RX4 36 yX4_placeOf ∈ ALL := all_in 281 (by decide +kernel) (by decide +kernel)
theorem ml_RX5_18 : Cond.methodLink RX5 18 yX3_at ∈ ALL := all_in 393 (by decide +kernel) (by decide +kernel)
theorem ml_RX5_24 : Cond.methodLink RX5 24 yX5_isAct ∈ ALL := all_in 394 (by decide +kernel) (by decide +kernel)
theorem ml_RX5_28 : Cond.methodLink RX5 28 yX0_has ∈ ALL := all_in 400 (by decide +kernel) (by decide +kernel)
theorem ml_RX5_31 : Cond.methodLink RX5 31 yX5_isStroke ∈ ALL := all_in 397 (by decide +kernel) (by decide +kernel)
theorem ml_RX5_34 : Cond.methodLink RX5 34 yX0_copyFrom ∈ ALL := all_in 405 (by decide +kernel) (by decide +kernel)
theorem ml_RX5_51 : Cond.methodLink RX5 51 yX5_letGo ∈ ALL := all_in 406 (by decide +kernel) (by decide +kernel)
theorem ml_RX5_55 : Cond.methodLink RX5 55 yX5_tryAct ∈ ALL := all_in 421 (by decide +kernel) (by decide +kernel)
theorem ml_RX5_59 : Cond.methodLink RX5 59 yX0_goOn ∈ ALL := all_in 410 (by decide +kernel) (by decide +kernel)
theorem ml_RX5_63 : Cond.methodLink RX5 63 yX0_twoAreAlike ∈ ALL := all_in 411 (by decide +kernel) (by decide +kernel)
theorem ml_RX5_67 : Cond.methodLink RX5 67 yX0_lookAt ∈ ALL := all_in 425 (by decide +kernel) (by decide +kernel)
theorem ml_RX5_70 : Cond.methodLink RX5 70 yX0_lookAwayFrom ∈ ALL := all_in 426 (by decide +kernel) (by decide +kernel)
theorem ml_RX5_73 : Cond.methodLink RX5 73 yX0_strikeAt ∈ ALL := all_in 427 (by decide +kernel) (by decide +kernel)
theorem ml_RX5_80 : Cond.methodLink RX5 80 yX0_cellsSet ∈ ALL := all_in 432 (by decide +kernel) (by decide +kernel)
theorem ml_RL_9 : Cond.methodLink RL 9 yX6_init ∈ ALL := all_in 54 (by decide +kernel) (by decide +kernel)
theorem ml_RL_12 : Cond.methodLink RL 12 yX7_init ∈ ALL := all_in 598 (by decide +kernel) (by decide +kernel)
theorem ml_RL_13 : Cond.methodLink RL 13 yX6_garden ∈ ALL := all_in 199 (by decide +kernel) (by decide +kernel)
theorem ml_RL_17 : Cond.methodLink RL 17 yX7_garden ∈ ALL := all_in 690 (by decide +kernel) (by decide +kernel)
theorem ml_RL_18 : Cond.methodLink RL 18 yX6_ofBlock ∈ ALL := all_in 294 (by decide +kernel) (by decide +kernel)
theorem ml_RL_22 : Cond.methodLink RL 22 yX7_ofBlock ∈ ALL := all_in 742 (by decide +kernel) (by decide +kernel)
theorem ml_RL_23 : Cond.methodLink RL 23 yX6_becomes ∈ ALL := all_in 316 (by decide +kernel) (by decide +kernel)
theorem ml_RL_27 : Cond.methodLink RL 27 yX7_becomes ∈ ALL := all_in 757 (by decide +kernel) (by decide +kernel)
theorem ml_RL_28 : Cond.methodLink RL 28 yX6_enact ∈ ALL := all_in 330 (by decide +kernel) (by decide +kernel)
theorem ml_RL_31 : Cond.methodLink RL 31 yX7_enact ∈ ALL := all_in 764 (by decide +kernel) (by decide +kernel)
theorem ml_RL_32 : Cond.methodLink RL 32 yX6_hurry ∈ ALL := all_in 334 (by decide +kernel) (by decide +kernel)
theorem ml_RL_35 : Cond.methodLink RL 35 yX7_hurry ∈ ALL := all_in 768 (by decide +kernel) (by decide +kernel)
theorem ml_RL_36 : Cond.methodLink RL 36 yX6_days ∈ ALL := all_in 338 (by decide +kernel) (by decide +kernel)
theorem ml_RL_39 : Cond.methodLink RL 39 yX7_days ∈ ALL := all_in 772 (by decide +kernel) (by decide +kernel)
theorem ml_RL_40 : Cond.methodLink RL 40 yX6_look ∈ ALL := all_in 356 (by decide +kernel) (by decide +kernel)
theorem ml_RL_43 : Cond.methodLink RL 43 yX7_look ∈ ALL := all_in 791 (by decide +kernel) (by decide +kernel)
theorem ml_RL_44 : Cond.methodLink RL 44 yX6_away ∈ ALL := all_in 364 (by decide +kernel) (by decide +kernel)
theorem ml_RL_47 : Cond.methodLink RL 47 yX7_away ∈ ALL := all_in 795 (by decide +kernel) (by decide +kernel)
theorem ml_RL_48 : Cond.methodLink RL 48 yX6_stroke ∈ ALL := all_in 372 (by decide +kernel) (by decide +kernel)
theorem ml_RL_51 : Cond.methodLink RL 51 yX7_stroke ∈ ALL := all_in 799 (by decide +kernel) (by decide +kernel)
theorem ml_RL_52 : Cond.methodLink RL 52 yX6_years ∈ ALL := all_in 380 (by decide +kernel) (by decide +kernel)
theorem ml_RL_56 : Cond.methodLink RL 56 yX7_years ∈ ALL := all_in 803 (by decide +kernel) (by decide +kernel)
theorem ml_RL_57 : Cond.methodLink RL 57 yX6_comes ∈ ALL := all_in 437 (by decide +kernel) (by decide +kernel)
theorem ml_RL_60 : Cond.methodLink RL 60 yX7_comes ∈ ALL := all_in 827 (by decide +kernel) (by decide +kernel)
theorem ml_RL_61 : Cond.methodLink RL 61 yX6_strokes ∈ ALL := all_in 445 (by decide +kernel) (by decide +kernel)
theorem ml_RL_64 : Cond.methodLink RL 64 yX7_strokes ∈ ALL := all_in 835 (by decide +kernel) (by decide +kernel)
theorem ml_RL_65 : Cond.methodLink RL 65 yX6_round ∈ ALL := all_in 449 (by decide +kernel) (by decide +kernel)
theorem ml_RL_68 : Cond.methodLink RL 68 yX7_round ∈ ALL := all_in 839 (by decide +kernel) (by decide +kernel)
theorem ml_RL_69 : Cond.methodLink RL 69 yX6_eden ∈ ALL := all_in 458 (by decide +kernel) (by decide +kernel)
theorem ml_RL_73 : Cond.methodLink RL 73 yX7_eden ∈ ALL := all_in 843 (by decide +kernel) (by decide +kernel)
theorem ml_RL_74 : Cond.methodLink RL 74 yX6_alike ∈ ALL := all_in 463 (by decide +kernel) (by decide +kernel)
theorem ml_RL_77 : Cond.methodLink RL 77 yX7_alike ∈ ALL := all_in 848 (by decide +kernel) (by decide +kernel)
theorem ml_RL_78 : Cond.methodLink RL 78 yX6_laws ∈ ALL := all_in 467 (by decide +kernel) (by decide +kernel)
theorem ml_RL_81 : Cond.methodLink RL 81 yX7_laws ∈ ALL := all_in 852 (by decide +kernel) (by decide +kernel)
theorem ml_RL_82 : Cond.methodLink RL 82 yX6_reading ∈ ALL := all_in 476 (by decide +kernel) (by decide +kernel)
theorem ml_RL_86 : Cond.methodLink RL 86 yX7_reading ∈ ALL := all_in 860 (by decide +kernel) (by decide +kernel)
theorem ml_RL_87 : Cond.methodLink RL 87 yX6_back ∈ ALL := all_in 484 (by decide +kernel) (by decide +kernel)
theorem ml_RL_90 : Cond.methodLink RL 90 yX7_back ∈ ALL := all_in 864 (by decide +kernel) (by decide +kernel)
theorem ml_RL_91 : Cond.methodLink RL 91 yX6_paces ∈ ALL := all_in 488 (by decide +kernel) (by decide +kernel)
theorem ml_RL_94 : Cond.methodLink RL 94 yX7_paces ∈ ALL := all_in 868 (by decide +kernel) (by decide +kernel)
theorem ml_RL_95 : Cond.methodLink RL 95 yX6_kinds ∈ ALL := all_in 502 (by decide +kernel) (by decide +kernel)
theorem ml_RL_98 : Cond.methodLink RL 98 yX7_kinds ∈ ALL := all_in 876 (by decide +kernel) (by decide +kernel)
theorem ml_RL_99 : Cond.methodLink RL 99 yX6_starts ∈ ALL := all_in 506 (by decide +kernel) (by decide +kernel)
theorem ml_RL_102 : Cond.methodLink RL 102 yX7_starts ∈ ALL := all_in 880 (by decide +kernel) (by decide +kernel)
theorem ml_RL_103 : Cond.methodLink RL 103 yX6_odds ∈ ALL := all_in 510 (by decide +kernel) (by decide +kernel)
theorem ml_RL_107 : Cond.methodLink RL 107 yX7_odds ∈ ALL := all_in 893 (by decide +kernel) (by decide +kernel)
theorem ml_RL_108 : Cond.methodLink RL 108 yX6_sheet ∈ ALL := all_in 515 (by decide +kernel) (by decide +kernel)
theorem ml_RL_111 : Cond.methodLink RL 111 yX7_sheet ∈ ALL := all_in 901 (by decide +kernel) (by decide +kernel)
theorem ml_RL_112 : Cond.methodLink RL 112 yX6_lose ∈ ALL := all_in 526 (by decide +kernel) (by decide +kernel)
theorem ml_RL_115 : Cond.methodLink RL 115 yX7_lose ∈ ALL := all_in 905 (by decide +kernel) (by decide +kernel)
theorem ml_RL_116 : Cond.methodLink RL 116 yX6_put ∈ ALL := all_in 534 (by decide +kernel) (by decide +kernel)
theorem ml_RL_119 : Cond.methodLink RL 119 yX7_put ∈ ALL := all_in 909 (by decide +kernel) (by decide +kernel)
theorem ml_RL_120 : Cond.methodLink RL 120 yX6_cell ∈ ALL := all_in 547 (by decide +kernel) (by decide +kernel)
end
section
theorem ml_RL_124 : Cond.methodLink RL 124 yX7_cell ∈ ALL := all_in 913 (by decide +kernel) (by decide +kernel)
theorem ml_RL_125 : Cond.methodLink RL 125 yX6_copy ∈ ALL := all_in 551 (by decide +kernel) (by decide +kernel)
theorem ml_RL_128 : Cond.methodLink RL 128 yX7_copy ∈ ALL := all_in 921 (by decide +kernel) (by decide +kernel)
theorem ml_RL_129 : Cond.methodLink RL 129 yX6_tell ∈ ALL := all_in 556 (by decide +kernel) (by decide +kernel)
theorem ml_RL_132 : Cond.methodLink RL 132 yX7_tell ∈ ALL := all_in 925 (by decide +kernel) (by decide +kernel)
theorem ml_RL_133 : Cond.methodLink RL 133 yX6_sign ∈ ALL := all_in 576 (by decide +kernel) (by decide +kernel)
theorem ml_RL_136 : Cond.methodLink RL 136 yX7_sign ∈ ALL := all_in 933 (by decide +kernel) (by decide +kernel)
theorem ml_RL_137 : Cond.methodLink RL 137 yX6_as ∈ ALL := all_in 580 (by decide +kernel) (by decide +kernel)
theorem ml_RL_140 : Cond.methodLink RL 140 yX7_as ∈ ALL := all_in 937 (by decide +kernel) (by decide +kernel)
theorem ml_RL_141 : Cond.methodLink RL 141 yX6_trace ∈ ALL := all_in 584 (by decide +kernel) (by decide +kernel)
theorem ml_RL_145 : Cond.methodLink RL 145 yX7_trace ∈ ALL := all_in 941 (by decide +kernel) (by decide +kernel)
theorem ml_RL_146 : Cond.methodLink RL 146 yX6_fault ∈ ALL := all_in 588 (by decide +kernel) (by decide +kernel)
theorem ml_RL_149 : Cond.methodLink RL 149 yX7_fault ∈ ALL := all_in 945 (by decide +kernel) (by decide +kernel)
theorem ml_RL_150 : Cond.methodLink RL 150 yX6_many ∈ ALL := all_in 592 (by decide +kernel) (by decide +kernel)
theorem ml_RL_153 : Cond.methodLink RL 153 yX7_many ∈ ALL := all_in 949 (by decide +kernel) (by decide +kernel)
theorem ml_RX7_61 : Cond.methodLink RX7 61 yX7_within ∈ ALL := all_in 697 (by decide +kernel) (by decide +kernel)
theorem ml_RX7_71 : Cond.methodLink RX7 71 yX7_isSheet ∈ ALL := all_in 694 (by decide +kernel) (by decide +kernel)
theorem ml_RX7_75 : Cond.methodLink RX7 75 yX7_isSort ∈ ALL := all_in 700 (by decide +kernel) (by decide +kernel)
theorem ml_RX7_78 : Cond.methodLink RX7 78 yX7_against ∈ ALL := all_in 703 (by decide +kernel) (by decide +kernel)
theorem ml_RX7_82 : Cond.methodLink RX7 82 yX7_fails ∈ ALL := all_in 707 (by decide +kernel) (by decide +kernel)
theorem ml_RX7_86 : Cond.methodLink RX7 86 yX7_readGarden ∈ ALL := all_in 711 (by decide +kernel) (by decide +kernel)
theorem ml_RX7_89 : Cond.methodLink RX7 89 yX7_takeGarden ∈ ALL := all_in 731 (by decide +kernel) (by decide +kernel)
theorem ml_RX7_95 : Cond.methodLink RX7 95 yX7_takeLaw ∈ ALL := all_in 735 (by decide +kernel) (by decide +kernel)
theorem ml_RX7_114 : Cond.methodLink RX7 114 yX7_bitFor ∈ ALL := all_in 739 (by decide +kernel) (by decide +kernel)
theorem ml_RX7_118 : Cond.methodLink RX7 118 yX7_isSign ∈ ALL := all_in 715 (by decide +kernel) (by decide +kernel)
theorem ml_RX7_122 : Cond.methodLink RX7 122 yX7_readTheLaw ∈ ALL := all_in 719 (by decide +kernel) (by decide +kernel)
theorem ml_RX7_125 : Cond.methodLink RX7 125 yX7_readBlock ∈ ALL := all_in 727 (by decide +kernel) (by decide +kernel)
theorem ml_RX7_128 : Cond.methodLink RX7 128 yX7_digit ∈ ALL := all_in 723 (by decide +kernel) (by decide +kernel)
theorem ml_RX7_132 : Cond.methodLink RX7 132 yX7_isBlock ∈ ALL := all_in 746 (by decide +kernel) (by decide +kernel)
theorem ml_RX7_135 : Cond.methodLink RX7 135 yX7_goesOf ∈ ALL := all_in 750 (by decide +kernel) (by decide +kernel)
theorem ml_RX7_138 : Cond.methodLink RX7 138 yX7_size ∈ ALL := all_in 754 (by decide +kernel) (by decide +kernel)
theorem ml_RX7_141 : Cond.methodLink RX7 141 yX7_isShape ∈ ALL := all_in 761 (by decide +kernel) (by decide +kernel)
theorem ml_RX7_144 : Cond.methodLink RX7 144 yX7_isOf ∈ ALL := all_in 784 (by decide +kernel) (by decide +kernel)
theorem ml_RX7_147 : Cond.methodLink RX7 147 yX7_stepsOn ∈ ALL := all_in 787 (by decide +kernel) (by decide +kernel)
theorem ml_RX7_150 : Cond.methodLink RX7 150 yX7_keep ∈ ALL := all_in 776 (by decide +kernel) (by decide +kernel)
theorem ml_RX7_153 : Cond.methodLink RX7 153 yX7_oneDay ∈ ALL := all_in 780 (by decide +kernel) (by decide +kernel)
theorem ml_RX7_162 : Cond.methodLink RX7 162 yX7_areTwins ∈ ALL := all_in 819 (by decide +kernel) (by decide +kernel)
theorem ml_RX7_166 : Cond.methodLink RX7 166 yX7_does ∈ ALL := all_in 815 (by decide +kernel) (by decide +kernel)
theorem ml_RX7_169 : Cond.methodLink RX7 169 yX7_refusesPair ∈ ALL := all_in 807 (by decide +kernel) (by decide +kernel)
theorem ml_RX7_172 : Cond.methodLink RX7 172 yX7_goYears ∈ ALL := all_in 811 (by decide +kernel) (by decide +kernel)
theorem ml_RX7_175 : Cond.methodLink RX7 175 yX7_tellYears ∈ ALL := all_in 823 (by decide +kernel) (by decide +kernel)
theorem ml_RX7_178 : Cond.methodLink RX7 178 yX7_comesFrom ∈ ALL := all_in 831 (by decide +kernel) (by decide +kernel)
theorem ml_RX7_187 : Cond.methodLink RX7 187 yX7_findMust ∈ ALL := all_in 856 (by decide +kernel) (by decide +kernel)
theorem ml_RX7_191 : Cond.methodLink RX7 191 yX7_areSo ∈ ALL := all_in 872 (by decide +kernel) (by decide +kernel)
theorem ml_RX7_194 : Cond.methodLink RX7 194 yX7_square ∈ ALL := all_in 889 (by decide +kernel) (by decide +kernel)
theorem ml_RX7_199 : Cond.methodLink RX7 199 yX7_findFar ∈ ALL := all_in 885 (by decide +kernel) (by decide +kernel)
theorem ml_RX7_204 : Cond.methodLink RX7 204 yX7_inLeastTerms ∈ ALL := all_in 898 (by decide +kernel) (by decide +kernel)
theorem ml_RX7_208 : Cond.methodLink RX7 208 yX7_lost ∈ ALL := all_in 917 (by decide +kernel) (by decide +kernel)
theorem ml_RX7_215 : Cond.methodLink RX7 215 yX7_begins ∈ ALL := all_in 929 (by decide +kernel) (by decide +kernel)
theorem lv_X0_has : LV yX0_has cX0_has 2 (some .boolean) RX0 1 := ⟨all_in (w := Cond.code yX0_has cX0_has 2 (some .boolean)) 301 (by decide +kernel) (by decide +kernel), all_in (w := Cond.instanceMethod yX0_has) 299 (by decide +kernel) (by decide +kernel), all_in (w := Cond.selects RX0 yX0_has yX0_has) 300 (by decide +kernel) (by decide +kernel), all_in (w := Cond.initialized RX0) 41 (by decide +kernel) (by decide +kernel), by decide, by decide, by decide +kernel⟩
theorem ls_X4_blocksIn : LSt yX4_blocksIn cX4_blocksIn 1 (some .int) 1 := ⟨all_in (w := Cond.code yX4_blocksIn cX4_blocksIn 1 (some .int)) 274 (by decide +kernel) (by decide +kernel), all_in (w := Cond.static yX4_blocksIn) 273 (by decide +kernel) (by decide +kernel), all_in (w := Cond.initialized RX4) 46 (by decide +kernel) (by decide +kernel), by decide, by decide, by decide +kernel⟩
theorem ls_X4_placeOf : LSt yX4_placeOf cX4_placeOf 2 (some .int) 2 := ⟨all_in (w := Cond.code yX4_placeOf cX4_placeOf 2 (some .int)) 283 (by decide +kernel) (by decide +kernel), all_in (w := Cond.static yX4_placeOf) 282 (by decide +kernel) (by decide +kernel), all_in (w := Cond.initialized RX4) 46 (by decide +kernel) (by decide +kernel), by decide, by decide, by decide +kernel⟩
theorem lv_X3_at : LV yX3_at cX3_at 2 (some .int) RX3 1 := ⟨all_in (w := Cond.code yX3_at cX3_at 2 (some .int)) 234 (by decide +kernel) (by decide +kernel), all_in (w := Cond.instanceMethod yX3_at) 232 (by decide +kernel) (by decide +kernel), all_in (w := Cond.selects RX3 yX3_at yX3_at) 233 (by decide +kernel) (by decide +kernel), all_in (w := Cond.initialized RX3) 44 (by decide +kernel) (by decide +kernel), by decide, by decide, by decide +kernel⟩
theorem ls_X4_kindBy : LSt yX4_kindBy cX4_kindBy 1 (some .int) 1 := ⟨all_in (w := Cond.code yX4_kindBy cX4_kindBy 1 (some .int)) 243 (by decide +kernel) (by decide +kernel), all_in (w := Cond.static yX4_kindBy) 242 (by decide +kernel) (by decide +kernel), all_in (w := Cond.initialized RX4) 46 (by decide +kernel) (by decide +kernel), by decide, by decide, by decide +kernel⟩
theorem ls_X4_kindOf : LSt yX4_kindOf cX4_kindOf 3 (some .int) 3 := ⟨all_in (w := Cond.code yX4_kindOf cX4_kindOf 3 (some .int)) 280 (by decide +kernel) (by decide +kernel), all_in (w := Cond.static yX4_kindOf) 279 (by decide +kernel) (by decide +kernel), all_in (w := Cond.initialized RX4) 46 (by decide +kernel) (by decide +kernel), by decide, by decide, by decide +kernel⟩
theorem ls_X4_digitAt : LSt yX4_digitAt cX4_digitAt 2 (some .int) 2 := ⟨all_in (w := Cond.code yX4_digitAt cX4_digitAt 2 (some .int)) 249 (by decide +kernel) (by decide +kernel), all_in (w := Cond.static yX4_digitAt) 248 (by decide +kernel) (by decide +kernel), all_in (w := Cond.initialized RX4) 46 (by decide +kernel) (by decide +kernel), by decide, by decide, by decide +kernel⟩
theorem ls_X4_shapeOf : LSt yX4_shapeOf cX4_shapeOf 3 (some .int) 3 := ⟨all_in (w := Cond.code yX4_shapeOf cX4_shapeOf 3 (some .int)) 286 (by decide +kernel) (by decide +kernel), all_in (w := Cond.static yX4_shapeOf) 285 (by decide +kernel) (by decide +kernel), all_in (w := Cond.initialized RX4) 46 (by decide +kernel) (by decide +kernel), by decide, by decide, by decide +kernel⟩
theorem ls_X4_paceOf : LSt yX4_paceOf cX4_paceOf 3 (some .int) 3 := ⟨all_in (w := Cond.code yX4_paceOf cX4_paceOf 3 (some .int)) 289 (by decide +kernel) (by decide +kernel), all_in (w := Cond.static yX4_paceOf) 288 (by decide +kernel) (by decide +kernel), all_in (w := Cond.initialized RX4) 46 (by decide +kernel) (by decide +kernel), by decide, by decide, by decide +kernel⟩
theorem lv_X0_begin : LV yX0_begin cX0_begin 5 none RX0 3 := ⟨all_in (w := Cond.code yX0_begin cX0_begin 5 none) 271 (by decide +kernel) (by decide +kernel), all_in (w := Cond.instanceMethod yX0_begin) 269 (by decide +kernel) (by decide +kernel), all_in (w := Cond.selects RX0 yX0_begin yX0_begin) 270 (by decide +kernel) (by decide +kernel), all_in (w := Cond.initialized RX0) 41 (by decide +kernel) (by decide +kernel), by decide, by decide, by decide +kernel⟩
theorem lv_X0_copyFrom : LV yX0_copyFrom cX0_copyFrom 2 none RX0 1 := ⟨all_in (w := Cond.code yX0_copyFrom cX0_copyFrom 2 none) 345 (by decide +kernel) (by decide +kernel), all_in (w := Cond.instanceMethod yX0_copyFrom) 343 (by decide +kernel) (by decide +kernel), all_in (w := Cond.selects RX0 yX0_copyFrom yX0_copyFrom) 344 (by decide +kernel) (by decide +kernel), all_in (w := Cond.initialized RX0) 41 (by decide +kernel) (by decide +kernel), by decide, by decide, by decide +kernel⟩
theorem lv_X0_stepsADay : LV yX0_stepsADay cX0_stepsADay 2 (some .int) RX0 1 := ⟨all_in (w := Cond.code yX0_stepsADay cX0_stepsADay 2 (some .int)) 305 (by decide +kernel) (by decide +kernel), all_in (w := Cond.instanceMethod yX0_stepsADay) 303 (by decide +kernel) (by decide +kernel), all_in (w := Cond.selects RX0 yX0_stepsADay yX0_stepsADay) 304 (by decide +kernel) (by decide +kernel), all_in (w := Cond.initialized RX0) 41 (by decide +kernel) (by decide +kernel), by decide, by decide, by decide +kernel⟩
theorem lv_X0_isLookedAt : LV yX0_isLookedAt cX0_isLookedAt 2 (some .boolean) RX0 1 := ⟨all_in (w := Cond.code yX0_isLookedAt cX0_isLookedAt 2 (some .boolean)) 309 (by decide +kernel) (by decide +kernel), all_in (w := Cond.instanceMethod yX0_isLookedAt) 307 (by decide +kernel) (by decide +kernel), all_in (w := Cond.selects RX0 yX0_isLookedAt yX0_isLookedAt) 308 (by decide +kernel) (by decide +kernel), all_in (w := Cond.initialized RX0) 41 (by decide +kernel) (by decide +kernel), by decide, by decide, by decide +kernel⟩
theorem ls_X6_isShape : LSt yX6_isShape cX6_isShape 1 (some .boolean) 1 := ⟨all_in (w := Cond.code yX6_isShape cX6_isShape 1 (some .boolean)) 267 (by decide +kernel) (by decide +kernel), all_in (w := Cond.static yX6_isShape) 266 (by decide +kernel) (by decide +kernel), all_in (w := Cond.initialized RX6) 39 (by decide +kernel) (by decide +kernel), by decide, by decide, by decide +kernel⟩
theorem lv_X1_after : LV yX1_after cX1_after 3 (some .int) RX1 2 := ⟨all_in (w := Cond.code yX1_after cX1_after 3 (some .int)) 264 (by decide +kernel) (by decide +kernel), all_in (w := Cond.instanceMethod yX1_after) 262 (by decide +kernel) (by decide +kernel), all_in (w := Cond.selects RX1 yX1_after yX1_after) 263 (by decide +kernel) (by decide +kernel), all_in (w := Cond.initialized RX1) 40 (by decide +kernel) (by decide +kernel), by decide, by decide, by decide +kernel⟩
theorem lv_X0_goOn : LV yX0_goOn cX0_goOn 3 none RX0 1 := ⟨all_in (w := Cond.code yX0_goOn cX0_goOn 3 none) 352 (by decide +kernel) (by decide +kernel), all_in (w := Cond.instanceMethod yX0_goOn) 350 (by decide +kernel) (by decide +kernel), all_in (w := Cond.selects RX0 yX0_goOn yX0_goOn) 351 (by decide +kernel) (by decide +kernel), all_in (w := Cond.initialized RX0) 41 (by decide +kernel) (by decide +kernel), by decide, by decide, by decide +kernel⟩
theorem lv_X0_lookAt : LV yX0_lookAt cX0_lookAt 3 (some .boolean) RX0 1 := ⟨all_in (w := Cond.code yX0_lookAt cX0_lookAt 3 (some .boolean)) 363 (by decide +kernel) (by decide +kernel), all_in (w := Cond.instanceMethod yX0_lookAt) 361 (by decide +kernel) (by decide +kernel), all_in (w := Cond.selects RX0 yX0_lookAt yX0_lookAt) 362 (by decide +kernel) (by decide +kernel), all_in (w := Cond.initialized RX0) 41 (by decide +kernel) (by decide +kernel), by decide, by decide, by decide +kernel⟩
theorem lv_X0_lookAwayFrom : LV yX0_lookAwayFrom cX0_lookAwayFrom 3 (some .boolean) RX0 1 := ⟨all_in (w := Cond.code yX0_lookAwayFrom cX0_lookAwayFrom 3 (some .boolean)) 371 (by decide +kernel) (by decide +kernel), all_in (w := Cond.instanceMethod yX0_lookAwayFrom) 369 (by decide +kernel) (by decide +kernel), all_in (w := Cond.selects RX0 yX0_lookAwayFrom yX0_lookAwayFrom) 370 (by decide +kernel) (by decide +kernel), all_in (w := Cond.initialized RX0) 41 (by decide +kernel) (by decide +kernel), by decide, by decide, by decide +kernel⟩
theorem lv_X0_strikeAt : LV yX0_strikeAt cX0_strikeAt 3 none RX0 2 := ⟨all_in (w := Cond.code yX0_strikeAt cX0_strikeAt 3 none) 379 (by decide +kernel) (by decide +kernel), all_in (w := Cond.instanceMethod yX0_strikeAt) 377 (by decide +kernel) (by decide +kernel), all_in (w := Cond.selects RX0 yX0_strikeAt yX0_strikeAt) 378 (by decide +kernel) (by decide +kernel), all_in (w := Cond.initialized RX0) 41 (by decide +kernel) (by decide +kernel), by decide, by decide, by decide +kernel⟩
theorem ls_J13_bitCount_95d88 : LSt yJ13_bitCount_95d88 cJ13_bitCount_95d88 2 (some .int) 1 := ⟨all_in (w := Cond.code yJ13_bitCount_95d88 cJ13_bitCount_95d88 2 (some .int)) 417 (by decide +kernel) (by decide +kernel), all_in (w := Cond.static yJ13_bitCount_95d88) 416 (by decide +kernel) (by decide +kernel), all_in (w := Cond.initialized RJ13) 50 (by decide +kernel) (by decide +kernel), by decide, by decide, by decide +kernel⟩
theorem lv_X0_twoAreAlike : LV yX0_twoAreAlike cX0_twoAreAlike 4 (some .boolean) RX0 0 := ⟨all_in (w := Cond.code yX0_twoAreAlike cX0_twoAreAlike 4 (some .boolean)) 414 (by decide +kernel) (by decide +kernel), all_in (w := Cond.instanceMethod yX0_twoAreAlike) 412 (by decide +kernel) (by decide +kernel), all_in (w := Cond.selects RX0 yX0_twoAreAlike yX0_twoAreAlike) 413 (by decide +kernel) (by decide +kernel), all_in (w := Cond.initialized RX0) 41 (by decide +kernel) (by decide +kernel), by decide, by decide, by decide +kernel⟩
theorem ls_J6_bitCount_0f7a4 : LSt yJ6_bitCount_0f7a4 cJ6_bitCount_0f7a4 1 (some .int) 1 := ⟨all_in (w := Cond.code yJ6_bitCount_0f7a4 cJ6_bitCount_0f7a4 1 (some .int)) 312 (by decide +kernel) (by decide +kernel), all_in (w := Cond.static yJ6_bitCount_0f7a4) 311 (by decide +kernel) (by decide +kernel), all_in (w := Cond.initialized RJ6) 48 (by decide +kernel) (by decide +kernel), by decide, by decide, by decide +kernel⟩
theorem lv_X0_cellsSet : LV yX0_cellsSet cX0_cellsSet 3 (some .int) RX0 0 := ⟨all_in (w := Cond.code yX0_cellsSet cX0_cellsSet 3 (some .int)) 435 (by decide +kernel) (by decide +kernel), all_in (w := Cond.instanceMethod yX0_cellsSet) 433 (by decide +kernel) (by decide +kernel), all_in (w := Cond.selects RX0 yX0_cellsSet yX0_cellsSet) 434 (by decide +kernel) (by decide +kernel), all_in (w := Cond.initialized RX0) 41 (by decide +kernel) (by decide +kernel), by decide, by decide, by decide +kernel⟩
theorem ls_X1_bitOf : LSt yX1_bitOf cX1_bitOf 5 (some .int) 2 := ⟨all_in (w := Cond.code yX1_bitOf cX1_bitOf 5 (some .int)) 260 (by decide +kernel) (by decide +kernel), all_in (w := Cond.static yX1_bitOf) 259 (by decide +kernel) (by decide +kernel), all_in (w := Cond.initialized RX1) 40 (by decide +kernel) (by decide +kernel), by decide, by decide, by decide +kernel⟩
theorem lv_X1_stepOf : LV yX1_stepOf cX1_stepOf 4 (some .int) RX1 1 := ⟨all_in (w := Cond.code yX1_stepOf cX1_stepOf 4 (some .int)) 257 (by decide +kernel) (by decide +kernel), all_in (w := Cond.instanceMethod yX1_stepOf) 256 (by decide +kernel) (by decide +kernel), all_in (w := Cond.selects RX1 yX1_stepOf yX1_stepOf) 2 (by decide +kernel) (by decide +kernel), all_in (w := Cond.initialized RX1) 40 (by decide +kernel) (by decide +kernel), by decide, by decide, by decide +kernel⟩
theorem lv_X1_fix : LV yX1_fix cX1_fix 3 none RX1 1 := ⟨all_in (w := Cond.code yX1_fix cX1_fix 3 none) 253 (by decide +kernel) (by decide +kernel), all_in (w := Cond.instanceMethod yX1_fix) 251 (by decide +kernel) (by decide +kernel), all_in (w := Cond.selects RX1 yX1_fix yX1_fix) 252 (by decide +kernel) (by decide +kernel), all_in (w := Cond.initialized RX1) 40 (by decide +kernel) (by decide +kernel), by decide, by decide, by decide +kernel⟩
theorem lv_X1_behind : LV yX1_behind cX1_behind 6 (some .int) RX1 3 := ⟨all_in (w := Cond.code yX1_behind cX1_behind 6 (some .int)) 501 (by decide +kernel) (by decide +kernel), all_in (w := Cond.instanceMethod yX1_behind) 499 (by decide +kernel) (by decide +kernel), all_in (w := Cond.selects RX1 yX1_behind yX1_behind) 500 (by decide +kernel) (by decide +kernel), all_in (w := Cond.initialized RX1) 40 (by decide +kernel) (by decide +kernel), by decide, by decide, by decide +kernel⟩
theorem lv_X1_daysTo : LV yX1_daysTo cX1_daysTo 6 (some .int) RX1 3 := ⟨all_in (w := Cond.code yX1_daysTo cX1_daysTo 6 (some .int)) 444 (by decide +kernel) (by decide +kernel), all_in (w := Cond.instanceMethod yX1_daysTo) 442 (by decide +kernel) (by decide +kernel), all_in (w := Cond.selects RX1 yX1_daysTo yX1_daysTo) 443 (by decide +kernel) (by decide +kernel), all_in (w := Cond.initialized RX1) 40 (by decide +kernel) (by decide +kernel), by decide, by decide, by decide +kernel⟩
theorem lv_X1_stepsBack : LV yX1_stepsBack cX1_stepsBack 3 (some .int) RX1 1 := ⟨all_in (w := Cond.code yX1_stepsBack cX1_stepsBack 3 (some .int)) 456 (by decide +kernel) (by decide +kernel), all_in (w := Cond.instanceMethod yX1_stepsBack) 454 (by decide +kernel) (by decide +kernel), all_in (w := Cond.selects RX1 yX1_stepsBack yX1_stepsBack) 455 (by decide +kernel) (by decide +kernel), all_in (w := Cond.initialized RX1) 40 (by decide +kernel) (by decide +kernel), by decide, by decide, by decide +kernel⟩
theorem lv_X2_forgetAll : LV yX2_forgetAll cX2_forgetAll 1 none RX2 0 := ⟨all_in (w := Cond.code yX2_forgetAll cX2_forgetAll 1 none) 293 (by decide +kernel) (by decide +kernel), all_in (w := Cond.instanceMethod yX2_forgetAll) 291 (by decide +kernel) (by decide +kernel), all_in (w := Cond.selects RX2 yX2_forgetAll yX2_forgetAll) 292 (by decide +kernel) (by decide +kernel), all_in (w := Cond.initialized RX2) 43 (by decide +kernel) (by decide +kernel), by decide, by decide, by decide +kernel⟩
theorem lv_X2_add : LV yX2_add cX2_add 4 (some .int) RX2 3 := ⟨all_in (w := Cond.code yX2_add cX2_add 4 (some .int)) 483 (by decide +kernel) (by decide +kernel), all_in (w := Cond.instanceMethod yX2_add) 481 (by decide +kernel) (by decide +kernel), all_in (w := Cond.selects RX2 yX2_add yX2_add) 482 (by decide +kernel) (by decide +kernel), all_in (w := Cond.initialized RX2) 43 (by decide +kernel) (by decide +kernel), by decide, by decide, by decide +kernel⟩
theorem lv_X2_areSo : LV yX2_areSo cX2_areSo 5 (some .boolean) RX2 2 := ⟨all_in (w := Cond.code yX2_areSo cX2_areSo 5 (some .boolean)) 495 (by decide +kernel) (by decide +kernel), all_in (w := Cond.instanceMethod yX2_areSo) 493 (by decide +kernel) (by decide +kernel), all_in (w := Cond.selects RX2 yX2_areSo yX2_areSo) 494 (by decide +kernel) (by decide +kernel), all_in (w := Cond.initialized RX2) 43 (by decide +kernel) (by decide +kernel), by decide, by decide, by decide +kernel⟩
theorem ls_J7_fill_53178 : LSt yJ7_fill_53178 cJ7_fill_53178 4 none 2 := ⟨all_in (w := Cond.code yJ7_fill_53178 cJ7_fill_53178 4 none) 525 (by decide +kernel) (by decide +kernel), all_in (w := Cond.static yJ7_fill_53178) 524 (by decide +kernel) (by decide +kernel), all_in (w := Cond.initialized RJ7) 51 (by decide +kernel) (by decide +kernel), by decide, by decide, by decide +kernel⟩
theorem lv_X3_renew : LV yX3_renew cX3_renew 3 none RX3 2 := ⟨all_in (w := Cond.code yX3_renew cX3_renew 3 none) 522 (by decide +kernel) (by decide +kernel), all_in (w := Cond.instanceMethod yX3_renew) 520 (by decide +kernel) (by decide +kernel), all_in (w := Cond.selects RX3 yX3_renew yX3_renew) 521 (by decide +kernel) (by decide +kernel), all_in (w := Cond.initialized RX3) 44 (by decide +kernel) (by decide +kernel), by decide, by decide, by decide +kernel⟩
theorem lv_X3_empty : LV yX3_empty cX3_empty 2 (some .boolean) RX3 0 := ⟨all_in (w := Cond.code yX3_empty cX3_empty 2 (some .boolean)) 533 (by decide +kernel) (by decide +kernel), all_in (w := Cond.instanceMethod yX3_empty) 531 (by decide +kernel) (by decide +kernel), all_in (w := Cond.selects RX3 yX3_empty yX3_empty) 532 (by decide +kernel) (by decide +kernel), all_in (w := Cond.initialized RX3) 44 (by decide +kernel) (by decide +kernel), by decide, by decide, by decide +kernel⟩
theorem lv_X3_reaches : LV yX3_reaches cX3_reaches 3 (some .boolean) RX3 2 := ⟨all_in (w := Cond.code yX3_reaches cX3_reaches 3 (some .boolean)) 220 (by decide +kernel) (by decide +kernel), all_in (w := Cond.instanceMethod yX3_reaches) 218 (by decide +kernel) (by decide +kernel), all_in (w := Cond.selects RX3 yX3_reaches yX3_reaches) 219 (by decide +kernel) (by decide +kernel), all_in (w := Cond.initialized RX3) 44 (by decide +kernel) (by decide +kernel), by decide, by decide, by decide +kernel⟩
theorem lv_X3_faultOfTaking : LV yX3_faultOfTaking cX3_faultOfTaking 4 (some .int) RX3 3 := ⟨all_in (w := Cond.code yX3_faultOfTaking cX3_faultOfTaking 4 (some .int)) 216 (by decide +kernel) (by decide +kernel), all_in (w := Cond.instanceMethod yX3_faultOfTaking) 214 (by decide +kernel) (by decide +kernel), all_in (w := Cond.selects RX3 yX3_faultOfTaking yX3_faultOfTaking) 215 (by decide +kernel) (by decide +kernel), all_in (w := Cond.initialized RX3) 44 (by decide +kernel) (by decide +kernel), by decide, by decide, by decide +kernel⟩
theorem lv_X3_cut : LV yX3_cut cX3_cut 2 (some .int) RX3 1 := ⟨all_in (w := Cond.code yX3_cut cX3_cut 2 (some .int)) 546 (by decide +kernel) (by decide +kernel), all_in (w := Cond.instanceMethod yX3_cut) 545 (by decide +kernel) (by decide +kernel), all_in (w := Cond.selects RX3 yX3_cut yX3_cut) 7 (by decide +kernel) (by decide +kernel), all_in (w := Cond.initialized RX3) 44 (by decide +kernel) (by decide +kernel), by decide, by decide, by decide +kernel⟩
theorem lv_X3_write : LV yX3_write cX3_write 3 none RX3 2 := ⟨all_in (w := Cond.code yX3_write cX3_write 3 none) 542 (by decide +kernel) (by decide +kernel), all_in (w := Cond.instanceMethod yX3_write) 540 (by decide +kernel) (by decide +kernel), all_in (w := Cond.selects RX3 yX3_write yX3_write) 541 (by decide +kernel) (by decide +kernel), all_in (w := Cond.initialized RX3) 44 (by decide +kernel) (by decide +kernel), by decide, by decide, by decide +kernel⟩
theorem ls_X4_greatestDigit : LSt yX4_greatestDigit cX4_greatestDigit 4 (some .int) 3 := ⟨all_in (w := Cond.code yX4_greatestDigit cX4_greatestDigit 4 (some .int)) 237 (by decide +kernel) (by decide +kernel), all_in (w := Cond.static yX4_greatestDigit) 236 (by decide +kernel) (by decide +kernel), all_in (w := Cond.initialized RX4) 46 (by decide +kernel) (by decide +kernel), by decide, by decide, by decide +kernel⟩
theorem ls_X4_isDigit : LSt yX4_isDigit cX4_isDigit 3 (some .boolean) 3 := ⟨all_in (w := Cond.code yX4_isDigit cX4_isDigit 3 (some .boolean)) 240 (by decide +kernel) (by decide +kernel), all_in (w := Cond.static yX4_isDigit) 239 (by decide +kernel) (by decide +kernel), all_in (w := Cond.initialized RX4) 46 (by decide +kernel) (by decide +kernel), by decide, by decide, by decide +kernel⟩
theorem ls_X4_goesOn : LSt yX4_goesOn cX4_goesOn 4 (some .boolean) 3 := ⟨all_in (w := Cond.code yX4_goesOn cX4_goesOn 4 (some .boolean)) 230 (by decide +kernel) (by decide +kernel), all_in (w := Cond.static yX4_goesOn) 229 (by decide +kernel) (by decide +kernel), all_in (w := Cond.initialized RX4) 46 (by decide +kernel) (by decide +kernel), by decide, by decide, by decide +kernel⟩
theorem ls_X4_firstFault : LSt yX4_firstFault cX4_firstFault 4 (some .int) 3 := ⟨all_in (w := Cond.code yX4_firstFault cX4_firstFault 4 (some .int)) 227 (by decide +kernel) (by decide +kernel), all_in (w := Cond.static yX4_firstFault) 226 (by decide +kernel) (by decide +kernel), all_in (w := Cond.initialized RX4) 46 (by decide +kernel) (by decide +kernel), by decide, by decide, by decide +kernel⟩
theorem ls_X4_lawOf : LSt yX4_lawOf cX4_lawOf 2 (some .int) 2 := ⟨all_in (w := Cond.code yX4_lawOf cX4_lawOf 2 (some .int)) 246 (by decide +kernel) (by decide +kernel), all_in (w := Cond.static yX4_lawOf) 245 (by decide +kernel) (by decide +kernel), all_in (w := Cond.initialized RX4) 46 (by decide +kernel) (by decide +kernel), by decide, by decide, by decide +kernel⟩
theorem ls_X5_tells : LSt yX5_tells cX5_tells 1 (some .boolean) 1 := ⟨all_in (w := Cond.code yX5_tells cX5_tells 1 (some .boolean)) 389 (by decide +kernel) (by decide +kernel), all_in (w := Cond.static yX5_tells) 388 (by decide +kernel) (by decide +kernel), all_in (w := Cond.initialized RX5) 42 (by decide +kernel) (by decide +kernel), by decide, by decide, by decide +kernel⟩
theorem ls_X5_isStroke : LSt yX5_isStroke cX5_isStroke 1 (some .boolean) 1 := ⟨all_in (w := Cond.code yX5_isStroke cX5_isStroke 1 (some .boolean)) 399 (by decide +kernel) (by decide +kernel), all_in (w := Cond.static yX5_isStroke) 398 (by decide +kernel) (by decide +kernel), all_in (w := Cond.initialized RX5) 42 (by decide +kernel) (by decide +kernel), by decide, by decide, by decide +kernel⟩
theorem ls_X5_isAct : LSt yX5_isAct cX5_isAct 1 (some .boolean) 1 := ⟨all_in (w := Cond.code yX5_isAct cX5_isAct 1 (some .boolean)) 396 (by decide +kernel) (by decide +kernel), all_in (w := Cond.static yX5_isAct) 395 (by decide +kernel) (by decide +kernel), all_in (w := Cond.initialized RX5) 42 (by decide +kernel) (by decide +kernel), by decide, by decide, by decide +kernel⟩
theorem ls_X5_refusalOfPairs : LSt yX5_refusalOfPairs cX5_refusalOfPairs 7 (some .int) 4 := ⟨all_in (w := Cond.code yX5_refusalOfPairs cX5_refusalOfPairs 7 (some .int)) 392 (by decide +kernel) (by decide +kernel), all_in (w := Cond.static yX5_refusalOfPairs) 391 (by decide +kernel) (by decide +kernel), all_in (w := Cond.initialized RX5) 42 (by decide +kernel) (by decide +kernel), by decide, by decide, by decide +kernel⟩
theorem lv_X5_letGo : LV yX5_letGo cX5_letGo 4 none RX5 2 := ⟨all_in (w := Cond.code yX5_letGo cX5_letGo 4 none) 409 (by decide +kernel) (by decide +kernel), all_in (w := Cond.instanceMethod yX5_letGo) 408 (by decide +kernel) (by decide +kernel), all_in (w := Cond.selects RX5 yX5_letGo yX5_letGo) 5 (by decide +kernel) (by decide +kernel), all_in (w := Cond.initialized RX5) 42 (by decide +kernel) (by decide +kernel), by decide, by decide, by decide +kernel⟩
theorem lv_X5_tryAct : LV yX5_tryAct cX5_tryAct 3 (some .boolean) RX5 2 := ⟨all_in (w := Cond.code yX5_tryAct cX5_tryAct 3 (some .boolean)) 424 (by decide +kernel) (by decide +kernel), all_in (w := Cond.instanceMethod yX5_tryAct) 423 (by decide +kernel) (by decide +kernel), all_in (w := Cond.selects RX5 yX5_tryAct yX5_tryAct) 6 (by decide +kernel) (by decide +kernel), all_in (w := Cond.initialized RX5) 42 (by decide +kernel) (by decide +kernel), by decide, by decide, by decide +kernel⟩
theorem lv_X5_live : LV yX5_live cX5_live 9 none RX5 5 := ⟨all_in (w := Cond.code yX5_live cX5_live 9 none) 404 (by decide +kernel) (by decide +kernel), all_in (w := Cond.instanceMethod yX5_live) 402 (by decide +kernel) (by decide +kernel), all_in (w := Cond.selects RX5 yX5_live yX5_live) 403 (by decide +kernel) (by decide +kernel), all_in (w := Cond.initialized RX5) 42 (by decide +kernel) (by decide +kernel), by decide, by decide, by decide +kernel⟩
theorem lv_X5_answer : LV yX5_answer cX5_answer 2 (some .int) RX5 1 := ⟨all_in (w := Cond.code yX5_answer cX5_answer 2 (some .int)) 431 (by decide +kernel) (by decide +kernel), all_in (w := Cond.instanceMethod yX5_answer) 429 (by decide +kernel) (by decide +kernel), all_in (w := Cond.selects RX5 yX5_answer yX5_answer) 430 (by decide +kernel) (by decide +kernel), all_in (w := Cond.initialized RX5) 42 (by decide +kernel) (by decide +kernel), by decide, by decide, by decide +kernel⟩
theorem ls_X6_isSheet : LSt yX6_isSheet cX6_isSheet 1 (some .boolean) 1 := ⟨all_in (w := Cond.code yX6_isSheet cX6_isSheet 1 (some .boolean)) 205 (by decide +kernel) (by decide +kernel), all_in (w := Cond.static yX6_isSheet) 204 (by decide +kernel) (by decide +kernel), all_in (w := Cond.initialized RX6) 39 (by decide +kernel) (by decide +kernel), by decide, by decide, by decide +kernel⟩
theorem lv_X6_withoutFault : LV yX6_withoutFault cX6_withoutFault 2 (some .int) RX6 1 := ⟨all_in (w := Cond.code yX6_withoutFault cX6_withoutFault 2 (some .int)) 209 (by decide +kernel) (by decide +kernel), all_in (w := Cond.instanceMethod yX6_withoutFault) 208 (by decide +kernel) (by decide +kernel), all_in (w := Cond.selects RX6 yX6_withoutFault yX6_withoutFault) 0 (by decide +kernel) (by decide +kernel), all_in (w := Cond.initialized RX6) 39 (by decide +kernel) (by decide +kernel), by decide, by decide, by decide +kernel⟩
theorem ls_X6_isLane : LSt yX6_isLane cX6_isLane 1 (some .boolean) 1 := ⟨all_in (w := Cond.code yX6_isLane cX6_isLane 1 (some .boolean)) 212 (by decide +kernel) (by decide +kernel), all_in (w := Cond.static yX6_isLane) 211 (by decide +kernel) (by decide +kernel), all_in (w := Cond.initialized RX6) 39 (by decide +kernel) (by decide +kernel), by decide, by decide, by decide +kernel⟩
theorem lv_X6_withFault : LV yX6_withFault cX6_withFault 2 (some .int) RX6 1 := ⟨all_in (w := Cond.code yX6_withFault cX6_withFault 2 (some .int)) 224 (by decide +kernel) (by decide +kernel), all_in (w := Cond.instanceMethod yX6_withFault) 223 (by decide +kernel) (by decide +kernel), all_in (w := Cond.selects RX6 yX6_withFault yX6_withFault) 1 (by decide +kernel) (by decide +kernel), all_in (w := Cond.initialized RX6) 39 (by decide +kernel) (by decide +kernel), by decide, by decide, by decide +kernel⟩
theorem lv_X6_garden : LV yX6_garden cX6_garden 8 (some .int) RX6 4 := ⟨all_in (w := Cond.code yX6_garden cX6_garden 8 (some .int)) 202 (by decide +kernel) (by decide +kernel), all_in (w := Cond.instanceMethod yX6_garden) 200 (by decide +kernel) (by decide +kernel), all_in (w := Cond.selects RX6 yX6_garden yX6_garden) 201 (by decide +kernel) (by decide +kernel), all_in (w := Cond.initialized RX6) 39 (by decide +kernel) (by decide +kernel), by decide, by decide, by decide +kernel⟩
theorem lv_X6_ofBlock : LV yX6_ofBlock cX6_ofBlock 3 (some .int) RX6 2 := ⟨all_in (w := Cond.code yX6_ofBlock cX6_ofBlock 3 (some .int)) 297 (by decide +kernel) (by decide +kernel), all_in (w := Cond.instanceMethod yX6_ofBlock) 295 (by decide +kernel) (by decide +kernel), all_in (w := Cond.selects RX6 yX6_ofBlock yX6_ofBlock) 296 (by decide +kernel) (by decide +kernel), all_in (w := Cond.initialized RX6) 39 (by decide +kernel) (by decide +kernel), by decide, by decide, by decide +kernel⟩
theorem lv_X6_hasGarden : LV yX6_hasGarden cX6_hasGarden 1 (some .boolean) RX6 0 := ⟨all_in (w := Cond.code yX6_hasGarden cX6_hasGarden 1 (some .boolean)) 328 (by decide +kernel) (by decide +kernel), all_in (w := Cond.instanceMethod yX6_hasGarden) 327 (by decide +kernel) (by decide +kernel), all_in (w := Cond.selects RX6 yX6_hasGarden yX6_hasGarden) 4 (by decide +kernel) (by decide +kernel), all_in (w := Cond.initialized RX6) 39 (by decide +kernel) (by decide +kernel), by decide, by decide, by decide +kernel⟩
theorem lv_X6_refusalOfShape : LV yX6_refusalOfShape cX6_refusalOfShape 2 (some .int) RX6 1 := ⟨all_in (w := Cond.code yX6_refusalOfShape cX6_refusalOfShape 2 (some .int)) 323 (by decide +kernel) (by decide +kernel), all_in (w := Cond.instanceMethod yX6_refusalOfShape) 322 (by decide +kernel) (by decide +kernel), all_in (w := Cond.selects RX6 yX6_refusalOfShape yX6_refusalOfShape) 3 (by decide +kernel) (by decide +kernel), all_in (w := Cond.initialized RX6) 39 (by decide +kernel) (by decide +kernel), by decide, by decide, by decide +kernel⟩
theorem lv_X6_becomes : LV yX6_becomes cX6_becomes 3 (some .int) RX6 1 := ⟨all_in (w := Cond.code yX6_becomes cX6_becomes 3 (some .int)) 319 (by decide +kernel) (by decide +kernel), all_in (w := Cond.instanceMethod yX6_becomes) 317 (by decide +kernel) (by decide +kernel), all_in (w := Cond.selects RX6 yX6_becomes yX6_becomes) 318 (by decide +kernel) (by decide +kernel), all_in (w := Cond.initialized RX6) 39 (by decide +kernel) (by decide +kernel), by decide, by decide, by decide +kernel⟩
theorem lv_X6_enact : LV yX6_enact cX6_enact 3 (some .int) RX6 1 := ⟨all_in (w := Cond.code yX6_enact cX6_enact 3 (some .int)) 333 (by decide +kernel) (by decide +kernel), all_in (w := Cond.instanceMethod yX6_enact) 331 (by decide +kernel) (by decide +kernel), all_in (w := Cond.selects RX6 yX6_enact yX6_enact) 332 (by decide +kernel) (by decide +kernel), all_in (w := Cond.initialized RX6) 39 (by decide +kernel) (by decide +kernel), by decide, by decide, by decide +kernel⟩
theorem lv_X6_hurry : LV yX6_hurry cX6_hurry 4 (some .int) RX6 2 := ⟨all_in (w := Cond.code yX6_hurry cX6_hurry 4 (some .int)) 337 (by decide +kernel) (by decide +kernel), all_in (w := Cond.instanceMethod yX6_hurry) 335 (by decide +kernel) (by decide +kernel), all_in (w := Cond.selects RX6 yX6_hurry yX6_hurry) 336 (by decide +kernel) (by decide +kernel), all_in (w := Cond.initialized RX6) 39 (by decide +kernel) (by decide +kernel), by decide, by decide, by decide +kernel⟩
theorem lv_X6_days : LV yX6_days cX6_days 4 (some .int) RX6 1 := ⟨all_in (w := Cond.code yX6_days cX6_days 4 (some .int)) 341 (by decide +kernel) (by decide +kernel), all_in (w := Cond.instanceMethod yX6_days) 339 (by decide +kernel) (by decide +kernel), all_in (w := Cond.selects RX6 yX6_days yX6_days) 340 (by decide +kernel) (by decide +kernel), all_in (w := Cond.initialized RX6) 39 (by decide +kernel) (by decide +kernel), by decide, by decide, by decide +kernel⟩
theorem lv_X6_look : LV yX6_look cX6_look 2 (some .int) RX6 1 := ⟨all_in (w := Cond.code yX6_look cX6_look 2 (some .int)) 359 (by decide +kernel) (by decide +kernel), all_in (w := Cond.instanceMethod yX6_look) 357 (by decide +kernel) (by decide +kernel), all_in (w := Cond.selects RX6 yX6_look yX6_look) 358 (by decide +kernel) (by decide +kernel), all_in (w := Cond.initialized RX6) 39 (by decide +kernel) (by decide +kernel), by decide, by decide, by decide +kernel⟩
theorem lv_X6_away : LV yX6_away cX6_away 2 (some .int) RX6 1 := ⟨all_in (w := Cond.code yX6_away cX6_away 2 (some .int)) 367 (by decide +kernel) (by decide +kernel), all_in (w := Cond.instanceMethod yX6_away) 365 (by decide +kernel) (by decide +kernel), all_in (w := Cond.selects RX6 yX6_away yX6_away) 366 (by decide +kernel) (by decide +kernel), all_in (w := Cond.initialized RX6) 39 (by decide +kernel) (by decide +kernel), by decide, by decide, by decide +kernel⟩
theorem lv_X6_stroke : LV yX6_stroke cX6_stroke 3 (some .int) RX6 2 := ⟨all_in (w := Cond.code yX6_stroke cX6_stroke 3 (some .int)) 375 (by decide +kernel) (by decide +kernel), all_in (w := Cond.instanceMethod yX6_stroke) 373 (by decide +kernel) (by decide +kernel), all_in (w := Cond.selects RX6 yX6_stroke yX6_stroke) 374 (by decide +kernel) (by decide +kernel), all_in (w := Cond.initialized RX6) 39 (by decide +kernel) (by decide +kernel), by decide, by decide, by decide +kernel⟩
theorem ls_X6_canTake : LSt yX6_canTake cX6_canTake 1 (some .boolean) 1 := ⟨all_in (w := Cond.code yX6_canTake cX6_canTake 1 (some .boolean)) 386 (by decide +kernel) (by decide +kernel), all_in (w := Cond.static yX6_canTake) 385 (by decide +kernel) (by decide +kernel), all_in (w := Cond.initialized RX6) 39 (by decide +kernel) (by decide +kernel), by decide, by decide, by decide +kernel⟩
theorem lv_X6_years : LV yX6_years cX6_years 9 (some .int) RX6 5 := ⟨all_in (w := Cond.code yX6_years cX6_years 9 (some .int)) 383 (by decide +kernel) (by decide +kernel), all_in (w := Cond.instanceMethod yX6_years) 381 (by decide +kernel) (by decide +kernel), all_in (w := Cond.selects RX6 yX6_years yX6_years) 382 (by decide +kernel) (by decide +kernel), all_in (w := Cond.initialized RX6) 39 (by decide +kernel) (by decide +kernel), by decide, by decide, by decide +kernel⟩
theorem lv_X6_comes : LV yX6_comes cX6_comes 3 (some .int) RX6 2 := ⟨all_in (w := Cond.code yX6_comes cX6_comes 3 (some .int)) 440 (by decide +kernel) (by decide +kernel), all_in (w := Cond.instanceMethod yX6_comes) 438 (by decide +kernel) (by decide +kernel), all_in (w := Cond.selects RX6 yX6_comes yX6_comes) 439 (by decide +kernel) (by decide +kernel), all_in (w := Cond.initialized RX6) 39 (by decide +kernel) (by decide +kernel), by decide, by decide, by decide +kernel⟩
theorem lv_X6_strokes : LV yX6_strokes cX6_strokes 8 (some .int) RX6 2 := ⟨all_in (w := Cond.code yX6_strokes cX6_strokes 8 (some .int)) 448 (by decide +kernel) (by decide +kernel), all_in (w := Cond.instanceMethod yX6_strokes) 446 (by decide +kernel) (by decide +kernel), all_in (w := Cond.selects RX6 yX6_strokes yX6_strokes) 447 (by decide +kernel) (by decide +kernel), all_in (w := Cond.initialized RX6) 39 (by decide +kernel) (by decide +kernel), by decide, by decide, by decide +kernel⟩
theorem lv_X6_round : LV yX6_round cX6_round 5 (some .int) RX6 2 := ⟨all_in (w := Cond.code yX6_round cX6_round 5 (some .int)) 452 (by decide +kernel) (by decide +kernel), all_in (w := Cond.instanceMethod yX6_round) 450 (by decide +kernel) (by decide +kernel), all_in (w := Cond.selects RX6 yX6_round yX6_round) 451 (by decide +kernel) (by decide +kernel), all_in (w := Cond.initialized RX6) 39 (by decide +kernel) (by decide +kernel), by decide, by decide, by decide +kernel⟩
theorem lv_X6_eden : LV yX6_eden cX6_eden 5 (some .long) RX6 1 := ⟨all_in (w := Cond.code yX6_eden cX6_eden 5 (some .long)) 461 (by decide +kernel) (by decide +kernel), all_in (w := Cond.instanceMethod yX6_eden) 459 (by decide +kernel) (by decide +kernel), all_in (w := Cond.selects RX6 yX6_eden yX6_eden) 460 (by decide +kernel) (by decide +kernel), all_in (w := Cond.initialized RX6) 39 (by decide +kernel) (by decide +kernel), by decide, by decide, by decide +kernel⟩
theorem lv_X6_alike : LV yX6_alike cX6_alike 6 (some .int) RX6 2 := ⟨all_in (w := Cond.code yX6_alike cX6_alike 6 (some .int)) 466 (by decide +kernel) (by decide +kernel), all_in (w := Cond.instanceMethod yX6_alike) 464 (by decide +kernel) (by decide +kernel), all_in (w := Cond.selects RX6 yX6_alike yX6_alike) 465 (by decide +kernel) (by decide +kernel), all_in (w := Cond.initialized RX6) 39 (by decide +kernel) (by decide +kernel), by decide, by decide, by decide +kernel⟩
theorem ls_X6_lawsBy : LSt yX6_lawsBy cX6_lawsBy 11 (some .int) 4 := ⟨all_in (w := Cond.code yX6_lawsBy cX6_lawsBy 11 (some .int)) 474 (by decide +kernel) (by decide +kernel), all_in (w := Cond.static yX6_lawsBy) 473 (by decide +kernel) (by decide +kernel), all_in (w := Cond.initialized RX6) 39 (by decide +kernel) (by decide +kernel), by decide, by decide, by decide +kernel⟩
theorem lv_X6_laws : LV yX6_laws cX6_laws 9 (some .int) RX6 5 := ⟨all_in (w := Cond.code yX6_laws cX6_laws 9 (some .int)) 470 (by decide +kernel) (by decide +kernel), all_in (w := Cond.instanceMethod yX6_laws) 468 (by decide +kernel) (by decide +kernel), all_in (w := Cond.selects RX6 yX6_laws yX6_laws) 469 (by decide +kernel) (by decide +kernel), all_in (w := Cond.initialized RX6) 39 (by decide +kernel) (by decide +kernel), by decide, by decide, by decide +kernel⟩
theorem lv_X6_reading : LV yX6_reading cX6_reading 4 (some .int) RX6 3 := ⟨all_in (w := Cond.code yX6_reading cX6_reading 4 (some .int)) 479 (by decide +kernel) (by decide +kernel), all_in (w := Cond.instanceMethod yX6_reading) 477 (by decide +kernel) (by decide +kernel), all_in (w := Cond.selects RX6 yX6_reading yX6_reading) 478 (by decide +kernel) (by decide +kernel), all_in (w := Cond.initialized RX6) 39 (by decide +kernel) (by decide +kernel), by decide, by decide, by decide +kernel⟩
theorem lv_X6_back : LV yX6_back cX6_back 2 (some .int) RX6 1 := ⟨all_in (w := Cond.code yX6_back cX6_back 2 (some .int)) 487 (by decide +kernel) (by decide +kernel), all_in (w := Cond.instanceMethod yX6_back) 485 (by decide +kernel) (by decide +kernel), all_in (w := Cond.selects RX6 yX6_back yX6_back) 486 (by decide +kernel) (by decide +kernel), all_in (w := Cond.initialized RX6) 39 (by decide +kernel) (by decide +kernel), by decide, by decide, by decide +kernel⟩
theorem lv_X6_paces : LV yX6_paces cX6_paces 4 (some .int) RX6 1 := ⟨all_in (w := Cond.code yX6_paces cX6_paces 4 (some .int)) 491 (by decide +kernel) (by decide +kernel), all_in (w := Cond.instanceMethod yX6_paces) 489 (by decide +kernel) (by decide +kernel), all_in (w := Cond.selects RX6 yX6_paces yX6_paces) 490 (by decide +kernel) (by decide +kernel), all_in (w := Cond.initialized RX6) 39 (by decide +kernel) (by decide +kernel), by decide, by decide, by decide +kernel⟩
theorem lv_X6_kinds : LV yX6_kinds cX6_kinds 4 (some .int) RX6 1 := ⟨all_in (w := Cond.code yX6_kinds cX6_kinds 4 (some .int)) 505 (by decide +kernel) (by decide +kernel), all_in (w := Cond.instanceMethod yX6_kinds) 503 (by decide +kernel) (by decide +kernel), all_in (w := Cond.selects RX6 yX6_kinds yX6_kinds) 504 (by decide +kernel) (by decide +kernel), all_in (w := Cond.initialized RX6) 39 (by decide +kernel) (by decide +kernel), by decide, by decide, by decide +kernel⟩
theorem lv_X6_starts : LV yX6_starts cX6_starts 5 (some .long) RX6 1 := ⟨all_in (w := Cond.code yX6_starts cX6_starts 5 (some .long)) 509 (by decide +kernel) (by decide +kernel), all_in (w := Cond.instanceMethod yX6_starts) 507 (by decide +kernel) (by decide +kernel), all_in (w := Cond.selects RX6 yX6_starts yX6_starts) 508 (by decide +kernel) (by decide +kernel), all_in (w := Cond.initialized RX6) 39 (by decide +kernel) (by decide +kernel), by decide, by decide, by decide +kernel⟩
theorem lv_X6_odds : LV yX6_odds cX6_odds 8 (some .long) RX6 4 := ⟨all_in (w := Cond.code yX6_odds cX6_odds 8 (some .long)) 513 (by decide +kernel) (by decide +kernel), all_in (w := Cond.instanceMethod yX6_odds) 511 (by decide +kernel) (by decide +kernel), all_in (w := Cond.selects RX6 yX6_odds yX6_odds) 512 (by decide +kernel) (by decide +kernel), all_in (w := Cond.initialized RX6) 39 (by decide +kernel) (by decide +kernel), by decide, by decide, by decide +kernel⟩
theorem lv_X6_sheet : LV yX6_sheet cX6_sheet 4 (some .int) RX6 3 := ⟨all_in (w := Cond.code yX6_sheet cX6_sheet 4 (some .int)) 518 (by decide +kernel) (by decide +kernel), all_in (w := Cond.instanceMethod yX6_sheet) 516 (by decide +kernel) (by decide +kernel), all_in (w := Cond.selects RX6 yX6_sheet yX6_sheet) 517 (by decide +kernel) (by decide +kernel), all_in (w := Cond.initialized RX6) 39 (by decide +kernel) (by decide +kernel), by decide, by decide, by decide +kernel⟩
theorem lv_X6_lose : LV yX6_lose cX6_lose 2 (some .int) RX6 1 := ⟨all_in (w := Cond.code yX6_lose cX6_lose 2 (some .int)) 529 (by decide +kernel) (by decide +kernel), all_in (w := Cond.instanceMethod yX6_lose) 527 (by decide +kernel) (by decide +kernel), all_in (w := Cond.selects RX6 yX6_lose yX6_lose) 528 (by decide +kernel) (by decide +kernel), all_in (w := Cond.initialized RX6) 39 (by decide +kernel) (by decide +kernel), by decide, by decide, by decide +kernel⟩
theorem lv_X6_put : LV yX6_put cX6_put 5 (some .int) RX6 3 := ⟨all_in (w := Cond.code yX6_put cX6_put 5 (some .int)) 537 (by decide +kernel) (by decide +kernel), all_in (w := Cond.instanceMethod yX6_put) 535 (by decide +kernel) (by decide +kernel), all_in (w := Cond.selects RX6 yX6_put yX6_put) 536 (by decide +kernel) (by decide +kernel), all_in (w := Cond.initialized RX6) 39 (by decide +kernel) (by decide +kernel), by decide, by decide, by decide +kernel⟩
theorem lv_X6_cell : LV yX6_cell cX6_cell 5 (some .long) RX6 3 := ⟨all_in (w := Cond.code yX6_cell cX6_cell 5 (some .long)) 550 (by decide +kernel) (by decide +kernel), all_in (w := Cond.instanceMethod yX6_cell) 548 (by decide +kernel) (by decide +kernel), all_in (w := Cond.selects RX6 yX6_cell yX6_cell) 549 (by decide +kernel) (by decide +kernel), all_in (w := Cond.initialized RX6) 39 (by decide +kernel) (by decide +kernel), by decide, by decide, by decide +kernel⟩
theorem lv_X6_copy : LV yX6_copy cX6_copy 8 (some .int) RX6 5 := ⟨all_in (w := Cond.code yX6_copy cX6_copy 8 (some .int)) 554 (by decide +kernel) (by decide +kernel), all_in (w := Cond.instanceMethod yX6_copy) 552 (by decide +kernel) (by decide +kernel), all_in (w := Cond.selects RX6 yX6_copy yX6_copy) 553 (by decide +kernel) (by decide +kernel), all_in (w := Cond.initialized RX6) 39 (by decide +kernel) (by decide +kernel), by decide, by decide, by decide +kernel⟩
theorem lv_X6_leaveTrace : LV yX6_leaveTrace cX6_leaveTrace 2 none RX6 1 := ⟨all_in (w := Cond.code yX6_leaveTrace cX6_leaveTrace 2 none) 567 (by decide +kernel) (by decide +kernel), all_in (w := Cond.instanceMethod yX6_leaveTrace) 566 (by decide +kernel) (by decide +kernel), all_in (w := Cond.selects RX6 yX6_leaveTrace yX6_leaveTrace) 9 (by decide +kernel) (by decide +kernel), all_in (w := Cond.initialized RX6) 39 (by decide +kernel) (by decide +kernel), by decide, by decide, by decide +kernel⟩
theorem lv_X6_tellAsBust : LV yX6_tellAsBust cX6_tellAsBust 2 (some .int) RX6 1 := ⟨all_in (w := Cond.code yX6_tellAsBust cX6_tellAsBust 2 (some .int)) 575 (by decide +kernel) (by decide +kernel), all_in (w := Cond.instanceMethod yX6_tellAsBust) 574 (by decide +kernel) (by decide +kernel), all_in (w := Cond.selects RX6 yX6_tellAsBust yX6_tellAsBust) 11 (by decide +kernel) (by decide +kernel), all_in (w := Cond.initialized RX6) 39 (by decide +kernel) (by decide +kernel), by decide, by decide, by decide +kernel⟩
theorem lv_X6_tellAsNymph : LV yX6_tellAsNymph cX6_tellAsNymph 2 (some .int) RX6 1 := ⟨all_in (w := Cond.code yX6_tellAsNymph cX6_tellAsNymph 2 (some .int)) 571 (by decide +kernel) (by decide +kernel), all_in (w := Cond.instanceMethod yX6_tellAsNymph) 570 (by decide +kernel) (by decide +kernel), all_in (w := Cond.selects RX6 yX6_tellAsNymph yX6_tellAsNymph) 10 (by decide +kernel) (by decide +kernel), all_in (w := Cond.initialized RX6) 39 (by decide +kernel) (by decide +kernel), by decide, by decide, by decide +kernel⟩
theorem lv_X6_tellAsHorse : LV yX6_tellAsHorse cX6_tellAsHorse 3 (some .int) RX6 1 := ⟨all_in (w := Cond.code yX6_tellAsHorse cX6_tellAsHorse 3 (some .int)) 563 (by decide +kernel) (by decide +kernel), all_in (w := Cond.instanceMethod yX6_tellAsHorse) 562 (by decide +kernel) (by decide +kernel), all_in (w := Cond.selects RX6 yX6_tellAsHorse yX6_tellAsHorse) 8 (by decide +kernel) (by decide +kernel), all_in (w := Cond.initialized RX6) 39 (by decide +kernel) (by decide +kernel), by decide, by decide, by decide +kernel⟩
theorem lv_X6_tell : LV yX6_tell cX6_tell 2 (some .int) RX6 1 := ⟨all_in (w := Cond.code yX6_tell cX6_tell 2 (some .int)) 559 (by decide +kernel) (by decide +kernel), all_in (w := Cond.instanceMethod yX6_tell) 557 (by decide +kernel) (by decide +kernel), all_in (w := Cond.selects RX6 yX6_tell yX6_tell) 558 (by decide +kernel) (by decide +kernel), all_in (w := Cond.initialized RX6) 39 (by decide +kernel) (by decide +kernel), by decide, by decide, by decide +kernel⟩
theorem lv_X6_sign : LV yX6_sign cX6_sign 2 (some .int) RX6 1 := ⟨all_in (w := Cond.code yX6_sign cX6_sign 2 (some .int)) 579 (by decide +kernel) (by decide +kernel), all_in (w := Cond.instanceMethod yX6_sign) 577 (by decide +kernel) (by decide +kernel), all_in (w := Cond.selects RX6 yX6_sign yX6_sign) 578 (by decide +kernel) (by decide +kernel), all_in (w := Cond.initialized RX6) 39 (by decide +kernel) (by decide +kernel), by decide, by decide, by decide +kernel⟩
theorem lv_X6_as : LV yX6_as cX6_as 3 (some .int) RX6 2 := ⟨all_in (w := Cond.code yX6_as cX6_as 3 (some .int)) 583 (by decide +kernel) (by decide +kernel), all_in (w := Cond.instanceMethod yX6_as) 581 (by decide +kernel) (by decide +kernel), all_in (w := Cond.selects RX6 yX6_as yX6_as) 582 (by decide +kernel) (by decide +kernel), all_in (w := Cond.initialized RX6) 39 (by decide +kernel) (by decide +kernel), by decide, by decide, by decide +kernel⟩
theorem lv_X6_trace : LV yX6_trace cX6_trace 1 (some .int) RX6 0 := ⟨all_in (w := Cond.code yX6_trace cX6_trace 1 (some .int)) 587 (by decide +kernel) (by decide +kernel), all_in (w := Cond.instanceMethod yX6_trace) 585 (by decide +kernel) (by decide +kernel), all_in (w := Cond.selects RX6 yX6_trace yX6_trace) 586 (by decide +kernel) (by decide +kernel), all_in (w := Cond.initialized RX6) 39 (by decide +kernel) (by decide +kernel), by decide, by decide, by decide +kernel⟩
theorem lv_X6_fault : LV yX6_fault cX6_fault 1 (some .int) RX6 0 := ⟨all_in (w := Cond.code yX6_fault cX6_fault 1 (some .int)) 591 (by decide +kernel) (by decide +kernel), all_in (w := Cond.instanceMethod yX6_fault) 589 (by decide +kernel) (by decide +kernel), all_in (w := Cond.selects RX6 yX6_fault yX6_fault) 590 (by decide +kernel) (by decide +kernel), all_in (w := Cond.initialized RX6) 39 (by decide +kernel) (by decide +kernel), by decide, by decide, by decide +kernel⟩
theorem lv_X6_many : LV yX6_many cX6_many 2 (some .int) RX6 1 := ⟨all_in (w := Cond.code yX6_many cX6_many 2 (some .int)) 595 (by decide +kernel) (by decide +kernel), all_in (w := Cond.instanceMethod yX6_many) 593 (by decide +kernel) (by decide +kernel), all_in (w := Cond.selects RX6 yX6_many yX6_many) 594 (by decide +kernel) (by decide +kernel), all_in (w := Cond.initialized RX6) 39 (by decide +kernel) (by decide +kernel), by decide, by decide, by decide +kernel⟩
theorem lv_X7_fails : LV yX7_fails cX7_fails 2 (some .int) RX7 1 := ⟨all_in (w := Cond.code yX7_fails cX7_fails 2 (some .int)) 710 (by decide +kernel) (by decide +kernel), all_in (w := Cond.instanceMethod yX7_fails) 709 (by decide +kernel) (by decide +kernel), all_in (w := Cond.selects RX7 yX7_fails yX7_fails) 13 (by decide +kernel) (by decide +kernel), all_in (w := Cond.initialized RX7) 45 (by decide +kernel) (by decide +kernel), by decide, by decide, by decide +kernel⟩
theorem lv_X7_lost : LV yX7_lost cX7_lost 2 (some .long) RX7 1 := ⟨all_in (w := Cond.code yX7_lost cX7_lost 2 (some .long)) 920 (by decide +kernel) (by decide +kernel), all_in (w := Cond.instanceMethod yX7_lost) 919 (by decide +kernel) (by decide +kernel), all_in (w := Cond.selects RX7 yX7_lost yX7_lost) 36 (by decide +kernel) (by decide +kernel), all_in (w := Cond.initialized RX7) 45 (by decide +kernel) (by decide +kernel), by decide, by decide, by decide +kernel⟩
theorem ls_X7_within : LSt yX7_within cX7_within 3 (some .boolean) 3 := ⟨all_in (w := Cond.code yX7_within cX7_within 3 (some .boolean)) 699 (by decide +kernel) (by decide +kernel), all_in (w := Cond.static yX7_within) 698 (by decide +kernel) (by decide +kernel), all_in (w := Cond.initialized RX7) 45 (by decide +kernel) (by decide +kernel), by decide, by decide, by decide +kernel⟩
theorem ls_X7_isSheet : LSt yX7_isSheet cX7_isSheet 1 (some .boolean) 1 := ⟨all_in (w := Cond.code yX7_isSheet cX7_isSheet 1 (some .boolean)) 696 (by decide +kernel) (by decide +kernel), all_in (w := Cond.static yX7_isSheet) 695 (by decide +kernel) (by decide +kernel), all_in (w := Cond.initialized RX7) 45 (by decide +kernel) (by decide +kernel), by decide, by decide, by decide +kernel⟩
theorem ls_X7_isSort : LSt yX7_isSort cX7_isSort 1 (some .boolean) 1 := ⟨all_in (w := Cond.code yX7_isSort cX7_isSort 1 (some .boolean)) 702 (by decide +kernel) (by decide +kernel), all_in (w := Cond.static yX7_isSort) 701 (by decide +kernel) (by decide +kernel), all_in (w := Cond.initialized RX7) 45 (by decide +kernel) (by decide +kernel), by decide, by decide, by decide +kernel⟩
theorem lv_X7_against : LV yX7_against cX7_against 5 (some .int) RX7 4 := ⟨all_in (w := Cond.code yX7_against cX7_against 5 (some .int)) 706 (by decide +kernel) (by decide +kernel), all_in (w := Cond.instanceMethod yX7_against) 705 (by decide +kernel) (by decide +kernel), all_in (w := Cond.selects RX7 yX7_against yX7_against) 12 (by decide +kernel) (by decide +kernel), all_in (w := Cond.initialized RX7) 45 (by decide +kernel) (by decide +kernel), by decide, by decide, by decide +kernel⟩
theorem lv_X7_isBlock : LV yX7_isBlock cX7_isBlock 2 (some .boolean) RX7 1 := ⟨all_in (w := Cond.code yX7_isBlock cX7_isBlock 2 (some .boolean)) 749 (by decide +kernel) (by decide +kernel), all_in (w := Cond.instanceMethod yX7_isBlock) 748 (by decide +kernel) (by decide +kernel), all_in (w := Cond.selects RX7 yX7_isBlock yX7_isBlock) 21 (by decide +kernel) (by decide +kernel), all_in (w := Cond.initialized RX7) 45 (by decide +kernel) (by decide +kernel), by decide, by decide, by decide +kernel⟩
theorem ls_X7_isShape : LSt yX7_isShape cX7_isShape 1 (some .boolean) 1 := ⟨all_in (w := Cond.code yX7_isShape cX7_isShape 1 (some .boolean)) 763 (by decide +kernel) (by decide +kernel), all_in (w := Cond.static yX7_isShape) 762 (by decide +kernel) (by decide +kernel), all_in (w := Cond.initialized RX7) 45 (by decide +kernel) (by decide +kernel), by decide, by decide, by decide +kernel⟩
theorem ls_X7_isOf : LSt yX7_isOf cX7_isOf 2 (some .boolean) 2 := ⟨all_in (w := Cond.code yX7_isOf cX7_isOf 2 (some .boolean)) 786 (by decide +kernel) (by decide +kernel), all_in (w := Cond.static yX7_isOf) 785 (by decide +kernel) (by decide +kernel), all_in (w := Cond.initialized RX7) 45 (by decide +kernel) (by decide +kernel), by decide, by decide, by decide +kernel⟩
theorem ls_X7_size : LSt yX7_size cX7_size 3 (some .int) 1 := ⟨all_in (w := Cond.code yX7_size cX7_size 3 (some .int)) 756 (by decide +kernel) (by decide +kernel), all_in (w := Cond.static yX7_size) 755 (by decide +kernel) (by decide +kernel), all_in (w := Cond.initialized RX7) 45 (by decide +kernel) (by decide +kernel), by decide, by decide, by decide +kernel⟩
theorem lv_X7_digit : LV yX7_digit cX7_digit 4 (some .int) RX7 3 := ⟨all_in (w := Cond.code yX7_digit cX7_digit 4 (some .int)) 726 (by decide +kernel) (by decide +kernel), all_in (w := Cond.instanceMethod yX7_digit) 725 (by decide +kernel) (by decide +kernel), all_in (w := Cond.selects RX7 yX7_digit yX7_digit) 17 (by decide +kernel) (by decide +kernel), all_in (w := Cond.initialized RX7) 45 (by decide +kernel) (by decide +kernel), by decide, by decide, by decide +kernel⟩
theorem lv_X7_isSign : LV yX7_isSign cX7_isSign 3 (some .boolean) RX7 2 := ⟨all_in (w := Cond.code yX7_isSign cX7_isSign 3 (some .boolean)) 718 (by decide +kernel) (by decide +kernel), all_in (w := Cond.instanceMethod yX7_isSign) 717 (by decide +kernel) (by decide +kernel), all_in (w := Cond.selects RX7 yX7_isSign yX7_isSign) 15 (by decide +kernel) (by decide +kernel), all_in (w := Cond.initialized RX7) 45 (by decide +kernel) (by decide +kernel), by decide, by decide, by decide +kernel⟩
theorem lv_X7_readTheLaw : LV yX7_readTheLaw cX7_readTheLaw 5 (some .boolean) RX7 1 := ⟨all_in (w := Cond.code yX7_readTheLaw cX7_readTheLaw 5 (some .boolean)) 722 (by decide +kernel) (by decide +kernel), all_in (w := Cond.instanceMethod yX7_readTheLaw) 721 (by decide +kernel) (by decide +kernel), all_in (w := Cond.selects RX7 yX7_readTheLaw yX7_readTheLaw) 16 (by decide +kernel) (by decide +kernel), all_in (w := Cond.initialized RX7) 45 (by decide +kernel) (by decide +kernel), by decide, by decide, by decide +kernel⟩
theorem lv_X7_readBlock : LV yX7_readBlock cX7_readBlock 6 (some .boolean) RX7 1 := ⟨all_in (w := Cond.code yX7_readBlock cX7_readBlock 6 (some .boolean)) 730 (by decide +kernel) (by decide +kernel), all_in (w := Cond.instanceMethod yX7_readBlock) 729 (by decide +kernel) (by decide +kernel), all_in (w := Cond.selects RX7 yX7_readBlock yX7_readBlock) 18 (by decide +kernel) (by decide +kernel), all_in (w := Cond.initialized RX7) 45 (by decide +kernel) (by decide +kernel), by decide, by decide, by decide +kernel⟩
theorem lv_X7_readGarden : LV yX7_readGarden cX7_readGarden 2 (some .boolean) RX7 1 := ⟨all_in (w := Cond.code yX7_readGarden cX7_readGarden 2 (some .boolean)) 714 (by decide +kernel) (by decide +kernel), all_in (w := Cond.instanceMethod yX7_readGarden) 713 (by decide +kernel) (by decide +kernel), all_in (w := Cond.selects RX7 yX7_readGarden yX7_readGarden) 14 (by decide +kernel) (by decide +kernel), all_in (w := Cond.initialized RX7) 45 (by decide +kernel) (by decide +kernel), by decide, by decide, by decide +kernel⟩
theorem ls_X7_bitFor : LSt yX7_bitFor cX7_bitFor 4 (some .int) 2 := ⟨all_in (w := Cond.code yX7_bitFor cX7_bitFor 4 (some .int)) 741 (by decide +kernel) (by decide +kernel), all_in (w := Cond.static yX7_bitFor) 740 (by decide +kernel) (by decide +kernel), all_in (w := Cond.initialized RX7) 45 (by decide +kernel) (by decide +kernel), by decide, by decide, by decide +kernel⟩
theorem lv_X7_takeLaw : LV yX7_takeLaw cX7_takeLaw 4 none RX7 1 := ⟨all_in (w := Cond.code yX7_takeLaw cX7_takeLaw 4 none) 738 (by decide +kernel) (by decide +kernel), all_in (w := Cond.instanceMethod yX7_takeLaw) 737 (by decide +kernel) (by decide +kernel), all_in (w := Cond.selects RX7 yX7_takeLaw yX7_takeLaw) 20 (by decide +kernel) (by decide +kernel), all_in (w := Cond.initialized RX7) 45 (by decide +kernel) (by decide +kernel), by decide, by decide, by decide +kernel⟩
theorem lv_X7_takeGarden : LV yX7_takeGarden cX7_takeGarden 2 none RX7 0 := ⟨all_in (w := Cond.code yX7_takeGarden cX7_takeGarden 2 none) 734 (by decide +kernel) (by decide +kernel), all_in (w := Cond.instanceMethod yX7_takeGarden) 733 (by decide +kernel) (by decide +kernel), all_in (w := Cond.selects RX7 yX7_takeGarden yX7_takeGarden) 19 (by decide +kernel) (by decide +kernel), all_in (w := Cond.initialized RX7) 45 (by decide +kernel) (by decide +kernel), by decide, by decide, by decide +kernel⟩
theorem lv_X7_garden : LV yX7_garden cX7_garden 7 (some .int) RX7 4 := ⟨all_in (w := Cond.code yX7_garden cX7_garden 7 (some .int)) 693 (by decide +kernel) (by decide +kernel), all_in (w := Cond.instanceMethod yX7_garden) 691 (by decide +kernel) (by decide +kernel), all_in (w := Cond.selects RX7 yX7_garden yX7_garden) 692 (by decide +kernel) (by decide +kernel), all_in (w := Cond.initialized RX7) 45 (by decide +kernel) (by decide +kernel), by decide, by decide, by decide +kernel⟩
theorem lv_X7_goesOf : LV yX7_goesOf cX7_goesOf 2 (some .int) RX7 1 := ⟨all_in (w := Cond.code yX7_goesOf cX7_goesOf 2 (some .int)) 753 (by decide +kernel) (by decide +kernel), all_in (w := Cond.instanceMethod yX7_goesOf) 752 (by decide +kernel) (by decide +kernel), all_in (w := Cond.selects RX7 yX7_goesOf yX7_goesOf) 22 (by decide +kernel) (by decide +kernel), all_in (w := Cond.initialized RX7) 45 (by decide +kernel) (by decide +kernel), by decide, by decide, by decide +kernel⟩
theorem lv_X7_stepsOn : LV yX7_stepsOn cX7_stepsOn 5 (some .int) RX7 2 := ⟨all_in (w := Cond.code yX7_stepsOn cX7_stepsOn 5 (some .int)) 790 (by decide +kernel) (by decide +kernel), all_in (w := Cond.instanceMethod yX7_stepsOn) 789 (by decide +kernel) (by decide +kernel), all_in (w := Cond.selects RX7 yX7_stepsOn yX7_stepsOn) 25 (by decide +kernel) (by decide +kernel), all_in (w := Cond.initialized RX7) 45 (by decide +kernel) (by decide +kernel), by decide, by decide, by decide +kernel⟩
theorem lv_X7_ofBlock : LV yX7_ofBlock cX7_ofBlock 3 (some .int) RX7 2 := ⟨all_in (w := Cond.code yX7_ofBlock cX7_ofBlock 3 (some .int)) 745 (by decide +kernel) (by decide +kernel), all_in (w := Cond.instanceMethod yX7_ofBlock) 743 (by decide +kernel) (by decide +kernel), all_in (w := Cond.selects RX7 yX7_ofBlock yX7_ofBlock) 744 (by decide +kernel) (by decide +kernel), all_in (w := Cond.initialized RX7) 45 (by decide +kernel) (by decide +kernel), by decide, by decide, by decide +kernel⟩
theorem lv_X7_becomes : LV yX7_becomes cX7_becomes 2 (some .int) RX7 1 := ⟨all_in (w := Cond.code yX7_becomes cX7_becomes 2 (some .int)) 760 (by decide +kernel) (by decide +kernel), all_in (w := Cond.instanceMethod yX7_becomes) 758 (by decide +kernel) (by decide +kernel), all_in (w := Cond.selects RX7 yX7_becomes yX7_becomes) 759 (by decide +kernel) (by decide +kernel), all_in (w := Cond.initialized RX7) 45 (by decide +kernel) (by decide +kernel), by decide, by decide, by decide +kernel⟩
theorem lv_X7_enact : LV yX7_enact cX7_enact 3 (some .int) RX7 1 := ⟨all_in (w := Cond.code yX7_enact cX7_enact 3 (some .int)) 767 (by decide +kernel) (by decide +kernel), all_in (w := Cond.instanceMethod yX7_enact) 765 (by decide +kernel) (by decide +kernel), all_in (w := Cond.selects RX7 yX7_enact yX7_enact) 766 (by decide +kernel) (by decide +kernel), all_in (w := Cond.initialized RX7) 45 (by decide +kernel) (by decide +kernel), by decide, by decide, by decide +kernel⟩
theorem lv_X7_hurry : LV yX7_hurry cX7_hurry 4 (some .int) RX7 2 := ⟨all_in (w := Cond.code yX7_hurry cX7_hurry 4 (some .int)) 771 (by decide +kernel) (by decide +kernel), all_in (w := Cond.instanceMethod yX7_hurry) 769 (by decide +kernel) (by decide +kernel), all_in (w := Cond.selects RX7 yX7_hurry yX7_hurry) 770 (by decide +kernel) (by decide +kernel), all_in (w := Cond.initialized RX7) 45 (by decide +kernel) (by decide +kernel), by decide, by decide, by decide +kernel⟩
theorem lv_X7_keep : LV yX7_keep cX7_keep 2 none RX7 0 := ⟨all_in (w := Cond.code yX7_keep cX7_keep 2 none) 779 (by decide +kernel) (by decide +kernel), all_in (w := Cond.instanceMethod yX7_keep) 778 (by decide +kernel) (by decide +kernel), all_in (w := Cond.selects RX7 yX7_keep yX7_keep) 23 (by decide +kernel) (by decide +kernel), all_in (w := Cond.initialized RX7) 45 (by decide +kernel) (by decide +kernel), by decide, by decide, by decide +kernel⟩
theorem lv_X7_oneDay : LV yX7_oneDay cX7_oneDay 2 none RX7 0 := ⟨all_in (w := Cond.code yX7_oneDay cX7_oneDay 2 none) 783 (by decide +kernel) (by decide +kernel), all_in (w := Cond.instanceMethod yX7_oneDay) 782 (by decide +kernel) (by decide +kernel), all_in (w := Cond.selects RX7 yX7_oneDay yX7_oneDay) 24 (by decide +kernel) (by decide +kernel), all_in (w := Cond.initialized RX7) 45 (by decide +kernel) (by decide +kernel), by decide, by decide, by decide +kernel⟩
theorem lv_X7_days : LV yX7_days cX7_days 4 (some .int) RX7 1 := ⟨all_in (w := Cond.code yX7_days cX7_days 4 (some .int)) 775 (by decide +kernel) (by decide +kernel), all_in (w := Cond.instanceMethod yX7_days) 773 (by decide +kernel) (by decide +kernel), all_in (w := Cond.selects RX7 yX7_days yX7_days) 774 (by decide +kernel) (by decide +kernel), all_in (w := Cond.initialized RX7) 45 (by decide +kernel) (by decide +kernel), by decide, by decide, by decide +kernel⟩
theorem lv_X7_look : LV yX7_look cX7_look 2 (some .int) RX7 1 := ⟨all_in (w := Cond.code yX7_look cX7_look 2 (some .int)) 794 (by decide +kernel) (by decide +kernel), all_in (w := Cond.instanceMethod yX7_look) 792 (by decide +kernel) (by decide +kernel), all_in (w := Cond.selects RX7 yX7_look yX7_look) 793 (by decide +kernel) (by decide +kernel), all_in (w := Cond.initialized RX7) 45 (by decide +kernel) (by decide +kernel), by decide, by decide, by decide +kernel⟩
theorem lv_X7_away : LV yX7_away cX7_away 2 (some .int) RX7 1 := ⟨all_in (w := Cond.code yX7_away cX7_away 2 (some .int)) 798 (by decide +kernel) (by decide +kernel), all_in (w := Cond.instanceMethod yX7_away) 796 (by decide +kernel) (by decide +kernel), all_in (w := Cond.selects RX7 yX7_away yX7_away) 797 (by decide +kernel) (by decide +kernel), all_in (w := Cond.initialized RX7) 45 (by decide +kernel) (by decide +kernel), by decide, by decide, by decide +kernel⟩
theorem lv_X7_stroke : LV yX7_stroke cX7_stroke 3 (some .int) RX7 2 := ⟨all_in (w := Cond.code yX7_stroke cX7_stroke 3 (some .int)) 802 (by decide +kernel) (by decide +kernel), all_in (w := Cond.instanceMethod yX7_stroke) 800 (by decide +kernel) (by decide +kernel), all_in (w := Cond.selects RX7 yX7_stroke yX7_stroke) 801 (by decide +kernel) (by decide +kernel), all_in (w := Cond.initialized RX7) 45 (by decide +kernel) (by decide +kernel), by decide, by decide, by decide +kernel⟩
theorem lv_X7_areTwins : LV yX7_areTwins cX7_areTwins 3 (some .boolean) RX7 0 := ⟨all_in (w := Cond.code yX7_areTwins cX7_areTwins 3 (some .boolean)) 822 (by decide +kernel) (by decide +kernel), all_in (w := Cond.instanceMethod yX7_areTwins) 821 (by decide +kernel) (by decide +kernel), all_in (w := Cond.selects RX7 yX7_areTwins yX7_areTwins) 29 (by decide +kernel) (by decide +kernel), all_in (w := Cond.initialized RX7) 45 (by decide +kernel) (by decide +kernel), by decide, by decide, by decide +kernel⟩
theorem lv_X7_does : LV yX7_does cX7_does 4 (some .boolean) RX7 2 := ⟨all_in (w := Cond.code yX7_does cX7_does 4 (some .boolean)) 818 (by decide +kernel) (by decide +kernel), all_in (w := Cond.instanceMethod yX7_does) 817 (by decide +kernel) (by decide +kernel), all_in (w := Cond.selects RX7 yX7_does yX7_does) 28 (by decide +kernel) (by decide +kernel), all_in (w := Cond.initialized RX7) 45 (by decide +kernel) (by decide +kernel), by decide, by decide, by decide +kernel⟩
theorem lv_X7_goYears : LV yX7_goYears cX7_goYears 4 (some .int) RX7 2 := ⟨all_in (w := Cond.code yX7_goYears cX7_goYears 4 (some .int)) 814 (by decide +kernel) (by decide +kernel), all_in (w := Cond.instanceMethod yX7_goYears) 813 (by decide +kernel) (by decide +kernel), all_in (w := Cond.selects RX7 yX7_goYears yX7_goYears) 27 (by decide +kernel) (by decide +kernel), all_in (w := Cond.initialized RX7) 45 (by decide +kernel) (by decide +kernel), by decide, by decide, by decide +kernel⟩
theorem lv_X7_refusesPair : LV yX7_refusesPair cX7_refusesPair 3 (some .int) RX7 2 := ⟨all_in (w := Cond.code yX7_refusesPair cX7_refusesPair 3 (some .int)) 810 (by decide +kernel) (by decide +kernel), all_in (w := Cond.instanceMethod yX7_refusesPair) 809 (by decide +kernel) (by decide +kernel), all_in (w := Cond.selects RX7 yX7_refusesPair yX7_refusesPair) 26 (by decide +kernel) (by decide +kernel), all_in (w := Cond.initialized RX7) 45 (by decide +kernel) (by decide +kernel), by decide, by decide, by decide +kernel⟩
theorem lv_X7_tellYears : LV yX7_tellYears cX7_tellYears 4 (some .int) RX7 1 := ⟨all_in (w := Cond.code yX7_tellYears cX7_tellYears 4 (some .int)) 826 (by decide +kernel) (by decide +kernel), all_in (w := Cond.instanceMethod yX7_tellYears) 825 (by decide +kernel) (by decide +kernel), all_in (w := Cond.selects RX7 yX7_tellYears yX7_tellYears) 30 (by decide +kernel) (by decide +kernel), all_in (w := Cond.initialized RX7) 45 (by decide +kernel) (by decide +kernel), by decide, by decide, by decide +kernel⟩
theorem lv_X7_years : LV yX7_years cX7_years 12 (some .int) RX7 5 := ⟨all_in (w := Cond.code yX7_years cX7_years 12 (some .int)) 806 (by decide +kernel) (by decide +kernel), all_in (w := Cond.instanceMethod yX7_years) 804 (by decide +kernel) (by decide +kernel), all_in (w := Cond.selects RX7 yX7_years yX7_years) 805 (by decide +kernel) (by decide +kernel), all_in (w := Cond.initialized RX7) 45 (by decide +kernel) (by decide +kernel), by decide, by decide, by decide +kernel⟩
theorem lv_X7_comesFrom : LV yX7_comesFrom cX7_comesFrom 6 (some .int) RX7 3 := ⟨all_in (w := Cond.code yX7_comesFrom cX7_comesFrom 6 (some .int)) 834 (by decide +kernel) (by decide +kernel), all_in (w := Cond.instanceMethod yX7_comesFrom) 833 (by decide +kernel) (by decide +kernel), all_in (w := Cond.selects RX7 yX7_comesFrom yX7_comesFrom) 31 (by decide +kernel) (by decide +kernel), all_in (w := Cond.initialized RX7) 45 (by decide +kernel) (by decide +kernel), by decide, by decide, by decide +kernel⟩
theorem lv_X7_comes : LV yX7_comes cX7_comes 3 (some .int) RX7 2 := ⟨all_in (w := Cond.code yX7_comes cX7_comes 3 (some .int)) 830 (by decide +kernel) (by decide +kernel), all_in (w := Cond.instanceMethod yX7_comes) 828 (by decide +kernel) (by decide +kernel), all_in (w := Cond.selects RX7 yX7_comes yX7_comes) 829 (by decide +kernel) (by decide +kernel), all_in (w := Cond.initialized RX7) 45 (by decide +kernel) (by decide +kernel), by decide, by decide, by decide +kernel⟩
theorem lv_X7_strokes : LV yX7_strokes cX7_strokes 6 (some .int) RX7 2 := ⟨all_in (w := Cond.code yX7_strokes cX7_strokes 6 (some .int)) 838 (by decide +kernel) (by decide +kernel), all_in (w := Cond.instanceMethod yX7_strokes) 836 (by decide +kernel) (by decide +kernel), all_in (w := Cond.selects RX7 yX7_strokes yX7_strokes) 837 (by decide +kernel) (by decide +kernel), all_in (w := Cond.initialized RX7) 45 (by decide +kernel) (by decide +kernel), by decide, by decide, by decide +kernel⟩
theorem lv_X7_round : LV yX7_round cX7_round 8 (some .int) RX7 2 := ⟨all_in (w := Cond.code yX7_round cX7_round 8 (some .int)) 842 (by decide +kernel) (by decide +kernel), all_in (w := Cond.instanceMethod yX7_round) 840 (by decide +kernel) (by decide +kernel), all_in (w := Cond.selects RX7 yX7_round yX7_round) 841 (by decide +kernel) (by decide +kernel), all_in (w := Cond.initialized RX7) 45 (by decide +kernel) (by decide +kernel), by decide, by decide, by decide +kernel⟩
theorem lv_X7_eden : LV yX7_eden cX7_eden 5 (some .long) RX7 1 := ⟨all_in (w := Cond.code yX7_eden cX7_eden 5 (some .long)) 846 (by decide +kernel) (by decide +kernel), all_in (w := Cond.instanceMethod yX7_eden) 844 (by decide +kernel) (by decide +kernel), all_in (w := Cond.selects RX7 yX7_eden yX7_eden) 845 (by decide +kernel) (by decide +kernel), all_in (w := Cond.initialized RX7) 45 (by decide +kernel) (by decide +kernel), by decide, by decide, by decide +kernel⟩
theorem lv_X7_alike : LV yX7_alike cX7_alike 6 (some .int) RX7 2 := ⟨all_in (w := Cond.code yX7_alike cX7_alike 6 (some .int)) 851 (by decide +kernel) (by decide +kernel), all_in (w := Cond.instanceMethod yX7_alike) 849 (by decide +kernel) (by decide +kernel), all_in (w := Cond.selects RX7 yX7_alike yX7_alike) 850 (by decide +kernel) (by decide +kernel), all_in (w := Cond.initialized RX7) 45 (by decide +kernel) (by decide +kernel), by decide, by decide, by decide +kernel⟩
theorem lv_X7_findMust : LV yX7_findMust cX7_findMust 7 none RX7 2 := ⟨all_in (w := Cond.code yX7_findMust cX7_findMust 7 none) 859 (by decide +kernel) (by decide +kernel), all_in (w := Cond.instanceMethod yX7_findMust) 858 (by decide +kernel) (by decide +kernel), all_in (w := Cond.selects RX7 yX7_findMust yX7_findMust) 32 (by decide +kernel) (by decide +kernel), all_in (w := Cond.initialized RX7) 45 (by decide +kernel) (by decide +kernel), by decide, by decide, by decide +kernel⟩
theorem lv_X7_laws : LV yX7_laws cX7_laws 9 (some .int) RX7 5 := ⟨all_in (w := Cond.code yX7_laws cX7_laws 9 (some .int)) 855 (by decide +kernel) (by decide +kernel), all_in (w := Cond.instanceMethod yX7_laws) 853 (by decide +kernel) (by decide +kernel), all_in (w := Cond.selects RX7 yX7_laws yX7_laws) 854 (by decide +kernel) (by decide +kernel), all_in (w := Cond.initialized RX7) 45 (by decide +kernel) (by decide +kernel), by decide, by decide, by decide +kernel⟩
theorem lv_X7_reading : LV yX7_reading cX7_reading 4 (some .int) RX7 3 := ⟨all_in (w := Cond.code yX7_reading cX7_reading 4 (some .int)) 863 (by decide +kernel) (by decide +kernel), all_in (w := Cond.instanceMethod yX7_reading) 861 (by decide +kernel) (by decide +kernel), all_in (w := Cond.selects RX7 yX7_reading yX7_reading) 862 (by decide +kernel) (by decide +kernel), all_in (w := Cond.initialized RX7) 45 (by decide +kernel) (by decide +kernel), by decide, by decide, by decide +kernel⟩
theorem lv_X7_back : LV yX7_back cX7_back 2 (some .int) RX7 1 := ⟨all_in (w := Cond.code yX7_back cX7_back 2 (some .int)) 867 (by decide +kernel) (by decide +kernel), all_in (w := Cond.instanceMethod yX7_back) 865 (by decide +kernel) (by decide +kernel), all_in (w := Cond.selects RX7 yX7_back yX7_back) 866 (by decide +kernel) (by decide +kernel), all_in (w := Cond.initialized RX7) 45 (by decide +kernel) (by decide +kernel), by decide, by decide, by decide +kernel⟩
theorem lv_X7_areSo : LV yX7_areSo cX7_areSo 3 (some .boolean) RX7 0 := ⟨all_in (w := Cond.code yX7_areSo cX7_areSo 3 (some .boolean)) 875 (by decide +kernel) (by decide +kernel), all_in (w := Cond.instanceMethod yX7_areSo) 874 (by decide +kernel) (by decide +kernel), all_in (w := Cond.selects RX7 yX7_areSo yX7_areSo) 33 (by decide +kernel) (by decide +kernel), all_in (w := Cond.initialized RX7) 45 (by decide +kernel) (by decide +kernel), by decide, by decide, by decide +kernel⟩
theorem lv_X7_paces : LV yX7_paces cX7_paces 5 (some .int) RX7 1 := ⟨all_in (w := Cond.code yX7_paces cX7_paces 5 (some .int)) 871 (by decide +kernel) (by decide +kernel), all_in (w := Cond.instanceMethod yX7_paces) 869 (by decide +kernel) (by decide +kernel), all_in (w := Cond.selects RX7 yX7_paces yX7_paces) 870 (by decide +kernel) (by decide +kernel), all_in (w := Cond.initialized RX7) 45 (by decide +kernel) (by decide +kernel), by decide, by decide, by decide +kernel⟩
theorem lv_X7_kinds : LV yX7_kinds cX7_kinds 5 (some .int) RX7 1 := ⟨all_in (w := Cond.code yX7_kinds cX7_kinds 5 (some .int)) 879 (by decide +kernel) (by decide +kernel), all_in (w := Cond.instanceMethod yX7_kinds) 877 (by decide +kernel) (by decide +kernel), all_in (w := Cond.selects RX7 yX7_kinds yX7_kinds) 878 (by decide +kernel) (by decide +kernel), all_in (w := Cond.initialized RX7) 45 (by decide +kernel) (by decide +kernel), by decide, by decide, by decide +kernel⟩
theorem lv_X7_square : LV yX7_square cX7_square 2 none RX7 0 := ⟨all_in (w := Cond.code yX7_square cX7_square 2 none) 892 (by decide +kernel) (by decide +kernel), all_in (w := Cond.instanceMethod yX7_square) 891 (by decide +kernel) (by decide +kernel), all_in (w := Cond.selects RX7 yX7_square yX7_square) 35 (by decide +kernel) (by decide +kernel), all_in (w := Cond.initialized RX7) 45 (by decide +kernel) (by decide +kernel), by decide, by decide, by decide +kernel⟩
theorem lv_X7_findFar : LV yX7_findFar cX7_findFar 4 none RX7 1 := ⟨all_in (w := Cond.code yX7_findFar cX7_findFar 4 none) 888 (by decide +kernel) (by decide +kernel), all_in (w := Cond.instanceMethod yX7_findFar) 887 (by decide +kernel) (by decide +kernel), all_in (w := Cond.selects RX7 yX7_findFar yX7_findFar) 34 (by decide +kernel) (by decide +kernel), all_in (w := Cond.initialized RX7) 45 (by decide +kernel) (by decide +kernel), by decide, by decide, by decide +kernel⟩
theorem lv_X7_starts : LV yX7_starts cX7_starts 7 (some .long) RX7 1 := ⟨all_in (w := Cond.code yX7_starts cX7_starts 7 (some .long)) 883 (by decide +kernel) (by decide +kernel), all_in (w := Cond.instanceMethod yX7_starts) 881 (by decide +kernel) (by decide +kernel), all_in (w := Cond.selects RX7 yX7_starts yX7_starts) 882 (by decide +kernel) (by decide +kernel), all_in (w := Cond.initialized RX7) 45 (by decide +kernel) (by decide +kernel), by decide, by decide, by decide +kernel⟩
theorem ls_X7_inLeastTerms : LSt yX7_inLeastTerms cX7_inLeastTerms 11 (some .long) 3 := ⟨all_in (w := Cond.code yX7_inLeastTerms cX7_inLeastTerms 11 (some .long)) 900 (by decide +kernel) (by decide +kernel), all_in (w := Cond.static yX7_inLeastTerms) 899 (by decide +kernel) (by decide +kernel), all_in (w := Cond.initialized RX7) 45 (by decide +kernel) (by decide +kernel), by decide, by decide, by decide +kernel⟩
theorem lv_X7_odds : LV yX7_odds cX7_odds 7 (some .long) RX7 4 := ⟨all_in (w := Cond.code yX7_odds cX7_odds 7 (some .long)) 896 (by decide +kernel) (by decide +kernel), all_in (w := Cond.instanceMethod yX7_odds) 894 (by decide +kernel) (by decide +kernel), all_in (w := Cond.selects RX7 yX7_odds yX7_odds) 895 (by decide +kernel) (by decide +kernel), all_in (w := Cond.initialized RX7) 45 (by decide +kernel) (by decide +kernel), by decide, by decide, by decide +kernel⟩
theorem lv_X7_sheet : LV yX7_sheet cX7_sheet 5 (some .int) RX7 3 := ⟨all_in (w := Cond.code yX7_sheet cX7_sheet 5 (some .int)) 904 (by decide +kernel) (by decide +kernel), all_in (w := Cond.instanceMethod yX7_sheet) 902 (by decide +kernel) (by decide +kernel), all_in (w := Cond.selects RX7 yX7_sheet yX7_sheet) 903 (by decide +kernel) (by decide +kernel), all_in (w := Cond.initialized RX7) 45 (by decide +kernel) (by decide +kernel), by decide, by decide, by decide +kernel⟩
theorem lv_X7_lose : LV yX7_lose cX7_lose 3 (some .int) RX7 1 := ⟨all_in (w := Cond.code yX7_lose cX7_lose 3 (some .int)) 908 (by decide +kernel) (by decide +kernel), all_in (w := Cond.instanceMethod yX7_lose) 906 (by decide +kernel) (by decide +kernel), all_in (w := Cond.selects RX7 yX7_lose yX7_lose) 907 (by decide +kernel) (by decide +kernel), all_in (w := Cond.initialized RX7) 45 (by decide +kernel) (by decide +kernel), by decide, by decide, by decide +kernel⟩
theorem lv_X7_put : LV yX7_put cX7_put 4 (some .int) RX7 3 := ⟨all_in (w := Cond.code yX7_put cX7_put 4 (some .int)) 912 (by decide +kernel) (by decide +kernel), all_in (w := Cond.instanceMethod yX7_put) 910 (by decide +kernel) (by decide +kernel), all_in (w := Cond.selects RX7 yX7_put yX7_put) 911 (by decide +kernel) (by decide +kernel), all_in (w := Cond.initialized RX7) 45 (by decide +kernel) (by decide +kernel), by decide, by decide, by decide +kernel⟩
theorem lv_X7_cell : LV yX7_cell cX7_cell 4 (some .long) RX7 3 := ⟨all_in (w := Cond.code yX7_cell cX7_cell 4 (some .long)) 916 (by decide +kernel) (by decide +kernel), all_in (w := Cond.instanceMethod yX7_cell) 914 (by decide +kernel) (by decide +kernel), all_in (w := Cond.selects RX7 yX7_cell yX7_cell) 915 (by decide +kernel) (by decide +kernel), all_in (w := Cond.initialized RX7) 45 (by decide +kernel) (by decide +kernel), by decide, by decide, by decide +kernel⟩
theorem lv_X7_copy : LV yX7_copy cX7_copy 10 (some .int) RX7 5 := ⟨all_in (w := Cond.code yX7_copy cX7_copy 10 (some .int)) 924 (by decide +kernel) (by decide +kernel), all_in (w := Cond.instanceMethod yX7_copy) 922 (by decide +kernel) (by decide +kernel), all_in (w := Cond.selects RX7 yX7_copy yX7_copy) 923 (by decide +kernel) (by decide +kernel), all_in (w := Cond.initialized RX7) 45 (by decide +kernel) (by decide +kernel), by decide, by decide, by decide +kernel⟩
theorem lv_X7_begins : LV yX7_begins cX7_begins 2 none RX7 1 := ⟨all_in (w := Cond.code yX7_begins cX7_begins 2 none) 932 (by decide +kernel) (by decide +kernel), all_in (w := Cond.instanceMethod yX7_begins) 931 (by decide +kernel) (by decide +kernel), all_in (w := Cond.selects RX7 yX7_begins yX7_begins) 37 (by decide +kernel) (by decide +kernel), all_in (w := Cond.initialized RX7) 45 (by decide +kernel) (by decide +kernel), by decide, by decide, by decide +kernel⟩
theorem lv_X7_tell : LV yX7_tell cX7_tell 3 (some .int) RX7 1 := ⟨all_in (w := Cond.code yX7_tell cX7_tell 3 (some .int)) 928 (by decide +kernel) (by decide +kernel), all_in (w := Cond.instanceMethod yX7_tell) 926 (by decide +kernel) (by decide +kernel), all_in (w := Cond.selects RX7 yX7_tell yX7_tell) 927 (by decide +kernel) (by decide +kernel), all_in (w := Cond.initialized RX7) 45 (by decide +kernel) (by decide +kernel), by decide, by decide, by decide +kernel⟩
theorem lv_X7_sign : LV yX7_sign cX7_sign 2 (some .int) RX7 1 := ⟨all_in (w := Cond.code yX7_sign cX7_sign 2 (some .int)) 936 (by decide +kernel) (by decide +kernel), all_in (w := Cond.instanceMethod yX7_sign) 934 (by decide +kernel) (by decide +kernel), all_in (w := Cond.selects RX7 yX7_sign yX7_sign) 935 (by decide +kernel) (by decide +kernel), all_in (w := Cond.initialized RX7) 45 (by decide +kernel) (by decide +kernel), by decide, by decide, by decide +kernel⟩
theorem lv_X7_as : LV yX7_as cX7_as 3 (some .int) RX7 2 := ⟨all_in (w := Cond.code yX7_as cX7_as 3 (some .int)) 940 (by decide +kernel) (by decide +kernel), all_in (w := Cond.instanceMethod yX7_as) 938 (by decide +kernel) (by decide +kernel), all_in (w := Cond.selects RX7 yX7_as yX7_as) 939 (by decide +kernel) (by decide +kernel), all_in (w := Cond.initialized RX7) 45 (by decide +kernel) (by decide +kernel), by decide, by decide, by decide +kernel⟩
theorem lv_X7_trace : LV yX7_trace cX7_trace 1 (some .int) RX7 0 := ⟨all_in (w := Cond.code yX7_trace cX7_trace 1 (some .int)) 944 (by decide +kernel) (by decide +kernel), all_in (w := Cond.instanceMethod yX7_trace) 942 (by decide +kernel) (by decide +kernel), all_in (w := Cond.selects RX7 yX7_trace yX7_trace) 943 (by decide +kernel) (by decide +kernel), all_in (w := Cond.initialized RX7) 45 (by decide +kernel) (by decide +kernel), by decide, by decide, by decide +kernel⟩
theorem lv_X7_fault : LV yX7_fault cX7_fault 1 (some .int) RX7 0 := ⟨all_in (w := Cond.code yX7_fault cX7_fault 1 (some .int)) 948 (by decide +kernel) (by decide +kernel), all_in (w := Cond.instanceMethod yX7_fault) 946 (by decide +kernel) (by decide +kernel), all_in (w := Cond.selects RX7 yX7_fault yX7_fault) 947 (by decide +kernel) (by decide +kernel), all_in (w := Cond.initialized RX7) 45 (by decide +kernel) (by decide +kernel), by decide, by decide, by decide +kernel⟩
theorem lv_X7_many : LV yX7_many cX7_many 2 (some .int) RX7 1 := ⟨all_in (w := Cond.code yX7_many cX7_many 2 (some .int)) 952 (by decide +kernel) (by decide +kernel), all_in (w := Cond.instanceMethod yX7_many) 950 (by decide +kernel) (by decide +kernel), all_in (w := Cond.selects RX7 yX7_many yX7_many) 951 (by decide +kernel) (by decide +kernel), all_in (w := Cond.initialized RX7) 45 (by decide +kernel) (by decide +kernel), by decide, by decide, by decide +kernel⟩
theorem cn_RJ6_265 : Cond.constant RJ6 265 (1431655765) ∈ ALL := all_in 313 (by decide +kernel) (by decide +kernel)
theorem cn_RJ6_266 : Cond.constant RJ6 266 (858993459) ∈ ALL := all_in 314 (by decide +kernel) (by decide +kernel)
theorem cn_RJ6_267 : Cond.constant RJ6 267 (252645135) ∈ ALL := all_in 315 (by decide +kernel) (by decide +kernel)
theorem cn_RJ13_314 : Cond.constantLong RJ13 314 (6148914691236517205) ∈ ALL := all_in 418 (by decide +kernel) (by decide +kernel)
theorem cn_RJ13_316 : Cond.constantLong RJ13 316 (3689348814741910323) ∈ ALL := all_in 419 (by decide +kernel) (by decide +kernel)
theorem cn_RJ13_318 : Cond.constantLong RJ13 318 (1085102592571150095) ∈ ALL := all_in 420 (by decide +kernel) (by decide +kernel)
theorem cn_RX6_177 : Cond.constantLong RX6 177 (-9223372036854775808) ∈ ALL := all_in 462 (by decide +kernel) (by decide +kernel)
theorem cn_RX7_59 : Cond.constantLong RX7 59 (-9223372036854775808) ∈ ALL := all_in 847 (by decide +kernel) (by decide +kernel)
theorem cn_RX7_197 : Cond.constantLong RX7 197 (-1) ∈ ALL := all_in 884 (by decide +kernel) (by decide +kernel)
theorem cn_RX7_202 : Cond.constantLong RX7 202 (64) ∈ ALL := all_in 897 (by decide +kernel) (by decide +kernel)
theorem jk_min : Cond.static Lib.Math.min.name ∈ ALL ∧ Cond.initialized "java/lang/Math" ∈ ALL ∧ Cond.code Lib.Math.min.name Lib.Math.min.code 2 (some .int) ∈ ALL := ⟨all_in 276 (by decide +kernel) (by decide +kernel), all_in 47 (by decide +kernel) (by decide +kernel), all_in 277 (by decide +kernel) (by decide +kernel)⟩
theorem jk_cpy : Cond.native arraycopyName ∈ ALL ∧ Cond.static arraycopyName ∈ ALL ∧ Cond.initialized "java/lang/System" ∈ ALL := ⟨all_in 348 (by decide +kernel) (by decide +kernel), all_in 347 (by decide +kernel) (by decide +kernel), all_in 49 (by decide +kernel) (by decide +kernel)⟩
end
