theorem dX0_init_0 : decode cX0_init 0 = .ok (.aload_n 0, 1) := by decide +kernel
theorem dX0_init_1 : decode cX0_init 1 = .ok (.invokespecial 3, 3) := by decide +kernel
theorem dX0_init_4 : decode cX0_init 4 = .ok (.aload_n 0, 1) := by decide +kernel
theorem dX0_init_5 : decode cX0_init 5 = .ok (.bipush 6, 2) := by decide +kernel
theorem dX0_init_7 : decode cX0_init 7 = .ok (.newarray .int, 2) := by decide +kernel
theorem dX0_init_9 : decode cX0_init 9 = .ok (.putfield 9, 3) := by decide +kernel
theorem dX0_init_12 : decode cX0_init 12 = .ok (.aload_n 0, 1) := by decide +kernel
theorem dX0_init_13 : decode cX0_init 13 = .ok (.bipush 6, 2) := by decide +kernel
theorem dX0_init_15 : decode cX0_init 15 = .ok (.newarray .int, 2) := by decide +kernel
theorem dX0_init_17 : decode cX0_init 17 = .ok (.putfield 15, 3) := by decide +kernel
theorem dX0_init_20 : decode cX0_init 20 = .ok (.aload_n 0, 1) := by decide +kernel
theorem dX0_init_21 : decode cX0_init 21 = .ok (.bipush 6, 2) := by decide +kernel
theorem dX0_init_23 : decode cX0_init 23 = .ok (.newarray .int, 2) := by decide +kernel
theorem dX0_init_25 : decode cX0_init 25 = .ok (.putfield 18, 3) := by decide +kernel
theorem dX0_init_28 : decode cX0_init 28 = .ok (.return_, 1) := by decide +kernel
theorem dX0_has_0 : decode cX0_has 0 = .ok (.iload_n 1, 1) := by decide +kernel
theorem dX0_has_1 : decode cX0_has 1 = .ok (.ifCond .lt 15, 3) := by decide +kernel
theorem dX0_has_4 : decode cX0_has 4 = .ok (.iload_n 1, 1) := by decide +kernel
theorem dX0_has_5 : decode cX0_has 5 = .ok (.aload_n 0, 1) := by decide +kernel
theorem dX0_has_6 : decode cX0_has 6 = .ok (.getfield 21, 3) := by decide +kernel
theorem dX0_has_9 : decode cX0_has 9 = .ok (.if_icmp .ge 7, 3) := by decide +kernel
theorem dX0_has_12 : decode cX0_has 12 = .ok (.iconst 1, 1) := by decide +kernel
theorem dX0_has_13 : decode cX0_has 13 = .ok (.goto 4, 3) := by decide +kernel
theorem dX0_has_16 : decode cX0_has 16 = .ok (.iconst 0, 1) := by decide +kernel
theorem dX0_has_17 : decode cX0_has 17 = .ok (.ireturn, 1) := by decide +kernel
theorem dX0_begin_0 : decode cX0_begin 0 = .ok (.aload_n 0, 1) := by decide +kernel
theorem dX0_begin_1 : decode cX0_begin 1 = .ok (.iload_n 3, 1) := by decide +kernel
theorem dX0_begin_2 : decode cX0_begin 2 = .ok (.invokestatic 25, 3) := by decide +kernel
theorem dX0_begin_5 : decode cX0_begin 5 = .ok (.bipush 6, 2) := by decide +kernel
theorem dX0_begin_7 : decode cX0_begin 7 = .ok (.invokestatic 31, 3) := by decide +kernel
theorem dX0_begin_10 : decode cX0_begin 10 = .ok (.putfield 21, 3) := by decide +kernel
theorem dX0_begin_13 : decode cX0_begin 13 = .ok (.aload_n 0, 1) := by decide +kernel
theorem dX0_begin_14 : decode cX0_begin 14 = .ok (.iconst 0, 1) := by decide +kernel
theorem dX0_begin_15 : decode cX0_begin 15 = .ok (.putfield 37, 3) := by decide +kernel
theorem dX0_begin_18 : decode cX0_begin 18 = .ok (.aload_n 0, 1) := by decide +kernel
theorem dX0_begin_19 : decode cX0_begin 19 = .ok (.iconst 0, 1) := by decide +kernel
theorem dX0_begin_20 : decode cX0_begin 20 = .ok (.putfield 40, 3) := by decide +kernel
theorem dX0_begin_23 : decode cX0_begin 23 = .ok (.iconst 0, 1) := by decide +kernel
theorem dX0_begin_24 : decode cX0_begin 24 = .ok (.istore 4, 2) := by decide +kernel
theorem dX0_begin_26 : decode cX0_begin 26 = .ok (.iload 4, 2) := by decide +kernel
theorem dX0_begin_28 : decode cX0_begin 28 = .ok (.aload_n 0, 1) := by decide +kernel
theorem dX0_begin_29 : decode cX0_begin 29 = .ok (.getfield 21, 3) := by decide +kernel
theorem dX0_begin_32 : decode cX0_begin 32 = .ok (.if_icmp .ge 51, 3) := by decide +kernel
theorem dX0_begin_35 : decode cX0_begin 35 = .ok (.aload_n 0, 1) := by decide +kernel
theorem dX0_begin_36 : decode cX0_begin 36 = .ok (.getfield 9, 3) := by decide +kernel
theorem dX0_begin_39 : decode cX0_begin 39 = .ok (.iload 4, 2) := by decide +kernel
theorem dX0_begin_41 : decode cX0_begin 41 = .ok (.aload_n 1, 1) := by decide +kernel
theorem dX0_begin_42 : decode cX0_begin 42 = .ok (.iload_n 2, 1) := by decide +kernel
theorem dX0_begin_43 : decode cX0_begin 43 = .ok (.iload 4, 2) := by decide +kernel
theorem dX0_begin_45 : decode cX0_begin 45 = .ok (.invokestatic 43, 3) := by decide +kernel
theorem dX0_begin_48 : decode cX0_begin 48 = .ok (.iastore, 1) := by decide +kernel
theorem dX0_begin_49 : decode cX0_begin 49 = .ok (.aload_n 0, 1) := by decide +kernel
theorem dX0_begin_50 : decode cX0_begin 50 = .ok (.getfield 15, 3) := by decide +kernel
theorem dX0_begin_53 : decode cX0_begin 53 = .ok (.iload 4, 2) := by decide +kernel
theorem dX0_begin_55 : decode cX0_begin 55 = .ok (.aload_n 1, 1) := by decide +kernel
theorem dX0_begin_56 : decode cX0_begin 56 = .ok (.iload_n 2, 1) := by decide +kernel
theorem dX0_begin_57 : decode cX0_begin 57 = .ok (.iload 4, 2) := by decide +kernel
theorem dX0_begin_59 : decode cX0_begin 59 = .ok (.invokestatic 46, 3) := by decide +kernel
theorem dX0_begin_62 : decode cX0_begin 62 = .ok (.iastore, 1) := by decide +kernel
theorem dX0_begin_63 : decode cX0_begin 63 = .ok (.aload_n 0, 1) := by decide +kernel
theorem dX0_begin_64 : decode cX0_begin 64 = .ok (.getfield 18, 3) := by decide +kernel
theorem dX0_begin_67 : decode cX0_begin 67 = .ok (.iload 4, 2) := by decide +kernel
theorem dX0_begin_69 : decode cX0_begin 69 = .ok (.aload_n 1, 1) := by decide +kernel
theorem dX0_begin_70 : decode cX0_begin 70 = .ok (.iload_n 2, 1) := by decide +kernel
theorem dX0_begin_71 : decode cX0_begin 71 = .ok (.iload 4, 2) := by decide +kernel
theorem dX0_begin_73 : decode cX0_begin 73 = .ok (.invokestatic 48, 3) := by decide +kernel
theorem dX0_begin_76 : decode cX0_begin 76 = .ok (.iastore, 1) := by decide +kernel
theorem dX0_begin_77 : decode cX0_begin 77 = .ok (.iinc 4 1, 3) := by decide +kernel
theorem dX0_begin_80 : decode cX0_begin 80 = .ok (.goto (-54), 3) := by decide +kernel
theorem dX0_begin_83 : decode cX0_begin 83 = .ok (.return_, 1) := by decide +kernel
theorem dX0_copyFrom_0 : decode cX0_copyFrom 0 = .ok (.aload_n 0, 1) := by decide +kernel
theorem dX0_copyFrom_1 : decode cX0_copyFrom 1 = .ok (.aload_n 1, 1) := by decide +kernel
theorem dX0_copyFrom_2 : decode cX0_copyFrom 2 = .ok (.getfield 21, 3) := by decide +kernel
theorem dX0_copyFrom_5 : decode cX0_copyFrom 5 = .ok (.putfield 21, 3) := by decide +kernel
theorem dX0_copyFrom_8 : decode cX0_copyFrom 8 = .ok (.aload_n 0, 1) := by decide +kernel
theorem dX0_copyFrom_9 : decode cX0_copyFrom 9 = .ok (.aload_n 1, 1) := by decide +kernel
theorem dX0_copyFrom_10 : decode cX0_copyFrom 10 = .ok (.getfield 37, 3) := by decide +kernel
theorem dX0_copyFrom_13 : decode cX0_copyFrom 13 = .ok (.putfield 37, 3) := by decide +kernel
theorem dX0_copyFrom_16 : decode cX0_copyFrom 16 = .ok (.aload_n 0, 1) := by decide +kernel
theorem dX0_copyFrom_17 : decode cX0_copyFrom 17 = .ok (.aload_n 1, 1) := by decide +kernel
theorem dX0_copyFrom_18 : decode cX0_copyFrom 18 = .ok (.getfield 40, 3) := by decide +kernel
theorem dX0_copyFrom_21 : decode cX0_copyFrom 21 = .ok (.putfield 40, 3) := by decide +kernel
theorem dX0_copyFrom_24 : decode cX0_copyFrom 24 = .ok (.aload_n 1, 1) := by decide +kernel
theorem dX0_copyFrom_25 : decode cX0_copyFrom 25 = .ok (.getfield 9, 3) := by decide +kernel
theorem dX0_copyFrom_28 : decode cX0_copyFrom 28 = .ok (.iconst 0, 1) := by decide +kernel
theorem dX0_copyFrom_29 : decode cX0_copyFrom 29 = .ok (.aload_n 0, 1) := by decide +kernel
theorem dX0_copyFrom_30 : decode cX0_copyFrom 30 = .ok (.getfield 9, 3) := by decide +kernel
theorem dX0_copyFrom_33 : decode cX0_copyFrom 33 = .ok (.iconst 0, 1) := by decide +kernel
theorem dX0_copyFrom_34 : decode cX0_copyFrom 34 = .ok (.bipush 6, 2) := by decide +kernel
theorem dX0_copyFrom_36 : decode cX0_copyFrom 36 = .ok (.invokestatic 50, 3) := by decide +kernel
theorem dX0_copyFrom_39 : decode cX0_copyFrom 39 = .ok (.aload_n 1, 1) := by decide +kernel
theorem dX0_copyFrom_40 : decode cX0_copyFrom 40 = .ok (.getfield 15, 3) := by decide +kernel
theorem dX0_copyFrom_43 : decode cX0_copyFrom 43 = .ok (.iconst 0, 1) := by decide +kernel
theorem dX0_copyFrom_44 : decode cX0_copyFrom 44 = .ok (.aload_n 0, 1) := by decide +kernel
theorem dX0_copyFrom_45 : decode cX0_copyFrom 45 = .ok (.getfield 15, 3) := by decide +kernel
theorem dX0_copyFrom_48 : decode cX0_copyFrom 48 = .ok (.iconst 0, 1) := by decide +kernel
theorem dX0_copyFrom_49 : decode cX0_copyFrom 49 = .ok (.bipush 6, 2) := by decide +kernel
theorem dX0_copyFrom_51 : decode cX0_copyFrom 51 = .ok (.invokestatic 50, 3) := by decide +kernel
theorem dX0_copyFrom_54 : decode cX0_copyFrom 54 = .ok (.aload_n 1, 1) := by decide +kernel
theorem dX0_copyFrom_55 : decode cX0_copyFrom 55 = .ok (.getfield 18, 3) := by decide +kernel
theorem dX0_copyFrom_58 : decode cX0_copyFrom 58 = .ok (.iconst 0, 1) := by decide +kernel
theorem dX0_copyFrom_59 : decode cX0_copyFrom 59 = .ok (.aload_n 0, 1) := by decide +kernel
theorem dX0_copyFrom_60 : decode cX0_copyFrom 60 = .ok (.getfield 18, 3) := by decide +kernel
theorem dX0_copyFrom_63 : decode cX0_copyFrom 63 = .ok (.iconst 0, 1) := by decide +kernel
theorem dX0_copyFrom_64 : decode cX0_copyFrom 64 = .ok (.bipush 6, 2) := by decide +kernel
theorem dX0_copyFrom_66 : decode cX0_copyFrom 66 = .ok (.invokestatic 50, 3) := by decide +kernel
theorem dX0_copyFrom_69 : decode cX0_copyFrom 69 = .ok (.return_, 1) := by decide +kernel
theorem dX0_stepsADay_0 : decode cX0_stepsADay 0 = .ok (.aload_n 0, 1) := by decide +kernel
theorem dX0_stepsADay_1 : decode cX0_stepsADay 1 = .ok (.getfield 9, 3) := by decide +kernel
theorem dX0_stepsADay_4 : decode cX0_stepsADay 4 = .ok (.iload_n 1, 1) := by decide +kernel
theorem dX0_stepsADay_5 : decode cX0_stepsADay 5 = .ok (.iaload, 1) := by decide +kernel
theorem dX0_stepsADay_6 : decode cX0_stepsADay 6 = .ok (.lookupswitch 44 #[(1, 35), (2, 26)], 26) := by decide +kernel
theorem dX0_stepsADay_32 : decode cX0_stepsADay 32 = .ok (.iconst 2, 1) := by decide +kernel
theorem dX0_stepsADay_33 : decode cX0_stepsADay 33 = .ok (.aload_n 0, 1) := by decide +kernel
theorem dX0_stepsADay_34 : decode cX0_stepsADay 34 = .ok (.getfield 18, 3) := by decide +kernel
theorem dX0_stepsADay_37 : decode cX0_stepsADay 37 = .ok (.iload_n 1, 1) := by decide +kernel
theorem dX0_stepsADay_38 : decode cX0_stepsADay 38 = .ok (.iaload, 1) := by decide +kernel
theorem dX0_stepsADay_39 : decode cX0_stepsADay 39 = .ok (.imul, 1) := by decide +kernel
theorem dX0_stepsADay_40 : decode cX0_stepsADay 40 = .ok (.ireturn, 1) := by decide +kernel
theorem dX0_stepsADay_41 : decode cX0_stepsADay 41 = .ok (.aload_n 0, 1) := by decide +kernel
theorem dX0_stepsADay_42 : decode cX0_stepsADay 42 = .ok (.getfield 18, 3) := by decide +kernel
theorem dX0_stepsADay_45 : decode cX0_stepsADay 45 = .ok (.iload_n 1, 1) := by decide +kernel
theorem dX0_stepsADay_46 : decode cX0_stepsADay 46 = .ok (.iaload, 1) := by decide +kernel
theorem dX0_stepsADay_47 : decode cX0_stepsADay 47 = .ok (.iconst 1, 1) := by decide +kernel
theorem dX0_stepsADay_48 : decode cX0_stepsADay 48 = .ok (.iadd, 1) := by decide +kernel
theorem dX0_stepsADay_49 : decode cX0_stepsADay 49 = .ok (.ireturn, 1) := by decide +kernel
theorem dX0_stepsADay_50 : decode cX0_stepsADay 50 = .ok (.aload_n 0, 1) := by decide +kernel
theorem dX0_stepsADay_51 : decode cX0_stepsADay 51 = .ok (.getfield 18, 3) := by decide +kernel
theorem dX0_stepsADay_54 : decode cX0_stepsADay 54 = .ok (.iload_n 1, 1) := by decide +kernel
theorem dX0_stepsADay_55 : decode cX0_stepsADay 55 = .ok (.iaload, 1) := by decide +kernel
theorem dX0_stepsADay_56 : decode cX0_stepsADay 56 = .ok (.ireturn, 1) := by decide +kernel
theorem dX0_goOn_0 : decode cX0_goOn 0 = .ok (.iconst 0, 1) := by decide +kernel
theorem dX0_goOn_1 : decode cX0_goOn 1 = .ok (.istore_n 2, 1) := by decide +kernel
theorem dX0_goOn_2 : decode cX0_goOn 2 = .ok (.iload_n 2, 1) := by decide +kernel
theorem dX0_goOn_3 : decode cX0_goOn 3 = .ok (.aload_n 0, 1) := by decide +kernel
theorem dX0_goOn_4 : decode cX0_goOn 4 = .ok (.getfield 21, 3) := by decide +kernel
theorem dX0_goOn_7 : decode cX0_goOn 7 = .ok (.if_icmp .ge 38, 3) := by decide +kernel
theorem dX0_goOn_10 : decode cX0_goOn 10 = .ok (.aload_n 0, 1) := by decide +kernel
theorem dX0_goOn_11 : decode cX0_goOn 11 = .ok (.iload_n 2, 1) := by decide +kernel
theorem dX0_goOn_12 : decode cX0_goOn 12 = .ok (.invokevirtual 56, 3) := by decide +kernel
theorem dX0_goOn_15 : decode cX0_goOn 15 = .ok (.ifCond .ne 24, 3) := by decide +kernel
theorem dX0_goOn_18 : decode cX0_goOn 18 = .ok (.aload_n 0, 1) := by decide +kernel
theorem dX0_goOn_19 : decode cX0_goOn 19 = .ok (.getfield 15, 3) := by decide +kernel
theorem dX0_goOn_22 : decode cX0_goOn 22 = .ok (.iload_n 2, 1) := by decide +kernel
theorem dX0_goOn_23 : decode cX0_goOn 23 = .ok (.aload_n 1, 1) := by decide +kernel
theorem dX0_goOn_24 : decode cX0_goOn 24 = .ok (.aload_n 0, 1) := by decide +kernel
theorem dX0_goOn_25 : decode cX0_goOn 25 = .ok (.getfield 15, 3) := by decide +kernel
theorem dX0_goOn_28 : decode cX0_goOn 28 = .ok (.iload_n 2, 1) := by decide +kernel
theorem dX0_goOn_29 : decode cX0_goOn 29 = .ok (.iaload, 1) := by decide +kernel
theorem dX0_goOn_30 : decode cX0_goOn 30 = .ok (.aload_n 0, 1) := by decide +kernel
theorem dX0_goOn_31 : decode cX0_goOn 31 = .ok (.iload_n 2, 1) := by decide +kernel
theorem dX0_goOn_32 : decode cX0_goOn 32 = .ok (.invokevirtual 60, 3) := by decide +kernel
theorem dX0_goOn_35 : decode cX0_goOn 35 = .ok (.invokevirtual 63, 3) := by decide +kernel
theorem dX0_goOn_38 : decode cX0_goOn 38 = .ok (.iastore, 1) := by decide +kernel
theorem dX0_goOn_39 : decode cX0_goOn 39 = .ok (.iinc 2 1, 3) := by decide +kernel
theorem dX0_goOn_42 : decode cX0_goOn 42 = .ok (.goto (-40), 3) := by decide +kernel
theorem dX0_goOn_45 : decode cX0_goOn 45 = .ok (.aload_n 0, 1) := by decide +kernel
theorem dX0_goOn_46 : decode cX0_goOn 46 = .ok (.dup, 1) := by decide +kernel
theorem dX0_goOn_47 : decode cX0_goOn 47 = .ok (.getfield 37, 3) := by decide +kernel
theorem dX0_goOn_50 : decode cX0_goOn 50 = .ok (.iconst 1, 1) := by decide +kernel
theorem dX0_goOn_51 : decode cX0_goOn 51 = .ok (.iadd, 1) := by decide +kernel
theorem dX0_goOn_52 : decode cX0_goOn 52 = .ok (.putfield 37, 3) := by decide +kernel
theorem dX0_goOn_55 : decode cX0_goOn 55 = .ok (.return_, 1) := by decide +kernel
theorem dX0_isLookedAt_0 : decode cX0_isLookedAt 0 = .ok (.aload_n 0, 1) := by decide +kernel
theorem dX0_isLookedAt_1 : decode cX0_isLookedAt 1 = .ok (.getfield 40, 3) := by decide +kernel
theorem dX0_isLookedAt_4 : decode cX0_isLookedAt 4 = .ok (.iload_n 1, 1) := by decide +kernel
theorem dX0_isLookedAt_5 : decode cX0_isLookedAt 5 = .ok (.ishr, 1) := by decide +kernel
theorem dX0_isLookedAt_6 : decode cX0_isLookedAt 6 = .ok (.iconst 1, 1) := by decide +kernel
theorem dX0_isLookedAt_7 : decode cX0_isLookedAt 7 = .ok (.iand, 1) := by decide +kernel
theorem dX0_isLookedAt_8 : decode cX0_isLookedAt 8 = .ok (.iconst 1, 1) := by decide +kernel
theorem dX0_isLookedAt_9 : decode cX0_isLookedAt 9 = .ok (.if_icmp .ne 7, 3) := by decide +kernel
theorem dX0_isLookedAt_12 : decode cX0_isLookedAt 12 = .ok (.iconst 1, 1) := by decide +kernel
theorem dX0_isLookedAt_13 : decode cX0_isLookedAt 13 = .ok (.goto 4, 3) := by decide +kernel
theorem dX0_isLookedAt_16 : decode cX0_isLookedAt 16 = .ok (.iconst 0, 1) := by decide +kernel
theorem dX0_isLookedAt_17 : decode cX0_isLookedAt 17 = .ok (.ireturn, 1) := by decide +kernel
theorem dX0_lookAt_0 : decode cX0_lookAt 0 = .ok (.aload_n 0, 1) := by decide +kernel
theorem dX0_lookAt_1 : decode cX0_lookAt 1 = .ok (.iload_n 1, 1) := by decide +kernel
theorem dX0_lookAt_2 : decode cX0_lookAt 2 = .ok (.invokevirtual 56, 3) := by decide +kernel
theorem dX0_lookAt_5 : decode cX0_lookAt 5 = .ok (.ifCond .ne 7, 3) := by decide +kernel
theorem dX0_lookAt_8 : decode cX0_lookAt 8 = .ok (.iconst 1, 1) := by decide +kernel
theorem dX0_lookAt_9 : decode cX0_lookAt 9 = .ok (.goto 4, 3) := by decide +kernel
theorem dX0_lookAt_12 : decode cX0_lookAt 12 = .ok (.iconst 0, 1) := by decide +kernel
theorem dX0_lookAt_13 : decode cX0_lookAt 13 = .ok (.istore_n 2, 1) := by decide +kernel
theorem dX0_lookAt_14 : decode cX0_lookAt 14 = .ok (.aload_n 0, 1) := by decide +kernel
theorem dX0_lookAt_15 : decode cX0_lookAt 15 = .ok (.dup, 1) := by decide +kernel
theorem dX0_lookAt_16 : decode cX0_lookAt 16 = .ok (.getfield 40, 3) := by decide +kernel
theorem dX0_lookAt_19 : decode cX0_lookAt 19 = .ok (.iconst 1, 1) := by decide +kernel
theorem dX0_lookAt_20 : decode cX0_lookAt 20 = .ok (.iload_n 1, 1) := by decide +kernel
theorem dX0_lookAt_21 : decode cX0_lookAt 21 = .ok (.ishl, 1) := by decide +kernel
theorem dX0_lookAt_22 : decode cX0_lookAt 22 = .ok (.ior, 1) := by decide +kernel
theorem dX0_lookAt_23 : decode cX0_lookAt 23 = .ok (.putfield 40, 3) := by decide +kernel
theorem dX0_lookAt_26 : decode cX0_lookAt 26 = .ok (.iload_n 2, 1) := by decide +kernel
theorem dX0_lookAt_27 : decode cX0_lookAt 27 = .ok (.ireturn, 1) := by decide +kernel
theorem dX0_lookAwayFrom_0 : decode cX0_lookAwayFrom 0 = .ok (.aload_n 0, 1) := by decide +kernel
theorem dX0_lookAwayFrom_1 : decode cX0_lookAwayFrom 1 = .ok (.iload_n 1, 1) := by decide +kernel
theorem dX0_lookAwayFrom_2 : decode cX0_lookAwayFrom 2 = .ok (.invokevirtual 56, 3) := by decide +kernel
theorem dX0_lookAwayFrom_5 : decode cX0_lookAwayFrom 5 = .ok (.istore_n 2, 1) := by decide +kernel
theorem dX0_lookAwayFrom_6 : decode cX0_lookAwayFrom 6 = .ok (.aload_n 0, 1) := by decide +kernel
theorem dX0_lookAwayFrom_7 : decode cX0_lookAwayFrom 7 = .ok (.dup, 1) := by decide +kernel
theorem dX0_lookAwayFrom_8 : decode cX0_lookAwayFrom 8 = .ok (.getfield 40, 3) := by decide +kernel
theorem dX0_lookAwayFrom_11 : decode cX0_lookAwayFrom 11 = .ok (.iconst 1, 1) := by decide +kernel
theorem dX0_lookAwayFrom_12 : decode cX0_lookAwayFrom 12 = .ok (.iload_n 1, 1) := by decide +kernel
theorem dX0_lookAwayFrom_13 : decode cX0_lookAwayFrom 13 = .ok (.ishl, 1) := by decide +kernel
theorem dX0_lookAwayFrom_14 : decode cX0_lookAwayFrom 14 = .ok (.iconst (-1), 1) := by decide +kernel
theorem dX0_lookAwayFrom_15 : decode cX0_lookAwayFrom 15 = .ok (.ixor, 1) := by decide +kernel
theorem dX0_lookAwayFrom_16 : decode cX0_lookAwayFrom 16 = .ok (.iand, 1) := by decide +kernel
theorem dX0_lookAwayFrom_17 : decode cX0_lookAwayFrom 17 = .ok (.putfield 40, 3) := by decide +kernel
theorem dX0_lookAwayFrom_20 : decode cX0_lookAwayFrom 20 = .ok (.iload_n 2, 1) := by decide +kernel
theorem dX0_lookAwayFrom_21 : decode cX0_lookAwayFrom 21 = .ok (.ireturn, 1) := by decide +kernel
theorem dX0_strikeAt_0 : decode cX0_strikeAt 0 = .ok (.aload_n 0, 1) := by decide +kernel
theorem dX0_strikeAt_1 : decode cX0_strikeAt 1 = .ok (.getfield 15, 3) := by decide +kernel
theorem dX0_strikeAt_4 : decode cX0_strikeAt 4 = .ok (.iload_n 1, 1) := by decide +kernel
theorem dX0_strikeAt_5 : decode cX0_strikeAt 5 = .ok (.dup2, 1) := by decide +kernel
theorem dX0_strikeAt_6 : decode cX0_strikeAt 6 = .ok (.iaload, 1) := by decide +kernel
theorem dX0_strikeAt_7 : decode cX0_strikeAt 7 = .ok (.iconst 1, 1) := by decide +kernel
theorem dX0_strikeAt_8 : decode cX0_strikeAt 8 = .ok (.iload_n 2, 1) := by decide +kernel
theorem dX0_strikeAt_9 : decode cX0_strikeAt 9 = .ok (.ishl, 1) := by decide +kernel
theorem dX0_strikeAt_10 : decode cX0_strikeAt 10 = .ok (.ixor, 1) := by decide +kernel
theorem dX0_strikeAt_11 : decode cX0_strikeAt 11 = .ok (.iastore, 1) := by decide +kernel
theorem dX0_strikeAt_12 : decode cX0_strikeAt 12 = .ok (.return_, 1) := by decide +kernel
theorem dX0_twoAreAlike_0 : decode cX0_twoAreAlike 0 = .ok (.lconst 0, 1) := by decide +kernel
theorem dX0_twoAreAlike_1 : decode cX0_twoAreAlike 1 = .ok (.lstore_n 1, 1) := by decide +kernel
theorem dX0_twoAreAlike_2 : decode cX0_twoAreAlike 2 = .ok (.iconst 0, 1) := by decide +kernel
theorem dX0_twoAreAlike_3 : decode cX0_twoAreAlike 3 = .ok (.istore_n 3, 1) := by decide +kernel
theorem dX0_twoAreAlike_4 : decode cX0_twoAreAlike 4 = .ok (.iload_n 3, 1) := by decide +kernel
theorem dX0_twoAreAlike_5 : decode cX0_twoAreAlike 5 = .ok (.aload_n 0, 1) := by decide +kernel
theorem dX0_twoAreAlike_6 : decode cX0_twoAreAlike 6 = .ok (.getfield 21, 3) := by decide +kernel
theorem dX0_twoAreAlike_9 : decode cX0_twoAreAlike 9 = .ok (.if_icmp .ge 20, 3) := by decide +kernel
theorem dX0_twoAreAlike_12 : decode cX0_twoAreAlike 12 = .ok (.lload_n 1, 1) := by decide +kernel
theorem dX0_twoAreAlike_13 : decode cX0_twoAreAlike 13 = .ok (.lconst 1, 1) := by decide +kernel
theorem dX0_twoAreAlike_14 : decode cX0_twoAreAlike 14 = .ok (.aload_n 0, 1) := by decide +kernel
theorem dX0_twoAreAlike_15 : decode cX0_twoAreAlike 15 = .ok (.getfield 15, 3) := by decide +kernel
theorem dX0_twoAreAlike_18 : decode cX0_twoAreAlike 18 = .ok (.iload_n 3, 1) := by decide +kernel
theorem dX0_twoAreAlike_19 : decode cX0_twoAreAlike 19 = .ok (.iaload, 1) := by decide +kernel
theorem dX0_twoAreAlike_20 : decode cX0_twoAreAlike 20 = .ok (.lshl, 1) := by decide +kernel
theorem dX0_twoAreAlike_21 : decode cX0_twoAreAlike 21 = .ok (.lor, 1) := by decide +kernel
theorem dX0_twoAreAlike_22 : decode cX0_twoAreAlike 22 = .ok (.lstore_n 1, 1) := by decide +kernel
theorem dX0_twoAreAlike_23 : decode cX0_twoAreAlike 23 = .ok (.iinc 3 1, 3) := by decide +kernel
theorem dX0_twoAreAlike_26 : decode cX0_twoAreAlike 26 = .ok (.goto (-22), 3) := by decide +kernel
theorem dX0_twoAreAlike_29 : decode cX0_twoAreAlike 29 = .ok (.lload_n 1, 1) := by decide +kernel
theorem dX0_twoAreAlike_30 : decode cX0_twoAreAlike 30 = .ok (.invokestatic 68, 3) := by decide +kernel
theorem dX0_twoAreAlike_33 : decode cX0_twoAreAlike 33 = .ok (.aload_n 0, 1) := by decide +kernel
theorem dX0_twoAreAlike_34 : decode cX0_twoAreAlike 34 = .ok (.getfield 21, 3) := by decide +kernel
theorem dX0_twoAreAlike_37 : decode cX0_twoAreAlike 37 = .ok (.if_icmp .ge 7, 3) := by decide +kernel
theorem dX0_twoAreAlike_40 : decode cX0_twoAreAlike 40 = .ok (.iconst 1, 1) := by decide +kernel
theorem dX0_twoAreAlike_41 : decode cX0_twoAreAlike 41 = .ok (.goto 4, 3) := by decide +kernel
theorem dX0_twoAreAlike_44 : decode cX0_twoAreAlike 44 = .ok (.iconst 0, 1) := by decide +kernel
theorem dX0_twoAreAlike_45 : decode cX0_twoAreAlike 45 = .ok (.ireturn, 1) := by decide +kernel
theorem dX0_cellsSet_0 : decode cX0_cellsSet 0 = .ok (.iconst 0, 1) := by decide +kernel
theorem dX0_cellsSet_1 : decode cX0_cellsSet 1 = .ok (.istore_n 1, 1) := by decide +kernel
theorem dX0_cellsSet_2 : decode cX0_cellsSet 2 = .ok (.iconst 0, 1) := by decide +kernel
theorem dX0_cellsSet_3 : decode cX0_cellsSet 3 = .ok (.istore_n 2, 1) := by decide +kernel
theorem dX0_cellsSet_4 : decode cX0_cellsSet 4 = .ok (.iload_n 2, 1) := by decide +kernel
theorem dX0_cellsSet_5 : decode cX0_cellsSet 5 = .ok (.aload_n 0, 1) := by decide +kernel
theorem dX0_cellsSet_6 : decode cX0_cellsSet 6 = .ok (.getfield 21, 3) := by decide +kernel
theorem dX0_cellsSet_9 : decode cX0_cellsSet 9 = .ok (.if_icmp .ge 21, 3) := by decide +kernel
theorem dX0_cellsSet_12 : decode cX0_cellsSet 12 = .ok (.iload_n 1, 1) := by decide +kernel
theorem dX0_cellsSet_13 : decode cX0_cellsSet 13 = .ok (.aload_n 0, 1) := by decide +kernel
theorem dX0_cellsSet_14 : decode cX0_cellsSet 14 = .ok (.getfield 15, 3) := by decide +kernel
theorem dX0_cellsSet_17 : decode cX0_cellsSet 17 = .ok (.iload_n 2, 1) := by decide +kernel
theorem dX0_cellsSet_18 : decode cX0_cellsSet 18 = .ok (.iaload, 1) := by decide +kernel
theorem dX0_cellsSet_19 : decode cX0_cellsSet 19 = .ok (.invokestatic 74, 3) := by decide +kernel
theorem dX0_cellsSet_22 : decode cX0_cellsSet 22 = .ok (.iadd, 1) := by decide +kernel
theorem dX0_cellsSet_23 : decode cX0_cellsSet 23 = .ok (.istore_n 1, 1) := by decide +kernel
theorem dX0_cellsSet_24 : decode cX0_cellsSet 24 = .ok (.iinc 2 1, 3) := by decide +kernel
theorem dX0_cellsSet_27 : decode cX0_cellsSet 27 = .ok (.goto (-23), 3) := by decide +kernel
theorem dX0_cellsSet_30 : decode cX0_cellsSet 30 = .ok (.iload_n 1, 1) := by decide +kernel
theorem dX0_cellsSet_31 : decode cX0_cellsSet 31 = .ok (.ireturn, 1) := by decide +kernel
theorem dX1_init_0 : decode cX1_init 0 = .ok (.aload_n 0, 1) := by decide +kernel
theorem dX1_init_1 : decode cX1_init 1 = .ok (.invokespecial 3, 3) := by decide +kernel
theorem dX1_init_4 : decode cX1_init 4 = .ok (.aload_n 0, 1) := by decide +kernel
theorem dX1_init_5 : decode cX1_init 5 = .ok (.sipush 576, 3) := by decide +kernel
theorem dX1_init_8 : decode cX1_init 8 = .ok (.newarray .int, 2) := by decide +kernel
theorem dX1_init_10 : decode cX1_init 10 = .ok (.putfield 9, 3) := by decide +kernel
theorem dX1_init_13 : decode cX1_init 13 = .ok (.return_, 1) := by decide +kernel
theorem dX1_fix_0 : decode cX1_fix 0 = .ok (.aload_n 0, 1) := by decide +kernel
theorem dX1_fix_1 : decode cX1_fix 1 = .ok (.iload_n 1, 1) := by decide +kernel
theorem dX1_fix_2 : decode cX1_fix 2 = .ok (.putfield 15, 3) := by decide +kernel
theorem dX1_fix_5 : decode cX1_fix 5 = .ok (.iconst 0, 1) := by decide +kernel
theorem dX1_fix_6 : decode cX1_fix 6 = .ok (.istore_n 2, 1) := by decide +kernel
theorem dX1_fix_7 : decode cX1_fix 7 = .ok (.iload_n 2, 1) := by decide +kernel
theorem dX1_fix_8 : decode cX1_fix 8 = .ok (.bipush 64, 2) := by decide +kernel
theorem dX1_fix_10 : decode cX1_fix 10 = .ok (.if_icmp .ge 30, 3) := by decide +kernel
theorem dX1_fix_13 : decode cX1_fix 13 = .ok (.aload_n 0, 1) := by decide +kernel
theorem dX1_fix_14 : decode cX1_fix 14 = .ok (.getfield 9, 3) := by decide +kernel
theorem dX1_fix_17 : decode cX1_fix 17 = .ok (.iload_n 2, 1) := by decide +kernel
theorem dX1_fix_18 : decode cX1_fix 18 = .ok (.iload_n 2, 1) := by decide +kernel
theorem dX1_fix_19 : decode cX1_fix 19 = .ok (.iastore, 1) := by decide +kernel
theorem dX1_fix_20 : decode cX1_fix 20 = .ok (.aload_n 0, 1) := by decide +kernel
theorem dX1_fix_21 : decode cX1_fix 21 = .ok (.getfield 9, 3) := by decide +kernel
theorem dX1_fix_24 : decode cX1_fix 24 = .ok (.bipush 64, 2) := by decide +kernel
theorem dX1_fix_26 : decode cX1_fix 26 = .ok (.iload_n 2, 1) := by decide +kernel
theorem dX1_fix_27 : decode cX1_fix 27 = .ok (.iadd, 1) := by decide +kernel
theorem dX1_fix_28 : decode cX1_fix 28 = .ok (.aload_n 0, 1) := by decide +kernel
theorem dX1_fix_29 : decode cX1_fix 29 = .ok (.iload_n 2, 1) := by decide +kernel
theorem dX1_fix_30 : decode cX1_fix 30 = .ok (.invokevirtual 19, 3) := by decide +kernel
theorem dX1_fix_33 : decode cX1_fix 33 = .ok (.iastore, 1) := by decide +kernel
theorem dX1_fix_34 : decode cX1_fix 34 = .ok (.iinc 2 1, 3) := by decide +kernel
theorem dX1_fix_37 : decode cX1_fix 37 = .ok (.goto (-30), 3) := by decide +kernel
theorem dX1_fix_40 : decode cX1_fix 40 = .ok (.sipush 128, 3) := by decide +kernel
theorem dX1_fix_43 : decode cX1_fix 43 = .ok (.istore_n 2, 1) := by decide +kernel
theorem dX1_fix_44 : decode cX1_fix 44 = .ok (.iload_n 2, 1) := by decide +kernel
theorem dX1_fix_45 : decode cX1_fix 45 = .ok (.aload_n 0, 1) := by decide +kernel
theorem dX1_fix_46 : decode cX1_fix 46 = .ok (.getfield 9, 3) := by decide +kernel
theorem dX1_fix_49 : decode cX1_fix 49 = .ok (.arraylength, 1) := by decide +kernel
theorem dX1_fix_50 : decode cX1_fix 50 = .ok (.if_icmp .ge 29, 3) := by decide +kernel
theorem dX1_fix_53 : decode cX1_fix 53 = .ok (.aload_n 0, 1) := by decide +kernel
theorem dX1_fix_54 : decode cX1_fix 54 = .ok (.getfield 9, 3) := by decide +kernel
theorem dX1_fix_57 : decode cX1_fix 57 = .ok (.iload_n 2, 1) := by decide +kernel
theorem dX1_fix_58 : decode cX1_fix 58 = .ok (.aload_n 0, 1) := by decide +kernel
theorem dX1_fix_59 : decode cX1_fix 59 = .ok (.aload_n 0, 1) := by decide +kernel
theorem dX1_fix_60 : decode cX1_fix 60 = .ok (.getfield 9, 3) := by decide +kernel
theorem dX1_fix_63 : decode cX1_fix 63 = .ok (.iload_n 2, 1) := by decide +kernel
theorem dX1_fix_64 : decode cX1_fix 64 = .ok (.bipush 64, 2) := by decide +kernel
theorem dX1_fix_66 : decode cX1_fix 66 = .ok (.isub, 1) := by decide +kernel
theorem dX1_fix_67 : decode cX1_fix 67 = .ok (.iaload, 1) := by decide +kernel
theorem dX1_fix_68 : decode cX1_fix 68 = .ok (.iconst 1, 1) := by decide +kernel
theorem dX1_fix_69 : decode cX1_fix 69 = .ok (.invokevirtual 23, 3) := by decide +kernel
theorem dX1_fix_72 : decode cX1_fix 72 = .ok (.iastore, 1) := by decide +kernel
theorem dX1_fix_73 : decode cX1_fix 73 = .ok (.iinc 2 1, 3) := by decide +kernel
theorem dX1_fix_76 : decode cX1_fix 76 = .ok (.goto (-32), 3) := by decide +kernel
theorem dX1_fix_79 : decode cX1_fix 79 = .ok (.return_, 1) := by decide +kernel
theorem dX1_stepOf_0 : decode cX1_stepOf 0 = .ok (.iconst 0, 1) := by decide +kernel
theorem dX1_stepOf_1 : decode cX1_stepOf 1 = .ok (.istore_n 2, 1) := by decide +kernel
theorem dX1_stepOf_2 : decode cX1_stepOf 2 = .ok (.iconst 0, 1) := by decide +kernel
theorem dX1_stepOf_3 : decode cX1_stepOf 3 = .ok (.istore_n 3, 1) := by decide +kernel
theorem dX1_stepOf_4 : decode cX1_stepOf 4 = .ok (.iload_n 3, 1) := by decide +kernel
theorem dX1_stepOf_5 : decode cX1_stepOf 5 = .ok (.bipush 6, 2) := by decide +kernel
theorem dX1_stepOf_7 : decode cX1_stepOf 7 = .ok (.if_icmp .ge 26, 3) := by decide +kernel
theorem dX1_stepOf_10 : decode cX1_stepOf 10 = .ok (.iload_n 2, 1) := by decide +kernel
theorem dX1_stepOf_11 : decode cX1_stepOf 11 = .ok (.aload_n 0, 1) := by decide +kernel
theorem dX1_stepOf_12 : decode cX1_stepOf 12 = .ok (.getfield 15, 3) := by decide +kernel
theorem dX1_stepOf_15 : decode cX1_stepOf 15 = .ok (.iload_n 1, 1) := by decide +kernel
theorem dX1_stepOf_16 : decode cX1_stepOf 16 = .ok (.iload_n 3, 1) := by decide +kernel
theorem dX1_stepOf_17 : decode cX1_stepOf 17 = .ok (.invokestatic 27, 3) := by decide +kernel
theorem dX1_stepOf_20 : decode cX1_stepOf 20 = .ok (.ishr, 1) := by decide +kernel
theorem dX1_stepOf_21 : decode cX1_stepOf 21 = .ok (.iconst 1, 1) := by decide +kernel
theorem dX1_stepOf_22 : decode cX1_stepOf 22 = .ok (.iand, 1) := by decide +kernel
theorem dX1_stepOf_23 : decode cX1_stepOf 23 = .ok (.iload_n 3, 1) := by decide +kernel
theorem dX1_stepOf_24 : decode cX1_stepOf 24 = .ok (.ishl, 1) := by decide +kernel
theorem dX1_stepOf_25 : decode cX1_stepOf 25 = .ok (.ior, 1) := by decide +kernel
theorem dX1_stepOf_26 : decode cX1_stepOf 26 = .ok (.istore_n 2, 1) := by decide +kernel
theorem dX1_stepOf_27 : decode cX1_stepOf 27 = .ok (.iinc 3 1, 3) := by decide +kernel
theorem dX1_stepOf_30 : decode cX1_stepOf 30 = .ok (.goto (-26), 3) := by decide +kernel
theorem dX1_stepOf_33 : decode cX1_stepOf 33 = .ok (.iload_n 2, 1) := by decide +kernel
theorem dX1_stepOf_34 : decode cX1_stepOf 34 = .ok (.ireturn, 1) := by decide +kernel
theorem dX1_bitOf_0 : decode cX1_bitOf 0 = .ok (.iload_n 0, 1) := by decide +kernel
theorem dX1_bitOf_1 : decode cX1_bitOf 1 = .ok (.iload_n 1, 1) := by decide +kernel
theorem dX1_bitOf_2 : decode cX1_bitOf 2 = .ok (.iconst 1, 1) := by decide +kernel
theorem dX1_bitOf_3 : decode cX1_bitOf 3 = .ok (.iadd, 1) := by decide +kernel
theorem dX1_bitOf_4 : decode cX1_bitOf 4 = .ok (.bipush 6, 2) := by decide +kernel
theorem dX1_bitOf_6 : decode cX1_bitOf 6 = .ok (.irem, 1) := by decide +kernel
theorem dX1_bitOf_7 : decode cX1_bitOf 7 = .ok (.ishr, 1) := by decide +kernel
theorem dX1_bitOf_8 : decode cX1_bitOf 8 = .ok (.iconst 1, 1) := by decide +kernel
theorem dX1_bitOf_9 : decode cX1_bitOf 9 = .ok (.iand, 1) := by decide +kernel
theorem dX1_bitOf_10 : decode cX1_bitOf 10 = .ok (.istore_n 2, 1) := by decide +kernel
theorem dX1_bitOf_11 : decode cX1_bitOf 11 = .ok (.iload_n 0, 1) := by decide +kernel
theorem dX1_bitOf_12 : decode cX1_bitOf 12 = .ok (.iload_n 1, 1) := by decide +kernel
theorem dX1_bitOf_13 : decode cX1_bitOf 13 = .ok (.ishr, 1) := by decide +kernel
theorem dX1_bitOf_14 : decode cX1_bitOf 14 = .ok (.iconst 1, 1) := by decide +kernel
theorem dX1_bitOf_15 : decode cX1_bitOf 15 = .ok (.iand, 1) := by decide +kernel
theorem dX1_bitOf_16 : decode cX1_bitOf 16 = .ok (.istore_n 3, 1) := by decide +kernel
theorem dX1_bitOf_17 : decode cX1_bitOf 17 = .ok (.iload_n 0, 1) := by decide +kernel
theorem dX1_bitOf_18 : decode cX1_bitOf 18 = .ok (.iload_n 1, 1) := by decide +kernel
theorem dX1_bitOf_19 : decode cX1_bitOf 19 = .ok (.bipush 6, 2) := by decide +kernel
theorem dX1_bitOf_21 : decode cX1_bitOf 21 = .ok (.iadd, 1) := by decide +kernel
theorem dX1_bitOf_22 : decode cX1_bitOf 22 = .ok (.iconst 1, 1) := by decide +kernel
theorem dX1_bitOf_23 : decode cX1_bitOf 23 = .ok (.isub, 1) := by decide +kernel
theorem dX1_bitOf_24 : decode cX1_bitOf 24 = .ok (.bipush 6, 2) := by decide +kernel
theorem dX1_bitOf_26 : decode cX1_bitOf 26 = .ok (.irem, 1) := by decide +kernel
theorem dX1_bitOf_27 : decode cX1_bitOf 27 = .ok (.ishr, 1) := by decide +kernel
theorem dX1_bitOf_28 : decode cX1_bitOf 28 = .ok (.iconst 1, 1) := by decide +kernel
theorem dX1_bitOf_29 : decode cX1_bitOf 29 = .ok (.iand, 1) := by decide +kernel
theorem dX1_bitOf_30 : decode cX1_bitOf 30 = .ok (.istore 4, 2) := by decide +kernel
theorem dX1_bitOf_32 : decode cX1_bitOf 32 = .ok (.iconst 4, 1) := by decide +kernel
theorem dX1_bitOf_33 : decode cX1_bitOf 33 = .ok (.iload_n 2, 1) := by decide +kernel
theorem dX1_bitOf_34 : decode cX1_bitOf 34 = .ok (.imul, 1) := by decide +kernel
theorem dX1_bitOf_35 : decode cX1_bitOf 35 = .ok (.iconst 2, 1) := by decide +kernel
theorem dX1_bitOf_36 : decode cX1_bitOf 36 = .ok (.iload_n 3, 1) := by decide +kernel
theorem dX1_bitOf_37 : decode cX1_bitOf 37 = .ok (.imul, 1) := by decide +kernel
theorem dX1_bitOf_38 : decode cX1_bitOf 38 = .ok (.iadd, 1) := by decide +kernel
theorem dX1_bitOf_39 : decode cX1_bitOf 39 = .ok (.iload 4, 2) := by decide +kernel
theorem dX1_bitOf_41 : decode cX1_bitOf 41 = .ok (.iadd, 1) := by decide +kernel
theorem dX1_bitOf_42 : decode cX1_bitOf 42 = .ok (.ireturn, 1) := by decide +kernel
theorem dX1_after_0 : decode cX1_after 0 = .ok (.iload_n 1, 1) := by decide +kernel
theorem dX1_after_1 : decode cX1_after 1 = .ok (.invokestatic 30, 3) := by decide +kernel
theorem dX1_after_4 : decode cX1_after 4 = .ok (.ifCond .eq 13, 3) := by decide +kernel
theorem dX1_after_7 : decode cX1_after 7 = .ok (.iload_n 2, 1) := by decide +kernel
theorem dX1_after_8 : decode cX1_after 8 = .ok (.ifCond .lt 9, 3) := by decide +kernel
theorem dX1_after_11 : decode cX1_after 11 = .ok (.iload_n 2, 1) := by decide +kernel
theorem dX1_after_12 : decode cX1_after 12 = .ok (.bipush 8, 2) := by decide +kernel
theorem dX1_after_14 : decode cX1_after 14 = .ok (.if_icmp .le 5, 3) := by decide +kernel
theorem dX1_after_17 : decode cX1_after 17 = .ok (.iload_n 1, 1) := by decide +kernel
theorem dX1_after_18 : decode cX1_after 18 = .ok (.ireturn, 1) := by decide +kernel
theorem dX1_after_19 : decode cX1_after 19 = .ok (.aload_n 0, 1) := by decide +kernel
theorem dX1_after_20 : decode cX1_after 20 = .ok (.getfield 9, 3) := by decide +kernel
theorem dX1_after_23 : decode cX1_after 23 = .ok (.iload_n 2, 1) := by decide +kernel
theorem dX1_after_24 : decode cX1_after 24 = .ok (.bipush 64, 2) := by decide +kernel
theorem dX1_after_26 : decode cX1_after 26 = .ok (.imul, 1) := by decide +kernel
theorem dX1_after_27 : decode cX1_after 27 = .ok (.iload_n 1, 1) := by decide +kernel
theorem dX1_after_28 : decode cX1_after 28 = .ok (.iadd, 1) := by decide +kernel
theorem dX1_after_29 : decode cX1_after 29 = .ok (.iaload, 1) := by decide +kernel
theorem dX1_after_30 : decode cX1_after 30 = .ok (.ireturn, 1) := by decide +kernel
theorem dX1_behind_0 : decode cX1_behind 0 = .ok (.iload_n 1, 1) := by decide +kernel
theorem dX1_behind_1 : decode cX1_behind 1 = .ok (.istore 4, 2) := by decide +kernel
theorem dX1_behind_3 : decode cX1_behind 3 = .ok (.iconst 0, 1) := by decide +kernel
theorem dX1_behind_4 : decode cX1_behind 4 = .ok (.istore 5, 2) := by decide +kernel
theorem dX1_behind_6 : decode cX1_behind 6 = .ok (.iload 5, 2) := by decide +kernel
theorem dX1_behind_8 : decode cX1_behind 8 = .ok (.iload_n 3, 1) := by decide +kernel
theorem dX1_behind_9 : decode cX1_behind 9 = .ok (.if_icmp .ge 18, 3) := by decide +kernel
theorem dX1_behind_12 : decode cX1_behind 12 = .ok (.aload_n 0, 1) := by decide +kernel
theorem dX1_behind_13 : decode cX1_behind 13 = .ok (.iload 4, 2) := by decide +kernel
theorem dX1_behind_15 : decode cX1_behind 15 = .ok (.iload_n 2, 1) := by decide +kernel
theorem dX1_behind_16 : decode cX1_behind 16 = .ok (.invokevirtual 23, 3) := by decide +kernel
theorem dX1_behind_19 : decode cX1_behind 19 = .ok (.istore 4, 2) := by decide +kernel
theorem dX1_behind_21 : decode cX1_behind 21 = .ok (.iinc 5 1, 3) := by decide +kernel
theorem dX1_behind_24 : decode cX1_behind 24 = .ok (.goto (-18), 3) := by decide +kernel
theorem dX1_behind_27 : decode cX1_behind 27 = .ok (.iload 4, 2) := by decide +kernel
theorem dX1_behind_29 : decode cX1_behind 29 = .ok (.ireturn, 1) := by decide +kernel
theorem dX1_daysTo_0 : decode cX1_daysTo 0 = .ok (.iload_n 1, 1) := by decide +kernel
theorem dX1_daysTo_1 : decode cX1_daysTo 1 = .ok (.istore 4, 2) := by decide +kernel
theorem dX1_daysTo_3 : decode cX1_daysTo 3 = .ok (.iconst 0, 1) := by decide +kernel
theorem dX1_daysTo_4 : decode cX1_daysTo 4 = .ok (.istore 5, 2) := by decide +kernel
theorem dX1_daysTo_6 : decode cX1_daysTo 6 = .ok (.iload 5, 2) := by decide +kernel
theorem dX1_daysTo_8 : decode cX1_daysTo 8 = .ok (.bipush 64, 2) := by decide +kernel
theorem dX1_daysTo_10 : decode cX1_daysTo 10 = .ok (.if_icmp .ge 27, 3) := by decide +kernel
theorem dX1_daysTo_13 : decode cX1_daysTo 13 = .ok (.iload 4, 2) := by decide +kernel
theorem dX1_daysTo_15 : decode cX1_daysTo 15 = .ok (.iload_n 3, 1) := by decide +kernel
theorem dX1_daysTo_16 : decode cX1_daysTo 16 = .ok (.if_icmp .ne 6, 3) := by decide +kernel
theorem dX1_daysTo_19 : decode cX1_daysTo 19 = .ok (.iload 5, 2) := by decide +kernel
theorem dX1_daysTo_21 : decode cX1_daysTo 21 = .ok (.ireturn, 1) := by decide +kernel
theorem dX1_daysTo_22 : decode cX1_daysTo 22 = .ok (.aload_n 0, 1) := by decide +kernel
theorem dX1_daysTo_23 : decode cX1_daysTo 23 = .ok (.iload 4, 2) := by decide +kernel
theorem dX1_daysTo_25 : decode cX1_daysTo 25 = .ok (.iload_n 2, 1) := by decide +kernel
theorem dX1_daysTo_26 : decode cX1_daysTo 26 = .ok (.invokevirtual 23, 3) := by decide +kernel
theorem dX1_daysTo_29 : decode cX1_daysTo 29 = .ok (.istore 4, 2) := by decide +kernel
theorem dX1_daysTo_31 : decode cX1_daysTo 31 = .ok (.iinc 5 1, 3) := by decide +kernel
theorem dX1_daysTo_34 : decode cX1_daysTo 34 = .ok (.goto (-28), 3) := by decide +kernel
theorem dX1_daysTo_37 : decode cX1_daysTo 37 = .ok (.bipush (-9), 2) := by decide +kernel
theorem dX1_daysTo_39 : decode cX1_daysTo 39 = .ok (.ireturn, 1) := by decide +kernel
theorem dX1_stepsBack_0 : decode cX1_stepsBack 0 = .ok (.aload_n 0, 1) := by decide +kernel
theorem dX1_stepsBack_1 : decode cX1_stepsBack 1 = .ok (.aload_n 0, 1) := by decide +kernel
theorem dX1_stepsBack_2 : decode cX1_stepsBack 2 = .ok (.iload_n 1, 1) := by decide +kernel
theorem dX1_stepsBack_3 : decode cX1_stepsBack 3 = .ok (.iconst 1, 1) := by decide +kernel
theorem dX1_stepsBack_4 : decode cX1_stepsBack 4 = .ok (.invokevirtual 23, 3) := by decide +kernel
theorem dX1_stepsBack_7 : decode cX1_stepsBack 7 = .ok (.iconst 1, 1) := by decide +kernel
theorem dX1_stepsBack_8 : decode cX1_stepsBack 8 = .ok (.iload_n 1, 1) := by decide +kernel
theorem dX1_stepsBack_9 : decode cX1_stepsBack 9 = .ok (.invokevirtual 34, 3) := by decide +kernel
theorem dX1_stepsBack_12 : decode cX1_stepsBack 12 = .ok (.istore_n 2, 1) := by decide +kernel
theorem dX1_stepsBack_13 : decode cX1_stepsBack 13 = .ok (.iload_n 2, 1) := by decide +kernel
theorem dX1_stepsBack_14 : decode cX1_stepsBack 14 = .ok (.bipush (-9), 2) := by decide +kernel
theorem dX1_stepsBack_16 : decode cX1_stepsBack 16 = .ok (.if_icmp .ne 8, 3) := by decide +kernel
theorem dX1_stepsBack_19 : decode cX1_stepsBack 19 = .ok (.bipush (-9), 2) := by decide +kernel
theorem dX1_stepsBack_21 : decode cX1_stepsBack 21 = .ok (.goto 6, 3) := by decide +kernel
theorem dX1_stepsBack_24 : decode cX1_stepsBack 24 = .ok (.iload_n 2, 1) := by decide +kernel
theorem dX1_stepsBack_25 : decode cX1_stepsBack 25 = .ok (.iconst 1, 1) := by decide +kernel
theorem dX1_stepsBack_26 : decode cX1_stepsBack 26 = .ok (.iadd, 1) := by decide +kernel
theorem dX1_stepsBack_27 : decode cX1_stepsBack 27 = .ok (.ireturn, 1) := by decide +kernel
theorem dX2_init_0 : decode cX2_init 0 = .ok (.aload_n 0, 1) := by decide +kernel
theorem dX2_init_1 : decode cX2_init 1 = .ok (.invokespecial 3, 3) := by decide +kernel
theorem dX2_init_4 : decode cX2_init 4 = .ok (.aload_n 0, 1) := by decide +kernel
theorem dX2_init_5 : decode cX2_init 5 = .ok (.bipush 8, 2) := by decide +kernel
theorem dX2_init_7 : decode cX2_init 7 = .ok (.newarray .int, 2) := by decide +kernel
theorem dX2_init_9 : decode cX2_init 9 = .ok (.putfield 9, 3) := by decide +kernel
theorem dX2_init_12 : decode cX2_init 12 = .ok (.aload_n 0, 1) := by decide +kernel
theorem dX2_init_13 : decode cX2_init 13 = .ok (.bipush 8, 2) := by decide +kernel
theorem dX2_init_15 : decode cX2_init 15 = .ok (.newarray .int, 2) := by decide +kernel
theorem dX2_init_17 : decode cX2_init 17 = .ok (.putfield 15, 3) := by decide +kernel
theorem dX2_init_20 : decode cX2_init 20 = .ok (.aload_n 0, 1) := by decide +kernel
theorem dX2_init_21 : decode cX2_init 21 = .ok (.bipush 8, 2) := by decide +kernel
theorem dX2_init_23 : decode cX2_init 23 = .ok (.newarray .int, 2) := by decide +kernel
theorem dX2_init_25 : decode cX2_init 25 = .ok (.putfield 18, 3) := by decide +kernel
theorem dX2_init_28 : decode cX2_init 28 = .ok (.return_, 1) := by decide +kernel
theorem dX2_forgetAll_0 : decode cX2_forgetAll 0 = .ok (.aload_n 0, 1) := by decide +kernel
theorem dX2_forgetAll_1 : decode cX2_forgetAll 1 = .ok (.iconst 0, 1) := by decide +kernel
theorem dX2_forgetAll_2 : decode cX2_forgetAll 2 = .ok (.putfield 21, 3) := by decide +kernel
theorem dX2_forgetAll_5 : decode cX2_forgetAll 5 = .ok (.return_, 1) := by decide +kernel
theorem dX2_add_0 : decode cX2_add 0 = .ok (.aload_n 0, 1) := by decide +kernel
theorem dX2_add_1 : decode cX2_add 1 = .ok (.getfield 21, 3) := by decide +kernel
theorem dX2_add_4 : decode cX2_add 4 = .ok (.ifCond .lt 12, 3) := by decide +kernel
theorem dX2_add_7 : decode cX2_add 7 = .ok (.aload_n 0, 1) := by decide +kernel
theorem dX2_add_8 : decode cX2_add 8 = .ok (.getfield 21, 3) := by decide +kernel
theorem dX2_add_11 : decode cX2_add 11 = .ok (.bipush 8, 2) := by decide +kernel
theorem dX2_add_13 : decode cX2_add 13 = .ok (.if_icmp .lt 6, 3) := by decide +kernel
theorem dX2_add_16 : decode cX2_add 16 = .ok (.bipush (-4), 2) := by decide +kernel
theorem dX2_add_18 : decode cX2_add 18 = .ok (.ireturn, 1) := by decide +kernel
theorem dX2_add_19 : decode cX2_add 19 = .ok (.aload_n 0, 1) := by decide +kernel
theorem dX2_add_20 : decode cX2_add 20 = .ok (.getfield 9, 3) := by decide +kernel
theorem dX2_add_23 : decode cX2_add 23 = .ok (.aload_n 0, 1) := by decide +kernel
theorem dX2_add_24 : decode cX2_add 24 = .ok (.getfield 21, 3) := by decide +kernel
theorem dX2_add_27 : decode cX2_add 27 = .ok (.iload_n 1, 1) := by decide +kernel
theorem dX2_add_28 : decode cX2_add 28 = .ok (.iastore, 1) := by decide +kernel
theorem dX2_add_29 : decode cX2_add 29 = .ok (.aload_n 0, 1) := by decide +kernel
theorem dX2_add_30 : decode cX2_add 30 = .ok (.getfield 15, 3) := by decide +kernel
theorem dX2_add_33 : decode cX2_add 33 = .ok (.aload_n 0, 1) := by decide +kernel
theorem dX2_add_34 : decode cX2_add 34 = .ok (.getfield 21, 3) := by decide +kernel
theorem dX2_add_37 : decode cX2_add 37 = .ok (.iload_n 2, 1) := by decide +kernel
theorem dX2_add_38 : decode cX2_add 38 = .ok (.iastore, 1) := by decide +kernel
theorem dX2_add_39 : decode cX2_add 39 = .ok (.aload_n 0, 1) := by decide +kernel
theorem dX2_add_40 : decode cX2_add 40 = .ok (.getfield 18, 3) := by decide +kernel
theorem dX2_add_43 : decode cX2_add 43 = .ok (.aload_n 0, 1) := by decide +kernel
theorem dX2_add_44 : decode cX2_add 44 = .ok (.getfield 21, 3) := by decide +kernel
theorem dX2_add_47 : decode cX2_add 47 = .ok (.iload_n 3, 1) := by decide +kernel
theorem dX2_add_48 : decode cX2_add 48 = .ok (.iastore, 1) := by decide +kernel
theorem dX2_add_49 : decode cX2_add 49 = .ok (.aload_n 0, 1) := by decide +kernel
theorem dX2_add_50 : decode cX2_add 50 = .ok (.dup, 1) := by decide +kernel
theorem dX2_add_51 : decode cX2_add 51 = .ok (.getfield 21, 3) := by decide +kernel
theorem dX2_add_54 : decode cX2_add 54 = .ok (.iconst 1, 1) := by decide +kernel
theorem dX2_add_55 : decode cX2_add 55 = .ok (.iadd, 1) := by decide +kernel
theorem dX2_add_56 : decode cX2_add 56 = .ok (.putfield 21, 3) := by decide +kernel
theorem dX2_add_59 : decode cX2_add 59 = .ok (.aload_n 0, 1) := by decide +kernel
theorem dX2_add_60 : decode cX2_add 60 = .ok (.getfield 21, 3) := by decide +kernel
theorem dX2_add_63 : decode cX2_add 63 = .ok (.iconst 1, 1) := by decide +kernel
theorem dX2_add_64 : decode cX2_add 64 = .ok (.isub, 1) := by decide +kernel
theorem dX2_add_65 : decode cX2_add 65 = .ok (.ireturn, 1) := by decide +kernel
theorem dX2_areSo_0 : decode cX2_areSo 0 = .ok (.iconst 0, 1) := by decide +kernel
theorem dX2_areSo_1 : decode cX2_areSo 1 = .ok (.istore_n 3, 1) := by decide +kernel
theorem dX2_areSo_2 : decode cX2_areSo 2 = .ok (.iload_n 3, 1) := by decide +kernel
theorem dX2_areSo_3 : decode cX2_areSo 3 = .ok (.aload_n 0, 1) := by decide +kernel
theorem dX2_areSo_4 : decode cX2_areSo 4 = .ok (.getfield 21, 3) := by decide +kernel
theorem dX2_areSo_7 : decode cX2_areSo 7 = .ok (.if_icmp .ge 62, 3) := by decide +kernel
theorem dX2_areSo_10 : decode cX2_areSo 10 = .ok (.aload_n 0, 1) := by decide +kernel
theorem dX2_areSo_11 : decode cX2_areSo 11 = .ok (.getfield 9, 3) := by decide +kernel
theorem dX2_areSo_14 : decode cX2_areSo 14 = .ok (.iload_n 3, 1) := by decide +kernel
theorem dX2_areSo_15 : decode cX2_areSo 15 = .ok (.iaload, 1) := by decide +kernel
theorem dX2_areSo_16 : decode cX2_areSo 16 = .ok (.istore 4, 2) := by decide +kernel
theorem dX2_areSo_18 : decode cX2_areSo 18 = .ok (.aload_n 1, 1) := by decide +kernel
theorem dX2_areSo_19 : decode cX2_areSo 19 = .ok (.iload 4, 2) := by decide +kernel
theorem dX2_areSo_21 : decode cX2_areSo 21 = .ok (.invokevirtual 25, 3) := by decide +kernel
theorem dX2_areSo_24 : decode cX2_areSo 24 = .ok (.ifCond .ne 5, 3) := by decide +kernel
theorem dX2_areSo_27 : decode cX2_areSo 27 = .ok (.iconst 0, 1) := by decide +kernel
theorem dX2_areSo_28 : decode cX2_areSo 28 = .ok (.ireturn, 1) := by decide +kernel
theorem dX2_areSo_29 : decode cX2_areSo 29 = .ok (.aload_n 2, 1) := by decide +kernel
theorem dX2_areSo_30 : decode cX2_areSo 30 = .ok (.aload_n 1, 1) := by decide +kernel
theorem dX2_areSo_31 : decode cX2_areSo 31 = .ok (.getfield 31, 3) := by decide +kernel
theorem dX2_areSo_34 : decode cX2_areSo 34 = .ok (.iload 4, 2) := by decide +kernel
theorem dX2_areSo_36 : decode cX2_areSo 36 = .ok (.iaload, 1) := by decide +kernel
theorem dX2_areSo_37 : decode cX2_areSo 37 = .ok (.aload_n 1, 1) := by decide +kernel
theorem dX2_areSo_38 : decode cX2_areSo 38 = .ok (.iload 4, 2) := by decide +kernel
theorem dX2_areSo_40 : decode cX2_areSo 40 = .ok (.invokevirtual 34, 3) := by decide +kernel
theorem dX2_areSo_43 : decode cX2_areSo 43 = .ok (.aload_n 0, 1) := by decide +kernel
theorem dX2_areSo_44 : decode cX2_areSo 44 = .ok (.getfield 15, 3) := by decide +kernel
theorem dX2_areSo_47 : decode cX2_areSo 47 = .ok (.iload_n 3, 1) := by decide +kernel
theorem dX2_areSo_48 : decode cX2_areSo 48 = .ok (.iaload, 1) := by decide +kernel
theorem dX2_areSo_49 : decode cX2_areSo 49 = .ok (.invokevirtual 38, 3) := by decide +kernel
theorem dX2_areSo_52 : decode cX2_areSo 52 = .ok (.aload_n 0, 1) := by decide +kernel
theorem dX2_areSo_53 : decode cX2_areSo 53 = .ok (.getfield 18, 3) := by decide +kernel
theorem dX2_areSo_56 : decode cX2_areSo 56 = .ok (.iload_n 3, 1) := by decide +kernel
theorem dX2_areSo_57 : decode cX2_areSo 57 = .ok (.iaload, 1) := by decide +kernel
theorem dX2_areSo_58 : decode cX2_areSo 58 = .ok (.if_icmp .eq 5, 3) := by decide +kernel
theorem dX2_areSo_61 : decode cX2_areSo 61 = .ok (.iconst 0, 1) := by decide +kernel
theorem dX2_areSo_62 : decode cX2_areSo 62 = .ok (.ireturn, 1) := by decide +kernel
theorem dX2_areSo_63 : decode cX2_areSo 63 = .ok (.iinc 3 1, 3) := by decide +kernel
theorem dX2_areSo_66 : decode cX2_areSo 66 = .ok (.goto (-64), 3) := by decide +kernel
theorem dX2_areSo_69 : decode cX2_areSo 69 = .ok (.iconst 1, 1) := by decide +kernel
theorem dX2_areSo_70 : decode cX2_areSo 70 = .ok (.ireturn, 1) := by decide +kernel
theorem dX3_init_0 : decode cX3_init 0 = .ok (.aload_n 0, 1) := by decide +kernel
theorem dX3_init_1 : decode cX3_init 1 = .ok (.invokespecial 3, 3) := by decide +kernel
theorem dX3_init_4 : decode cX3_init 4 = .ok (.aload_n 0, 1) := by decide +kernel
theorem dX3_init_5 : decode cX3_init 5 = .ok (.bipush 60, 2) := by decide +kernel
theorem dX3_init_7 : decode cX3_init 7 = .ok (.newarray .int, 2) := by decide +kernel
theorem dX3_init_9 : decode cX3_init 9 = .ok (.putfield 9, 3) := by decide +kernel
theorem dX3_init_12 : decode cX3_init 12 = .ok (.return_, 1) := by decide +kernel
theorem dX3_renew_0 : decode cX3_renew 0 = .ok (.aload_n 0, 1) := by decide +kernel
theorem dX3_renew_1 : decode cX3_renew 1 = .ok (.iconst 1, 1) := by decide +kernel
theorem dX3_renew_2 : decode cX3_renew 2 = .ok (.putfield 15, 3) := by decide +kernel
theorem dX3_renew_5 : decode cX3_renew 5 = .ok (.aload_n 0, 1) := by decide +kernel
theorem dX3_renew_6 : decode cX3_renew 6 = .ok (.iload_n 1, 1) := by decide +kernel
theorem dX3_renew_7 : decode cX3_renew 7 = .ok (.putfield 19, 3) := by decide +kernel
theorem dX3_renew_10 : decode cX3_renew 10 = .ok (.aload_n 0, 1) := by decide +kernel
theorem dX3_renew_11 : decode cX3_renew 11 = .ok (.iload_n 2, 1) := by decide +kernel
theorem dX3_renew_12 : decode cX3_renew 12 = .ok (.putfield 23, 3) := by decide +kernel
theorem dX3_renew_15 : decode cX3_renew 15 = .ok (.aload_n 0, 1) := by decide +kernel
theorem dX3_renew_16 : decode cX3_renew 16 = .ok (.getfield 9, 3) := by decide +kernel
theorem dX3_renew_19 : decode cX3_renew 19 = .ok (.iconst 0, 1) := by decide +kernel
theorem dX3_renew_20 : decode cX3_renew 20 = .ok (.invokestatic 26, 3) := by decide +kernel
theorem dX3_renew_23 : decode cX3_renew 23 = .ok (.return_, 1) := by decide +kernel
theorem dX3_empty_0 : decode cX3_empty 0 = .ok (.aload_n 0, 1) := by decide +kernel
theorem dX3_empty_1 : decode cX3_empty 1 = .ok (.getfield 15, 3) := by decide +kernel
theorem dX3_empty_4 : decode cX3_empty 4 = .ok (.istore_n 1, 1) := by decide +kernel
theorem dX3_empty_5 : decode cX3_empty 5 = .ok (.aload_n 0, 1) := by decide +kernel
theorem dX3_empty_6 : decode cX3_empty 6 = .ok (.iconst 0, 1) := by decide +kernel
theorem dX3_empty_7 : decode cX3_empty 7 = .ok (.putfield 15, 3) := by decide +kernel
theorem dX3_empty_10 : decode cX3_empty 10 = .ok (.aload_n 0, 1) := by decide +kernel
theorem dX3_empty_11 : decode cX3_empty 11 = .ok (.iconst 0, 1) := by decide +kernel
theorem dX3_empty_12 : decode cX3_empty 12 = .ok (.putfield 23, 3) := by decide +kernel
theorem dX3_empty_15 : decode cX3_empty 15 = .ok (.iload_n 1, 1) := by decide +kernel
theorem dX3_empty_16 : decode cX3_empty 16 = .ok (.ireturn, 1) := by decide +kernel
theorem dX3_faultOfTaking_0 : decode cX3_faultOfTaking 0 = .ok (.aload_n 0, 1) := by decide +kernel
theorem dX3_faultOfTaking_1 : decode cX3_faultOfTaking 1 = .ok (.getfield 15, 3) := by decide +kernel
theorem dX3_faultOfTaking_4 : decode cX3_faultOfTaking 4 = .ok (.ifCond .eq 13, 3) := by decide +kernel
theorem dX3_faultOfTaking_7 : decode cX3_faultOfTaking 7 = .ok (.aload_n 0, 1) := by decide +kernel
theorem dX3_faultOfTaking_8 : decode cX3_faultOfTaking 8 = .ok (.getfield 19, 3) := by decide +kernel
theorem dX3_faultOfTaking_11 : decode cX3_faultOfTaking 11 = .ok (.iload_n 1, 1) := by decide +kernel
theorem dX3_faultOfTaking_12 : decode cX3_faultOfTaking 12 = .ok (.if_icmp .eq 5, 3) := by decide +kernel
theorem dX3_faultOfTaking_15 : decode cX3_faultOfTaking 15 = .ok (.iconst 2, 1) := by decide +kernel
theorem dX3_faultOfTaking_16 : decode cX3_faultOfTaking 16 = .ok (.ireturn, 1) := by decide +kernel
theorem dX3_faultOfTaking_17 : decode cX3_faultOfTaking 17 = .ok (.aload_n 0, 1) := by decide +kernel
theorem dX3_faultOfTaking_18 : decode cX3_faultOfTaking 18 = .ok (.getfield 15, 3) := by decide +kernel
theorem dX3_faultOfTaking_21 : decode cX3_faultOfTaking 21 = .ok (.ifCond .ne 5, 3) := by decide +kernel
theorem dX3_faultOfTaking_24 : decode cX3_faultOfTaking 24 = .ok (.iconst 1, 1) := by decide +kernel
theorem dX3_faultOfTaking_25 : decode cX3_faultOfTaking 25 = .ok (.ireturn, 1) := by decide +kernel
theorem dX3_faultOfTaking_26 : decode cX3_faultOfTaking 26 = .ok (.iload_n 3, 1) := by decide +kernel
theorem dX3_faultOfTaking_27 : decode cX3_faultOfTaking 27 = .ok (.ifCond .ge 5, 3) := by decide +kernel
theorem dX3_faultOfTaking_30 : decode cX3_faultOfTaking 30 = .ok (.iconst 4, 1) := by decide +kernel
theorem dX3_faultOfTaking_31 : decode cX3_faultOfTaking 31 = .ok (.ireturn, 1) := by decide +kernel
theorem dX3_faultOfTaking_32 : decode cX3_faultOfTaking 32 = .ok (.aload_n 0, 1) := by decide +kernel
theorem dX3_faultOfTaking_33 : decode cX3_faultOfTaking 33 = .ok (.iload_n 2, 1) := by decide +kernel
theorem dX3_faultOfTaking_34 : decode cX3_faultOfTaking 34 = .ok (.iload_n 3, 1) := by decide +kernel
theorem dX3_faultOfTaking_35 : decode cX3_faultOfTaking 35 = .ok (.invokevirtual 32, 3) := by decide +kernel
theorem dX3_faultOfTaking_38 : decode cX3_faultOfTaking 38 = .ok (.ifCond .eq 7, 3) := by decide +kernel
theorem dX3_faultOfTaking_41 : decode cX3_faultOfTaking 41 = .ok (.iconst 0, 1) := by decide +kernel
theorem dX3_faultOfTaking_42 : decode cX3_faultOfTaking 42 = .ok (.goto 4, 3) := by decide +kernel
theorem dX3_faultOfTaking_45 : decode cX3_faultOfTaking 45 = .ok (.iconst 3, 1) := by decide +kernel
theorem dX3_faultOfTaking_46 : decode cX3_faultOfTaking 46 = .ok (.ireturn, 1) := by decide +kernel
theorem dX3_reaches_0 : decode cX3_reaches 0 = .ok (.iload_n 1, 1) := by decide +kernel
theorem dX3_reaches_1 : decode cX3_reaches 1 = .ok (.ifCond .lt 29, 3) := by decide +kernel
theorem dX3_reaches_4 : decode cX3_reaches 4 = .ok (.iload_n 1, 1) := by decide +kernel
theorem dX3_reaches_5 : decode cX3_reaches 5 = .ok (.aload_n 0, 1) := by decide +kernel
theorem dX3_reaches_6 : decode cX3_reaches 6 = .ok (.getfield 23, 3) := by decide +kernel
theorem dX3_reaches_9 : decode cX3_reaches 9 = .ok (.if_icmp .gt 21, 3) := by decide +kernel
theorem dX3_reaches_12 : decode cX3_reaches 12 = .ok (.iload_n 2, 1) := by decide +kernel
theorem dX3_reaches_13 : decode cX3_reaches 13 = .ok (.ifCond .lt 17, 3) := by decide +kernel
theorem dX3_reaches_16 : decode cX3_reaches 16 = .ok (.iload_n 2, 1) := by decide +kernel
theorem dX3_reaches_17 : decode cX3_reaches 17 = .ok (.aload_n 0, 1) := by decide +kernel
theorem dX3_reaches_18 : decode cX3_reaches 18 = .ok (.getfield 23, 3) := by decide +kernel
theorem dX3_reaches_21 : decode cX3_reaches 21 = .ok (.iload_n 1, 1) := by decide +kernel
theorem dX3_reaches_22 : decode cX3_reaches 22 = .ok (.isub, 1) := by decide +kernel
theorem dX3_reaches_23 : decode cX3_reaches 23 = .ok (.if_icmp .gt 7, 3) := by decide +kernel
theorem dX3_reaches_26 : decode cX3_reaches 26 = .ok (.iconst 1, 1) := by decide +kernel
theorem dX3_reaches_27 : decode cX3_reaches 27 = .ok (.goto 4, 3) := by decide +kernel
theorem dX3_reaches_30 : decode cX3_reaches 30 = .ok (.iconst 0, 1) := by decide +kernel
theorem dX3_reaches_31 : decode cX3_reaches 31 = .ok (.ireturn, 1) := by decide +kernel
theorem dX3_at_0 : decode cX3_at 0 = .ok (.iload_n 1, 1) := by decide +kernel
theorem dX3_at_1 : decode cX3_at 1 = .ok (.ifCond .lt 20, 3) := by decide +kernel
theorem dX3_at_4 : decode cX3_at 4 = .ok (.iload_n 1, 1) := by decide +kernel
theorem dX3_at_5 : decode cX3_at 5 = .ok (.aload_n 0, 1) := by decide +kernel
theorem dX3_at_6 : decode cX3_at 6 = .ok (.getfield 23, 3) := by decide +kernel
theorem dX3_at_9 : decode cX3_at 9 = .ok (.if_icmp .ge 12, 3) := by decide +kernel
theorem dX3_at_12 : decode cX3_at 12 = .ok (.aload_n 0, 1) := by decide +kernel
theorem dX3_at_13 : decode cX3_at 13 = .ok (.getfield 9, 3) := by decide +kernel
theorem dX3_at_16 : decode cX3_at 16 = .ok (.iload_n 1, 1) := by decide +kernel
theorem dX3_at_17 : decode cX3_at 17 = .ok (.iaload, 1) := by decide +kernel
theorem dX3_at_18 : decode cX3_at 18 = .ok (.goto 4, 3) := by decide +kernel
theorem dX3_at_21 : decode cX3_at 21 = .ok (.iconst 0, 1) := by decide +kernel
theorem dX3_at_22 : decode cX3_at 22 = .ok (.ireturn, 1) := by decide +kernel
theorem dX3_write_0 : decode cX3_write 0 = .ok (.iload_n 1, 1) := by decide +kernel
theorem dX3_write_1 : decode cX3_write 1 = .ok (.ifCond .lt 22, 3) := by decide +kernel
theorem dX3_write_4 : decode cX3_write 4 = .ok (.iload_n 1, 1) := by decide +kernel
theorem dX3_write_5 : decode cX3_write 5 = .ok (.aload_n 0, 1) := by decide +kernel
theorem dX3_write_6 : decode cX3_write 6 = .ok (.getfield 23, 3) := by decide +kernel
theorem dX3_write_9 : decode cX3_write 9 = .ok (.if_icmp .ge 14, 3) := by decide +kernel
theorem dX3_write_12 : decode cX3_write 12 = .ok (.aload_n 0, 1) := by decide +kernel
theorem dX3_write_13 : decode cX3_write 13 = .ok (.getfield 9, 3) := by decide +kernel
theorem dX3_write_16 : decode cX3_write 16 = .ok (.iload_n 1, 1) := by decide +kernel
theorem dX3_write_17 : decode cX3_write 17 = .ok (.aload_n 0, 1) := by decide +kernel
theorem dX3_write_18 : decode cX3_write 18 = .ok (.iload_n 2, 1) := by decide +kernel
theorem dX3_write_19 : decode cX3_write 19 = .ok (.invokevirtual 36, 3) := by decide +kernel
theorem dX3_write_22 : decode cX3_write 22 = .ok (.iastore, 1) := by decide +kernel
theorem dX3_write_23 : decode cX3_write 23 = .ok (.return_, 1) := by decide +kernel
theorem dX3_cut_0 : decode cX3_cut 0 = .ok (.aload_n 0, 1) := by decide +kernel
theorem dX3_cut_1 : decode cX3_cut 1 = .ok (.getfield 19, 3) := by decide +kernel
theorem dX3_cut_4 : decode cX3_cut 4 = .ok (.lookupswitch 34 #[(0, 28), (1, 31)], 28) := by decide +kernel
theorem dX3_cut_32 : decode cX3_cut 32 = .ok (.iload_n 1, 1) := by decide +kernel
theorem dX3_cut_33 : decode cX3_cut 33 = .ok (.i2b, 1) := by decide +kernel
theorem dX3_cut_34 : decode cX3_cut 34 = .ok (.ireturn, 1) := by decide +kernel
theorem dX3_cut_35 : decode cX3_cut 35 = .ok (.iload_n 1, 1) := by decide +kernel
theorem dX3_cut_36 : decode cX3_cut 36 = .ok (.i2s, 1) := by decide +kernel
theorem dX3_cut_37 : decode cX3_cut 37 = .ok (.ireturn, 1) := by decide +kernel
theorem dX3_cut_38 : decode cX3_cut 38 = .ok (.iload_n 1, 1) := by decide +kernel
theorem dX3_cut_39 : decode cX3_cut 39 = .ok (.ireturn, 1) := by decide +kernel
theorem dX4_firstFault_0 : decode cX4_firstFault 0 = .ok (.iconst 0, 1) := by decide +kernel
theorem dX4_firstFault_1 : decode cX4_firstFault 1 = .ok (.istore_n 3, 1) := by decide +kernel
theorem dX4_firstFault_2 : decode cX4_firstFault 2 = .ok (.iload_n 3, 1) := by decide +kernel
theorem dX4_firstFault_3 : decode cX4_firstFault 3 = .ok (.iload_n 2, 1) := by decide +kernel
theorem dX4_firstFault_4 : decode cX4_firstFault 4 = .ok (.if_icmp .ge 20, 3) := by decide +kernel
theorem dX4_firstFault_7 : decode cX4_firstFault 7 = .ok (.aload_n 0, 1) := by decide +kernel
theorem dX4_firstFault_8 : decode cX4_firstFault 8 = .ok (.iload_n 1, 1) := by decide +kernel
theorem dX4_firstFault_9 : decode cX4_firstFault 9 = .ok (.iload_n 3, 1) := by decide +kernel
theorem dX4_firstFault_10 : decode cX4_firstFault 10 = .ok (.invokestatic 9, 3) := by decide +kernel
theorem dX4_firstFault_13 : decode cX4_firstFault 13 = .ok (.ifCond .ne 5, 3) := by decide +kernel
theorem dX4_firstFault_16 : decode cX4_firstFault 16 = .ok (.iload_n 3, 1) := by decide +kernel
theorem dX4_firstFault_17 : decode cX4_firstFault 17 = .ok (.ireturn, 1) := by decide +kernel
theorem dX4_firstFault_18 : decode cX4_firstFault 18 = .ok (.iinc 3 1, 3) := by decide +kernel
theorem dX4_firstFault_21 : decode cX4_firstFault 21 = .ok (.goto (-19), 3) := by decide +kernel
theorem dX4_firstFault_24 : decode cX4_firstFault 24 = .ok (.iload_n 2, 1) := by decide +kernel
theorem dX4_firstFault_25 : decode cX4_firstFault 25 = .ok (.iconst 4, 1) := by decide +kernel
theorem dX4_firstFault_26 : decode cX4_firstFault 26 = .ok (.if_icmp .le 15, 3) := by decide +kernel
theorem dX4_firstFault_29 : decode cX4_firstFault 29 = .ok (.iload_n 2, 1) := by decide +kernel
theorem dX4_firstFault_30 : decode cX4_firstFault 30 = .ok (.iconst 4, 1) := by decide +kernel
theorem dX4_firstFault_31 : decode cX4_firstFault 31 = .ok (.isub, 1) := by decide +kernel
theorem dX4_firstFault_32 : decode cX4_firstFault 32 = .ok (.iconst 5, 1) := by decide +kernel
theorem dX4_firstFault_33 : decode cX4_firstFault 33 = .ok (.irem, 1) := by decide +kernel
theorem dX4_firstFault_34 : decode cX4_firstFault 34 = .ok (.ifCond .ne 7, 3) := by decide +kernel
theorem dX4_firstFault_37 : decode cX4_firstFault 37 = .ok (.iconst 1, 1) := by decide +kernel
theorem dX4_firstFault_38 : decode cX4_firstFault 38 = .ok (.goto 4, 3) := by decide +kernel
theorem dX4_firstFault_41 : decode cX4_firstFault 41 = .ok (.iconst 0, 1) := by decide +kernel
theorem dX4_firstFault_42 : decode cX4_firstFault 42 = .ok (.istore_n 3, 1) := by decide +kernel
theorem dX4_firstFault_43 : decode cX4_firstFault 43 = .ok (.iload_n 3, 1) := by decide +kernel
theorem dX4_firstFault_44 : decode cX4_firstFault 44 = .ok (.ifCond .eq 8, 3) := by decide +kernel
theorem dX4_firstFault_47 : decode cX4_firstFault 47 = .ok (.bipush (-9), 2) := by decide +kernel
theorem dX4_firstFault_49 : decode cX4_firstFault 49 = .ok (.goto 4, 3) := by decide +kernel
theorem dX4_firstFault_52 : decode cX4_firstFault 52 = .ok (.iload_n 2, 1) := by decide +kernel
theorem dX4_firstFault_53 : decode cX4_firstFault 53 = .ok (.ireturn, 1) := by decide +kernel
theorem dX4_goesOn_0 : decode cX4_goesOn 0 = .ok (.aload_n 0, 1) := by decide +kernel
theorem dX4_goesOn_1 : decode cX4_goesOn 1 = .ok (.iload_n 1, 1) := by decide +kernel
theorem dX4_goesOn_2 : decode cX4_goesOn 2 = .ok (.iload_n 2, 1) := by decide +kernel
theorem dX4_goesOn_3 : decode cX4_goesOn 3 = .ok (.iadd, 1) := by decide +kernel
theorem dX4_goesOn_4 : decode cX4_goesOn 4 = .ok (.invokevirtual 15, 3) := by decide +kernel
theorem dX4_goesOn_7 : decode cX4_goesOn 7 = .ok (.istore_n 3, 1) := by decide +kernel
theorem dX4_goesOn_8 : decode cX4_goesOn 8 = .ok (.iload_n 2, 1) := by decide +kernel
theorem dX4_goesOn_9 : decode cX4_goesOn 9 = .ok (.ifCond .ne 15, 3) := by decide +kernel
theorem dX4_goesOn_12 : decode cX4_goesOn 12 = .ok (.iload_n 3, 1) := by decide +kernel
theorem dX4_goesOn_13 : decode cX4_goesOn 13 = .ok (.bipush 103, 2) := by decide +kernel
theorem dX4_goesOn_15 : decode cX4_goesOn 15 = .ok (.if_icmp .ne 7, 3) := by decide +kernel
theorem dX4_goesOn_18 : decode cX4_goesOn 18 = .ok (.iconst 1, 1) := by decide +kernel
theorem dX4_goesOn_19 : decode cX4_goesOn 19 = .ok (.goto 4, 3) := by decide +kernel
theorem dX4_goesOn_22 : decode cX4_goesOn 22 = .ok (.iconst 0, 1) := by decide +kernel
theorem dX4_goesOn_23 : decode cX4_goesOn 23 = .ok (.ireturn, 1) := by decide +kernel
theorem dX4_goesOn_24 : decode cX4_goesOn 24 = .ok (.iload_n 2, 1) := by decide +kernel
theorem dX4_goesOn_25 : decode cX4_goesOn 25 = .ok (.iconst 4, 1) := by decide +kernel
theorem dX4_goesOn_26 : decode cX4_goesOn 26 = .ok (.if_icmp .ge 16, 3) := by decide +kernel
theorem dX4_goesOn_29 : decode cX4_goesOn 29 = .ok (.iload_n 3, 1) := by decide +kernel
theorem dX4_goesOn_30 : decode cX4_goesOn 30 = .ok (.bipush 48, 2) := by decide +kernel
theorem dX4_goesOn_32 : decode cX4_goesOn 32 = .ok (.aload_n 0, 1) := by decide +kernel
theorem dX4_goesOn_33 : decode cX4_goesOn 33 = .ok (.iload_n 1, 1) := by decide +kernel
theorem dX4_goesOn_34 : decode cX4_goesOn 34 = .ok (.iload_n 2, 1) := by decide +kernel
theorem dX4_goesOn_35 : decode cX4_goesOn 35 = .ok (.invokestatic 21, 3) := by decide +kernel
theorem dX4_goesOn_38 : decode cX4_goesOn 38 = .ok (.invokestatic 25, 3) := by decide +kernel
theorem dX4_goesOn_41 : decode cX4_goesOn 41 = .ok (.ireturn, 1) := by decide +kernel
theorem dX4_goesOn_42 : decode cX4_goesOn 42 = .ok (.iload_n 2, 1) := by decide +kernel
theorem dX4_goesOn_43 : decode cX4_goesOn 43 = .ok (.bipush 34, 2) := by decide +kernel
theorem dX4_goesOn_45 : decode cX4_goesOn 45 = .ok (.if_icmp .lt 5, 3) := by decide +kernel
theorem dX4_goesOn_48 : decode cX4_goesOn 48 = .ok (.iconst 0, 1) := by decide +kernel
theorem dX4_goesOn_49 : decode cX4_goesOn 49 = .ok (.ireturn, 1) := by decide +kernel
theorem dX4_goesOn_50 : decode cX4_goesOn 50 = .ok (.iload_n 2, 1) := by decide +kernel
theorem dX4_goesOn_51 : decode cX4_goesOn 51 = .ok (.iconst 4, 1) := by decide +kernel
theorem dX4_goesOn_52 : decode cX4_goesOn 52 = .ok (.isub, 1) := by decide +kernel
theorem dX4_goesOn_53 : decode cX4_goesOn 53 = .ok (.iconst 5, 1) := by decide +kernel
theorem dX4_goesOn_54 : decode cX4_goesOn 54 = .ok (.irem, 1) := by decide +kernel
theorem dX4_goesOn_55 : decode cX4_goesOn 55 = .ok (.tableswitch 69 0 4 #[33, 45, 69, 69, 60], 33) := by decide +kernel
theorem dX4_goesOn_88 : decode cX4_goesOn 88 = .ok (.iload_n 3, 1) := by decide +kernel
theorem dX4_goesOn_89 : decode cX4_goesOn 89 = .ok (.bipush 59, 2) := by decide +kernel
theorem dX4_goesOn_91 : decode cX4_goesOn 91 = .ok (.if_icmp .ne 7, 3) := by decide +kernel
theorem dX4_goesOn_94 : decode cX4_goesOn 94 = .ok (.iconst 1, 1) := by decide +kernel
theorem dX4_goesOn_95 : decode cX4_goesOn 95 = .ok (.goto 4, 3) := by decide +kernel
theorem dX4_goesOn_98 : decode cX4_goesOn 98 = .ok (.iconst 0, 1) := by decide +kernel
theorem dX4_goesOn_99 : decode cX4_goesOn 99 = .ok (.ireturn, 1) := by decide +kernel
theorem dX4_goesOn_100 : decode cX4_goesOn 100 = .ok (.iload_n 3, 1) := by decide +kernel
theorem dX4_goesOn_101 : decode cX4_goesOn 101 = .ok (.invokestatic 29, 3) := by decide +kernel
theorem dX4_goesOn_104 : decode cX4_goesOn 104 = .ok (.bipush (-9), 2) := by decide +kernel
theorem dX4_goesOn_106 : decode cX4_goesOn 106 = .ok (.if_icmp .eq 7, 3) := by decide +kernel
theorem dX4_goesOn_109 : decode cX4_goesOn 109 = .ok (.iconst 1, 1) := by decide +kernel
theorem dX4_goesOn_110 : decode cX4_goesOn 110 = .ok (.goto 4, 3) := by decide +kernel
theorem dX4_goesOn_113 : decode cX4_goesOn 113 = .ok (.iconst 0, 1) := by decide +kernel
theorem dX4_goesOn_114 : decode cX4_goesOn 114 = .ok (.ireturn, 1) := by decide +kernel
theorem dX4_goesOn_115 : decode cX4_goesOn 115 = .ok (.iload_n 3, 1) := by decide +kernel
theorem dX4_goesOn_116 : decode cX4_goesOn 116 = .ok (.bipush 49, 2) := by decide +kernel
theorem dX4_goesOn_118 : decode cX4_goesOn 118 = .ok (.bipush 52, 2) := by decide +kernel
theorem dX4_goesOn_120 : decode cX4_goesOn 120 = .ok (.invokestatic 25, 3) := by decide +kernel
theorem dX4_goesOn_123 : decode cX4_goesOn 123 = .ok (.ireturn, 1) := by decide +kernel
theorem dX4_goesOn_124 : decode cX4_goesOn 124 = .ok (.iload_n 3, 1) := by decide +kernel
theorem dX4_goesOn_125 : decode cX4_goesOn 125 = .ok (.bipush 48, 2) := by decide +kernel
theorem dX4_goesOn_127 : decode cX4_goesOn 127 = .ok (.bipush 55, 2) := by decide +kernel
theorem dX4_goesOn_129 : decode cX4_goesOn 129 = .ok (.invokestatic 25, 3) := by decide +kernel
theorem dX4_goesOn_132 : decode cX4_goesOn 132 = .ok (.ireturn, 1) := by decide +kernel
theorem dX4_greatestDigit_0 : decode cX4_greatestDigit 0 = .ok (.iload_n 2, 1) := by decide +kernel
theorem dX4_greatestDigit_1 : decode cX4_greatestDigit 1 = .ok (.iconst 1, 1) := by decide +kernel
theorem dX4_greatestDigit_2 : decode cX4_greatestDigit 2 = .ok (.if_icmp .ne 6, 3) := by decide +kernel
theorem dX4_greatestDigit_5 : decode cX4_greatestDigit 5 = .ok (.bipush 50, 2) := by decide +kernel
theorem dX4_greatestDigit_7 : decode cX4_greatestDigit 7 = .ok (.ireturn, 1) := by decide +kernel
theorem dX4_greatestDigit_8 : decode cX4_greatestDigit 8 = .ok (.aload_n 0, 1) := by decide +kernel
theorem dX4_greatestDigit_9 : decode cX4_greatestDigit 9 = .ok (.iload_n 1, 1) := by decide +kernel
theorem dX4_greatestDigit_10 : decode cX4_greatestDigit 10 = .ok (.iconst 1, 1) := by decide +kernel
theorem dX4_greatestDigit_11 : decode cX4_greatestDigit 11 = .ok (.iadd, 1) := by decide +kernel
theorem dX4_greatestDigit_12 : decode cX4_greatestDigit 12 = .ok (.invokevirtual 15, 3) := by decide +kernel
theorem dX4_greatestDigit_15 : decode cX4_greatestDigit 15 = .ok (.bipush 50, 2) := by decide +kernel
theorem dX4_greatestDigit_17 : decode cX4_greatestDigit 17 = .ok (.if_icmp .ne 24, 3) := by decide +kernel
theorem dX4_greatestDigit_20 : decode cX4_greatestDigit 20 = .ok (.iload_n 2, 1) := by decide +kernel
theorem dX4_greatestDigit_21 : decode cX4_greatestDigit 21 = .ok (.iconst 2, 1) := by decide +kernel
theorem dX4_greatestDigit_22 : decode cX4_greatestDigit 22 = .ok (.if_icmp .eq 15, 3) := by decide +kernel
theorem dX4_greatestDigit_25 : decode cX4_greatestDigit 25 = .ok (.aload_n 0, 1) := by decide +kernel
theorem dX4_greatestDigit_26 : decode cX4_greatestDigit 26 = .ok (.iload_n 1, 1) := by decide +kernel
theorem dX4_greatestDigit_27 : decode cX4_greatestDigit 27 = .ok (.iconst 2, 1) := by decide +kernel
theorem dX4_greatestDigit_28 : decode cX4_greatestDigit 28 = .ok (.iadd, 1) := by decide +kernel
theorem dX4_greatestDigit_29 : decode cX4_greatestDigit 29 = .ok (.invokevirtual 15, 3) := by decide +kernel
theorem dX4_greatestDigit_32 : decode cX4_greatestDigit 32 = .ok (.bipush 53, 2) := by decide +kernel
theorem dX4_greatestDigit_34 : decode cX4_greatestDigit 34 = .ok (.if_icmp .ne 7, 3) := by decide +kernel
theorem dX4_greatestDigit_37 : decode cX4_greatestDigit 37 = .ok (.iconst 1, 1) := by decide +kernel
theorem dX4_greatestDigit_38 : decode cX4_greatestDigit 38 = .ok (.goto 4, 3) := by decide +kernel
theorem dX4_greatestDigit_41 : decode cX4_greatestDigit 41 = .ok (.iconst 0, 1) := by decide +kernel
theorem dX4_greatestDigit_42 : decode cX4_greatestDigit 42 = .ok (.istore_n 3, 1) := by decide +kernel
theorem dX4_greatestDigit_43 : decode cX4_greatestDigit 43 = .ok (.iload_n 3, 1) := by decide +kernel
theorem dX4_greatestDigit_44 : decode cX4_greatestDigit 44 = .ok (.ifCond .eq 8, 3) := by decide +kernel
theorem dX4_greatestDigit_47 : decode cX4_greatestDigit 47 = .ok (.bipush 53, 2) := by decide +kernel
theorem dX4_greatestDigit_49 : decode cX4_greatestDigit 49 = .ok (.goto 5, 3) := by decide +kernel
theorem dX4_greatestDigit_52 : decode cX4_greatestDigit 52 = .ok (.bipush 57, 2) := by decide +kernel
theorem dX4_greatestDigit_54 : decode cX4_greatestDigit 54 = .ok (.ireturn, 1) := by decide +kernel
theorem dX4_isDigit_0 : decode cX4_isDigit 0 = .ok (.iload_n 0, 1) := by decide +kernel
theorem dX4_isDigit_1 : decode cX4_isDigit 1 = .ok (.iload_n 1, 1) := by decide +kernel
theorem dX4_isDigit_2 : decode cX4_isDigit 2 = .ok (.if_icmp .lt 12, 3) := by decide +kernel
theorem dX4_isDigit_5 : decode cX4_isDigit 5 = .ok (.iload_n 0, 1) := by decide +kernel
theorem dX4_isDigit_6 : decode cX4_isDigit 6 = .ok (.iload_n 2, 1) := by decide +kernel
theorem dX4_isDigit_7 : decode cX4_isDigit 7 = .ok (.if_icmp .gt 7, 3) := by decide +kernel
theorem dX4_isDigit_10 : decode cX4_isDigit 10 = .ok (.iconst 1, 1) := by decide +kernel
theorem dX4_isDigit_11 : decode cX4_isDigit 11 = .ok (.goto 4, 3) := by decide +kernel
theorem dX4_isDigit_14 : decode cX4_isDigit 14 = .ok (.iconst 0, 1) := by decide +kernel
theorem dX4_isDigit_15 : decode cX4_isDigit 15 = .ok (.ireturn, 1) := by decide +kernel
theorem dX4_kindBy_0 : decode cX4_kindBy 0 = .ok (.iload_n 0, 1) := by decide +kernel
theorem dX4_kindBy_1 : decode cX4_kindBy 1 = .ok (.lookupswitch 41 #[(98, 35), (104, 39), (110, 37)], 35) := by decide +kernel
theorem dX4_kindBy_36 : decode cX4_kindBy 36 = .ok (.iconst 0, 1) := by decide +kernel
theorem dX4_kindBy_37 : decode cX4_kindBy 37 = .ok (.ireturn, 1) := by decide +kernel
theorem dX4_kindBy_38 : decode cX4_kindBy 38 = .ok (.iconst 1, 1) := by decide +kernel
theorem dX4_kindBy_39 : decode cX4_kindBy 39 = .ok (.ireturn, 1) := by decide +kernel
theorem dX4_kindBy_40 : decode cX4_kindBy 40 = .ok (.iconst 2, 1) := by decide +kernel
theorem dX4_kindBy_41 : decode cX4_kindBy 41 = .ok (.ireturn, 1) := by decide +kernel
theorem dX4_kindBy_42 : decode cX4_kindBy 42 = .ok (.bipush (-9), 2) := by decide +kernel
theorem dX4_kindBy_44 : decode cX4_kindBy 44 = .ok (.ireturn, 1) := by decide +kernel
theorem dX4_digitAt_0 : decode cX4_digitAt 0 = .ok (.aload_n 0, 1) := by decide +kernel
theorem dX4_digitAt_1 : decode cX4_digitAt 1 = .ok (.iload_n 1, 1) := by decide +kernel
theorem dX4_digitAt_2 : decode cX4_digitAt 2 = .ok (.invokevirtual 15, 3) := by decide +kernel
theorem dX4_digitAt_5 : decode cX4_digitAt 5 = .ok (.bipush 48, 2) := by decide +kernel
theorem dX4_digitAt_7 : decode cX4_digitAt 7 = .ok (.isub, 1) := by decide +kernel
theorem dX4_digitAt_8 : decode cX4_digitAt 8 = .ok (.ireturn, 1) := by decide +kernel
theorem dX4_placeOf_0 : decode cX4_placeOf 0 = .ok (.iload_n 0, 1) := by decide +kernel
theorem dX4_placeOf_1 : decode cX4_placeOf 1 = .ok (.iconst 4, 1) := by decide +kernel
theorem dX4_placeOf_2 : decode cX4_placeOf 2 = .ok (.iadd, 1) := by decide +kernel
theorem dX4_placeOf_3 : decode cX4_placeOf 3 = .ok (.iconst 5, 1) := by decide +kernel
theorem dX4_placeOf_4 : decode cX4_placeOf 4 = .ok (.iload_n 1, 1) := by decide +kernel
theorem dX4_placeOf_5 : decode cX4_placeOf 5 = .ok (.imul, 1) := by decide +kernel
theorem dX4_placeOf_6 : decode cX4_placeOf 6 = .ok (.iadd, 1) := by decide +kernel
theorem dX4_placeOf_7 : decode cX4_placeOf 7 = .ok (.ireturn, 1) := by decide +kernel
theorem dX4_lawOf_0 : decode cX4_lawOf 0 = .ok (.bipush 100, 2) := by decide +kernel
theorem dX4_lawOf_2 : decode cX4_lawOf 2 = .ok (.aload_n 0, 1) := by decide +kernel
theorem dX4_lawOf_3 : decode cX4_lawOf 3 = .ok (.iload_n 1, 1) := by decide +kernel
theorem dX4_lawOf_4 : decode cX4_lawOf 4 = .ok (.iconst 1, 1) := by decide +kernel
theorem dX4_lawOf_5 : decode cX4_lawOf 5 = .ok (.iadd, 1) := by decide +kernel
theorem dX4_lawOf_6 : decode cX4_lawOf 6 = .ok (.invokestatic 32, 3) := by decide +kernel
theorem dX4_lawOf_9 : decode cX4_lawOf 9 = .ok (.imul, 1) := by decide +kernel
theorem dX4_lawOf_10 : decode cX4_lawOf 10 = .ok (.bipush 10, 2) := by decide +kernel
theorem dX4_lawOf_12 : decode cX4_lawOf 12 = .ok (.aload_n 0, 1) := by decide +kernel
theorem dX4_lawOf_13 : decode cX4_lawOf 13 = .ok (.iload_n 1, 1) := by decide +kernel
theorem dX4_lawOf_14 : decode cX4_lawOf 14 = .ok (.iconst 2, 1) := by decide +kernel
theorem dX4_lawOf_15 : decode cX4_lawOf 15 = .ok (.iadd, 1) := by decide +kernel
theorem dX4_lawOf_16 : decode cX4_lawOf 16 = .ok (.invokestatic 32, 3) := by decide +kernel
theorem dX4_lawOf_19 : decode cX4_lawOf 19 = .ok (.imul, 1) := by decide +kernel
theorem dX4_lawOf_20 : decode cX4_lawOf 20 = .ok (.iadd, 1) := by decide +kernel
theorem dX4_lawOf_21 : decode cX4_lawOf 21 = .ok (.aload_n 0, 1) := by decide +kernel
theorem dX4_lawOf_22 : decode cX4_lawOf 22 = .ok (.iload_n 1, 1) := by decide +kernel
theorem dX4_lawOf_23 : decode cX4_lawOf 23 = .ok (.iconst 3, 1) := by decide +kernel
theorem dX4_lawOf_24 : decode cX4_lawOf 24 = .ok (.iadd, 1) := by decide +kernel
theorem dX4_lawOf_25 : decode cX4_lawOf 25 = .ok (.invokestatic 32, 3) := by decide +kernel
theorem dX4_lawOf_28 : decode cX4_lawOf 28 = .ok (.iadd, 1) := by decide +kernel
theorem dX4_lawOf_29 : decode cX4_lawOf 29 = .ok (.ireturn, 1) := by decide +kernel
theorem dX4_blocksIn_0 : decode cX4_blocksIn 0 = .ok (.iload_n 0, 1) := by decide +kernel
theorem dX4_blocksIn_1 : decode cX4_blocksIn 1 = .ok (.iconst 4, 1) := by decide +kernel
theorem dX4_blocksIn_2 : decode cX4_blocksIn 2 = .ok (.isub, 1) := by decide +kernel
theorem dX4_blocksIn_3 : decode cX4_blocksIn 3 = .ok (.iconst 5, 1) := by decide +kernel
theorem dX4_blocksIn_4 : decode cX4_blocksIn 4 = .ok (.idiv, 1) := by decide +kernel
theorem dX4_blocksIn_5 : decode cX4_blocksIn 5 = .ok (.ireturn, 1) := by decide +kernel
theorem dX4_kindOf_0 : decode cX4_kindOf 0 = .ok (.aload_n 0, 1) := by decide +kernel
theorem dX4_kindOf_1 : decode cX4_kindOf 1 = .ok (.iload_n 1, 1) := by decide +kernel
theorem dX4_kindOf_2 : decode cX4_kindOf 2 = .ok (.iload_n 2, 1) := by decide +kernel
theorem dX4_kindOf_3 : decode cX4_kindOf 3 = .ok (.invokestatic 36, 3) := by decide +kernel
theorem dX4_kindOf_6 : decode cX4_kindOf 6 = .ok (.iconst 1, 1) := by decide +kernel
theorem dX4_kindOf_7 : decode cX4_kindOf 7 = .ok (.iadd, 1) := by decide +kernel
theorem dX4_kindOf_8 : decode cX4_kindOf 8 = .ok (.invokevirtual 15, 3) := by decide +kernel
theorem dX4_kindOf_11 : decode cX4_kindOf 11 = .ok (.invokestatic 29, 3) := by decide +kernel
theorem dX4_kindOf_14 : decode cX4_kindOf 14 = .ok (.ireturn, 1) := by decide +kernel
theorem dX4_shapeOf_0 : decode cX4_shapeOf 0 = .ok (.bipush 8, 2) := by decide +kernel
theorem dX4_shapeOf_2 : decode cX4_shapeOf 2 = .ok (.aload_n 0, 1) := by decide +kernel
theorem dX4_shapeOf_3 : decode cX4_shapeOf 3 = .ok (.iload_n 1, 1) := by decide +kernel
theorem dX4_shapeOf_4 : decode cX4_shapeOf 4 = .ok (.iload_n 2, 1) := by decide +kernel
theorem dX4_shapeOf_5 : decode cX4_shapeOf 5 = .ok (.invokestatic 36, 3) := by decide +kernel
theorem dX4_shapeOf_8 : decode cX4_shapeOf 8 = .ok (.iconst 2, 1) := by decide +kernel
theorem dX4_shapeOf_9 : decode cX4_shapeOf 9 = .ok (.iadd, 1) := by decide +kernel
theorem dX4_shapeOf_10 : decode cX4_shapeOf 10 = .ok (.invokestatic 32, 3) := by decide +kernel
theorem dX4_shapeOf_13 : decode cX4_shapeOf 13 = .ok (.imul, 1) := by decide +kernel
theorem dX4_shapeOf_14 : decode cX4_shapeOf 14 = .ok (.aload_n 0, 1) := by decide +kernel
theorem dX4_shapeOf_15 : decode cX4_shapeOf 15 = .ok (.iload_n 1, 1) := by decide +kernel
theorem dX4_shapeOf_16 : decode cX4_shapeOf 16 = .ok (.iload_n 2, 1) := by decide +kernel
theorem dX4_shapeOf_17 : decode cX4_shapeOf 17 = .ok (.invokestatic 36, 3) := by decide +kernel
theorem dX4_shapeOf_20 : decode cX4_shapeOf 20 = .ok (.iconst 3, 1) := by decide +kernel
theorem dX4_shapeOf_21 : decode cX4_shapeOf 21 = .ok (.iadd, 1) := by decide +kernel
theorem dX4_shapeOf_22 : decode cX4_shapeOf 22 = .ok (.invokestatic 32, 3) := by decide +kernel
theorem dX4_shapeOf_25 : decode cX4_shapeOf 25 = .ok (.iadd, 1) := by decide +kernel
theorem dX4_shapeOf_26 : decode cX4_shapeOf 26 = .ok (.ireturn, 1) := by decide +kernel
theorem dX4_paceOf_0 : decode cX4_paceOf 0 = .ok (.aload_n 0, 1) := by decide +kernel
theorem dX4_paceOf_1 : decode cX4_paceOf 1 = .ok (.iload_n 1, 1) := by decide +kernel
theorem dX4_paceOf_2 : decode cX4_paceOf 2 = .ok (.iload_n 2, 1) := by decide +kernel
theorem dX4_paceOf_3 : decode cX4_paceOf 3 = .ok (.invokestatic 36, 3) := by decide +kernel
theorem dX4_paceOf_6 : decode cX4_paceOf 6 = .ok (.iconst 4, 1) := by decide +kernel
theorem dX4_paceOf_7 : decode cX4_paceOf 7 = .ok (.iadd, 1) := by decide +kernel
theorem dX4_paceOf_8 : decode cX4_paceOf 8 = .ok (.invokestatic 32, 3) := by decide +kernel
theorem dX4_paceOf_11 : decode cX4_paceOf 11 = .ok (.ireturn, 1) := by decide +kernel
theorem dX5_init_0 : decode cX5_init 0 = .ok (.aload_n 0, 1) := by decide +kernel
theorem dX5_init_1 : decode cX5_init 1 = .ok (.invokespecial 3, 3) := by decide +kernel
theorem dX5_init_4 : decode cX5_init 4 = .ok (.aload_n 0, 1) := by decide +kernel
theorem dX5_init_5 : decode cX5_init 5 = .ok (.new 9, 3) := by decide +kernel
theorem dX5_init_8 : decode cX5_init 8 = .ok (.dup, 1) := by decide +kernel
theorem dX5_init_9 : decode cX5_init 9 = .ok (.invokespecial 11, 3) := by decide +kernel
theorem dX5_init_12 : decode cX5_init 12 = .ok (.putfield 12, 3) := by decide +kernel
theorem dX5_init_15 : decode cX5_init 15 = .ok (.return_, 1) := by decide +kernel
theorem dX5_tells_0 : decode cX5_tells 0 = .ok (.iload_n 0, 1) := by decide +kernel
theorem dX5_tells_1 : decode cX5_tells 1 = .ok (.ifCond .lt 8, 3) := by decide +kernel
theorem dX5_tells_4 : decode cX5_tells 4 = .ok (.iload_n 0, 1) := by decide +kernel
theorem dX5_tells_5 : decode cX5_tells 5 = .ok (.iconst 4, 1) := by decide +kernel
theorem dX5_tells_6 : decode cX5_tells 6 = .ok (.if_icmp .le 15, 3) := by decide +kernel
theorem dX5_tells_9 : decode cX5_tells 9 = .ok (.iload_n 0, 1) := by decide +kernel
theorem dX5_tells_10 : decode cX5_tells 10 = .ok (.bipush 10, 2) := by decide +kernel
theorem dX5_tells_12 : decode cX5_tells 12 = .ok (.if_icmp .lt 13, 3) := by decide +kernel
theorem dX5_tells_15 : decode cX5_tells 15 = .ok (.iload_n 0, 1) := by decide +kernel
theorem dX5_tells_16 : decode cX5_tells 16 = .ok (.bipush 16, 2) := by decide +kernel
theorem dX5_tells_18 : decode cX5_tells 18 = .ok (.if_icmp .ge 7, 3) := by decide +kernel
theorem dX5_tells_21 : decode cX5_tells 21 = .ok (.iconst 1, 1) := by decide +kernel
theorem dX5_tells_22 : decode cX5_tells 22 = .ok (.goto 4, 3) := by decide +kernel
theorem dX5_tells_25 : decode cX5_tells 25 = .ok (.iconst 0, 1) := by decide +kernel
theorem dX5_tells_26 : decode cX5_tells 26 = .ok (.ireturn, 1) := by decide +kernel
theorem dX5_refusalOfPairs_0 : decode cX5_refusalOfPairs 0 = .ok (.iconst 0, 1) := by decide +kernel
theorem dX5_refusalOfPairs_1 : decode cX5_refusalOfPairs 1 = .ok (.istore 4, 2) := by decide +kernel
theorem dX5_refusalOfPairs_3 : decode cX5_refusalOfPairs 3 = .ok (.iload 4, 2) := by decide +kernel
theorem dX5_refusalOfPairs_5 : decode cX5_refusalOfPairs 5 = .ok (.iload_n 3, 1) := by decide +kernel
theorem dX5_refusalOfPairs_6 : decode cX5_refusalOfPairs 6 = .ok (.if_icmp .ge 79, 3) := by decide +kernel
theorem dX5_refusalOfPairs_9 : decode cX5_refusalOfPairs 9 = .ok (.aload_n 1, 1) := by decide +kernel
theorem dX5_refusalOfPairs_10 : decode cX5_refusalOfPairs 10 = .ok (.iload_n 2, 1) := by decide +kernel
theorem dX5_refusalOfPairs_11 : decode cX5_refusalOfPairs 11 = .ok (.iconst 2, 1) := by decide +kernel
theorem dX5_refusalOfPairs_12 : decode cX5_refusalOfPairs 12 = .ok (.iload 4, 2) := by decide +kernel
theorem dX5_refusalOfPairs_14 : decode cX5_refusalOfPairs 14 = .ok (.imul, 1) := by decide +kernel
theorem dX5_refusalOfPairs_15 : decode cX5_refusalOfPairs 15 = .ok (.iadd, 1) := by decide +kernel
theorem dX5_refusalOfPairs_16 : decode cX5_refusalOfPairs 16 = .ok (.invokevirtual 18, 3) := by decide +kernel
theorem dX5_refusalOfPairs_19 : decode cX5_refusalOfPairs 19 = .ok (.istore 5, 2) := by decide +kernel
theorem dX5_refusalOfPairs_21 : decode cX5_refusalOfPairs 21 = .ok (.aload_n 1, 1) := by decide +kernel
theorem dX5_refusalOfPairs_22 : decode cX5_refusalOfPairs 22 = .ok (.iload_n 2, 1) := by decide +kernel
theorem dX5_refusalOfPairs_23 : decode cX5_refusalOfPairs 23 = .ok (.iconst 2, 1) := by decide +kernel
theorem dX5_refusalOfPairs_24 : decode cX5_refusalOfPairs 24 = .ok (.iload 4, 2) := by decide +kernel
theorem dX5_refusalOfPairs_26 : decode cX5_refusalOfPairs 26 = .ok (.imul, 1) := by decide +kernel
theorem dX5_refusalOfPairs_27 : decode cX5_refusalOfPairs 27 = .ok (.iadd, 1) := by decide +kernel
theorem dX5_refusalOfPairs_28 : decode cX5_refusalOfPairs 28 = .ok (.iconst 1, 1) := by decide +kernel
theorem dX5_refusalOfPairs_29 : decode cX5_refusalOfPairs 29 = .ok (.iadd, 1) := by decide +kernel
theorem dX5_refusalOfPairs_30 : decode cX5_refusalOfPairs 30 = .ok (.invokevirtual 18, 3) := by decide +kernel
theorem dX5_refusalOfPairs_33 : decode cX5_refusalOfPairs 33 = .ok (.istore 6, 2) := by decide +kernel
theorem dX5_refusalOfPairs_35 : decode cX5_refusalOfPairs 35 = .ok (.iload 6, 2) := by decide +kernel
theorem dX5_refusalOfPairs_37 : decode cX5_refusalOfPairs 37 = .ok (.invokestatic 24, 3) := by decide +kernel
theorem dX5_refusalOfPairs_40 : decode cX5_refusalOfPairs 40 = .ok (.ifCond .eq 20, 3) := by decide +kernel
theorem dX5_refusalOfPairs_43 : decode cX5_refusalOfPairs 43 = .ok (.iload 6, 2) := by decide +kernel
theorem dX5_refusalOfPairs_45 : decode cX5_refusalOfPairs 45 = .ok (.ifCond .ne 18, 3) := by decide +kernel
theorem dX5_refusalOfPairs_48 : decode cX5_refusalOfPairs 48 = .ok (.iload 5, 2) := by decide +kernel
theorem dX5_refusalOfPairs_50 : decode cX5_refusalOfPairs 50 = .ok (.ifCond .lt 10, 3) := by decide +kernel
theorem dX5_refusalOfPairs_53 : decode cX5_refusalOfPairs 53 = .ok (.iload 5, 2) := by decide +kernel
theorem dX5_refusalOfPairs_55 : decode cX5_refusalOfPairs 55 = .ok (.bipush 99, 2) := by decide +kernel
theorem dX5_refusalOfPairs_57 : decode cX5_refusalOfPairs 57 = .ok (.if_icmp .le 6, 3) := by decide +kernel
theorem dX5_refusalOfPairs_60 : decode cX5_refusalOfPairs 60 = .ok (.bipush (-2), 2) := by decide +kernel
theorem dX5_refusalOfPairs_62 : decode cX5_refusalOfPairs 62 = .ok (.ireturn, 1) := by decide +kernel
theorem dX5_refusalOfPairs_63 : decode cX5_refusalOfPairs 63 = .ok (.iload 6, 2) := by decide +kernel
theorem dX5_refusalOfPairs_65 : decode cX5_refusalOfPairs 65 = .ok (.ifCond .eq 14, 3) := by decide +kernel
theorem dX5_refusalOfPairs_68 : decode cX5_refusalOfPairs 68 = .ok (.aload_n 0, 1) := by decide +kernel
theorem dX5_refusalOfPairs_69 : decode cX5_refusalOfPairs 69 = .ok (.iload 5, 2) := by decide +kernel
theorem dX5_refusalOfPairs_71 : decode cX5_refusalOfPairs 71 = .ok (.invokevirtual 28, 3) := by decide +kernel
theorem dX5_refusalOfPairs_74 : decode cX5_refusalOfPairs 74 = .ok (.ifCond .ne 5, 3) := by decide +kernel
theorem dX5_refusalOfPairs_77 : decode cX5_refusalOfPairs 77 = .ok (.iconst (-1), 1) := by decide +kernel
theorem dX5_refusalOfPairs_78 : decode cX5_refusalOfPairs 78 = .ok (.ireturn, 1) := by decide +kernel
theorem dX5_refusalOfPairs_79 : decode cX5_refusalOfPairs 79 = .ok (.iinc 4 1, 3) := by decide +kernel
theorem dX5_refusalOfPairs_82 : decode cX5_refusalOfPairs 82 = .ok (.goto (-79), 3) := by decide +kernel
theorem dX5_refusalOfPairs_85 : decode cX5_refusalOfPairs 85 = .ok (.iconst 0, 1) := by decide +kernel
theorem dX5_refusalOfPairs_86 : decode cX5_refusalOfPairs 86 = .ok (.ireturn, 1) := by decide +kernel
theorem dX5_isAct_0 : decode cX5_isAct 0 = .ok (.iload_n 0, 1) := by decide +kernel
theorem dX5_isAct_1 : decode cX5_isAct 1 = .ok (.ifCond .lt 8, 3) := by decide +kernel
theorem dX5_isAct_4 : decode cX5_isAct 4 = .ok (.iload_n 0, 1) := by decide +kernel
theorem dX5_isAct_5 : decode cX5_isAct 5 = .ok (.iconst 2, 1) := by decide +kernel
theorem dX5_isAct_6 : decode cX5_isAct 6 = .ok (.if_icmp .le 10, 3) := by decide +kernel
theorem dX5_isAct_9 : decode cX5_isAct 9 = .ok (.iload_n 0, 1) := by decide +kernel
theorem dX5_isAct_10 : decode cX5_isAct 10 = .ok (.invokestatic 31, 3) := by decide +kernel
theorem dX5_isAct_13 : decode cX5_isAct 13 = .ok (.ifCond .eq 7, 3) := by decide +kernel
theorem dX5_isAct_16 : decode cX5_isAct 16 = .ok (.iconst 1, 1) := by decide +kernel
theorem dX5_isAct_17 : decode cX5_isAct 17 = .ok (.goto 4, 3) := by decide +kernel
theorem dX5_isAct_20 : decode cX5_isAct 20 = .ok (.iconst 0, 1) := by decide +kernel
theorem dX5_isAct_21 : decode cX5_isAct 21 = .ok (.ireturn, 1) := by decide +kernel
theorem dX5_isStroke_0 : decode cX5_isStroke 0 = .ok (.iload_n 0, 1) := by decide +kernel
theorem dX5_isStroke_1 : decode cX5_isStroke 1 = .ok (.bipush 10, 2) := by decide +kernel
theorem dX5_isStroke_3 : decode cX5_isStroke 3 = .ok (.if_icmp .lt 13, 3) := by decide +kernel
theorem dX5_isStroke_6 : decode cX5_isStroke 6 = .ok (.iload_n 0, 1) := by decide +kernel
theorem dX5_isStroke_7 : decode cX5_isStroke 7 = .ok (.bipush 16, 2) := by decide +kernel
theorem dX5_isStroke_9 : decode cX5_isStroke 9 = .ok (.if_icmp .ge 7, 3) := by decide +kernel
theorem dX5_isStroke_12 : decode cX5_isStroke 12 = .ok (.iconst 1, 1) := by decide +kernel
theorem dX5_isStroke_13 : decode cX5_isStroke 13 = .ok (.goto 4, 3) := by decide +kernel
theorem dX5_isStroke_16 : decode cX5_isStroke 16 = .ok (.iconst 0, 1) := by decide +kernel
theorem dX5_isStroke_17 : decode cX5_isStroke 17 = .ok (.ireturn, 1) := by decide +kernel
theorem dX5_live_0 : decode cX5_live 0 = .ok (.aload_n 0, 1) := by decide +kernel
theorem dX5_live_1 : decode cX5_live 1 = .ok (.getfield 12, 3) := by decide +kernel
theorem dX5_live_4 : decode cX5_live 4 = .ok (.aload_n 1, 1) := by decide +kernel
theorem dX5_live_5 : decode cX5_live 5 = .ok (.invokevirtual 34, 3) := by decide +kernel
theorem dX5_live_8 : decode cX5_live 8 = .ok (.aload_n 0, 1) := by decide +kernel
theorem dX5_live_9 : decode cX5_live 9 = .ok (.aload_n 1, 1) := by decide +kernel
theorem dX5_live_10 : decode cX5_live 10 = .ok (.getfield 38, 3) := by decide +kernel
theorem dX5_live_13 : decode cX5_live 13 = .ok (.putfield 42, 3) := by decide +kernel
theorem dX5_live_16 : decode cX5_live 16 = .ok (.aload_n 0, 1) := by decide +kernel
theorem dX5_live_17 : decode cX5_live 17 = .ok (.bipush (-9), 2) := by decide +kernel
theorem dX5_live_19 : decode cX5_live 19 = .ok (.putfield 45, 3) := by decide +kernel
theorem dX5_live_22 : decode cX5_live 22 = .ok (.aload_n 0, 1) := by decide +kernel
theorem dX5_live_23 : decode cX5_live 23 = .ok (.iconst 0, 1) := by decide +kernel
theorem dX5_live_24 : decode cX5_live 24 = .ok (.putfield 48, 3) := by decide +kernel
theorem dX5_live_27 : decode cX5_live 27 = .ok (.iconst 0, 1) := by decide +kernel
theorem dX5_live_28 : decode cX5_live 28 = .ok (.istore 6, 2) := by decide +kernel
theorem dX5_live_30 : decode cX5_live 30 = .ok (.iload 6, 2) := by decide +kernel
theorem dX5_live_32 : decode cX5_live 32 = .ok (.iload 5, 2) := by decide +kernel
theorem dX5_live_34 : decode cX5_live 34 = .ok (.if_icmp .ge 78, 3) := by decide +kernel
theorem dX5_live_37 : decode cX5_live 37 = .ok (.aload_n 0, 1) := by decide +kernel
theorem dX5_live_38 : decode cX5_live 38 = .ok (.getfield 45, 3) := by decide +kernel
theorem dX5_live_41 : decode cX5_live 41 = .ok (.bipush (-9), 2) := by decide +kernel
theorem dX5_live_43 : decode cX5_live 43 = .ok (.if_icmp .ne 69, 3) := by decide +kernel
theorem dX5_live_46 : decode cX5_live 46 = .ok (.aload_n 3, 1) := by decide +kernel
theorem dX5_live_47 : decode cX5_live 47 = .ok (.iload 4, 2) := by decide +kernel
theorem dX5_live_49 : decode cX5_live 49 = .ok (.iconst 2, 1) := by decide +kernel
theorem dX5_live_50 : decode cX5_live 50 = .ok (.iload 6, 2) := by decide +kernel
theorem dX5_live_52 : decode cX5_live 52 = .ok (.imul, 1) := by decide +kernel
theorem dX5_live_53 : decode cX5_live 53 = .ok (.iadd, 1) := by decide +kernel
theorem dX5_live_54 : decode cX5_live 54 = .ok (.invokevirtual 18, 3) := by decide +kernel
theorem dX5_live_57 : decode cX5_live 57 = .ok (.istore 7, 2) := by decide +kernel
theorem dX5_live_59 : decode cX5_live 59 = .ok (.aload_n 3, 1) := by decide +kernel
theorem dX5_live_60 : decode cX5_live 60 = .ok (.iload 4, 2) := by decide +kernel
theorem dX5_live_62 : decode cX5_live 62 = .ok (.iconst 2, 1) := by decide +kernel
theorem dX5_live_63 : decode cX5_live 63 = .ok (.iload 6, 2) := by decide +kernel
theorem dX5_live_65 : decode cX5_live 65 = .ok (.imul, 1) := by decide +kernel
theorem dX5_live_66 : decode cX5_live 66 = .ok (.iadd, 1) := by decide +kernel
theorem dX5_live_67 : decode cX5_live 67 = .ok (.iconst 1, 1) := by decide +kernel
theorem dX5_live_68 : decode cX5_live 68 = .ok (.iadd, 1) := by decide +kernel
theorem dX5_live_69 : decode cX5_live 69 = .ok (.invokevirtual 18, 3) := by decide +kernel
theorem dX5_live_72 : decode cX5_live 72 = .ok (.istore 8, 2) := by decide +kernel
theorem dX5_live_74 : decode cX5_live 74 = .ok (.iload 8, 2) := by decide +kernel
theorem dX5_live_76 : decode cX5_live 76 = .ok (.ifCond .ne 13, 3) := by decide +kernel
theorem dX5_live_79 : decode cX5_live 79 = .ok (.aload_n 0, 1) := by decide +kernel
theorem dX5_live_80 : decode cX5_live 80 = .ok (.aload_n 2, 1) := by decide +kernel
theorem dX5_live_81 : decode cX5_live 81 = .ok (.iload 7, 2) := by decide +kernel
theorem dX5_live_83 : decode cX5_live 83 = .ok (.invokevirtual 51, 3) := by decide +kernel
theorem dX5_live_86 : decode cX5_live 86 = .ok (.goto 20, 3) := by decide +kernel
theorem dX5_live_89 : decode cX5_live 89 = .ok (.aload_n 0, 1) := by decide +kernel
theorem dX5_live_90 : decode cX5_live 90 = .ok (.iload 7, 2) := by decide +kernel
theorem dX5_live_92 : decode cX5_live 92 = .ok (.iload 8, 2) := by decide +kernel
theorem dX5_live_94 : decode cX5_live 94 = .ok (.invokevirtual 55, 3) := by decide +kernel
theorem dX5_live_97 : decode cX5_live 97 = .ok (.ifCond .ne 9, 3) := by decide +kernel
theorem dX5_live_100 : decode cX5_live 100 = .ok (.aload_n 0, 1) := by decide +kernel
theorem dX5_live_101 : decode cX5_live 101 = .ok (.iload 6, 2) := by decide +kernel
theorem dX5_live_103 : decode cX5_live 103 = .ok (.putfield 45, 3) := by decide +kernel
theorem dX5_live_106 : decode cX5_live 106 = .ok (.iinc 6 1, 3) := by decide +kernel
theorem dX5_live_109 : decode cX5_live 109 = .ok (.goto (-79), 3) := by decide +kernel
theorem dX5_live_112 : decode cX5_live 112 = .ok (.return_, 1) := by decide +kernel
theorem dX5_letGo_0 : decode cX5_letGo 0 = .ok (.iconst 0, 1) := by decide +kernel
theorem dX5_letGo_1 : decode cX5_letGo 1 = .ok (.istore_n 3, 1) := by decide +kernel
theorem dX5_letGo_2 : decode cX5_letGo 2 = .ok (.iload_n 3, 1) := by decide +kernel
theorem dX5_letGo_3 : decode cX5_letGo 3 = .ok (.iload_n 2, 1) := by decide +kernel
theorem dX5_letGo_4 : decode cX5_letGo 4 = .ok (.if_icmp .ge 37, 3) := by decide +kernel
theorem dX5_letGo_7 : decode cX5_letGo 7 = .ok (.aload_n 0, 1) := by decide +kernel
theorem dX5_letGo_8 : decode cX5_letGo 8 = .ok (.getfield 12, 3) := by decide +kernel
theorem dX5_letGo_11 : decode cX5_letGo 11 = .ok (.aload_n 1, 1) := by decide +kernel
theorem dX5_letGo_12 : decode cX5_letGo 12 = .ok (.invokevirtual 59, 3) := by decide +kernel
theorem dX5_letGo_15 : decode cX5_letGo 15 = .ok (.aload_n 0, 1) := by decide +kernel
theorem dX5_letGo_16 : decode cX5_letGo 16 = .ok (.getfield 12, 3) := by decide +kernel
theorem dX5_letGo_19 : decode cX5_letGo 19 = .ok (.invokevirtual 63, 3) := by decide +kernel
theorem dX5_letGo_22 : decode cX5_letGo 22 = .ok (.ifCond .eq 13, 3) := by decide +kernel
theorem dX5_letGo_25 : decode cX5_letGo 25 = .ok (.aload_n 0, 1) := by decide +kernel
theorem dX5_letGo_26 : decode cX5_letGo 26 = .ok (.dup, 1) := by decide +kernel
theorem dX5_letGo_27 : decode cX5_letGo 27 = .ok (.getfield 48, 3) := by decide +kernel
theorem dX5_letGo_30 : decode cX5_letGo 30 = .ok (.iconst 1, 1) := by decide +kernel
theorem dX5_letGo_31 : decode cX5_letGo 31 = .ok (.iadd, 1) := by decide +kernel
theorem dX5_letGo_32 : decode cX5_letGo 32 = .ok (.putfield 48, 3) := by decide +kernel
theorem dX5_letGo_35 : decode cX5_letGo 35 = .ok (.iinc 3 1, 3) := by decide +kernel
theorem dX5_letGo_38 : decode cX5_letGo 38 = .ok (.goto (-36), 3) := by decide +kernel
theorem dX5_letGo_41 : decode cX5_letGo 41 = .ok (.return_, 1) := by decide +kernel
theorem dX5_tryAct_0 : decode cX5_tryAct 0 = .ok (.aload_n 0, 1) := by decide +kernel
theorem dX5_tryAct_1 : decode cX5_tryAct 1 = .ok (.getfield 12, 3) := by decide +kernel
theorem dX5_tryAct_4 : decode cX5_tryAct 4 = .ok (.iload_n 1, 1) := by decide +kernel
theorem dX5_tryAct_5 : decode cX5_tryAct 5 = .ok (.invokevirtual 28, 3) := by decide +kernel
theorem dX5_tryAct_8 : decode cX5_tryAct 8 = .ok (.ifCond .ne 5, 3) := by decide +kernel
theorem dX5_tryAct_11 : decode cX5_tryAct 11 = .ok (.iconst 0, 1) := by decide +kernel
theorem dX5_tryAct_12 : decode cX5_tryAct 12 = .ok (.ireturn, 1) := by decide +kernel
theorem dX5_tryAct_13 : decode cX5_tryAct 13 = .ok (.iload_n 2, 1) := by decide +kernel
theorem dX5_tryAct_14 : decode cX5_tryAct 14 = .ok (.iconst 1, 1) := by decide +kernel
theorem dX5_tryAct_15 : decode cX5_tryAct 15 = .ok (.if_icmp .ne 12, 3) := by decide +kernel
theorem dX5_tryAct_18 : decode cX5_tryAct 18 = .ok (.aload_n 0, 1) := by decide +kernel
theorem dX5_tryAct_19 : decode cX5_tryAct 19 = .ok (.getfield 12, 3) := by decide +kernel
theorem dX5_tryAct_22 : decode cX5_tryAct 22 = .ok (.iload_n 1, 1) := by decide +kernel
theorem dX5_tryAct_23 : decode cX5_tryAct 23 = .ok (.invokevirtual 67, 3) := by decide +kernel
theorem dX5_tryAct_26 : decode cX5_tryAct 26 = .ok (.ireturn, 1) := by decide +kernel
theorem dX5_tryAct_27 : decode cX5_tryAct 27 = .ok (.iload_n 2, 1) := by decide +kernel
theorem dX5_tryAct_28 : decode cX5_tryAct 28 = .ok (.iconst 2, 1) := by decide +kernel
theorem dX5_tryAct_29 : decode cX5_tryAct 29 = .ok (.if_icmp .ne 12, 3) := by decide +kernel
theorem dX5_tryAct_32 : decode cX5_tryAct 32 = .ok (.aload_n 0, 1) := by decide +kernel
theorem dX5_tryAct_33 : decode cX5_tryAct 33 = .ok (.getfield 12, 3) := by decide +kernel
theorem dX5_tryAct_36 : decode cX5_tryAct 36 = .ok (.iload_n 1, 1) := by decide +kernel
theorem dX5_tryAct_37 : decode cX5_tryAct 37 = .ok (.invokevirtual 70, 3) := by decide +kernel
theorem dX5_tryAct_40 : decode cX5_tryAct 40 = .ok (.ireturn, 1) := by decide +kernel
theorem dX5_tryAct_41 : decode cX5_tryAct 41 = .ok (.aload_n 0, 1) := by decide +kernel
theorem dX5_tryAct_42 : decode cX5_tryAct 42 = .ok (.getfield 12, 3) := by decide +kernel
theorem dX5_tryAct_45 : decode cX5_tryAct 45 = .ok (.iload_n 1, 1) := by decide +kernel
theorem dX5_tryAct_46 : decode cX5_tryAct 46 = .ok (.iload_n 2, 1) := by decide +kernel
theorem dX5_tryAct_47 : decode cX5_tryAct 47 = .ok (.bipush 10, 2) := by decide +kernel
theorem dX5_tryAct_49 : decode cX5_tryAct 49 = .ok (.isub, 1) := by decide +kernel
theorem dX5_tryAct_50 : decode cX5_tryAct 50 = .ok (.invokevirtual 73, 3) := by decide +kernel
theorem dX5_tryAct_53 : decode cX5_tryAct 53 = .ok (.iconst 1, 1) := by decide +kernel
theorem dX5_tryAct_54 : decode cX5_tryAct 54 = .ok (.ireturn, 1) := by decide +kernel
