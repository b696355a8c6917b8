theorem dX7_ofBlock_2 : decode cX7_ofBlock 2 = .ok (.invokevirtual 132, 3) := by decide +kernel
theorem dX7_ofBlock_5 : decode cX7_ofBlock 5 = .ok (.ifCond .ne 5, 3) := by decide +kernel
theorem dX7_ofBlock_8 : decode cX7_ofBlock 8 = .ok (.iconst (-1), 1) := by decide +kernel
theorem dX7_ofBlock_9 : decode cX7_ofBlock 9 = .ok (.ireturn, 1) := by decide +kernel
theorem dX7_ofBlock_10 : decode cX7_ofBlock 10 = .ok (.iload_n 2, 1) := by decide +kernel
theorem dX7_ofBlock_11 : decode cX7_ofBlock 11 = .ok (.tableswitch 83 0 5 #[37, 44, 51, 58, 64, 73], 37) := by decide +kernel
theorem dX7_ofBlock_48 : decode cX7_ofBlock 48 = .ok (.aload_n 0, 1) := by decide +kernel
theorem dX7_ofBlock_49 : decode cX7_ofBlock 49 = .ok (.getfield 22, 3) := by decide +kernel
theorem dX7_ofBlock_52 : decode cX7_ofBlock 52 = .ok (.iload_n 1, 1) := by decide +kernel
theorem dX7_ofBlock_53 : decode cX7_ofBlock 53 = .ok (.iaload, 1) := by decide +kernel
theorem dX7_ofBlock_54 : decode cX7_ofBlock 54 = .ok (.ireturn, 1) := by decide +kernel
theorem dX7_ofBlock_55 : decode cX7_ofBlock 55 = .ok (.aload_n 0, 1) := by decide +kernel
theorem dX7_ofBlock_56 : decode cX7_ofBlock 56 = .ok (.getfield 25, 3) := by decide +kernel
theorem dX7_ofBlock_59 : decode cX7_ofBlock 59 = .ok (.iload_n 1, 1) := by decide +kernel
theorem dX7_ofBlock_60 : decode cX7_ofBlock 60 = .ok (.iaload, 1) := by decide +kernel
theorem dX7_ofBlock_61 : decode cX7_ofBlock 61 = .ok (.ireturn, 1) := by decide +kernel
theorem dX7_ofBlock_62 : decode cX7_ofBlock 62 = .ok (.aload_n 0, 1) := by decide +kernel
theorem dX7_ofBlock_63 : decode cX7_ofBlock 63 = .ok (.getfield 28, 3) := by decide +kernel
theorem dX7_ofBlock_66 : decode cX7_ofBlock 66 = .ok (.iload_n 1, 1) := by decide +kernel
theorem dX7_ofBlock_67 : decode cX7_ofBlock 67 = .ok (.iaload, 1) := by decide +kernel
theorem dX7_ofBlock_68 : decode cX7_ofBlock 68 = .ok (.ireturn, 1) := by decide +kernel
theorem dX7_ofBlock_69 : decode cX7_ofBlock 69 = .ok (.aload_n 0, 1) := by decide +kernel
theorem dX7_ofBlock_70 : decode cX7_ofBlock 70 = .ok (.iload_n 1, 1) := by decide +kernel
theorem dX7_ofBlock_71 : decode cX7_ofBlock 71 = .ok (.invokevirtual 135, 3) := by decide +kernel
theorem dX7_ofBlock_74 : decode cX7_ofBlock 74 = .ok (.ireturn, 1) := by decide +kernel
theorem dX7_ofBlock_75 : decode cX7_ofBlock 75 = .ok (.aload_n 0, 1) := by decide +kernel
theorem dX7_ofBlock_76 : decode cX7_ofBlock 76 = .ok (.getfield 105, 3) := by decide +kernel
theorem dX7_ofBlock_79 : decode cX7_ofBlock 79 = .ok (.iload_n 1, 1) := by decide +kernel
theorem dX7_ofBlock_80 : decode cX7_ofBlock 80 = .ok (.ishr, 1) := by decide +kernel
theorem dX7_ofBlock_81 : decode cX7_ofBlock 81 = .ok (.iconst 1, 1) := by decide +kernel
theorem dX7_ofBlock_82 : decode cX7_ofBlock 82 = .ok (.iand, 1) := by decide +kernel
theorem dX7_ofBlock_83 : decode cX7_ofBlock 83 = .ok (.ireturn, 1) := by decide +kernel
theorem dX7_ofBlock_84 : decode cX7_ofBlock 84 = .ok (.aload_n 0, 1) := by decide +kernel
theorem dX7_ofBlock_85 : decode cX7_ofBlock 85 = .ok (.getfield 25, 3) := by decide +kernel
theorem dX7_ofBlock_88 : decode cX7_ofBlock 88 = .ok (.iload_n 1, 1) := by decide +kernel
theorem dX7_ofBlock_89 : decode cX7_ofBlock 89 = .ok (.iaload, 1) := by decide +kernel
theorem dX7_ofBlock_90 : decode cX7_ofBlock 90 = .ok (.invokestatic 138, 3) := by decide +kernel
theorem dX7_ofBlock_93 : decode cX7_ofBlock 93 = .ok (.ireturn, 1) := by decide +kernel
theorem dX7_ofBlock_94 : decode cX7_ofBlock 94 = .ok (.bipush (-2), 2) := by decide +kernel
theorem dX7_ofBlock_96 : decode cX7_ofBlock 96 = .ok (.ireturn, 1) := by decide +kernel
theorem dX7_becomes_0 : decode cX7_becomes 0 = .ok (.iload_n 1, 1) := by decide +kernel
theorem dX7_becomes_1 : decode cX7_becomes 1 = .ok (.invokestatic 141, 3) := by decide +kernel
theorem dX7_becomes_4 : decode cX7_becomes 4 = .ok (.ifCond .ne 6, 3) := by decide +kernel
theorem dX7_becomes_7 : decode cX7_becomes 7 = .ok (.bipush (-2), 2) := by decide +kernel
theorem dX7_becomes_9 : decode cX7_becomes 9 = .ok (.ireturn, 1) := by decide +kernel
theorem dX7_becomes_10 : decode cX7_becomes 10 = .ok (.aload_n 0, 1) := by decide +kernel
theorem dX7_becomes_11 : decode cX7_becomes 11 = .ok (.getfield 65, 3) := by decide +kernel
theorem dX7_becomes_14 : decode cX7_becomes 14 = .ok (.ifCond .ne 8, 3) := by decide +kernel
theorem dX7_becomes_17 : decode cX7_becomes 17 = .ok (.bipush (-3), 2) := by decide +kernel
theorem dX7_becomes_19 : decode cX7_becomes 19 = .ok (.goto 9, 3) := by decide +kernel
theorem dX7_becomes_22 : decode cX7_becomes 22 = .ok (.aload_n 0, 1) := by decide +kernel
theorem dX7_becomes_23 : decode cX7_becomes 23 = .ok (.getfield 19, 3) := by decide +kernel
theorem dX7_becomes_26 : decode cX7_becomes 26 = .ok (.iload_n 1, 1) := by decide +kernel
theorem dX7_becomes_27 : decode cX7_becomes 27 = .ok (.iaload, 1) := by decide +kernel
theorem dX7_becomes_28 : decode cX7_becomes 28 = .ok (.ireturn, 1) := by decide +kernel
theorem dX7_enact_0 : decode cX7_enact 0 = .ok (.iload_n 1, 1) := by decide +kernel
theorem dX7_enact_1 : decode cX7_enact 1 = .ok (.iconst 0, 1) := by decide +kernel
theorem dX7_enact_2 : decode cX7_enact 2 = .ok (.sipush 255, 3) := by decide +kernel
theorem dX7_enact_5 : decode cX7_enact 5 = .ok (.invokestatic 61, 3) := by decide +kernel
theorem dX7_enact_8 : decode cX7_enact 8 = .ok (.ifCond .ne 6, 3) := by decide +kernel
theorem dX7_enact_11 : decode cX7_enact 11 = .ok (.bipush (-2), 2) := by decide +kernel
theorem dX7_enact_13 : decode cX7_enact 13 = .ok (.ireturn, 1) := by decide +kernel
theorem dX7_enact_14 : decode cX7_enact 14 = .ok (.aload_n 0, 1) := by decide +kernel
theorem dX7_enact_15 : decode cX7_enact 15 = .ok (.getfield 65, 3) := by decide +kernel
theorem dX7_enact_18 : decode cX7_enact 18 = .ok (.ifCond .ne 6, 3) := by decide +kernel
theorem dX7_enact_21 : decode cX7_enact 21 = .ok (.bipush (-3), 2) := by decide +kernel
theorem dX7_enact_23 : decode cX7_enact 23 = .ok (.ireturn, 1) := by decide +kernel
theorem dX7_enact_24 : decode cX7_enact 24 = .ok (.aload_n 0, 1) := by decide +kernel
theorem dX7_enact_25 : decode cX7_enact 25 = .ok (.getfield 111, 3) := by decide +kernel
theorem dX7_enact_28 : decode cX7_enact 28 = .ok (.istore_n 2, 1) := by decide +kernel
theorem dX7_enact_29 : decode cX7_enact 29 = .ok (.aload_n 0, 1) := by decide +kernel
theorem dX7_enact_30 : decode cX7_enact 30 = .ok (.iload_n 1, 1) := by decide +kernel
theorem dX7_enact_31 : decode cX7_enact 31 = .ok (.invokevirtual 95, 3) := by decide +kernel
theorem dX7_enact_34 : decode cX7_enact 34 = .ok (.iload_n 2, 1) := by decide +kernel
theorem dX7_enact_35 : decode cX7_enact 35 = .ok (.ireturn, 1) := by decide +kernel
theorem dX7_hurry_0 : decode cX7_hurry 0 = .ok (.aload_n 0, 1) := by decide +kernel
theorem dX7_hurry_1 : decode cX7_hurry 1 = .ok (.iload_n 1, 1) := by decide +kernel
theorem dX7_hurry_2 : decode cX7_hurry 2 = .ok (.invokevirtual 132, 3) := by decide +kernel
theorem dX7_hurry_5 : decode cX7_hurry 5 = .ok (.ifCond .ne 5, 3) := by decide +kernel
theorem dX7_hurry_8 : decode cX7_hurry 8 = .ok (.iconst (-1), 1) := by decide +kernel
theorem dX7_hurry_9 : decode cX7_hurry 9 = .ok (.ireturn, 1) := by decide +kernel
theorem dX7_hurry_10 : decode cX7_hurry 10 = .ok (.iload_n 2, 1) := by decide +kernel
theorem dX7_hurry_11 : decode cX7_hurry 11 = .ok (.iconst 1, 1) := by decide +kernel
theorem dX7_hurry_12 : decode cX7_hurry 12 = .ok (.iconst 4, 1) := by decide +kernel
theorem dX7_hurry_13 : decode cX7_hurry 13 = .ok (.invokestatic 61, 3) := by decide +kernel
theorem dX7_hurry_16 : decode cX7_hurry 16 = .ok (.ifCond .ne 6, 3) := by decide +kernel
theorem dX7_hurry_19 : decode cX7_hurry 19 = .ok (.bipush (-2), 2) := by decide +kernel
theorem dX7_hurry_21 : decode cX7_hurry 21 = .ok (.ireturn, 1) := by decide +kernel
theorem dX7_hurry_22 : decode cX7_hurry 22 = .ok (.aload_n 0, 1) := by decide +kernel
theorem dX7_hurry_23 : decode cX7_hurry 23 = .ok (.getfield 28, 3) := by decide +kernel
theorem dX7_hurry_26 : decode cX7_hurry 26 = .ok (.iload_n 1, 1) := by decide +kernel
theorem dX7_hurry_27 : decode cX7_hurry 27 = .ok (.iaload, 1) := by decide +kernel
theorem dX7_hurry_28 : decode cX7_hurry 28 = .ok (.istore_n 3, 1) := by decide +kernel
theorem dX7_hurry_29 : decode cX7_hurry 29 = .ok (.aload_n 0, 1) := by decide +kernel
theorem dX7_hurry_30 : decode cX7_hurry 30 = .ok (.getfield 28, 3) := by decide +kernel
theorem dX7_hurry_33 : decode cX7_hurry 33 = .ok (.iload_n 1, 1) := by decide +kernel
theorem dX7_hurry_34 : decode cX7_hurry 34 = .ok (.iload_n 2, 1) := by decide +kernel
theorem dX7_hurry_35 : decode cX7_hurry 35 = .ok (.iastore, 1) := by decide +kernel
theorem dX7_hurry_36 : decode cX7_hurry 36 = .ok (.iload_n 3, 1) := by decide +kernel
theorem dX7_hurry_37 : decode cX7_hurry 37 = .ok (.ireturn, 1) := by decide +kernel
theorem dX7_keep_0 : decode cX7_keep 0 = .ok (.iconst 0, 1) := by decide +kernel
theorem dX7_keep_1 : decode cX7_keep 1 = .ok (.istore_n 1, 1) := by decide +kernel
theorem dX7_keep_2 : decode cX7_keep 2 = .ok (.iload_n 1, 1) := by decide +kernel
theorem dX7_keep_3 : decode cX7_keep 3 = .ok (.aload_n 0, 1) := by decide +kernel
theorem dX7_keep_4 : decode cX7_keep 4 = .ok (.getfield 65, 3) := by decide +kernel
theorem dX7_keep_7 : decode cX7_keep 7 = .ok (.if_icmp .ge 21, 3) := by decide +kernel
theorem dX7_keep_10 : decode cX7_keep 10 = .ok (.aload_n 0, 1) := by decide +kernel
theorem dX7_keep_11 : decode cX7_keep 11 = .ok (.getfield 34, 3) := by decide +kernel
theorem dX7_keep_14 : decode cX7_keep 14 = .ok (.iload_n 1, 1) := by decide +kernel
theorem dX7_keep_15 : decode cX7_keep 15 = .ok (.aload_n 0, 1) := by decide +kernel
theorem dX7_keep_16 : decode cX7_keep 16 = .ok (.getfield 25, 3) := by decide +kernel
theorem dX7_keep_19 : decode cX7_keep 19 = .ok (.iload_n 1, 1) := by decide +kernel
theorem dX7_keep_20 : decode cX7_keep 20 = .ok (.iaload, 1) := by decide +kernel
theorem dX7_keep_21 : decode cX7_keep 21 = .ok (.iastore, 1) := by decide +kernel
theorem dX7_keep_22 : decode cX7_keep 22 = .ok (.iinc 1 1, 3) := by decide +kernel
theorem dX7_keep_25 : decode cX7_keep 25 = .ok (.goto (-23), 3) := by decide +kernel
theorem dX7_keep_28 : decode cX7_keep 28 = .ok (.return_, 1) := by decide +kernel
theorem dX7_oneDay_0 : decode cX7_oneDay 0 = .ok (.iconst 0, 1) := by decide +kernel
theorem dX7_oneDay_1 : decode cX7_oneDay 1 = .ok (.istore_n 1, 1) := by decide +kernel
theorem dX7_oneDay_2 : decode cX7_oneDay 2 = .ok (.iload_n 1, 1) := by decide +kernel
theorem dX7_oneDay_3 : decode cX7_oneDay 3 = .ok (.aload_n 0, 1) := by decide +kernel
theorem dX7_oneDay_4 : decode cX7_oneDay 4 = .ok (.getfield 65, 3) := by decide +kernel
theorem dX7_oneDay_7 : decode cX7_oneDay 7 = .ok (.if_icmp .ge 41, 3) := by decide +kernel
theorem dX7_oneDay_10 : decode cX7_oneDay 10 = .ok (.aload_n 0, 1) := by decide +kernel
theorem dX7_oneDay_11 : decode cX7_oneDay 11 = .ok (.getfield 105, 3) := by decide +kernel
theorem dX7_oneDay_14 : decode cX7_oneDay 14 = .ok (.iload_n 1, 1) := by decide +kernel
theorem dX7_oneDay_15 : decode cX7_oneDay 15 = .ok (.invokestatic 144, 3) := by decide +kernel
theorem dX7_oneDay_18 : decode cX7_oneDay 18 = .ok (.ifCond .ne 24, 3) := by decide +kernel
theorem dX7_oneDay_21 : decode cX7_oneDay 21 = .ok (.aload_n 0, 1) := by decide +kernel
theorem dX7_oneDay_22 : decode cX7_oneDay 22 = .ok (.getfield 25, 3) := by decide +kernel
theorem dX7_oneDay_25 : decode cX7_oneDay 25 = .ok (.iload_n 1, 1) := by decide +kernel
theorem dX7_oneDay_26 : decode cX7_oneDay 26 = .ok (.aload_n 0, 1) := by decide +kernel
theorem dX7_oneDay_27 : decode cX7_oneDay 27 = .ok (.aload_n 0, 1) := by decide +kernel
theorem dX7_oneDay_28 : decode cX7_oneDay 28 = .ok (.getfield 25, 3) := by decide +kernel
theorem dX7_oneDay_31 : decode cX7_oneDay 31 = .ok (.iload_n 1, 1) := by decide +kernel
theorem dX7_oneDay_32 : decode cX7_oneDay 32 = .ok (.iaload, 1) := by decide +kernel
theorem dX7_oneDay_33 : decode cX7_oneDay 33 = .ok (.aload_n 0, 1) := by decide +kernel
theorem dX7_oneDay_34 : decode cX7_oneDay 34 = .ok (.iload_n 1, 1) := by decide +kernel
theorem dX7_oneDay_35 : decode cX7_oneDay 35 = .ok (.invokevirtual 135, 3) := by decide +kernel
theorem dX7_oneDay_38 : decode cX7_oneDay 38 = .ok (.invokevirtual 147, 3) := by decide +kernel
theorem dX7_oneDay_41 : decode cX7_oneDay 41 = .ok (.iastore, 1) := by decide +kernel
theorem dX7_oneDay_42 : decode cX7_oneDay 42 = .ok (.iinc 1 1, 3) := by decide +kernel
theorem dX7_oneDay_45 : decode cX7_oneDay 45 = .ok (.goto (-43), 3) := by decide +kernel
theorem dX7_oneDay_48 : decode cX7_oneDay 48 = .ok (.return_, 1) := by decide +kernel
theorem dX7_days_0 : decode cX7_days 0 = .ok (.iload_n 1, 1) := by decide +kernel
theorem dX7_days_1 : decode cX7_days 1 = .ok (.iconst 1, 1) := by decide +kernel
theorem dX7_days_2 : decode cX7_days 2 = .ok (.sipush 300, 3) := by decide +kernel
theorem dX7_days_5 : decode cX7_days 5 = .ok (.invokestatic 61, 3) := by decide +kernel
theorem dX7_days_8 : decode cX7_days 8 = .ok (.ifCond .ne 6, 3) := by decide +kernel
theorem dX7_days_11 : decode cX7_days 11 = .ok (.bipush (-2), 2) := by decide +kernel
theorem dX7_days_13 : decode cX7_days 13 = .ok (.ireturn, 1) := by decide +kernel
theorem dX7_days_14 : decode cX7_days 14 = .ok (.aload_n 0, 1) := by decide +kernel
theorem dX7_days_15 : decode cX7_days 15 = .ok (.getfield 65, 3) := by decide +kernel
theorem dX7_days_18 : decode cX7_days 18 = .ok (.ifCond .ne 6, 3) := by decide +kernel
theorem dX7_days_21 : decode cX7_days 21 = .ok (.bipush (-3), 2) := by decide +kernel
theorem dX7_days_23 : decode cX7_days 23 = .ok (.ireturn, 1) := by decide +kernel
theorem dX7_days_24 : decode cX7_days 24 = .ok (.aload_n 0, 1) := by decide +kernel
theorem dX7_days_25 : decode cX7_days 25 = .ok (.invokevirtual 150, 3) := by decide +kernel
theorem dX7_days_28 : decode cX7_days 28 = .ok (.iconst 0, 1) := by decide +kernel
theorem dX7_days_29 : decode cX7_days 29 = .ok (.istore_n 2, 1) := by decide +kernel
theorem dX7_days_30 : decode cX7_days 30 = .ok (.iload_n 2, 1) := by decide +kernel
theorem dX7_days_31 : decode cX7_days 31 = .ok (.iload_n 1, 1) := by decide +kernel
theorem dX7_days_32 : decode cX7_days 32 = .ok (.if_icmp .ge 13, 3) := by decide +kernel
theorem dX7_days_35 : decode cX7_days 35 = .ok (.aload_n 0, 1) := by decide +kernel
theorem dX7_days_36 : decode cX7_days 36 = .ok (.invokevirtual 153, 3) := by decide +kernel
theorem dX7_days_39 : decode cX7_days 39 = .ok (.iinc 2 1, 3) := by decide +kernel
theorem dX7_days_42 : decode cX7_days 42 = .ok (.goto (-12), 3) := by decide +kernel
theorem dX7_days_45 : decode cX7_days 45 = .ok (.aload_n 0, 1) := by decide +kernel
theorem dX7_days_46 : decode cX7_days 46 = .ok (.dup, 1) := by decide +kernel
theorem dX7_days_47 : decode cX7_days 47 = .ok (.getfield 102, 3) := by decide +kernel
theorem dX7_days_50 : decode cX7_days 50 = .ok (.iload_n 1, 1) := by decide +kernel
theorem dX7_days_51 : decode cX7_days 51 = .ok (.iadd, 1) := by decide +kernel
theorem dX7_days_52 : decode cX7_days 52 = .ok (.putfield 102, 3) := by decide +kernel
theorem dX7_days_55 : decode cX7_days 55 = .ok (.iconst 0, 1) := by decide +kernel
theorem dX7_days_56 : decode cX7_days 56 = .ok (.istore_n 2, 1) := by decide +kernel
theorem dX7_days_57 : decode cX7_days 57 = .ok (.iconst 0, 1) := by decide +kernel
theorem dX7_days_58 : decode cX7_days 58 = .ok (.istore_n 3, 1) := by decide +kernel
theorem dX7_days_59 : decode cX7_days 59 = .ok (.iload_n 3, 1) := by decide +kernel
theorem dX7_days_60 : decode cX7_days 60 = .ok (.aload_n 0, 1) := by decide +kernel
theorem dX7_days_61 : decode cX7_days 61 = .ok (.getfield 65, 3) := by decide +kernel
theorem dX7_days_64 : decode cX7_days 64 = .ok (.if_icmp .ge 32, 3) := by decide +kernel
theorem dX7_days_67 : decode cX7_days 67 = .ok (.iload_n 2, 1) := by decide +kernel
theorem dX7_days_68 : decode cX7_days 68 = .ok (.aload_n 0, 1) := by decide +kernel
theorem dX7_days_69 : decode cX7_days 69 = .ok (.getfield 25, 3) := by decide +kernel
theorem dX7_days_72 : decode cX7_days 72 = .ok (.iload_n 3, 1) := by decide +kernel
theorem dX7_days_73 : decode cX7_days 73 = .ok (.iaload, 1) := by decide +kernel
theorem dX7_days_74 : decode cX7_days 74 = .ok (.aload_n 0, 1) := by decide +kernel
theorem dX7_days_75 : decode cX7_days 75 = .ok (.getfield 34, 3) := by decide +kernel
theorem dX7_days_78 : decode cX7_days 78 = .ok (.iload_n 3, 1) := by decide +kernel
theorem dX7_days_79 : decode cX7_days 79 = .ok (.iaload, 1) := by decide +kernel
theorem dX7_days_80 : decode cX7_days 80 = .ok (.if_icmp .ne 7, 3) := by decide +kernel
theorem dX7_days_83 : decode cX7_days 83 = .ok (.iconst 0, 1) := by decide +kernel
theorem dX7_days_84 : decode cX7_days 84 = .ok (.goto 4, 3) := by decide +kernel
theorem dX7_days_87 : decode cX7_days 87 = .ok (.iconst 1, 1) := by decide +kernel
theorem dX7_days_88 : decode cX7_days 88 = .ok (.iadd, 1) := by decide +kernel
theorem dX7_days_89 : decode cX7_days 89 = .ok (.istore_n 2, 1) := by decide +kernel
theorem dX7_days_90 : decode cX7_days 90 = .ok (.iinc 3 1, 3) := by decide +kernel
theorem dX7_days_93 : decode cX7_days 93 = .ok (.goto (-34), 3) := by decide +kernel
theorem dX7_days_96 : decode cX7_days 96 = .ok (.iload_n 2, 1) := by decide +kernel
theorem dX7_days_97 : decode cX7_days 97 = .ok (.ireturn, 1) := by decide +kernel
theorem dX7_look_0 : decode cX7_look 0 = .ok (.aload_n 0, 1) := by decide +kernel
theorem dX7_look_1 : decode cX7_look 1 = .ok (.iload_n 1, 1) := by decide +kernel
theorem dX7_look_2 : decode cX7_look 2 = .ok (.invokevirtual 132, 3) := by decide +kernel
theorem dX7_look_5 : decode cX7_look 5 = .ok (.ifCond .ne 5, 3) := by decide +kernel
theorem dX7_look_8 : decode cX7_look 8 = .ok (.iconst (-1), 1) := by decide +kernel
theorem dX7_look_9 : decode cX7_look 9 = .ok (.ireturn, 1) := by decide +kernel
theorem dX7_look_10 : decode cX7_look 10 = .ok (.aload_n 0, 1) := by decide +kernel
theorem dX7_look_11 : decode cX7_look 11 = .ok (.getfield 105, 3) := by decide +kernel
theorem dX7_look_14 : decode cX7_look 14 = .ok (.iload_n 1, 1) := by decide +kernel
theorem dX7_look_15 : decode cX7_look 15 = .ok (.invokestatic 144, 3) := by decide +kernel
theorem dX7_look_18 : decode cX7_look 18 = .ok (.ifCond .eq 6, 3) := by decide +kernel
theorem dX7_look_21 : decode cX7_look 21 = .ok (.bipush (-3), 2) := by decide +kernel
theorem dX7_look_23 : decode cX7_look 23 = .ok (.ireturn, 1) := by decide +kernel
theorem dX7_look_24 : decode cX7_look 24 = .ok (.aload_n 0, 1) := by decide +kernel
theorem dX7_look_25 : decode cX7_look 25 = .ok (.dup, 1) := by decide +kernel
theorem dX7_look_26 : decode cX7_look 26 = .ok (.getfield 105, 3) := by decide +kernel
theorem dX7_look_29 : decode cX7_look 29 = .ok (.iconst 1, 1) := by decide +kernel
theorem dX7_look_30 : decode cX7_look 30 = .ok (.iload_n 1, 1) := by decide +kernel
theorem dX7_look_31 : decode cX7_look 31 = .ok (.ishl, 1) := by decide +kernel
theorem dX7_look_32 : decode cX7_look 32 = .ok (.ior, 1) := by decide +kernel
theorem dX7_look_33 : decode cX7_look 33 = .ok (.putfield 105, 3) := by decide +kernel
theorem dX7_look_36 : decode cX7_look 36 = .ok (.aload_n 0, 1) := by decide +kernel
theorem dX7_look_37 : decode cX7_look 37 = .ok (.getfield 25, 3) := by decide +kernel
theorem dX7_look_40 : decode cX7_look 40 = .ok (.iload_n 1, 1) := by decide +kernel
theorem dX7_look_41 : decode cX7_look 41 = .ok (.iaload, 1) := by decide +kernel
theorem dX7_look_42 : decode cX7_look 42 = .ok (.ireturn, 1) := by decide +kernel
theorem dX7_away_0 : decode cX7_away 0 = .ok (.aload_n 0, 1) := by decide +kernel
theorem dX7_away_1 : decode cX7_away 1 = .ok (.iload_n 1, 1) := by decide +kernel
theorem dX7_away_2 : decode cX7_away 2 = .ok (.invokevirtual 132, 3) := by decide +kernel
theorem dX7_away_5 : decode cX7_away 5 = .ok (.ifCond .ne 5, 3) := by decide +kernel
theorem dX7_away_8 : decode cX7_away 8 = .ok (.iconst (-1), 1) := by decide +kernel
theorem dX7_away_9 : decode cX7_away 9 = .ok (.ireturn, 1) := by decide +kernel
theorem dX7_away_10 : decode cX7_away 10 = .ok (.aload_n 0, 1) := by decide +kernel
theorem dX7_away_11 : decode cX7_away 11 = .ok (.getfield 105, 3) := by decide +kernel
theorem dX7_away_14 : decode cX7_away 14 = .ok (.iload_n 1, 1) := by decide +kernel
theorem dX7_away_15 : decode cX7_away 15 = .ok (.invokestatic 144, 3) := by decide +kernel
theorem dX7_away_18 : decode cX7_away 18 = .ok (.ifCond .ne 6, 3) := by decide +kernel
theorem dX7_away_21 : decode cX7_away 21 = .ok (.bipush (-3), 2) := by decide +kernel
theorem dX7_away_23 : decode cX7_away 23 = .ok (.ireturn, 1) := by decide +kernel
theorem dX7_away_24 : decode cX7_away 24 = .ok (.aload_n 0, 1) := by decide +kernel
theorem dX7_away_25 : decode cX7_away 25 = .ok (.dup, 1) := by decide +kernel
theorem dX7_away_26 : decode cX7_away 26 = .ok (.getfield 105, 3) := by decide +kernel
theorem dX7_away_29 : decode cX7_away 29 = .ok (.iconst 1, 1) := by decide +kernel
theorem dX7_away_30 : decode cX7_away 30 = .ok (.iload_n 1, 1) := by decide +kernel
theorem dX7_away_31 : decode cX7_away 31 = .ok (.ishl, 1) := by decide +kernel
theorem dX7_away_32 : decode cX7_away 32 = .ok (.iconst (-1), 1) := by decide +kernel
theorem dX7_away_33 : decode cX7_away 33 = .ok (.ixor, 1) := by decide +kernel
theorem dX7_away_34 : decode cX7_away 34 = .ok (.iand, 1) := by decide +kernel
theorem dX7_away_35 : decode cX7_away 35 = .ok (.putfield 105, 3) := by decide +kernel
theorem dX7_away_38 : decode cX7_away 38 = .ok (.aload_n 0, 1) := by decide +kernel
theorem dX7_away_39 : decode cX7_away 39 = .ok (.getfield 105, 3) := by decide +kernel
theorem dX7_away_42 : decode cX7_away 42 = .ok (.invokestatic 138, 3) := by decide +kernel
theorem dX7_away_45 : decode cX7_away 45 = .ok (.ireturn, 1) := by decide +kernel
theorem dX7_stroke_0 : decode cX7_stroke 0 = .ok (.aload_n 0, 1) := by decide +kernel
theorem dX7_stroke_1 : decode cX7_stroke 1 = .ok (.iload_n 1, 1) := by decide +kernel
theorem dX7_stroke_2 : decode cX7_stroke 2 = .ok (.invokevirtual 132, 3) := by decide +kernel
theorem dX7_stroke_5 : decode cX7_stroke 5 = .ok (.ifCond .ne 5, 3) := by decide +kernel
theorem dX7_stroke_8 : decode cX7_stroke 8 = .ok (.iconst (-1), 1) := by decide +kernel
theorem dX7_stroke_9 : decode cX7_stroke 9 = .ok (.ireturn, 1) := by decide +kernel
theorem dX7_stroke_10 : decode cX7_stroke 10 = .ok (.iload_n 2, 1) := by decide +kernel
theorem dX7_stroke_11 : decode cX7_stroke 11 = .ok (.iconst 0, 1) := by decide +kernel
theorem dX7_stroke_12 : decode cX7_stroke 12 = .ok (.iconst 5, 1) := by decide +kernel
theorem dX7_stroke_13 : decode cX7_stroke 13 = .ok (.invokestatic 61, 3) := by decide +kernel
theorem dX7_stroke_16 : decode cX7_stroke 16 = .ok (.ifCond .ne 6, 3) := by decide +kernel
theorem dX7_stroke_19 : decode cX7_stroke 19 = .ok (.bipush (-2), 2) := by decide +kernel
theorem dX7_stroke_21 : decode cX7_stroke 21 = .ok (.ireturn, 1) := by decide +kernel
theorem dX7_stroke_22 : decode cX7_stroke 22 = .ok (.aload_n 0, 1) := by decide +kernel
theorem dX7_stroke_23 : decode cX7_stroke 23 = .ok (.getfield 25, 3) := by decide +kernel
theorem dX7_stroke_26 : decode cX7_stroke 26 = .ok (.iload_n 1, 1) := by decide +kernel
theorem dX7_stroke_27 : decode cX7_stroke 27 = .ok (.dup2, 1) := by decide +kernel
theorem dX7_stroke_28 : decode cX7_stroke 28 = .ok (.iaload, 1) := by decide +kernel
theorem dX7_stroke_29 : decode cX7_stroke 29 = .ok (.iconst 1, 1) := by decide +kernel
theorem dX7_stroke_30 : decode cX7_stroke 30 = .ok (.iload_n 2, 1) := by decide +kernel
theorem dX7_stroke_31 : decode cX7_stroke 31 = .ok (.ishl, 1) := by decide +kernel
theorem dX7_stroke_32 : decode cX7_stroke 32 = .ok (.ixor, 1) := by decide +kernel
theorem dX7_stroke_33 : decode cX7_stroke 33 = .ok (.iastore, 1) := by decide +kernel
theorem dX7_stroke_34 : decode cX7_stroke 34 = .ok (.aload_n 0, 1) := by decide +kernel
theorem dX7_stroke_35 : decode cX7_stroke 35 = .ok (.getfield 25, 3) := by decide +kernel
theorem dX7_stroke_38 : decode cX7_stroke 38 = .ok (.iload_n 1, 1) := by decide +kernel
theorem dX7_stroke_39 : decode cX7_stroke 39 = .ok (.iaload, 1) := by decide +kernel
theorem dX7_stroke_40 : decode cX7_stroke 40 = .ok (.ireturn, 1) := by decide +kernel
theorem dX7_areTwins_0 : decode cX7_areTwins 0 = .ok (.iconst 0, 1) := by decide +kernel
theorem dX7_areTwins_1 : decode cX7_areTwins 1 = .ok (.istore_n 1, 1) := by decide +kernel
theorem dX7_areTwins_2 : decode cX7_areTwins 2 = .ok (.iload_n 1, 1) := by decide +kernel
theorem dX7_areTwins_3 : decode cX7_areTwins 3 = .ok (.aload_n 0, 1) := by decide +kernel
theorem dX7_areTwins_4 : decode cX7_areTwins 4 = .ok (.getfield 65, 3) := by decide +kernel
theorem dX7_areTwins_7 : decode cX7_areTwins 7 = .ok (.if_icmp .ge 44, 3) := by decide +kernel
theorem dX7_areTwins_10 : decode cX7_areTwins 10 = .ok (.iload_n 1, 1) := by decide +kernel
theorem dX7_areTwins_11 : decode cX7_areTwins 11 = .ok (.iconst 1, 1) := by decide +kernel
theorem dX7_areTwins_12 : decode cX7_areTwins 12 = .ok (.iadd, 1) := by decide +kernel
theorem dX7_areTwins_13 : decode cX7_areTwins 13 = .ok (.istore_n 2, 1) := by decide +kernel
theorem dX7_areTwins_14 : decode cX7_areTwins 14 = .ok (.iload_n 2, 1) := by decide +kernel
theorem dX7_areTwins_15 : decode cX7_areTwins 15 = .ok (.aload_n 0, 1) := by decide +kernel
theorem dX7_areTwins_16 : decode cX7_areTwins 16 = .ok (.getfield 65, 3) := by decide +kernel
theorem dX7_areTwins_19 : decode cX7_areTwins 19 = .ok (.if_icmp .ge 26, 3) := by decide +kernel
theorem dX7_areTwins_22 : decode cX7_areTwins 22 = .ok (.aload_n 0, 1) := by decide +kernel
theorem dX7_areTwins_23 : decode cX7_areTwins 23 = .ok (.getfield 25, 3) := by decide +kernel
theorem dX7_areTwins_26 : decode cX7_areTwins 26 = .ok (.iload_n 1, 1) := by decide +kernel
theorem dX7_areTwins_27 : decode cX7_areTwins 27 = .ok (.iaload, 1) := by decide +kernel
theorem dX7_areTwins_28 : decode cX7_areTwins 28 = .ok (.aload_n 0, 1) := by decide +kernel
theorem dX7_areTwins_29 : decode cX7_areTwins 29 = .ok (.getfield 25, 3) := by decide +kernel
theorem dX7_areTwins_32 : decode cX7_areTwins 32 = .ok (.iload_n 2, 1) := by decide +kernel
theorem dX7_areTwins_33 : decode cX7_areTwins 33 = .ok (.iaload, 1) := by decide +kernel
theorem dX7_areTwins_34 : decode cX7_areTwins 34 = .ok (.if_icmp .ne 5, 3) := by decide +kernel
theorem dX7_areTwins_37 : decode cX7_areTwins 37 = .ok (.iconst 1, 1) := by decide +kernel
theorem dX7_areTwins_38 : decode cX7_areTwins 38 = .ok (.ireturn, 1) := by decide +kernel
theorem dX7_areTwins_39 : decode cX7_areTwins 39 = .ok (.iinc 2 1, 3) := by decide +kernel
theorem dX7_areTwins_42 : decode cX7_areTwins 42 = .ok (.goto (-28), 3) := by decide +kernel
theorem dX7_areTwins_45 : decode cX7_areTwins 45 = .ok (.iinc 1 1, 3) := by decide +kernel
theorem dX7_areTwins_48 : decode cX7_areTwins 48 = .ok (.goto (-46), 3) := by decide +kernel
theorem dX7_areTwins_51 : decode cX7_areTwins 51 = .ok (.iconst 0, 1) := by decide +kernel
theorem dX7_areTwins_52 : decode cX7_areTwins 52 = .ok (.ireturn, 1) := by decide +kernel
theorem dX7_does_0 : decode cX7_does 0 = .ok (.iload_n 2, 1) := by decide +kernel
theorem dX7_does_1 : decode cX7_does 1 = .ok (.ifCond .ne 53, 3) := by decide +kernel
theorem dX7_does_4 : decode cX7_does 4 = .ok (.iconst 0, 1) := by decide +kernel
theorem dX7_does_5 : decode cX7_does 5 = .ok (.istore_n 3, 1) := by decide +kernel
theorem dX7_does_6 : decode cX7_does 6 = .ok (.iload_n 3, 1) := by decide +kernel
theorem dX7_does_7 : decode cX7_does 7 = .ok (.iload_n 1, 1) := by decide +kernel
theorem dX7_does_8 : decode cX7_does 8 = .ok (.if_icmp .ge 44, 3) := by decide +kernel
theorem dX7_does_11 : decode cX7_does 11 = .ok (.aload_n 0, 1) := by decide +kernel
theorem dX7_does_12 : decode cX7_does 12 = .ok (.invokevirtual 153, 3) := by decide +kernel
theorem dX7_does_15 : decode cX7_does 15 = .ok (.aload_n 0, 1) := by decide +kernel
theorem dX7_does_16 : decode cX7_does 16 = .ok (.dup, 1) := by decide +kernel
theorem dX7_does_17 : decode cX7_does 17 = .ok (.getfield 156, 3) := by decide +kernel
theorem dX7_does_20 : decode cX7_does 20 = .ok (.iconst 1, 1) := by decide +kernel
theorem dX7_does_21 : decode cX7_does 21 = .ok (.iadd, 1) := by decide +kernel
theorem dX7_does_22 : decode cX7_does 22 = .ok (.putfield 156, 3) := by decide +kernel
theorem dX7_does_25 : decode cX7_does 25 = .ok (.aload_n 0, 1) := by decide +kernel
theorem dX7_does_26 : decode cX7_does 26 = .ok (.dup, 1) := by decide +kernel
theorem dX7_does_27 : decode cX7_does 27 = .ok (.getfield 159, 3) := by decide +kernel
theorem dX7_does_30 : decode cX7_does 30 = .ok (.aload_n 0, 1) := by decide +kernel
theorem dX7_does_31 : decode cX7_does 31 = .ok (.invokevirtual 162, 3) := by decide +kernel
theorem dX7_does_34 : decode cX7_does 34 = .ok (.ifCond .eq 7, 3) := by decide +kernel
theorem dX7_does_37 : decode cX7_does 37 = .ok (.iconst 1, 1) := by decide +kernel
theorem dX7_does_38 : decode cX7_does 38 = .ok (.goto 4, 3) := by decide +kernel
theorem dX7_does_41 : decode cX7_does 41 = .ok (.iconst 0, 1) := by decide +kernel
theorem dX7_does_42 : decode cX7_does 42 = .ok (.iadd, 1) := by decide +kernel
theorem dX7_does_43 : decode cX7_does 43 = .ok (.putfield 159, 3) := by decide +kernel
theorem dX7_does_46 : decode cX7_does 46 = .ok (.iinc 3 1, 3) := by decide +kernel
theorem dX7_does_49 : decode cX7_does 49 = .ok (.goto (-43), 3) := by decide +kernel
theorem dX7_does_52 : decode cX7_does 52 = .ok (.iconst 1, 1) := by decide +kernel
theorem dX7_does_53 : decode cX7_does 53 = .ok (.ireturn, 1) := by decide +kernel
theorem dX7_does_54 : decode cX7_does 54 = .ok (.iload_n 2, 1) := by decide +kernel
theorem dX7_does_55 : decode cX7_does 55 = .ok (.bipush 10, 2) := by decide +kernel
theorem dX7_does_57 : decode cX7_does 57 = .ok (.if_icmp .lt 20, 3) := by decide +kernel
theorem dX7_does_60 : decode cX7_does 60 = .ok (.aload_n 0, 1) := by decide +kernel
theorem dX7_does_61 : decode cX7_does 61 = .ok (.getfield 25, 3) := by decide +kernel
theorem dX7_does_64 : decode cX7_does 64 = .ok (.iload_n 1, 1) := by decide +kernel
theorem dX7_does_65 : decode cX7_does 65 = .ok (.dup2, 1) := by decide +kernel
theorem dX7_does_66 : decode cX7_does 66 = .ok (.iaload, 1) := by decide +kernel
theorem dX7_does_67 : decode cX7_does 67 = .ok (.iconst 1, 1) := by decide +kernel
theorem dX7_does_68 : decode cX7_does 68 = .ok (.iload_n 2, 1) := by decide +kernel
theorem dX7_does_69 : decode cX7_does 69 = .ok (.bipush 10, 2) := by decide +kernel
theorem dX7_does_71 : decode cX7_does 71 = .ok (.isub, 1) := by decide +kernel
theorem dX7_does_72 : decode cX7_does 72 = .ok (.ishl, 1) := by decide +kernel
theorem dX7_does_73 : decode cX7_does 73 = .ok (.ixor, 1) := by decide +kernel
theorem dX7_does_74 : decode cX7_does 74 = .ok (.iastore, 1) := by decide +kernel
theorem dX7_does_75 : decode cX7_does 75 = .ok (.iconst 1, 1) := by decide +kernel
theorem dX7_does_76 : decode cX7_does 76 = .ok (.ireturn, 1) := by decide +kernel
theorem dX7_does_77 : decode cX7_does 77 = .ok (.aload_n 0, 1) := by decide +kernel
theorem dX7_does_78 : decode cX7_does 78 = .ok (.getfield 105, 3) := by decide +kernel
theorem dX7_does_81 : decode cX7_does 81 = .ok (.iload_n 1, 1) := by decide +kernel
theorem dX7_does_82 : decode cX7_does 82 = .ok (.invokestatic 144, 3) := by decide +kernel
theorem dX7_does_85 : decode cX7_does 85 = .ok (.iload_n 2, 1) := by decide +kernel
theorem dX7_does_86 : decode cX7_does 86 = .ok (.iconst 2, 1) := by decide +kernel
theorem dX7_does_87 : decode cX7_does 87 = .ok (.if_icmp .ne 7, 3) := by decide +kernel
theorem dX7_does_90 : decode cX7_does 90 = .ok (.iconst 1, 1) := by decide +kernel
theorem dX7_does_91 : decode cX7_does 91 = .ok (.goto 4, 3) := by decide +kernel
theorem dX7_does_94 : decode cX7_does 94 = .ok (.iconst 0, 1) := by decide +kernel
theorem dX7_does_95 : decode cX7_does 95 = .ok (.if_icmp .eq 5, 3) := by decide +kernel
theorem dX7_does_98 : decode cX7_does 98 = .ok (.iconst 0, 1) := by decide +kernel
theorem dX7_does_99 : decode cX7_does 99 = .ok (.ireturn, 1) := by decide +kernel
theorem dX7_does_100 : decode cX7_does 100 = .ok (.aload_n 0, 1) := by decide +kernel
theorem dX7_does_101 : decode cX7_does 101 = .ok (.dup, 1) := by decide +kernel
theorem dX7_does_102 : decode cX7_does 102 = .ok (.getfield 105, 3) := by decide +kernel
theorem dX7_does_105 : decode cX7_does 105 = .ok (.iconst 1, 1) := by decide +kernel
theorem dX7_does_106 : decode cX7_does 106 = .ok (.iload_n 1, 1) := by decide +kernel
theorem dX7_does_107 : decode cX7_does 107 = .ok (.ishl, 1) := by decide +kernel
theorem dX7_does_108 : decode cX7_does 108 = .ok (.ixor, 1) := by decide +kernel
theorem dX7_does_109 : decode cX7_does 109 = .ok (.putfield 105, 3) := by decide +kernel
theorem dX7_does_112 : decode cX7_does 112 = .ok (.iconst 1, 1) := by decide +kernel
theorem dX7_does_113 : decode cX7_does 113 = .ok (.ireturn, 1) := by decide +kernel
theorem dX7_goYears_0 : decode cX7_goYears 0 = .ok (.aload_n 0, 1) := by decide +kernel
theorem dX7_goYears_1 : decode cX7_goYears 1 = .ok (.iconst 0, 1) := by decide +kernel
theorem dX7_goYears_2 : decode cX7_goYears 2 = .ok (.putfield 156, 3) := by decide +kernel
theorem dX7_goYears_5 : decode cX7_goYears 5 = .ok (.aload_n 0, 1) := by decide +kernel
theorem dX7_goYears_6 : decode cX7_goYears 6 = .ok (.iconst 0, 1) := by decide +kernel
theorem dX7_goYears_7 : decode cX7_goYears 7 = .ok (.putfield 159, 3) := by decide +kernel
theorem dX7_goYears_10 : decode cX7_goYears 10 = .ok (.iconst 0, 1) := by decide +kernel
theorem dX7_goYears_11 : decode cX7_goYears 11 = .ok (.istore_n 3, 1) := by decide +kernel
theorem dX7_goYears_12 : decode cX7_goYears 12 = .ok (.iload_n 3, 1) := by decide +kernel
theorem dX7_goYears_13 : decode cX7_goYears 13 = .ok (.iload_n 2, 1) := by decide +kernel
theorem dX7_goYears_14 : decode cX7_goYears 14 = .ok (.if_icmp .ge 40, 3) := by decide +kernel
theorem dX7_goYears_17 : decode cX7_goYears 17 = .ok (.aload_n 0, 1) := by decide +kernel
theorem dX7_goYears_18 : decode cX7_goYears 18 = .ok (.aload_n 0, 1) := by decide +kernel
theorem dX7_goYears_19 : decode cX7_goYears 19 = .ok (.getfield 16, 3) := by decide +kernel
theorem dX7_goYears_22 : decode cX7_goYears 22 = .ok (.iload_n 1, 1) := by decide +kernel
theorem dX7_goYears_23 : decode cX7_goYears 23 = .ok (.iconst 2, 1) := by decide +kernel
theorem dX7_goYears_24 : decode cX7_goYears 24 = .ok (.iload_n 3, 1) := by decide +kernel
theorem dX7_goYears_25 : decode cX7_goYears 25 = .ok (.imul, 1) := by decide +kernel
theorem dX7_goYears_26 : decode cX7_goYears 26 = .ok (.iadd, 1) := by decide +kernel
theorem dX7_goYears_27 : decode cX7_goYears 27 = .ok (.iaload, 1) := by decide +kernel
theorem dX7_goYears_28 : decode cX7_goYears 28 = .ok (.aload_n 0, 1) := by decide +kernel
theorem dX7_goYears_29 : decode cX7_goYears 29 = .ok (.getfield 16, 3) := by decide +kernel
theorem dX7_goYears_32 : decode cX7_goYears 32 = .ok (.iload_n 1, 1) := by decide +kernel
theorem dX7_goYears_33 : decode cX7_goYears 33 = .ok (.iconst 2, 1) := by decide +kernel
theorem dX7_goYears_34 : decode cX7_goYears 34 = .ok (.iload_n 3, 1) := by decide +kernel
theorem dX7_goYears_35 : decode cX7_goYears 35 = .ok (.imul, 1) := by decide +kernel
theorem dX7_goYears_36 : decode cX7_goYears 36 = .ok (.iadd, 1) := by decide +kernel
theorem dX7_goYears_37 : decode cX7_goYears 37 = .ok (.iconst 1, 1) := by decide +kernel
theorem dX7_goYears_38 : decode cX7_goYears 38 = .ok (.iadd, 1) := by decide +kernel
theorem dX7_goYears_39 : decode cX7_goYears 39 = .ok (.iaload, 1) := by decide +kernel
theorem dX7_goYears_40 : decode cX7_goYears 40 = .ok (.invokevirtual 166, 3) := by decide +kernel
theorem dX7_goYears_43 : decode cX7_goYears 43 = .ok (.ifCond .ne 5, 3) := by decide +kernel
theorem dX7_goYears_46 : decode cX7_goYears 46 = .ok (.iload_n 3, 1) := by decide +kernel
theorem dX7_goYears_47 : decode cX7_goYears 47 = .ok (.ireturn, 1) := by decide +kernel
theorem dX7_goYears_48 : decode cX7_goYears 48 = .ok (.iinc 3 1, 3) := by decide +kernel
theorem dX7_goYears_51 : decode cX7_goYears 51 = .ok (.goto (-39), 3) := by decide +kernel
theorem dX7_goYears_54 : decode cX7_goYears 54 = .ok (.bipush (-9), 2) := by decide +kernel
theorem dX7_goYears_56 : decode cX7_goYears 56 = .ok (.ireturn, 1) := by decide +kernel
theorem dX7_refusesPair_0 : decode cX7_refusesPair 0 = .ok (.iload_n 2, 1) := by decide +kernel
theorem dX7_refusesPair_1 : decode cX7_refusesPair 1 = .ok (.iconst 0, 1) := by decide +kernel
theorem dX7_refusesPair_2 : decode cX7_refusesPair 2 = .ok (.iconst 2, 1) := by decide +kernel
theorem dX7_refusesPair_3 : decode cX7_refusesPair 3 = .ok (.invokestatic 61, 3) := by decide +kernel
theorem dX7_refusesPair_6 : decode cX7_refusesPair 6 = .ok (.ifCond .ne 14, 3) := by decide +kernel
theorem dX7_refusesPair_9 : decode cX7_refusesPair 9 = .ok (.iload_n 2, 1) := by decide +kernel
theorem dX7_refusesPair_10 : decode cX7_refusesPair 10 = .ok (.bipush 10, 2) := by decide +kernel
theorem dX7_refusesPair_12 : decode cX7_refusesPair 12 = .ok (.bipush 15, 2) := by decide +kernel
theorem dX7_refusesPair_14 : decode cX7_refusesPair 14 = .ok (.invokestatic 61, 3) := by decide +kernel
theorem dX7_refusesPair_17 : decode cX7_refusesPair 17 = .ok (.ifCond .eq 17, 3) := by decide +kernel
theorem dX7_refusesPair_20 : decode cX7_refusesPair 20 = .ok (.iload_n 2, 1) := by decide +kernel
theorem dX7_refusesPair_21 : decode cX7_refusesPair 21 = .ok (.ifCond .ne 16, 3) := by decide +kernel
theorem dX7_refusesPair_24 : decode cX7_refusesPair 24 = .ok (.iload_n 1, 1) := by decide +kernel
theorem dX7_refusesPair_25 : decode cX7_refusesPair 25 = .ok (.iconst 0, 1) := by decide +kernel
theorem dX7_refusesPair_26 : decode cX7_refusesPair 26 = .ok (.bipush 99, 2) := by decide +kernel
theorem dX7_refusesPair_28 : decode cX7_refusesPair 28 = .ok (.invokestatic 61, 3) := by decide +kernel
theorem dX7_refusesPair_31 : decode cX7_refusesPair 31 = .ok (.ifCond .ne 6, 3) := by decide +kernel
theorem dX7_refusesPair_34 : decode cX7_refusesPair 34 = .ok (.bipush (-2), 2) := by decide +kernel
theorem dX7_refusesPair_36 : decode cX7_refusesPair 36 = .ok (.ireturn, 1) := by decide +kernel
theorem dX7_refusesPair_37 : decode cX7_refusesPair 37 = .ok (.iload_n 2, 1) := by decide +kernel
theorem dX7_refusesPair_38 : decode cX7_refusesPair 38 = .ok (.ifCond .eq 15, 3) := by decide +kernel
theorem dX7_refusesPair_41 : decode cX7_refusesPair 41 = .ok (.aload_n 0, 1) := by decide +kernel
theorem dX7_refusesPair_42 : decode cX7_refusesPair 42 = .ok (.iload_n 1, 1) := by decide +kernel
theorem dX7_refusesPair_43 : decode cX7_refusesPair 43 = .ok (.invokevirtual 132, 3) := by decide +kernel
theorem dX7_refusesPair_46 : decode cX7_refusesPair 46 = .ok (.ifCond .ne 7, 3) := by decide +kernel
theorem dX7_refusesPair_49 : decode cX7_refusesPair 49 = .ok (.iconst (-1), 1) := by decide +kernel
theorem dX7_refusesPair_50 : decode cX7_refusesPair 50 = .ok (.goto 4, 3) := by decide +kernel
theorem dX7_refusesPair_53 : decode cX7_refusesPair 53 = .ok (.iconst 0, 1) := by decide +kernel
theorem dX7_refusesPair_54 : decode cX7_refusesPair 54 = .ok (.ireturn, 1) := by decide +kernel
theorem dX7_years_0 : decode cX7_years 0 = .ok (.aload_n 0, 1) := by decide +kernel
theorem dX7_years_1 : decode cX7_years 1 = .ok (.iconst 0, 1) := by decide +kernel
theorem dX7_years_2 : decode cX7_years 2 = .ok (.putfield 55, 3) := by decide +kernel
theorem dX7_years_5 : decode cX7_years 5 = .ok (.iload_n 1, 1) := by decide +kernel
theorem dX7_years_6 : decode cX7_years 6 = .ok (.invokestatic 71, 3) := by decide +kernel
theorem dX7_years_9 : decode cX7_years 9 = .ok (.ifCond .ne 5, 3) := by decide +kernel
theorem dX7_years_12 : decode cX7_years 12 = .ok (.iconst (-1), 1) := by decide +kernel
theorem dX7_years_13 : decode cX7_years 13 = .ok (.ireturn, 1) := by decide +kernel
theorem dX7_years_14 : decode cX7_years 14 = .ok (.iload_n 2, 1) := by decide +kernel
theorem dX7_years_15 : decode cX7_years 15 = .ok (.invokestatic 75, 3) := by decide +kernel
theorem dX7_years_18 : decode cX7_years 18 = .ok (.ifCond .eq 36, 3) := by decide +kernel
theorem dX7_years_21 : decode cX7_years 21 = .ok (.iload 4, 2) := by decide +kernel
theorem dX7_years_23 : decode cX7_years 23 = .ok (.iconst 0, 1) := by decide +kernel
theorem dX7_years_24 : decode cX7_years 24 = .ok (.bipush 20, 2) := by decide +kernel
theorem dX7_years_26 : decode cX7_years 26 = .ok (.invokestatic 61, 3) := by decide +kernel
theorem dX7_years_29 : decode cX7_years 29 = .ok (.ifCond .eq 25, 3) := by decide +kernel
theorem dX7_years_32 : decode cX7_years 32 = .ok (.iload 5, 2) := by decide +kernel
theorem dX7_years_34 : decode cX7_years 34 = .ok (.iconst 0, 1) := by decide +kernel
theorem dX7_years_35 : decode cX7_years 35 = .ok (.iconst 4, 1) := by decide +kernel
theorem dX7_years_36 : decode cX7_years 36 = .ok (.invokestatic 61, 3) := by decide +kernel
theorem dX7_years_39 : decode cX7_years 39 = .ok (.ifCond .ne 18, 3) := by decide +kernel
theorem dX7_years_42 : decode cX7_years 42 = .ok (.iload 5, 2) := by decide +kernel
theorem dX7_years_44 : decode cX7_years 44 = .ok (.bipush 10, 2) := by decide +kernel
theorem dX7_years_46 : decode cX7_years 46 = .ok (.bipush 15, 2) := by decide +kernel
theorem dX7_years_48 : decode cX7_years 48 = .ok (.invokestatic 61, 3) := by decide +kernel
theorem dX7_years_51 : decode cX7_years 51 = .ok (.ifCond .ne 6, 3) := by decide +kernel
theorem dX7_years_54 : decode cX7_years 54 = .ok (.bipush (-2), 2) := by decide +kernel
theorem dX7_years_56 : decode cX7_years 56 = .ok (.ireturn, 1) := by decide +kernel
theorem dX7_years_57 : decode cX7_years 57 = .ok (.aload_n 0, 1) := by decide +kernel
theorem dX7_years_58 : decode cX7_years 58 = .ok (.iload_n 1, 1) := by decide +kernel
theorem dX7_years_59 : decode cX7_years 59 = .ok (.iload_n 2, 1) := by decide +kernel
theorem dX7_years_60 : decode cX7_years 60 = .ok (.iload_n 3, 1) := by decide +kernel
theorem dX7_years_61 : decode cX7_years 61 = .ok (.iconst 2, 1) := by decide +kernel
theorem dX7_years_62 : decode cX7_years 62 = .ok (.iload 4, 2) := by decide +kernel
theorem dX7_years_64 : decode cX7_years 64 = .ok (.imul, 1) := by decide +kernel
theorem dX7_years_65 : decode cX7_years 65 = .ok (.invokevirtual 78, 3) := by decide +kernel
theorem dX7_years_68 : decode cX7_years 68 = .ok (.istore 6, 2) := by decide +kernel
theorem dX7_years_70 : decode cX7_years 70 = .ok (.iload 6, 2) := by decide +kernel
theorem dX7_years_72 : decode cX7_years 72 = .ok (.ifCond .eq 10, 3) := by decide +kernel
theorem dX7_years_75 : decode cX7_years 75 = .ok (.aload_n 0, 1) := by decide +kernel
theorem dX7_years_76 : decode cX7_years 76 = .ok (.iload 6, 2) := by decide +kernel
theorem dX7_years_78 : decode cX7_years 78 = .ok (.invokevirtual 82, 3) := by decide +kernel
theorem dX7_years_81 : decode cX7_years 81 = .ok (.ireturn, 1) := by decide +kernel
theorem dX7_years_82 : decode cX7_years 82 = .ok (.aload_n 0, 1) := by decide +kernel
theorem dX7_years_83 : decode cX7_years 83 = .ok (.getfield 65, 3) := by decide +kernel
theorem dX7_years_86 : decode cX7_years 86 = .ok (.ifCond .ne 6, 3) := by decide +kernel
theorem dX7_years_89 : decode cX7_years 89 = .ok (.bipush (-3), 2) := by decide +kernel
theorem dX7_years_91 : decode cX7_years 91 = .ok (.ireturn, 1) := by decide +kernel
theorem dX7_years_92 : decode cX7_years 92 = .ok (.bipush 60, 2) := by decide +kernel
theorem dX7_years_94 : decode cX7_years 94 = .ok (.iload_n 1, 1) := by decide +kernel
theorem dX7_years_95 : decode cX7_years 95 = .ok (.imul, 1) := by decide +kernel
theorem dX7_years_96 : decode cX7_years 96 = .ok (.iload_n 3, 1) := by decide +kernel
theorem dX7_years_97 : decode cX7_years 97 = .ok (.iadd, 1) := by decide +kernel
theorem dX7_years_98 : decode cX7_years 98 = .ok (.istore 7, 2) := by decide +kernel
theorem dX7_years_100 : decode cX7_years 100 = .ok (.iconst 0, 1) := by decide +kernel
theorem dX7_years_101 : decode cX7_years 101 = .ok (.istore 8, 2) := by decide +kernel
theorem dX7_years_103 : decode cX7_years 103 = .ok (.iload 8, 2) := by decide +kernel
theorem dX7_years_105 : decode cX7_years 105 = .ok (.iload 4, 2) := by decide +kernel
theorem dX7_years_107 : decode cX7_years 107 = .ok (.if_icmp .ge 49, 3) := by decide +kernel
theorem dX7_years_110 : decode cX7_years 110 = .ok (.aload_n 0, 1) := by decide +kernel
theorem dX7_years_111 : decode cX7_years 111 = .ok (.aload_n 0, 1) := by decide +kernel
theorem dX7_years_112 : decode cX7_years 112 = .ok (.getfield 16, 3) := by decide +kernel
theorem dX7_years_115 : decode cX7_years 115 = .ok (.iload 7, 2) := by decide +kernel
theorem dX7_years_117 : decode cX7_years 117 = .ok (.iconst 2, 1) := by decide +kernel
theorem dX7_years_118 : decode cX7_years 118 = .ok (.iload 8, 2) := by decide +kernel
theorem dX7_years_120 : decode cX7_years 120 = .ok (.imul, 1) := by decide +kernel
theorem dX7_years_121 : decode cX7_years 121 = .ok (.iadd, 1) := by decide +kernel
theorem dX7_years_122 : decode cX7_years 122 = .ok (.iaload, 1) := by decide +kernel
theorem dX7_years_123 : decode cX7_years 123 = .ok (.aload_n 0, 1) := by decide +kernel
theorem dX7_years_124 : decode cX7_years 124 = .ok (.getfield 16, 3) := by decide +kernel
theorem dX7_years_127 : decode cX7_years 127 = .ok (.iload 7, 2) := by decide +kernel
theorem dX7_years_129 : decode cX7_years 129 = .ok (.iconst 2, 1) := by decide +kernel
theorem dX7_years_130 : decode cX7_years 130 = .ok (.iload 8, 2) := by decide +kernel
theorem dX7_years_132 : decode cX7_years 132 = .ok (.imul, 1) := by decide +kernel
theorem dX7_years_133 : decode cX7_years 133 = .ok (.iadd, 1) := by decide +kernel
theorem dX7_years_134 : decode cX7_years 134 = .ok (.iconst 1, 1) := by decide +kernel
theorem dX7_years_135 : decode cX7_years 135 = .ok (.iadd, 1) := by decide +kernel
theorem dX7_years_136 : decode cX7_years 136 = .ok (.iaload, 1) := by decide +kernel
theorem dX7_years_137 : decode cX7_years 137 = .ok (.invokevirtual 169, 3) := by decide +kernel
theorem dX7_years_140 : decode cX7_years 140 = .ok (.istore 9, 2) := by decide +kernel
theorem dX7_years_142 : decode cX7_years 142 = .ok (.iload 9, 2) := by decide +kernel
theorem dX7_years_144 : decode cX7_years 144 = .ok (.ifCond .eq 6, 3) := by decide +kernel
theorem dX7_years_147 : decode cX7_years 147 = .ok (.iload 9, 2) := by decide +kernel
theorem dX7_years_149 : decode cX7_years 149 = .ok (.ireturn, 1) := by decide +kernel
theorem dX7_years_150 : decode cX7_years 150 = .ok (.iinc 8 1, 3) := by decide +kernel
theorem dX7_years_153 : decode cX7_years 153 = .ok (.goto (-50), 3) := by decide +kernel
theorem dX7_years_156 : decode cX7_years 156 = .ok (.aload_n 0, 1) := by decide +kernel
theorem dX7_years_157 : decode cX7_years 157 = .ok (.invokevirtual 150, 3) := by decide +kernel
theorem dX7_years_160 : decode cX7_years 160 = .ok (.aload_n 0, 1) := by decide +kernel
theorem dX7_years_161 : decode cX7_years 161 = .ok (.getfield 105, 3) := by decide +kernel
theorem dX7_years_164 : decode cX7_years 164 = .ok (.istore 8, 2) := by decide +kernel
theorem dX7_years_166 : decode cX7_years 166 = .ok (.aload_n 0, 1) := by decide +kernel
theorem dX7_years_167 : decode cX7_years 167 = .ok (.iload 7, 2) := by decide +kernel
theorem dX7_years_169 : decode cX7_years 169 = .ok (.iload 4, 2) := by decide +kernel
theorem dX7_years_171 : decode cX7_years 171 = .ok (.invokevirtual 172, 3) := by decide +kernel
theorem dX7_years_174 : decode cX7_years 174 = .ok (.istore 9, 2) := by decide +kernel
theorem dX7_years_176 : decode cX7_years 176 = .ok (.aload_n 0, 1) := by decide +kernel
theorem dX7_years_177 : decode cX7_years 177 = .ok (.iload 5, 2) := by decide +kernel
theorem dX7_years_179 : decode cX7_years 179 = .ok (.invokevirtual 175, 3) := by decide +kernel
theorem dX7_years_182 : decode cX7_years 182 = .ok (.istore 10, 2) := by decide +kernel
theorem dX7_years_184 : decode cX7_years 184 = .ok (.aload_n 0, 1) := by decide +kernel
theorem dX7_years_185 : decode cX7_years 185 = .ok (.iload 8, 2) := by decide +kernel
theorem dX7_years_187 : decode cX7_years 187 = .ok (.putfield 105, 3) := by decide +kernel
theorem dX7_years_190 : decode cX7_years 190 = .ok (.iconst 0, 1) := by decide +kernel
theorem dX7_years_191 : decode cX7_years 191 = .ok (.istore 11, 2) := by decide +kernel
theorem dX7_years_193 : decode cX7_years 193 = .ok (.iload 11, 2) := by decide +kernel
theorem dX7_years_195 : decode cX7_years 195 = .ok (.aload_n 0, 1) := by decide +kernel
theorem dX7_years_196 : decode cX7_years 196 = .ok (.getfield 65, 3) := by decide +kernel
theorem dX7_years_199 : decode cX7_years 199 = .ok (.if_icmp .ge 23, 3) := by decide +kernel
theorem dX7_years_202 : decode cX7_years 202 = .ok (.aload_n 0, 1) := by decide +kernel
theorem dX7_years_203 : decode cX7_years 203 = .ok (.getfield 25, 3) := by decide +kernel
theorem dX7_years_206 : decode cX7_years 206 = .ok (.iload 11, 2) := by decide +kernel
theorem dX7_years_208 : decode cX7_years 208 = .ok (.aload_n 0, 1) := by decide +kernel
theorem dX7_years_209 : decode cX7_years 209 = .ok (.getfield 34, 3) := by decide +kernel
theorem dX7_years_212 : decode cX7_years 212 = .ok (.iload 11, 2) := by decide +kernel
theorem dX7_years_214 : decode cX7_years 214 = .ok (.iaload, 1) := by decide +kernel
theorem dX7_years_215 : decode cX7_years 215 = .ok (.iastore, 1) := by decide +kernel
theorem dX7_years_216 : decode cX7_years 216 = .ok (.iinc 11 1, 3) := by decide +kernel
theorem dX7_years_219 : decode cX7_years 219 = .ok (.goto (-26), 3) := by decide +kernel
theorem dX7_years_222 : decode cX7_years 222 = .ok (.iload 5, 2) := by decide +kernel
theorem dX7_years_224 : decode cX7_years 224 = .ok (.iconst 1, 1) := by decide +kernel
theorem dX7_years_225 : decode cX7_years 225 = .ok (.if_icmp .ne 8, 3) := by decide +kernel
theorem dX7_years_228 : decode cX7_years 228 = .ok (.iload 9, 2) := by decide +kernel
theorem dX7_years_230 : decode cX7_years 230 = .ok (.goto 20, 3) := by decide +kernel
theorem dX7_years_233 : decode cX7_years 233 = .ok (.iload 9, 2) := by decide +kernel
theorem dX7_years_235 : decode cX7_years 235 = .ok (.bipush (-9), 2) := by decide +kernel
theorem dX7_years_237 : decode cX7_years 237 = .ok (.if_icmp .ne 8, 3) := by decide +kernel
theorem dX7_years_240 : decode cX7_years 240 = .ok (.iload 10, 2) := by decide +kernel
theorem dX7_years_242 : decode cX7_years 242 = .ok (.goto 8, 3) := by decide +kernel
theorem dX7_years_245 : decode cX7_years 245 = .ok (.bipush (-100), 2) := by decide +kernel
theorem dX7_years_247 : decode cX7_years 247 = .ok (.iload 9, 2) := by decide +kernel
theorem dX7_years_249 : decode cX7_years 249 = .ok (.isub, 1) := by decide +kernel
theorem dX7_years_250 : decode cX7_years 250 = .ok (.ireturn, 1) := by decide +kernel
theorem dX7_tellYears_0 : decode cX7_tellYears 0 = .ok (.iload_n 1, 1) := by decide +kernel
theorem dX7_tellYears_1 : decode cX7_tellYears 1 = .ok (.bipush 10, 2) := by decide +kernel
theorem dX7_tellYears_3 : decode cX7_tellYears 3 = .ok (.if_icmp .lt 29, 3) := by decide +kernel
theorem dX7_tellYears_6 : decode cX7_tellYears 6 = .ok (.aload_n 0, 1) := by decide +kernel
theorem dX7_tellYears_7 : decode cX7_tellYears 7 = .ok (.iload_n 1, 1) := by decide +kernel
theorem dX7_tellYears_8 : decode cX7_tellYears 8 = .ok (.bipush 10, 2) := by decide +kernel
theorem dX7_tellYears_10 : decode cX7_tellYears 10 = .ok (.isub, 1) := by decide +kernel
theorem dX7_tellYears_11 : decode cX7_tellYears 11 = .ok (.invokevirtual 132, 3) := by decide +kernel
theorem dX7_tellYears_14 : decode cX7_tellYears 14 = .ok (.ifCond .eq 15, 3) := by decide +kernel
theorem dX7_tellYears_17 : decode cX7_tellYears 17 = .ok (.aload_n 0, 1) := by decide +kernel
theorem dX7_tellYears_18 : decode cX7_tellYears 18 = .ok (.getfield 25, 3) := by decide +kernel
theorem dX7_tellYears_21 : decode cX7_tellYears 21 = .ok (.iload_n 1, 1) := by decide +kernel
theorem dX7_tellYears_22 : decode cX7_tellYears 22 = .ok (.bipush 10, 2) := by decide +kernel
theorem dX7_tellYears_24 : decode cX7_tellYears 24 = .ok (.isub, 1) := by decide +kernel
theorem dX7_tellYears_25 : decode cX7_tellYears 25 = .ok (.iaload, 1) := by decide +kernel
theorem dX7_tellYears_26 : decode cX7_tellYears 26 = .ok (.goto 5, 3) := by decide +kernel
theorem dX7_tellYears_29 : decode cX7_tellYears 29 = .ok (.bipush (-9), 2) := by decide +kernel
theorem dX7_tellYears_31 : decode cX7_tellYears 31 = .ok (.ireturn, 1) := by decide +kernel
theorem dX7_tellYears_32 : decode cX7_tellYears 32 = .ok (.iload_n 1, 1) := by decide +kernel
theorem dX7_tellYears_33 : decode cX7_tellYears 33 = .ok (.tableswitch 73 0 3 #[31, 73, 36, 68], 31) := by decide +kernel
theorem dX7_tellYears_64 : decode cX7_tellYears 64 = .ok (.aload_n 0, 1) := by decide +kernel
theorem dX7_tellYears_65 : decode cX7_tellYears 65 = .ok (.getfield 105, 3) := by decide +kernel
theorem dX7_tellYears_68 : decode cX7_tellYears 68 = .ok (.ireturn, 1) := by decide +kernel
theorem dX7_tellYears_69 : decode cX7_tellYears 69 = .ok (.iconst 0, 1) := by decide +kernel
theorem dX7_tellYears_70 : decode cX7_tellYears 70 = .ok (.istore_n 2, 1) := by decide +kernel
theorem dX7_tellYears_71 : decode cX7_tellYears 71 = .ok (.iconst 0, 1) := by decide +kernel
theorem dX7_tellYears_72 : decode cX7_tellYears 72 = .ok (.istore_n 3, 1) := by decide +kernel
theorem dX7_tellYears_73 : decode cX7_tellYears 73 = .ok (.iload_n 3, 1) := by decide +kernel
theorem dX7_tellYears_74 : decode cX7_tellYears 74 = .ok (.aload_n 0, 1) := by decide +kernel
theorem dX7_tellYears_75 : decode cX7_tellYears 75 = .ok (.getfield 65, 3) := by decide +kernel
theorem dX7_tellYears_78 : decode cX7_tellYears 78 = .ok (.if_icmp .ge 21, 3) := by decide +kernel
theorem dX7_tellYears_81 : decode cX7_tellYears 81 = .ok (.iload_n 2, 1) := by decide +kernel
theorem dX7_tellYears_82 : decode cX7_tellYears 82 = .ok (.aload_n 0, 1) := by decide +kernel
theorem dX7_tellYears_83 : decode cX7_tellYears 83 = .ok (.getfield 25, 3) := by decide +kernel
theorem dX7_tellYears_86 : decode cX7_tellYears 86 = .ok (.iload_n 3, 1) := by decide +kernel
theorem dX7_tellYears_87 : decode cX7_tellYears 87 = .ok (.iaload, 1) := by decide +kernel
theorem dX7_tellYears_88 : decode cX7_tellYears 88 = .ok (.invokestatic 138, 3) := by decide +kernel
theorem dX7_tellYears_91 : decode cX7_tellYears 91 = .ok (.iadd, 1) := by decide +kernel
theorem dX7_tellYears_92 : decode cX7_tellYears 92 = .ok (.istore_n 2, 1) := by decide +kernel
theorem dX7_tellYears_93 : decode cX7_tellYears 93 = .ok (.iinc 3 1, 3) := by decide +kernel
theorem dX7_tellYears_96 : decode cX7_tellYears 96 = .ok (.goto (-23), 3) := by decide +kernel
theorem dX7_tellYears_99 : decode cX7_tellYears 99 = .ok (.iload_n 2, 1) := by decide +kernel
theorem dX7_tellYears_100 : decode cX7_tellYears 100 = .ok (.ireturn, 1) := by decide +kernel
theorem dX7_tellYears_101 : decode cX7_tellYears 101 = .ok (.aload_n 0, 1) := by decide +kernel
theorem dX7_tellYears_102 : decode cX7_tellYears 102 = .ok (.getfield 156, 3) := by decide +kernel
theorem dX7_tellYears_105 : decode cX7_tellYears 105 = .ok (.ireturn, 1) := by decide +kernel
theorem dX7_tellYears_106 : decode cX7_tellYears 106 = .ok (.aload_n 0, 1) := by decide +kernel
theorem dX7_tellYears_107 : decode cX7_tellYears 107 = .ok (.getfield 159, 3) := by decide +kernel
theorem dX7_tellYears_110 : decode cX7_tellYears 110 = .ok (.ireturn, 1) := by decide +kernel
theorem dX7_comesFrom_0 : decode cX7_comesFrom 0 = .ok (.iload_n 1, 1) := by decide +kernel
theorem dX7_comesFrom_1 : decode cX7_comesFrom 1 = .ok (.istore 4, 2) := by decide +kernel
theorem dX7_comesFrom_3 : decode cX7_comesFrom 3 = .ok (.iconst 0, 1) := by decide +kernel
theorem dX7_comesFrom_4 : decode cX7_comesFrom 4 = .ok (.istore 5, 2) := by decide +kernel
theorem dX7_comesFrom_6 : decode cX7_comesFrom 6 = .ok (.iload 5, 2) := by decide +kernel
theorem dX7_comesFrom_8 : decode cX7_comesFrom 8 = .ok (.bipush 64, 2) := by decide +kernel
theorem dX7_comesFrom_10 : decode cX7_comesFrom 10 = .ok (.if_icmp .ge 27, 3) := by decide +kernel
theorem dX7_comesFrom_13 : decode cX7_comesFrom 13 = .ok (.iload 4, 2) := by decide +kernel
theorem dX7_comesFrom_15 : decode cX7_comesFrom 15 = .ok (.iload_n 3, 1) := by decide +kernel
theorem dX7_comesFrom_16 : decode cX7_comesFrom 16 = .ok (.if_icmp .ne 6, 3) := by decide +kernel
theorem dX7_comesFrom_19 : decode cX7_comesFrom 19 = .ok (.iload 5, 2) := by decide +kernel
theorem dX7_comesFrom_21 : decode cX7_comesFrom 21 = .ok (.ireturn, 1) := by decide +kernel
theorem dX7_comesFrom_22 : decode cX7_comesFrom 22 = .ok (.aload_n 0, 1) := by decide +kernel
theorem dX7_comesFrom_23 : decode cX7_comesFrom 23 = .ok (.iload 4, 2) := by decide +kernel
theorem dX7_comesFrom_25 : decode cX7_comesFrom 25 = .ok (.iload_n 2, 1) := by decide +kernel
theorem dX7_comesFrom_26 : decode cX7_comesFrom 26 = .ok (.invokevirtual 147, 3) := by decide +kernel
theorem dX7_comesFrom_29 : decode cX7_comesFrom 29 = .ok (.istore 4, 2) := by decide +kernel
theorem dX7_comesFrom_31 : decode cX7_comesFrom 31 = .ok (.iinc 5 1, 3) := by decide +kernel
theorem dX7_comesFrom_34 : decode cX7_comesFrom 34 = .ok (.goto (-28), 3) := by decide +kernel
theorem dX7_comesFrom_37 : decode cX7_comesFrom 37 = .ok (.bipush (-9), 2) := by decide +kernel
theorem dX7_comesFrom_39 : decode cX7_comesFrom 39 = .ok (.ireturn, 1) := by decide +kernel
theorem dX7_comes_0 : decode cX7_comes 0 = .ok (.aload_n 0, 1) := by decide +kernel
theorem dX7_comes_1 : decode cX7_comes 1 = .ok (.iload_n 1, 1) := by decide +kernel
theorem dX7_comes_2 : decode cX7_comes 2 = .ok (.invokevirtual 132, 3) := by decide +kernel
theorem dX7_comes_5 : decode cX7_comes 5 = .ok (.ifCond .ne 5, 3) := by decide +kernel
theorem dX7_comes_8 : decode cX7_comes 8 = .ok (.iconst (-1), 1) := by decide +kernel
theorem dX7_comes_9 : decode cX7_comes 9 = .ok (.ireturn, 1) := by decide +kernel
theorem dX7_comes_10 : decode cX7_comes 10 = .ok (.iload_n 2, 1) := by decide +kernel
theorem dX7_comes_11 : decode cX7_comes 11 = .ok (.invokestatic 141, 3) := by decide +kernel
theorem dX7_comes_14 : decode cX7_comes 14 = .ok (.ifCond .eq 22, 3) := by decide +kernel
theorem dX7_comes_17 : decode cX7_comes 17 = .ok (.aload_n 0, 1) := by decide +kernel
theorem dX7_comes_18 : decode cX7_comes 18 = .ok (.aload_n 0, 1) := by decide +kernel
theorem dX7_comes_19 : decode cX7_comes 19 = .ok (.getfield 25, 3) := by decide +kernel
theorem dX7_comes_22 : decode cX7_comes 22 = .ok (.iload_n 1, 1) := by decide +kernel
theorem dX7_comes_23 : decode cX7_comes 23 = .ok (.iaload, 1) := by decide +kernel
theorem dX7_comes_24 : decode cX7_comes 24 = .ok (.aload_n 0, 1) := by decide +kernel
theorem dX7_comes_25 : decode cX7_comes 25 = .ok (.iload_n 1, 1) := by decide +kernel
theorem dX7_comes_26 : decode cX7_comes 26 = .ok (.invokevirtual 135, 3) := by decide +kernel
theorem dX7_comes_29 : decode cX7_comes 29 = .ok (.iload_n 2, 1) := by decide +kernel
theorem dX7_comes_30 : decode cX7_comes 30 = .ok (.invokevirtual 178, 3) := by decide +kernel
theorem dX7_comes_33 : decode cX7_comes 33 = .ok (.goto 5, 3) := by decide +kernel
theorem dX7_comes_36 : decode cX7_comes 36 = .ok (.bipush (-2), 2) := by decide +kernel
theorem dX7_comes_38 : decode cX7_comes 38 = .ok (.ireturn, 1) := by decide +kernel
theorem dX7_strokes_0 : decode cX7_strokes 0 = .ok (.aload_n 0, 1) := by decide +kernel
theorem dX7_strokes_1 : decode cX7_strokes 1 = .ok (.iload_n 1, 1) := by decide +kernel
theorem dX7_strokes_2 : decode cX7_strokes 2 = .ok (.invokevirtual 132, 3) := by decide +kernel
theorem dX7_strokes_5 : decode cX7_strokes 5 = .ok (.ifCond .ne 5, 3) := by decide +kernel
theorem dX7_strokes_8 : decode cX7_strokes 8 = .ok (.iconst (-1), 1) := by decide +kernel
theorem dX7_strokes_9 : decode cX7_strokes 9 = .ok (.ireturn, 1) := by decide +kernel
theorem dX7_strokes_10 : decode cX7_strokes 10 = .ok (.iload_n 2, 1) := by decide +kernel
theorem dX7_strokes_11 : decode cX7_strokes 11 = .ok (.invokestatic 141, 3) := by decide +kernel
theorem dX7_strokes_14 : decode cX7_strokes 14 = .ok (.ifCond .ne 6, 3) := by decide +kernel
theorem dX7_strokes_17 : decode cX7_strokes 17 = .ok (.bipush (-2), 2) := by decide +kernel
theorem dX7_strokes_19 : decode cX7_strokes 19 = .ok (.ireturn, 1) := by decide +kernel
theorem dX7_strokes_20 : decode cX7_strokes 20 = .ok (.bipush (-9), 2) := by decide +kernel
theorem dX7_strokes_22 : decode cX7_strokes 22 = .ok (.istore_n 3, 1) := by decide +kernel
theorem dX7_strokes_23 : decode cX7_strokes 23 = .ok (.iconst 0, 1) := by decide +kernel
theorem dX7_strokes_24 : decode cX7_strokes 24 = .ok (.istore 4, 2) := by decide +kernel
theorem dX7_strokes_26 : decode cX7_strokes 26 = .ok (.iload 4, 2) := by decide +kernel
theorem dX7_strokes_28 : decode cX7_strokes 28 = .ok (.bipush 64, 2) := by decide +kernel
theorem dX7_strokes_30 : decode cX7_strokes 30 = .ok (.if_icmp .ge 66, 3) := by decide +kernel
theorem dX7_strokes_33 : decode cX7_strokes 33 = .ok (.iload_n 3, 1) := by decide +kernel
theorem dX7_strokes_34 : decode cX7_strokes 34 = .ok (.bipush (-9), 2) := by decide +kernel
theorem dX7_strokes_36 : decode cX7_strokes 36 = .ok (.if_icmp .eq 15, 3) := by decide +kernel
theorem dX7_strokes_39 : decode cX7_strokes 39 = .ok (.iload 4, 2) := by decide +kernel
theorem dX7_strokes_41 : decode cX7_strokes 41 = .ok (.invokestatic 138, 3) := by decide +kernel
theorem dX7_strokes_44 : decode cX7_strokes 44 = .ok (.iload_n 3, 1) := by decide +kernel
theorem dX7_strokes_45 : decode cX7_strokes 45 = .ok (.invokestatic 138, 3) := by decide +kernel
theorem dX7_strokes_48 : decode cX7_strokes 48 = .ok (.if_icmp .ge 7, 3) := by decide +kernel
theorem dX7_strokes_51 : decode cX7_strokes 51 = .ok (.iconst 1, 1) := by decide +kernel
theorem dX7_strokes_52 : decode cX7_strokes 52 = .ok (.goto 4, 3) := by decide +kernel
theorem dX7_strokes_55 : decode cX7_strokes 55 = .ok (.iconst 0, 1) := by decide +kernel
theorem dX7_strokes_56 : decode cX7_strokes 56 = .ok (.istore 5, 2) := by decide +kernel
theorem dX7_strokes_58 : decode cX7_strokes 58 = .ok (.iload 5, 2) := by decide +kernel
theorem dX7_strokes_60 : decode cX7_strokes 60 = .ok (.ifCond .eq 30, 3) := by decide +kernel
theorem dX7_strokes_63 : decode cX7_strokes 63 = .ok (.aload_n 0, 1) := by decide +kernel
theorem dX7_strokes_64 : decode cX7_strokes 64 = .ok (.aload_n 0, 1) := by decide +kernel
theorem dX7_strokes_65 : decode cX7_strokes 65 = .ok (.getfield 25, 3) := by decide +kernel
theorem dX7_strokes_68 : decode cX7_strokes 68 = .ok (.iload_n 1, 1) := by decide +kernel
theorem dX7_strokes_69 : decode cX7_strokes 69 = .ok (.iaload, 1) := by decide +kernel
theorem dX7_strokes_70 : decode cX7_strokes 70 = .ok (.iload 4, 2) := by decide +kernel
theorem dX7_strokes_72 : decode cX7_strokes 72 = .ok (.ixor, 1) := by decide +kernel
theorem dX7_strokes_73 : decode cX7_strokes 73 = .ok (.aload_n 0, 1) := by decide +kernel
theorem dX7_strokes_74 : decode cX7_strokes 74 = .ok (.iload_n 1, 1) := by decide +kernel
theorem dX7_strokes_75 : decode cX7_strokes 75 = .ok (.invokevirtual 135, 3) := by decide +kernel
theorem dX7_strokes_78 : decode cX7_strokes 78 = .ok (.iload_n 2, 1) := by decide +kernel
theorem dX7_strokes_79 : decode cX7_strokes 79 = .ok (.invokevirtual 178, 3) := by decide +kernel
theorem dX7_strokes_82 : decode cX7_strokes 82 = .ok (.bipush (-9), 2) := by decide +kernel
theorem dX7_strokes_84 : decode cX7_strokes 84 = .ok (.if_icmp .eq 6, 3) := by decide +kernel
theorem dX7_strokes_87 : decode cX7_strokes 87 = .ok (.iload 4, 2) := by decide +kernel
theorem dX7_strokes_89 : decode cX7_strokes 89 = .ok (.istore_n 3, 1) := by decide +kernel
theorem dX7_strokes_90 : decode cX7_strokes 90 = .ok (.iinc 4 1, 3) := by decide +kernel
theorem dX7_strokes_93 : decode cX7_strokes 93 = .ok (.goto (-67), 3) := by decide +kernel
theorem dX7_strokes_96 : decode cX7_strokes 96 = .ok (.iload_n 3, 1) := by decide +kernel
theorem dX7_strokes_97 : decode cX7_strokes 97 = .ok (.ireturn, 1) := by decide +kernel
theorem dX7_round_0 : decode cX7_round 0 = .ok (.iload_n 1, 1) := by decide +kernel
theorem dX7_round_1 : decode cX7_round 1 = .ok (.invokestatic 141, 3) := by decide +kernel
theorem dX7_round_4 : decode cX7_round 4 = .ok (.ifCond .eq 12, 3) := by decide +kernel
theorem dX7_round_7 : decode cX7_round 7 = .ok (.iload_n 2, 1) := by decide +kernel
theorem dX7_round_8 : decode cX7_round 8 = .ok (.iconst 0, 1) := by decide +kernel
theorem dX7_round_9 : decode cX7_round 9 = .ok (.iconst 1, 1) := by decide +kernel
theorem dX7_round_10 : decode cX7_round 10 = .ok (.invokestatic 61, 3) := by decide +kernel
theorem dX7_round_13 : decode cX7_round 13 = .ok (.ifCond .ne 6, 3) := by decide +kernel
theorem dX7_round_16 : decode cX7_round 16 = .ok (.bipush (-2), 2) := by decide +kernel
theorem dX7_round_18 : decode cX7_round 18 = .ok (.ireturn, 1) := by decide +kernel
theorem dX7_round_19 : decode cX7_round 19 = .ok (.aload_n 0, 1) := by decide +kernel
theorem dX7_round_20 : decode cX7_round 20 = .ok (.getfield 65, 3) := by decide +kernel
theorem dX7_round_23 : decode cX7_round 23 = .ok (.ifCond .ne 6, 3) := by decide +kernel
theorem dX7_round_26 : decode cX7_round 26 = .ok (.bipush (-3), 2) := by decide +kernel
theorem dX7_round_28 : decode cX7_round 28 = .ok (.ireturn, 1) := by decide +kernel
theorem dX7_round_29 : decode cX7_round 29 = .ok (.aload_n 0, 1) := by decide +kernel
theorem dX7_round_30 : decode cX7_round 30 = .ok (.iload_n 1, 1) := by decide +kernel
theorem dX7_round_31 : decode cX7_round 31 = .ok (.bipush 64, 2) := by decide +kernel
theorem dX7_round_33 : decode cX7_round 33 = .ok (.invokevirtual 147, 3) := by decide +kernel
theorem dX7_round_36 : decode cX7_round 36 = .ok (.istore_n 3, 1) := by decide +kernel
theorem dX7_round_37 : decode cX7_round 37 = .ok (.iconst 1, 1) := by decide +kernel
theorem dX7_round_38 : decode cX7_round 38 = .ok (.istore 4, 2) := by decide +kernel
theorem dX7_round_40 : decode cX7_round 40 = .ok (.aload_n 0, 1) := by decide +kernel
theorem dX7_round_41 : decode cX7_round 41 = .ok (.getfield 19, 3) := by decide +kernel
theorem dX7_round_44 : decode cX7_round 44 = .ok (.iload_n 3, 1) := by decide +kernel
theorem dX7_round_45 : decode cX7_round 45 = .ok (.iaload, 1) := by decide +kernel
theorem dX7_round_46 : decode cX7_round 46 = .ok (.istore 5, 2) := by decide +kernel
theorem dX7_round_48 : decode cX7_round 48 = .ok (.iload 5, 2) := by decide +kernel
theorem dX7_round_50 : decode cX7_round 50 = .ok (.iload_n 3, 1) := by decide +kernel
theorem dX7_round_51 : decode cX7_round 51 = .ok (.if_icmp .eq 18, 3) := by decide +kernel
theorem dX7_round_54 : decode cX7_round 54 = .ok (.iinc 4 1, 3) := by decide +kernel
theorem dX7_round_57 : decode cX7_round 57 = .ok (.aload_n 0, 1) := by decide +kernel
theorem dX7_round_58 : decode cX7_round 58 = .ok (.getfield 19, 3) := by decide +kernel
theorem dX7_round_61 : decode cX7_round 61 = .ok (.iload 5, 2) := by decide +kernel
theorem dX7_round_63 : decode cX7_round 63 = .ok (.iaload, 1) := by decide +kernel
theorem dX7_round_64 : decode cX7_round 64 = .ok (.istore 5, 2) := by decide +kernel
theorem dX7_round_66 : decode cX7_round 66 = .ok (.goto (-18), 3) := by decide +kernel
theorem dX7_round_69 : decode cX7_round 69 = .ok (.iload_n 1, 1) := by decide +kernel
theorem dX7_round_70 : decode cX7_round 70 = .ok (.istore 5, 2) := by decide +kernel
theorem dX7_round_72 : decode cX7_round 72 = .ok (.aload_n 0, 1) := by decide +kernel
theorem dX7_round_73 : decode cX7_round 73 = .ok (.iload_n 1, 1) := by decide +kernel
theorem dX7_round_74 : decode cX7_round 74 = .ok (.iload 4, 2) := by decide +kernel
theorem dX7_round_76 : decode cX7_round 76 = .ok (.invokevirtual 147, 3) := by decide +kernel
theorem dX7_round_79 : decode cX7_round 79 = .ok (.istore 6, 2) := by decide +kernel
theorem dX7_round_81 : decode cX7_round 81 = .ok (.iconst 0, 1) := by decide +kernel
theorem dX7_round_82 : decode cX7_round 82 = .ok (.istore 7, 2) := by decide +kernel
theorem dX7_round_84 : decode cX7_round 84 = .ok (.iload 5, 2) := by decide +kernel
theorem dX7_round_86 : decode cX7_round 86 = .ok (.iload 6, 2) := by decide +kernel
theorem dX7_round_88 : decode cX7_round 88 = .ok (.if_icmp .eq 27, 3) := by decide +kernel
theorem dX7_round_91 : decode cX7_round 91 = .ok (.aload_n 0, 1) := by decide +kernel
theorem dX7_round_92 : decode cX7_round 92 = .ok (.getfield 19, 3) := by decide +kernel
theorem dX7_round_95 : decode cX7_round 95 = .ok (.iload 5, 2) := by decide +kernel
theorem dX7_round_97 : decode cX7_round 97 = .ok (.iaload, 1) := by decide +kernel
theorem dX7_round_98 : decode cX7_round 98 = .ok (.istore 5, 2) := by decide +kernel
theorem dX7_round_100 : decode cX7_round 100 = .ok (.aload_n 0, 1) := by decide +kernel
theorem dX7_round_101 : decode cX7_round 101 = .ok (.getfield 19, 3) := by decide +kernel
theorem dX7_round_104 : decode cX7_round 104 = .ok (.iload 6, 2) := by decide +kernel
theorem dX7_round_106 : decode cX7_round 106 = .ok (.iaload, 1) := by decide +kernel
theorem dX7_round_107 : decode cX7_round 107 = .ok (.istore 6, 2) := by decide +kernel
theorem dX7_round_109 : decode cX7_round 109 = .ok (.iinc 7 1, 3) := by decide +kernel
theorem dX7_round_112 : decode cX7_round 112 = .ok (.goto (-28), 3) := by decide +kernel
theorem dX7_round_115 : decode cX7_round 115 = .ok (.iload_n 2, 1) := by decide +kernel
theorem dX7_round_116 : decode cX7_round 116 = .ok (.ifCond .ne 8, 3) := by decide +kernel
theorem dX7_round_119 : decode cX7_round 119 = .ok (.iload 7, 2) := by decide +kernel
theorem dX7_round_121 : decode cX7_round 121 = .ok (.goto 5, 3) := by decide +kernel
theorem dX7_round_124 : decode cX7_round 124 = .ok (.iload 4, 2) := by decide +kernel
theorem dX7_round_126 : decode cX7_round 126 = .ok (.ireturn, 1) := by decide +kernel
theorem dX7_eden_0 : decode cX7_eden 0 = .ok (.iload_n 1, 1) := by decide +kernel
theorem dX7_eden_1 : decode cX7_eden 1 = .ok (.invokestatic 141, 3) := by decide +kernel
theorem dX7_eden_4 : decode cX7_eden 4 = .ok (.ifCond .eq 10, 3) := by decide +kernel
theorem dX7_eden_7 : decode cX7_eden 7 = .ok (.aload_n 0, 1) := by decide +kernel
theorem dX7_eden_8 : decode cX7_eden 8 = .ok (.getfield 65, 3) := by decide +kernel
theorem dX7_eden_11 : decode cX7_eden 11 = .ok (.ifCond .ne 7, 3) := by decide +kernel
theorem dX7_eden_14 : decode cX7_eden 14 = .ok (.ldc2_w 59, 3) := by decide +kernel
theorem dX7_eden_17 : decode cX7_eden 17 = .ok (.lreturn, 1) := by decide +kernel
theorem dX7_eden_18 : decode cX7_eden 18 = .ok (.lconst 0, 1) := by decide +kernel
theorem dX7_eden_19 : decode cX7_eden 19 = .ok (.lstore_n 2, 1) := by decide +kernel
theorem dX7_eden_20 : decode cX7_eden 20 = .ok (.iconst 0, 1) := by decide +kernel
theorem dX7_eden_21 : decode cX7_eden 21 = .ok (.istore 4, 2) := by decide +kernel
theorem dX7_eden_23 : decode cX7_eden 23 = .ok (.iload 4, 2) := by decide +kernel
theorem dX7_eden_25 : decode cX7_eden 25 = .ok (.bipush 64, 2) := by decide +kernel
theorem dX7_eden_27 : decode cX7_eden 27 = .ok (.if_icmp .ge 31, 3) := by decide +kernel
theorem dX7_eden_30 : decode cX7_eden 30 = .ok (.lload_n 2, 1) := by decide +kernel
theorem dX7_eden_31 : decode cX7_eden 31 = .ok (.aload_n 0, 1) := by decide +kernel
theorem dX7_eden_32 : decode cX7_eden 32 = .ok (.getfield 19, 3) := by decide +kernel
theorem dX7_eden_35 : decode cX7_eden 35 = .ok (.iload 4, 2) := by decide +kernel
theorem dX7_eden_37 : decode cX7_eden 37 = .ok (.iaload, 1) := by decide +kernel
theorem dX7_eden_38 : decode cX7_eden 38 = .ok (.iload_n 1, 1) := by decide +kernel
theorem dX7_eden_39 : decode cX7_eden 39 = .ok (.if_icmp .ne 10, 3) := by decide +kernel
theorem dX7_eden_42 : decode cX7_eden 42 = .ok (.lconst 1, 1) := by decide +kernel
theorem dX7_eden_43 : decode cX7_eden 43 = .ok (.iload 4, 2) := by decide +kernel
theorem dX7_eden_45 : decode cX7_eden 45 = .ok (.lshl, 1) := by decide +kernel
theorem dX7_eden_46 : decode cX7_eden 46 = .ok (.goto 4, 3) := by decide +kernel
theorem dX7_eden_49 : decode cX7_eden 49 = .ok (.lconst 0, 1) := by decide +kernel
theorem dX7_eden_50 : decode cX7_eden 50 = .ok (.lor, 1) := by decide +kernel
theorem dX7_eden_51 : decode cX7_eden 51 = .ok (.lstore_n 2, 1) := by decide +kernel
theorem dX7_eden_52 : decode cX7_eden 52 = .ok (.iinc 4 1, 3) := by decide +kernel
theorem dX7_eden_55 : decode cX7_eden 55 = .ok (.goto (-32), 3) := by decide +kernel
theorem dX7_eden_58 : decode cX7_eden 58 = .ok (.lload_n 2, 1) := by decide +kernel
theorem dX7_eden_59 : decode cX7_eden 59 = .ok (.lreturn, 1) := by decide +kernel
theorem dX7_alike_0 : decode cX7_alike 0 = .ok (.aload_n 0, 1) := by decide +kernel
theorem dX7_alike_1 : decode cX7_alike 1 = .ok (.iload_n 1, 1) := by decide +kernel
theorem dX7_alike_2 : decode cX7_alike 2 = .ok (.invokevirtual 132, 3) := by decide +kernel
theorem dX7_alike_5 : decode cX7_alike 5 = .ok (.ifCond .eq 16, 3) := by decide +kernel
theorem dX7_alike_8 : decode cX7_alike 8 = .ok (.aload_n 0, 1) := by decide +kernel
theorem dX7_alike_9 : decode cX7_alike 9 = .ok (.iload_n 2, 1) := by decide +kernel
theorem dX7_alike_10 : decode cX7_alike 10 = .ok (.invokevirtual 132, 3) := by decide +kernel
theorem dX7_alike_13 : decode cX7_alike 13 = .ok (.ifCond .eq 8, 3) := by decide +kernel
theorem dX7_alike_16 : decode cX7_alike 16 = .ok (.iload_n 1, 1) := by decide +kernel
theorem dX7_alike_17 : decode cX7_alike 17 = .ok (.iload_n 2, 1) := by decide +kernel
theorem dX7_alike_18 : decode cX7_alike 18 = .ok (.if_icmp .ne 5, 3) := by decide +kernel
theorem dX7_alike_21 : decode cX7_alike 21 = .ok (.iconst (-1), 1) := by decide +kernel
theorem dX7_alike_22 : decode cX7_alike 22 = .ok (.ireturn, 1) := by decide +kernel
theorem dX7_alike_23 : decode cX7_alike 23 = .ok (.aload_n 0, 1) := by decide +kernel
theorem dX7_alike_24 : decode cX7_alike 24 = .ok (.getfield 25, 3) := by decide +kernel
theorem dX7_alike_27 : decode cX7_alike 27 = .ok (.iload_n 1, 1) := by decide +kernel
theorem dX7_alike_28 : decode cX7_alike 28 = .ok (.iaload, 1) := by decide +kernel
theorem dX7_alike_29 : decode cX7_alike 29 = .ok (.istore_n 3, 1) := by decide +kernel
theorem dX7_alike_30 : decode cX7_alike 30 = .ok (.aload_n 0, 1) := by decide +kernel
theorem dX7_alike_31 : decode cX7_alike 31 = .ok (.getfield 25, 3) := by decide +kernel
theorem dX7_alike_34 : decode cX7_alike 34 = .ok (.iload_n 2, 1) := by decide +kernel
theorem dX7_alike_35 : decode cX7_alike 35 = .ok (.iaload, 1) := by decide +kernel
theorem dX7_alike_36 : decode cX7_alike 36 = .ok (.istore 4, 2) := by decide +kernel
theorem dX7_alike_38 : decode cX7_alike 38 = .ok (.iconst 0, 1) := by decide +kernel
theorem dX7_alike_39 : decode cX7_alike 39 = .ok (.istore 5, 2) := by decide +kernel
theorem dX7_alike_41 : decode cX7_alike 41 = .ok (.iload 5, 2) := by decide +kernel
theorem dX7_alike_43 : decode cX7_alike 43 = .ok (.bipush 99, 2) := by decide +kernel
theorem dX7_alike_45 : decode cX7_alike 45 = .ok (.if_icmp .gt 42, 3) := by decide +kernel
theorem dX7_alike_48 : decode cX7_alike 48 = .ok (.iload_n 3, 1) := by decide +kernel
theorem dX7_alike_49 : decode cX7_alike 49 = .ok (.iload 4, 2) := by decide +kernel
theorem dX7_alike_51 : decode cX7_alike 51 = .ok (.if_icmp .ne 6, 3) := by decide +kernel
theorem dX7_alike_54 : decode cX7_alike 54 = .ok (.iload 5, 2) := by decide +kernel
theorem dX7_alike_56 : decode cX7_alike 56 = .ok (.ireturn, 1) := by decide +kernel
theorem dX7_alike_57 : decode cX7_alike 57 = .ok (.aload_n 0, 1) := by decide +kernel
theorem dX7_alike_58 : decode cX7_alike 58 = .ok (.iload_n 3, 1) := by decide +kernel
theorem dX7_alike_59 : decode cX7_alike 59 = .ok (.aload_n 0, 1) := by decide +kernel
theorem dX7_alike_60 : decode cX7_alike 60 = .ok (.iload_n 1, 1) := by decide +kernel
theorem dX7_alike_61 : decode cX7_alike 61 = .ok (.invokevirtual 135, 3) := by decide +kernel
theorem dX7_alike_64 : decode cX7_alike 64 = .ok (.invokevirtual 147, 3) := by decide +kernel
theorem dX7_alike_67 : decode cX7_alike 67 = .ok (.istore_n 3, 1) := by decide +kernel
theorem dX7_alike_68 : decode cX7_alike 68 = .ok (.aload_n 0, 1) := by decide +kernel
theorem dX7_alike_69 : decode cX7_alike 69 = .ok (.iload 4, 2) := by decide +kernel
theorem dX7_alike_71 : decode cX7_alike 71 = .ok (.aload_n 0, 1) := by decide +kernel
theorem dX7_alike_72 : decode cX7_alike 72 = .ok (.iload_n 2, 1) := by decide +kernel
theorem dX7_alike_73 : decode cX7_alike 73 = .ok (.invokevirtual 135, 3) := by decide +kernel
theorem dX7_alike_76 : decode cX7_alike 76 = .ok (.invokevirtual 147, 3) := by decide +kernel
theorem dX7_alike_79 : decode cX7_alike 79 = .ok (.istore 4, 2) := by decide +kernel
theorem dX7_alike_81 : decode cX7_alike 81 = .ok (.iinc 5 1, 3) := by decide +kernel
theorem dX7_alike_84 : decode cX7_alike 84 = .ok (.goto (-43), 3) := by decide +kernel
theorem dX7_alike_87 : decode cX7_alike 87 = .ok (.bipush (-9), 2) := by decide +kernel
theorem dX7_alike_89 : decode cX7_alike 89 = .ok (.ireturn, 1) := by decide +kernel
theorem dX7_findMust_0 : decode cX7_findMust 0 = .ok (.aload_n 0, 1) := by decide +kernel
theorem dX7_findMust_1 : decode cX7_findMust 1 = .ok (.iconst 0, 1) := by decide +kernel
theorem dX7_findMust_2 : decode cX7_findMust 2 = .ok (.putfield 181, 3) := by decide +kernel
theorem dX7_findMust_5 : decode cX7_findMust 5 = .ok (.aload_n 0, 1) := by decide +kernel
theorem dX7_findMust_6 : decode cX7_findMust 6 = .ok (.iconst 0, 1) := by decide +kernel
theorem dX7_findMust_7 : decode cX7_findMust 7 = .ok (.putfield 184, 3) := by decide +kernel
theorem dX7_findMust_10 : decode cX7_findMust 10 = .ok (.iconst 1, 1) := by decide +kernel
theorem dX7_findMust_11 : decode cX7_findMust 11 = .ok (.istore_n 3, 1) := by decide +kernel
theorem dX7_findMust_12 : decode cX7_findMust 12 = .ok (.iload_n 3, 1) := by decide +kernel
theorem dX7_findMust_13 : decode cX7_findMust 13 = .ok (.iload_n 2, 1) := by decide +kernel
theorem dX7_findMust_14 : decode cX7_findMust 14 = .ok (.if_icmp .ge 99, 3) := by decide +kernel
theorem dX7_findMust_17 : decode cX7_findMust 17 = .ok (.iconst 0, 1) := by decide +kernel
theorem dX7_findMust_18 : decode cX7_findMust 18 = .ok (.istore 4, 2) := by decide +kernel
theorem dX7_findMust_20 : decode cX7_findMust 20 = .ok (.iload 4, 2) := by decide +kernel
theorem dX7_findMust_22 : decode cX7_findMust 22 = .ok (.bipush 6, 2) := by decide +kernel
theorem dX7_findMust_24 : decode cX7_findMust 24 = .ok (.if_icmp .ge 83, 3) := by decide +kernel
theorem dX7_findMust_27 : decode cX7_findMust 27 = .ok (.iconst 1, 1) := by decide +kernel
theorem dX7_findMust_28 : decode cX7_findMust 28 = .ok (.aload_n 0, 1) := by decide +kernel
theorem dX7_findMust_29 : decode cX7_findMust 29 = .ok (.getfield 16, 3) := by decide +kernel
theorem dX7_findMust_32 : decode cX7_findMust 32 = .ok (.iload_n 1, 1) := by decide +kernel
theorem dX7_findMust_33 : decode cX7_findMust 33 = .ok (.iload_n 3, 1) := by decide +kernel
theorem dX7_findMust_34 : decode cX7_findMust 34 = .ok (.iadd, 1) := by decide +kernel
theorem dX7_findMust_35 : decode cX7_findMust 35 = .ok (.iconst 1, 1) := by decide +kernel
theorem dX7_findMust_36 : decode cX7_findMust 36 = .ok (.isub, 1) := by decide +kernel
theorem dX7_findMust_37 : decode cX7_findMust 37 = .ok (.iaload, 1) := by decide +kernel
theorem dX7_findMust_38 : decode cX7_findMust 38 = .ok (.iload 4, 2) := by decide +kernel
theorem dX7_findMust_40 : decode cX7_findMust 40 = .ok (.invokestatic 114, 3) := by decide +kernel
theorem dX7_findMust_43 : decode cX7_findMust 43 = .ok (.ishl, 1) := by decide +kernel
theorem dX7_findMust_44 : decode cX7_findMust 44 = .ok (.istore 5, 2) := by decide +kernel
theorem dX7_findMust_46 : decode cX7_findMust 46 = .ok (.aload_n 0, 1) := by decide +kernel
theorem dX7_findMust_47 : decode cX7_findMust 47 = .ok (.getfield 16, 3) := by decide +kernel
theorem dX7_findMust_50 : decode cX7_findMust 50 = .ok (.iload_n 1, 1) := by decide +kernel
theorem dX7_findMust_51 : decode cX7_findMust 51 = .ok (.iload_n 3, 1) := by decide +kernel
theorem dX7_findMust_52 : decode cX7_findMust 52 = .ok (.iadd, 1) := by decide +kernel
theorem dX7_findMust_53 : decode cX7_findMust 53 = .ok (.iaload, 1) := by decide +kernel
theorem dX7_findMust_54 : decode cX7_findMust 54 = .ok (.iload 4, 2) := by decide +kernel
theorem dX7_findMust_56 : decode cX7_findMust 56 = .ok (.invokestatic 144, 3) := by decide +kernel
theorem dX7_findMust_59 : decode cX7_findMust 59 = .ok (.istore 6, 2) := by decide +kernel
theorem dX7_findMust_61 : decode cX7_findMust 61 = .ok (.aload_n 0, 1) := by decide +kernel
theorem dX7_findMust_62 : decode cX7_findMust 62 = .ok (.dup, 1) := by decide +kernel
theorem dX7_findMust_63 : decode cX7_findMust 63 = .ok (.getfield 181, 3) := by decide +kernel
theorem dX7_findMust_66 : decode cX7_findMust 66 = .ok (.iload 6, 2) := by decide +kernel
theorem dX7_findMust_68 : decode cX7_findMust 68 = .ok (.ifCond .eq 8, 3) := by decide +kernel
theorem dX7_findMust_71 : decode cX7_findMust 71 = .ok (.iload 5, 2) := by decide +kernel
theorem dX7_findMust_73 : decode cX7_findMust 73 = .ok (.goto 4, 3) := by decide +kernel
theorem dX7_findMust_76 : decode cX7_findMust 76 = .ok (.iconst 0, 1) := by decide +kernel
theorem dX7_findMust_77 : decode cX7_findMust 77 = .ok (.ior, 1) := by decide +kernel
theorem dX7_findMust_78 : decode cX7_findMust 78 = .ok (.putfield 181, 3) := by decide +kernel
theorem dX7_findMust_81 : decode cX7_findMust 81 = .ok (.aload_n 0, 1) := by decide +kernel
theorem dX7_findMust_82 : decode cX7_findMust 82 = .ok (.dup, 1) := by decide +kernel
theorem dX7_findMust_83 : decode cX7_findMust 83 = .ok (.getfield 184, 3) := by decide +kernel
theorem dX7_findMust_86 : decode cX7_findMust 86 = .ok (.iload 6, 2) := by decide +kernel
theorem dX7_findMust_88 : decode cX7_findMust 88 = .ok (.ifCond .eq 7, 3) := by decide +kernel
theorem dX7_findMust_91 : decode cX7_findMust 91 = .ok (.iconst 0, 1) := by decide +kernel
theorem dX7_findMust_92 : decode cX7_findMust 92 = .ok (.goto 5, 3) := by decide +kernel
theorem dX7_findMust_95 : decode cX7_findMust 95 = .ok (.iload 5, 2) := by decide +kernel
theorem dX7_findMust_97 : decode cX7_findMust 97 = .ok (.ior, 1) := by decide +kernel
theorem dX7_findMust_98 : decode cX7_findMust 98 = .ok (.putfield 184, 3) := by decide +kernel
theorem dX7_findMust_101 : decode cX7_findMust 101 = .ok (.iinc 4 1, 3) := by decide +kernel
theorem dX7_findMust_104 : decode cX7_findMust 104 = .ok (.goto (-84), 3) := by decide +kernel
theorem dX7_findMust_107 : decode cX7_findMust 107 = .ok (.iinc 3 1, 3) := by decide +kernel
theorem dX7_findMust_110 : decode cX7_findMust 110 = .ok (.goto (-98), 3) := by decide +kernel
theorem dX7_findMust_113 : decode cX7_findMust 113 = .ok (.return_, 1) := by decide +kernel
theorem dX7_laws_0 : decode cX7_laws 0 = .ok (.aload_n 0, 1) := by decide +kernel
theorem dX7_laws_1 : decode cX7_laws 1 = .ok (.iconst 0, 1) := by decide +kernel
theorem dX7_laws_2 : decode cX7_laws 2 = .ok (.putfield 55, 3) := by decide +kernel
theorem dX7_laws_5 : decode cX7_laws 5 = .ok (.iload_n 1, 1) := by decide +kernel
theorem dX7_laws_6 : decode cX7_laws 6 = .ok (.invokestatic 71, 3) := by decide +kernel
theorem dX7_laws_9 : decode cX7_laws 9 = .ok (.ifCond .ne 5, 3) := by decide +kernel
theorem dX7_laws_12 : decode cX7_laws 12 = .ok (.iconst (-1), 1) := by decide +kernel
theorem dX7_laws_13 : decode cX7_laws 13 = .ok (.ireturn, 1) := by decide +kernel
theorem dX7_laws_14 : decode cX7_laws 14 = .ok (.iload_n 2, 1) := by decide +kernel
theorem dX7_laws_15 : decode cX7_laws 15 = .ok (.invokestatic 75, 3) := by decide +kernel
theorem dX7_laws_18 : decode cX7_laws 18 = .ok (.ifCond .eq 24, 3) := by decide +kernel
theorem dX7_laws_21 : decode cX7_laws 21 = .ok (.iload 4, 2) := by decide +kernel
theorem dX7_laws_23 : decode cX7_laws 23 = .ok (.iconst 0, 1) := by decide +kernel
theorem dX7_laws_24 : decode cX7_laws 24 = .ok (.bipush 20, 2) := by decide +kernel
theorem dX7_laws_26 : decode cX7_laws 26 = .ok (.invokestatic 61, 3) := by decide +kernel
theorem dX7_laws_29 : decode cX7_laws 29 = .ok (.ifCond .eq 13, 3) := by decide +kernel
theorem dX7_laws_32 : decode cX7_laws 32 = .ok (.iload 5, 2) := by decide +kernel
theorem dX7_laws_34 : decode cX7_laws 34 = .ok (.iconst 0, 1) := by decide +kernel
theorem dX7_laws_35 : decode cX7_laws 35 = .ok (.iconst 2, 1) := by decide +kernel
theorem dX7_laws_36 : decode cX7_laws 36 = .ok (.invokestatic 61, 3) := by decide +kernel
theorem dX7_laws_39 : decode cX7_laws 39 = .ok (.ifCond .ne 6, 3) := by decide +kernel
theorem dX7_laws_42 : decode cX7_laws 42 = .ok (.bipush (-2), 2) := by decide +kernel
theorem dX7_laws_44 : decode cX7_laws 44 = .ok (.ireturn, 1) := by decide +kernel
theorem dX7_laws_45 : decode cX7_laws 45 = .ok (.aload_n 0, 1) := by decide +kernel
theorem dX7_laws_46 : decode cX7_laws 46 = .ok (.iload_n 1, 1) := by decide +kernel
theorem dX7_laws_47 : decode cX7_laws 47 = .ok (.iload_n 2, 1) := by decide +kernel
theorem dX7_laws_48 : decode cX7_laws 48 = .ok (.iload_n 3, 1) := by decide +kernel
theorem dX7_laws_49 : decode cX7_laws 49 = .ok (.iload 4, 2) := by decide +kernel
theorem dX7_laws_51 : decode cX7_laws 51 = .ok (.invokevirtual 78, 3) := by decide +kernel
theorem dX7_laws_54 : decode cX7_laws 54 = .ok (.istore 6, 2) := by decide +kernel
theorem dX7_laws_56 : decode cX7_laws 56 = .ok (.iload 6, 2) := by decide +kernel
theorem dX7_laws_58 : decode cX7_laws 58 = .ok (.ifCond .eq 10, 3) := by decide +kernel
theorem dX7_laws_61 : decode cX7_laws 61 = .ok (.aload_n 0, 1) := by decide +kernel
theorem dX7_laws_62 : decode cX7_laws 62 = .ok (.iload 6, 2) := by decide +kernel
theorem dX7_laws_64 : decode cX7_laws 64 = .ok (.invokevirtual 82, 3) := by decide +kernel
theorem dX7_laws_67 : decode cX7_laws 67 = .ok (.ireturn, 1) := by decide +kernel
theorem dX7_laws_68 : decode cX7_laws 68 = .ok (.bipush 60, 2) := by decide +kernel
theorem dX7_laws_70 : decode cX7_laws 70 = .ok (.iload_n 1, 1) := by decide +kernel
theorem dX7_laws_71 : decode cX7_laws 71 = .ok (.imul, 1) := by decide +kernel
theorem dX7_laws_72 : decode cX7_laws 72 = .ok (.iload_n 3, 1) := by decide +kernel
theorem dX7_laws_73 : decode cX7_laws 73 = .ok (.iadd, 1) := by decide +kernel
theorem dX7_laws_74 : decode cX7_laws 74 = .ok (.istore 7, 2) := by decide +kernel
theorem dX7_laws_76 : decode cX7_laws 76 = .ok (.iconst 0, 1) := by decide +kernel
theorem dX7_laws_77 : decode cX7_laws 77 = .ok (.istore 8, 2) := by decide +kernel
theorem dX7_laws_79 : decode cX7_laws 79 = .ok (.iload 8, 2) := by decide +kernel
theorem dX7_laws_81 : decode cX7_laws 81 = .ok (.iload 4, 2) := by decide +kernel
theorem dX7_laws_83 : decode cX7_laws 83 = .ok (.if_icmp .ge 28, 3) := by decide +kernel
theorem dX7_laws_86 : decode cX7_laws 86 = .ok (.aload_n 0, 1) := by decide +kernel
theorem dX7_laws_87 : decode cX7_laws 87 = .ok (.getfield 16, 3) := by decide +kernel
theorem dX7_laws_90 : decode cX7_laws 90 = .ok (.iload 7, 2) := by decide +kernel
theorem dX7_laws_92 : decode cX7_laws 92 = .ok (.iload 8, 2) := by decide +kernel
theorem dX7_laws_94 : decode cX7_laws 94 = .ok (.iadd, 1) := by decide +kernel
theorem dX7_laws_95 : decode cX7_laws 95 = .ok (.iaload, 1) := by decide +kernel
theorem dX7_laws_96 : decode cX7_laws 96 = .ok (.invokestatic 141, 3) := by decide +kernel
theorem dX7_laws_99 : decode cX7_laws 99 = .ok (.ifCond .ne 6, 3) := by decide +kernel
theorem dX7_laws_102 : decode cX7_laws 102 = .ok (.bipush (-2), 2) := by decide +kernel
theorem dX7_laws_104 : decode cX7_laws 104 = .ok (.ireturn, 1) := by decide +kernel
theorem dX7_laws_105 : decode cX7_laws 105 = .ok (.iinc 8 1, 3) := by decide +kernel
theorem dX7_laws_108 : decode cX7_laws 108 = .ok (.goto (-29), 3) := by decide +kernel
theorem dX7_laws_111 : decode cX7_laws 111 = .ok (.aload_n 0, 1) := by decide +kernel
theorem dX7_laws_112 : decode cX7_laws 112 = .ok (.iload 7, 2) := by decide +kernel
theorem dX7_laws_114 : decode cX7_laws 114 = .ok (.iload 4, 2) := by decide +kernel
theorem dX7_laws_116 : decode cX7_laws 116 = .ok (.invokevirtual 187, 3) := by decide +kernel
theorem dX7_laws_119 : decode cX7_laws 119 = .ok (.aload_n 0, 1) := by decide +kernel
theorem dX7_laws_120 : decode cX7_laws 120 = .ok (.getfield 181, 3) := by decide +kernel
theorem dX7_laws_123 : decode cX7_laws 123 = .ok (.aload_n 0, 1) := by decide +kernel
theorem dX7_laws_124 : decode cX7_laws 124 = .ok (.getfield 184, 3) := by decide +kernel
theorem dX7_laws_127 : decode cX7_laws 127 = .ok (.iand, 1) := by decide +kernel
theorem dX7_laws_128 : decode cX7_laws 128 = .ok (.ifCond .eq 15, 3) := by decide +kernel
theorem dX7_laws_131 : decode cX7_laws 131 = .ok (.iload 5, 2) := by decide +kernel
theorem dX7_laws_133 : decode cX7_laws 133 = .ok (.ifCond .ne 7, 3) := by decide +kernel
theorem dX7_laws_136 : decode cX7_laws 136 = .ok (.iconst 0, 1) := by decide +kernel
theorem dX7_laws_137 : decode cX7_laws 137 = .ok (.goto 5, 3) := by decide +kernel
theorem dX7_laws_140 : decode cX7_laws 140 = .ok (.bipush (-9), 2) := by decide +kernel
theorem dX7_laws_142 : decode cX7_laws 142 = .ok (.ireturn, 1) := by decide +kernel
theorem dX7_laws_143 : decode cX7_laws 143 = .ok (.iload 5, 2) := by decide +kernel
theorem dX7_laws_145 : decode cX7_laws 145 = .ok (.ifCond .ne 23, 3) := by decide +kernel
theorem dX7_laws_148 : decode cX7_laws 148 = .ok (.iconst 1, 1) := by decide +kernel
theorem dX7_laws_149 : decode cX7_laws 149 = .ok (.bipush 8, 2) := by decide +kernel
theorem dX7_laws_151 : decode cX7_laws 151 = .ok (.aload_n 0, 1) := by decide +kernel
theorem dX7_laws_152 : decode cX7_laws 152 = .ok (.getfield 181, 3) := by decide +kernel
theorem dX7_laws_155 : decode cX7_laws 155 = .ok (.aload_n 0, 1) := by decide +kernel
theorem dX7_laws_156 : decode cX7_laws 156 = .ok (.getfield 184, 3) := by decide +kernel
theorem dX7_laws_159 : decode cX7_laws 159 = .ok (.ior, 1) := by decide +kernel
theorem dX7_laws_160 : decode cX7_laws 160 = .ok (.invokestatic 138, 3) := by decide +kernel
theorem dX7_laws_163 : decode cX7_laws 163 = .ok (.isub, 1) := by decide +kernel
theorem dX7_laws_164 : decode cX7_laws 164 = .ok (.ishl, 1) := by decide +kernel
theorem dX7_laws_165 : decode cX7_laws 165 = .ok (.goto 26, 3) := by decide +kernel
theorem dX7_laws_168 : decode cX7_laws 168 = .ok (.iload 5, 2) := by decide +kernel
theorem dX7_laws_170 : decode cX7_laws 170 = .ok (.iconst 1, 1) := by decide +kernel
theorem dX7_laws_171 : decode cX7_laws 171 = .ok (.if_icmp .ne 10, 3) := by decide +kernel
theorem dX7_laws_174 : decode cX7_laws 174 = .ok (.aload_n 0, 1) := by decide +kernel
theorem dX7_laws_175 : decode cX7_laws 175 = .ok (.getfield 181, 3) := by decide +kernel
theorem dX7_laws_178 : decode cX7_laws 178 = .ok (.goto 13, 3) := by decide +kernel
theorem dX7_laws_181 : decode cX7_laws 181 = .ok (.sipush 255, 3) := by decide +kernel
theorem dX7_laws_184 : decode cX7_laws 184 = .ok (.aload_n 0, 1) := by decide +kernel
theorem dX7_laws_185 : decode cX7_laws 185 = .ok (.getfield 184, 3) := by decide +kernel
theorem dX7_laws_188 : decode cX7_laws 188 = .ok (.iconst (-1), 1) := by decide +kernel
theorem dX7_laws_189 : decode cX7_laws 189 = .ok (.ixor, 1) := by decide +kernel
theorem dX7_laws_190 : decode cX7_laws 190 = .ok (.iand, 1) := by decide +kernel
theorem dX7_laws_191 : decode cX7_laws 191 = .ok (.ireturn, 1) := by decide +kernel
theorem dX7_reading_0 : decode cX7_reading 0 = .ok (.aload_n 0, 1) := by decide +kernel
theorem dX7_reading_1 : decode cX7_reading 1 = .ok (.iload_n 1, 1) := by decide +kernel
theorem dX7_reading_2 : decode cX7_reading 2 = .ok (.invokevirtual 132, 3) := by decide +kernel
theorem dX7_reading_5 : decode cX7_reading 5 = .ok (.ifCond .ne 5, 3) := by decide +kernel
theorem dX7_reading_8 : decode cX7_reading 8 = .ok (.iconst (-1), 1) := by decide +kernel
theorem dX7_reading_9 : decode cX7_reading 9 = .ok (.ireturn, 1) := by decide +kernel
theorem dX7_reading_10 : decode cX7_reading 10 = .ok (.iload_n 2, 1) := by decide +kernel
theorem dX7_reading_11 : decode cX7_reading 11 = .ok (.iconst 0, 1) := by decide +kernel
theorem dX7_reading_12 : decode cX7_reading 12 = .ok (.bipush 99, 2) := by decide +kernel
theorem dX7_reading_14 : decode cX7_reading 14 = .ok (.invokestatic 61, 3) := by decide +kernel
theorem dX7_reading_17 : decode cX7_reading 17 = .ok (.ifCond .eq 10, 3) := by decide +kernel
theorem dX7_reading_20 : decode cX7_reading 20 = .ok (.iload_n 3, 1) := by decide +kernel
theorem dX7_reading_21 : decode cX7_reading 21 = .ok (.invokestatic 141, 3) := by decide +kernel
theorem dX7_reading_24 : decode cX7_reading 24 = .ok (.ifCond .ne 6, 3) := by decide +kernel
theorem dX7_reading_27 : decode cX7_reading 27 = .ok (.bipush (-2), 2) := by decide +kernel
theorem dX7_reading_29 : decode cX7_reading 29 = .ok (.ireturn, 1) := by decide +kernel
theorem dX7_reading_30 : decode cX7_reading 30 = .ok (.aload_n 0, 1) := by decide +kernel
theorem dX7_reading_31 : decode cX7_reading 31 = .ok (.getfield 108, 3) := by decide +kernel
theorem dX7_reading_34 : decode cX7_reading 34 = .ok (.bipush 8, 2) := by decide +kernel
theorem dX7_reading_36 : decode cX7_reading 36 = .ok (.if_icmp .ne 6, 3) := by decide +kernel
theorem dX7_reading_39 : decode cX7_reading 39 = .ok (.bipush (-4), 2) := by decide +kernel
theorem dX7_reading_41 : decode cX7_reading 41 = .ok (.ireturn, 1) := by decide +kernel
theorem dX7_reading_42 : decode cX7_reading 42 = .ok (.aload_n 0, 1) := by decide +kernel
theorem dX7_reading_43 : decode cX7_reading 43 = .ok (.getfield 37, 3) := by decide +kernel
theorem dX7_reading_46 : decode cX7_reading 46 = .ok (.aload_n 0, 1) := by decide +kernel
theorem dX7_reading_47 : decode cX7_reading 47 = .ok (.getfield 108, 3) := by decide +kernel
theorem dX7_reading_50 : decode cX7_reading 50 = .ok (.iload_n 1, 1) := by decide +kernel
theorem dX7_reading_51 : decode cX7_reading 51 = .ok (.iastore, 1) := by decide +kernel
theorem dX7_reading_52 : decode cX7_reading 52 = .ok (.aload_n 0, 1) := by decide +kernel
theorem dX7_reading_53 : decode cX7_reading 53 = .ok (.getfield 40, 3) := by decide +kernel
theorem dX7_reading_56 : decode cX7_reading 56 = .ok (.aload_n 0, 1) := by decide +kernel
theorem dX7_reading_57 : decode cX7_reading 57 = .ok (.getfield 108, 3) := by decide +kernel
theorem dX7_reading_60 : decode cX7_reading 60 = .ok (.iload_n 2, 1) := by decide +kernel
theorem dX7_reading_61 : decode cX7_reading 61 = .ok (.iastore, 1) := by decide +kernel
theorem dX7_reading_62 : decode cX7_reading 62 = .ok (.aload_n 0, 1) := by decide +kernel
theorem dX7_reading_63 : decode cX7_reading 63 = .ok (.getfield 43, 3) := by decide +kernel
theorem dX7_reading_66 : decode cX7_reading 66 = .ok (.aload_n 0, 1) := by decide +kernel
theorem dX7_reading_67 : decode cX7_reading 67 = .ok (.getfield 108, 3) := by decide +kernel
theorem dX7_reading_70 : decode cX7_reading 70 = .ok (.iload_n 3, 1) := by decide +kernel
theorem dX7_reading_71 : decode cX7_reading 71 = .ok (.iastore, 1) := by decide +kernel
theorem dX7_reading_72 : decode cX7_reading 72 = .ok (.aload_n 0, 1) := by decide +kernel
theorem dX7_reading_73 : decode cX7_reading 73 = .ok (.dup, 1) := by decide +kernel
theorem dX7_reading_74 : decode cX7_reading 74 = .ok (.getfield 108, 3) := by decide +kernel
theorem dX7_reading_77 : decode cX7_reading 77 = .ok (.iconst 1, 1) := by decide +kernel
theorem dX7_reading_78 : decode cX7_reading 78 = .ok (.iadd, 1) := by decide +kernel
theorem dX7_reading_79 : decode cX7_reading 79 = .ok (.putfield 108, 3) := by decide +kernel
theorem dX7_reading_82 : decode cX7_reading 82 = .ok (.aload_n 0, 1) := by decide +kernel
theorem dX7_reading_83 : decode cX7_reading 83 = .ok (.getfield 108, 3) := by decide +kernel
theorem dX7_reading_86 : decode cX7_reading 86 = .ok (.iconst 1, 1) := by decide +kernel
theorem dX7_reading_87 : decode cX7_reading 87 = .ok (.isub, 1) := by decide +kernel
theorem dX7_reading_88 : decode cX7_reading 88 = .ok (.ireturn, 1) := by decide +kernel
theorem dX7_back_0 : decode cX7_back 0 = .ok (.iload_n 1, 1) := by decide +kernel
theorem dX7_back_1 : decode cX7_back 1 = .ok (.iconst 0, 1) := by decide +kernel
theorem dX7_back_2 : decode cX7_back 2 = .ok (.aload_n 0, 1) := by decide +kernel
theorem dX7_back_3 : decode cX7_back 3 = .ok (.getfield 108, 3) := by decide +kernel
theorem dX7_back_6 : decode cX7_back 6 = .ok (.invokestatic 61, 3) := by decide +kernel
theorem dX7_back_9 : decode cX7_back 9 = .ok (.ifCond .ne 6, 3) := by decide +kernel
theorem dX7_back_12 : decode cX7_back 12 = .ok (.bipush (-2), 2) := by decide +kernel
theorem dX7_back_14 : decode cX7_back 14 = .ok (.ireturn, 1) := by decide +kernel
