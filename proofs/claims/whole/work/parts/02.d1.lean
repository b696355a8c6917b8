theorem dX5_answer_0 : decode cX5_answer 0 = .ok (.iload_n 1, 1) := by decide +kernel
theorem dX5_answer_1 : decode cX5_answer 1 = .ok (.iconst 1, 1) := by decide +kernel
theorem dX5_answer_2 : decode cX5_answer 2 = .ok (.if_icmp .ne 8, 3) := by decide +kernel
theorem dX5_answer_5 : decode cX5_answer 5 = .ok (.aload_n 0, 1) := by decide +kernel
theorem dX5_answer_6 : decode cX5_answer 6 = .ok (.getfield 45, 3) := by decide +kernel
theorem dX5_answer_9 : decode cX5_answer 9 = .ok (.ireturn, 1) := by decide +kernel
theorem dX5_answer_10 : decode cX5_answer 10 = .ok (.aload_n 0, 1) := by decide +kernel
theorem dX5_answer_11 : decode cX5_answer 11 = .ok (.getfield 45, 3) := by decide +kernel
theorem dX5_answer_14 : decode cX5_answer 14 = .ok (.bipush (-9), 2) := by decide +kernel
theorem dX5_answer_16 : decode cX5_answer 16 = .ok (.if_icmp .eq 11, 3) := by decide +kernel
theorem dX5_answer_19 : decode cX5_answer 19 = .ok (.bipush (-100), 2) := by decide +kernel
theorem dX5_answer_21 : decode cX5_answer 21 = .ok (.aload_n 0, 1) := by decide +kernel
theorem dX5_answer_22 : decode cX5_answer 22 = .ok (.getfield 45, 3) := by decide +kernel
theorem dX5_answer_25 : decode cX5_answer 25 = .ok (.isub, 1) := by decide +kernel
theorem dX5_answer_26 : decode cX5_answer 26 = .ok (.ireturn, 1) := by decide +kernel
theorem dX5_answer_27 : decode cX5_answer 27 = .ok (.iload_n 1, 1) := by decide +kernel
theorem dX5_answer_28 : decode cX5_answer 28 = .ok (.tableswitch 70 0 4 #[36, 70, 44, 52, 65], 36) := by decide +kernel
theorem dX5_answer_64 : decode cX5_answer 64 = .ok (.aload_n 0, 1) := by decide +kernel
theorem dX5_answer_65 : decode cX5_answer 65 = .ok (.getfield 12, 3) := by decide +kernel
theorem dX5_answer_68 : decode cX5_answer 68 = .ok (.getfield 77, 3) := by decide +kernel
theorem dX5_answer_71 : decode cX5_answer 71 = .ok (.ireturn, 1) := by decide +kernel
theorem dX5_answer_72 : decode cX5_answer 72 = .ok (.aload_n 0, 1) := by decide +kernel
theorem dX5_answer_73 : decode cX5_answer 73 = .ok (.getfield 12, 3) := by decide +kernel
theorem dX5_answer_76 : decode cX5_answer 76 = .ok (.invokevirtual 80, 3) := by decide +kernel
theorem dX5_answer_79 : decode cX5_answer 79 = .ok (.ireturn, 1) := by decide +kernel
theorem dX5_answer_80 : decode cX5_answer 80 = .ok (.aload_n 0, 1) := by decide +kernel
theorem dX5_answer_81 : decode cX5_answer 81 = .ok (.getfield 12, 3) := by decide +kernel
theorem dX5_answer_84 : decode cX5_answer 84 = .ok (.getfield 38, 3) := by decide +kernel
theorem dX5_answer_87 : decode cX5_answer 87 = .ok (.aload_n 0, 1) := by decide +kernel
theorem dX5_answer_88 : decode cX5_answer 88 = .ok (.getfield 42, 3) := by decide +kernel
theorem dX5_answer_91 : decode cX5_answer 91 = .ok (.isub, 1) := by decide +kernel
theorem dX5_answer_92 : decode cX5_answer 92 = .ok (.ireturn, 1) := by decide +kernel
theorem dX5_answer_93 : decode cX5_answer 93 = .ok (.aload_n 0, 1) := by decide +kernel
theorem dX5_answer_94 : decode cX5_answer 94 = .ok (.getfield 48, 3) := by decide +kernel
theorem dX5_answer_97 : decode cX5_answer 97 = .ok (.ireturn, 1) := by decide +kernel
theorem dX5_answer_98 : decode cX5_answer 98 = .ok (.aload_n 0, 1) := by decide +kernel
theorem dX5_answer_99 : decode cX5_answer 99 = .ok (.getfield 12, 3) := by decide +kernel
theorem dX5_answer_102 : decode cX5_answer 102 = .ok (.iload_n 1, 1) := by decide +kernel
theorem dX5_answer_103 : decode cX5_answer 103 = .ok (.bipush 10, 2) := by decide +kernel
theorem dX5_answer_105 : decode cX5_answer 105 = .ok (.isub, 1) := by decide +kernel
theorem dX5_answer_106 : decode cX5_answer 106 = .ok (.invokevirtual 28, 3) := by decide +kernel
theorem dX5_answer_109 : decode cX5_answer 109 = .ok (.ifCond .eq 18, 3) := by decide +kernel
theorem dX5_answer_112 : decode cX5_answer 112 = .ok (.aload_n 0, 1) := by decide +kernel
theorem dX5_answer_113 : decode cX5_answer 113 = .ok (.getfield 12, 3) := by decide +kernel
theorem dX5_answer_116 : decode cX5_answer 116 = .ok (.getfield 84, 3) := by decide +kernel
theorem dX5_answer_119 : decode cX5_answer 119 = .ok (.iload_n 1, 1) := by decide +kernel
theorem dX5_answer_120 : decode cX5_answer 120 = .ok (.bipush 10, 2) := by decide +kernel
theorem dX5_answer_122 : decode cX5_answer 122 = .ok (.isub, 1) := by decide +kernel
theorem dX5_answer_123 : decode cX5_answer 123 = .ok (.iaload, 1) := by decide +kernel
theorem dX5_answer_124 : decode cX5_answer 124 = .ok (.goto 5, 3) := by decide +kernel
theorem dX5_answer_127 : decode cX5_answer 127 = .ok (.bipush (-9), 2) := by decide +kernel
theorem dX5_answer_129 : decode cX5_answer 129 = .ok (.ireturn, 1) := by decide +kernel
theorem dX6_init_0 : decode cX6_init 0 = .ok (.aload_n 0, 1) := by decide +kernel
theorem dX6_init_1 : decode cX6_init 1 = .ok (.invokespecial 3, 3) := by decide +kernel
theorem dX6_init_4 : decode cX6_init 4 = .ok (.aload_n 0, 1) := by decide +kernel
theorem dX6_init_5 : decode cX6_init 5 = .ok (.new 9, 3) := by decide +kernel
theorem dX6_init_8 : decode cX6_init 8 = .ok (.dup, 1) := by decide +kernel
theorem dX6_init_9 : decode cX6_init 9 = .ok (.invokespecial 11, 3) := by decide +kernel
theorem dX6_init_12 : decode cX6_init 12 = .ok (.putfield 12, 3) := by decide +kernel
theorem dX6_init_15 : decode cX6_init 15 = .ok (.aload_n 0, 1) := by decide +kernel
theorem dX6_init_16 : decode cX6_init 16 = .ok (.new 18, 3) := by decide +kernel
theorem dX6_init_19 : decode cX6_init 19 = .ok (.dup, 1) := by decide +kernel
theorem dX6_init_20 : decode cX6_init 20 = .ok (.invokespecial 20, 3) := by decide +kernel
theorem dX6_init_23 : decode cX6_init 23 = .ok (.putfield 21, 3) := by decide +kernel
theorem dX6_init_26 : decode cX6_init 26 = .ok (.aload_n 0, 1) := by decide +kernel
theorem dX6_init_27 : decode cX6_init 27 = .ok (.new 18, 3) := by decide +kernel
theorem dX6_init_30 : decode cX6_init 30 = .ok (.dup, 1) := by decide +kernel
theorem dX6_init_31 : decode cX6_init 31 = .ok (.invokespecial 20, 3) := by decide +kernel
theorem dX6_init_34 : decode cX6_init 34 = .ok (.putfield 25, 3) := by decide +kernel
theorem dX6_init_37 : decode cX6_init 37 = .ok (.aload_n 0, 1) := by decide +kernel
theorem dX6_init_38 : decode cX6_init 38 = .ok (.new 28, 3) := by decide +kernel
theorem dX6_init_41 : decode cX6_init 41 = .ok (.dup, 1) := by decide +kernel
theorem dX6_init_42 : decode cX6_init 42 = .ok (.invokespecial 30, 3) := by decide +kernel
theorem dX6_init_45 : decode cX6_init 45 = .ok (.putfield 31, 3) := by decide +kernel
theorem dX6_init_48 : decode cX6_init 48 = .ok (.aload_n 0, 1) := by decide +kernel
theorem dX6_init_49 : decode cX6_init 49 = .ok (.new 35, 3) := by decide +kernel
theorem dX6_init_52 : decode cX6_init 52 = .ok (.dup, 1) := by decide +kernel
theorem dX6_init_53 : decode cX6_init 53 = .ok (.invokespecial 37, 3) := by decide +kernel
theorem dX6_init_56 : decode cX6_init 56 = .ok (.putfield 38, 3) := by decide +kernel
theorem dX6_init_59 : decode cX6_init 59 = .ok (.aload_n 0, 1) := by decide +kernel
theorem dX6_init_60 : decode cX6_init 60 = .ok (.iconst 4, 1) := by decide +kernel
theorem dX6_init_61 : decode cX6_init 61 = .ok (.anewarray 42, 3) := by decide +kernel
theorem dX6_init_64 : decode cX6_init 64 = .ok (.putfield 44, 3) := by decide +kernel
theorem dX6_init_67 : decode cX6_init 67 = .ok (.iconst 0, 1) := by decide +kernel
theorem dX6_init_68 : decode cX6_init 68 = .ok (.istore_n 1, 1) := by decide +kernel
theorem dX6_init_69 : decode cX6_init 69 = .ok (.iload_n 1, 1) := by decide +kernel
theorem dX6_init_70 : decode cX6_init 70 = .ok (.iconst 4, 1) := by decide +kernel
theorem dX6_init_71 : decode cX6_init 71 = .ok (.if_icmp .ge 22, 3) := by decide +kernel
theorem dX6_init_74 : decode cX6_init 74 = .ok (.aload_n 0, 1) := by decide +kernel
theorem dX6_init_75 : decode cX6_init 75 = .ok (.getfield 44, 3) := by decide +kernel
theorem dX6_init_78 : decode cX6_init 78 = .ok (.iload_n 1, 1) := by decide +kernel
theorem dX6_init_79 : decode cX6_init 79 = .ok (.new 42, 3) := by decide +kernel
theorem dX6_init_82 : decode cX6_init 82 = .ok (.dup, 1) := by decide +kernel
theorem dX6_init_83 : decode cX6_init 83 = .ok (.invokespecial 48, 3) := by decide +kernel
theorem dX6_init_86 : decode cX6_init 86 = .ok (.aastore, 1) := by decide +kernel
theorem dX6_init_87 : decode cX6_init 87 = .ok (.iinc 1 1, 3) := by decide +kernel
theorem dX6_init_90 : decode cX6_init 90 = .ok (.goto (-21), 3) := by decide +kernel
theorem dX6_init_93 : decode cX6_init 93 = .ok (.return_, 1) := by decide +kernel
theorem dX6_garden_0 : decode cX6_garden 0 = .ok (.iload_n 1, 1) := by decide +kernel
theorem dX6_garden_1 : decode cX6_garden 1 = .ok (.invokestatic 49, 3) := by decide +kernel
theorem dX6_garden_4 : decode cX6_garden 4 = .ok (.ifCond .ne 9, 3) := by decide +kernel
theorem dX6_garden_7 : decode cX6_garden 7 = .ok (.aload_n 0, 1) := by decide +kernel
theorem dX6_garden_8 : decode cX6_garden 8 = .ok (.iconst (-1), 1) := by decide +kernel
theorem dX6_garden_9 : decode cX6_garden 9 = .ok (.invokevirtual 53, 3) := by decide +kernel
theorem dX6_garden_12 : decode cX6_garden 12 = .ok (.ireturn, 1) := by decide +kernel
theorem dX6_garden_13 : decode cX6_garden 13 = .ok (.iload_n 2, 1) := by decide +kernel
theorem dX6_garden_14 : decode cX6_garden 14 = .ok (.invokestatic 57, 3) := by decide +kernel
theorem dX6_garden_17 : decode cX6_garden 17 = .ok (.ifCond .ne 10, 3) := by decide +kernel
theorem dX6_garden_20 : decode cX6_garden 20 = .ok (.aload_n 0, 1) := by decide +kernel
theorem dX6_garden_21 : decode cX6_garden 21 = .ok (.bipush (-2), 2) := by decide +kernel
theorem dX6_garden_23 : decode cX6_garden 23 = .ok (.invokevirtual 53, 3) := by decide +kernel
theorem dX6_garden_26 : decode cX6_garden 26 = .ok (.ireturn, 1) := by decide +kernel
theorem dX6_garden_27 : decode cX6_garden 27 = .ok (.aload_n 0, 1) := by decide +kernel
theorem dX6_garden_28 : decode cX6_garden 28 = .ok (.getfield 44, 3) := by decide +kernel
theorem dX6_garden_31 : decode cX6_garden 31 = .ok (.iload_n 1, 1) := by decide +kernel
theorem dX6_garden_32 : decode cX6_garden 32 = .ok (.aaload, 1) := by decide +kernel
theorem dX6_garden_33 : decode cX6_garden 33 = .ok (.astore 5, 2) := by decide +kernel
theorem dX6_garden_35 : decode cX6_garden 35 = .ok (.aload 5, 2) := by decide +kernel
theorem dX6_garden_37 : decode cX6_garden 37 = .ok (.iload_n 2, 1) := by decide +kernel
theorem dX6_garden_38 : decode cX6_garden 38 = .ok (.iload_n 3, 1) := by decide +kernel
theorem dX6_garden_39 : decode cX6_garden 39 = .ok (.iload 4, 2) := by decide +kernel
theorem dX6_garden_41 : decode cX6_garden 41 = .ok (.invokevirtual 60, 3) := by decide +kernel
theorem dX6_garden_44 : decode cX6_garden 44 = .ok (.istore 6, 2) := by decide +kernel
theorem dX6_garden_46 : decode cX6_garden 46 = .ok (.iload 6, 2) := by decide +kernel
theorem dX6_garden_48 : decode cX6_garden 48 = .ok (.ifCond .eq 10, 3) := by decide +kernel
theorem dX6_garden_51 : decode cX6_garden 51 = .ok (.aload_n 0, 1) := by decide +kernel
theorem dX6_garden_52 : decode cX6_garden 52 = .ok (.iload 6, 2) := by decide +kernel
theorem dX6_garden_54 : decode cX6_garden 54 = .ok (.invokevirtual 64, 3) := by decide +kernel
theorem dX6_garden_57 : decode cX6_garden 57 = .ok (.ireturn, 1) := by decide +kernel
theorem dX6_garden_58 : decode cX6_garden 58 = .ok (.aload 5, 2) := by decide +kernel
theorem dX6_garden_60 : decode cX6_garden 60 = .ok (.iload_n 3, 1) := by decide +kernel
theorem dX6_garden_61 : decode cX6_garden 61 = .ok (.iload 4, 2) := by decide +kernel
theorem dX6_garden_63 : decode cX6_garden 63 = .ok (.invokestatic 67, 3) := by decide +kernel
theorem dX6_garden_66 : decode cX6_garden 66 = .ok (.istore 7, 2) := by decide +kernel
theorem dX6_garden_68 : decode cX6_garden 68 = .ok (.iload 7, 2) := by decide +kernel
theorem dX6_garden_70 : decode cX6_garden 70 = .ok (.bipush (-9), 2) := by decide +kernel
theorem dX6_garden_72 : decode cX6_garden 72 = .ok (.if_icmp .eq 13, 3) := by decide +kernel
theorem dX6_garden_75 : decode cX6_garden 75 = .ok (.aload_n 0, 1) := by decide +kernel
theorem dX6_garden_76 : decode cX6_garden 76 = .ok (.bipush (-100), 2) := by decide +kernel
theorem dX6_garden_78 : decode cX6_garden 78 = .ok (.iload 7, 2) := by decide +kernel
theorem dX6_garden_80 : decode cX6_garden 80 = .ok (.isub, 1) := by decide +kernel
theorem dX6_garden_81 : decode cX6_garden 81 = .ok (.invokevirtual 53, 3) := by decide +kernel
theorem dX6_garden_84 : decode cX6_garden 84 = .ok (.ireturn, 1) := by decide +kernel
theorem dX6_garden_85 : decode cX6_garden 85 = .ok (.aload_n 0, 1) := by decide +kernel
theorem dX6_garden_86 : decode cX6_garden 86 = .ok (.getfield 12, 3) := by decide +kernel
theorem dX6_garden_89 : decode cX6_garden 89 = .ok (.aload 5, 2) := by decide +kernel
theorem dX6_garden_91 : decode cX6_garden 91 = .ok (.iload_n 3, 1) := by decide +kernel
theorem dX6_garden_92 : decode cX6_garden 92 = .ok (.invokestatic 73, 3) := by decide +kernel
theorem dX6_garden_95 : decode cX6_garden 95 = .ok (.invokevirtual 77, 3) := by decide +kernel
theorem dX6_garden_98 : decode cX6_garden 98 = .ok (.aload_n 0, 1) := by decide +kernel
theorem dX6_garden_99 : decode cX6_garden 99 = .ok (.getfield 21, 3) := by decide +kernel
theorem dX6_garden_102 : decode cX6_garden 102 = .ok (.aload 5, 2) := by decide +kernel
theorem dX6_garden_104 : decode cX6_garden 104 = .ok (.iload_n 3, 1) := by decide +kernel
theorem dX6_garden_105 : decode cX6_garden 105 = .ok (.iload 4, 2) := by decide +kernel
theorem dX6_garden_107 : decode cX6_garden 107 = .ok (.invokevirtual 81, 3) := by decide +kernel
theorem dX6_garden_110 : decode cX6_garden 110 = .ok (.aload_n 0, 1) := by decide +kernel
theorem dX6_garden_111 : decode cX6_garden 111 = .ok (.getfield 38, 3) := by decide +kernel
theorem dX6_garden_114 : decode cX6_garden 114 = .ok (.invokevirtual 85, 3) := by decide +kernel
theorem dX6_garden_117 : decode cX6_garden 117 = .ok (.aload_n 0, 1) := by decide +kernel
theorem dX6_garden_118 : decode cX6_garden 118 = .ok (.aload_n 0, 1) := by decide +kernel
theorem dX6_garden_119 : decode cX6_garden 119 = .ok (.getfield 21, 3) := by decide +kernel
theorem dX6_garden_122 : decode cX6_garden 122 = .ok (.getfield 88, 3) := by decide +kernel
theorem dX6_garden_125 : decode cX6_garden 125 = .ok (.invokevirtual 53, 3) := by decide +kernel
theorem dX6_garden_128 : decode cX6_garden 128 = .ok (.ireturn, 1) := by decide +kernel
theorem dX6_ofBlock_0 : decode cX6_ofBlock 0 = .ok (.aload_n 0, 1) := by decide +kernel
theorem dX6_ofBlock_1 : decode cX6_ofBlock 1 = .ok (.getfield 21, 3) := by decide +kernel
theorem dX6_ofBlock_4 : decode cX6_ofBlock 4 = .ok (.iload_n 1, 1) := by decide +kernel
theorem dX6_ofBlock_5 : decode cX6_ofBlock 5 = .ok (.invokevirtual 92, 3) := by decide +kernel
theorem dX6_ofBlock_8 : decode cX6_ofBlock 8 = .ok (.ifCond .ne 5, 3) := by decide +kernel
theorem dX6_ofBlock_11 : decode cX6_ofBlock 11 = .ok (.iconst (-1), 1) := by decide +kernel
theorem dX6_ofBlock_12 : decode cX6_ofBlock 12 = .ok (.ireturn, 1) := by decide +kernel
theorem dX6_ofBlock_13 : decode cX6_ofBlock 13 = .ok (.iload_n 2, 1) := by decide +kernel
theorem dX6_ofBlock_14 : decode cX6_ofBlock 14 = .ok (.tableswitch 107 0 5 #[38, 48, 58, 68, 77, 94], 38) := by decide +kernel
theorem dX6_ofBlock_52 : decode cX6_ofBlock 52 = .ok (.aload_n 0, 1) := by decide +kernel
theorem dX6_ofBlock_53 : decode cX6_ofBlock 53 = .ok (.getfield 21, 3) := by decide +kernel
theorem dX6_ofBlock_56 : decode cX6_ofBlock 56 = .ok (.getfield 95, 3) := by decide +kernel
theorem dX6_ofBlock_59 : decode cX6_ofBlock 59 = .ok (.iload_n 1, 1) := by decide +kernel
theorem dX6_ofBlock_60 : decode cX6_ofBlock 60 = .ok (.iaload, 1) := by decide +kernel
theorem dX6_ofBlock_61 : decode cX6_ofBlock 61 = .ok (.ireturn, 1) := by decide +kernel
theorem dX6_ofBlock_62 : decode cX6_ofBlock 62 = .ok (.aload_n 0, 1) := by decide +kernel
theorem dX6_ofBlock_63 : decode cX6_ofBlock 63 = .ok (.getfield 21, 3) := by decide +kernel
theorem dX6_ofBlock_66 : decode cX6_ofBlock 66 = .ok (.getfield 99, 3) := by decide +kernel
theorem dX6_ofBlock_69 : decode cX6_ofBlock 69 = .ok (.iload_n 1, 1) := by decide +kernel
theorem dX6_ofBlock_70 : decode cX6_ofBlock 70 = .ok (.iaload, 1) := by decide +kernel
theorem dX6_ofBlock_71 : decode cX6_ofBlock 71 = .ok (.ireturn, 1) := by decide +kernel
theorem dX6_ofBlock_72 : decode cX6_ofBlock 72 = .ok (.aload_n 0, 1) := by decide +kernel
theorem dX6_ofBlock_73 : decode cX6_ofBlock 73 = .ok (.getfield 21, 3) := by decide +kernel
theorem dX6_ofBlock_76 : decode cX6_ofBlock 76 = .ok (.getfield 102, 3) := by decide +kernel
theorem dX6_ofBlock_79 : decode cX6_ofBlock 79 = .ok (.iload_n 1, 1) := by decide +kernel
theorem dX6_ofBlock_80 : decode cX6_ofBlock 80 = .ok (.iaload, 1) := by decide +kernel
theorem dX6_ofBlock_81 : decode cX6_ofBlock 81 = .ok (.ireturn, 1) := by decide +kernel
theorem dX6_ofBlock_82 : decode cX6_ofBlock 82 = .ok (.aload_n 0, 1) := by decide +kernel
theorem dX6_ofBlock_83 : decode cX6_ofBlock 83 = .ok (.getfield 21, 3) := by decide +kernel
theorem dX6_ofBlock_86 : decode cX6_ofBlock 86 = .ok (.iload_n 1, 1) := by decide +kernel
theorem dX6_ofBlock_87 : decode cX6_ofBlock 87 = .ok (.invokevirtual 105, 3) := by decide +kernel
theorem dX6_ofBlock_90 : decode cX6_ofBlock 90 = .ok (.ireturn, 1) := by decide +kernel
theorem dX6_ofBlock_91 : decode cX6_ofBlock 91 = .ok (.aload_n 0, 1) := by decide +kernel
theorem dX6_ofBlock_92 : decode cX6_ofBlock 92 = .ok (.getfield 21, 3) := by decide +kernel
theorem dX6_ofBlock_95 : decode cX6_ofBlock 95 = .ok (.iload_n 1, 1) := by decide +kernel
theorem dX6_ofBlock_96 : decode cX6_ofBlock 96 = .ok (.invokevirtual 108, 3) := by decide +kernel
theorem dX6_ofBlock_99 : decode cX6_ofBlock 99 = .ok (.ifCond .eq 7, 3) := by decide +kernel
theorem dX6_ofBlock_102 : decode cX6_ofBlock 102 = .ok (.iconst 1, 1) := by decide +kernel
theorem dX6_ofBlock_103 : decode cX6_ofBlock 103 = .ok (.goto 4, 3) := by decide +kernel
theorem dX6_ofBlock_106 : decode cX6_ofBlock 106 = .ok (.iconst 0, 1) := by decide +kernel
theorem dX6_ofBlock_107 : decode cX6_ofBlock 107 = .ok (.ireturn, 1) := by decide +kernel
theorem dX6_ofBlock_108 : decode cX6_ofBlock 108 = .ok (.aload_n 0, 1) := by decide +kernel
theorem dX6_ofBlock_109 : decode cX6_ofBlock 109 = .ok (.getfield 21, 3) := by decide +kernel
theorem dX6_ofBlock_112 : decode cX6_ofBlock 112 = .ok (.getfield 99, 3) := by decide +kernel
theorem dX6_ofBlock_115 : decode cX6_ofBlock 115 = .ok (.iload_n 1, 1) := by decide +kernel
theorem dX6_ofBlock_116 : decode cX6_ofBlock 116 = .ok (.iaload, 1) := by decide +kernel
theorem dX6_ofBlock_117 : decode cX6_ofBlock 117 = .ok (.invokestatic 111, 3) := by decide +kernel
theorem dX6_ofBlock_120 : decode cX6_ofBlock 120 = .ok (.ireturn, 1) := by decide +kernel
theorem dX6_ofBlock_121 : decode cX6_ofBlock 121 = .ok (.bipush (-2), 2) := by decide +kernel
theorem dX6_ofBlock_123 : decode cX6_ofBlock 123 = .ok (.ireturn, 1) := by decide +kernel
theorem dX6_becomes_0 : decode cX6_becomes 0 = .ok (.aload_n 0, 1) := by decide +kernel
theorem dX6_becomes_1 : decode cX6_becomes 1 = .ok (.iload_n 1, 1) := by decide +kernel
theorem dX6_becomes_2 : decode cX6_becomes 2 = .ok (.invokevirtual 116, 3) := by decide +kernel
theorem dX6_becomes_5 : decode cX6_becomes 5 = .ok (.istore_n 2, 1) := by decide +kernel
theorem dX6_becomes_6 : decode cX6_becomes 6 = .ok (.iload_n 2, 1) := by decide +kernel
theorem dX6_becomes_7 : decode cX6_becomes 7 = .ok (.ifCond .eq 7, 3) := by decide +kernel
theorem dX6_becomes_10 : decode cX6_becomes 10 = .ok (.iload_n 2, 1) := by decide +kernel
theorem dX6_becomes_11 : decode cX6_becomes 11 = .ok (.goto 12, 3) := by decide +kernel
theorem dX6_becomes_14 : decode cX6_becomes 14 = .ok (.aload_n 0, 1) := by decide +kernel
theorem dX6_becomes_15 : decode cX6_becomes 15 = .ok (.getfield 12, 3) := by decide +kernel
theorem dX6_becomes_18 : decode cX6_becomes 18 = .ok (.iload_n 1, 1) := by decide +kernel
theorem dX6_becomes_19 : decode cX6_becomes 19 = .ok (.iconst 1, 1) := by decide +kernel
theorem dX6_becomes_20 : decode cX6_becomes 20 = .ok (.invokevirtual 119, 3) := by decide +kernel
theorem dX6_becomes_23 : decode cX6_becomes 23 = .ok (.ireturn, 1) := by decide +kernel
theorem dX6_enact_0 : decode cX6_enact 0 = .ok (.iload_n 1, 1) := by decide +kernel
theorem dX6_enact_1 : decode cX6_enact 1 = .ok (.ifCond .lt 10, 3) := by decide +kernel
theorem dX6_enact_4 : decode cX6_enact 4 = .ok (.iload_n 1, 1) := by decide +kernel
theorem dX6_enact_5 : decode cX6_enact 5 = .ok (.sipush 256, 3) := by decide +kernel
theorem dX6_enact_8 : decode cX6_enact 8 = .ok (.if_icmp .lt 6, 3) := by decide +kernel
theorem dX6_enact_11 : decode cX6_enact 11 = .ok (.bipush (-2), 2) := by decide +kernel
theorem dX6_enact_13 : decode cX6_enact 13 = .ok (.ireturn, 1) := by decide +kernel
theorem dX6_enact_14 : decode cX6_enact 14 = .ok (.aload_n 0, 1) := by decide +kernel
theorem dX6_enact_15 : decode cX6_enact 15 = .ok (.invokevirtual 123, 3) := by decide +kernel
theorem dX6_enact_18 : decode cX6_enact 18 = .ok (.ifCond .ne 6, 3) := by decide +kernel
theorem dX6_enact_21 : decode cX6_enact 21 = .ok (.bipush (-3), 2) := by decide +kernel
theorem dX6_enact_23 : decode cX6_enact 23 = .ok (.ireturn, 1) := by decide +kernel
theorem dX6_enact_24 : decode cX6_enact 24 = .ok (.aload_n 0, 1) := by decide +kernel
theorem dX6_enact_25 : decode cX6_enact 25 = .ok (.getfield 12, 3) := by decide +kernel
theorem dX6_enact_28 : decode cX6_enact 28 = .ok (.getfield 127, 3) := by decide +kernel
theorem dX6_enact_31 : decode cX6_enact 31 = .ok (.istore_n 2, 1) := by decide +kernel
theorem dX6_enact_32 : decode cX6_enact 32 = .ok (.aload_n 0, 1) := by decide +kernel
theorem dX6_enact_33 : decode cX6_enact 33 = .ok (.getfield 12, 3) := by decide +kernel
theorem dX6_enact_36 : decode cX6_enact 36 = .ok (.iload_n 1, 1) := by decide +kernel
theorem dX6_enact_37 : decode cX6_enact 37 = .ok (.invokevirtual 77, 3) := by decide +kernel
theorem dX6_enact_40 : decode cX6_enact 40 = .ok (.iload_n 2, 1) := by decide +kernel
theorem dX6_enact_41 : decode cX6_enact 41 = .ok (.ireturn, 1) := by decide +kernel
theorem dX6_hurry_0 : decode cX6_hurry 0 = .ok (.aload_n 0, 1) := by decide +kernel
theorem dX6_hurry_1 : decode cX6_hurry 1 = .ok (.getfield 21, 3) := by decide +kernel
theorem dX6_hurry_4 : decode cX6_hurry 4 = .ok (.iload_n 1, 1) := by decide +kernel
theorem dX6_hurry_5 : decode cX6_hurry 5 = .ok (.invokevirtual 92, 3) := by decide +kernel
theorem dX6_hurry_8 : decode cX6_hurry 8 = .ok (.ifCond .ne 5, 3) := by decide +kernel
theorem dX6_hurry_11 : decode cX6_hurry 11 = .ok (.iconst (-1), 1) := by decide +kernel
theorem dX6_hurry_12 : decode cX6_hurry 12 = .ok (.ireturn, 1) := by decide +kernel
theorem dX6_hurry_13 : decode cX6_hurry 13 = .ok (.iload_n 2, 1) := by decide +kernel
theorem dX6_hurry_14 : decode cX6_hurry 14 = .ok (.iconst 1, 1) := by decide +kernel
theorem dX6_hurry_15 : decode cX6_hurry 15 = .ok (.if_icmp .lt 8, 3) := by decide +kernel
theorem dX6_hurry_18 : decode cX6_hurry 18 = .ok (.iload_n 2, 1) := by decide +kernel
theorem dX6_hurry_19 : decode cX6_hurry 19 = .ok (.iconst 4, 1) := by decide +kernel
theorem dX6_hurry_20 : decode cX6_hurry 20 = .ok (.if_icmp .le 6, 3) := by decide +kernel
theorem dX6_hurry_23 : decode cX6_hurry 23 = .ok (.bipush (-2), 2) := by decide +kernel
theorem dX6_hurry_25 : decode cX6_hurry 25 = .ok (.ireturn, 1) := by decide +kernel
theorem dX6_hurry_26 : decode cX6_hurry 26 = .ok (.aload_n 0, 1) := by decide +kernel
theorem dX6_hurry_27 : decode cX6_hurry 27 = .ok (.getfield 21, 3) := by decide +kernel
theorem dX6_hurry_30 : decode cX6_hurry 30 = .ok (.getfield 102, 3) := by decide +kernel
theorem dX6_hurry_33 : decode cX6_hurry 33 = .ok (.iload_n 1, 1) := by decide +kernel
theorem dX6_hurry_34 : decode cX6_hurry 34 = .ok (.iaload, 1) := by decide +kernel
theorem dX6_hurry_35 : decode cX6_hurry 35 = .ok (.istore_n 3, 1) := by decide +kernel
theorem dX6_hurry_36 : decode cX6_hurry 36 = .ok (.aload_n 0, 1) := by decide +kernel
theorem dX6_hurry_37 : decode cX6_hurry 37 = .ok (.getfield 21, 3) := by decide +kernel
theorem dX6_hurry_40 : decode cX6_hurry 40 = .ok (.getfield 102, 3) := by decide +kernel
theorem dX6_hurry_43 : decode cX6_hurry 43 = .ok (.iload_n 1, 1) := by decide +kernel
theorem dX6_hurry_44 : decode cX6_hurry 44 = .ok (.iload_n 2, 1) := by decide +kernel
theorem dX6_hurry_45 : decode cX6_hurry 45 = .ok (.iastore, 1) := by decide +kernel
theorem dX6_hurry_46 : decode cX6_hurry 46 = .ok (.iload_n 3, 1) := by decide +kernel
theorem dX6_hurry_47 : decode cX6_hurry 47 = .ok (.ireturn, 1) := by decide +kernel
theorem dX6_days_0 : decode cX6_days 0 = .ok (.iload_n 1, 1) := by decide +kernel
theorem dX6_days_1 : decode cX6_days 1 = .ok (.iconst 1, 1) := by decide +kernel
theorem dX6_days_2 : decode cX6_days 2 = .ok (.if_icmp .lt 10, 3) := by decide +kernel
theorem dX6_days_5 : decode cX6_days 5 = .ok (.iload_n 1, 1) := by decide +kernel
theorem dX6_days_6 : decode cX6_days 6 = .ok (.sipush 300, 3) := by decide +kernel
theorem dX6_days_9 : decode cX6_days 9 = .ok (.if_icmp .le 6, 3) := by decide +kernel
theorem dX6_days_12 : decode cX6_days 12 = .ok (.bipush (-2), 2) := by decide +kernel
theorem dX6_days_14 : decode cX6_days 14 = .ok (.ireturn, 1) := by decide +kernel
theorem dX6_days_15 : decode cX6_days 15 = .ok (.aload_n 0, 1) := by decide +kernel
theorem dX6_days_16 : decode cX6_days 16 = .ok (.invokevirtual 123, 3) := by decide +kernel
theorem dX6_days_19 : decode cX6_days 19 = .ok (.ifCond .ne 6, 3) := by decide +kernel
theorem dX6_days_22 : decode cX6_days 22 = .ok (.bipush (-3), 2) := by decide +kernel
theorem dX6_days_24 : decode cX6_days 24 = .ok (.ireturn, 1) := by decide +kernel
theorem dX6_days_25 : decode cX6_days 25 = .ok (.aload_n 0, 1) := by decide +kernel
theorem dX6_days_26 : decode cX6_days 26 = .ok (.getfield 25, 3) := by decide +kernel
theorem dX6_days_29 : decode cX6_days 29 = .ok (.aload_n 0, 1) := by decide +kernel
theorem dX6_days_30 : decode cX6_days 30 = .ok (.getfield 21, 3) := by decide +kernel
theorem dX6_days_33 : decode cX6_days 33 = .ok (.invokevirtual 130, 3) := by decide +kernel
theorem dX6_days_36 : decode cX6_days 36 = .ok (.iconst 0, 1) := by decide +kernel
theorem dX6_days_37 : decode cX6_days 37 = .ok (.istore_n 2, 1) := by decide +kernel
theorem dX6_days_38 : decode cX6_days 38 = .ok (.iload_n 2, 1) := by decide +kernel
theorem dX6_days_39 : decode cX6_days 39 = .ok (.iload_n 1, 1) := by decide +kernel
theorem dX6_days_40 : decode cX6_days 40 = .ok (.if_icmp .ge 20, 3) := by decide +kernel
theorem dX6_days_43 : decode cX6_days 43 = .ok (.aload_n 0, 1) := by decide +kernel
theorem dX6_days_44 : decode cX6_days 44 = .ok (.getfield 21, 3) := by decide +kernel
theorem dX6_days_47 : decode cX6_days 47 = .ok (.aload_n 0, 1) := by decide +kernel
theorem dX6_days_48 : decode cX6_days 48 = .ok (.getfield 12, 3) := by decide +kernel
theorem dX6_days_51 : decode cX6_days 51 = .ok (.invokevirtual 134, 3) := by decide +kernel
theorem dX6_days_54 : decode cX6_days 54 = .ok (.iinc 2 1, 3) := by decide +kernel
theorem dX6_days_57 : decode cX6_days 57 = .ok (.goto (-19), 3) := by decide +kernel
theorem dX6_days_60 : decode cX6_days 60 = .ok (.iconst 0, 1) := by decide +kernel
theorem dX6_days_61 : decode cX6_days 61 = .ok (.istore_n 2, 1) := by decide +kernel
theorem dX6_days_62 : decode cX6_days 62 = .ok (.iconst 0, 1) := by decide +kernel
theorem dX6_days_63 : decode cX6_days 63 = .ok (.istore_n 3, 1) := by decide +kernel
theorem dX6_days_64 : decode cX6_days 64 = .ok (.iload_n 3, 1) := by decide +kernel
theorem dX6_days_65 : decode cX6_days 65 = .ok (.aload_n 0, 1) := by decide +kernel
theorem dX6_days_66 : decode cX6_days 66 = .ok (.getfield 21, 3) := by decide +kernel
theorem dX6_days_69 : decode cX6_days 69 = .ok (.getfield 88, 3) := by decide +kernel
theorem dX6_days_72 : decode cX6_days 72 = .ok (.if_icmp .ge 33, 3) := by decide +kernel
theorem dX6_days_75 : decode cX6_days 75 = .ok (.aload_n 0, 1) := by decide +kernel
theorem dX6_days_76 : decode cX6_days 76 = .ok (.getfield 21, 3) := by decide +kernel
theorem dX6_days_79 : decode cX6_days 79 = .ok (.getfield 99, 3) := by decide +kernel
theorem dX6_days_82 : decode cX6_days 82 = .ok (.iload_n 3, 1) := by decide +kernel
theorem dX6_days_83 : decode cX6_days 83 = .ok (.iaload, 1) := by decide +kernel
theorem dX6_days_84 : decode cX6_days 84 = .ok (.aload_n 0, 1) := by decide +kernel
theorem dX6_days_85 : decode cX6_days 85 = .ok (.getfield 25, 3) := by decide +kernel
theorem dX6_days_88 : decode cX6_days 88 = .ok (.getfield 99, 3) := by decide +kernel
theorem dX6_days_91 : decode cX6_days 91 = .ok (.iload_n 3, 1) := by decide +kernel
theorem dX6_days_92 : decode cX6_days 92 = .ok (.iaload, 1) := by decide +kernel
theorem dX6_days_93 : decode cX6_days 93 = .ok (.if_icmp .eq 6, 3) := by decide +kernel
theorem dX6_days_96 : decode cX6_days 96 = .ok (.iinc 2 1, 3) := by decide +kernel
theorem dX6_days_99 : decode cX6_days 99 = .ok (.iinc 3 1, 3) := by decide +kernel
theorem dX6_days_102 : decode cX6_days 102 = .ok (.goto (-38), 3) := by decide +kernel
theorem dX6_days_105 : decode cX6_days 105 = .ok (.iload_n 2, 1) := by decide +kernel
theorem dX6_days_106 : decode cX6_days 106 = .ok (.ireturn, 1) := by decide +kernel
theorem dX6_look_0 : decode cX6_look 0 = .ok (.aload_n 0, 1) := by decide +kernel
theorem dX6_look_1 : decode cX6_look 1 = .ok (.getfield 21, 3) := by decide +kernel
theorem dX6_look_4 : decode cX6_look 4 = .ok (.iload_n 1, 1) := by decide +kernel
theorem dX6_look_5 : decode cX6_look 5 = .ok (.invokevirtual 92, 3) := by decide +kernel
theorem dX6_look_8 : decode cX6_look 8 = .ok (.ifCond .ne 5, 3) := by decide +kernel
theorem dX6_look_11 : decode cX6_look 11 = .ok (.iconst (-1), 1) := by decide +kernel
theorem dX6_look_12 : decode cX6_look 12 = .ok (.ireturn, 1) := by decide +kernel
theorem dX6_look_13 : decode cX6_look 13 = .ok (.aload_n 0, 1) := by decide +kernel
theorem dX6_look_14 : decode cX6_look 14 = .ok (.getfield 21, 3) := by decide +kernel
theorem dX6_look_17 : decode cX6_look 17 = .ok (.iload_n 1, 1) := by decide +kernel
theorem dX6_look_18 : decode cX6_look 18 = .ok (.invokevirtual 138, 3) := by decide +kernel
theorem dX6_look_21 : decode cX6_look 21 = .ok (.ifCond .eq 15, 3) := by decide +kernel
theorem dX6_look_24 : decode cX6_look 24 = .ok (.aload_n 0, 1) := by decide +kernel
theorem dX6_look_25 : decode cX6_look 25 = .ok (.getfield 21, 3) := by decide +kernel
theorem dX6_look_28 : decode cX6_look 28 = .ok (.getfield 99, 3) := by decide +kernel
theorem dX6_look_31 : decode cX6_look 31 = .ok (.iload_n 1, 1) := by decide +kernel
theorem dX6_look_32 : decode cX6_look 32 = .ok (.iaload, 1) := by decide +kernel
theorem dX6_look_33 : decode cX6_look 33 = .ok (.goto 5, 3) := by decide +kernel
theorem dX6_look_36 : decode cX6_look 36 = .ok (.bipush (-3), 2) := by decide +kernel
theorem dX6_look_38 : decode cX6_look 38 = .ok (.ireturn, 1) := by decide +kernel
theorem dX6_away_0 : decode cX6_away 0 = .ok (.aload_n 0, 1) := by decide +kernel
theorem dX6_away_1 : decode cX6_away 1 = .ok (.getfield 21, 3) := by decide +kernel
theorem dX6_away_4 : decode cX6_away 4 = .ok (.iload_n 1, 1) := by decide +kernel
theorem dX6_away_5 : decode cX6_away 5 = .ok (.invokevirtual 92, 3) := by decide +kernel
theorem dX6_away_8 : decode cX6_away 8 = .ok (.ifCond .ne 5, 3) := by decide +kernel
theorem dX6_away_11 : decode cX6_away 11 = .ok (.iconst (-1), 1) := by decide +kernel
theorem dX6_away_12 : decode cX6_away 12 = .ok (.ireturn, 1) := by decide +kernel
theorem dX6_away_13 : decode cX6_away 13 = .ok (.aload_n 0, 1) := by decide +kernel
theorem dX6_away_14 : decode cX6_away 14 = .ok (.getfield 21, 3) := by decide +kernel
theorem dX6_away_17 : decode cX6_away 17 = .ok (.iload_n 1, 1) := by decide +kernel
theorem dX6_away_18 : decode cX6_away 18 = .ok (.invokevirtual 141, 3) := by decide +kernel
theorem dX6_away_21 : decode cX6_away 21 = .ok (.ifCond .eq 16, 3) := by decide +kernel
theorem dX6_away_24 : decode cX6_away 24 = .ok (.aload_n 0, 1) := by decide +kernel
theorem dX6_away_25 : decode cX6_away 25 = .ok (.getfield 21, 3) := by decide +kernel
theorem dX6_away_28 : decode cX6_away 28 = .ok (.getfield 144, 3) := by decide +kernel
theorem dX6_away_31 : decode cX6_away 31 = .ok (.invokestatic 111, 3) := by decide +kernel
theorem dX6_away_34 : decode cX6_away 34 = .ok (.goto 5, 3) := by decide +kernel
theorem dX6_away_37 : decode cX6_away 37 = .ok (.bipush (-3), 2) := by decide +kernel
theorem dX6_away_39 : decode cX6_away 39 = .ok (.ireturn, 1) := by decide +kernel
theorem dX6_stroke_0 : decode cX6_stroke 0 = .ok (.aload_n 0, 1) := by decide +kernel
theorem dX6_stroke_1 : decode cX6_stroke 1 = .ok (.getfield 21, 3) := by decide +kernel
theorem dX6_stroke_4 : decode cX6_stroke 4 = .ok (.iload_n 1, 1) := by decide +kernel
theorem dX6_stroke_5 : decode cX6_stroke 5 = .ok (.invokevirtual 92, 3) := by decide +kernel
theorem dX6_stroke_8 : decode cX6_stroke 8 = .ok (.ifCond .ne 5, 3) := by decide +kernel
theorem dX6_stroke_11 : decode cX6_stroke 11 = .ok (.iconst (-1), 1) := by decide +kernel
theorem dX6_stroke_12 : decode cX6_stroke 12 = .ok (.ireturn, 1) := by decide +kernel
theorem dX6_stroke_13 : decode cX6_stroke 13 = .ok (.iload_n 2, 1) := by decide +kernel
theorem dX6_stroke_14 : decode cX6_stroke 14 = .ok (.ifCond .lt 9, 3) := by decide +kernel
theorem dX6_stroke_17 : decode cX6_stroke 17 = .ok (.iload_n 2, 1) := by decide +kernel
theorem dX6_stroke_18 : decode cX6_stroke 18 = .ok (.bipush 6, 2) := by decide +kernel
theorem dX6_stroke_20 : decode cX6_stroke 20 = .ok (.if_icmp .lt 6, 3) := by decide +kernel
theorem dX6_stroke_23 : decode cX6_stroke 23 = .ok (.bipush (-2), 2) := by decide +kernel
theorem dX6_stroke_25 : decode cX6_stroke 25 = .ok (.ireturn, 1) := by decide +kernel
theorem dX6_stroke_26 : decode cX6_stroke 26 = .ok (.aload_n 0, 1) := by decide +kernel
theorem dX6_stroke_27 : decode cX6_stroke 27 = .ok (.getfield 21, 3) := by decide +kernel
theorem dX6_stroke_30 : decode cX6_stroke 30 = .ok (.iload_n 1, 1) := by decide +kernel
theorem dX6_stroke_31 : decode cX6_stroke 31 = .ok (.iload_n 2, 1) := by decide +kernel
theorem dX6_stroke_32 : decode cX6_stroke 32 = .ok (.invokevirtual 147, 3) := by decide +kernel
theorem dX6_stroke_35 : decode cX6_stroke 35 = .ok (.aload_n 0, 1) := by decide +kernel
theorem dX6_stroke_36 : decode cX6_stroke 36 = .ok (.getfield 21, 3) := by decide +kernel
theorem dX6_stroke_39 : decode cX6_stroke 39 = .ok (.getfield 99, 3) := by decide +kernel
theorem dX6_stroke_42 : decode cX6_stroke 42 = .ok (.iload_n 1, 1) := by decide +kernel
theorem dX6_stroke_43 : decode cX6_stroke 43 = .ok (.iaload, 1) := by decide +kernel
theorem dX6_stroke_44 : decode cX6_stroke 44 = .ok (.ireturn, 1) := by decide +kernel
theorem dX6_years_0 : decode cX6_years 0 = .ok (.iload_n 1, 1) := by decide +kernel
theorem dX6_years_1 : decode cX6_years 1 = .ok (.invokestatic 49, 3) := by decide +kernel
theorem dX6_years_4 : decode cX6_years 4 = .ok (.ifCond .ne 9, 3) := by decide +kernel
theorem dX6_years_7 : decode cX6_years 7 = .ok (.aload_n 0, 1) := by decide +kernel
theorem dX6_years_8 : decode cX6_years 8 = .ok (.iconst (-1), 1) := by decide +kernel
theorem dX6_years_9 : decode cX6_years 9 = .ok (.invokevirtual 53, 3) := by decide +kernel
theorem dX6_years_12 : decode cX6_years 12 = .ok (.ireturn, 1) := by decide +kernel
theorem dX6_years_13 : decode cX6_years 13 = .ok (.iload_n 2, 1) := by decide +kernel
theorem dX6_years_14 : decode cX6_years 14 = .ok (.invokestatic 57, 3) := by decide +kernel
theorem dX6_years_17 : decode cX6_years 17 = .ok (.ifCond .eq 19, 3) := by decide +kernel
theorem dX6_years_20 : decode cX6_years 20 = .ok (.iload 4, 2) := by decide +kernel
theorem dX6_years_22 : decode cX6_years 22 = .ok (.invokestatic 151, 3) := by decide +kernel
theorem dX6_years_25 : decode cX6_years 25 = .ok (.ifCond .eq 11, 3) := by decide +kernel
theorem dX6_years_28 : decode cX6_years 28 = .ok (.iload 5, 2) := by decide +kernel
theorem dX6_years_30 : decode cX6_years 30 = .ok (.invokestatic 154, 3) := by decide +kernel
theorem dX6_years_33 : decode cX6_years 33 = .ok (.ifCond .ne 10, 3) := by decide +kernel
theorem dX6_years_36 : decode cX6_years 36 = .ok (.aload_n 0, 1) := by decide +kernel
theorem dX6_years_37 : decode cX6_years 37 = .ok (.bipush (-2), 2) := by decide +kernel
theorem dX6_years_39 : decode cX6_years 39 = .ok (.invokevirtual 53, 3) := by decide +kernel
theorem dX6_years_42 : decode cX6_years 42 = .ok (.ireturn, 1) := by decide +kernel
theorem dX6_years_43 : decode cX6_years 43 = .ok (.aload_n 0, 1) := by decide +kernel
theorem dX6_years_44 : decode cX6_years 44 = .ok (.getfield 44, 3) := by decide +kernel
theorem dX6_years_47 : decode cX6_years 47 = .ok (.iload_n 1, 1) := by decide +kernel
theorem dX6_years_48 : decode cX6_years 48 = .ok (.aaload, 1) := by decide +kernel
theorem dX6_years_49 : decode cX6_years 49 = .ok (.astore 6, 2) := by decide +kernel
theorem dX6_years_51 : decode cX6_years 51 = .ok (.aload 6, 2) := by decide +kernel
theorem dX6_years_53 : decode cX6_years 53 = .ok (.iload_n 2, 1) := by decide +kernel
theorem dX6_years_54 : decode cX6_years 54 = .ok (.iload_n 3, 1) := by decide +kernel
theorem dX6_years_55 : decode cX6_years 55 = .ok (.iconst 2, 1) := by decide +kernel
theorem dX6_years_56 : decode cX6_years 56 = .ok (.iload 4, 2) := by decide +kernel
theorem dX6_years_58 : decode cX6_years 58 = .ok (.imul, 1) := by decide +kernel
theorem dX6_years_59 : decode cX6_years 59 = .ok (.invokevirtual 60, 3) := by decide +kernel
theorem dX6_years_62 : decode cX6_years 62 = .ok (.istore 7, 2) := by decide +kernel
theorem dX6_years_64 : decode cX6_years 64 = .ok (.iload 7, 2) := by decide +kernel
theorem dX6_years_66 : decode cX6_years 66 = .ok (.ifCond .eq 10, 3) := by decide +kernel
theorem dX6_years_69 : decode cX6_years 69 = .ok (.aload_n 0, 1) := by decide +kernel
theorem dX6_years_70 : decode cX6_years 70 = .ok (.iload 7, 2) := by decide +kernel
theorem dX6_years_72 : decode cX6_years 72 = .ok (.invokevirtual 64, 3) := by decide +kernel
theorem dX6_years_75 : decode cX6_years 75 = .ok (.ireturn, 1) := by decide +kernel
theorem dX6_years_76 : decode cX6_years 76 = .ok (.aload_n 0, 1) := by decide +kernel
theorem dX6_years_77 : decode cX6_years 77 = .ok (.invokevirtual 123, 3) := by decide +kernel
theorem dX6_years_80 : decode cX6_years 80 = .ok (.ifCond .ne 10, 3) := by decide +kernel
theorem dX6_years_83 : decode cX6_years 83 = .ok (.aload_n 0, 1) := by decide +kernel
theorem dX6_years_84 : decode cX6_years 84 = .ok (.bipush (-3), 2) := by decide +kernel
theorem dX6_years_86 : decode cX6_years 86 = .ok (.invokevirtual 53, 3) := by decide +kernel
theorem dX6_years_89 : decode cX6_years 89 = .ok (.ireturn, 1) := by decide +kernel
theorem dX6_years_90 : decode cX6_years 90 = .ok (.aload_n 0, 1) := by decide +kernel
theorem dX6_years_91 : decode cX6_years 91 = .ok (.getfield 21, 3) := by decide +kernel
theorem dX6_years_94 : decode cX6_years 94 = .ok (.aload 6, 2) := by decide +kernel
theorem dX6_years_96 : decode cX6_years 96 = .ok (.iload_n 3, 1) := by decide +kernel
theorem dX6_years_97 : decode cX6_years 97 = .ok (.iload 4, 2) := by decide +kernel
theorem dX6_years_99 : decode cX6_years 99 = .ok (.invokestatic 157, 3) := by decide +kernel
theorem dX6_years_102 : decode cX6_years 102 = .ok (.istore 8, 2) := by decide +kernel
theorem dX6_years_104 : decode cX6_years 104 = .ok (.iload 8, 2) := by decide +kernel
theorem dX6_years_106 : decode cX6_years 106 = .ok (.ifCond .eq 10, 3) := by decide +kernel
theorem dX6_years_109 : decode cX6_years 109 = .ok (.aload_n 0, 1) := by decide +kernel
theorem dX6_years_110 : decode cX6_years 110 = .ok (.iload 8, 2) := by decide +kernel
theorem dX6_years_112 : decode cX6_years 112 = .ok (.invokevirtual 53, 3) := by decide +kernel
theorem dX6_years_115 : decode cX6_years 115 = .ok (.ireturn, 1) := by decide +kernel
theorem dX6_years_116 : decode cX6_years 116 = .ok (.aload_n 0, 1) := by decide +kernel
theorem dX6_years_117 : decode cX6_years 117 = .ok (.getfield 31, 3) := by decide +kernel
theorem dX6_years_120 : decode cX6_years 120 = .ok (.aload_n 0, 1) := by decide +kernel
theorem dX6_years_121 : decode cX6_years 121 = .ok (.getfield 21, 3) := by decide +kernel
theorem dX6_years_124 : decode cX6_years 124 = .ok (.aload_n 0, 1) := by decide +kernel
theorem dX6_years_125 : decode cX6_years 125 = .ok (.getfield 12, 3) := by decide +kernel
theorem dX6_years_128 : decode cX6_years 128 = .ok (.aload 6, 2) := by decide +kernel
theorem dX6_years_130 : decode cX6_years 130 = .ok (.iload_n 3, 1) := by decide +kernel
theorem dX6_years_131 : decode cX6_years 131 = .ok (.iload 4, 2) := by decide +kernel
theorem dX6_years_133 : decode cX6_years 133 = .ok (.invokevirtual 161, 3) := by decide +kernel
theorem dX6_years_136 : decode cX6_years 136 = .ok (.aload_n 0, 1) := by decide +kernel
theorem dX6_years_137 : decode cX6_years 137 = .ok (.aload_n 0, 1) := by decide +kernel
theorem dX6_years_138 : decode cX6_years 138 = .ok (.getfield 31, 3) := by decide +kernel
theorem dX6_years_141 : decode cX6_years 141 = .ok (.iload 5, 2) := by decide +kernel
theorem dX6_years_143 : decode cX6_years 143 = .ok (.invokevirtual 165, 3) := by decide +kernel
theorem dX6_years_146 : decode cX6_years 146 = .ok (.invokevirtual 53, 3) := by decide +kernel
theorem dX6_years_149 : decode cX6_years 149 = .ok (.ireturn, 1) := by decide +kernel
theorem dX6_comes_0 : decode cX6_comes 0 = .ok (.aload_n 0, 1) := by decide +kernel
theorem dX6_comes_1 : decode cX6_comes 1 = .ok (.getfield 21, 3) := by decide +kernel
theorem dX6_comes_4 : decode cX6_comes 4 = .ok (.iload_n 1, 1) := by decide +kernel
theorem dX6_comes_5 : decode cX6_comes 5 = .ok (.invokevirtual 92, 3) := by decide +kernel
theorem dX6_comes_8 : decode cX6_comes 8 = .ok (.ifCond .ne 5, 3) := by decide +kernel
theorem dX6_comes_11 : decode cX6_comes 11 = .ok (.iconst (-1), 1) := by decide +kernel
theorem dX6_comes_12 : decode cX6_comes 12 = .ok (.ireturn, 1) := by decide +kernel
theorem dX6_comes_13 : decode cX6_comes 13 = .ok (.iload_n 2, 1) := by decide +kernel
theorem dX6_comes_14 : decode cX6_comes 14 = .ok (.invokestatic 168, 3) := by decide +kernel
theorem dX6_comes_17 : decode cX6_comes 17 = .ok (.ifCond .ne 6, 3) := by decide +kernel
theorem dX6_comes_20 : decode cX6_comes 20 = .ok (.bipush (-2), 2) := by decide +kernel
theorem dX6_comes_22 : decode cX6_comes 22 = .ok (.ireturn, 1) := by decide +kernel
theorem dX6_comes_23 : decode cX6_comes 23 = .ok (.aload_n 0, 1) := by decide +kernel
theorem dX6_comes_24 : decode cX6_comes 24 = .ok (.getfield 12, 3) := by decide +kernel
theorem dX6_comes_27 : decode cX6_comes 27 = .ok (.aload_n 0, 1) := by decide +kernel
theorem dX6_comes_28 : decode cX6_comes 28 = .ok (.getfield 21, 3) := by decide +kernel
theorem dX6_comes_31 : decode cX6_comes 31 = .ok (.getfield 99, 3) := by decide +kernel
theorem dX6_comes_34 : decode cX6_comes 34 = .ok (.iload_n 1, 1) := by decide +kernel
theorem dX6_comes_35 : decode cX6_comes 35 = .ok (.iaload, 1) := by decide +kernel
theorem dX6_comes_36 : decode cX6_comes 36 = .ok (.aload_n 0, 1) := by decide +kernel
theorem dX6_comes_37 : decode cX6_comes 37 = .ok (.getfield 21, 3) := by decide +kernel
theorem dX6_comes_40 : decode cX6_comes 40 = .ok (.iload_n 1, 1) := by decide +kernel
theorem dX6_comes_41 : decode cX6_comes 41 = .ok (.invokevirtual 105, 3) := by decide +kernel
theorem dX6_comes_44 : decode cX6_comes 44 = .ok (.iload_n 2, 1) := by decide +kernel
theorem dX6_comes_45 : decode cX6_comes 45 = .ok (.invokevirtual 171, 3) := by decide +kernel
theorem dX6_comes_48 : decode cX6_comes 48 = .ok (.ireturn, 1) := by decide +kernel
theorem dX6_strokes_0 : decode cX6_strokes 0 = .ok (.aload_n 0, 1) := by decide +kernel
theorem dX6_strokes_1 : decode cX6_strokes 1 = .ok (.getfield 21, 3) := by decide +kernel
theorem dX6_strokes_4 : decode cX6_strokes 4 = .ok (.iload_n 1, 1) := by decide +kernel
theorem dX6_strokes_5 : decode cX6_strokes 5 = .ok (.invokevirtual 92, 3) := by decide +kernel
theorem dX6_strokes_8 : decode cX6_strokes 8 = .ok (.ifCond .ne 5, 3) := by decide +kernel
theorem dX6_strokes_11 : decode cX6_strokes 11 = .ok (.iconst (-1), 1) := by decide +kernel
theorem dX6_strokes_12 : decode cX6_strokes 12 = .ok (.ireturn, 1) := by decide +kernel
theorem dX6_strokes_13 : decode cX6_strokes 13 = .ok (.iload_n 2, 1) := by decide +kernel
theorem dX6_strokes_14 : decode cX6_strokes 14 = .ok (.invokestatic 168, 3) := by decide +kernel
theorem dX6_strokes_17 : decode cX6_strokes 17 = .ok (.ifCond .ne 6, 3) := by decide +kernel
theorem dX6_strokes_20 : decode cX6_strokes 20 = .ok (.bipush (-2), 2) := by decide +kernel
theorem dX6_strokes_22 : decode cX6_strokes 22 = .ok (.ireturn, 1) := by decide +kernel
theorem dX6_strokes_23 : decode cX6_strokes 23 = .ok (.aload_n 0, 1) := by decide +kernel
theorem dX6_strokes_24 : decode cX6_strokes 24 = .ok (.getfield 21, 3) := by decide +kernel
theorem dX6_strokes_27 : decode cX6_strokes 27 = .ok (.iload_n 1, 1) := by decide +kernel
theorem dX6_strokes_28 : decode cX6_strokes 28 = .ok (.invokevirtual 105, 3) := by decide +kernel
theorem dX6_strokes_31 : decode cX6_strokes 31 = .ok (.istore_n 3, 1) := by decide +kernel
theorem dX6_strokes_32 : decode cX6_strokes 32 = .ok (.bipush (-9), 2) := by decide +kernel
theorem dX6_strokes_34 : decode cX6_strokes 34 = .ok (.istore 4, 2) := by decide +kernel
theorem dX6_strokes_36 : decode cX6_strokes 36 = .ok (.bipush 7, 2) := by decide +kernel
theorem dX6_strokes_38 : decode cX6_strokes 38 = .ok (.istore 5, 2) := by decide +kernel
theorem dX6_strokes_40 : decode cX6_strokes 40 = .ok (.iconst 0, 1) := by decide +kernel
theorem dX6_strokes_41 : decode cX6_strokes 41 = .ok (.istore 6, 2) := by decide +kernel
theorem dX6_strokes_43 : decode cX6_strokes 43 = .ok (.iload 6, 2) := by decide +kernel
theorem dX6_strokes_45 : decode cX6_strokes 45 = .ok (.bipush 64, 2) := by decide +kernel
theorem dX6_strokes_47 : decode cX6_strokes 47 = .ok (.if_icmp .ge 57, 3) := by decide +kernel
theorem dX6_strokes_50 : decode cX6_strokes 50 = .ok (.iload 6, 2) := by decide +kernel
theorem dX6_strokes_52 : decode cX6_strokes 52 = .ok (.invokestatic 111, 3) := by decide +kernel
theorem dX6_strokes_55 : decode cX6_strokes 55 = .ok (.istore 7, 2) := by decide +kernel
theorem dX6_strokes_57 : decode cX6_strokes 57 = .ok (.iload 7, 2) := by decide +kernel
theorem dX6_strokes_59 : decode cX6_strokes 59 = .ok (.iload 5, 2) := by decide +kernel
theorem dX6_strokes_61 : decode cX6_strokes 61 = .ok (.if_icmp .ge 37, 3) := by decide +kernel
theorem dX6_strokes_64 : decode cX6_strokes 64 = .ok (.aload_n 0, 1) := by decide +kernel
theorem dX6_strokes_65 : decode cX6_strokes 65 = .ok (.getfield 12, 3) := by decide +kernel
theorem dX6_strokes_68 : decode cX6_strokes 68 = .ok (.aload_n 0, 1) := by decide +kernel
theorem dX6_strokes_69 : decode cX6_strokes 69 = .ok (.getfield 21, 3) := by decide +kernel
theorem dX6_strokes_72 : decode cX6_strokes 72 = .ok (.getfield 99, 3) := by decide +kernel
theorem dX6_strokes_75 : decode cX6_strokes 75 = .ok (.iload_n 1, 1) := by decide +kernel
theorem dX6_strokes_76 : decode cX6_strokes 76 = .ok (.iaload, 1) := by decide +kernel
theorem dX6_strokes_77 : decode cX6_strokes 77 = .ok (.iload 6, 2) := by decide +kernel
theorem dX6_strokes_79 : decode cX6_strokes 79 = .ok (.ixor, 1) := by decide +kernel
theorem dX6_strokes_80 : decode cX6_strokes 80 = .ok (.iload_n 3, 1) := by decide +kernel
theorem dX6_strokes_81 : decode cX6_strokes 81 = .ok (.iload_n 2, 1) := by decide +kernel
theorem dX6_strokes_82 : decode cX6_strokes 82 = .ok (.invokevirtual 171, 3) := by decide +kernel
theorem dX6_strokes_85 : decode cX6_strokes 85 = .ok (.bipush (-9), 2) := by decide +kernel
theorem dX6_strokes_87 : decode cX6_strokes 87 = .ok (.if_icmp .eq 11, 3) := by decide +kernel
theorem dX6_strokes_90 : decode cX6_strokes 90 = .ok (.iload 6, 2) := by decide +kernel
theorem dX6_strokes_92 : decode cX6_strokes 92 = .ok (.istore 4, 2) := by decide +kernel
theorem dX6_strokes_94 : decode cX6_strokes 94 = .ok (.iload 7, 2) := by decide +kernel
theorem dX6_strokes_96 : decode cX6_strokes 96 = .ok (.istore 5, 2) := by decide +kernel
theorem dX6_strokes_98 : decode cX6_strokes 98 = .ok (.iinc 6 1, 3) := by decide +kernel
theorem dX6_strokes_101 : decode cX6_strokes 101 = .ok (.goto (-58), 3) := by decide +kernel
theorem dX6_strokes_104 : decode cX6_strokes 104 = .ok (.iload 4, 2) := by decide +kernel
theorem dX6_strokes_106 : decode cX6_strokes 106 = .ok (.ireturn, 1) := by decide +kernel
theorem dX6_round_0 : decode cX6_round 0 = .ok (.iload_n 1, 1) := by decide +kernel
theorem dX6_round_1 : decode cX6_round 1 = .ok (.invokestatic 168, 3) := by decide +kernel
theorem dX6_round_4 : decode cX6_round 4 = .ok (.ifCond .eq 12, 3) := by decide +kernel
theorem dX6_round_7 : decode cX6_round 7 = .ok (.iload_n 2, 1) := by decide +kernel
theorem dX6_round_8 : decode cX6_round 8 = .ok (.ifCond .lt 8, 3) := by decide +kernel
theorem dX6_round_11 : decode cX6_round 11 = .ok (.iload_n 2, 1) := by decide +kernel
theorem dX6_round_12 : decode cX6_round 12 = .ok (.iconst 1, 1) := by decide +kernel
theorem dX6_round_13 : decode cX6_round 13 = .ok (.if_icmp .le 6, 3) := by decide +kernel
theorem dX6_round_16 : decode cX6_round 16 = .ok (.bipush (-2), 2) := by decide +kernel
theorem dX6_round_18 : decode cX6_round 18 = .ok (.ireturn, 1) := by decide +kernel
theorem dX6_round_19 : decode cX6_round 19 = .ok (.aload_n 0, 1) := by decide +kernel
theorem dX6_round_20 : decode cX6_round 20 = .ok (.invokevirtual 123, 3) := by decide +kernel
theorem dX6_round_23 : decode cX6_round 23 = .ok (.ifCond .ne 6, 3) := by decide +kernel
theorem dX6_round_26 : decode cX6_round 26 = .ok (.bipush (-3), 2) := by decide +kernel
theorem dX6_round_28 : decode cX6_round 28 = .ok (.ireturn, 1) := by decide +kernel
theorem dX6_round_29 : decode cX6_round 29 = .ok (.iconst 0, 1) := by decide +kernel
theorem dX6_round_30 : decode cX6_round 30 = .ok (.istore_n 3, 1) := by decide +kernel
theorem dX6_round_31 : decode cX6_round 31 = .ok (.iload_n 1, 1) := by decide +kernel
theorem dX6_round_32 : decode cX6_round 32 = .ok (.istore 4, 2) := by decide +kernel
theorem dX6_round_34 : decode cX6_round 34 = .ok (.iload_n 3, 1) := by decide +kernel
theorem dX6_round_35 : decode cX6_round 35 = .ok (.bipush 64, 2) := by decide +kernel
theorem dX6_round_37 : decode cX6_round 37 = .ok (.if_icmp .ge 35, 3) := by decide +kernel
theorem dX6_round_40 : decode cX6_round 40 = .ok (.aload_n 0, 1) := by decide +kernel
theorem dX6_round_41 : decode cX6_round 41 = .ok (.getfield 12, 3) := by decide +kernel
theorem dX6_round_44 : decode cX6_round 44 = .ok (.iload 4, 2) := by decide +kernel
theorem dX6_round_46 : decode cX6_round 46 = .ok (.invokevirtual 174, 3) := by decide +kernel
theorem dX6_round_49 : decode cX6_round 49 = .ok (.bipush (-9), 2) := by decide +kernel
theorem dX6_round_51 : decode cX6_round 51 = .ok (.if_icmp .ne 21, 3) := by decide +kernel
theorem dX6_round_54 : decode cX6_round 54 = .ok (.aload_n 0, 1) := by decide +kernel
theorem dX6_round_55 : decode cX6_round 55 = .ok (.getfield 12, 3) := by decide +kernel
theorem dX6_round_58 : decode cX6_round 58 = .ok (.iload 4, 2) := by decide +kernel
theorem dX6_round_60 : decode cX6_round 60 = .ok (.iconst 1, 1) := by decide +kernel
theorem dX6_round_61 : decode cX6_round 61 = .ok (.invokevirtual 119, 3) := by decide +kernel
theorem dX6_round_64 : decode cX6_round 64 = .ok (.istore 4, 2) := by decide +kernel
theorem dX6_round_66 : decode cX6_round 66 = .ok (.iinc 3 1, 3) := by decide +kernel
theorem dX6_round_69 : decode cX6_round 69 = .ok (.goto (-35), 3) := by decide +kernel
theorem dX6_round_72 : decode cX6_round 72 = .ok (.iload_n 2, 1) := by decide +kernel
theorem dX6_round_73 : decode cX6_round 73 = .ok (.ifCond .ne 7, 3) := by decide +kernel
theorem dX6_round_76 : decode cX6_round 76 = .ok (.iload_n 3, 1) := by decide +kernel
theorem dX6_round_77 : decode cX6_round 77 = .ok (.goto 12, 3) := by decide +kernel
theorem dX6_round_80 : decode cX6_round 80 = .ok (.aload_n 0, 1) := by decide +kernel
theorem dX6_round_81 : decode cX6_round 81 = .ok (.getfield 12, 3) := by decide +kernel
theorem dX6_round_84 : decode cX6_round 84 = .ok (.iload 4, 2) := by decide +kernel
theorem dX6_round_86 : decode cX6_round 86 = .ok (.invokevirtual 174, 3) := by decide +kernel
theorem dX6_round_89 : decode cX6_round 89 = .ok (.ireturn, 1) := by decide +kernel
theorem dX6_eden_0 : decode cX6_eden 0 = .ok (.aload_n 0, 1) := by decide +kernel
theorem dX6_eden_1 : decode cX6_eden 1 = .ok (.iload_n 1, 1) := by decide +kernel
theorem dX6_eden_2 : decode cX6_eden 2 = .ok (.invokevirtual 116, 3) := by decide +kernel
theorem dX6_eden_5 : decode cX6_eden 5 = .ok (.ifCond .eq 7, 3) := by decide +kernel
theorem dX6_eden_8 : decode cX6_eden 8 = .ok (.ldc2_w 177, 3) := by decide +kernel
theorem dX6_eden_11 : decode cX6_eden 11 = .ok (.lreturn, 1) := by decide +kernel
theorem dX6_eden_12 : decode cX6_eden 12 = .ok (.lconst 0, 1) := by decide +kernel
theorem dX6_eden_13 : decode cX6_eden 13 = .ok (.lstore_n 2, 1) := by decide +kernel
theorem dX6_eden_14 : decode cX6_eden 14 = .ok (.iconst 0, 1) := by decide +kernel
theorem dX6_eden_15 : decode cX6_eden 15 = .ok (.istore 4, 2) := by decide +kernel
theorem dX6_eden_17 : decode cX6_eden 17 = .ok (.iload 4, 2) := by decide +kernel
theorem dX6_eden_19 : decode cX6_eden 19 = .ok (.bipush 64, 2) := by decide +kernel
theorem dX6_eden_21 : decode cX6_eden 21 = .ok (.if_icmp .ge 30, 3) := by decide +kernel
theorem dX6_eden_24 : decode cX6_eden 24 = .ok (.aload_n 0, 1) := by decide +kernel
theorem dX6_eden_25 : decode cX6_eden 25 = .ok (.getfield 12, 3) := by decide +kernel
theorem dX6_eden_28 : decode cX6_eden 28 = .ok (.iload 4, 2) := by decide +kernel
theorem dX6_eden_30 : decode cX6_eden 30 = .ok (.iconst 1, 1) := by decide +kernel
theorem dX6_eden_31 : decode cX6_eden 31 = .ok (.invokevirtual 119, 3) := by decide +kernel
theorem dX6_eden_34 : decode cX6_eden 34 = .ok (.iload_n 1, 1) := by decide +kernel
theorem dX6_eden_35 : decode cX6_eden 35 = .ok (.if_icmp .ne 10, 3) := by decide +kernel
theorem dX6_eden_38 : decode cX6_eden 38 = .ok (.lload_n 2, 1) := by decide +kernel
theorem dX6_eden_39 : decode cX6_eden 39 = .ok (.lconst 1, 1) := by decide +kernel
theorem dX6_eden_40 : decode cX6_eden 40 = .ok (.iload 4, 2) := by decide +kernel
theorem dX6_eden_42 : decode cX6_eden 42 = .ok (.lshl, 1) := by decide +kernel
theorem dX6_eden_43 : decode cX6_eden 43 = .ok (.lor, 1) := by decide +kernel
theorem dX6_eden_44 : decode cX6_eden 44 = .ok (.lstore_n 2, 1) := by decide +kernel
theorem dX6_eden_45 : decode cX6_eden 45 = .ok (.iinc 4 1, 3) := by decide +kernel
theorem dX6_eden_48 : decode cX6_eden 48 = .ok (.goto (-31), 3) := by decide +kernel
theorem dX6_eden_51 : decode cX6_eden 51 = .ok (.lload_n 2, 1) := by decide +kernel
theorem dX6_eden_52 : decode cX6_eden 52 = .ok (.lreturn, 1) := by decide +kernel
theorem dX6_alike_0 : decode cX6_alike 0 = .ok (.aload_n 0, 1) := by decide +kernel
theorem dX6_alike_1 : decode cX6_alike 1 = .ok (.getfield 21, 3) := by decide +kernel
theorem dX6_alike_4 : decode cX6_alike 4 = .ok (.iload_n 1, 1) := by decide +kernel
theorem dX6_alike_5 : decode cX6_alike 5 = .ok (.invokevirtual 92, 3) := by decide +kernel
theorem dX6_alike_8 : decode cX6_alike 8 = .ok (.ifCond .eq 19, 3) := by decide +kernel
theorem dX6_alike_11 : decode cX6_alike 11 = .ok (.aload_n 0, 1) := by decide +kernel
theorem dX6_alike_12 : decode cX6_alike 12 = .ok (.getfield 21, 3) := by decide +kernel
theorem dX6_alike_15 : decode cX6_alike 15 = .ok (.iload_n 2, 1) := by decide +kernel
theorem dX6_alike_16 : decode cX6_alike 16 = .ok (.invokevirtual 92, 3) := by decide +kernel
theorem dX6_alike_19 : decode cX6_alike 19 = .ok (.ifCond .eq 8, 3) := by decide +kernel
theorem dX6_alike_22 : decode cX6_alike 22 = .ok (.iload_n 1, 1) := by decide +kernel
theorem dX6_alike_23 : decode cX6_alike 23 = .ok (.iload_n 2, 1) := by decide +kernel
theorem dX6_alike_24 : decode cX6_alike 24 = .ok (.if_icmp .ne 5, 3) := by decide +kernel
theorem dX6_alike_27 : decode cX6_alike 27 = .ok (.iconst (-1), 1) := by decide +kernel
theorem dX6_alike_28 : decode cX6_alike 28 = .ok (.ireturn, 1) := by decide +kernel
theorem dX6_alike_29 : decode cX6_alike 29 = .ok (.aload_n 0, 1) := by decide +kernel
theorem dX6_alike_30 : decode cX6_alike 30 = .ok (.getfield 21, 3) := by decide +kernel
theorem dX6_alike_33 : decode cX6_alike 33 = .ok (.getfield 99, 3) := by decide +kernel
theorem dX6_alike_36 : decode cX6_alike 36 = .ok (.iload_n 1, 1) := by decide +kernel
theorem dX6_alike_37 : decode cX6_alike 37 = .ok (.iaload, 1) := by decide +kernel
theorem dX6_alike_38 : decode cX6_alike 38 = .ok (.istore_n 3, 1) := by decide +kernel
theorem dX6_alike_39 : decode cX6_alike 39 = .ok (.aload_n 0, 1) := by decide +kernel
theorem dX6_alike_40 : decode cX6_alike 40 = .ok (.getfield 21, 3) := by decide +kernel
theorem dX6_alike_43 : decode cX6_alike 43 = .ok (.getfield 99, 3) := by decide +kernel
theorem dX6_alike_46 : decode cX6_alike 46 = .ok (.iload_n 2, 1) := by decide +kernel
theorem dX6_alike_47 : decode cX6_alike 47 = .ok (.iaload, 1) := by decide +kernel
theorem dX6_alike_48 : decode cX6_alike 48 = .ok (.istore 4, 2) := by decide +kernel
theorem dX6_alike_50 : decode cX6_alike 50 = .ok (.iconst 0, 1) := by decide +kernel
theorem dX6_alike_51 : decode cX6_alike 51 = .ok (.istore 5, 2) := by decide +kernel
theorem dX6_alike_53 : decode cX6_alike 53 = .ok (.iload 5, 2) := by decide +kernel
theorem dX6_alike_55 : decode cX6_alike 55 = .ok (.bipush 99, 2) := by decide +kernel
theorem dX6_alike_57 : decode cX6_alike 57 = .ok (.if_icmp .gt 54, 3) := by decide +kernel
theorem dX6_alike_60 : decode cX6_alike 60 = .ok (.iload_n 3, 1) := by decide +kernel
theorem dX6_alike_61 : decode cX6_alike 61 = .ok (.iload 4, 2) := by decide +kernel
theorem dX6_alike_63 : decode cX6_alike 63 = .ok (.if_icmp .ne 6, 3) := by decide +kernel
theorem dX6_alike_66 : decode cX6_alike 66 = .ok (.iload 5, 2) := by decide +kernel
theorem dX6_alike_68 : decode cX6_alike 68 = .ok (.ireturn, 1) := by decide +kernel
theorem dX6_alike_69 : decode cX6_alike 69 = .ok (.aload_n 0, 1) := by decide +kernel
theorem dX6_alike_70 : decode cX6_alike 70 = .ok (.getfield 12, 3) := by decide +kernel
theorem dX6_alike_73 : decode cX6_alike 73 = .ok (.iload_n 3, 1) := by decide +kernel
theorem dX6_alike_74 : decode cX6_alike 74 = .ok (.aload_n 0, 1) := by decide +kernel
theorem dX6_alike_75 : decode cX6_alike 75 = .ok (.getfield 21, 3) := by decide +kernel
theorem dX6_alike_78 : decode cX6_alike 78 = .ok (.iload_n 1, 1) := by decide +kernel
theorem dX6_alike_79 : decode cX6_alike 79 = .ok (.invokevirtual 105, 3) := by decide +kernel
theorem dX6_alike_82 : decode cX6_alike 82 = .ok (.invokevirtual 119, 3) := by decide +kernel
theorem dX6_alike_85 : decode cX6_alike 85 = .ok (.istore_n 3, 1) := by decide +kernel
theorem dX6_alike_86 : decode cX6_alike 86 = .ok (.aload_n 0, 1) := by decide +kernel
theorem dX6_alike_87 : decode cX6_alike 87 = .ok (.getfield 12, 3) := by decide +kernel
theorem dX6_alike_90 : decode cX6_alike 90 = .ok (.iload 4, 2) := by decide +kernel
theorem dX6_alike_92 : decode cX6_alike 92 = .ok (.aload_n 0, 1) := by decide +kernel
theorem dX6_alike_93 : decode cX6_alike 93 = .ok (.getfield 21, 3) := by decide +kernel
theorem dX6_alike_96 : decode cX6_alike 96 = .ok (.iload_n 2, 1) := by decide +kernel
theorem dX6_alike_97 : decode cX6_alike 97 = .ok (.invokevirtual 105, 3) := by decide +kernel
theorem dX6_alike_100 : decode cX6_alike 100 = .ok (.invokevirtual 119, 3) := by decide +kernel
theorem dX6_alike_103 : decode cX6_alike 103 = .ok (.istore 4, 2) := by decide +kernel
theorem dX6_alike_105 : decode cX6_alike 105 = .ok (.iinc 5 1, 3) := by decide +kernel
theorem dX6_alike_108 : decode cX6_alike 108 = .ok (.goto (-55), 3) := by decide +kernel
theorem dX6_alike_111 : decode cX6_alike 111 = .ok (.bipush (-9), 2) := by decide +kernel
theorem dX6_alike_113 : decode cX6_alike 113 = .ok (.ireturn, 1) := by decide +kernel
theorem dX6_laws_0 : decode cX6_laws 0 = .ok (.iload_n 1, 1) := by decide +kernel
theorem dX6_laws_1 : decode cX6_laws 1 = .ok (.invokestatic 49, 3) := by decide +kernel
theorem dX6_laws_4 : decode cX6_laws 4 = .ok (.ifCond .ne 9, 3) := by decide +kernel
theorem dX6_laws_7 : decode cX6_laws 7 = .ok (.aload_n 0, 1) := by decide +kernel
theorem dX6_laws_8 : decode cX6_laws 8 = .ok (.iconst (-1), 1) := by decide +kernel
theorem dX6_laws_9 : decode cX6_laws 9 = .ok (.invokevirtual 53, 3) := by decide +kernel
theorem dX6_laws_12 : decode cX6_laws 12 = .ok (.ireturn, 1) := by decide +kernel
theorem dX6_laws_13 : decode cX6_laws 13 = .ok (.iload_n 2, 1) := by decide +kernel
theorem dX6_laws_14 : decode cX6_laws 14 = .ok (.invokestatic 57, 3) := by decide +kernel
theorem dX6_laws_17 : decode cX6_laws 17 = .ok (.ifCond .eq 22, 3) := by decide +kernel
theorem dX6_laws_20 : decode cX6_laws 20 = .ok (.iload 4, 2) := by decide +kernel
theorem dX6_laws_22 : decode cX6_laws 22 = .ok (.invokestatic 151, 3) := by decide +kernel
theorem dX6_laws_25 : decode cX6_laws 25 = .ok (.ifCond .eq 14, 3) := by decide +kernel
theorem dX6_laws_28 : decode cX6_laws 28 = .ok (.iload 5, 2) := by decide +kernel
theorem dX6_laws_30 : decode cX6_laws 30 = .ok (.ifCond .lt 9, 3) := by decide +kernel
theorem dX6_laws_33 : decode cX6_laws 33 = .ok (.iload 5, 2) := by decide +kernel
theorem dX6_laws_35 : decode cX6_laws 35 = .ok (.iconst 2, 1) := by decide +kernel
theorem dX6_laws_36 : decode cX6_laws 36 = .ok (.if_icmp .le 10, 3) := by decide +kernel
theorem dX6_laws_39 : decode cX6_laws 39 = .ok (.aload_n 0, 1) := by decide +kernel
theorem dX6_laws_40 : decode cX6_laws 40 = .ok (.bipush (-2), 2) := by decide +kernel
theorem dX6_laws_42 : decode cX6_laws 42 = .ok (.invokevirtual 53, 3) := by decide +kernel
theorem dX6_laws_45 : decode cX6_laws 45 = .ok (.ireturn, 1) := by decide +kernel
theorem dX6_laws_46 : decode cX6_laws 46 = .ok (.aload_n 0, 1) := by decide +kernel
theorem dX6_laws_47 : decode cX6_laws 47 = .ok (.getfield 44, 3) := by decide +kernel
theorem dX6_laws_50 : decode cX6_laws 50 = .ok (.iload_n 1, 1) := by decide +kernel
theorem dX6_laws_51 : decode cX6_laws 51 = .ok (.aaload, 1) := by decide +kernel
theorem dX6_laws_52 : decode cX6_laws 52 = .ok (.astore 6, 2) := by decide +kernel
theorem dX6_laws_54 : decode cX6_laws 54 = .ok (.aload 6, 2) := by decide +kernel
theorem dX6_laws_56 : decode cX6_laws 56 = .ok (.iload_n 2, 1) := by decide +kernel
theorem dX6_laws_57 : decode cX6_laws 57 = .ok (.iload_n 3, 1) := by decide +kernel
theorem dX6_laws_58 : decode cX6_laws 58 = .ok (.iload 4, 2) := by decide +kernel
theorem dX6_laws_60 : decode cX6_laws 60 = .ok (.invokevirtual 60, 3) := by decide +kernel
theorem dX6_laws_63 : decode cX6_laws 63 = .ok (.istore 7, 2) := by decide +kernel
theorem dX6_laws_65 : decode cX6_laws 65 = .ok (.iload 7, 2) := by decide +kernel
theorem dX6_laws_67 : decode cX6_laws 67 = .ok (.ifCond .eq 10, 3) := by decide +kernel
theorem dX6_laws_70 : decode cX6_laws 70 = .ok (.aload_n 0, 1) := by decide +kernel
theorem dX6_laws_71 : decode cX6_laws 71 = .ok (.iload 7, 2) := by decide +kernel
theorem dX6_laws_73 : decode cX6_laws 73 = .ok (.invokevirtual 64, 3) := by decide +kernel
theorem dX6_laws_76 : decode cX6_laws 76 = .ok (.ireturn, 1) := by decide +kernel
theorem dX6_laws_77 : decode cX6_laws 77 = .ok (.iconst 0, 1) := by decide +kernel
theorem dX6_laws_78 : decode cX6_laws 78 = .ok (.istore 8, 2) := by decide +kernel
theorem dX6_laws_80 : decode cX6_laws 80 = .ok (.iload 8, 2) := by decide +kernel
theorem dX6_laws_82 : decode cX6_laws 82 = .ok (.iload 4, 2) := by decide +kernel
theorem dX6_laws_84 : decode cX6_laws 84 = .ok (.if_icmp .ge 31, 3) := by decide +kernel
theorem dX6_laws_87 : decode cX6_laws 87 = .ok (.aload 6, 2) := by decide +kernel
theorem dX6_laws_89 : decode cX6_laws 89 = .ok (.iload_n 3, 1) := by decide +kernel
theorem dX6_laws_90 : decode cX6_laws 90 = .ok (.iload 8, 2) := by decide +kernel
theorem dX6_laws_92 : decode cX6_laws 92 = .ok (.iadd, 1) := by decide +kernel
theorem dX6_laws_93 : decode cX6_laws 93 = .ok (.invokevirtual 179, 3) := by decide +kernel
theorem dX6_laws_96 : decode cX6_laws 96 = .ok (.invokestatic 168, 3) := by decide +kernel
theorem dX6_laws_99 : decode cX6_laws 99 = .ok (.ifCond .ne 10, 3) := by decide +kernel
theorem dX6_laws_102 : decode cX6_laws 102 = .ok (.aload_n 0, 1) := by decide +kernel
theorem dX6_laws_103 : decode cX6_laws 103 = .ok (.bipush (-2), 2) := by decide +kernel
theorem dX6_laws_105 : decode cX6_laws 105 = .ok (.invokevirtual 53, 3) := by decide +kernel
theorem dX6_laws_108 : decode cX6_laws 108 = .ok (.ireturn, 1) := by decide +kernel
theorem dX6_laws_109 : decode cX6_laws 109 = .ok (.iinc 8 1, 3) := by decide +kernel
theorem dX6_laws_112 : decode cX6_laws 112 = .ok (.goto (-32), 3) := by decide +kernel
theorem dX6_laws_115 : decode cX6_laws 115 = .ok (.aload_n 0, 1) := by decide +kernel
theorem dX6_laws_116 : decode cX6_laws 116 = .ok (.aload 6, 2) := by decide +kernel
theorem dX6_laws_118 : decode cX6_laws 118 = .ok (.iload_n 3, 1) := by decide +kernel
theorem dX6_laws_119 : decode cX6_laws 119 = .ok (.iload 4, 2) := by decide +kernel
theorem dX6_laws_121 : decode cX6_laws 121 = .ok (.iload 5, 2) := by decide +kernel
theorem dX6_laws_123 : decode cX6_laws 123 = .ok (.invokestatic 182, 3) := by decide +kernel
theorem dX6_laws_126 : decode cX6_laws 126 = .ok (.invokevirtual 53, 3) := by decide +kernel
theorem dX6_laws_129 : decode cX6_laws 129 = .ok (.ireturn, 1) := by decide +kernel
theorem dX6_lawsBy_0 : decode cX6_lawsBy 0 = .ok (.iconst 0, 1) := by decide +kernel
theorem dX6_lawsBy_1 : decode cX6_lawsBy 1 = .ok (.istore 4, 2) := by decide +kernel
theorem dX6_lawsBy_3 : decode cX6_lawsBy 3 = .ok (.iconst 0, 1) := by decide +kernel
theorem dX6_lawsBy_4 : decode cX6_lawsBy 4 = .ok (.istore 5, 2) := by decide +kernel
theorem dX6_lawsBy_6 : decode cX6_lawsBy 6 = .ok (.iconst 0, 1) := by decide +kernel
theorem dX6_lawsBy_7 : decode cX6_lawsBy 7 = .ok (.istore 6, 2) := by decide +kernel
theorem dX6_lawsBy_9 : decode cX6_lawsBy 9 = .ok (.iload 6, 2) := by decide +kernel
theorem dX6_lawsBy_11 : decode cX6_lawsBy 11 = .ok (.iconst 1, 1) := by decide +kernel
theorem dX6_lawsBy_12 : decode cX6_lawsBy 12 = .ok (.iadd, 1) := by decide +kernel
theorem dX6_lawsBy_13 : decode cX6_lawsBy 13 = .ok (.iload_n 2, 1) := by decide +kernel
theorem dX6_lawsBy_14 : decode cX6_lawsBy 14 = .ok (.if_icmp .ge 86, 3) := by decide +kernel
theorem dX6_lawsBy_17 : decode cX6_lawsBy 17 = .ok (.aload_n 0, 1) := by decide +kernel
theorem dX6_lawsBy_18 : decode cX6_lawsBy 18 = .ok (.iload_n 1, 1) := by decide +kernel
theorem dX6_lawsBy_19 : decode cX6_lawsBy 19 = .ok (.iload 6, 2) := by decide +kernel
theorem dX6_lawsBy_21 : decode cX6_lawsBy 21 = .ok (.iadd, 1) := by decide +kernel
theorem dX6_lawsBy_22 : decode cX6_lawsBy 22 = .ok (.invokevirtual 179, 3) := by decide +kernel
theorem dX6_lawsBy_25 : decode cX6_lawsBy 25 = .ok (.istore 7, 2) := by decide +kernel
theorem dX6_lawsBy_27 : decode cX6_lawsBy 27 = .ok (.aload_n 0, 1) := by decide +kernel
theorem dX6_lawsBy_28 : decode cX6_lawsBy 28 = .ok (.iload_n 1, 1) := by decide +kernel
theorem dX6_lawsBy_29 : decode cX6_lawsBy 29 = .ok (.iload 6, 2) := by decide +kernel
theorem dX6_lawsBy_31 : decode cX6_lawsBy 31 = .ok (.iadd, 1) := by decide +kernel
theorem dX6_lawsBy_32 : decode cX6_lawsBy 32 = .ok (.iconst 1, 1) := by decide +kernel
theorem dX6_lawsBy_33 : decode cX6_lawsBy 33 = .ok (.iadd, 1) := by decide +kernel
theorem dX6_lawsBy_34 : decode cX6_lawsBy 34 = .ok (.invokevirtual 179, 3) := by decide +kernel
theorem dX6_lawsBy_37 : decode cX6_lawsBy 37 = .ok (.istore 8, 2) := by decide +kernel
theorem dX6_lawsBy_39 : decode cX6_lawsBy 39 = .ok (.iconst 0, 1) := by decide +kernel
theorem dX6_lawsBy_40 : decode cX6_lawsBy 40 = .ok (.istore 9, 2) := by decide +kernel
theorem dX6_lawsBy_42 : decode cX6_lawsBy 42 = .ok (.iload 9, 2) := by decide +kernel
theorem dX6_lawsBy_44 : decode cX6_lawsBy 44 = .ok (.bipush 6, 2) := by decide +kernel
theorem dX6_lawsBy_46 : decode cX6_lawsBy 46 = .ok (.if_icmp .ge 48, 3) := by decide +kernel
theorem dX6_lawsBy_49 : decode cX6_lawsBy 49 = .ok (.iconst 1, 1) := by decide +kernel
theorem dX6_lawsBy_50 : decode cX6_lawsBy 50 = .ok (.iload 7, 2) := by decide +kernel
theorem dX6_lawsBy_52 : decode cX6_lawsBy 52 = .ok (.iload 9, 2) := by decide +kernel
theorem dX6_lawsBy_54 : decode cX6_lawsBy 54 = .ok (.invokestatic 186, 3) := by decide +kernel
theorem dX6_lawsBy_57 : decode cX6_lawsBy 57 = .ok (.ishl, 1) := by decide +kernel
theorem dX6_lawsBy_58 : decode cX6_lawsBy 58 = .ok (.istore 10, 2) := by decide +kernel
theorem dX6_lawsBy_60 : decode cX6_lawsBy 60 = .ok (.iload 8, 2) := by decide +kernel
theorem dX6_lawsBy_62 : decode cX6_lawsBy 62 = .ok (.iload 9, 2) := by decide +kernel
theorem dX6_lawsBy_64 : decode cX6_lawsBy 64 = .ok (.ishr, 1) := by decide +kernel
theorem dX6_lawsBy_65 : decode cX6_lawsBy 65 = .ok (.iconst 1, 1) := by decide +kernel
theorem dX6_lawsBy_66 : decode cX6_lawsBy 66 = .ok (.iand, 1) := by decide +kernel
theorem dX6_lawsBy_67 : decode cX6_lawsBy 67 = .ok (.iconst 1, 1) := by decide +kernel
theorem dX6_lawsBy_68 : decode cX6_lawsBy 68 = .ok (.if_icmp .ne 13, 3) := by decide +kernel
theorem dX6_lawsBy_71 : decode cX6_lawsBy 71 = .ok (.iload 4, 2) := by decide +kernel
theorem dX6_lawsBy_73 : decode cX6_lawsBy 73 = .ok (.iload 10, 2) := by decide +kernel
theorem dX6_lawsBy_75 : decode cX6_lawsBy 75 = .ok (.ior, 1) := by decide +kernel
theorem dX6_lawsBy_76 : decode cX6_lawsBy 76 = .ok (.istore 4, 2) := by decide +kernel
theorem dX6_lawsBy_78 : decode cX6_lawsBy 78 = .ok (.goto 10, 3) := by decide +kernel
theorem dX6_lawsBy_81 : decode cX6_lawsBy 81 = .ok (.iload 5, 2) := by decide +kernel
theorem dX6_lawsBy_83 : decode cX6_lawsBy 83 = .ok (.iload 10, 2) := by decide +kernel
theorem dX6_lawsBy_85 : decode cX6_lawsBy 85 = .ok (.ior, 1) := by decide +kernel
theorem dX6_lawsBy_86 : decode cX6_lawsBy 86 = .ok (.istore 5, 2) := by decide +kernel
theorem dX6_lawsBy_88 : decode cX6_lawsBy 88 = .ok (.iinc 9 1, 3) := by decide +kernel
theorem dX6_lawsBy_91 : decode cX6_lawsBy 91 = .ok (.goto (-49), 3) := by decide +kernel
theorem dX6_lawsBy_94 : decode cX6_lawsBy 94 = .ok (.iinc 6 1, 3) := by decide +kernel
theorem dX6_lawsBy_97 : decode cX6_lawsBy 97 = .ok (.goto (-88), 3) := by decide +kernel
theorem dX6_lawsBy_100 : decode cX6_lawsBy 100 = .ok (.iload 4, 2) := by decide +kernel
theorem dX6_lawsBy_102 : decode cX6_lawsBy 102 = .ok (.iload 5, 2) := by decide +kernel
theorem dX6_lawsBy_104 : decode cX6_lawsBy 104 = .ok (.iand, 1) := by decide +kernel
theorem dX6_lawsBy_105 : decode cX6_lawsBy 105 = .ok (.ifCond .ne 7, 3) := by decide +kernel
theorem dX6_lawsBy_108 : decode cX6_lawsBy 108 = .ok (.iconst 1, 1) := by decide +kernel
theorem dX6_lawsBy_109 : decode cX6_lawsBy 109 = .ok (.goto 4, 3) := by decide +kernel
theorem dX6_lawsBy_112 : decode cX6_lawsBy 112 = .ok (.iconst 0, 1) := by decide +kernel
theorem dX6_lawsBy_113 : decode cX6_lawsBy 113 = .ok (.istore 6, 2) := by decide +kernel
theorem dX6_lawsBy_115 : decode cX6_lawsBy 115 = .ok (.iload_n 3, 1) := by decide +kernel
theorem dX6_lawsBy_116 : decode cX6_lawsBy 116 = .ok (.ifCond .ne 25, 3) := by decide +kernel
theorem dX6_lawsBy_119 : decode cX6_lawsBy 119 = .ok (.iload 6, 2) := by decide +kernel
theorem dX6_lawsBy_121 : decode cX6_lawsBy 121 = .ok (.ifCond .eq 18, 3) := by decide +kernel
theorem dX6_lawsBy_124 : decode cX6_lawsBy 124 = .ok (.sipush 256, 3) := by decide +kernel
theorem dX6_lawsBy_127 : decode cX6_lawsBy 127 = .ok (.iload 4, 2) := by decide +kernel
theorem dX6_lawsBy_129 : decode cX6_lawsBy 129 = .ok (.iload 5, 2) := by decide +kernel
theorem dX6_lawsBy_131 : decode cX6_lawsBy 131 = .ok (.ior, 1) := by decide +kernel
theorem dX6_lawsBy_132 : decode cX6_lawsBy 132 = .ok (.invokestatic 111, 3) := by decide +kernel
theorem dX6_lawsBy_135 : decode cX6_lawsBy 135 = .ok (.ishr, 1) := by decide +kernel
theorem dX6_lawsBy_136 : decode cX6_lawsBy 136 = .ok (.goto 4, 3) := by decide +kernel
theorem dX6_lawsBy_139 : decode cX6_lawsBy 139 = .ok (.iconst 0, 1) := by decide +kernel
theorem dX6_lawsBy_140 : decode cX6_lawsBy 140 = .ok (.ireturn, 1) := by decide +kernel
theorem dX6_lawsBy_141 : decode cX6_lawsBy 141 = .ok (.iload 6, 2) := by decide +kernel
theorem dX6_lawsBy_143 : decode cX6_lawsBy 143 = .ok (.ifCond .ne 6, 3) := by decide +kernel
theorem dX6_lawsBy_146 : decode cX6_lawsBy 146 = .ok (.bipush (-9), 2) := by decide +kernel
theorem dX6_lawsBy_148 : decode cX6_lawsBy 148 = .ok (.ireturn, 1) := by decide +kernel
theorem dX6_lawsBy_149 : decode cX6_lawsBy 149 = .ok (.iload_n 3, 1) := by decide +kernel
theorem dX6_lawsBy_150 : decode cX6_lawsBy 150 = .ok (.iconst 1, 1) := by decide +kernel
theorem dX6_lawsBy_151 : decode cX6_lawsBy 151 = .ok (.if_icmp .ne 8, 3) := by decide +kernel
theorem dX6_lawsBy_154 : decode cX6_lawsBy 154 = .ok (.iload 4, 2) := by decide +kernel
theorem dX6_lawsBy_156 : decode cX6_lawsBy 156 = .ok (.goto 9, 3) := by decide +kernel
theorem dX6_lawsBy_159 : decode cX6_lawsBy 159 = .ok (.sipush 255, 3) := by decide +kernel
theorem dX6_lawsBy_162 : decode cX6_lawsBy 162 = .ok (.iload 5, 2) := by decide +kernel
theorem dX6_lawsBy_164 : decode cX6_lawsBy 164 = .ok (.isub, 1) := by decide +kernel
theorem dX6_lawsBy_165 : decode cX6_lawsBy 165 = .ok (.ireturn, 1) := by decide +kernel
theorem dX6_reading_0 : decode cX6_reading 0 = .ok (.aload_n 0, 1) := by decide +kernel
theorem dX6_reading_1 : decode cX6_reading 1 = .ok (.getfield 21, 3) := by decide +kernel
theorem dX6_reading_4 : decode cX6_reading 4 = .ok (.iload_n 1, 1) := by decide +kernel
theorem dX6_reading_5 : decode cX6_reading 5 = .ok (.invokevirtual 92, 3) := by decide +kernel
theorem dX6_reading_8 : decode cX6_reading 8 = .ok (.ifCond .ne 5, 3) := by decide +kernel
theorem dX6_reading_11 : decode cX6_reading 11 = .ok (.iconst (-1), 1) := by decide +kernel
theorem dX6_reading_12 : decode cX6_reading 12 = .ok (.ireturn, 1) := by decide +kernel
theorem dX6_reading_13 : decode cX6_reading 13 = .ok (.iload_n 2, 1) := by decide +kernel
theorem dX6_reading_14 : decode cX6_reading 14 = .ok (.ifCond .lt 16, 3) := by decide +kernel
theorem dX6_reading_17 : decode cX6_reading 17 = .ok (.iload_n 2, 1) := by decide +kernel
theorem dX6_reading_18 : decode cX6_reading 18 = .ok (.bipush 99, 2) := by decide +kernel
theorem dX6_reading_20 : decode cX6_reading 20 = .ok (.if_icmp .gt 10, 3) := by decide +kernel
theorem dX6_reading_23 : decode cX6_reading 23 = .ok (.iload_n 3, 1) := by decide +kernel
theorem dX6_reading_24 : decode cX6_reading 24 = .ok (.invokestatic 168, 3) := by decide +kernel
theorem dX6_reading_27 : decode cX6_reading 27 = .ok (.ifCond .ne 6, 3) := by decide +kernel
theorem dX6_reading_30 : decode cX6_reading 30 = .ok (.bipush (-2), 2) := by decide +kernel
theorem dX6_reading_32 : decode cX6_reading 32 = .ok (.ireturn, 1) := by decide +kernel
theorem dX6_reading_33 : decode cX6_reading 33 = .ok (.aload_n 0, 1) := by decide +kernel
theorem dX6_reading_34 : decode cX6_reading 34 = .ok (.getfield 38, 3) := by decide +kernel
theorem dX6_reading_37 : decode cX6_reading 37 = .ok (.iload_n 1, 1) := by decide +kernel
theorem dX6_reading_38 : decode cX6_reading 38 = .ok (.iload_n 2, 1) := by decide +kernel
theorem dX6_reading_39 : decode cX6_reading 39 = .ok (.iload_n 3, 1) := by decide +kernel
theorem dX6_reading_40 : decode cX6_reading 40 = .ok (.invokevirtual 189, 3) := by decide +kernel
theorem dX6_reading_43 : decode cX6_reading 43 = .ok (.ireturn, 1) := by decide +kernel
theorem dX6_back_0 : decode cX6_back 0 = .ok (.iload_n 1, 1) := by decide +kernel
theorem dX6_back_1 : decode cX6_back 1 = .ok (.ifCond .lt 14, 3) := by decide +kernel
theorem dX6_back_4 : decode cX6_back 4 = .ok (.iload_n 1, 1) := by decide +kernel
theorem dX6_back_5 : decode cX6_back 5 = .ok (.aload_n 0, 1) := by decide +kernel
theorem dX6_back_6 : decode cX6_back 6 = .ok (.getfield 38, 3) := by decide +kernel
theorem dX6_back_9 : decode cX6_back 9 = .ok (.getfield 192, 3) := by decide +kernel
theorem dX6_back_12 : decode cX6_back 12 = .ok (.if_icmp .le 6, 3) := by decide +kernel
theorem dX6_back_15 : decode cX6_back 15 = .ok (.bipush (-2), 2) := by decide +kernel
theorem dX6_back_17 : decode cX6_back 17 = .ok (.ireturn, 1) := by decide +kernel
theorem dX6_back_18 : decode cX6_back 18 = .ok (.aload_n 0, 1) := by decide +kernel
theorem dX6_back_19 : decode cX6_back 19 = .ok (.getfield 38, 3) := by decide +kernel
theorem dX6_back_22 : decode cX6_back 22 = .ok (.dup, 1) := by decide +kernel
theorem dX6_back_23 : decode cX6_back 23 = .ok (.getfield 192, 3) := by decide +kernel
theorem dX6_back_26 : decode cX6_back 26 = .ok (.iload_n 1, 1) := by decide +kernel
theorem dX6_back_27 : decode cX6_back 27 = .ok (.isub, 1) := by decide +kernel
theorem dX6_back_28 : decode cX6_back 28 = .ok (.putfield 192, 3) := by decide +kernel
theorem dX6_back_31 : decode cX6_back 31 = .ok (.aload_n 0, 1) := by decide +kernel
theorem dX6_back_32 : decode cX6_back 32 = .ok (.getfield 38, 3) := by decide +kernel
theorem dX6_back_35 : decode cX6_back 35 = .ok (.getfield 192, 3) := by decide +kernel
theorem dX6_back_38 : decode cX6_back 38 = .ok (.ireturn, 1) := by decide +kernel
theorem dX6_paces_0 : decode cX6_paces 0 = .ok (.aload_n 0, 1) := by decide +kernel
theorem dX6_paces_1 : decode cX6_paces 1 = .ok (.getfield 21, 3) := by decide +kernel
theorem dX6_paces_4 : decode cX6_paces 4 = .ok (.iload_n 1, 1) := by decide +kernel
theorem dX6_paces_5 : decode cX6_paces 5 = .ok (.invokevirtual 92, 3) := by decide +kernel
theorem dX6_paces_8 : decode cX6_paces 8 = .ok (.ifCond .ne 5, 3) := by decide +kernel
theorem dX6_paces_11 : decode cX6_paces 11 = .ok (.iconst (-1), 1) := by decide +kernel
theorem dX6_paces_12 : decode cX6_paces 12 = .ok (.ireturn, 1) := by decide +kernel
theorem dX6_paces_13 : decode cX6_paces 13 = .ok (.aload_n 0, 1) := by decide +kernel
theorem dX6_paces_14 : decode cX6_paces 14 = .ok (.getfield 25, 3) := by decide +kernel
theorem dX6_paces_17 : decode cX6_paces 17 = .ok (.aload_n 0, 1) := by decide +kernel
theorem dX6_paces_18 : decode cX6_paces 18 = .ok (.getfield 21, 3) := by decide +kernel
theorem dX6_paces_21 : decode cX6_paces 21 = .ok (.invokevirtual 130, 3) := by decide +kernel
theorem dX6_paces_24 : decode cX6_paces 24 = .ok (.iconst 0, 1) := by decide +kernel
theorem dX6_paces_25 : decode cX6_paces 25 = .ok (.istore_n 2, 1) := by decide +kernel
theorem dX6_paces_26 : decode cX6_paces 26 = .ok (.iconst 1, 1) := by decide +kernel
theorem dX6_paces_27 : decode cX6_paces 27 = .ok (.istore_n 3, 1) := by decide +kernel
theorem dX6_paces_28 : decode cX6_paces 28 = .ok (.iload_n 3, 1) := by decide +kernel
theorem dX6_paces_29 : decode cX6_paces 29 = .ok (.iconst 4, 1) := by decide +kernel
theorem dX6_paces_30 : decode cX6_paces 30 = .ok (.if_icmp .gt 43, 3) := by decide +kernel
theorem dX6_paces_33 : decode cX6_paces 33 = .ok (.aload_n 0, 1) := by decide +kernel
theorem dX6_paces_34 : decode cX6_paces 34 = .ok (.getfield 25, 3) := by decide +kernel
theorem dX6_paces_37 : decode cX6_paces 37 = .ok (.getfield 102, 3) := by decide +kernel
theorem dX6_paces_40 : decode cX6_paces 40 = .ok (.iload_n 1, 1) := by decide +kernel
theorem dX6_paces_41 : decode cX6_paces 41 = .ok (.iload_n 3, 1) := by decide +kernel
theorem dX6_paces_42 : decode cX6_paces 42 = .ok (.iastore, 1) := by decide +kernel
theorem dX6_paces_43 : decode cX6_paces 43 = .ok (.aload_n 0, 1) := by decide +kernel
theorem dX6_paces_44 : decode cX6_paces 44 = .ok (.getfield 38, 3) := by decide +kernel
theorem dX6_paces_47 : decode cX6_paces 47 = .ok (.aload_n 0, 1) := by decide +kernel
theorem dX6_paces_48 : decode cX6_paces 48 = .ok (.getfield 25, 3) := by decide +kernel
theorem dX6_paces_51 : decode cX6_paces 51 = .ok (.aload_n 0, 1) := by decide +kernel
theorem dX6_paces_52 : decode cX6_paces 52 = .ok (.getfield 12, 3) := by decide +kernel
theorem dX6_paces_55 : decode cX6_paces 55 = .ok (.invokevirtual 193, 3) := by decide +kernel
theorem dX6_paces_58 : decode cX6_paces 58 = .ok (.ifCond .eq 9, 3) := by decide +kernel
theorem dX6_paces_61 : decode cX6_paces 61 = .ok (.iload_n 2, 1) := by decide +kernel
theorem dX6_paces_62 : decode cX6_paces 62 = .ok (.iconst 1, 1) := by decide +kernel
theorem dX6_paces_63 : decode cX6_paces 63 = .ok (.iload_n 3, 1) := by decide +kernel
theorem dX6_paces_64 : decode cX6_paces 64 = .ok (.ishl, 1) := by decide +kernel
theorem dX6_paces_65 : decode cX6_paces 65 = .ok (.ior, 1) := by decide +kernel
theorem dX6_paces_66 : decode cX6_paces 66 = .ok (.istore_n 2, 1) := by decide +kernel
theorem dX6_paces_67 : decode cX6_paces 67 = .ok (.iinc 3 1, 3) := by decide +kernel
theorem dX6_paces_70 : decode cX6_paces 70 = .ok (.goto (-42), 3) := by decide +kernel
theorem dX6_paces_73 : decode cX6_paces 73 = .ok (.iload_n 2, 1) := by decide +kernel
theorem dX6_paces_74 : decode cX6_paces 74 = .ok (.ireturn, 1) := by decide +kernel
theorem dX6_kinds_0 : decode cX6_kinds 0 = .ok (.aload_n 0, 1) := by decide +kernel
theorem dX6_kinds_1 : decode cX6_kinds 1 = .ok (.getfield 21, 3) := by decide +kernel
theorem dX6_kinds_4 : decode cX6_kinds 4 = .ok (.iload_n 1, 1) := by decide +kernel
theorem dX6_kinds_5 : decode cX6_kinds 5 = .ok (.invokevirtual 92, 3) := by decide +kernel
theorem dX6_kinds_8 : decode cX6_kinds 8 = .ok (.ifCond .ne 5, 3) := by decide +kernel
theorem dX6_kinds_11 : decode cX6_kinds 11 = .ok (.iconst (-1), 1) := by decide +kernel
theorem dX6_kinds_12 : decode cX6_kinds 12 = .ok (.ireturn, 1) := by decide +kernel
theorem dX6_kinds_13 : decode cX6_kinds 13 = .ok (.aload_n 0, 1) := by decide +kernel
theorem dX6_kinds_14 : decode cX6_kinds 14 = .ok (.getfield 25, 3) := by decide +kernel
theorem dX6_kinds_17 : decode cX6_kinds 17 = .ok (.aload_n 0, 1) := by decide +kernel
theorem dX6_kinds_18 : decode cX6_kinds 18 = .ok (.getfield 21, 3) := by decide +kernel
theorem dX6_kinds_21 : decode cX6_kinds 21 = .ok (.invokevirtual 130, 3) := by decide +kernel
theorem dX6_kinds_24 : decode cX6_kinds 24 = .ok (.iconst 0, 1) := by decide +kernel
theorem dX6_kinds_25 : decode cX6_kinds 25 = .ok (.istore_n 2, 1) := by decide +kernel
theorem dX6_kinds_26 : decode cX6_kinds 26 = .ok (.iconst 0, 1) := by decide +kernel
theorem dX6_kinds_27 : decode cX6_kinds 27 = .ok (.istore_n 3, 1) := by decide +kernel
theorem dX6_kinds_28 : decode cX6_kinds 28 = .ok (.iload_n 3, 1) := by decide +kernel
theorem dX6_kinds_29 : decode cX6_kinds 29 = .ok (.iconst 3, 1) := by decide +kernel
theorem dX6_kinds_30 : decode cX6_kinds 30 = .ok (.if_icmp .ge 43, 3) := by decide +kernel
theorem dX6_kinds_33 : decode cX6_kinds 33 = .ok (.aload_n 0, 1) := by decide +kernel
theorem dX6_kinds_34 : decode cX6_kinds 34 = .ok (.getfield 25, 3) := by decide +kernel
theorem dX6_kinds_37 : decode cX6_kinds 37 = .ok (.getfield 95, 3) := by decide +kernel
theorem dX6_kinds_40 : decode cX6_kinds 40 = .ok (.iload_n 1, 1) := by decide +kernel
theorem dX6_kinds_41 : decode cX6_kinds 41 = .ok (.iload_n 3, 1) := by decide +kernel
theorem dX6_kinds_42 : decode cX6_kinds 42 = .ok (.iastore, 1) := by decide +kernel
theorem dX6_kinds_43 : decode cX6_kinds 43 = .ok (.aload_n 0, 1) := by decide +kernel
theorem dX6_kinds_44 : decode cX6_kinds 44 = .ok (.getfield 38, 3) := by decide +kernel
theorem dX6_kinds_47 : decode cX6_kinds 47 = .ok (.aload_n 0, 1) := by decide +kernel
theorem dX6_kinds_48 : decode cX6_kinds 48 = .ok (.getfield 25, 3) := by decide +kernel
theorem dX6_kinds_51 : decode cX6_kinds 51 = .ok (.aload_n 0, 1) := by decide +kernel
theorem dX6_kinds_52 : decode cX6_kinds 52 = .ok (.getfield 12, 3) := by decide +kernel
theorem dX6_kinds_55 : decode cX6_kinds 55 = .ok (.invokevirtual 193, 3) := by decide +kernel
theorem dX6_kinds_58 : decode cX6_kinds 58 = .ok (.ifCond .eq 9, 3) := by decide +kernel
theorem dX6_kinds_61 : decode cX6_kinds 61 = .ok (.iload_n 2, 1) := by decide +kernel
theorem dX6_kinds_62 : decode cX6_kinds 62 = .ok (.iconst 1, 1) := by decide +kernel
theorem dX6_kinds_63 : decode cX6_kinds 63 = .ok (.iload_n 3, 1) := by decide +kernel
theorem dX6_kinds_64 : decode cX6_kinds 64 = .ok (.ishl, 1) := by decide +kernel
theorem dX6_kinds_65 : decode cX6_kinds 65 = .ok (.ior, 1) := by decide +kernel
theorem dX6_kinds_66 : decode cX6_kinds 66 = .ok (.istore_n 2, 1) := by decide +kernel
theorem dX6_kinds_67 : decode cX6_kinds 67 = .ok (.iinc 3 1, 3) := by decide +kernel
theorem dX6_kinds_70 : decode cX6_kinds 70 = .ok (.goto (-42), 3) := by decide +kernel
theorem dX6_kinds_73 : decode cX6_kinds 73 = .ok (.iload_n 2, 1) := by decide +kernel
theorem dX6_kinds_74 : decode cX6_kinds 74 = .ok (.ireturn, 1) := by decide +kernel
theorem dX6_starts_0 : decode cX6_starts 0 = .ok (.aload_n 0, 1) := by decide +kernel
theorem dX6_starts_1 : decode cX6_starts 1 = .ok (.getfield 21, 3) := by decide +kernel
theorem dX6_starts_4 : decode cX6_starts 4 = .ok (.iload_n 1, 1) := by decide +kernel
theorem dX6_starts_5 : decode cX6_starts 5 = .ok (.invokevirtual 92, 3) := by decide +kernel
theorem dX6_starts_8 : decode cX6_starts 8 = .ok (.ifCond .ne 5, 3) := by decide +kernel
theorem dX6_starts_11 : decode cX6_starts 11 = .ok (.lconst 0, 1) := by decide +kernel
theorem dX6_starts_12 : decode cX6_starts 12 = .ok (.lreturn, 1) := by decide +kernel
theorem dX6_starts_13 : decode cX6_starts 13 = .ok (.aload_n 0, 1) := by decide +kernel
theorem dX6_starts_14 : decode cX6_starts 14 = .ok (.getfield 25, 3) := by decide +kernel
theorem dX6_starts_17 : decode cX6_starts 17 = .ok (.aload_n 0, 1) := by decide +kernel
theorem dX6_starts_18 : decode cX6_starts 18 = .ok (.getfield 21, 3) := by decide +kernel
theorem dX6_starts_21 : decode cX6_starts 21 = .ok (.invokevirtual 130, 3) := by decide +kernel
theorem dX6_starts_24 : decode cX6_starts 24 = .ok (.lconst 0, 1) := by decide +kernel
theorem dX6_starts_25 : decode cX6_starts 25 = .ok (.lstore_n 2, 1) := by decide +kernel
theorem dX6_starts_26 : decode cX6_starts 26 = .ok (.iconst 0, 1) := by decide +kernel
theorem dX6_starts_27 : decode cX6_starts 27 = .ok (.istore 4, 2) := by decide +kernel
theorem dX6_starts_29 : decode cX6_starts 29 = .ok (.iload 4, 2) := by decide +kernel
theorem dX6_starts_31 : decode cX6_starts 31 = .ok (.bipush 64, 2) := by decide +kernel
theorem dX6_starts_33 : decode cX6_starts 33 = .ok (.if_icmp .ge 45, 3) := by decide +kernel
theorem dX6_starts_36 : decode cX6_starts 36 = .ok (.aload_n 0, 1) := by decide +kernel
theorem dX6_starts_37 : decode cX6_starts 37 = .ok (.getfield 25, 3) := by decide +kernel
theorem dX6_starts_40 : decode cX6_starts 40 = .ok (.getfield 99, 3) := by decide +kernel
theorem dX6_starts_43 : decode cX6_starts 43 = .ok (.iload_n 1, 1) := by decide +kernel
theorem dX6_starts_44 : decode cX6_starts 44 = .ok (.iload 4, 2) := by decide +kernel
theorem dX6_starts_46 : decode cX6_starts 46 = .ok (.iastore, 1) := by decide +kernel
theorem dX6_starts_47 : decode cX6_starts 47 = .ok (.aload_n 0, 1) := by decide +kernel
theorem dX6_starts_48 : decode cX6_starts 48 = .ok (.getfield 38, 3) := by decide +kernel
theorem dX6_starts_51 : decode cX6_starts 51 = .ok (.aload_n 0, 1) := by decide +kernel
theorem dX6_starts_52 : decode cX6_starts 52 = .ok (.getfield 25, 3) := by decide +kernel
theorem dX6_starts_55 : decode cX6_starts 55 = .ok (.aload_n 0, 1) := by decide +kernel
theorem dX6_starts_56 : decode cX6_starts 56 = .ok (.getfield 12, 3) := by decide +kernel
theorem dX6_starts_59 : decode cX6_starts 59 = .ok (.invokevirtual 193, 3) := by decide +kernel
theorem dX6_starts_62 : decode cX6_starts 62 = .ok (.ifCond .eq 10, 3) := by decide +kernel
theorem dX6_starts_65 : decode cX6_starts 65 = .ok (.lload_n 2, 1) := by decide +kernel
theorem dX6_starts_66 : decode cX6_starts 66 = .ok (.lconst 1, 1) := by decide +kernel
theorem dX6_starts_67 : decode cX6_starts 67 = .ok (.iload 4, 2) := by decide +kernel
theorem dX6_starts_69 : decode cX6_starts 69 = .ok (.lshl, 1) := by decide +kernel
theorem dX6_starts_70 : decode cX6_starts 70 = .ok (.lor, 1) := by decide +kernel
theorem dX6_starts_71 : decode cX6_starts 71 = .ok (.lstore_n 2, 1) := by decide +kernel
theorem dX6_starts_72 : decode cX6_starts 72 = .ok (.iinc 4 1, 3) := by decide +kernel
theorem dX6_starts_75 : decode cX6_starts 75 = .ok (.goto (-46), 3) := by decide +kernel
theorem dX6_starts_78 : decode cX6_starts 78 = .ok (.lload_n 2, 1) := by decide +kernel
theorem dX6_starts_79 : decode cX6_starts 79 = .ok (.lreturn, 1) := by decide +kernel
theorem dX6_odds_0 : decode cX6_odds 0 = .ok (.aload_n 0, 1) := by decide +kernel
theorem dX6_odds_1 : decode cX6_odds 1 = .ok (.getfield 21, 3) := by decide +kernel
theorem dX6_odds_4 : decode cX6_odds 4 = .ok (.iload_n 1, 1) := by decide +kernel
theorem dX6_odds_5 : decode cX6_odds 5 = .ok (.invokevirtual 92, 3) := by decide +kernel
theorem dX6_odds_8 : decode cX6_odds 8 = .ok (.ifCond .ne 7, 3) := by decide +kernel
theorem dX6_odds_11 : decode cX6_odds 11 = .ok (.ldc2_w 177, 3) := by decide +kernel
theorem dX6_odds_14 : decode cX6_odds 14 = .ok (.lreturn, 1) := by decide +kernel
theorem dX6_odds_15 : decode cX6_odds 15 = .ok (.iload_n 2, 1) := by decide +kernel
theorem dX6_odds_16 : decode cX6_odds 16 = .ok (.ifCond .lt 27, 3) := by decide +kernel
theorem dX6_odds_19 : decode cX6_odds 19 = .ok (.iload_n 2, 1) := by decide +kernel
theorem dX6_odds_20 : decode cX6_odds 20 = .ok (.bipush 99, 2) := by decide +kernel
theorem dX6_odds_22 : decode cX6_odds 22 = .ok (.if_icmp .gt 21, 3) := by decide +kernel
theorem dX6_odds_25 : decode cX6_odds 25 = .ok (.iload_n 3, 1) := by decide +kernel
theorem dX6_odds_26 : decode cX6_odds 26 = .ok (.invokestatic 168, 3) := by decide +kernel
theorem dX6_odds_29 : decode cX6_odds 29 = .ok (.ifCond .eq 14, 3) := by decide +kernel
theorem dX6_odds_32 : decode cX6_odds 32 = .ok (.iload 4, 2) := by decide +kernel
theorem dX6_odds_34 : decode cX6_odds 34 = .ok (.ifCond .lt 9, 3) := by decide +kernel
theorem dX6_odds_37 : decode cX6_odds 37 = .ok (.iload 4, 2) := by decide +kernel
theorem dX6_odds_39 : decode cX6_odds 39 = .ok (.iconst 1, 1) := by decide +kernel
theorem dX6_odds_40 : decode cX6_odds 40 = .ok (.if_icmp .le 7, 3) := by decide +kernel
theorem dX6_odds_43 : decode cX6_odds 43 = .ok (.ldc2_w 177, 3) := by decide +kernel
theorem dX6_odds_46 : decode cX6_odds 46 = .ok (.lreturn, 1) := by decide +kernel
theorem dX6_odds_47 : decode cX6_odds 47 = .ok (.iconst 0, 1) := by decide +kernel
theorem dX6_odds_48 : decode cX6_odds 48 = .ok (.istore 5, 2) := by decide +kernel
theorem dX6_odds_50 : decode cX6_odds 50 = .ok (.bipush 64, 2) := by decide +kernel
theorem dX6_odds_52 : decode cX6_odds 52 = .ok (.istore 6, 2) := by decide +kernel
theorem dX6_odds_54 : decode cX6_odds 54 = .ok (.iconst 0, 1) := by decide +kernel
theorem dX6_odds_55 : decode cX6_odds 55 = .ok (.istore 7, 2) := by decide +kernel
theorem dX6_odds_57 : decode cX6_odds 57 = .ok (.iload 7, 2) := by decide +kernel
theorem dX6_odds_59 : decode cX6_odds 59 = .ok (.bipush 64, 2) := by decide +kernel
theorem dX6_odds_61 : decode cX6_odds 61 = .ok (.if_icmp .ge 34, 3) := by decide +kernel
theorem dX6_odds_64 : decode cX6_odds 64 = .ok (.aload_n 0, 1) := by decide +kernel
theorem dX6_odds_65 : decode cX6_odds 65 = .ok (.getfield 12, 3) := by decide +kernel
theorem dX6_odds_68 : decode cX6_odds 68 = .ok (.iload 7, 2) := by decide +kernel
theorem dX6_odds_70 : decode cX6_odds 70 = .ok (.aload_n 0, 1) := by decide +kernel
theorem dX6_odds_71 : decode cX6_odds 71 = .ok (.getfield 21, 3) := by decide +kernel
theorem dX6_odds_74 : decode cX6_odds 74 = .ok (.iload_n 1, 1) := by decide +kernel
theorem dX6_odds_75 : decode cX6_odds 75 = .ok (.invokevirtual 105, 3) := by decide +kernel
theorem dX6_odds_78 : decode cX6_odds 78 = .ok (.iload_n 2, 1) := by decide +kernel
theorem dX6_odds_79 : decode cX6_odds 79 = .ok (.invokevirtual 197, 3) := by decide +kernel
theorem dX6_odds_82 : decode cX6_odds 82 = .ok (.iload_n 3, 1) := by decide +kernel
theorem dX6_odds_83 : decode cX6_odds 83 = .ok (.if_icmp .ne 6, 3) := by decide +kernel
theorem dX6_odds_86 : decode cX6_odds 86 = .ok (.iinc 5 1, 3) := by decide +kernel
theorem dX6_odds_89 : decode cX6_odds 89 = .ok (.iinc 7 1, 3) := by decide +kernel
theorem dX6_odds_92 : decode cX6_odds 92 = .ok (.goto (-35), 3) := by decide +kernel
theorem dX6_odds_95 : decode cX6_odds 95 = .ok (.iload 6, 2) := by decide +kernel
theorem dX6_odds_97 : decode cX6_odds 97 = .ok (.iconst 1, 1) := by decide +kernel
theorem dX6_odds_98 : decode cX6_odds 98 = .ok (.if_icmp .le 25, 3) := by decide +kernel
theorem dX6_odds_101 : decode cX6_odds 101 = .ok (.iload 5, 2) := by decide +kernel
theorem dX6_odds_103 : decode cX6_odds 103 = .ok (.iconst 2, 1) := by decide +kernel
theorem dX6_odds_104 : decode cX6_odds 104 = .ok (.irem, 1) := by decide +kernel
theorem dX6_odds_105 : decode cX6_odds 105 = .ok (.ifCond .ne 18, 3) := by decide +kernel
theorem dX6_odds_108 : decode cX6_odds 108 = .ok (.iload 5, 2) := by decide +kernel
theorem dX6_odds_110 : decode cX6_odds 110 = .ok (.iconst 2, 1) := by decide +kernel
theorem dX6_odds_111 : decode cX6_odds 111 = .ok (.idiv, 1) := by decide +kernel
theorem dX6_odds_112 : decode cX6_odds 112 = .ok (.istore 5, 2) := by decide +kernel
theorem dX6_odds_114 : decode cX6_odds 114 = .ok (.iload 6, 2) := by decide +kernel
theorem dX6_odds_116 : decode cX6_odds 116 = .ok (.iconst 2, 1) := by decide +kernel
theorem dX6_odds_117 : decode cX6_odds 117 = .ok (.idiv, 1) := by decide +kernel
theorem dX6_odds_118 : decode cX6_odds 118 = .ok (.istore 6, 2) := by decide +kernel
theorem dX6_odds_120 : decode cX6_odds 120 = .ok (.goto (-25), 3) := by decide +kernel
theorem dX6_odds_123 : decode cX6_odds 123 = .ok (.iload 4, 2) := by decide +kernel
theorem dX6_odds_125 : decode cX6_odds 125 = .ok (.ifCond .ne 9, 3) := by decide +kernel
theorem dX6_odds_128 : decode cX6_odds 128 = .ok (.iload 5, 2) := by decide +kernel
theorem dX6_odds_130 : decode cX6_odds 130 = .ok (.i2l, 1) := by decide +kernel
theorem dX6_odds_131 : decode cX6_odds 131 = .ok (.goto 6, 3) := by decide +kernel
theorem dX6_odds_134 : decode cX6_odds 134 = .ok (.iload 6, 2) := by decide +kernel
theorem dX6_odds_136 : decode cX6_odds 136 = .ok (.i2l, 1) := by decide +kernel
theorem dX6_odds_137 : decode cX6_odds 137 = .ok (.lreturn, 1) := by decide +kernel
theorem dX6_sheet_0 : decode cX6_sheet 0 = .ok (.iload_n 1, 1) := by decide +kernel
theorem dX6_sheet_1 : decode cX6_sheet 1 = .ok (.invokestatic 49, 3) := by decide +kernel
theorem dX6_sheet_4 : decode cX6_sheet 4 = .ok (.ifCond .ne 9, 3) := by decide +kernel
theorem dX6_sheet_7 : decode cX6_sheet 7 = .ok (.aload_n 0, 1) := by decide +kernel
theorem dX6_sheet_8 : decode cX6_sheet 8 = .ok (.iconst (-1), 1) := by decide +kernel
theorem dX6_sheet_9 : decode cX6_sheet 9 = .ok (.invokevirtual 53, 3) := by decide +kernel
theorem dX6_sheet_12 : decode cX6_sheet 12 = .ok (.ireturn, 1) := by decide +kernel
theorem dX6_sheet_13 : decode cX6_sheet 13 = .ok (.iload_n 2, 1) := by decide +kernel
theorem dX6_sheet_14 : decode cX6_sheet 14 = .ok (.invokestatic 57, 3) := by decide +kernel
theorem dX6_sheet_17 : decode cX6_sheet 17 = .ok (.ifCond .eq 9, 3) := by decide +kernel
theorem dX6_sheet_20 : decode cX6_sheet 20 = .ok (.iload_n 3, 1) := by decide +kernel
theorem dX6_sheet_21 : decode cX6_sheet 21 = .ok (.bipush 60, 2) := by decide +kernel
theorem dX6_sheet_23 : decode cX6_sheet 23 = .ok (.if_icmp .le 10, 3) := by decide +kernel
theorem dX6_sheet_26 : decode cX6_sheet 26 = .ok (.aload_n 0, 1) := by decide +kernel
theorem dX6_sheet_27 : decode cX6_sheet 27 = .ok (.bipush (-2), 2) := by decide +kernel
