theorem dX6_sheet_29 : decode cX6_sheet 29 = .ok (.invokevirtual 53, 3) := by decide +kernel
theorem dX6_sheet_32 : decode cX6_sheet 32 = .ok (.ireturn, 1) := by decide +kernel
theorem dX6_sheet_33 : decode cX6_sheet 33 = .ok (.iload_n 3, 1) := by decide +kernel
theorem dX6_sheet_34 : decode cX6_sheet 34 = .ok (.ifCond .ge 9, 3) := by decide +kernel
theorem dX6_sheet_37 : decode cX6_sheet 37 = .ok (.aload_n 0, 1) := by decide +kernel
theorem dX6_sheet_38 : decode cX6_sheet 38 = .ok (.iconst 4, 1) := by decide +kernel
theorem dX6_sheet_39 : decode cX6_sheet 39 = .ok (.invokevirtual 64, 3) := by decide +kernel
theorem dX6_sheet_42 : decode cX6_sheet 42 = .ok (.ireturn, 1) := by decide +kernel
theorem dX6_sheet_43 : decode cX6_sheet 43 = .ok (.aload_n 0, 1) := by decide +kernel
theorem dX6_sheet_44 : decode cX6_sheet 44 = .ok (.getfield 44, 3) := by decide +kernel
theorem dX6_sheet_47 : decode cX6_sheet 47 = .ok (.iload_n 1, 1) := by decide +kernel
theorem dX6_sheet_48 : decode cX6_sheet 48 = .ok (.aaload, 1) := by decide +kernel
theorem dX6_sheet_49 : decode cX6_sheet 49 = .ok (.iload_n 2, 1) := by decide +kernel
theorem dX6_sheet_50 : decode cX6_sheet 50 = .ok (.iload_n 3, 1) := by decide +kernel
theorem dX6_sheet_51 : decode cX6_sheet 51 = .ok (.invokevirtual 200, 3) := by decide +kernel
theorem dX6_sheet_54 : decode cX6_sheet 54 = .ok (.aload_n 0, 1) := by decide +kernel
theorem dX6_sheet_55 : decode cX6_sheet 55 = .ok (.iconst 1, 1) := by decide +kernel
theorem dX6_sheet_56 : decode cX6_sheet 56 = .ok (.invokevirtual 53, 3) := by decide +kernel
theorem dX6_sheet_59 : decode cX6_sheet 59 = .ok (.ireturn, 1) := by decide +kernel
theorem dX6_lose_0 : decode cX6_lose 0 = .ok (.iload_n 1, 1) := by decide +kernel
theorem dX6_lose_1 : decode cX6_lose 1 = .ok (.invokestatic 49, 3) := by decide +kernel
theorem dX6_lose_4 : decode cX6_lose 4 = .ok (.ifCond .ne 5, 3) := by decide +kernel
theorem dX6_lose_7 : decode cX6_lose 7 = .ok (.iconst (-1), 1) := by decide +kernel
theorem dX6_lose_8 : decode cX6_lose 8 = .ok (.ireturn, 1) := by decide +kernel
theorem dX6_lose_9 : decode cX6_lose 9 = .ok (.aload_n 0, 1) := by decide +kernel
theorem dX6_lose_10 : decode cX6_lose 10 = .ok (.getfield 44, 3) := by decide +kernel
theorem dX6_lose_13 : decode cX6_lose 13 = .ok (.iload_n 1, 1) := by decide +kernel
theorem dX6_lose_14 : decode cX6_lose 14 = .ok (.aaload, 1) := by decide +kernel
theorem dX6_lose_15 : decode cX6_lose 15 = .ok (.invokevirtual 203, 3) := by decide +kernel
theorem dX6_lose_18 : decode cX6_lose 18 = .ok (.ifCond .eq 7, 3) := by decide +kernel
theorem dX6_lose_21 : decode cX6_lose 21 = .ok (.iconst 1, 1) := by decide +kernel
theorem dX6_lose_22 : decode cX6_lose 22 = .ok (.goto 4, 3) := by decide +kernel
theorem dX6_lose_25 : decode cX6_lose 25 = .ok (.iconst 0, 1) := by decide +kernel
theorem dX6_lose_26 : decode cX6_lose 26 = .ok (.ireturn, 1) := by decide +kernel
theorem dX6_put_0 : decode cX6_put 0 = .ok (.iload_n 1, 1) := by decide +kernel
theorem dX6_put_1 : decode cX6_put 1 = .ok (.invokestatic 49, 3) := by decide +kernel
theorem dX6_put_4 : decode cX6_put 4 = .ok (.ifCond .ne 9, 3) := by decide +kernel
theorem dX6_put_7 : decode cX6_put 7 = .ok (.aload_n 0, 1) := by decide +kernel
theorem dX6_put_8 : decode cX6_put 8 = .ok (.iconst (-1), 1) := by decide +kernel
theorem dX6_put_9 : decode cX6_put 9 = .ok (.invokevirtual 53, 3) := by decide +kernel
theorem dX6_put_12 : decode cX6_put 12 = .ok (.ireturn, 1) := by decide +kernel
theorem dX6_put_13 : decode cX6_put 13 = .ok (.aload_n 0, 1) := by decide +kernel
theorem dX6_put_14 : decode cX6_put 14 = .ok (.getfield 44, 3) := by decide +kernel
theorem dX6_put_17 : decode cX6_put 17 = .ok (.iload_n 1, 1) := by decide +kernel
theorem dX6_put_18 : decode cX6_put 18 = .ok (.aaload, 1) := by decide +kernel
theorem dX6_put_19 : decode cX6_put 19 = .ok (.astore 4, 2) := by decide +kernel
theorem dX6_put_21 : decode cX6_put 21 = .ok (.aload 4, 2) := by decide +kernel
theorem dX6_put_23 : decode cX6_put 23 = .ok (.getfield 206, 3) := by decide +kernel
theorem dX6_put_26 : decode cX6_put 26 = .ok (.ifCond .ne 9, 3) := by decide +kernel
theorem dX6_put_29 : decode cX6_put 29 = .ok (.aload_n 0, 1) := by decide +kernel
theorem dX6_put_30 : decode cX6_put 30 = .ok (.iconst 1, 1) := by decide +kernel
theorem dX6_put_31 : decode cX6_put 31 = .ok (.invokevirtual 64, 3) := by decide +kernel
theorem dX6_put_34 : decode cX6_put 34 = .ok (.ireturn, 1) := by decide +kernel
theorem dX6_put_35 : decode cX6_put 35 = .ok (.aload 4, 2) := by decide +kernel
theorem dX6_put_37 : decode cX6_put 37 = .ok (.iload_n 2, 1) := by decide +kernel
theorem dX6_put_38 : decode cX6_put 38 = .ok (.iconst 1, 1) := by decide +kernel
theorem dX6_put_39 : decode cX6_put 39 = .ok (.invokevirtual 210, 3) := by decide +kernel
theorem dX6_put_42 : decode cX6_put 42 = .ok (.ifCond .ne 9, 3) := by decide +kernel
theorem dX6_put_45 : decode cX6_put 45 = .ok (.aload_n 0, 1) := by decide +kernel
theorem dX6_put_46 : decode cX6_put 46 = .ok (.iconst 3, 1) := by decide +kernel
theorem dX6_put_47 : decode cX6_put 47 = .ok (.invokevirtual 64, 3) := by decide +kernel
theorem dX6_put_50 : decode cX6_put 50 = .ok (.ireturn, 1) := by decide +kernel
theorem dX6_put_51 : decode cX6_put 51 = .ok (.aload 4, 2) := by decide +kernel
theorem dX6_put_53 : decode cX6_put 53 = .ok (.iload_n 2, 1) := by decide +kernel
theorem dX6_put_54 : decode cX6_put 54 = .ok (.iload_n 3, 1) := by decide +kernel
theorem dX6_put_55 : decode cX6_put 55 = .ok (.invokevirtual 214, 3) := by decide +kernel
theorem dX6_put_58 : decode cX6_put 58 = .ok (.aload_n 0, 1) := by decide +kernel
theorem dX6_put_59 : decode cX6_put 59 = .ok (.iconst 1, 1) := by decide +kernel
theorem dX6_put_60 : decode cX6_put 60 = .ok (.invokevirtual 53, 3) := by decide +kernel
theorem dX6_put_63 : decode cX6_put 63 = .ok (.ireturn, 1) := by decide +kernel
theorem dX6_cell_0 : decode cX6_cell 0 = .ok (.aload_n 0, 1) := by decide +kernel
theorem dX6_cell_1 : decode cX6_cell 1 = .ok (.iconst 0, 1) := by decide +kernel
theorem dX6_cell_2 : decode cX6_cell 2 = .ok (.putfield 217, 3) := by decide +kernel
theorem dX6_cell_5 : decode cX6_cell 5 = .ok (.iload_n 1, 1) := by decide +kernel
theorem dX6_cell_6 : decode cX6_cell 6 = .ok (.invokestatic 49, 3) := by decide +kernel
theorem dX6_cell_9 : decode cX6_cell 9 = .ok (.ifCond .eq 10, 3) := by decide +kernel
theorem dX6_cell_12 : decode cX6_cell 12 = .ok (.iload_n 3, 1) := by decide +kernel
theorem dX6_cell_13 : decode cX6_cell 13 = .ok (.invokestatic 57, 3) := by decide +kernel
theorem dX6_cell_16 : decode cX6_cell 16 = .ok (.ifCond .ne 7, 3) := by decide +kernel
theorem dX6_cell_19 : decode cX6_cell 19 = .ok (.ldc2_w 177, 3) := by decide +kernel
theorem dX6_cell_22 : decode cX6_cell 22 = .ok (.lreturn, 1) := by decide +kernel
theorem dX6_cell_23 : decode cX6_cell 23 = .ok (.aload_n 0, 1) := by decide +kernel
theorem dX6_cell_24 : decode cX6_cell 24 = .ok (.getfield 44, 3) := by decide +kernel
theorem dX6_cell_27 : decode cX6_cell 27 = .ok (.iload_n 1, 1) := by decide +kernel
theorem dX6_cell_28 : decode cX6_cell 28 = .ok (.aaload, 1) := by decide +kernel
theorem dX6_cell_29 : decode cX6_cell 29 = .ok (.astore 4, 2) := by decide +kernel
theorem dX6_cell_31 : decode cX6_cell 31 = .ok (.aload_n 0, 1) := by decide +kernel
theorem dX6_cell_32 : decode cX6_cell 32 = .ok (.aload 4, 2) := by decide +kernel
theorem dX6_cell_34 : decode cX6_cell 34 = .ok (.iload_n 3, 1) := by decide +kernel
theorem dX6_cell_35 : decode cX6_cell 35 = .ok (.iload_n 2, 1) := by decide +kernel
theorem dX6_cell_36 : decode cX6_cell 36 = .ok (.iconst 1, 1) := by decide +kernel
theorem dX6_cell_37 : decode cX6_cell 37 = .ok (.invokevirtual 60, 3) := by decide +kernel
theorem dX6_cell_40 : decode cX6_cell 40 = .ok (.putfield 217, 3) := by decide +kernel
theorem dX6_cell_43 : decode cX6_cell 43 = .ok (.aload_n 0, 1) := by decide +kernel
theorem dX6_cell_44 : decode cX6_cell 44 = .ok (.getfield 217, 3) := by decide +kernel
theorem dX6_cell_47 : decode cX6_cell 47 = .ok (.ifCond .ne 13, 3) := by decide +kernel
theorem dX6_cell_50 : decode cX6_cell 50 = .ok (.aload 4, 2) := by decide +kernel
theorem dX6_cell_52 : decode cX6_cell 52 = .ok (.iload_n 2, 1) := by decide +kernel
theorem dX6_cell_53 : decode cX6_cell 53 = .ok (.invokevirtual 179, 3) := by decide +kernel
theorem dX6_cell_56 : decode cX6_cell 56 = .ok (.i2l, 1) := by decide +kernel
theorem dX6_cell_57 : decode cX6_cell 57 = .ok (.goto 6, 3) := by decide +kernel
theorem dX6_cell_60 : decode cX6_cell 60 = .ok (.ldc2_w 177, 3) := by decide +kernel
theorem dX6_cell_63 : decode cX6_cell 63 = .ok (.lreturn, 1) := by decide +kernel
theorem dX6_copy_0 : decode cX6_copy 0 = .ok (.iload_n 1, 1) := by decide +kernel
theorem dX6_copy_1 : decode cX6_copy 1 = .ok (.invokestatic 49, 3) := by decide +kernel
theorem dX6_copy_4 : decode cX6_copy 4 = .ok (.ifCond .eq 10, 3) := by decide +kernel
theorem dX6_copy_7 : decode cX6_copy 7 = .ok (.iload_n 3, 1) := by decide +kernel
theorem dX6_copy_8 : decode cX6_copy 8 = .ok (.invokestatic 49, 3) := by decide +kernel
theorem dX6_copy_11 : decode cX6_copy 11 = .ok (.ifCond .ne 9, 3) := by decide +kernel
theorem dX6_copy_14 : decode cX6_copy 14 = .ok (.aload_n 0, 1) := by decide +kernel
theorem dX6_copy_15 : decode cX6_copy 15 = .ok (.iconst (-1), 1) := by decide +kernel
theorem dX6_copy_16 : decode cX6_copy 16 = .ok (.invokevirtual 53, 3) := by decide +kernel
theorem dX6_copy_19 : decode cX6_copy 19 = .ok (.ireturn, 1) := by decide +kernel
theorem dX6_copy_20 : decode cX6_copy 20 = .ok (.aload_n 0, 1) := by decide +kernel
theorem dX6_copy_21 : decode cX6_copy 21 = .ok (.getfield 44, 3) := by decide +kernel
theorem dX6_copy_24 : decode cX6_copy 24 = .ok (.iload_n 1, 1) := by decide +kernel
theorem dX6_copy_25 : decode cX6_copy 25 = .ok (.aaload, 1) := by decide +kernel
theorem dX6_copy_26 : decode cX6_copy 26 = .ok (.astore 6, 2) := by decide +kernel
theorem dX6_copy_28 : decode cX6_copy 28 = .ok (.aload_n 0, 1) := by decide +kernel
theorem dX6_copy_29 : decode cX6_copy 29 = .ok (.getfield 44, 3) := by decide +kernel
theorem dX6_copy_32 : decode cX6_copy 32 = .ok (.iload_n 3, 1) := by decide +kernel
theorem dX6_copy_33 : decode cX6_copy 33 = .ok (.aaload, 1) := by decide +kernel
theorem dX6_copy_34 : decode cX6_copy 34 = .ok (.astore 7, 2) := by decide +kernel
theorem dX6_copy_36 : decode cX6_copy 36 = .ok (.aload 6, 2) := by decide +kernel
theorem dX6_copy_38 : decode cX6_copy 38 = .ok (.getfield 206, 3) := by decide +kernel
theorem dX6_copy_41 : decode cX6_copy 41 = .ok (.ifCond .eq 11, 3) := by decide +kernel
theorem dX6_copy_44 : decode cX6_copy 44 = .ok (.aload 7, 2) := by decide +kernel
theorem dX6_copy_46 : decode cX6_copy 46 = .ok (.getfield 206, 3) := by decide +kernel
theorem dX6_copy_49 : decode cX6_copy 49 = .ok (.ifCond .ne 9, 3) := by decide +kernel
theorem dX6_copy_52 : decode cX6_copy 52 = .ok (.aload_n 0, 1) := by decide +kernel
theorem dX6_copy_53 : decode cX6_copy 53 = .ok (.iconst 1, 1) := by decide +kernel
theorem dX6_copy_54 : decode cX6_copy 54 = .ok (.invokevirtual 64, 3) := by decide +kernel
theorem dX6_copy_57 : decode cX6_copy 57 = .ok (.ireturn, 1) := by decide +kernel
theorem dX6_copy_58 : decode cX6_copy 58 = .ok (.aload 6, 2) := by decide +kernel
theorem dX6_copy_60 : decode cX6_copy 60 = .ok (.getfield 220, 3) := by decide +kernel
theorem dX6_copy_63 : decode cX6_copy 63 = .ok (.aload 7, 2) := by decide +kernel
theorem dX6_copy_65 : decode cX6_copy 65 = .ok (.getfield 220, 3) := by decide +kernel
theorem dX6_copy_68 : decode cX6_copy 68 = .ok (.if_icmp .eq 9, 3) := by decide +kernel
theorem dX6_copy_71 : decode cX6_copy 71 = .ok (.aload_n 0, 1) := by decide +kernel
theorem dX6_copy_72 : decode cX6_copy 72 = .ok (.iconst 2, 1) := by decide +kernel
theorem dX6_copy_73 : decode cX6_copy 73 = .ok (.invokevirtual 64, 3) := by decide +kernel
theorem dX6_copy_76 : decode cX6_copy 76 = .ok (.ireturn, 1) := by decide +kernel
theorem dX6_copy_77 : decode cX6_copy 77 = .ok (.aload 6, 2) := by decide +kernel
theorem dX6_copy_79 : decode cX6_copy 79 = .ok (.iload_n 2, 1) := by decide +kernel
theorem dX6_copy_80 : decode cX6_copy 80 = .ok (.iload 5, 2) := by decide +kernel
theorem dX6_copy_82 : decode cX6_copy 82 = .ok (.invokevirtual 210, 3) := by decide +kernel
theorem dX6_copy_85 : decode cX6_copy 85 = .ok (.ifCond .eq 15, 3) := by decide +kernel
theorem dX6_copy_88 : decode cX6_copy 88 = .ok (.aload 7, 2) := by decide +kernel
theorem dX6_copy_90 : decode cX6_copy 90 = .ok (.iload 4, 2) := by decide +kernel
theorem dX6_copy_92 : decode cX6_copy 92 = .ok (.iload 5, 2) := by decide +kernel
theorem dX6_copy_94 : decode cX6_copy 94 = .ok (.invokevirtual 210, 3) := by decide +kernel
theorem dX6_copy_97 : decode cX6_copy 97 = .ok (.ifCond .ne 9, 3) := by decide +kernel
theorem dX6_copy_100 : decode cX6_copy 100 = .ok (.aload_n 0, 1) := by decide +kernel
theorem dX6_copy_101 : decode cX6_copy 101 = .ok (.iconst 3, 1) := by decide +kernel
theorem dX6_copy_102 : decode cX6_copy 102 = .ok (.invokevirtual 64, 3) := by decide +kernel
theorem dX6_copy_105 : decode cX6_copy 105 = .ok (.ireturn, 1) := by decide +kernel
theorem dX6_copy_106 : decode cX6_copy 106 = .ok (.aload 6, 2) := by decide +kernel
theorem dX6_copy_108 : decode cX6_copy 108 = .ok (.getfield 223, 3) := by decide +kernel
theorem dX6_copy_111 : decode cX6_copy 111 = .ok (.iload_n 2, 1) := by decide +kernel
theorem dX6_copy_112 : decode cX6_copy 112 = .ok (.aload 7, 2) := by decide +kernel
theorem dX6_copy_114 : decode cX6_copy 114 = .ok (.getfield 223, 3) := by decide +kernel
theorem dX6_copy_117 : decode cX6_copy 117 = .ok (.iload 4, 2) := by decide +kernel
theorem dX6_copy_119 : decode cX6_copy 119 = .ok (.iload 5, 2) := by decide +kernel
theorem dX6_copy_121 : decode cX6_copy 121 = .ok (.invokestatic 226, 3) := by decide +kernel
theorem dX6_copy_124 : decode cX6_copy 124 = .ok (.aload_n 0, 1) := by decide +kernel
theorem dX6_copy_125 : decode cX6_copy 125 = .ok (.iload 5, 2) := by decide +kernel
theorem dX6_copy_127 : decode cX6_copy 127 = .ok (.invokevirtual 53, 3) := by decide +kernel
theorem dX6_copy_130 : decode cX6_copy 130 = .ok (.ireturn, 1) := by decide +kernel
theorem dX6_tell_0 : decode cX6_tell 0 = .ok (.aload_n 0, 1) := by decide +kernel
theorem dX6_tell_1 : decode cX6_tell 1 = .ok (.getfield 21, 3) := by decide +kernel
theorem dX6_tell_4 : decode cX6_tell 4 = .ok (.iload_n 1, 1) := by decide +kernel
theorem dX6_tell_5 : decode cX6_tell 5 = .ok (.invokevirtual 92, 3) := by decide +kernel
theorem dX6_tell_8 : decode cX6_tell 8 = .ok (.ifCond .ne 5, 3) := by decide +kernel
theorem dX6_tell_11 : decode cX6_tell 11 = .ok (.iconst (-1), 1) := by decide +kernel
theorem dX6_tell_12 : decode cX6_tell 12 = .ok (.ireturn, 1) := by decide +kernel
theorem dX6_tell_13 : decode cX6_tell 13 = .ok (.aload_n 0, 1) := by decide +kernel
theorem dX6_tell_14 : decode cX6_tell 14 = .ok (.getfield 21, 3) := by decide +kernel
theorem dX6_tell_17 : decode cX6_tell 17 = .ok (.getfield 95, 3) := by decide +kernel
theorem dX6_tell_20 : decode cX6_tell 20 = .ok (.iload_n 1, 1) := by decide +kernel
theorem dX6_tell_21 : decode cX6_tell 21 = .ok (.iaload, 1) := by decide +kernel
theorem dX6_tell_22 : decode cX6_tell 22 = .ok (.lookupswitch 38 #[(1, 32), (2, 26)], 26) := by decide +kernel
theorem dX6_tell_48 : decode cX6_tell 48 = .ok (.aload_n 0, 1) := by decide +kernel
theorem dX6_tell_49 : decode cX6_tell 49 = .ok (.iload_n 1, 1) := by decide +kernel
theorem dX6_tell_50 : decode cX6_tell 50 = .ok (.invokevirtual 232, 3) := by decide +kernel
theorem dX6_tell_53 : decode cX6_tell 53 = .ok (.ireturn, 1) := by decide +kernel
theorem dX6_tell_54 : decode cX6_tell 54 = .ok (.aload_n 0, 1) := by decide +kernel
theorem dX6_tell_55 : decode cX6_tell 55 = .ok (.iload_n 1, 1) := by decide +kernel
theorem dX6_tell_56 : decode cX6_tell 56 = .ok (.invokevirtual 235, 3) := by decide +kernel
theorem dX6_tell_59 : decode cX6_tell 59 = .ok (.ireturn, 1) := by decide +kernel
theorem dX6_tell_60 : decode cX6_tell 60 = .ok (.aload_n 0, 1) := by decide +kernel
theorem dX6_tell_61 : decode cX6_tell 61 = .ok (.iload_n 1, 1) := by decide +kernel
theorem dX6_tell_62 : decode cX6_tell 62 = .ok (.invokevirtual 238, 3) := by decide +kernel
theorem dX6_tell_65 : decode cX6_tell 65 = .ok (.ireturn, 1) := by decide +kernel
theorem dX6_tellAsBust_0 : decode cX6_tellAsBust 0 = .ok (.aload_n 0, 1) := by decide +kernel
theorem dX6_tellAsBust_1 : decode cX6_tellAsBust 1 = .ok (.iconst 1, 1) := by decide +kernel
theorem dX6_tellAsBust_2 : decode cX6_tellAsBust 2 = .ok (.invokevirtual 241, 3) := by decide +kernel
theorem dX6_tellAsBust_5 : decode cX6_tellAsBust 5 = .ok (.aload_n 0, 1) := by decide +kernel
theorem dX6_tellAsBust_6 : decode cX6_tellAsBust 6 = .ok (.getfield 21, 3) := by decide +kernel
theorem dX6_tellAsBust_9 : decode cX6_tellAsBust 9 = .ok (.getfield 102, 3) := by decide +kernel
theorem dX6_tellAsBust_12 : decode cX6_tellAsBust 12 = .ok (.iload_n 1, 1) := by decide +kernel
theorem dX6_tellAsBust_13 : decode cX6_tellAsBust 13 = .ok (.iaload, 1) := by decide +kernel
theorem dX6_tellAsBust_14 : decode cX6_tellAsBust 14 = .ok (.ireturn, 1) := by decide +kernel
theorem dX6_tellAsNymph_0 : decode cX6_tellAsNymph 0 = .ok (.aload_n 0, 1) := by decide +kernel
theorem dX6_tellAsNymph_1 : decode cX6_tellAsNymph 1 = .ok (.iconst 2, 1) := by decide +kernel
theorem dX6_tellAsNymph_2 : decode cX6_tellAsNymph 2 = .ok (.invokevirtual 241, 3) := by decide +kernel
theorem dX6_tellAsNymph_5 : decode cX6_tellAsNymph 5 = .ok (.aload_n 0, 1) := by decide +kernel
theorem dX6_tellAsNymph_6 : decode cX6_tellAsNymph 6 = .ok (.iload_n 1, 1) := by decide +kernel
theorem dX6_tellAsNymph_7 : decode cX6_tellAsNymph 7 = .ok (.invokevirtual 238, 3) := by decide +kernel
theorem dX6_tellAsNymph_10 : decode cX6_tellAsNymph 10 = .ok (.bipush 100, 2) := by decide +kernel
theorem dX6_tellAsNymph_12 : decode cX6_tellAsNymph 12 = .ok (.iadd, 1) := by decide +kernel
theorem dX6_tellAsNymph_13 : decode cX6_tellAsNymph 13 = .ok (.ireturn, 1) := by decide +kernel
theorem dX6_tellAsHorse_0 : decode cX6_tellAsHorse 0 = .ok (.aload_n 0, 1) := by decide +kernel
theorem dX6_tellAsHorse_1 : decode cX6_tellAsHorse 1 = .ok (.iconst 3, 1) := by decide +kernel
theorem dX6_tellAsHorse_2 : decode cX6_tellAsHorse 2 = .ok (.invokevirtual 241, 3) := by decide +kernel
theorem dX6_tellAsHorse_5 : decode cX6_tellAsHorse 5 = .ok (.aload_n 0, 1) := by decide +kernel
theorem dX6_tellAsHorse_6 : decode cX6_tellAsHorse 6 = .ok (.iload_n 1, 1) := by decide +kernel
theorem dX6_tellAsHorse_7 : decode cX6_tellAsHorse 7 = .ok (.invokevirtual 235, 3) := by decide +kernel
theorem dX6_tellAsHorse_10 : decode cX6_tellAsHorse 10 = .ok (.istore_n 2, 1) := by decide +kernel
theorem dX6_tellAsHorse_11 : decode cX6_tellAsHorse 11 = .ok (.iload_n 2, 1) := by decide +kernel
theorem dX6_tellAsHorse_12 : decode cX6_tellAsHorse 12 = .ok (.aload_n 0, 1) := by decide +kernel
theorem dX6_tellAsHorse_13 : decode cX6_tellAsHorse 13 = .ok (.iload_n 1, 1) := by decide +kernel
theorem dX6_tellAsHorse_14 : decode cX6_tellAsHorse 14 = .ok (.invokevirtual 238, 3) := by decide +kernel
theorem dX6_tellAsHorse_17 : decode cX6_tellAsHorse 17 = .ok (.iadd, 1) := by decide +kernel
theorem dX6_tellAsHorse_18 : decode cX6_tellAsHorse 18 = .ok (.ireturn, 1) := by decide +kernel
theorem dX6_sign_0 : decode cX6_sign 0 = .ok (.aload_n 0, 1) := by decide +kernel
theorem dX6_sign_1 : decode cX6_sign 1 = .ok (.getfield 21, 3) := by decide +kernel
theorem dX6_sign_4 : decode cX6_sign 4 = .ok (.iload_n 1, 1) := by decide +kernel
theorem dX6_sign_5 : decode cX6_sign 5 = .ok (.invokevirtual 92, 3) := by decide +kernel
theorem dX6_sign_8 : decode cX6_sign 8 = .ok (.ifCond .ne 5, 3) := by decide +kernel
theorem dX6_sign_11 : decode cX6_sign 11 = .ok (.iconst (-1), 1) := by decide +kernel
theorem dX6_sign_12 : decode cX6_sign 12 = .ok (.ireturn, 1) := by decide +kernel
theorem dX6_sign_13 : decode cX6_sign 13 = .ok (.aload_n 0, 1) := by decide +kernel
theorem dX6_sign_14 : decode cX6_sign 14 = .ok (.getfield 21, 3) := by decide +kernel
theorem dX6_sign_17 : decode cX6_sign 17 = .ok (.getfield 95, 3) := by decide +kernel
theorem dX6_sign_20 : decode cX6_sign 20 = .ok (.iload_n 1, 1) := by decide +kernel
theorem dX6_sign_21 : decode cX6_sign 21 = .ok (.iaload, 1) := by decide +kernel
theorem dX6_sign_22 : decode cX6_sign 22 = .ok (.iconst 2, 1) := by decide +kernel
theorem dX6_sign_23 : decode cX6_sign 23 = .ok (.if_icmp .ne 11, 3) := by decide +kernel
theorem dX6_sign_26 : decode cX6_sign 26 = .ok (.aload_n 0, 1) := by decide +kernel
theorem dX6_sign_27 : decode cX6_sign 27 = .ok (.iconst 5, 1) := by decide +kernel
theorem dX6_sign_28 : decode cX6_sign 28 = .ok (.invokevirtual 241, 3) := by decide +kernel
theorem dX6_sign_31 : decode cX6_sign 31 = .ok (.bipush 40, 2) := by decide +kernel
theorem dX6_sign_33 : decode cX6_sign 33 = .ok (.ireturn, 1) := by decide +kernel
theorem dX6_sign_34 : decode cX6_sign 34 = .ok (.aload_n 0, 1) := by decide +kernel
theorem dX6_sign_35 : decode cX6_sign 35 = .ok (.iconst 4, 1) := by decide +kernel
theorem dX6_sign_36 : decode cX6_sign 36 = .ok (.invokevirtual 241, 3) := by decide +kernel
theorem dX6_sign_39 : decode cX6_sign 39 = .ok (.iload_n 1, 1) := by decide +kernel
theorem dX6_sign_40 : decode cX6_sign 40 = .ok (.ireturn, 1) := by decide +kernel
theorem dX6_as_0 : decode cX6_as 0 = .ok (.aload_n 0, 1) := by decide +kernel
theorem dX6_as_1 : decode cX6_as 1 = .ok (.getfield 21, 3) := by decide +kernel
theorem dX6_as_4 : decode cX6_as 4 = .ok (.iload_n 1, 1) := by decide +kernel
theorem dX6_as_5 : decode cX6_as 5 = .ok (.invokevirtual 92, 3) := by decide +kernel
theorem dX6_as_8 : decode cX6_as 8 = .ok (.ifCond .ne 9, 3) := by decide +kernel
theorem dX6_as_11 : decode cX6_as 11 = .ok (.aload_n 0, 1) := by decide +kernel
theorem dX6_as_12 : decode cX6_as 12 = .ok (.iconst (-1), 1) := by decide +kernel
theorem dX6_as_13 : decode cX6_as 13 = .ok (.invokevirtual 53, 3) := by decide +kernel
theorem dX6_as_16 : decode cX6_as 16 = .ok (.ireturn, 1) := by decide +kernel
theorem dX6_as_17 : decode cX6_as 17 = .ok (.iload_n 2, 1) := by decide +kernel
theorem dX6_as_18 : decode cX6_as 18 = .ok (.ifCond .lt 8, 3) := by decide +kernel
theorem dX6_as_21 : decode cX6_as 21 = .ok (.iload_n 2, 1) := by decide +kernel
theorem dX6_as_22 : decode cX6_as 22 = .ok (.iconst 3, 1) := by decide +kernel
theorem dX6_as_23 : decode cX6_as 23 = .ok (.if_icmp .lt 10, 3) := by decide +kernel
theorem dX6_as_26 : decode cX6_as 26 = .ok (.aload_n 0, 1) := by decide +kernel
theorem dX6_as_27 : decode cX6_as 27 = .ok (.bipush (-2), 2) := by decide +kernel
theorem dX6_as_29 : decode cX6_as 29 = .ok (.invokevirtual 53, 3) := by decide +kernel
theorem dX6_as_32 : decode cX6_as 32 = .ok (.ireturn, 1) := by decide +kernel
theorem dX6_as_33 : decode cX6_as 33 = .ok (.aload_n 0, 1) := by decide +kernel
theorem dX6_as_34 : decode cX6_as 34 = .ok (.getfield 21, 3) := by decide +kernel
theorem dX6_as_37 : decode cX6_as 37 = .ok (.getfield 95, 3) := by decide +kernel
theorem dX6_as_40 : decode cX6_as 40 = .ok (.iload_n 1, 1) := by decide +kernel
theorem dX6_as_41 : decode cX6_as 41 = .ok (.iaload, 1) := by decide +kernel
theorem dX6_as_42 : decode cX6_as 42 = .ok (.iload_n 2, 1) := by decide +kernel
theorem dX6_as_43 : decode cX6_as 43 = .ok (.if_icmp .ge 11, 3) := by decide +kernel
theorem dX6_as_46 : decode cX6_as 46 = .ok (.aload_n 0, 1) := by decide +kernel
theorem dX6_as_47 : decode cX6_as 47 = .ok (.iconst 2, 1) := by decide +kernel
theorem dX6_as_48 : decode cX6_as 48 = .ok (.invokevirtual 64, 3) := by decide +kernel
theorem dX6_as_51 : decode cX6_as 51 = .ok (.goto 8, 3) := by decide +kernel
theorem dX6_as_54 : decode cX6_as 54 = .ok (.aload_n 0, 1) := by decide +kernel
theorem dX6_as_55 : decode cX6_as 55 = .ok (.iconst 1, 1) := by decide +kernel
theorem dX6_as_56 : decode cX6_as 56 = .ok (.invokevirtual 53, 3) := by decide +kernel
theorem dX6_as_59 : decode cX6_as 59 = .ok (.ireturn, 1) := by decide +kernel
theorem dX6_trace_0 : decode cX6_trace 0 = .ok (.aload_n 0, 1) := by decide +kernel
theorem dX6_trace_1 : decode cX6_trace 1 = .ok (.getfield 244, 3) := by decide +kernel
theorem dX6_trace_4 : decode cX6_trace 4 = .ok (.ireturn, 1) := by decide +kernel
theorem dX6_fault_0 : decode cX6_fault 0 = .ok (.aload_n 0, 1) := by decide +kernel
theorem dX6_fault_1 : decode cX6_fault 1 = .ok (.getfield 217, 3) := by decide +kernel
theorem dX6_fault_4 : decode cX6_fault 4 = .ok (.ireturn, 1) := by decide +kernel
theorem dX6_many_0 : decode cX6_many 0 = .ok (.iload_n 1, 1) := by decide +kernel
theorem dX6_many_1 : decode cX6_many 1 = .ok (.tableswitch 78 0 4 #[35, 43, 51, 59, 70], 35) := by decide +kernel
theorem dX6_many_36 : decode cX6_many 36 = .ok (.aload_n 0, 1) := by decide +kernel
theorem dX6_many_37 : decode cX6_many 37 = .ok (.getfield 21, 3) := by decide +kernel
theorem dX6_many_40 : decode cX6_many 40 = .ok (.getfield 88, 3) := by decide +kernel
theorem dX6_many_43 : decode cX6_many 43 = .ok (.ireturn, 1) := by decide +kernel
theorem dX6_many_44 : decode cX6_many 44 = .ok (.aload_n 0, 1) := by decide +kernel
theorem dX6_many_45 : decode cX6_many 45 = .ok (.getfield 12, 3) := by decide +kernel
theorem dX6_many_48 : decode cX6_many 48 = .ok (.getfield 127, 3) := by decide +kernel
theorem dX6_many_51 : decode cX6_many 51 = .ok (.ireturn, 1) := by decide +kernel
theorem dX6_many_52 : decode cX6_many 52 = .ok (.aload_n 0, 1) := by decide +kernel
theorem dX6_many_53 : decode cX6_many 53 = .ok (.getfield 21, 3) := by decide +kernel
theorem dX6_many_56 : decode cX6_many 56 = .ok (.getfield 247, 3) := by decide +kernel
theorem dX6_many_59 : decode cX6_many 59 = .ok (.ireturn, 1) := by decide +kernel
theorem dX6_many_60 : decode cX6_many 60 = .ok (.aload_n 0, 1) := by decide +kernel
theorem dX6_many_61 : decode cX6_many 61 = .ok (.getfield 21, 3) := by decide +kernel
theorem dX6_many_64 : decode cX6_many 64 = .ok (.getfield 144, 3) := by decide +kernel
theorem dX6_many_67 : decode cX6_many 67 = .ok (.invokestatic 111, 3) := by decide +kernel
theorem dX6_many_70 : decode cX6_many 70 = .ok (.ireturn, 1) := by decide +kernel
theorem dX6_many_71 : decode cX6_many 71 = .ok (.aload_n 0, 1) := by decide +kernel
theorem dX6_many_72 : decode cX6_many 72 = .ok (.getfield 38, 3) := by decide +kernel
theorem dX6_many_75 : decode cX6_many 75 = .ok (.getfield 192, 3) := by decide +kernel
theorem dX6_many_78 : decode cX6_many 78 = .ok (.ireturn, 1) := by decide +kernel
theorem dX6_many_79 : decode cX6_many 79 = .ok (.bipush (-2), 2) := by decide +kernel
theorem dX6_many_81 : decode cX6_many 81 = .ok (.ireturn, 1) := by decide +kernel
theorem dX6_hasGarden_0 : decode cX6_hasGarden 0 = .ok (.aload_n 0, 1) := by decide +kernel
theorem dX6_hasGarden_1 : decode cX6_hasGarden 1 = .ok (.getfield 21, 3) := by decide +kernel
theorem dX6_hasGarden_4 : decode cX6_hasGarden 4 = .ok (.getfield 88, 3) := by decide +kernel
theorem dX6_hasGarden_7 : decode cX6_hasGarden 7 = .ok (.ifCond .le 7, 3) := by decide +kernel
theorem dX6_hasGarden_10 : decode cX6_hasGarden 10 = .ok (.iconst 1, 1) := by decide +kernel
theorem dX6_hasGarden_11 : decode cX6_hasGarden 11 = .ok (.goto 4, 3) := by decide +kernel
theorem dX6_hasGarden_14 : decode cX6_hasGarden 14 = .ok (.iconst 0, 1) := by decide +kernel
theorem dX6_hasGarden_15 : decode cX6_hasGarden 15 = .ok (.ireturn, 1) := by decide +kernel
theorem dX6_refusalOfShape_0 : decode cX6_refusalOfShape 0 = .ok (.iload_n 1, 1) := by decide +kernel
theorem dX6_refusalOfShape_1 : decode cX6_refusalOfShape 1 = .ok (.invokestatic 168, 3) := by decide +kernel
theorem dX6_refusalOfShape_4 : decode cX6_refusalOfShape 4 = .ok (.ifCond .ne 6, 3) := by decide +kernel
theorem dX6_refusalOfShape_7 : decode cX6_refusalOfShape 7 = .ok (.bipush (-2), 2) := by decide +kernel
theorem dX6_refusalOfShape_9 : decode cX6_refusalOfShape 9 = .ok (.ireturn, 1) := by decide +kernel
theorem dX6_refusalOfShape_10 : decode cX6_refusalOfShape 10 = .ok (.aload_n 0, 1) := by decide +kernel
theorem dX6_refusalOfShape_11 : decode cX6_refusalOfShape 11 = .ok (.invokevirtual 123, 3) := by decide +kernel
theorem dX6_refusalOfShape_14 : decode cX6_refusalOfShape 14 = .ok (.ifCond .eq 7, 3) := by decide +kernel
theorem dX6_refusalOfShape_17 : decode cX6_refusalOfShape 17 = .ok (.iconst 0, 1) := by decide +kernel
theorem dX6_refusalOfShape_18 : decode cX6_refusalOfShape 18 = .ok (.goto 5, 3) := by decide +kernel
theorem dX6_refusalOfShape_21 : decode cX6_refusalOfShape 21 = .ok (.bipush (-3), 2) := by decide +kernel
theorem dX6_refusalOfShape_23 : decode cX6_refusalOfShape 23 = .ok (.ireturn, 1) := by decide +kernel
theorem dX6_isShape_0 : decode cX6_isShape 0 = .ok (.iload_n 0, 1) := by decide +kernel
theorem dX6_isShape_1 : decode cX6_isShape 1 = .ok (.ifCond .lt 13, 3) := by decide +kernel
theorem dX6_isShape_4 : decode cX6_isShape 4 = .ok (.iload_n 0, 1) := by decide +kernel
theorem dX6_isShape_5 : decode cX6_isShape 5 = .ok (.bipush 64, 2) := by decide +kernel
theorem dX6_isShape_7 : decode cX6_isShape 7 = .ok (.if_icmp .ge 7, 3) := by decide +kernel
theorem dX6_isShape_10 : decode cX6_isShape 10 = .ok (.iconst 1, 1) := by decide +kernel
theorem dX6_isShape_11 : decode cX6_isShape 11 = .ok (.goto 4, 3) := by decide +kernel
theorem dX6_isShape_14 : decode cX6_isShape 14 = .ok (.iconst 0, 1) := by decide +kernel
theorem dX6_isShape_15 : decode cX6_isShape 15 = .ok (.ireturn, 1) := by decide +kernel
theorem dX6_isSheet_0 : decode cX6_isSheet 0 = .ok (.iload_n 0, 1) := by decide +kernel
theorem dX6_isSheet_1 : decode cX6_isSheet 1 = .ok (.ifCond .lt 12, 3) := by decide +kernel
theorem dX6_isSheet_4 : decode cX6_isSheet 4 = .ok (.iload_n 0, 1) := by decide +kernel
theorem dX6_isSheet_5 : decode cX6_isSheet 5 = .ok (.iconst 4, 1) := by decide +kernel
theorem dX6_isSheet_6 : decode cX6_isSheet 6 = .ok (.if_icmp .ge 7, 3) := by decide +kernel
theorem dX6_isSheet_9 : decode cX6_isSheet 9 = .ok (.iconst 1, 1) := by decide +kernel
theorem dX6_isSheet_10 : decode cX6_isSheet 10 = .ok (.goto 4, 3) := by decide +kernel
theorem dX6_isSheet_13 : decode cX6_isSheet 13 = .ok (.iconst 0, 1) := by decide +kernel
theorem dX6_isSheet_14 : decode cX6_isSheet 14 = .ok (.ireturn, 1) := by decide +kernel
theorem dX6_isLane_0 : decode cX6_isLane 0 = .ok (.iload_n 0, 1) := by decide +kernel
theorem dX6_isLane_1 : decode cX6_isLane 1 = .ok (.ifCond .lt 12, 3) := by decide +kernel
theorem dX6_isLane_4 : decode cX6_isLane 4 = .ok (.iload_n 0, 1) := by decide +kernel
theorem dX6_isLane_5 : decode cX6_isLane 5 = .ok (.iconst 3, 1) := by decide +kernel
theorem dX6_isLane_6 : decode cX6_isLane 6 = .ok (.if_icmp .ge 7, 3) := by decide +kernel
theorem dX6_isLane_9 : decode cX6_isLane 9 = .ok (.iconst 1, 1) := by decide +kernel
theorem dX6_isLane_10 : decode cX6_isLane 10 = .ok (.goto 4, 3) := by decide +kernel
theorem dX6_isLane_13 : decode cX6_isLane 13 = .ok (.iconst 0, 1) := by decide +kernel
theorem dX6_isLane_14 : decode cX6_isLane 14 = .ok (.ireturn, 1) := by decide +kernel
theorem dX6_canTake_0 : decode cX6_canTake 0 = .ok (.iload_n 0, 1) := by decide +kernel
theorem dX6_canTake_1 : decode cX6_canTake 1 = .ok (.ifCond .lt 13, 3) := by decide +kernel
theorem dX6_canTake_4 : decode cX6_canTake 4 = .ok (.iload_n 0, 1) := by decide +kernel
theorem dX6_canTake_5 : decode cX6_canTake 5 = .ok (.bipush 20, 2) := by decide +kernel
theorem dX6_canTake_7 : decode cX6_canTake 7 = .ok (.if_icmp .gt 7, 3) := by decide +kernel
theorem dX6_canTake_10 : decode cX6_canTake 10 = .ok (.iconst 1, 1) := by decide +kernel
theorem dX6_canTake_11 : decode cX6_canTake 11 = .ok (.goto 4, 3) := by decide +kernel
theorem dX6_canTake_14 : decode cX6_canTake 14 = .ok (.iconst 0, 1) := by decide +kernel
theorem dX6_canTake_15 : decode cX6_canTake 15 = .ok (.ireturn, 1) := by decide +kernel
theorem dX6_withoutFault_0 : decode cX6_withoutFault 0 = .ok (.aload_n 0, 1) := by decide +kernel
theorem dX6_withoutFault_1 : decode cX6_withoutFault 1 = .ok (.iconst 0, 1) := by decide +kernel
theorem dX6_withoutFault_2 : decode cX6_withoutFault 2 = .ok (.putfield 217, 3) := by decide +kernel
theorem dX6_withoutFault_5 : decode cX6_withoutFault 5 = .ok (.iload_n 1, 1) := by decide +kernel
theorem dX6_withoutFault_6 : decode cX6_withoutFault 6 = .ok (.ireturn, 1) := by decide +kernel
theorem dX6_withFault_0 : decode cX6_withFault 0 = .ok (.aload_n 0, 1) := by decide +kernel
theorem dX6_withFault_1 : decode cX6_withFault 1 = .ok (.iload_n 1, 1) := by decide +kernel
theorem dX6_withFault_2 : decode cX6_withFault 2 = .ok (.putfield 217, 3) := by decide +kernel
theorem dX6_withFault_5 : decode cX6_withFault 5 = .ok (.bipush (-10), 2) := by decide +kernel
theorem dX6_withFault_7 : decode cX6_withFault 7 = .ok (.iload_n 1, 1) := by decide +kernel
theorem dX6_withFault_8 : decode cX6_withFault 8 = .ok (.isub, 1) := by decide +kernel
theorem dX6_withFault_9 : decode cX6_withFault 9 = .ok (.ireturn, 1) := by decide +kernel
theorem dX6_leaveTrace_0 : decode cX6_leaveTrace 0 = .ok (.aload_n 0, 1) := by decide +kernel
theorem dX6_leaveTrace_1 : decode cX6_leaveTrace 1 = .ok (.bipush 31, 2) := by decide +kernel
theorem dX6_leaveTrace_3 : decode cX6_leaveTrace 3 = .ok (.aload_n 0, 1) := by decide +kernel
theorem dX6_leaveTrace_4 : decode cX6_leaveTrace 4 = .ok (.getfield 244, 3) := by decide +kernel
theorem dX6_leaveTrace_7 : decode cX6_leaveTrace 7 = .ok (.imul, 1) := by decide +kernel
theorem dX6_leaveTrace_8 : decode cX6_leaveTrace 8 = .ok (.iload_n 1, 1) := by decide +kernel
theorem dX6_leaveTrace_9 : decode cX6_leaveTrace 9 = .ok (.iadd, 1) := by decide +kernel
theorem dX6_leaveTrace_10 : decode cX6_leaveTrace 10 = .ok (.putfield 244, 3) := by decide +kernel
theorem dX6_leaveTrace_13 : decode cX6_leaveTrace 13 = .ok (.return_, 1) := by decide +kernel
theorem dX7_init_0 : decode cX7_init 0 = .ok (.aload_n 0, 1) := by decide +kernel
theorem dX7_init_1 : decode cX7_init 1 = .ok (.invokespecial 1, 3) := by decide +kernel
theorem dX7_init_4 : decode cX7_init 4 = .ok (.aload_n 0, 1) := by decide +kernel
theorem dX7_init_5 : decode cX7_init 5 = .ok (.iconst 4, 1) := by decide +kernel
theorem dX7_init_6 : decode cX7_init 6 = .ok (.newarray .int, 2) := by decide +kernel
theorem dX7_init_8 : decode cX7_init 8 = .ok (.dup, 1) := by decide +kernel
theorem dX7_init_9 : decode cX7_init 9 = .ok (.iconst 0, 1) := by decide +kernel
theorem dX7_init_10 : decode cX7_init 10 = .ok (.bipush (-9), 2) := by decide +kernel
theorem dX7_init_12 : decode cX7_init 12 = .ok (.iastore, 1) := by decide +kernel
theorem dX7_init_13 : decode cX7_init 13 = .ok (.dup, 1) := by decide +kernel
theorem dX7_init_14 : decode cX7_init 14 = .ok (.iconst 1, 1) := by decide +kernel
theorem dX7_init_15 : decode cX7_init 15 = .ok (.bipush (-9), 2) := by decide +kernel
theorem dX7_init_17 : decode cX7_init 17 = .ok (.iastore, 1) := by decide +kernel
theorem dX7_init_18 : decode cX7_init 18 = .ok (.dup, 1) := by decide +kernel
theorem dX7_init_19 : decode cX7_init 19 = .ok (.iconst 2, 1) := by decide +kernel
theorem dX7_init_20 : decode cX7_init 20 = .ok (.bipush (-9), 2) := by decide +kernel
theorem dX7_init_22 : decode cX7_init 22 = .ok (.iastore, 1) := by decide +kernel
theorem dX7_init_23 : decode cX7_init 23 = .ok (.dup, 1) := by decide +kernel
theorem dX7_init_24 : decode cX7_init 24 = .ok (.iconst 3, 1) := by decide +kernel
theorem dX7_init_25 : decode cX7_init 25 = .ok (.bipush (-9), 2) := by decide +kernel
theorem dX7_init_27 : decode cX7_init 27 = .ok (.iastore, 1) := by decide +kernel
theorem dX7_init_28 : decode cX7_init 28 = .ok (.putfield 9, 3) := by decide +kernel
theorem dX7_init_31 : decode cX7_init 31 = .ok (.aload_n 0, 1) := by decide +kernel
theorem dX7_init_32 : decode cX7_init 32 = .ok (.iconst 4, 1) := by decide +kernel
theorem dX7_init_33 : decode cX7_init 33 = .ok (.newarray .int, 2) := by decide +kernel
theorem dX7_init_35 : decode cX7_init 35 = .ok (.putfield 13, 3) := by decide +kernel
theorem dX7_init_38 : decode cX7_init 38 = .ok (.aload_n 0, 1) := by decide +kernel
theorem dX7_init_39 : decode cX7_init 39 = .ok (.sipush 240, 3) := by decide +kernel
theorem dX7_init_42 : decode cX7_init 42 = .ok (.newarray .int, 2) := by decide +kernel
theorem dX7_init_44 : decode cX7_init 44 = .ok (.putfield 16, 3) := by decide +kernel
theorem dX7_init_47 : decode cX7_init 47 = .ok (.aload_n 0, 1) := by decide +kernel
theorem dX7_init_48 : decode cX7_init 48 = .ok (.bipush 64, 2) := by decide +kernel
theorem dX7_init_50 : decode cX7_init 50 = .ok (.newarray .int, 2) := by decide +kernel
theorem dX7_init_52 : decode cX7_init 52 = .ok (.putfield 19, 3) := by decide +kernel
theorem dX7_init_55 : decode cX7_init 55 = .ok (.aload_n 0, 1) := by decide +kernel
theorem dX7_init_56 : decode cX7_init 56 = .ok (.bipush 6, 2) := by decide +kernel
theorem dX7_init_58 : decode cX7_init 58 = .ok (.newarray .int, 2) := by decide +kernel
theorem dX7_init_60 : decode cX7_init 60 = .ok (.putfield 22, 3) := by decide +kernel
theorem dX7_init_63 : decode cX7_init 63 = .ok (.aload_n 0, 1) := by decide +kernel
theorem dX7_init_64 : decode cX7_init 64 = .ok (.bipush 6, 2) := by decide +kernel
theorem dX7_init_66 : decode cX7_init 66 = .ok (.newarray .int, 2) := by decide +kernel
theorem dX7_init_68 : decode cX7_init 68 = .ok (.putfield 25, 3) := by decide +kernel
theorem dX7_init_71 : decode cX7_init 71 = .ok (.aload_n 0, 1) := by decide +kernel
theorem dX7_init_72 : decode cX7_init 72 = .ok (.bipush 6, 2) := by decide +kernel
theorem dX7_init_74 : decode cX7_init 74 = .ok (.newarray .int, 2) := by decide +kernel
theorem dX7_init_76 : decode cX7_init 76 = .ok (.putfield 28, 3) := by decide +kernel
theorem dX7_init_79 : decode cX7_init 79 = .ok (.aload_n 0, 1) := by decide +kernel
theorem dX7_init_80 : decode cX7_init 80 = .ok (.bipush 18, 2) := by decide +kernel
theorem dX7_init_82 : decode cX7_init 82 = .ok (.newarray .int, 2) := by decide +kernel
theorem dX7_init_84 : decode cX7_init 84 = .ok (.putfield 31, 3) := by decide +kernel
theorem dX7_init_87 : decode cX7_init 87 = .ok (.aload_n 0, 1) := by decide +kernel
theorem dX7_init_88 : decode cX7_init 88 = .ok (.bipush 6, 2) := by decide +kernel
theorem dX7_init_90 : decode cX7_init 90 = .ok (.newarray .int, 2) := by decide +kernel
theorem dX7_init_92 : decode cX7_init 92 = .ok (.putfield 34, 3) := by decide +kernel
theorem dX7_init_95 : decode cX7_init 95 = .ok (.aload_n 0, 1) := by decide +kernel
theorem dX7_init_96 : decode cX7_init 96 = .ok (.bipush 8, 2) := by decide +kernel
theorem dX7_init_98 : decode cX7_init 98 = .ok (.newarray .int, 2) := by decide +kernel
theorem dX7_init_100 : decode cX7_init 100 = .ok (.putfield 37, 3) := by decide +kernel
theorem dX7_init_103 : decode cX7_init 103 = .ok (.aload_n 0, 1) := by decide +kernel
theorem dX7_init_104 : decode cX7_init 104 = .ok (.bipush 8, 2) := by decide +kernel
theorem dX7_init_106 : decode cX7_init 106 = .ok (.newarray .int, 2) := by decide +kernel
theorem dX7_init_108 : decode cX7_init 108 = .ok (.putfield 40, 3) := by decide +kernel
theorem dX7_init_111 : decode cX7_init 111 = .ok (.aload_n 0, 1) := by decide +kernel
theorem dX7_init_112 : decode cX7_init 112 = .ok (.bipush 8, 2) := by decide +kernel
theorem dX7_init_114 : decode cX7_init 114 = .ok (.newarray .int, 2) := by decide +kernel
theorem dX7_init_116 : decode cX7_init 116 = .ok (.putfield 43, 3) := by decide +kernel
theorem dX7_init_119 : decode cX7_init 119 = .ok (.aload_n 0, 1) := by decide +kernel
theorem dX7_init_120 : decode cX7_init 120 = .ok (.bipush 64, 2) := by decide +kernel
theorem dX7_init_122 : decode cX7_init 122 = .ok (.newarray .int, 2) := by decide +kernel
theorem dX7_init_124 : decode cX7_init 124 = .ok (.putfield 46, 3) := by decide +kernel
theorem dX7_init_127 : decode cX7_init 127 = .ok (.aload_n 0, 1) := by decide +kernel
theorem dX7_init_128 : decode cX7_init 128 = .ok (.bipush 64, 2) := by decide +kernel
theorem dX7_init_130 : decode cX7_init 130 = .ok (.newarray .int, 2) := by decide +kernel
theorem dX7_init_132 : decode cX7_init 132 = .ok (.putfield 49, 3) := by decide +kernel
theorem dX7_init_135 : decode cX7_init 135 = .ok (.aload_n 0, 1) := by decide +kernel
theorem dX7_init_136 : decode cX7_init 136 = .ok (.bipush 64, 2) := by decide +kernel
theorem dX7_init_138 : decode cX7_init 138 = .ok (.newarray .int, 2) := by decide +kernel
theorem dX7_init_140 : decode cX7_init 140 = .ok (.putfield 52, 3) := by decide +kernel
theorem dX7_init_143 : decode cX7_init 143 = .ok (.return_, 1) := by decide +kernel
theorem dX7_fails_0 : decode cX7_fails 0 = .ok (.aload_n 0, 1) := by decide +kernel
theorem dX7_fails_1 : decode cX7_fails 1 = .ok (.iload_n 1, 1) := by decide +kernel
theorem dX7_fails_2 : decode cX7_fails 2 = .ok (.putfield 55, 3) := by decide +kernel
theorem dX7_fails_5 : decode cX7_fails 5 = .ok (.bipush (-10), 2) := by decide +kernel
theorem dX7_fails_7 : decode cX7_fails 7 = .ok (.iload_n 1, 1) := by decide +kernel
theorem dX7_fails_8 : decode cX7_fails 8 = .ok (.isub, 1) := by decide +kernel
theorem dX7_fails_9 : decode cX7_fails 9 = .ok (.ireturn, 1) := by decide +kernel
theorem dX7_lost_0 : decode cX7_lost 0 = .ok (.aload_n 0, 1) := by decide +kernel
theorem dX7_lost_1 : decode cX7_lost 1 = .ok (.iload_n 1, 1) := by decide +kernel
theorem dX7_lost_2 : decode cX7_lost 2 = .ok (.putfield 55, 3) := by decide +kernel
theorem dX7_lost_5 : decode cX7_lost 5 = .ok (.ldc2_w 59, 3) := by decide +kernel
theorem dX7_lost_8 : decode cX7_lost 8 = .ok (.lreturn, 1) := by decide +kernel
theorem dX7_within_0 : decode cX7_within 0 = .ok (.iload_n 0, 1) := by decide +kernel
theorem dX7_within_1 : decode cX7_within 1 = .ok (.iload_n 1, 1) := by decide +kernel
theorem dX7_within_2 : decode cX7_within 2 = .ok (.if_icmp .lt 12, 3) := by decide +kernel
theorem dX7_within_5 : decode cX7_within 5 = .ok (.iload_n 0, 1) := by decide +kernel
theorem dX7_within_6 : decode cX7_within 6 = .ok (.iload_n 2, 1) := by decide +kernel
theorem dX7_within_7 : decode cX7_within 7 = .ok (.if_icmp .gt 7, 3) := by decide +kernel
theorem dX7_within_10 : decode cX7_within 10 = .ok (.iconst 1, 1) := by decide +kernel
theorem dX7_within_11 : decode cX7_within 11 = .ok (.goto 4, 3) := by decide +kernel
theorem dX7_within_14 : decode cX7_within 14 = .ok (.iconst 0, 1) := by decide +kernel
theorem dX7_within_15 : decode cX7_within 15 = .ok (.ireturn, 1) := by decide +kernel
theorem dX7_isSheet_0 : decode cX7_isSheet 0 = .ok (.iload_n 0, 1) := by decide +kernel
theorem dX7_isSheet_1 : decode cX7_isSheet 1 = .ok (.iconst 0, 1) := by decide +kernel
theorem dX7_isSheet_2 : decode cX7_isSheet 2 = .ok (.iconst 3, 1) := by decide +kernel
theorem dX7_isSheet_3 : decode cX7_isSheet 3 = .ok (.invokestatic 61, 3) := by decide +kernel
theorem dX7_isSheet_6 : decode cX7_isSheet 6 = .ok (.ireturn, 1) := by decide +kernel
theorem dX7_isSort_0 : decode cX7_isSort 0 = .ok (.iload_n 0, 1) := by decide +kernel
theorem dX7_isSort_1 : decode cX7_isSort 1 = .ok (.iconst 0, 1) := by decide +kernel
theorem dX7_isSort_2 : decode cX7_isSort 2 = .ok (.iconst 2, 1) := by decide +kernel
theorem dX7_isSort_3 : decode cX7_isSort 3 = .ok (.invokestatic 61, 3) := by decide +kernel
theorem dX7_isSort_6 : decode cX7_isSort 6 = .ok (.ireturn, 1) := by decide +kernel
theorem dX7_against_0 : decode cX7_against 0 = .ok (.aload_n 0, 1) := by decide +kernel
theorem dX7_against_1 : decode cX7_against 1 = .ok (.getfield 9, 3) := by decide +kernel
theorem dX7_against_4 : decode cX7_against 4 = .ok (.iload_n 1, 1) := by decide +kernel
theorem dX7_against_5 : decode cX7_against 5 = .ok (.iaload, 1) := by decide +kernel
theorem dX7_against_6 : decode cX7_against 6 = .ok (.bipush (-9), 2) := by decide +kernel
theorem dX7_against_8 : decode cX7_against 8 = .ok (.if_icmp .eq 15, 3) := by decide +kernel
theorem dX7_against_11 : decode cX7_against 11 = .ok (.aload_n 0, 1) := by decide +kernel
theorem dX7_against_12 : decode cX7_against 12 = .ok (.getfield 9, 3) := by decide +kernel
theorem dX7_against_15 : decode cX7_against 15 = .ok (.iload_n 1, 1) := by decide +kernel
theorem dX7_against_16 : decode cX7_against 16 = .ok (.iaload, 1) := by decide +kernel
theorem dX7_against_17 : decode cX7_against 17 = .ok (.iload_n 2, 1) := by decide +kernel
theorem dX7_against_18 : decode cX7_against 18 = .ok (.if_icmp .eq 5, 3) := by decide +kernel
theorem dX7_against_21 : decode cX7_against 21 = .ok (.iconst 2, 1) := by decide +kernel
theorem dX7_against_22 : decode cX7_against 22 = .ok (.ireturn, 1) := by decide +kernel
theorem dX7_against_23 : decode cX7_against 23 = .ok (.aload_n 0, 1) := by decide +kernel
theorem dX7_against_24 : decode cX7_against 24 = .ok (.getfield 9, 3) := by decide +kernel
theorem dX7_against_27 : decode cX7_against 27 = .ok (.iload_n 1, 1) := by decide +kernel
theorem dX7_against_28 : decode cX7_against 28 = .ok (.iaload, 1) := by decide +kernel
theorem dX7_against_29 : decode cX7_against 29 = .ok (.bipush (-9), 2) := by decide +kernel
theorem dX7_against_31 : decode cX7_against 31 = .ok (.if_icmp .ne 5, 3) := by decide +kernel
theorem dX7_against_34 : decode cX7_against 34 = .ok (.iconst 1, 1) := by decide +kernel
theorem dX7_against_35 : decode cX7_against 35 = .ok (.ireturn, 1) := by decide +kernel
theorem dX7_against_36 : decode cX7_against 36 = .ok (.iload 4, 2) := by decide +kernel
theorem dX7_against_38 : decode cX7_against 38 = .ok (.ifCond .ge 5, 3) := by decide +kernel
theorem dX7_against_41 : decode cX7_against 41 = .ok (.iconst 4, 1) := by decide +kernel
theorem dX7_against_42 : decode cX7_against 42 = .ok (.ireturn, 1) := by decide +kernel
theorem dX7_against_43 : decode cX7_against 43 = .ok (.iload_n 3, 1) := by decide +kernel
theorem dX7_against_44 : decode cX7_against 44 = .ok (.ifCond .lt 26, 3) := by decide +kernel
theorem dX7_against_47 : decode cX7_against 47 = .ok (.iload_n 3, 1) := by decide +kernel
theorem dX7_against_48 : decode cX7_against 48 = .ok (.aload_n 0, 1) := by decide +kernel
theorem dX7_against_49 : decode cX7_against 49 = .ok (.getfield 13, 3) := by decide +kernel
theorem dX7_against_52 : decode cX7_against 52 = .ok (.iload_n 1, 1) := by decide +kernel
theorem dX7_against_53 : decode cX7_against 53 = .ok (.iaload, 1) := by decide +kernel
theorem dX7_against_54 : decode cX7_against 54 = .ok (.if_icmp .gt 16, 3) := by decide +kernel
theorem dX7_against_57 : decode cX7_against 57 = .ok (.iload 4, 2) := by decide +kernel
theorem dX7_against_59 : decode cX7_against 59 = .ok (.aload_n 0, 1) := by decide +kernel
theorem dX7_against_60 : decode cX7_against 60 = .ok (.getfield 13, 3) := by decide +kernel
theorem dX7_against_63 : decode cX7_against 63 = .ok (.iload_n 1, 1) := by decide +kernel
theorem dX7_against_64 : decode cX7_against 64 = .ok (.iaload, 1) := by decide +kernel
theorem dX7_against_65 : decode cX7_against 65 = .ok (.iload_n 3, 1) := by decide +kernel
theorem dX7_against_66 : decode cX7_against 66 = .ok (.isub, 1) := by decide +kernel
theorem dX7_against_67 : decode cX7_against 67 = .ok (.if_icmp .le 7, 3) := by decide +kernel
theorem dX7_against_70 : decode cX7_against 70 = .ok (.iconst 3, 1) := by decide +kernel
theorem dX7_against_71 : decode cX7_against 71 = .ok (.goto 4, 3) := by decide +kernel
theorem dX7_against_74 : decode cX7_against 74 = .ok (.iconst 0, 1) := by decide +kernel
theorem dX7_against_75 : decode cX7_against 75 = .ok (.ireturn, 1) := by decide +kernel
theorem dX7_isBlock_0 : decode cX7_isBlock 0 = .ok (.iload_n 1, 1) := by decide +kernel
theorem dX7_isBlock_1 : decode cX7_isBlock 1 = .ok (.ifCond .lt 15, 3) := by decide +kernel
theorem dX7_isBlock_4 : decode cX7_isBlock 4 = .ok (.iload_n 1, 1) := by decide +kernel
theorem dX7_isBlock_5 : decode cX7_isBlock 5 = .ok (.aload_n 0, 1) := by decide +kernel
theorem dX7_isBlock_6 : decode cX7_isBlock 6 = .ok (.getfield 65, 3) := by decide +kernel
theorem dX7_isBlock_9 : decode cX7_isBlock 9 = .ok (.if_icmp .ge 7, 3) := by decide +kernel
theorem dX7_isBlock_12 : decode cX7_isBlock 12 = .ok (.iconst 1, 1) := by decide +kernel
theorem dX7_isBlock_13 : decode cX7_isBlock 13 = .ok (.goto 4, 3) := by decide +kernel
theorem dX7_isBlock_16 : decode cX7_isBlock 16 = .ok (.iconst 0, 1) := by decide +kernel
theorem dX7_isBlock_17 : decode cX7_isBlock 17 = .ok (.ireturn, 1) := by decide +kernel
theorem dX7_isShape_0 : decode cX7_isShape 0 = .ok (.iload_n 0, 1) := by decide +kernel
theorem dX7_isShape_1 : decode cX7_isShape 1 = .ok (.iconst 0, 1) := by decide +kernel
theorem dX7_isShape_2 : decode cX7_isShape 2 = .ok (.bipush 63, 2) := by decide +kernel
theorem dX7_isShape_4 : decode cX7_isShape 4 = .ok (.invokestatic 61, 3) := by decide +kernel
theorem dX7_isShape_7 : decode cX7_isShape 7 = .ok (.ireturn, 1) := by decide +kernel
theorem dX7_isOf_0 : decode cX7_isOf 0 = .ok (.iload_n 0, 1) := by decide +kernel
theorem dX7_isOf_1 : decode cX7_isOf 1 = .ok (.iload_n 1, 1) := by decide +kernel
theorem dX7_isOf_2 : decode cX7_isOf 2 = .ok (.ishr, 1) := by decide +kernel
theorem dX7_isOf_3 : decode cX7_isOf 3 = .ok (.iconst 1, 1) := by decide +kernel
theorem dX7_isOf_4 : decode cX7_isOf 4 = .ok (.iand, 1) := by decide +kernel
theorem dX7_isOf_5 : decode cX7_isOf 5 = .ok (.iconst 1, 1) := by decide +kernel
theorem dX7_isOf_6 : decode cX7_isOf 6 = .ok (.if_icmp .ne 7, 3) := by decide +kernel
theorem dX7_isOf_9 : decode cX7_isOf 9 = .ok (.iconst 1, 1) := by decide +kernel
theorem dX7_isOf_10 : decode cX7_isOf 10 = .ok (.goto 4, 3) := by decide +kernel
theorem dX7_isOf_13 : decode cX7_isOf 13 = .ok (.iconst 0, 1) := by decide +kernel
theorem dX7_isOf_14 : decode cX7_isOf 14 = .ok (.ireturn, 1) := by decide +kernel
theorem dX7_size_0 : decode cX7_size 0 = .ok (.iconst 0, 1) := by decide +kernel
theorem dX7_size_1 : decode cX7_size 1 = .ok (.istore_n 1, 1) := by decide +kernel
theorem dX7_size_2 : decode cX7_size 2 = .ok (.iload_n 0, 1) := by decide +kernel
theorem dX7_size_3 : decode cX7_size 3 = .ok (.istore_n 2, 1) := by decide +kernel
theorem dX7_size_4 : decode cX7_size 4 = .ok (.iload_n 2, 1) := by decide +kernel
theorem dX7_size_5 : decode cX7_size 5 = .ok (.ifCond .le 16, 3) := by decide +kernel
theorem dX7_size_8 : decode cX7_size 8 = .ok (.iload_n 1, 1) := by decide +kernel
theorem dX7_size_9 : decode cX7_size 9 = .ok (.iload_n 2, 1) := by decide +kernel
theorem dX7_size_10 : decode cX7_size 10 = .ok (.iconst 1, 1) := by decide +kernel
theorem dX7_size_11 : decode cX7_size 11 = .ok (.iand, 1) := by decide +kernel
theorem dX7_size_12 : decode cX7_size 12 = .ok (.iadd, 1) := by decide +kernel
theorem dX7_size_13 : decode cX7_size 13 = .ok (.istore_n 1, 1) := by decide +kernel
theorem dX7_size_14 : decode cX7_size 14 = .ok (.iload_n 2, 1) := by decide +kernel
theorem dX7_size_15 : decode cX7_size 15 = .ok (.iconst 1, 1) := by decide +kernel
theorem dX7_size_16 : decode cX7_size 16 = .ok (.ishr, 1) := by decide +kernel
theorem dX7_size_17 : decode cX7_size 17 = .ok (.istore_n 2, 1) := by decide +kernel
theorem dX7_size_18 : decode cX7_size 18 = .ok (.goto (-14), 3) := by decide +kernel
theorem dX7_size_21 : decode cX7_size 21 = .ok (.iload_n 1, 1) := by decide +kernel
theorem dX7_size_22 : decode cX7_size 22 = .ok (.ireturn, 1) := by decide +kernel
theorem dX7_digit_0 : decode cX7_digit 0 = .ok (.aload_n 0, 1) := by decide +kernel
theorem dX7_digit_1 : decode cX7_digit 1 = .ok (.getfield 68, 3) := by decide +kernel
theorem dX7_digit_4 : decode cX7_digit 4 = .ok (.iload_n 1, 1) := by decide +kernel
theorem dX7_digit_5 : decode cX7_digit 5 = .ok (.if_icmp .ge 26, 3) := by decide +kernel
theorem dX7_digit_8 : decode cX7_digit 8 = .ok (.aload_n 0, 1) := by decide +kernel
theorem dX7_digit_9 : decode cX7_digit 9 = .ok (.getfield 16, 3) := by decide +kernel
theorem dX7_digit_12 : decode cX7_digit 12 = .ok (.aload_n 0, 1) := by decide +kernel
theorem dX7_digit_13 : decode cX7_digit 13 = .ok (.getfield 68, 3) := by decide +kernel
theorem dX7_digit_16 : decode cX7_digit 16 = .ok (.iaload, 1) := by decide +kernel
theorem dX7_digit_17 : decode cX7_digit 17 = .ok (.bipush 48, 2) := by decide +kernel
theorem dX7_digit_19 : decode cX7_digit 19 = .ok (.iload_n 2, 1) := by decide +kernel
theorem dX7_digit_20 : decode cX7_digit 20 = .ok (.iadd, 1) := by decide +kernel
theorem dX7_digit_21 : decode cX7_digit 21 = .ok (.bipush 48, 2) := by decide +kernel
theorem dX7_digit_23 : decode cX7_digit 23 = .ok (.iload_n 3, 1) := by decide +kernel
theorem dX7_digit_24 : decode cX7_digit 24 = .ok (.iadd, 1) := by decide +kernel
theorem dX7_digit_25 : decode cX7_digit 25 = .ok (.invokestatic 61, 3) := by decide +kernel
theorem dX7_digit_28 : decode cX7_digit 28 = .ok (.ifCond .ne 6, 3) := by decide +kernel
theorem dX7_digit_31 : decode cX7_digit 31 = .ok (.bipush (-9), 2) := by decide +kernel
theorem dX7_digit_33 : decode cX7_digit 33 = .ok (.ireturn, 1) := by decide +kernel
theorem dX7_digit_34 : decode cX7_digit 34 = .ok (.aload_n 0, 1) := by decide +kernel
theorem dX7_digit_35 : decode cX7_digit 35 = .ok (.dup, 1) := by decide +kernel
theorem dX7_digit_36 : decode cX7_digit 36 = .ok (.getfield 68, 3) := by decide +kernel
theorem dX7_digit_39 : decode cX7_digit 39 = .ok (.iconst 1, 1) := by decide +kernel
theorem dX7_digit_40 : decode cX7_digit 40 = .ok (.iadd, 1) := by decide +kernel
theorem dX7_digit_41 : decode cX7_digit 41 = .ok (.putfield 68, 3) := by decide +kernel
theorem dX7_digit_44 : decode cX7_digit 44 = .ok (.aload_n 0, 1) := by decide +kernel
theorem dX7_digit_45 : decode cX7_digit 45 = .ok (.getfield 16, 3) := by decide +kernel
theorem dX7_digit_48 : decode cX7_digit 48 = .ok (.aload_n 0, 1) := by decide +kernel
theorem dX7_digit_49 : decode cX7_digit 49 = .ok (.getfield 68, 3) := by decide +kernel
theorem dX7_digit_52 : decode cX7_digit 52 = .ok (.iconst 1, 1) := by decide +kernel
theorem dX7_digit_53 : decode cX7_digit 53 = .ok (.isub, 1) := by decide +kernel
theorem dX7_digit_54 : decode cX7_digit 54 = .ok (.iaload, 1) := by decide +kernel
theorem dX7_digit_55 : decode cX7_digit 55 = .ok (.bipush 48, 2) := by decide +kernel
theorem dX7_digit_57 : decode cX7_digit 57 = .ok (.isub, 1) := by decide +kernel
theorem dX7_digit_58 : decode cX7_digit 58 = .ok (.ireturn, 1) := by decide +kernel
theorem dX7_isSign_0 : decode cX7_isSign 0 = .ok (.aload_n 0, 1) := by decide +kernel
theorem dX7_isSign_1 : decode cX7_isSign 1 = .ok (.getfield 68, 3) := by decide +kernel
theorem dX7_isSign_4 : decode cX7_isSign 4 = .ok (.iload_n 1, 1) := by decide +kernel
theorem dX7_isSign_5 : decode cX7_isSign 5 = .ok (.if_icmp .ge 16, 3) := by decide +kernel
theorem dX7_isSign_8 : decode cX7_isSign 8 = .ok (.aload_n 0, 1) := by decide +kernel
theorem dX7_isSign_9 : decode cX7_isSign 9 = .ok (.getfield 16, 3) := by decide +kernel
theorem dX7_isSign_12 : decode cX7_isSign 12 = .ok (.aload_n 0, 1) := by decide +kernel
theorem dX7_isSign_13 : decode cX7_isSign 13 = .ok (.getfield 68, 3) := by decide +kernel
theorem dX7_isSign_16 : decode cX7_isSign 16 = .ok (.iaload, 1) := by decide +kernel
theorem dX7_isSign_17 : decode cX7_isSign 17 = .ok (.iload_n 2, 1) := by decide +kernel
theorem dX7_isSign_18 : decode cX7_isSign 18 = .ok (.if_icmp .eq 5, 3) := by decide +kernel
theorem dX7_isSign_21 : decode cX7_isSign 21 = .ok (.iconst 0, 1) := by decide +kernel
theorem dX7_isSign_22 : decode cX7_isSign 22 = .ok (.ireturn, 1) := by decide +kernel
theorem dX7_isSign_23 : decode cX7_isSign 23 = .ok (.aload_n 0, 1) := by decide +kernel
theorem dX7_isSign_24 : decode cX7_isSign 24 = .ok (.dup, 1) := by decide +kernel
theorem dX7_isSign_25 : decode cX7_isSign 25 = .ok (.getfield 68, 3) := by decide +kernel
theorem dX7_isSign_28 : decode cX7_isSign 28 = .ok (.iconst 1, 1) := by decide +kernel
theorem dX7_isSign_29 : decode cX7_isSign 29 = .ok (.iadd, 1) := by decide +kernel
theorem dX7_isSign_30 : decode cX7_isSign 30 = .ok (.putfield 68, 3) := by decide +kernel
theorem dX7_isSign_33 : decode cX7_isSign 33 = .ok (.iconst 1, 1) := by decide +kernel
theorem dX7_isSign_34 : decode cX7_isSign 34 = .ok (.ireturn, 1) := by decide +kernel
theorem dX7_garden_0 : decode cX7_garden 0 = .ok (.aload_n 0, 1) := by decide +kernel
theorem dX7_garden_1 : decode cX7_garden 1 = .ok (.iconst 0, 1) := by decide +kernel
theorem dX7_garden_2 : decode cX7_garden 2 = .ok (.putfield 55, 3) := by decide +kernel
theorem dX7_garden_5 : decode cX7_garden 5 = .ok (.iload_n 1, 1) := by decide +kernel
theorem dX7_garden_6 : decode cX7_garden 6 = .ok (.invokestatic 71, 3) := by decide +kernel
theorem dX7_garden_9 : decode cX7_garden 9 = .ok (.ifCond .ne 5, 3) := by decide +kernel
theorem dX7_garden_12 : decode cX7_garden 12 = .ok (.iconst (-1), 1) := by decide +kernel
theorem dX7_garden_13 : decode cX7_garden 13 = .ok (.ireturn, 1) := by decide +kernel
theorem dX7_garden_14 : decode cX7_garden 14 = .ok (.iload_n 2, 1) := by decide +kernel
theorem dX7_garden_15 : decode cX7_garden 15 = .ok (.invokestatic 75, 3) := by decide +kernel
theorem dX7_garden_18 : decode cX7_garden 18 = .ok (.ifCond .ne 6, 3) := by decide +kernel
theorem dX7_garden_21 : decode cX7_garden 21 = .ok (.bipush (-2), 2) := by decide +kernel
theorem dX7_garden_23 : decode cX7_garden 23 = .ok (.ireturn, 1) := by decide +kernel
theorem dX7_garden_24 : decode cX7_garden 24 = .ok (.aload_n 0, 1) := by decide +kernel
theorem dX7_garden_25 : decode cX7_garden 25 = .ok (.iload_n 1, 1) := by decide +kernel
theorem dX7_garden_26 : decode cX7_garden 26 = .ok (.iload_n 2, 1) := by decide +kernel
theorem dX7_garden_27 : decode cX7_garden 27 = .ok (.iload_n 3, 1) := by decide +kernel
theorem dX7_garden_28 : decode cX7_garden 28 = .ok (.iload 4, 2) := by decide +kernel
theorem dX7_garden_30 : decode cX7_garden 30 = .ok (.invokevirtual 78, 3) := by decide +kernel
theorem dX7_garden_33 : decode cX7_garden 33 = .ok (.istore 5, 2) := by decide +kernel
theorem dX7_garden_35 : decode cX7_garden 35 = .ok (.iload 5, 2) := by decide +kernel
theorem dX7_garden_37 : decode cX7_garden 37 = .ok (.ifCond .eq 10, 3) := by decide +kernel
theorem dX7_garden_40 : decode cX7_garden 40 = .ok (.aload_n 0, 1) := by decide +kernel
theorem dX7_garden_41 : decode cX7_garden 41 = .ok (.iload 5, 2) := by decide +kernel
theorem dX7_garden_43 : decode cX7_garden 43 = .ok (.invokevirtual 82, 3) := by decide +kernel
theorem dX7_garden_46 : decode cX7_garden 46 = .ok (.ireturn, 1) := by decide +kernel
theorem dX7_garden_47 : decode cX7_garden 47 = .ok (.bipush 60, 2) := by decide +kernel
theorem dX7_garden_49 : decode cX7_garden 49 = .ok (.iload_n 1, 1) := by decide +kernel
theorem dX7_garden_50 : decode cX7_garden 50 = .ok (.imul, 1) := by decide +kernel
theorem dX7_garden_51 : decode cX7_garden 51 = .ok (.iload_n 3, 1) := by decide +kernel
theorem dX7_garden_52 : decode cX7_garden 52 = .ok (.iadd, 1) := by decide +kernel
theorem dX7_garden_53 : decode cX7_garden 53 = .ok (.istore 6, 2) := by decide +kernel
theorem dX7_garden_55 : decode cX7_garden 55 = .ok (.aload_n 0, 1) := by decide +kernel
theorem dX7_garden_56 : decode cX7_garden 56 = .ok (.iload 6, 2) := by decide +kernel
theorem dX7_garden_58 : decode cX7_garden 58 = .ok (.putfield 68, 3) := by decide +kernel
theorem dX7_garden_61 : decode cX7_garden 61 = .ok (.aload_n 0, 1) := by decide +kernel
theorem dX7_garden_62 : decode cX7_garden 62 = .ok (.iload 6, 2) := by decide +kernel
theorem dX7_garden_64 : decode cX7_garden 64 = .ok (.iload 4, 2) := by decide +kernel
theorem dX7_garden_66 : decode cX7_garden 66 = .ok (.iadd, 1) := by decide +kernel
theorem dX7_garden_67 : decode cX7_garden 67 = .ok (.invokevirtual 86, 3) := by decide +kernel
theorem dX7_garden_70 : decode cX7_garden 70 = .ok (.ifCond .ne 14, 3) := by decide +kernel
theorem dX7_garden_73 : decode cX7_garden 73 = .ok (.bipush (-100), 2) := by decide +kernel
theorem dX7_garden_75 : decode cX7_garden 75 = .ok (.aload_n 0, 1) := by decide +kernel
theorem dX7_garden_76 : decode cX7_garden 76 = .ok (.getfield 68, 3) := by decide +kernel
theorem dX7_garden_79 : decode cX7_garden 79 = .ok (.iload 6, 2) := by decide +kernel
theorem dX7_garden_81 : decode cX7_garden 81 = .ok (.isub, 1) := by decide +kernel
theorem dX7_garden_82 : decode cX7_garden 82 = .ok (.isub, 1) := by decide +kernel
theorem dX7_garden_83 : decode cX7_garden 83 = .ok (.ireturn, 1) := by decide +kernel
theorem dX7_garden_84 : decode cX7_garden 84 = .ok (.aload_n 0, 1) := by decide +kernel
theorem dX7_garden_85 : decode cX7_garden 85 = .ok (.invokevirtual 89, 3) := by decide +kernel
theorem dX7_garden_88 : decode cX7_garden 88 = .ok (.aload_n 0, 1) := by decide +kernel
theorem dX7_garden_89 : decode cX7_garden 89 = .ok (.getfield 65, 3) := by decide +kernel
theorem dX7_garden_92 : decode cX7_garden 92 = .ok (.ireturn, 1) := by decide +kernel
theorem dX7_takeGarden_0 : decode cX7_takeGarden 0 = .ok (.aload_n 0, 1) := by decide +kernel
theorem dX7_takeGarden_1 : decode cX7_takeGarden 1 = .ok (.aload_n 0, 1) := by decide +kernel
theorem dX7_takeGarden_2 : decode cX7_takeGarden 2 = .ok (.getfield 92, 3) := by decide +kernel
theorem dX7_takeGarden_5 : decode cX7_takeGarden 5 = .ok (.invokevirtual 95, 3) := by decide +kernel
theorem dX7_takeGarden_8 : decode cX7_takeGarden 8 = .ok (.aload_n 0, 1) := by decide +kernel
theorem dX7_takeGarden_9 : decode cX7_takeGarden 9 = .ok (.aload_n 0, 1) := by decide +kernel
theorem dX7_takeGarden_10 : decode cX7_takeGarden 10 = .ok (.getfield 99, 3) := by decide +kernel
theorem dX7_takeGarden_13 : decode cX7_takeGarden 13 = .ok (.putfield 65, 3) := by decide +kernel
theorem dX7_takeGarden_16 : decode cX7_takeGarden 16 = .ok (.iconst 0, 1) := by decide +kernel
theorem dX7_takeGarden_17 : decode cX7_takeGarden 17 = .ok (.istore_n 1, 1) := by decide +kernel
theorem dX7_takeGarden_18 : decode cX7_takeGarden 18 = .ok (.iload_n 1, 1) := by decide +kernel
theorem dX7_takeGarden_19 : decode cX7_takeGarden 19 = .ok (.aload_n 0, 1) := by decide +kernel
theorem dX7_takeGarden_20 : decode cX7_takeGarden 20 = .ok (.getfield 65, 3) := by decide +kernel
theorem dX7_takeGarden_23 : decode cX7_takeGarden 23 = .ok (.if_icmp .ge 55, 3) := by decide +kernel
theorem dX7_takeGarden_26 : decode cX7_takeGarden 26 = .ok (.aload_n 0, 1) := by decide +kernel
theorem dX7_takeGarden_27 : decode cX7_takeGarden 27 = .ok (.getfield 22, 3) := by decide +kernel
theorem dX7_takeGarden_30 : decode cX7_takeGarden 30 = .ok (.iload_n 1, 1) := by decide +kernel
theorem dX7_takeGarden_31 : decode cX7_takeGarden 31 = .ok (.aload_n 0, 1) := by decide +kernel
theorem dX7_takeGarden_32 : decode cX7_takeGarden 32 = .ok (.getfield 31, 3) := by decide +kernel
theorem dX7_takeGarden_35 : decode cX7_takeGarden 35 = .ok (.iconst 3, 1) := by decide +kernel
theorem dX7_takeGarden_36 : decode cX7_takeGarden 36 = .ok (.iload_n 1, 1) := by decide +kernel
theorem dX7_takeGarden_37 : decode cX7_takeGarden 37 = .ok (.imul, 1) := by decide +kernel
theorem dX7_takeGarden_38 : decode cX7_takeGarden 38 = .ok (.iaload, 1) := by decide +kernel
theorem dX7_takeGarden_39 : decode cX7_takeGarden 39 = .ok (.iastore, 1) := by decide +kernel
theorem dX7_takeGarden_40 : decode cX7_takeGarden 40 = .ok (.aload_n 0, 1) := by decide +kernel
theorem dX7_takeGarden_41 : decode cX7_takeGarden 41 = .ok (.getfield 25, 3) := by decide +kernel
theorem dX7_takeGarden_44 : decode cX7_takeGarden 44 = .ok (.iload_n 1, 1) := by decide +kernel
theorem dX7_takeGarden_45 : decode cX7_takeGarden 45 = .ok (.aload_n 0, 1) := by decide +kernel
theorem dX7_takeGarden_46 : decode cX7_takeGarden 46 = .ok (.getfield 31, 3) := by decide +kernel
theorem dX7_takeGarden_49 : decode cX7_takeGarden 49 = .ok (.iconst 3, 1) := by decide +kernel
theorem dX7_takeGarden_50 : decode cX7_takeGarden 50 = .ok (.iload_n 1, 1) := by decide +kernel
theorem dX7_takeGarden_51 : decode cX7_takeGarden 51 = .ok (.imul, 1) := by decide +kernel
theorem dX7_takeGarden_52 : decode cX7_takeGarden 52 = .ok (.iconst 1, 1) := by decide +kernel
theorem dX7_takeGarden_53 : decode cX7_takeGarden 53 = .ok (.iadd, 1) := by decide +kernel
theorem dX7_takeGarden_54 : decode cX7_takeGarden 54 = .ok (.iaload, 1) := by decide +kernel
theorem dX7_takeGarden_55 : decode cX7_takeGarden 55 = .ok (.iastore, 1) := by decide +kernel
theorem dX7_takeGarden_56 : decode cX7_takeGarden 56 = .ok (.aload_n 0, 1) := by decide +kernel
theorem dX7_takeGarden_57 : decode cX7_takeGarden 57 = .ok (.getfield 28, 3) := by decide +kernel
theorem dX7_takeGarden_60 : decode cX7_takeGarden 60 = .ok (.iload_n 1, 1) := by decide +kernel
theorem dX7_takeGarden_61 : decode cX7_takeGarden 61 = .ok (.aload_n 0, 1) := by decide +kernel
theorem dX7_takeGarden_62 : decode cX7_takeGarden 62 = .ok (.getfield 31, 3) := by decide +kernel
theorem dX7_takeGarden_65 : decode cX7_takeGarden 65 = .ok (.iconst 3, 1) := by decide +kernel
theorem dX7_takeGarden_66 : decode cX7_takeGarden 66 = .ok (.iload_n 1, 1) := by decide +kernel
theorem dX7_takeGarden_67 : decode cX7_takeGarden 67 = .ok (.imul, 1) := by decide +kernel
theorem dX7_takeGarden_68 : decode cX7_takeGarden 68 = .ok (.iconst 2, 1) := by decide +kernel
theorem dX7_takeGarden_69 : decode cX7_takeGarden 69 = .ok (.iadd, 1) := by decide +kernel
theorem dX7_takeGarden_70 : decode cX7_takeGarden 70 = .ok (.iaload, 1) := by decide +kernel
theorem dX7_takeGarden_71 : decode cX7_takeGarden 71 = .ok (.iastore, 1) := by decide +kernel
theorem dX7_takeGarden_72 : decode cX7_takeGarden 72 = .ok (.iinc 1 1, 3) := by decide +kernel
theorem dX7_takeGarden_75 : decode cX7_takeGarden 75 = .ok (.goto (-57), 3) := by decide +kernel
theorem dX7_takeGarden_78 : decode cX7_takeGarden 78 = .ok (.aload_n 0, 1) := by decide +kernel
theorem dX7_takeGarden_79 : decode cX7_takeGarden 79 = .ok (.iconst 0, 1) := by decide +kernel
theorem dX7_takeGarden_80 : decode cX7_takeGarden 80 = .ok (.putfield 102, 3) := by decide +kernel
theorem dX7_takeGarden_83 : decode cX7_takeGarden 83 = .ok (.aload_n 0, 1) := by decide +kernel
theorem dX7_takeGarden_84 : decode cX7_takeGarden 84 = .ok (.iconst 0, 1) := by decide +kernel
theorem dX7_takeGarden_85 : decode cX7_takeGarden 85 = .ok (.putfield 105, 3) := by decide +kernel
theorem dX7_takeGarden_88 : decode cX7_takeGarden 88 = .ok (.aload_n 0, 1) := by decide +kernel
theorem dX7_takeGarden_89 : decode cX7_takeGarden 89 = .ok (.iconst 0, 1) := by decide +kernel
theorem dX7_takeGarden_90 : decode cX7_takeGarden 90 = .ok (.putfield 108, 3) := by decide +kernel
theorem dX7_takeGarden_93 : decode cX7_takeGarden 93 = .ok (.return_, 1) := by decide +kernel
theorem dX7_bitFor_0 : decode cX7_bitFor 0 = .ok (.iload_n 0, 1) := by decide +kernel
theorem dX7_bitFor_1 : decode cX7_bitFor 1 = .ok (.iload_n 1, 1) := by decide +kernel
theorem dX7_bitFor_2 : decode cX7_bitFor 2 = .ok (.iconst 1, 1) := by decide +kernel
theorem dX7_bitFor_3 : decode cX7_bitFor 3 = .ok (.iadd, 1) := by decide +kernel
theorem dX7_bitFor_4 : decode cX7_bitFor 4 = .ok (.bipush 6, 2) := by decide +kernel
theorem dX7_bitFor_6 : decode cX7_bitFor 6 = .ok (.irem, 1) := by decide +kernel
theorem dX7_bitFor_7 : decode cX7_bitFor 7 = .ok (.ishr, 1) := by decide +kernel
theorem dX7_bitFor_8 : decode cX7_bitFor 8 = .ok (.iconst 1, 1) := by decide +kernel
theorem dX7_bitFor_9 : decode cX7_bitFor 9 = .ok (.iand, 1) := by decide +kernel
theorem dX7_bitFor_10 : decode cX7_bitFor 10 = .ok (.istore_n 2, 1) := by decide +kernel
theorem dX7_bitFor_11 : decode cX7_bitFor 11 = .ok (.iload_n 0, 1) := by decide +kernel
theorem dX7_bitFor_12 : decode cX7_bitFor 12 = .ok (.iload_n 1, 1) := by decide +kernel
theorem dX7_bitFor_13 : decode cX7_bitFor 13 = .ok (.bipush 6, 2) := by decide +kernel
theorem dX7_bitFor_15 : decode cX7_bitFor 15 = .ok (.iadd, 1) := by decide +kernel
theorem dX7_bitFor_16 : decode cX7_bitFor 16 = .ok (.iconst 1, 1) := by decide +kernel
theorem dX7_bitFor_17 : decode cX7_bitFor 17 = .ok (.isub, 1) := by decide +kernel
theorem dX7_bitFor_18 : decode cX7_bitFor 18 = .ok (.bipush 6, 2) := by decide +kernel
theorem dX7_bitFor_20 : decode cX7_bitFor 20 = .ok (.irem, 1) := by decide +kernel
theorem dX7_bitFor_21 : decode cX7_bitFor 21 = .ok (.ishr, 1) := by decide +kernel
theorem dX7_bitFor_22 : decode cX7_bitFor 22 = .ok (.iconst 1, 1) := by decide +kernel
theorem dX7_bitFor_23 : decode cX7_bitFor 23 = .ok (.iand, 1) := by decide +kernel
theorem dX7_bitFor_24 : decode cX7_bitFor 24 = .ok (.istore_n 3, 1) := by decide +kernel
theorem dX7_bitFor_25 : decode cX7_bitFor 25 = .ok (.iconst 4, 1) := by decide +kernel
theorem dX7_bitFor_26 : decode cX7_bitFor 26 = .ok (.iload_n 2, 1) := by decide +kernel
theorem dX7_bitFor_27 : decode cX7_bitFor 27 = .ok (.imul, 1) := by decide +kernel
theorem dX7_bitFor_28 : decode cX7_bitFor 28 = .ok (.iconst 2, 1) := by decide +kernel
theorem dX7_bitFor_29 : decode cX7_bitFor 29 = .ok (.iload_n 0, 1) := by decide +kernel
theorem dX7_bitFor_30 : decode cX7_bitFor 30 = .ok (.iload_n 1, 1) := by decide +kernel
theorem dX7_bitFor_31 : decode cX7_bitFor 31 = .ok (.ishr, 1) := by decide +kernel
theorem dX7_bitFor_32 : decode cX7_bitFor 32 = .ok (.iconst 1, 1) := by decide +kernel
theorem dX7_bitFor_33 : decode cX7_bitFor 33 = .ok (.iand, 1) := by decide +kernel
theorem dX7_bitFor_34 : decode cX7_bitFor 34 = .ok (.imul, 1) := by decide +kernel
theorem dX7_bitFor_35 : decode cX7_bitFor 35 = .ok (.iadd, 1) := by decide +kernel
theorem dX7_bitFor_36 : decode cX7_bitFor 36 = .ok (.iload_n 3, 1) := by decide +kernel
theorem dX7_bitFor_37 : decode cX7_bitFor 37 = .ok (.iadd, 1) := by decide +kernel
theorem dX7_bitFor_38 : decode cX7_bitFor 38 = .ok (.ireturn, 1) := by decide +kernel
theorem dX7_takeLaw_0 : decode cX7_takeLaw 0 = .ok (.aload_n 0, 1) := by decide +kernel
theorem dX7_takeLaw_1 : decode cX7_takeLaw 1 = .ok (.iload_n 1, 1) := by decide +kernel
theorem dX7_takeLaw_2 : decode cX7_takeLaw 2 = .ok (.putfield 111, 3) := by decide +kernel
theorem dX7_takeLaw_5 : decode cX7_takeLaw 5 = .ok (.iconst 0, 1) := by decide +kernel
theorem dX7_takeLaw_6 : decode cX7_takeLaw 6 = .ok (.istore_n 2, 1) := by decide +kernel
theorem dX7_takeLaw_7 : decode cX7_takeLaw 7 = .ok (.iload_n 2, 1) := by decide +kernel
theorem dX7_takeLaw_8 : decode cX7_takeLaw 8 = .ok (.bipush 64, 2) := by decide +kernel
theorem dX7_takeLaw_10 : decode cX7_takeLaw 10 = .ok (.if_icmp .ge 53, 3) := by decide +kernel
theorem dX7_takeLaw_13 : decode cX7_takeLaw 13 = .ok (.aload_n 0, 1) := by decide +kernel
theorem dX7_takeLaw_14 : decode cX7_takeLaw 14 = .ok (.getfield 19, 3) := by decide +kernel
theorem dX7_takeLaw_17 : decode cX7_takeLaw 17 = .ok (.iload_n 2, 1) := by decide +kernel
theorem dX7_takeLaw_18 : decode cX7_takeLaw 18 = .ok (.iconst 0, 1) := by decide +kernel
theorem dX7_takeLaw_19 : decode cX7_takeLaw 19 = .ok (.iastore, 1) := by decide +kernel
theorem dX7_takeLaw_20 : decode cX7_takeLaw 20 = .ok (.iconst 0, 1) := by decide +kernel
theorem dX7_takeLaw_21 : decode cX7_takeLaw 21 = .ok (.istore_n 3, 1) := by decide +kernel
theorem dX7_takeLaw_22 : decode cX7_takeLaw 22 = .ok (.iload_n 3, 1) := by decide +kernel
theorem dX7_takeLaw_23 : decode cX7_takeLaw 23 = .ok (.bipush 6, 2) := by decide +kernel
theorem dX7_takeLaw_25 : decode cX7_takeLaw 25 = .ok (.if_icmp .ge 32, 3) := by decide +kernel
theorem dX7_takeLaw_28 : decode cX7_takeLaw 28 = .ok (.aload_n 0, 1) := by decide +kernel
theorem dX7_takeLaw_29 : decode cX7_takeLaw 29 = .ok (.getfield 19, 3) := by decide +kernel
theorem dX7_takeLaw_32 : decode cX7_takeLaw 32 = .ok (.iload_n 2, 1) := by decide +kernel
theorem dX7_takeLaw_33 : decode cX7_takeLaw 33 = .ok (.dup2, 1) := by decide +kernel
theorem dX7_takeLaw_34 : decode cX7_takeLaw 34 = .ok (.iaload, 1) := by decide +kernel
theorem dX7_takeLaw_35 : decode cX7_takeLaw 35 = .ok (.aload_n 0, 1) := by decide +kernel
theorem dX7_takeLaw_36 : decode cX7_takeLaw 36 = .ok (.getfield 111, 3) := by decide +kernel
theorem dX7_takeLaw_39 : decode cX7_takeLaw 39 = .ok (.iload_n 2, 1) := by decide +kernel
theorem dX7_takeLaw_40 : decode cX7_takeLaw 40 = .ok (.iload_n 3, 1) := by decide +kernel
theorem dX7_takeLaw_41 : decode cX7_takeLaw 41 = .ok (.invokestatic 114, 3) := by decide +kernel
theorem dX7_takeLaw_44 : decode cX7_takeLaw 44 = .ok (.ishr, 1) := by decide +kernel
theorem dX7_takeLaw_45 : decode cX7_takeLaw 45 = .ok (.iconst 1, 1) := by decide +kernel
theorem dX7_takeLaw_46 : decode cX7_takeLaw 46 = .ok (.iand, 1) := by decide +kernel
theorem dX7_takeLaw_47 : decode cX7_takeLaw 47 = .ok (.iload_n 3, 1) := by decide +kernel
theorem dX7_takeLaw_48 : decode cX7_takeLaw 48 = .ok (.ishl, 1) := by decide +kernel
theorem dX7_takeLaw_49 : decode cX7_takeLaw 49 = .ok (.ior, 1) := by decide +kernel
theorem dX7_takeLaw_50 : decode cX7_takeLaw 50 = .ok (.iastore, 1) := by decide +kernel
theorem dX7_takeLaw_51 : decode cX7_takeLaw 51 = .ok (.iinc 3 1, 3) := by decide +kernel
theorem dX7_takeLaw_54 : decode cX7_takeLaw 54 = .ok (.goto (-32), 3) := by decide +kernel
theorem dX7_takeLaw_57 : decode cX7_takeLaw 57 = .ok (.iinc 2 1, 3) := by decide +kernel
theorem dX7_takeLaw_60 : decode cX7_takeLaw 60 = .ok (.goto (-53), 3) := by decide +kernel
theorem dX7_takeLaw_63 : decode cX7_takeLaw 63 = .ok (.return_, 1) := by decide +kernel
theorem dX7_readGarden_0 : decode cX7_readGarden 0 = .ok (.aload_n 0, 1) := by decide +kernel
theorem dX7_readGarden_1 : decode cX7_readGarden 1 = .ok (.iconst 0, 1) := by decide +kernel
theorem dX7_readGarden_2 : decode cX7_readGarden 2 = .ok (.putfield 99, 3) := by decide +kernel
theorem dX7_readGarden_5 : decode cX7_readGarden 5 = .ok (.aload_n 0, 1) := by decide +kernel
theorem dX7_readGarden_6 : decode cX7_readGarden 6 = .ok (.iload_n 1, 1) := by decide +kernel
theorem dX7_readGarden_7 : decode cX7_readGarden 7 = .ok (.bipush 103, 2) := by decide +kernel
theorem dX7_readGarden_9 : decode cX7_readGarden 9 = .ok (.invokevirtual 118, 3) := by decide +kernel
theorem dX7_readGarden_12 : decode cX7_readGarden 12 = .ok (.ifCond .eq 11, 3) := by decide +kernel
theorem dX7_readGarden_15 : decode cX7_readGarden 15 = .ok (.aload_n 0, 1) := by decide +kernel
theorem dX7_readGarden_16 : decode cX7_readGarden 16 = .ok (.iload_n 1, 1) := by decide +kernel
theorem dX7_readGarden_17 : decode cX7_readGarden 17 = .ok (.invokevirtual 122, 3) := by decide +kernel
theorem dX7_readGarden_20 : decode cX7_readGarden 20 = .ok (.ifCond .ne 5, 3) := by decide +kernel
theorem dX7_readGarden_23 : decode cX7_readGarden 23 = .ok (.iconst 0, 1) := by decide +kernel
theorem dX7_readGarden_24 : decode cX7_readGarden 24 = .ok (.ireturn, 1) := by decide +kernel
theorem dX7_readGarden_25 : decode cX7_readGarden 25 = .ok (.aload_n 0, 1) := by decide +kernel
theorem dX7_readGarden_26 : decode cX7_readGarden 26 = .ok (.getfield 99, 3) := by decide +kernel
theorem dX7_readGarden_29 : decode cX7_readGarden 29 = .ok (.ifCond .eq 20, 3) := by decide +kernel
theorem dX7_readGarden_32 : decode cX7_readGarden 32 = .ok (.aload_n 0, 1) := by decide +kernel
theorem dX7_readGarden_33 : decode cX7_readGarden 33 = .ok (.getfield 99, 3) := by decide +kernel
theorem dX7_readGarden_36 : decode cX7_readGarden 36 = .ok (.bipush 6, 2) := by decide +kernel
theorem dX7_readGarden_38 : decode cX7_readGarden 38 = .ok (.if_icmp .ge 31, 3) := by decide +kernel
theorem dX7_readGarden_41 : decode cX7_readGarden 41 = .ok (.aload_n 0, 1) := by decide +kernel
theorem dX7_readGarden_42 : decode cX7_readGarden 42 = .ok (.getfield 68, 3) := by decide +kernel
theorem dX7_readGarden_45 : decode cX7_readGarden 45 = .ok (.iload_n 1, 1) := by decide +kernel
theorem dX7_readGarden_46 : decode cX7_readGarden 46 = .ok (.if_icmp .ge 23, 3) := by decide +kernel
theorem dX7_readGarden_49 : decode cX7_readGarden 49 = .ok (.aload_n 0, 1) := by decide +kernel
theorem dX7_readGarden_50 : decode cX7_readGarden 50 = .ok (.iload_n 1, 1) := by decide +kernel
theorem dX7_readGarden_51 : decode cX7_readGarden 51 = .ok (.bipush 59, 2) := by decide +kernel
theorem dX7_readGarden_53 : decode cX7_readGarden 53 = .ok (.invokevirtual 118, 3) := by decide +kernel
theorem dX7_readGarden_56 : decode cX7_readGarden 56 = .ok (.ifCond .eq 11, 3) := by decide +kernel
theorem dX7_readGarden_59 : decode cX7_readGarden 59 = .ok (.aload_n 0, 1) := by decide +kernel
theorem dX7_readGarden_60 : decode cX7_readGarden 60 = .ok (.iload_n 1, 1) := by decide +kernel
theorem dX7_readGarden_61 : decode cX7_readGarden 61 = .ok (.invokevirtual 125, 3) := by decide +kernel
theorem dX7_readGarden_64 : decode cX7_readGarden 64 = .ok (.ifCond .ne (-39), 3) := by decide +kernel
theorem dX7_readGarden_67 : decode cX7_readGarden 67 = .ok (.iconst 0, 1) := by decide +kernel
theorem dX7_readGarden_68 : decode cX7_readGarden 68 = .ok (.ireturn, 1) := by decide +kernel
theorem dX7_readGarden_69 : decode cX7_readGarden 69 = .ok (.aload_n 0, 1) := by decide +kernel
theorem dX7_readGarden_70 : decode cX7_readGarden 70 = .ok (.getfield 68, 3) := by decide +kernel
theorem dX7_readGarden_73 : decode cX7_readGarden 73 = .ok (.iload_n 1, 1) := by decide +kernel
theorem dX7_readGarden_74 : decode cX7_readGarden 74 = .ok (.if_icmp .ne 7, 3) := by decide +kernel
theorem dX7_readGarden_77 : decode cX7_readGarden 77 = .ok (.iconst 1, 1) := by decide +kernel
theorem dX7_readGarden_78 : decode cX7_readGarden 78 = .ok (.goto 4, 3) := by decide +kernel
theorem dX7_readGarden_81 : decode cX7_readGarden 81 = .ok (.iconst 0, 1) := by decide +kernel
theorem dX7_readGarden_82 : decode cX7_readGarden 82 = .ok (.ireturn, 1) := by decide +kernel
theorem dX7_readTheLaw_0 : decode cX7_readTheLaw 0 = .ok (.aload_n 0, 1) := by decide +kernel
theorem dX7_readTheLaw_1 : decode cX7_readTheLaw 1 = .ok (.iload_n 1, 1) := by decide +kernel
theorem dX7_readTheLaw_2 : decode cX7_readTheLaw 2 = .ok (.iconst 0, 1) := by decide +kernel
theorem dX7_readTheLaw_3 : decode cX7_readTheLaw 3 = .ok (.iconst 2, 1) := by decide +kernel
theorem dX7_readTheLaw_4 : decode cX7_readTheLaw 4 = .ok (.invokevirtual 128, 3) := by decide +kernel
theorem dX7_readTheLaw_7 : decode cX7_readTheLaw 7 = .ok (.istore_n 2, 1) := by decide +kernel
theorem dX7_readTheLaw_8 : decode cX7_readTheLaw 8 = .ok (.iload_n 2, 1) := by decide +kernel
theorem dX7_readTheLaw_9 : decode cX7_readTheLaw 9 = .ok (.bipush (-9), 2) := by decide +kernel
theorem dX7_readTheLaw_11 : decode cX7_readTheLaw 11 = .ok (.if_icmp .ne 5, 3) := by decide +kernel
theorem dX7_readTheLaw_14 : decode cX7_readTheLaw 14 = .ok (.iconst 0, 1) := by decide +kernel
theorem dX7_readTheLaw_15 : decode cX7_readTheLaw 15 = .ok (.ireturn, 1) := by decide +kernel
theorem dX7_readTheLaw_16 : decode cX7_readTheLaw 16 = .ok (.aload_n 0, 1) := by decide +kernel
theorem dX7_readTheLaw_17 : decode cX7_readTheLaw 17 = .ok (.iload_n 1, 1) := by decide +kernel
theorem dX7_readTheLaw_18 : decode cX7_readTheLaw 18 = .ok (.iconst 0, 1) := by decide +kernel
theorem dX7_readTheLaw_19 : decode cX7_readTheLaw 19 = .ok (.iload_n 2, 1) := by decide +kernel
theorem dX7_readTheLaw_20 : decode cX7_readTheLaw 20 = .ok (.iconst 2, 1) := by decide +kernel
theorem dX7_readTheLaw_21 : decode cX7_readTheLaw 21 = .ok (.if_icmp .ne 7, 3) := by decide +kernel
theorem dX7_readTheLaw_24 : decode cX7_readTheLaw 24 = .ok (.iconst 5, 1) := by decide +kernel
theorem dX7_readTheLaw_25 : decode cX7_readTheLaw 25 = .ok (.goto 5, 3) := by decide +kernel
theorem dX7_readTheLaw_28 : decode cX7_readTheLaw 28 = .ok (.bipush 9, 2) := by decide +kernel
theorem dX7_readTheLaw_30 : decode cX7_readTheLaw 30 = .ok (.invokevirtual 128, 3) := by decide +kernel
theorem dX7_readTheLaw_33 : decode cX7_readTheLaw 33 = .ok (.istore_n 3, 1) := by decide +kernel
theorem dX7_readTheLaw_34 : decode cX7_readTheLaw 34 = .ok (.iload_n 3, 1) := by decide +kernel
theorem dX7_readTheLaw_35 : decode cX7_readTheLaw 35 = .ok (.bipush (-9), 2) := by decide +kernel
theorem dX7_readTheLaw_37 : decode cX7_readTheLaw 37 = .ok (.if_icmp .ne 5, 3) := by decide +kernel
theorem dX7_readTheLaw_40 : decode cX7_readTheLaw 40 = .ok (.iconst 0, 1) := by decide +kernel
theorem dX7_readTheLaw_41 : decode cX7_readTheLaw 41 = .ok (.ireturn, 1) := by decide +kernel
theorem dX7_readTheLaw_42 : decode cX7_readTheLaw 42 = .ok (.aload_n 0, 1) := by decide +kernel
theorem dX7_readTheLaw_43 : decode cX7_readTheLaw 43 = .ok (.iload_n 1, 1) := by decide +kernel
theorem dX7_readTheLaw_44 : decode cX7_readTheLaw 44 = .ok (.iconst 0, 1) := by decide +kernel
theorem dX7_readTheLaw_45 : decode cX7_readTheLaw 45 = .ok (.iload_n 2, 1) := by decide +kernel
theorem dX7_readTheLaw_46 : decode cX7_readTheLaw 46 = .ok (.iconst 2, 1) := by decide +kernel
theorem dX7_readTheLaw_47 : decode cX7_readTheLaw 47 = .ok (.if_icmp .ne 12, 3) := by decide +kernel
theorem dX7_readTheLaw_50 : decode cX7_readTheLaw 50 = .ok (.iload_n 3, 1) := by decide +kernel
theorem dX7_readTheLaw_51 : decode cX7_readTheLaw 51 = .ok (.iconst 5, 1) := by decide +kernel
theorem dX7_readTheLaw_52 : decode cX7_readTheLaw 52 = .ok (.if_icmp .ne 7, 3) := by decide +kernel
theorem dX7_readTheLaw_55 : decode cX7_readTheLaw 55 = .ok (.iconst 5, 1) := by decide +kernel
theorem dX7_readTheLaw_56 : decode cX7_readTheLaw 56 = .ok (.goto 5, 3) := by decide +kernel
theorem dX7_readTheLaw_59 : decode cX7_readTheLaw 59 = .ok (.bipush 9, 2) := by decide +kernel
theorem dX7_readTheLaw_61 : decode cX7_readTheLaw 61 = .ok (.invokevirtual 128, 3) := by decide +kernel
theorem dX7_readTheLaw_64 : decode cX7_readTheLaw 64 = .ok (.istore 4, 2) := by decide +kernel
theorem dX7_readTheLaw_66 : decode cX7_readTheLaw 66 = .ok (.aload_n 0, 1) := by decide +kernel
theorem dX7_readTheLaw_67 : decode cX7_readTheLaw 67 = .ok (.bipush 100, 2) := by decide +kernel
theorem dX7_readTheLaw_69 : decode cX7_readTheLaw 69 = .ok (.iload_n 2, 1) := by decide +kernel
theorem dX7_readTheLaw_70 : decode cX7_readTheLaw 70 = .ok (.imul, 1) := by decide +kernel
theorem dX7_readTheLaw_71 : decode cX7_readTheLaw 71 = .ok (.bipush 10, 2) := by decide +kernel
theorem dX7_readTheLaw_73 : decode cX7_readTheLaw 73 = .ok (.iload_n 3, 1) := by decide +kernel
theorem dX7_readTheLaw_74 : decode cX7_readTheLaw 74 = .ok (.imul, 1) := by decide +kernel
theorem dX7_readTheLaw_75 : decode cX7_readTheLaw 75 = .ok (.iadd, 1) := by decide +kernel
theorem dX7_readTheLaw_76 : decode cX7_readTheLaw 76 = .ok (.iload 4, 2) := by decide +kernel
theorem dX7_readTheLaw_78 : decode cX7_readTheLaw 78 = .ok (.iadd, 1) := by decide +kernel
theorem dX7_readTheLaw_79 : decode cX7_readTheLaw 79 = .ok (.putfield 92, 3) := by decide +kernel
theorem dX7_readTheLaw_82 : decode cX7_readTheLaw 82 = .ok (.iload 4, 2) := by decide +kernel
theorem dX7_readTheLaw_84 : decode cX7_readTheLaw 84 = .ok (.bipush (-9), 2) := by decide +kernel
theorem dX7_readTheLaw_86 : decode cX7_readTheLaw 86 = .ok (.if_icmp .eq 7, 3) := by decide +kernel
theorem dX7_readTheLaw_89 : decode cX7_readTheLaw 89 = .ok (.iconst 1, 1) := by decide +kernel
theorem dX7_readTheLaw_90 : decode cX7_readTheLaw 90 = .ok (.goto 4, 3) := by decide +kernel
theorem dX7_readTheLaw_93 : decode cX7_readTheLaw 93 = .ok (.iconst 0, 1) := by decide +kernel
theorem dX7_readTheLaw_94 : decode cX7_readTheLaw 94 = .ok (.ireturn, 1) := by decide +kernel
theorem dX7_readBlock_0 : decode cX7_readBlock 0 = .ok (.aload_n 0, 1) := by decide +kernel
theorem dX7_readBlock_1 : decode cX7_readBlock 1 = .ok (.getfield 68, 3) := by decide +kernel
theorem dX7_readBlock_4 : decode cX7_readBlock 4 = .ok (.iload_n 1, 1) := by decide +kernel
theorem dX7_readBlock_5 : decode cX7_readBlock 5 = .ok (.if_icmp .ge 15, 3) := by decide +kernel
theorem dX7_readBlock_8 : decode cX7_readBlock 8 = .ok (.aload_n 0, 1) := by decide +kernel
theorem dX7_readBlock_9 : decode cX7_readBlock 9 = .ok (.getfield 16, 3) := by decide +kernel
theorem dX7_readBlock_12 : decode cX7_readBlock 12 = .ok (.aload_n 0, 1) := by decide +kernel
theorem dX7_readBlock_13 : decode cX7_readBlock 13 = .ok (.getfield 68, 3) := by decide +kernel
theorem dX7_readBlock_16 : decode cX7_readBlock 16 = .ok (.iaload, 1) := by decide +kernel
theorem dX7_readBlock_17 : decode cX7_readBlock 17 = .ok (.goto 4, 3) := by decide +kernel
theorem dX7_readBlock_20 : decode cX7_readBlock 20 = .ok (.iconst 0, 1) := by decide +kernel
theorem dX7_readBlock_21 : decode cX7_readBlock 21 = .ok (.istore_n 2, 1) := by decide +kernel
theorem dX7_readBlock_22 : decode cX7_readBlock 22 = .ok (.iconst 3, 1) := by decide +kernel
theorem dX7_readBlock_23 : decode cX7_readBlock 23 = .ok (.aload_n 0, 1) := by decide +kernel
theorem dX7_readBlock_24 : decode cX7_readBlock 24 = .ok (.getfield 99, 3) := by decide +kernel
theorem dX7_readBlock_27 : decode cX7_readBlock 27 = .ok (.imul, 1) := by decide +kernel
theorem dX7_readBlock_28 : decode cX7_readBlock 28 = .ok (.istore_n 3, 1) := by decide +kernel
theorem dX7_readBlock_29 : decode cX7_readBlock 29 = .ok (.aload_n 0, 1) := by decide +kernel
theorem dX7_readBlock_30 : decode cX7_readBlock 30 = .ok (.getfield 31, 3) := by decide +kernel
theorem dX7_readBlock_33 : decode cX7_readBlock 33 = .ok (.iload_n 3, 1) := by decide +kernel
theorem dX7_readBlock_34 : decode cX7_readBlock 34 = .ok (.iload_n 2, 1) := by decide +kernel
theorem dX7_readBlock_35 : decode cX7_readBlock 35 = .ok (.bipush 98, 2) := by decide +kernel
theorem dX7_readBlock_37 : decode cX7_readBlock 37 = .ok (.if_icmp .ne 7, 3) := by decide +kernel
theorem dX7_readBlock_40 : decode cX7_readBlock 40 = .ok (.iconst 0, 1) := by decide +kernel
theorem dX7_readBlock_41 : decode cX7_readBlock 41 = .ok (.goto 25, 3) := by decide +kernel
theorem dX7_readBlock_44 : decode cX7_readBlock 44 = .ok (.iload_n 2, 1) := by decide +kernel
theorem dX7_readBlock_45 : decode cX7_readBlock 45 = .ok (.bipush 110, 2) := by decide +kernel
theorem dX7_readBlock_47 : decode cX7_readBlock 47 = .ok (.if_icmp .ne 7, 3) := by decide +kernel
theorem dX7_readBlock_50 : decode cX7_readBlock 50 = .ok (.iconst 1, 1) := by decide +kernel
theorem dX7_readBlock_51 : decode cX7_readBlock 51 = .ok (.goto 15, 3) := by decide +kernel
theorem dX7_readBlock_54 : decode cX7_readBlock 54 = .ok (.iload_n 2, 1) := by decide +kernel
theorem dX7_readBlock_55 : decode cX7_readBlock 55 = .ok (.bipush 104, 2) := by decide +kernel
theorem dX7_readBlock_57 : decode cX7_readBlock 57 = .ok (.if_icmp .ne 7, 3) := by decide +kernel
theorem dX7_readBlock_60 : decode cX7_readBlock 60 = .ok (.iconst 2, 1) := by decide +kernel
theorem dX7_readBlock_61 : decode cX7_readBlock 61 = .ok (.goto 5, 3) := by decide +kernel
theorem dX7_readBlock_64 : decode cX7_readBlock 64 = .ok (.bipush (-9), 2) := by decide +kernel
theorem dX7_readBlock_66 : decode cX7_readBlock 66 = .ok (.iastore, 1) := by decide +kernel
theorem dX7_readBlock_67 : decode cX7_readBlock 67 = .ok (.aload_n 0, 1) := by decide +kernel
theorem dX7_readBlock_68 : decode cX7_readBlock 68 = .ok (.getfield 31, 3) := by decide +kernel
theorem dX7_readBlock_71 : decode cX7_readBlock 71 = .ok (.iload_n 3, 1) := by decide +kernel
theorem dX7_readBlock_72 : decode cX7_readBlock 72 = .ok (.iaload, 1) := by decide +kernel
theorem dX7_readBlock_73 : decode cX7_readBlock 73 = .ok (.bipush (-9), 2) := by decide +kernel
theorem dX7_readBlock_75 : decode cX7_readBlock 75 = .ok (.if_icmp .ne 5, 3) := by decide +kernel
theorem dX7_readBlock_78 : decode cX7_readBlock 78 = .ok (.iconst 0, 1) := by decide +kernel
theorem dX7_readBlock_79 : decode cX7_readBlock 79 = .ok (.ireturn, 1) := by decide +kernel
theorem dX7_readBlock_80 : decode cX7_readBlock 80 = .ok (.aload_n 0, 1) := by decide +kernel
theorem dX7_readBlock_81 : decode cX7_readBlock 81 = .ok (.dup, 1) := by decide +kernel
theorem dX7_readBlock_82 : decode cX7_readBlock 82 = .ok (.getfield 68, 3) := by decide +kernel
theorem dX7_readBlock_85 : decode cX7_readBlock 85 = .ok (.iconst 1, 1) := by decide +kernel
theorem dX7_readBlock_86 : decode cX7_readBlock 86 = .ok (.iadd, 1) := by decide +kernel
theorem dX7_readBlock_87 : decode cX7_readBlock 87 = .ok (.putfield 68, 3) := by decide +kernel
theorem dX7_readBlock_90 : decode cX7_readBlock 90 = .ok (.aload_n 0, 1) := by decide +kernel
theorem dX7_readBlock_91 : decode cX7_readBlock 91 = .ok (.iload_n 1, 1) := by decide +kernel
theorem dX7_readBlock_92 : decode cX7_readBlock 92 = .ok (.iconst 0, 1) := by decide +kernel
theorem dX7_readBlock_93 : decode cX7_readBlock 93 = .ok (.bipush 7, 2) := by decide +kernel
theorem dX7_readBlock_95 : decode cX7_readBlock 95 = .ok (.invokevirtual 128, 3) := by decide +kernel
theorem dX7_readBlock_98 : decode cX7_readBlock 98 = .ok (.istore 4, 2) := by decide +kernel
theorem dX7_readBlock_100 : decode cX7_readBlock 100 = .ok (.iload 4, 2) := by decide +kernel
theorem dX7_readBlock_102 : decode cX7_readBlock 102 = .ok (.bipush (-9), 2) := by decide +kernel
theorem dX7_readBlock_104 : decode cX7_readBlock 104 = .ok (.if_icmp .ne 5, 3) := by decide +kernel
theorem dX7_readBlock_107 : decode cX7_readBlock 107 = .ok (.iconst 0, 1) := by decide +kernel
theorem dX7_readBlock_108 : decode cX7_readBlock 108 = .ok (.ireturn, 1) := by decide +kernel
theorem dX7_readBlock_109 : decode cX7_readBlock 109 = .ok (.aload_n 0, 1) := by decide +kernel
theorem dX7_readBlock_110 : decode cX7_readBlock 110 = .ok (.iload_n 1, 1) := by decide +kernel
theorem dX7_readBlock_111 : decode cX7_readBlock 111 = .ok (.iconst 0, 1) := by decide +kernel
theorem dX7_readBlock_112 : decode cX7_readBlock 112 = .ok (.bipush 7, 2) := by decide +kernel
theorem dX7_readBlock_114 : decode cX7_readBlock 114 = .ok (.invokevirtual 128, 3) := by decide +kernel
theorem dX7_readBlock_117 : decode cX7_readBlock 117 = .ok (.istore 5, 2) := by decide +kernel
theorem dX7_readBlock_119 : decode cX7_readBlock 119 = .ok (.iload 5, 2) := by decide +kernel
theorem dX7_readBlock_121 : decode cX7_readBlock 121 = .ok (.bipush (-9), 2) := by decide +kernel
theorem dX7_readBlock_123 : decode cX7_readBlock 123 = .ok (.if_icmp .ne 5, 3) := by decide +kernel
theorem dX7_readBlock_126 : decode cX7_readBlock 126 = .ok (.iconst 0, 1) := by decide +kernel
theorem dX7_readBlock_127 : decode cX7_readBlock 127 = .ok (.ireturn, 1) := by decide +kernel
theorem dX7_readBlock_128 : decode cX7_readBlock 128 = .ok (.aload_n 0, 1) := by decide +kernel
theorem dX7_readBlock_129 : decode cX7_readBlock 129 = .ok (.getfield 31, 3) := by decide +kernel
theorem dX7_readBlock_132 : decode cX7_readBlock 132 = .ok (.iload_n 3, 1) := by decide +kernel
theorem dX7_readBlock_133 : decode cX7_readBlock 133 = .ok (.iconst 1, 1) := by decide +kernel
theorem dX7_readBlock_134 : decode cX7_readBlock 134 = .ok (.iadd, 1) := by decide +kernel
theorem dX7_readBlock_135 : decode cX7_readBlock 135 = .ok (.bipush 8, 2) := by decide +kernel
theorem dX7_readBlock_137 : decode cX7_readBlock 137 = .ok (.iload 4, 2) := by decide +kernel
theorem dX7_readBlock_139 : decode cX7_readBlock 139 = .ok (.imul, 1) := by decide +kernel
theorem dX7_readBlock_140 : decode cX7_readBlock 140 = .ok (.iload 5, 2) := by decide +kernel
theorem dX7_readBlock_142 : decode cX7_readBlock 142 = .ok (.iadd, 1) := by decide +kernel
theorem dX7_readBlock_143 : decode cX7_readBlock 143 = .ok (.iastore, 1) := by decide +kernel
theorem dX7_readBlock_144 : decode cX7_readBlock 144 = .ok (.aload_n 0, 1) := by decide +kernel
theorem dX7_readBlock_145 : decode cX7_readBlock 145 = .ok (.getfield 31, 3) := by decide +kernel
theorem dX7_readBlock_148 : decode cX7_readBlock 148 = .ok (.iload_n 3, 1) := by decide +kernel
theorem dX7_readBlock_149 : decode cX7_readBlock 149 = .ok (.iconst 2, 1) := by decide +kernel
theorem dX7_readBlock_150 : decode cX7_readBlock 150 = .ok (.iadd, 1) := by decide +kernel
theorem dX7_readBlock_151 : decode cX7_readBlock 151 = .ok (.aload_n 0, 1) := by decide +kernel
theorem dX7_readBlock_152 : decode cX7_readBlock 152 = .ok (.iload_n 1, 1) := by decide +kernel
theorem dX7_readBlock_153 : decode cX7_readBlock 153 = .ok (.iconst 1, 1) := by decide +kernel
theorem dX7_readBlock_154 : decode cX7_readBlock 154 = .ok (.iconst 4, 1) := by decide +kernel
theorem dX7_readBlock_155 : decode cX7_readBlock 155 = .ok (.invokevirtual 128, 3) := by decide +kernel
theorem dX7_readBlock_158 : decode cX7_readBlock 158 = .ok (.iastore, 1) := by decide +kernel
theorem dX7_readBlock_159 : decode cX7_readBlock 159 = .ok (.aload_n 0, 1) := by decide +kernel
theorem dX7_readBlock_160 : decode cX7_readBlock 160 = .ok (.dup, 1) := by decide +kernel
theorem dX7_readBlock_161 : decode cX7_readBlock 161 = .ok (.getfield 99, 3) := by decide +kernel
theorem dX7_readBlock_164 : decode cX7_readBlock 164 = .ok (.iconst 1, 1) := by decide +kernel
theorem dX7_readBlock_165 : decode cX7_readBlock 165 = .ok (.iadd, 1) := by decide +kernel
theorem dX7_readBlock_166 : decode cX7_readBlock 166 = .ok (.putfield 99, 3) := by decide +kernel
theorem dX7_readBlock_169 : decode cX7_readBlock 169 = .ok (.aload_n 0, 1) := by decide +kernel
theorem dX7_readBlock_170 : decode cX7_readBlock 170 = .ok (.getfield 31, 3) := by decide +kernel
theorem dX7_readBlock_173 : decode cX7_readBlock 173 = .ok (.iload_n 3, 1) := by decide +kernel
theorem dX7_readBlock_174 : decode cX7_readBlock 174 = .ok (.iconst 2, 1) := by decide +kernel
theorem dX7_readBlock_175 : decode cX7_readBlock 175 = .ok (.iadd, 1) := by decide +kernel
theorem dX7_readBlock_176 : decode cX7_readBlock 176 = .ok (.iaload, 1) := by decide +kernel
theorem dX7_readBlock_177 : decode cX7_readBlock 177 = .ok (.bipush (-9), 2) := by decide +kernel
theorem dX7_readBlock_179 : decode cX7_readBlock 179 = .ok (.if_icmp .eq 7, 3) := by decide +kernel
theorem dX7_readBlock_182 : decode cX7_readBlock 182 = .ok (.iconst 1, 1) := by decide +kernel
theorem dX7_readBlock_183 : decode cX7_readBlock 183 = .ok (.goto 4, 3) := by decide +kernel
theorem dX7_readBlock_186 : decode cX7_readBlock 186 = .ok (.iconst 0, 1) := by decide +kernel
theorem dX7_readBlock_187 : decode cX7_readBlock 187 = .ok (.ireturn, 1) := by decide +kernel
theorem dX7_goesOf_0 : decode cX7_goesOf 0 = .ok (.aload_n 0, 1) := by decide +kernel
theorem dX7_goesOf_1 : decode cX7_goesOf 1 = .ok (.getfield 22, 3) := by decide +kernel
theorem dX7_goesOf_4 : decode cX7_goesOf 4 = .ok (.iload_n 1, 1) := by decide +kernel
theorem dX7_goesOf_5 : decode cX7_goesOf 5 = .ok (.iaload, 1) := by decide +kernel
theorem dX7_goesOf_6 : decode cX7_goesOf 6 = .ok (.ifCond .ne 12, 3) := by decide +kernel
theorem dX7_goesOf_9 : decode cX7_goesOf 9 = .ok (.aload_n 0, 1) := by decide +kernel
theorem dX7_goesOf_10 : decode cX7_goesOf 10 = .ok (.getfield 28, 3) := by decide +kernel
theorem dX7_goesOf_13 : decode cX7_goesOf 13 = .ok (.iload_n 1, 1) := by decide +kernel
theorem dX7_goesOf_14 : decode cX7_goesOf 14 = .ok (.iaload, 1) := by decide +kernel
theorem dX7_goesOf_15 : decode cX7_goesOf 15 = .ok (.goto 32, 3) := by decide +kernel
theorem dX7_goesOf_18 : decode cX7_goesOf 18 = .ok (.aload_n 0, 1) := by decide +kernel
theorem dX7_goesOf_19 : decode cX7_goesOf 19 = .ok (.getfield 22, 3) := by decide +kernel
theorem dX7_goesOf_22 : decode cX7_goesOf 22 = .ok (.iload_n 1, 1) := by decide +kernel
theorem dX7_goesOf_23 : decode cX7_goesOf 23 = .ok (.iaload, 1) := by decide +kernel
theorem dX7_goesOf_24 : decode cX7_goesOf 24 = .ok (.iconst 1, 1) := by decide +kernel
theorem dX7_goesOf_25 : decode cX7_goesOf 25 = .ok (.if_icmp .ne 14, 3) := by decide +kernel
theorem dX7_goesOf_28 : decode cX7_goesOf 28 = .ok (.aload_n 0, 1) := by decide +kernel
theorem dX7_goesOf_29 : decode cX7_goesOf 29 = .ok (.getfield 28, 3) := by decide +kernel
theorem dX7_goesOf_32 : decode cX7_goesOf 32 = .ok (.iload_n 1, 1) := by decide +kernel
theorem dX7_goesOf_33 : decode cX7_goesOf 33 = .ok (.iaload, 1) := by decide +kernel
theorem dX7_goesOf_34 : decode cX7_goesOf 34 = .ok (.iconst 1, 1) := by decide +kernel
theorem dX7_goesOf_35 : decode cX7_goesOf 35 = .ok (.iadd, 1) := by decide +kernel
theorem dX7_goesOf_36 : decode cX7_goesOf 36 = .ok (.goto 11, 3) := by decide +kernel
theorem dX7_goesOf_39 : decode cX7_goesOf 39 = .ok (.iconst 2, 1) := by decide +kernel
theorem dX7_goesOf_40 : decode cX7_goesOf 40 = .ok (.aload_n 0, 1) := by decide +kernel
theorem dX7_goesOf_41 : decode cX7_goesOf 41 = .ok (.getfield 28, 3) := by decide +kernel
theorem dX7_goesOf_44 : decode cX7_goesOf 44 = .ok (.iload_n 1, 1) := by decide +kernel
theorem dX7_goesOf_45 : decode cX7_goesOf 45 = .ok (.iaload, 1) := by decide +kernel
theorem dX7_goesOf_46 : decode cX7_goesOf 46 = .ok (.imul, 1) := by decide +kernel
theorem dX7_goesOf_47 : decode cX7_goesOf 47 = .ok (.ireturn, 1) := by decide +kernel
theorem dX7_stepsOn_0 : decode cX7_stepsOn 0 = .ok (.iload_n 1, 1) := by decide +kernel
theorem dX7_stepsOn_1 : decode cX7_stepsOn 1 = .ok (.istore_n 3, 1) := by decide +kernel
theorem dX7_stepsOn_2 : decode cX7_stepsOn 2 = .ok (.iconst 0, 1) := by decide +kernel
theorem dX7_stepsOn_3 : decode cX7_stepsOn 3 = .ok (.istore 4, 2) := by decide +kernel
theorem dX7_stepsOn_5 : decode cX7_stepsOn 5 = .ok (.iload 4, 2) := by decide +kernel
theorem dX7_stepsOn_7 : decode cX7_stepsOn 7 = .ok (.iload_n 2, 1) := by decide +kernel
theorem dX7_stepsOn_8 : decode cX7_stepsOn 8 = .ok (.if_icmp .ge 16, 3) := by decide +kernel
theorem dX7_stepsOn_11 : decode cX7_stepsOn 11 = .ok (.aload_n 0, 1) := by decide +kernel
theorem dX7_stepsOn_12 : decode cX7_stepsOn 12 = .ok (.getfield 19, 3) := by decide +kernel
theorem dX7_stepsOn_15 : decode cX7_stepsOn 15 = .ok (.iload_n 3, 1) := by decide +kernel
theorem dX7_stepsOn_16 : decode cX7_stepsOn 16 = .ok (.iaload, 1) := by decide +kernel
theorem dX7_stepsOn_17 : decode cX7_stepsOn 17 = .ok (.istore_n 3, 1) := by decide +kernel
theorem dX7_stepsOn_18 : decode cX7_stepsOn 18 = .ok (.iinc 4 1, 3) := by decide +kernel
theorem dX7_stepsOn_21 : decode cX7_stepsOn 21 = .ok (.goto (-16), 3) := by decide +kernel
theorem dX7_stepsOn_24 : decode cX7_stepsOn 24 = .ok (.iload_n 3, 1) := by decide +kernel
theorem dX7_stepsOn_25 : decode cX7_stepsOn 25 = .ok (.ireturn, 1) := by decide +kernel
theorem dX7_ofBlock_0 : decode cX7_ofBlock 0 = .ok (.aload_n 0, 1) := by decide +kernel
theorem dX7_ofBlock_1 : decode cX7_ofBlock 1 = .ok (.iload_n 1, 1) := by decide +kernel
