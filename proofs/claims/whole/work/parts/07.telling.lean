theorem dX9_init_0 : decode cX9_init 0 = .ok (.aload_n 0, 1) := by decide +kernel
theorem dX9_init_1 : decode cX9_init 1 = .ok (.invokespecial 3, 3) := by decide +kernel
theorem dX9_init_4 : decode cX9_init 4 = .ok (.aload_n 0, 1) := by decide +kernel
theorem dX9_init_5 : decode cX9_init 5 = .ok (.bipush 96, 2) := by decide +kernel
theorem dX9_init_7 : decode cX9_init 7 = .ok (.newarray .int, 2) := by decide +kernel
theorem dX9_init_9 : decode cX9_init 9 = .ok (.putfield 9, 3) := by decide +kernel
theorem dX9_init_12 : decode cX9_init 12 = .ok (.return_, 1) := by decide +kernel
theorem dX9_add_0 : decode cX9_add 0 = .ok (.aload_n 0, 1) := by decide +kernel
theorem dX9_add_1 : decode cX9_add 1 = .ok (.getfield 15, 3) := by decide +kernel
theorem dX9_add_4 : decode cX9_add 4 = .ok (.bipush 96, 2) := by decide +kernel
theorem dX9_add_6 : decode cX9_add 6 = .ok (.if_icmp .ge 23, 3) := by decide +kernel
theorem dX9_add_9 : decode cX9_add 9 = .ok (.aload_n 0, 1) := by decide +kernel
theorem dX9_add_10 : decode cX9_add 10 = .ok (.getfield 9, 3) := by decide +kernel
theorem dX9_add_13 : decode cX9_add 13 = .ok (.aload_n 0, 1) := by decide +kernel
theorem dX9_add_14 : decode cX9_add 14 = .ok (.getfield 15, 3) := by decide +kernel
theorem dX9_add_17 : decode cX9_add 17 = .ok (.iload_n 1, 1) := by decide +kernel
theorem dX9_add_18 : decode cX9_add 18 = .ok (.iastore, 1) := by decide +kernel
theorem dX9_add_19 : decode cX9_add 19 = .ok (.aload_n 0, 1) := by decide +kernel
theorem dX9_add_20 : decode cX9_add 20 = .ok (.dup, 1) := by decide +kernel
theorem dX9_add_21 : decode cX9_add 21 = .ok (.getfield 15, 3) := by decide +kernel
theorem dX9_add_24 : decode cX9_add 24 = .ok (.iconst 1, 1) := by decide +kernel
theorem dX9_add_25 : decode cX9_add 25 = .ok (.iadd, 1) := by decide +kernel
theorem dX9_add_26 : decode cX9_add 26 = .ok (.putfield 15, 3) := by decide +kernel
theorem dX9_add_29 : decode cX9_add 29 = .ok (.aload_n 0, 1) := by decide +kernel
theorem dX9_add_30 : decode cX9_add 30 = .ok (.getfield 15, 3) := by decide +kernel
theorem dX9_add_33 : decode cX9_add 33 = .ok (.ireturn, 1) := by decide +kernel
theorem dX9_formOf_0 : decode cX9_formOf 0 = .ok (.iload_n 0, 1) := by decide +kernel
theorem dX9_formOf_1 : decode cX9_formOf 1 = .ok (.lookupswitch 77 #[(98, 62), (99, 65), (100, 59), (104, 68), (111, 71), (120, 74)], 59) := by decide +kernel
theorem dX9_formOf_60 : decode cX9_formOf 60 = .ok (.ldc 19, 2) := by decide +kernel
theorem dX9_formOf_62 : decode cX9_formOf 62 = .ok (.areturn, 1) := by decide +kernel
theorem dX9_formOf_63 : decode cX9_formOf 63 = .ok (.ldc 21, 2) := by decide +kernel
theorem dX9_formOf_65 : decode cX9_formOf 65 = .ok (.areturn, 1) := by decide +kernel
theorem dX9_formOf_66 : decode cX9_formOf 66 = .ok (.ldc 23, 2) := by decide +kernel
theorem dX9_formOf_68 : decode cX9_formOf 68 = .ok (.areturn, 1) := by decide +kernel
theorem dX9_formOf_69 : decode cX9_formOf 69 = .ok (.ldc 25, 2) := by decide +kernel
theorem dX9_formOf_71 : decode cX9_formOf 71 = .ok (.areturn, 1) := by decide +kernel
theorem dX9_formOf_72 : decode cX9_formOf 72 = .ok (.ldc 23, 2) := by decide +kernel
theorem dX9_formOf_74 : decode cX9_formOf 74 = .ok (.areturn, 1) := by decide +kernel
theorem dX9_formOf_75 : decode cX9_formOf 75 = .ok (.ldc 27, 2) := by decide +kernel
theorem dX9_formOf_77 : decode cX9_formOf 77 = .ok (.areturn, 1) := by decide +kernel
theorem dX9_formOf_78 : decode cX9_formOf 78 = .ok (.ldc 29, 2) := by decide +kernel
theorem dX9_formOf_80 : decode cX9_formOf 80 = .ok (.areturn, 1) := by decide +kernel
theorem dX9_suits_0 : decode cX9_suits 0 = .ok (.iload_n 1, 1) := by decide +kernel
theorem dX9_suits_1 : decode cX9_suits 1 = .ok (.bipush 107, 2) := by decide +kernel
theorem dX9_suits_3 : decode cX9_suits 3 = .ok (.if_icmp .ne 19, 3) := by decide +kernel
theorem dX9_suits_6 : decode cX9_suits 6 = .ok (.ldc 31, 2) := by decide +kernel
theorem dX9_suits_8 : decode cX9_suits 8 = .ok (.iload_n 0, 1) := by decide +kernel
theorem dX9_suits_9 : decode cX9_suits 9 = .ok (.i2c, 1) := by decide +kernel
theorem dX9_suits_10 : decode cX9_suits 10 = .ok (.invokevirtual 33, 3) := by decide +kernel
theorem dX9_suits_13 : decode cX9_suits 13 = .ok (.ifCond .lt 7, 3) := by decide +kernel
theorem dX9_suits_16 : decode cX9_suits 16 = .ok (.iconst 1, 1) := by decide +kernel
theorem dX9_suits_17 : decode cX9_suits 17 = .ok (.goto 4, 3) := by decide +kernel
theorem dX9_suits_20 : decode cX9_suits 20 = .ok (.iconst 0, 1) := by decide +kernel
theorem dX9_suits_21 : decode cX9_suits 21 = .ok (.ireturn, 1) := by decide +kernel
theorem dX9_suits_22 : decode cX9_suits 22 = .ok (.iload_n 1, 1) := by decide +kernel
theorem dX9_suits_23 : decode cX9_suits 23 = .ok (.bipush 48, 2) := by decide +kernel
theorem dX9_suits_25 : decode cX9_suits 25 = .ok (.if_icmp .ne 21, 3) := by decide +kernel
theorem dX9_suits_28 : decode cX9_suits 28 = .ok (.iload_n 0, 1) := by decide +kernel
theorem dX9_suits_29 : decode cX9_suits 29 = .ok (.bipush 48, 2) := by decide +kernel
theorem dX9_suits_31 : decode cX9_suits 31 = .ok (.if_icmp .lt 13, 3) := by decide +kernel
theorem dX9_suits_34 : decode cX9_suits 34 = .ok (.iload_n 0, 1) := by decide +kernel
theorem dX9_suits_35 : decode cX9_suits 35 = .ok (.bipush 57, 2) := by decide +kernel
theorem dX9_suits_37 : decode cX9_suits 37 = .ok (.if_icmp .gt 7, 3) := by decide +kernel
theorem dX9_suits_40 : decode cX9_suits 40 = .ok (.iconst 1, 1) := by decide +kernel
theorem dX9_suits_41 : decode cX9_suits 41 = .ok (.goto 4, 3) := by decide +kernel
theorem dX9_suits_44 : decode cX9_suits 44 = .ok (.iconst 0, 1) := by decide +kernel
theorem dX9_suits_45 : decode cX9_suits 45 = .ok (.ireturn, 1) := by decide +kernel
theorem dX9_suits_46 : decode cX9_suits 46 = .ok (.iload_n 0, 1) := by decide +kernel
theorem dX9_suits_47 : decode cX9_suits 47 = .ok (.iload_n 1, 1) := by decide +kernel
theorem dX9_suits_48 : decode cX9_suits 48 = .ok (.if_icmp .ne 7, 3) := by decide +kernel
theorem dX9_suits_51 : decode cX9_suits 51 = .ok (.iconst 1, 1) := by decide +kernel
theorem dX9_suits_52 : decode cX9_suits 52 = .ok (.goto 4, 3) := by decide +kernel
theorem dX9_suits_55 : decode cX9_suits 55 = .ok (.iconst 0, 1) := by decide +kernel
theorem dX9_suits_56 : decode cX9_suits 56 = .ok (.ireturn, 1) := by decide +kernel
theorem dX9_firstMisplaced_0 : decode cX9_firstMisplaced 0 = .ok (.ldc 29, 2) := by decide +kernel
theorem dX9_firstMisplaced_2 : decode cX9_firstMisplaced 2 = .ok (.astore_n 1, 1) := by decide +kernel
theorem dX9_firstMisplaced_3 : decode cX9_firstMisplaced 3 = .ok (.iconst 0, 1) := by decide +kernel
theorem dX9_firstMisplaced_4 : decode cX9_firstMisplaced 4 = .ok (.istore_n 2, 1) := by decide +kernel
theorem dX9_firstMisplaced_5 : decode cX9_firstMisplaced 5 = .ok (.iconst 0, 1) := by decide +kernel
theorem dX9_firstMisplaced_6 : decode cX9_firstMisplaced 6 = .ok (.istore_n 3, 1) := by decide +kernel
theorem dX9_firstMisplaced_7 : decode cX9_firstMisplaced 7 = .ok (.iload_n 3, 1) := by decide +kernel
theorem dX9_firstMisplaced_8 : decode cX9_firstMisplaced 8 = .ok (.aload_n 0, 1) := by decide +kernel
theorem dX9_firstMisplaced_9 : decode cX9_firstMisplaced 9 = .ok (.getfield 15, 3) := by decide +kernel
theorem dX9_firstMisplaced_12 : decode cX9_firstMisplaced 12 = .ok (.if_icmp .ge 60, 3) := by decide +kernel
theorem dX9_firstMisplaced_15 : decode cX9_firstMisplaced 15 = .ok (.iload_n 2, 1) := by decide +kernel
theorem dX9_firstMisplaced_16 : decode cX9_firstMisplaced 16 = .ok (.aload_n 1, 1) := by decide +kernel
theorem dX9_firstMisplaced_17 : decode cX9_firstMisplaced 17 = .ok (.invokevirtual 39, 3) := by decide +kernel
theorem dX9_firstMisplaced_20 : decode cX9_firstMisplaced 20 = .ok (.if_icmp .lt 24, 3) := by decide +kernel
theorem dX9_firstMisplaced_23 : decode cX9_firstMisplaced 23 = .ok (.aload_n 0, 1) := by decide +kernel
theorem dX9_firstMisplaced_24 : decode cX9_firstMisplaced 24 = .ok (.getfield 9, 3) := by decide +kernel
theorem dX9_firstMisplaced_27 : decode cX9_firstMisplaced 27 = .ok (.iload_n 3, 1) := by decide +kernel
theorem dX9_firstMisplaced_28 : decode cX9_firstMisplaced 28 = .ok (.iaload, 1) := by decide +kernel
theorem dX9_firstMisplaced_29 : decode cX9_firstMisplaced 29 = .ok (.invokestatic 42, 3) := by decide +kernel
theorem dX9_firstMisplaced_32 : decode cX9_firstMisplaced 32 = .ok (.astore_n 1, 1) := by decide +kernel
theorem dX9_firstMisplaced_33 : decode cX9_firstMisplaced 33 = .ok (.iconst 0, 1) := by decide +kernel
theorem dX9_firstMisplaced_34 : decode cX9_firstMisplaced 34 = .ok (.istore_n 2, 1) := by decide +kernel
theorem dX9_firstMisplaced_35 : decode cX9_firstMisplaced 35 = .ok (.aload_n 1, 1) := by decide +kernel
theorem dX9_firstMisplaced_36 : decode cX9_firstMisplaced 36 = .ok (.invokevirtual 46, 3) := by decide +kernel
theorem dX9_firstMisplaced_39 : decode cX9_firstMisplaced 39 = .ok (.ifCond .eq 27, 3) := by decide +kernel
theorem dX9_firstMisplaced_42 : decode cX9_firstMisplaced 42 = .ok (.iload_n 3, 1) := by decide +kernel
theorem dX9_firstMisplaced_43 : decode cX9_firstMisplaced 43 = .ok (.ireturn, 1) := by decide +kernel
theorem dX9_firstMisplaced_44 : decode cX9_firstMisplaced 44 = .ok (.aload_n 0, 1) := by decide +kernel
theorem dX9_firstMisplaced_45 : decode cX9_firstMisplaced 45 = .ok (.getfield 9, 3) := by decide +kernel
theorem dX9_firstMisplaced_48 : decode cX9_firstMisplaced 48 = .ok (.iload_n 3, 1) := by decide +kernel
theorem dX9_firstMisplaced_49 : decode cX9_firstMisplaced 49 = .ok (.iaload, 1) := by decide +kernel
theorem dX9_firstMisplaced_50 : decode cX9_firstMisplaced 50 = .ok (.aload_n 1, 1) := by decide +kernel
theorem dX9_firstMisplaced_51 : decode cX9_firstMisplaced 51 = .ok (.iload_n 2, 1) := by decide +kernel
theorem dX9_firstMisplaced_52 : decode cX9_firstMisplaced 52 = .ok (.invokevirtual 50, 3) := by decide +kernel
theorem dX9_firstMisplaced_55 : decode cX9_firstMisplaced 55 = .ok (.invokestatic 54, 3) := by decide +kernel
theorem dX9_firstMisplaced_58 : decode cX9_firstMisplaced 58 = .ok (.ifCond .ne 5, 3) := by decide +kernel
theorem dX9_firstMisplaced_61 : decode cX9_firstMisplaced 61 = .ok (.iload_n 3, 1) := by decide +kernel
theorem dX9_firstMisplaced_62 : decode cX9_firstMisplaced 62 = .ok (.ireturn, 1) := by decide +kernel
theorem dX9_firstMisplaced_63 : decode cX9_firstMisplaced 63 = .ok (.iinc 2 1, 3) := by decide +kernel
theorem dX9_firstMisplaced_66 : decode cX9_firstMisplaced 66 = .ok (.iinc 3 1, 3) := by decide +kernel
theorem dX9_firstMisplaced_69 : decode cX9_firstMisplaced 69 = .ok (.goto (-62), 3) := by decide +kernel
theorem dX9_firstMisplaced_72 : decode cX9_firstMisplaced 72 = .ok (.aload_n 0, 1) := by decide +kernel
theorem dX9_firstMisplaced_73 : decode cX9_firstMisplaced 73 = .ok (.getfield 15, 3) := by decide +kernel
theorem dX9_firstMisplaced_76 : decode cX9_firstMisplaced 76 = .ok (.ifCond .eq 11, 3) := by decide +kernel
theorem dX9_firstMisplaced_79 : decode cX9_firstMisplaced 79 = .ok (.iload_n 2, 1) := by decide +kernel
theorem dX9_firstMisplaced_80 : decode cX9_firstMisplaced 80 = .ok (.aload_n 1, 1) := by decide +kernel
theorem dX9_firstMisplaced_81 : decode cX9_firstMisplaced 81 = .ok (.invokevirtual 39, 3) := by decide +kernel
theorem dX9_firstMisplaced_84 : decode cX9_firstMisplaced 84 = .ok (.if_icmp .ge 10, 3) := by decide +kernel
theorem dX9_firstMisplaced_87 : decode cX9_firstMisplaced 87 = .ok (.aload_n 0, 1) := by decide +kernel
theorem dX9_firstMisplaced_88 : decode cX9_firstMisplaced 88 = .ok (.getfield 15, 3) := by decide +kernel
theorem dX9_firstMisplaced_91 : decode cX9_firstMisplaced 91 = .ok (.goto 4, 3) := by decide +kernel
theorem dX9_firstMisplaced_94 : decode cX9_firstMisplaced 94 = .ok (.iconst (-1), 1) := by decide +kernel
theorem dX9_firstMisplaced_95 : decode cX9_firstMisplaced 95 = .ok (.ireturn, 1) := by decide +kernel
theorem dX9_lengthFrom_0 : decode cX9_lengthFrom 0 = .ok (.iconst 1, 1) := by decide +kernel
theorem dX9_lengthFrom_1 : decode cX9_lengthFrom 1 = .ok (.aload_n 0, 1) := by decide +kernel
theorem dX9_lengthFrom_2 : decode cX9_lengthFrom 2 = .ok (.iload_n 1, 1) := by decide +kernel
theorem dX9_lengthFrom_3 : decode cX9_lengthFrom 3 = .ok (.invokevirtual 58, 3) := by decide +kernel
theorem dX9_lengthFrom_6 : decode cX9_lengthFrom 6 = .ok (.invokestatic 42, 3) := by decide +kernel
theorem dX9_lengthFrom_9 : decode cX9_lengthFrom 9 = .ok (.invokevirtual 39, 3) := by decide +kernel
theorem dX9_lengthFrom_12 : decode cX9_lengthFrom 12 = .ok (.iadd, 1) := by decide +kernel
theorem dX9_lengthFrom_13 : decode cX9_lengthFrom 13 = .ok (.ireturn, 1) := by decide +kernel
theorem dX9_letterAt_0 : decode cX9_letterAt 0 = .ok (.iload_n 1, 1) := by decide +kernel
theorem dX9_letterAt_1 : decode cX9_letterAt 1 = .ok (.ifCond .lt 20, 3) := by decide +kernel
theorem dX9_letterAt_4 : decode cX9_letterAt 4 = .ok (.iload_n 1, 1) := by decide +kernel
theorem dX9_letterAt_5 : decode cX9_letterAt 5 = .ok (.aload_n 0, 1) := by decide +kernel
theorem dX9_letterAt_6 : decode cX9_letterAt 6 = .ok (.getfield 15, 3) := by decide +kernel
theorem dX9_letterAt_9 : decode cX9_letterAt 9 = .ok (.if_icmp .ge 12, 3) := by decide +kernel
theorem dX9_letterAt_12 : decode cX9_letterAt 12 = .ok (.aload_n 0, 1) := by decide +kernel
theorem dX9_letterAt_13 : decode cX9_letterAt 13 = .ok (.getfield 9, 3) := by decide +kernel
theorem dX9_letterAt_16 : decode cX9_letterAt 16 = .ok (.iload_n 1, 1) := by decide +kernel
theorem dX9_letterAt_17 : decode cX9_letterAt 17 = .ok (.iaload, 1) := by decide +kernel
theorem dX9_letterAt_18 : decode cX9_letterAt 18 = .ok (.goto 4, 3) := by decide +kernel
theorem dX9_letterAt_21 : decode cX9_letterAt 21 = .ok (.iconst (-1), 1) := by decide +kernel
theorem dX9_letterAt_22 : decode cX9_letterAt 22 = .ok (.ireturn, 1) := by decide +kernel
theorem dX9_number_0 : decode cX9_number 0 = .ok (.iconst 0, 1) := by decide +kernel
theorem dX9_number_1 : decode cX9_number 1 = .ok (.istore_n 3, 1) := by decide +kernel
theorem dX9_number_2 : decode cX9_number 2 = .ok (.iconst 0, 1) := by decide +kernel
theorem dX9_number_3 : decode cX9_number 3 = .ok (.istore 4, 2) := by decide +kernel
theorem dX9_number_5 : decode cX9_number 5 = .ok (.iload 4, 2) := by decide +kernel
theorem dX9_number_7 : decode cX9_number 7 = .ok (.iload_n 2, 1) := by decide +kernel
theorem dX9_number_8 : decode cX9_number 8 = .ok (.if_icmp .ge 26, 3) := by decide +kernel
theorem dX9_number_11 : decode cX9_number 11 = .ok (.bipush 10, 2) := by decide +kernel
theorem dX9_number_13 : decode cX9_number 13 = .ok (.iload_n 3, 1) := by decide +kernel
theorem dX9_number_14 : decode cX9_number 14 = .ok (.imul, 1) := by decide +kernel
theorem dX9_number_15 : decode cX9_number 15 = .ok (.aload_n 0, 1) := by decide +kernel
theorem dX9_number_16 : decode cX9_number 16 = .ok (.iload_n 1, 1) := by decide +kernel
theorem dX9_number_17 : decode cX9_number 17 = .ok (.iload 4, 2) := by decide +kernel
theorem dX9_number_19 : decode cX9_number 19 = .ok (.iadd, 1) := by decide +kernel
theorem dX9_number_20 : decode cX9_number 20 = .ok (.invokevirtual 58, 3) := by decide +kernel
theorem dX9_number_23 : decode cX9_number 23 = .ok (.iadd, 1) := by decide +kernel
theorem dX9_number_24 : decode cX9_number 24 = .ok (.bipush 48, 2) := by decide +kernel
theorem dX9_number_26 : decode cX9_number 26 = .ok (.isub, 1) := by decide +kernel
theorem dX9_number_27 : decode cX9_number 27 = .ok (.istore_n 3, 1) := by decide +kernel
theorem dX9_number_28 : decode cX9_number 28 = .ok (.iinc 4 1, 3) := by decide +kernel
theorem dX9_number_31 : decode cX9_number 31 = .ok (.goto (-26), 3) := by decide +kernel
theorem dX9_number_34 : decode cX9_number 34 = .ok (.iload_n 3, 1) := by decide +kernel
theorem dX9_number_35 : decode cX9_number 35 = .ok (.ireturn, 1) := by decide +kernel
theorem dX9_tellTo_0 : decode cX9_tellTo 0 = .ok (.aload_n 0, 1) := by decide +kernel
theorem dX9_tellTo_1 : decode cX9_tellTo 1 = .ok (.iload_n 2, 1) := by decide +kernel
theorem dX9_tellTo_2 : decode cX9_tellTo 2 = .ok (.invokevirtual 58, 3) := by decide +kernel
theorem dX9_tellTo_5 : decode cX9_tellTo 5 = .ok (.lookupswitch 251 #[(98, 110), (99, 181), (100, 59), (104, 202), (111, 216), (120, 230)], 59) := by decide +kernel
theorem dX9_tellTo_64 : decode cX9_tellTo 64 = .ok (.aload_n 1, 1) := by decide +kernel
theorem dX9_tellTo_65 : decode cX9_tellTo 65 = .ok (.ldc 31, 2) := by decide +kernel
theorem dX9_tellTo_67 : decode cX9_tellTo 67 = .ok (.aload_n 0, 1) := by decide +kernel
theorem dX9_tellTo_68 : decode cX9_tellTo 68 = .ok (.iload_n 2, 1) := by decide +kernel
theorem dX9_tellTo_69 : decode cX9_tellTo 69 = .ok (.iconst 1, 1) := by decide +kernel
theorem dX9_tellTo_70 : decode cX9_tellTo 70 = .ok (.iadd, 1) := by decide +kernel
theorem dX9_tellTo_71 : decode cX9_tellTo 71 = .ok (.invokevirtual 58, 3) := by decide +kernel
theorem dX9_tellTo_74 : decode cX9_tellTo 74 = .ok (.i2c, 1) := by decide +kernel
theorem dX9_tellTo_75 : decode cX9_tellTo 75 = .ok (.invokevirtual 33, 3) := by decide +kernel
theorem dX9_tellTo_78 : decode cX9_tellTo 78 = .ok (.aload_n 0, 1) := by decide +kernel
theorem dX9_tellTo_79 : decode cX9_tellTo 79 = .ok (.iload_n 2, 1) := by decide +kernel
theorem dX9_tellTo_80 : decode cX9_tellTo 80 = .ok (.iconst 2, 1) := by decide +kernel
theorem dX9_tellTo_81 : decode cX9_tellTo 81 = .ok (.iadd, 1) := by decide +kernel
theorem dX9_tellTo_82 : decode cX9_tellTo 82 = .ok (.iconst 1, 1) := by decide +kernel
theorem dX9_tellTo_83 : decode cX9_tellTo 83 = .ok (.invokevirtual 61, 3) := by decide +kernel
theorem dX9_tellTo_86 : decode cX9_tellTo 86 = .ok (.aload_n 0, 1) := by decide +kernel
theorem dX9_tellTo_87 : decode cX9_tellTo 87 = .ok (.iload_n 2, 1) := by decide +kernel
theorem dX9_tellTo_88 : decode cX9_tellTo 88 = .ok (.iconst 3, 1) := by decide +kernel
theorem dX9_tellTo_89 : decode cX9_tellTo 89 = .ok (.iadd, 1) := by decide +kernel
theorem dX9_tellTo_90 : decode cX9_tellTo 90 = .ok (.iconst 2, 1) := by decide +kernel
theorem dX9_tellTo_91 : decode cX9_tellTo 91 = .ok (.invokevirtual 61, 3) := by decide +kernel
theorem dX9_tellTo_94 : decode cX9_tellTo 94 = .ok (.aload_n 0, 1) := by decide +kernel
theorem dX9_tellTo_95 : decode cX9_tellTo 95 = .ok (.iload_n 2, 1) := by decide +kernel
theorem dX9_tellTo_96 : decode cX9_tellTo 96 = .ok (.iconst 5, 1) := by decide +kernel
theorem dX9_tellTo_97 : decode cX9_tellTo 97 = .ok (.iadd, 1) := by decide +kernel
theorem dX9_tellTo_98 : decode cX9_tellTo 98 = .ok (.iconst 1, 1) := by decide +kernel
theorem dX9_tellTo_99 : decode cX9_tellTo 99 = .ok (.invokevirtual 61, 3) := by decide +kernel
theorem dX9_tellTo_102 : decode cX9_tellTo 102 = .ok (.aload_n 0, 1) := by decide +kernel
theorem dX9_tellTo_103 : decode cX9_tellTo 103 = .ok (.iload_n 2, 1) := by decide +kernel
theorem dX9_tellTo_104 : decode cX9_tellTo 104 = .ok (.bipush 6, 2) := by decide +kernel
theorem dX9_tellTo_106 : decode cX9_tellTo 106 = .ok (.iadd, 1) := by decide +kernel
theorem dX9_tellTo_107 : decode cX9_tellTo 107 = .ok (.iconst 1, 1) := by decide +kernel
theorem dX9_tellTo_108 : decode cX9_tellTo 108 = .ok (.invokevirtual 61, 3) := by decide +kernel
theorem dX9_tellTo_111 : decode cX9_tellTo 111 = .ok (.invokevirtual 65, 3) := by decide +kernel
theorem dX9_tellTo_114 : decode cX9_tellTo 114 = .ok (.ireturn, 1) := by decide +kernel
theorem dX9_tellTo_115 : decode cX9_tellTo 115 = .ok (.aload_n 1, 1) := by decide +kernel
theorem dX9_tellTo_116 : decode cX9_tellTo 116 = .ok (.iconst 0, 1) := by decide +kernel
theorem dX9_tellTo_117 : decode cX9_tellTo 117 = .ok (.aload_n 0, 1) := by decide +kernel
theorem dX9_tellTo_118 : decode cX9_tellTo 118 = .ok (.iload_n 2, 1) := by decide +kernel
theorem dX9_tellTo_119 : decode cX9_tellTo 119 = .ok (.iconst 1, 1) := by decide +kernel
theorem dX9_tellTo_120 : decode cX9_tellTo 120 = .ok (.iadd, 1) := by decide +kernel
theorem dX9_tellTo_121 : decode cX9_tellTo 121 = .ok (.iconst 2, 1) := by decide +kernel
theorem dX9_tellTo_122 : decode cX9_tellTo 122 = .ok (.invokevirtual 61, 3) := by decide +kernel
theorem dX9_tellTo_125 : decode cX9_tellTo 125 = .ok (.invokevirtual 71, 3) := by decide +kernel
theorem dX9_tellTo_128 : decode cX9_tellTo 128 = .ok (.ifCond .eq 56, 3) := by decide +kernel
theorem dX9_tellTo_131 : decode cX9_tellTo 131 = .ok (.aload_n 1, 1) := by decide +kernel
theorem dX9_tellTo_132 : decode cX9_tellTo 132 = .ok (.iconst 1, 1) := by decide +kernel
theorem dX9_tellTo_133 : decode cX9_tellTo 133 = .ok (.aload_n 0, 1) := by decide +kernel
theorem dX9_tellTo_134 : decode cX9_tellTo 134 = .ok (.iload_n 2, 1) := by decide +kernel
theorem dX9_tellTo_135 : decode cX9_tellTo 135 = .ok (.iconst 3, 1) := by decide +kernel
theorem dX9_tellTo_136 : decode cX9_tellTo 136 = .ok (.iadd, 1) := by decide +kernel
theorem dX9_tellTo_137 : decode cX9_tellTo 137 = .ok (.iconst 1, 1) := by decide +kernel
theorem dX9_tellTo_138 : decode cX9_tellTo 138 = .ok (.invokevirtual 61, 3) := by decide +kernel
theorem dX9_tellTo_141 : decode cX9_tellTo 141 = .ok (.invokevirtual 71, 3) := by decide +kernel
theorem dX9_tellTo_144 : decode cX9_tellTo 144 = .ok (.ifCond .eq 40, 3) := by decide +kernel
theorem dX9_tellTo_147 : decode cX9_tellTo 147 = .ok (.aload_n 1, 1) := by decide +kernel
theorem dX9_tellTo_148 : decode cX9_tellTo 148 = .ok (.iconst 2, 1) := by decide +kernel
theorem dX9_tellTo_149 : decode cX9_tellTo 149 = .ok (.aload_n 0, 1) := by decide +kernel
theorem dX9_tellTo_150 : decode cX9_tellTo 150 = .ok (.iload_n 2, 1) := by decide +kernel
theorem dX9_tellTo_151 : decode cX9_tellTo 151 = .ok (.iconst 4, 1) := by decide +kernel
theorem dX9_tellTo_152 : decode cX9_tellTo 152 = .ok (.iadd, 1) := by decide +kernel
theorem dX9_tellTo_153 : decode cX9_tellTo 153 = .ok (.iconst 2, 1) := by decide +kernel
theorem dX9_tellTo_154 : decode cX9_tellTo 154 = .ok (.invokevirtual 61, 3) := by decide +kernel
theorem dX9_tellTo_157 : decode cX9_tellTo 157 = .ok (.invokevirtual 71, 3) := by decide +kernel
theorem dX9_tellTo_160 : decode cX9_tellTo 160 = .ok (.ifCond .eq 24, 3) := by decide +kernel
theorem dX9_tellTo_163 : decode cX9_tellTo 163 = .ok (.aload_n 1, 1) := by decide +kernel
theorem dX9_tellTo_164 : decode cX9_tellTo 164 = .ok (.iconst 3, 1) := by decide +kernel
theorem dX9_tellTo_165 : decode cX9_tellTo 165 = .ok (.aload_n 0, 1) := by decide +kernel
theorem dX9_tellTo_166 : decode cX9_tellTo 166 = .ok (.iload_n 2, 1) := by decide +kernel
theorem dX9_tellTo_167 : decode cX9_tellTo 167 = .ok (.bipush 6, 2) := by decide +kernel
theorem dX9_tellTo_169 : decode cX9_tellTo 169 = .ok (.iadd, 1) := by decide +kernel
theorem dX9_tellTo_170 : decode cX9_tellTo 170 = .ok (.iconst 2, 1) := by decide +kernel
theorem dX9_tellTo_171 : decode cX9_tellTo 171 = .ok (.invokevirtual 61, 3) := by decide +kernel
theorem dX9_tellTo_174 : decode cX9_tellTo 174 = .ok (.invokevirtual 71, 3) := by decide +kernel
theorem dX9_tellTo_177 : decode cX9_tellTo 177 = .ok (.ifCond .eq 7, 3) := by decide +kernel
theorem dX9_tellTo_180 : decode cX9_tellTo 180 = .ok (.iconst 1, 1) := by decide +kernel
theorem dX9_tellTo_181 : decode cX9_tellTo 181 = .ok (.goto 4, 3) := by decide +kernel
theorem dX9_tellTo_184 : decode cX9_tellTo 184 = .ok (.iconst 0, 1) := by decide +kernel
theorem dX9_tellTo_185 : decode cX9_tellTo 185 = .ok (.ireturn, 1) := by decide +kernel
theorem dX9_tellTo_186 : decode cX9_tellTo 186 = .ok (.aload_n 1, 1) := by decide +kernel
theorem dX9_tellTo_187 : decode cX9_tellTo 187 = .ok (.aload_n 0, 1) := by decide +kernel
theorem dX9_tellTo_188 : decode cX9_tellTo 188 = .ok (.iload_n 2, 1) := by decide +kernel
theorem dX9_tellTo_189 : decode cX9_tellTo 189 = .ok (.iconst 1, 1) := by decide +kernel
theorem dX9_tellTo_190 : decode cX9_tellTo 190 = .ok (.iadd, 1) := by decide +kernel
theorem dX9_tellTo_191 : decode cX9_tellTo 191 = .ok (.iconst 1, 1) := by decide +kernel
theorem dX9_tellTo_192 : decode cX9_tellTo 192 = .ok (.invokevirtual 61, 3) := by decide +kernel
theorem dX9_tellTo_195 : decode cX9_tellTo 195 = .ok (.aload_n 0, 1) := by decide +kernel
theorem dX9_tellTo_196 : decode cX9_tellTo 196 = .ok (.iload_n 2, 1) := by decide +kernel
theorem dX9_tellTo_197 : decode cX9_tellTo 197 = .ok (.iconst 2, 1) := by decide +kernel
theorem dX9_tellTo_198 : decode cX9_tellTo 198 = .ok (.iadd, 1) := by decide +kernel
theorem dX9_tellTo_199 : decode cX9_tellTo 199 = .ok (.iconst 2, 1) := by decide +kernel
theorem dX9_tellTo_200 : decode cX9_tellTo 200 = .ok (.invokevirtual 61, 3) := by decide +kernel
theorem dX9_tellTo_203 : decode cX9_tellTo 203 = .ok (.invokevirtual 75, 3) := by decide +kernel
theorem dX9_tellTo_206 : decode cX9_tellTo 206 = .ok (.ireturn, 1) := by decide +kernel
theorem dX9_tellTo_207 : decode cX9_tellTo 207 = .ok (.aload_n 1, 1) := by decide +kernel
theorem dX9_tellTo_208 : decode cX9_tellTo 208 = .ok (.iconst 4, 1) := by decide +kernel
theorem dX9_tellTo_209 : decode cX9_tellTo 209 = .ok (.aload_n 0, 1) := by decide +kernel
theorem dX9_tellTo_210 : decode cX9_tellTo 210 = .ok (.iload_n 2, 1) := by decide +kernel
theorem dX9_tellTo_211 : decode cX9_tellTo 211 = .ok (.iconst 1, 1) := by decide +kernel
theorem dX9_tellTo_212 : decode cX9_tellTo 212 = .ok (.iadd, 1) := by decide +kernel
theorem dX9_tellTo_213 : decode cX9_tellTo 213 = .ok (.iconst 1, 1) := by decide +kernel
theorem dX9_tellTo_214 : decode cX9_tellTo 214 = .ok (.invokevirtual 61, 3) := by decide +kernel
theorem dX9_tellTo_217 : decode cX9_tellTo 217 = .ok (.invokevirtual 71, 3) := by decide +kernel
theorem dX9_tellTo_220 : decode cX9_tellTo 220 = .ok (.ireturn, 1) := by decide +kernel
theorem dX9_tellTo_221 : decode cX9_tellTo 221 = .ok (.aload_n 1, 1) := by decide +kernel
theorem dX9_tellTo_222 : decode cX9_tellTo 222 = .ok (.iconst 5, 1) := by decide +kernel
theorem dX9_tellTo_223 : decode cX9_tellTo 223 = .ok (.aload_n 0, 1) := by decide +kernel
theorem dX9_tellTo_224 : decode cX9_tellTo 224 = .ok (.iload_n 2, 1) := by decide +kernel
theorem dX9_tellTo_225 : decode cX9_tellTo 225 = .ok (.iconst 1, 1) := by decide +kernel
theorem dX9_tellTo_226 : decode cX9_tellTo 226 = .ok (.iadd, 1) := by decide +kernel
theorem dX9_tellTo_227 : decode cX9_tellTo 227 = .ok (.iconst 3, 1) := by decide +kernel
theorem dX9_tellTo_228 : decode cX9_tellTo 228 = .ok (.invokevirtual 61, 3) := by decide +kernel
theorem dX9_tellTo_231 : decode cX9_tellTo 231 = .ok (.invokevirtual 71, 3) := by decide +kernel
theorem dX9_tellTo_234 : decode cX9_tellTo 234 = .ok (.ireturn, 1) := by decide +kernel
theorem dX9_tellTo_235 : decode cX9_tellTo 235 = .ok (.aload_n 1, 1) := by decide +kernel
theorem dX9_tellTo_236 : decode cX9_tellTo 236 = .ok (.aload_n 0, 1) := by decide +kernel
theorem dX9_tellTo_237 : decode cX9_tellTo 237 = .ok (.iload_n 2, 1) := by decide +kernel
theorem dX9_tellTo_238 : decode cX9_tellTo 238 = .ok (.iconst 1, 1) := by decide +kernel
theorem dX9_tellTo_239 : decode cX9_tellTo 239 = .ok (.iadd, 1) := by decide +kernel
theorem dX9_tellTo_240 : decode cX9_tellTo 240 = .ok (.iconst 1, 1) := by decide +kernel
theorem dX9_tellTo_241 : decode cX9_tellTo 241 = .ok (.invokevirtual 61, 3) := by decide +kernel
theorem dX9_tellTo_244 : decode cX9_tellTo 244 = .ok (.aload_n 0, 1) := by decide +kernel
theorem dX9_tellTo_245 : decode cX9_tellTo 245 = .ok (.iload_n 2, 1) := by decide +kernel
theorem dX9_tellTo_246 : decode cX9_tellTo 246 = .ok (.iconst 2, 1) := by decide +kernel
theorem dX9_tellTo_247 : decode cX9_tellTo 247 = .ok (.iadd, 1) := by decide +kernel
theorem dX9_tellTo_248 : decode cX9_tellTo 248 = .ok (.iconst 1, 1) := by decide +kernel
theorem dX9_tellTo_249 : decode cX9_tellTo 249 = .ok (.invokevirtual 61, 3) := by decide +kernel
theorem dX9_tellTo_252 : decode cX9_tellTo 252 = .ok (.invokevirtual 78, 3) := by decide +kernel
theorem dX9_tellTo_255 : decode cX9_tellTo 255 = .ok (.ireturn, 1) := by decide +kernel
theorem dX9_tellTo_256 : decode cX9_tellTo 256 = .ok (.iconst 0, 1) := by decide +kernel
theorem dX9_tellTo_257 : decode cX9_tellTo 257 = .ok (.ireturn, 1) := by decide +kernel
abbrev mi_X9_add : ob_MI := (yX9_add, ob_ws yX9_add cX9_add 2 (some .int), cX9_add, 2, (some .int), { frames := 0, cells := 0, slots := 0, locals := 0 })
theorem gf_X9_add_15 : ob_GF mi_X9_add 15 9 1 := ⟨RX9, TX9, 2, rfl, by decide, fun x h => List.mem_cons_of_mem _ (uw_X9 x h), List.mem_cons_of_mem _ tw_133⟩
theorem gf_X9_add_9 : ob_GF mi_X9_add 9 9 0 := ⟨RX9, TX9, 2, rfl, by decide, fun x h => List.mem_cons_of_mem _ (uw_X9 x h), List.mem_cons_of_mem _ tw_132⟩
theorem pf_X9_add_15 : ob_PF mi_X9_add 15 9 1 .int := ⟨RX9, TX9, 2, tyX9, rfl, by decide, fun x h => List.mem_cons_of_mem _ (uw_X9 x h), List.mem_cons_of_mem _ tw_133, tyX9_ok, nmX9, rfl, by decide +kernel⟩
noncomputable def f_X9_add (σ : ob_St) (p1 : Int32) : Option (Int32 × ob_St) :=
  if (96 : Int32) ≤ (σ 28 1) then
    some ((σ 28 1), σ)
  else
    ob_sd σ 29 96 (σ 28 1) p1 fun σ1 =>
    ob_pf σ1 28 1 ((σ1 28 1) + 1) fun σ2 =>
    some ((σ2 28 1), σ2)
set_option maxRecDepth 100000 in
set_option maxHeartbeats 4000000 in
theorem c_X9_add {g : ob_GT} {ad : Nat → Nat} {r : Int32} {σ' : ob_St} {σ : ob_St} {p1 : Int32} (hf : f_X9_add σ p1 = some (r, σ')) : ob_CT g (ob_X ad) mi_X9_add [.ref (ad 28), .int p1] σ (some (.int r)) σ' := by
  refine ob_ct (by decide +kernel) rfl (Nat.le_of_ble_eq_true rfl) ?_
  show ob_V g (ob_X ad) mi_X9_add (some (.int r)) σ' σ 0 [(0, .ref (ad 28)), (1, .int p1)] []
  refine vv_aload_n dX9_add_0 0 rfl rfl 1 rfl ?_
  refine vv_getI dX9_add_1 1 gf_X9_add_15 ob_l28 rfl rfl 4 rfl ?_
  refine vv_bipush dX9_add_4 96 rfl 6 rfl ?_
  refine vv_icmp_ge dX9_add_6 29 9 rfl rfl hf (fun hf => ?_) (fun hf => ?_)
  · refine vv_aload_n dX9_add_29 0 rfl rfl 30 rfl ?_
    refine vv_getI dX9_add_30 1 gf_X9_add_15 ob_l28 rfl rfl 33 rfl ?_
    exact vv_ireti rfl dX9_add_33 hf
  · refine vv_aload_n dX9_add_9 0 rfl rfl 10 rfl ?_
    refine vv_getR dX9_add_10 0 gf_X9_add_9 ob_l28 rfl rfl 13 rfl ?_
    refine vv_aload_n dX9_add_13 0 rfl rfl 14 rfl ?_
    refine vv_getI dX9_add_14 1 gf_X9_add_15 ob_l28 rfl rfl 17 rfl ?_
    refine vv_iload_n dX9_add_17 1 rfl rfl 18 rfl ?_
    refine vv_iast dX9_add_18 ob_l29 rfl 19 rfl hf (fun σ1 hf => ?_)
    refine vv_aload_n dX9_add_19 0 rfl rfl 20 rfl ?_
    refine vv_dup dX9_add_20 rfl 21 rfl ?_
    refine vv_getI dX9_add_21 1 gf_X9_add_15 ob_l28 rfl rfl 24 rfl ?_
    refine vv_iconst dX9_add_24 1 rfl 25 rfl ?_
    refine vv_iadd dX9_add_25 26 rfl ?_
    refine vv_putI dX9_add_26 1 pf_X9_add_15 ob_l28 rfl rfl (ob_fit_int _) 29 rfl hf (fun σ2 hf => ?_)
    refine vv_aload_n dX9_add_29 0 rfl rfl 30 rfl ?_
    refine vv_getI dX9_add_30 1 gf_X9_add_15 ob_l28 rfl rfl 33 rfl ?_
    exact vv_ireti rfl dX9_add_33 hf
abbrev mi_X9_formOf : ob_MI := (yX9_formOf, ob_ws yX9_formOf cX9_formOf 1 (some (.object "java/lang/String")), cX9_formOf, 1, (some (.object "java/lang/String")), { frames := 0, cells := 0, slots := 0, locals := 0 })
noncomputable def f_X9_formOf (σ : ob_St) (p0 : Int32) : Option (Nat × ob_St) :=
  if p0 = 98 then
    some (1, σ)
  else
  if p0 = 99 then
    some (2, σ)
  else
  if p0 = 100 then
    some (0, σ)
  else
  if p0 = 104 then
    some (3, σ)
  else
  if p0 = 111 then
    some (2, σ)
  else
  if p0 = 120 then
    some (4, σ)
  else
    some (5, σ)
set_option maxRecDepth 100000 in
set_option maxHeartbeats 4000000 in
theorem c_X9_formOf {g : ob_GT} {ad : Nat → Nat} {r : Nat} {σ' : ob_St} {σ : ob_St} {p0 : Int32} (hf : f_X9_formOf σ p0 = some (r, σ')) : ob_CT g (ob_X ad) mi_X9_formOf [.int p0] σ (some (.ref (g.2.2.2.2.1 r))) σ' := by
  refine ob_ct (by decide +kernel) rfl (Nat.le_of_ble_eq_true rfl) ?_
  show ob_V g (ob_X ad) mi_X9_formOf (some (.ref (g.2.2.2.2.1 r))) σ' σ 0 [(0, .int p0)] []
  refine vv_iload_n dX9_formOf_0 0 rfl rfl 1 rfl ?_
  refine vv_case 98 hf (fun hf => ?_) (fun nh0 hf => ?_)
  · refine vv_look dX9_formOf_1 63 (by decide) rfl rfl ?_
    refine vv_ldcS dX9_formOf_63 1 "0000000;" (fun _ h => h.1.2.1) 65 rfl ?_
    exact vv_aret (g.2.2.2.2.1) rfl dX9_formOf_65 hf
  refine vv_case 99 hf (fun hf => ?_) (fun nh1 hf => ?_)
  · refine vv_look dX9_formOf_1 66 (by decide) rfl rfl ?_
    refine vv_ldcS dX9_formOf_66 2 "000;" (fun _ h => h.1.2.2.1) 68 rfl ?_
    exact vv_aret (g.2.2.2.2.1) rfl dX9_formOf_68 hf
  refine vv_case 100 hf (fun hf => ?_) (fun nh2 hf => ?_)
  · refine vv_look dX9_formOf_1 60 (by decide) rfl rfl ?_
    refine vv_ldcS dX9_formOf_60 0 "k00000;" (fun _ h => h.1.1) 62 rfl ?_
    exact vv_aret (g.2.2.2.2.1) rfl dX9_formOf_62 hf
  refine vv_case 104 hf (fun hf => ?_) (fun nh3 hf => ?_)
  · refine vv_look dX9_formOf_1 69 (by decide) rfl rfl ?_
    refine vv_ldcS dX9_formOf_69 3 "0;" (fun _ h => h.1.2.2.2) 71 rfl ?_
    exact vv_aret (g.2.2.2.2.1) rfl dX9_formOf_71 hf
  refine vv_case 111 hf (fun hf => ?_) (fun nh4 hf => ?_)
  · refine vv_look dX9_formOf_1 72 (by decide) rfl rfl ?_
    refine vv_ldcS dX9_formOf_72 2 "000;" (fun _ h => h.1.2.2.1) 74 rfl ?_
    exact vv_aret (g.2.2.2.2.1) rfl dX9_formOf_74 hf
  refine vv_case 120 hf (fun hf => ?_) (fun nh5 hf => ?_)
  · refine vv_look dX9_formOf_1 75 (by decide) rfl rfl ?_
    refine vv_ldcS dX9_formOf_75 4 "00;" (fun _ h => h.2.1.1) 77 rfl ?_
    exact vv_aret (g.2.2.2.2.1) rfl dX9_formOf_77 hf
  refine vv_look dX9_formOf_1 78 (by decide) (off := 77) (by show Op.lookupswitch.offset [(98, 62), (99, 65), (100, 59), (104, 68), (111, 71), (120, 74)] 77 _ = 77; rw [lv_osw (a := 98) nh0 rfl, lv_osw (a := 99) nh1 rfl, lv_osw (a := 100) nh2 rfl, lv_osw (a := 104) nh3 rfl, lv_osw (a := 111) nh4 rfl, lv_osw (a := 120) nh5 rfl]; rfl) rfl ?_
  refine vv_ldcS dX9_formOf_78 5 "" (fun _ h => h.2.1.2.1) 80 rfl ?_
  exact vv_aret (g.2.2.2.2.1) rfl dX9_formOf_80 hf
abbrev mi_X9_suits : ob_MI := (yX9_suits, ob_ws yX9_suits cX9_suits 2 (some .boolean), cX9_suits, 2, (some .boolean), { frames := 4, cells := 0, slots := 0, locals := 91 })
theorem cv_X9_suits_33 : ob_CV mi_X9_suits mi_J0_indexOf_0f7a4 33 RJ0 1 := ob_cvI rfl rfl tw_368 tw_369 tw_370 tw_60 tw_371 ⟨rfl, rfl⟩ ⟨rfl, by decide +kernel, by decide +kernel, by decide +kernel⟩ ⟨Nat.le_of_ble_eq_true rfl, Nat.le_of_ble_eq_true rfl⟩
noncomputable def f_X9_suits (σ : ob_St) (p0 : Int32) (p1 : Int32) : Option (Int32 × ob_St) :=
  if p1 = 107 then
    ob_bd (ob_tg 6 (f_J0_indexOf_0f7a4 6 σ ((p0.toUInt32 % 65536).toInt32))) fun r1 σ2 =>
    if r1 < 0 then
      ob_rb 0 σ2
    else
      ob_rb 1 σ2
  else
    if p1 = 48 then
      if p0 < 48 then
        ob_rb 0 σ
      else
        if (57 : Int32) < p0 then
          ob_rb 0 σ
        else
          ob_rb 1 σ
    else
      if p0 = p1 then
        ob_rb 1 σ
      else
        ob_rb 0 σ
set_option maxRecDepth 100000 in
set_option maxHeartbeats 4000000 in
theorem c_X9_suits {g : ob_GT} {ad : Nat → Nat} {r : Int32} {σ' : ob_St} {σ : ob_St} {p0 : Int32} {p1 : Int32} (hf : f_X9_suits σ p0 p1 = some (r, σ')) : ob_CT g (ob_X ad) mi_X9_suits [.int p0, .int p1] σ (some (.int r)) σ' := by
  refine ob_ct (by decide +kernel) rfl (Nat.le_of_ble_eq_true rfl) ?_
  show ob_V g (ob_X ad) mi_X9_suits (some (.int r)) σ' σ 0 [(0, .int p0), (1, .int p1)] []
  refine vv_iload_n dX9_suits_0 1 rfl rfl 1 rfl ?_
  refine vv_bipush dX9_suits_1 107 rfl 3 rfl ?_
  refine vv_icmp_ne dX9_suits_3 22 6 rfl rfl hf (fun hf => ?_) (fun hf => ?_)
  · refine vv_iload_n dX9_suits_22 1 rfl rfl 23 rfl ?_
    refine vv_bipush dX9_suits_23 48 rfl 25 rfl ?_
    refine vv_icmp_ne dX9_suits_25 46 28 rfl rfl hf (fun hf => ?_) (fun hf => ?_)
    · refine vv_iload_n dX9_suits_46 0 rfl rfl 47 rfl ?_
      refine vv_iload_n dX9_suits_47 1 rfl rfl 48 rfl ?_
      refine vv_icmp_ne dX9_suits_48 55 51 rfl rfl hf (fun hf => ?_) (fun hf => ?_)
      · refine vv_iconst dX9_suits_55 0 rfl 56 rfl ?_
        exact vv_iretz rfl dX9_suits_56 hf
      · refine vv_iconst dX9_suits_51 1 rfl 52 rfl ?_
        refine vv_goto dX9_suits_52 56 rfl ?_
        exact vv_iretz rfl dX9_suits_56 hf
    · refine vv_iload_n dX9_suits_28 0 rfl rfl 29 rfl ?_
      refine vv_bipush dX9_suits_29 48 rfl 31 rfl ?_
      refine vv_icmp_lt dX9_suits_31 44 34 rfl rfl hf (fun hf => ?_) (fun hf => ?_)
      · refine vv_iconst dX9_suits_44 0 rfl 45 rfl ?_
        exact vv_iretz rfl dX9_suits_45 hf
      · refine vv_iload_n dX9_suits_34 0 rfl rfl 35 rfl ?_
        refine vv_bipush dX9_suits_35 57 rfl 37 rfl ?_
        refine vv_icmp_gt dX9_suits_37 44 40 rfl rfl hf (fun hf => ?_) (fun hf => ?_)
        · refine vv_iconst dX9_suits_44 0 rfl 45 rfl ?_
          exact vv_iretz rfl dX9_suits_45 hf
        · refine vv_iconst dX9_suits_40 1 rfl 41 rfl ?_
          refine vv_goto dX9_suits_41 45 rfl ?_
          exact vv_iretz rfl dX9_suits_45 hf
  · refine vv_ldcS dX9_suits_6 6 "dslkga" (fun _ h => h.2.1.2.2.1) 8 rfl ?_
    refine vv_iload_n dX9_suits_8 0 rfl rfl 9 rfl ?_
    refine vv_i2c dX9_suits_9 10 rfl ?_
    have hi_r1 := ob_tgI hf
    refine vv_callV [.int ((p0.toUInt32 % 65536).toInt32)] [] (fun _ _ h => c_J0_indexOf_0f7a4 hi_r1 (ob_tgE h)) (ob_recS hi_r1) cv_X9_suits_33 rfl (Nat.le_of_ble_eq_true rfl) 13 rfl dX9_suits_10 rfl hf (fun r1 σ2 hf => ?_)
    refine vv_if_lt dX9_suits_13 20 16 rfl rfl hf (fun hf => ?_) (fun hf => ?_)
    · refine vv_iconst dX9_suits_20 0 rfl 21 rfl ?_
      exact vv_iretz rfl dX9_suits_21 hf
    · refine vv_iconst dX9_suits_16 1 rfl 17 rfl ?_
      refine vv_goto dX9_suits_17 21 rfl ?_
      exact vv_iretz rfl dX9_suits_21 hf
abbrev mi_X9_firstMisplaced : ob_MI := (yX9_firstMisplaced, ob_ws yX9_firstMisplaced cX9_firstMisplaced 4 (some .int), cX9_firstMisplaced, 4, (some .int), { frames := 5, cells := 0, slots := 0, locals := 112 })
theorem gf_X9_firstMisplaced_15 : ob_GF mi_X9_firstMisplaced 15 9 1 := ⟨RX9, TX9, 2, rfl, by decide, fun x h => List.mem_cons_of_mem _ (uw_X9 x h), List.mem_cons_of_mem _ tw_133⟩
theorem cv_X9_firstMisplaced_39 : ob_CV mi_X9_firstMisplaced mi_J0_length_8abf5 39 RJ0 0 := ob_cvI rfl rfl tw_304 tw_305 tw_306 tw_60 tw_307 ⟨rfl, rfl⟩ ⟨rfl, by decide +kernel, by decide +kernel, by decide +kernel⟩ ⟨Nat.le_of_ble_eq_true rfl, Nat.le_of_ble_eq_true rfl⟩
theorem gf_X9_firstMisplaced_9 : ob_GF mi_X9_firstMisplaced 9 9 0 := ⟨RX9, TX9, 2, rfl, by decide, fun x h => List.mem_cons_of_mem _ (uw_X9 x h), List.mem_cons_of_mem _ tw_132⟩
theorem cv_X9_firstMisplaced_50 : ob_CV mi_X9_firstMisplaced mi_J0_charAt_5068e 50 RJ0 1 := ob_cvI rfl rfl tw_326 tw_327 tw_328 tw_60 tw_329 ⟨rfl, rfl⟩ ⟨rfl, by decide +kernel, by decide +kernel, by decide +kernel⟩ ⟨Nat.le_of_ble_eq_true rfl, Nat.le_of_ble_eq_true rfl⟩
theorem cs_X9_firstMisplaced_54 : ob_CS mi_X9_firstMisplaced mi_X9_suits 54 2 := ob_csI rfl rfl tw_364 tw_365 tw_50 tw_366 ⟨rfl, rfl⟩ ⟨by decide +kernel, by decide +kernel, by decide +kernel⟩ ⟨Nat.le_of_ble_eq_true rfl, Nat.le_of_ble_eq_true rfl⟩
theorem cs_X9_firstMisplaced_42 : ob_CS mi_X9_firstMisplaced mi_X9_formOf 42 1 := ob_csI rfl rfl tw_314 tw_315 tw_50 tw_316 ⟨rfl, rfl⟩ ⟨by decide +kernel, by decide +kernel, by decide +kernel⟩ ⟨Nat.le_of_ble_eq_true rfl, Nat.le_of_ble_eq_true rfl⟩
theorem cv_X9_firstMisplaced_46 : ob_CV mi_X9_firstMisplaced mi_J0_isEmpty_aae02 46 RJ0 0 := ob_cvI rfl rfl tw_322 tw_323 tw_324 tw_60 tw_325 ⟨rfl, rfl⟩ ⟨rfl, by decide +kernel, by decide +kernel, by decide +kernel⟩ ⟨Nat.le_of_ble_eq_true rfl, Nat.le_of_ble_eq_true rfl⟩
noncomputable def L_X9_firstMisplaced_7 : Nat → ob_St → Nat → Int32 → Int32 → Option (Int32 × ob_St)
  | 0, _, _, _, _ => none
  | n + 1, σ, v1, v2, v3 =>
    if (σ 28 1) ≤ v3 then
      if (σ 28 1) = 0 then
        some ((σ 28 1), σ)
      else
        ob_bd (ob_tg v1 (f_J0_length_8abf5 v1 σ)) fun r1 σ2 =>
        if r1 ≤ v2 then
          some ((-1), σ2)
        else
          some ((σ2 28 1), σ2)
    else
      ob_bd (ob_tg v1 (f_J0_length_8abf5 v1 σ)) fun r3 σ4 =>
      if v2 < r3 then
        ob_ld σ4 29 96 v3 fun v_5 =>
        ob_bd (ob_tg v1 (f_J0_charAt_5068e v1 σ4 v2)) fun r6 σ7 =>
        ob_bd (f_X9_suits σ7 v_5 r6) fun r8 σ9 =>
        if r8 = 0 then
          some (v3, σ9)
        else
          L_X9_firstMisplaced_7 n σ9 v1 (v2 + 1) (v3 + 1)
      else
        ob_ld σ4 29 96 v3 fun v_10 =>
        ob_bd (f_X9_formOf σ4 v_10) fun q11 σ12 =>
        ob_bd (ob_tg q11 (f_J0_isEmpty_aae02 q11 σ12)) fun r13 σ14 =>
        if r13 = 0 then
          L_X9_firstMisplaced_7 n σ14 q11 0 (v3 + 1)
        else
          some (v3, σ14)
noncomputable def f_X9_firstMisplaced (σ : ob_St) : Option (Int32 × ob_St) :=
  L_X9_firstMisplaced_7 1000 σ 5 0 0
set_option maxRecDepth 100000 in
set_option maxHeartbeats 4000000 in
theorem l_X9_firstMisplaced_7 {g : ob_GT} {ad : Nat → Nat} {r : Int32} {σ' : ob_St} : ∀ (n : Nat) {σ : ob_St} {v1 : Nat} {v2 : Int32} {v3 : Int32}, L_X9_firstMisplaced_7 n σ v1 v2 v3 = some (r, σ') → ob_V g (ob_X ad) mi_X9_firstMisplaced (some (.int r)) σ' σ 7 [(0, .ref (ad 28)), (1, .ref (g.2.2.2.2.1 v1)), (2, .int v2), (3, .int v3)] [] := by
  intro n
  induction n with
  | zero => intro σ v1 v2 v3 hf; exact absurd hf (fun h => by cases h)
  | succ n ih =>
    intro σ v1 v2 v3 hf
    refine vv_iload_n dX9_firstMisplaced_7 3 rfl rfl 8 rfl ?_
    refine vv_aload_n dX9_firstMisplaced_8 0 rfl rfl 9 rfl ?_
    refine vv_getI dX9_firstMisplaced_9 1 gf_X9_firstMisplaced_15 ob_l28 rfl rfl 12 rfl ?_
    refine vv_icmp_ge dX9_firstMisplaced_12 72 15 rfl rfl hf (fun hf => ?_) (fun hf => ?_)
    · refine vv_aload_n dX9_firstMisplaced_72 0 rfl rfl 73 rfl ?_
      refine vv_getI dX9_firstMisplaced_73 1 gf_X9_firstMisplaced_15 ob_l28 rfl rfl 76 rfl ?_
      refine vv_if_eq dX9_firstMisplaced_76 87 79 rfl rfl hf (fun hf => ?_) (fun hf => ?_)
      · refine vv_aload_n dX9_firstMisplaced_87 0 rfl rfl 88 rfl ?_
        refine vv_getI dX9_firstMisplaced_88 1 gf_X9_firstMisplaced_15 ob_l28 rfl rfl 91 rfl ?_
        refine vv_goto dX9_firstMisplaced_91 95 rfl ?_
        exact vv_ireti rfl dX9_firstMisplaced_95 hf
      · refine vv_iload_n dX9_firstMisplaced_79 2 rfl rfl 80 rfl ?_
        refine vv_aload_n dX9_firstMisplaced_80 1 rfl rfl 81 rfl ?_
        have hi_r1 := ob_tgI hf
        refine vv_callV [] [.int v2] (fun _ _ h => c_J0_length_8abf5 hi_r1 (ob_tgE h)) (ob_recS hi_r1) cv_X9_firstMisplaced_39 rfl (Nat.le_of_ble_eq_true rfl) 84 rfl dX9_firstMisplaced_81 rfl hf (fun r1 σ2 hf => ?_)
        refine vv_icmp_ge dX9_firstMisplaced_84 94 87 rfl rfl hf (fun hf => ?_) (fun hf => ?_)
        · refine vv_iconst dX9_firstMisplaced_94 (-1) rfl 95 rfl ?_
          exact vv_ireti rfl dX9_firstMisplaced_95 hf
        · refine vv_aload_n dX9_firstMisplaced_87 0 rfl rfl 88 rfl ?_
          refine vv_getI dX9_firstMisplaced_88 1 gf_X9_firstMisplaced_15 ob_l28 rfl rfl 91 rfl ?_
          refine vv_goto dX9_firstMisplaced_91 95 rfl ?_
          exact vv_ireti rfl dX9_firstMisplaced_95 hf
    · refine vv_iload_n dX9_firstMisplaced_15 2 rfl rfl 16 rfl ?_
      refine vv_aload_n dX9_firstMisplaced_16 1 rfl rfl 17 rfl ?_
      have hi_r3 := ob_tgI hf
      refine vv_callV [] [.int v2] (fun _ _ h => c_J0_length_8abf5 hi_r3 (ob_tgE h)) (ob_recS hi_r3) cv_X9_firstMisplaced_39 rfl (Nat.le_of_ble_eq_true rfl) 20 rfl dX9_firstMisplaced_17 rfl hf (fun r3 σ4 hf => ?_)
      refine vv_icmp_lt dX9_firstMisplaced_20 44 23 rfl rfl hf (fun hf => ?_) (fun hf => ?_)
      · refine vv_aload_n dX9_firstMisplaced_44 0 rfl rfl 45 rfl ?_
        refine vv_getR dX9_firstMisplaced_45 0 gf_X9_firstMisplaced_9 ob_l28 rfl rfl 48 rfl ?_
        refine vv_iload_n dX9_firstMisplaced_48 3 rfl rfl 49 rfl ?_
        refine vv_iald dX9_firstMisplaced_49 ob_l29 rfl 50 rfl hf (fun v_5 hf => ?_)
        refine vv_aload_n dX9_firstMisplaced_50 1 rfl rfl 51 rfl ?_
        refine vv_iload_n dX9_firstMisplaced_51 2 rfl rfl 52 rfl ?_
        have hi_r6 := ob_tgI hf
        refine vv_callV [.int v2] [.int v_5] (fun _ _ h => c_J0_charAt_5068e hi_r6 (ob_tgE h)) (ob_recS hi_r6) cv_X9_firstMisplaced_50 rfl (Nat.le_of_ble_eq_true rfl) 55 rfl dX9_firstMisplaced_52 rfl hf (fun r6 σ7 hf => ?_)
        refine vv_callS [.int v_5, .int r6] [] (fun _ _ h => c_X9_suits h) cs_X9_firstMisplaced_54 rfl (Nat.le_of_ble_eq_true rfl) 58 rfl dX9_firstMisplaced_55 rfl hf (fun r8 σ9 hf => ?_)
        refine vv_if_ne dX9_firstMisplaced_58 63 61 rfl rfl hf (fun hf => ?_) (fun hf => ?_)
        · refine vv_iinc dX9_firstMisplaced_63 (v2 + 1) 2 [(2, .int (v2 + 1)), (0, .ref (ad 28)), (1, .ref (g.2.2.2.2.1 v1)), (3, .int v3)] rfl rfl (Nat.le_of_ble_eq_true rfl) rfl 66 rfl ?_
          refine vv_iinc dX9_firstMisplaced_66 (v3 + 1) 3 [(3, .int (v3 + 1)), (2, .int (v2 + 1)), (0, .ref (ad 28)), (1, .ref (g.2.2.2.2.1 v1))] rfl rfl (Nat.le_of_ble_eq_true rfl) rfl 69 rfl ?_
          refine vv_goto dX9_firstMisplaced_69 7 rfl ?_
          refine vv_sub [2, 3, 1, 0] [(0, .ref (ad 28)), (1, .ref (g.2.2.2.2.1 v1)), (2, .int (v2 + 1)), (3, .int (v3 + 1))] rfl ?_
          exact ih hf
        · refine vv_iload_n dX9_firstMisplaced_61 3 rfl rfl 62 rfl ?_
          exact vv_ireti rfl dX9_firstMisplaced_62 hf
      · refine vv_aload_n dX9_firstMisplaced_23 0 rfl rfl 24 rfl ?_
        refine vv_getR dX9_firstMisplaced_24 0 gf_X9_firstMisplaced_9 ob_l28 rfl rfl 27 rfl ?_
        refine vv_iload_n dX9_firstMisplaced_27 3 rfl rfl 28 rfl ?_
        refine vv_iald dX9_firstMisplaced_28 ob_l29 rfl 29 rfl hf (fun v_10 hf => ?_)
        refine vv_callSr [.int v_10] [] g.2.2.2.2.1 (fun _ _ h => c_X9_formOf h) cs_X9_firstMisplaced_42 rfl (Nat.le_of_ble_eq_true rfl) 32 rfl dX9_firstMisplaced_29 rfl hf (fun q11 σ12 hf => ?_)
        refine vv_astore_n dX9_firstMisplaced_32 [(1, .ref (g.2.2.2.2.1 q11)), (0, .ref (ad 28)), (2, .int v2), (3, .int v3)] rfl (Nat.le_of_ble_eq_true rfl) rfl 33 rfl ?_
        refine vv_iconst dX9_firstMisplaced_33 0 rfl 34 rfl ?_
        refine vv_istore_n dX9_firstMisplaced_34 [(2, .int 0), (1, .ref (g.2.2.2.2.1 q11)), (0, .ref (ad 28)), (3, .int v3)] rfl (Nat.le_of_ble_eq_true rfl) rfl 35 rfl ?_
        refine vv_aload_n dX9_firstMisplaced_35 1 rfl rfl 36 rfl ?_
        have hi_r13 := ob_tgI hf
        refine vv_callV [] [] (fun _ _ h => c_J0_isEmpty_aae02 hi_r13 (ob_tgE h)) (ob_recS hi_r13) cv_X9_firstMisplaced_46 rfl (Nat.le_of_ble_eq_true rfl) 39 rfl dX9_firstMisplaced_36 rfl hf (fun r13 σ14 hf => ?_)
        refine vv_if_eq dX9_firstMisplaced_39 66 42 rfl rfl hf (fun hf => ?_) (fun hf => ?_)
        · refine vv_iinc dX9_firstMisplaced_66 (v3 + 1) 3 [(3, .int (v3 + 1)), (2, .int 0), (1, .ref (g.2.2.2.2.1 q11)), (0, .ref (ad 28))] rfl rfl (Nat.le_of_ble_eq_true rfl) rfl 69 rfl ?_
          refine vv_goto dX9_firstMisplaced_69 7 rfl ?_
          refine vv_sub [3, 2, 1, 0] [(0, .ref (ad 28)), (1, .ref (g.2.2.2.2.1 q11)), (2, .int 0), (3, .int (v3 + 1))] rfl ?_
          exact ih hf
        · refine vv_iload_n dX9_firstMisplaced_42 3 rfl rfl 43 rfl ?_
          exact vv_ireti rfl dX9_firstMisplaced_43 hf
set_option maxRecDepth 100000 in
set_option maxHeartbeats 4000000 in
theorem c_X9_firstMisplaced {g : ob_GT} {ad : Nat → Nat} {r : Int32} {σ' : ob_St} {σ : ob_St} (hf : f_X9_firstMisplaced σ = some (r, σ')) : ob_CT g (ob_X ad) mi_X9_firstMisplaced [.ref (ad 28)] σ (some (.int r)) σ' := by
  refine ob_ct (by decide +kernel) rfl (Nat.le_of_ble_eq_true rfl) ?_
  show ob_V g (ob_X ad) mi_X9_firstMisplaced (some (.int r)) σ' σ 0 [(0, .ref (ad 28))] []
  refine vv_ldcS dX9_firstMisplaced_0 5 "" (fun _ h => h.2.1.2.1) 2 rfl ?_
  refine vv_astore_n dX9_firstMisplaced_2 [(1, .ref (g.2.2.2.2.1 5)), (0, .ref (ad 28))] rfl (Nat.le_of_ble_eq_true rfl) rfl 3 rfl ?_
  refine vv_iconst dX9_firstMisplaced_3 0 rfl 4 rfl ?_
  refine vv_istore_n dX9_firstMisplaced_4 [(2, .int 0), (1, .ref (g.2.2.2.2.1 5)), (0, .ref (ad 28))] rfl (Nat.le_of_ble_eq_true rfl) rfl 5 rfl ?_
  refine vv_iconst dX9_firstMisplaced_5 0 rfl 6 rfl ?_
  refine vv_istore_n dX9_firstMisplaced_6 [(3, .int 0), (2, .int 0), (1, .ref (g.2.2.2.2.1 5)), (0, .ref (ad 28))] rfl (Nat.le_of_ble_eq_true rfl) rfl 7 rfl ?_
  refine vv_sub [3, 2, 1, 0] [(0, .ref (ad 28)), (1, .ref (g.2.2.2.2.1 5)), (2, .int 0), (3, .int 0)] rfl ?_
  exact l_X9_firstMisplaced_7 1000 hf
abbrev mi_X9_letterAt : ob_MI := (yX9_letterAt, ob_ws yX9_letterAt cX9_letterAt 2 (some .int), cX9_letterAt, 2, (some .int), { frames := 0, cells := 0, slots := 0, locals := 0 })
theorem gf_X9_letterAt_15 : ob_GF mi_X9_letterAt 15 9 1 := ⟨RX9, TX9, 2, rfl, by decide, fun x h => List.mem_cons_of_mem _ (uw_X9 x h), List.mem_cons_of_mem _ tw_133⟩
theorem gf_X9_letterAt_9 : ob_GF mi_X9_letterAt 9 9 0 := ⟨RX9, TX9, 2, rfl, by decide, fun x h => List.mem_cons_of_mem _ (uw_X9 x h), List.mem_cons_of_mem _ tw_132⟩
noncomputable def f_X9_letterAt (σ : ob_St) (p1 : Int32) : Option (Int32 × ob_St) :=
  if p1 < 0 then
    some ((-1), σ)
  else
    if (σ 28 1) ≤ p1 then
      some ((-1), σ)
    else
      ob_ld σ 29 96 p1 fun v_1 =>
      some (v_1, σ)
set_option maxRecDepth 100000 in
set_option maxHeartbeats 4000000 in
theorem c_X9_letterAt {g : ob_GT} {ad : Nat → Nat} {r : Int32} {σ' : ob_St} {σ : ob_St} {p1 : Int32} (hf : f_X9_letterAt σ p1 = some (r, σ')) : ob_CT g (ob_X ad) mi_X9_letterAt [.ref (ad 28), .int p1] σ (some (.int r)) σ' := by
  refine ob_ct (by decide +kernel) rfl (Nat.le_of_ble_eq_true rfl) ?_
  show ob_V g (ob_X ad) mi_X9_letterAt (some (.int r)) σ' σ 0 [(0, .ref (ad 28)), (1, .int p1)] []
  refine vv_iload_n dX9_letterAt_0 1 rfl rfl 1 rfl ?_
  refine vv_if_lt dX9_letterAt_1 21 4 rfl rfl hf (fun hf => ?_) (fun hf => ?_)
  · refine vv_iconst dX9_letterAt_21 (-1) rfl 22 rfl ?_
    exact vv_ireti rfl dX9_letterAt_22 hf
  · refine vv_iload_n dX9_letterAt_4 1 rfl rfl 5 rfl ?_
    refine vv_aload_n dX9_letterAt_5 0 rfl rfl 6 rfl ?_
    refine vv_getI dX9_letterAt_6 1 gf_X9_letterAt_15 ob_l28 rfl rfl 9 rfl ?_
    refine vv_icmp_ge dX9_letterAt_9 21 12 rfl rfl hf (fun hf => ?_) (fun hf => ?_)
    · refine vv_iconst dX9_letterAt_21 (-1) rfl 22 rfl ?_
      exact vv_ireti rfl dX9_letterAt_22 hf
    · refine vv_aload_n dX9_letterAt_12 0 rfl rfl 13 rfl ?_
      refine vv_getR dX9_letterAt_13 0 gf_X9_letterAt_9 ob_l28 rfl rfl 16 rfl ?_
      refine vv_iload_n dX9_letterAt_16 1 rfl rfl 17 rfl ?_
      refine vv_iald dX9_letterAt_17 ob_l29 rfl 18 rfl hf (fun v_1 hf => ?_)
      refine vv_goto dX9_letterAt_18 22 rfl ?_
      exact vv_ireti rfl dX9_letterAt_22 hf
abbrev mi_X9_lengthFrom : ob_MI := (yX9_lengthFrom, ob_ws yX9_lengthFrom cX9_lengthFrom 2 (some .int), cX9_lengthFrom, 2, (some .int), { frames := 2, cells := 0, slots := 0, locals := 40 })
theorem cv_X9_lengthFrom_58 : ob_CV mi_X9_lengthFrom mi_X9_letterAt 58 RX9 1 := ob_cvI rfl rfl tw_438 tw_440 tw_2 tw_50 tw_441 ⟨rfl, rfl⟩ ⟨rfl, by decide +kernel, by decide +kernel, by decide +kernel⟩ ⟨Nat.le_of_ble_eq_true rfl, Nat.le_of_ble_eq_true rfl⟩
theorem cs_X9_lengthFrom_42 : ob_CS mi_X9_lengthFrom mi_X9_formOf 42 1 := ob_csI rfl rfl tw_314 tw_315 tw_50 tw_316 ⟨rfl, rfl⟩ ⟨by decide +kernel, by decide +kernel, by decide +kernel⟩ ⟨Nat.le_of_ble_eq_true rfl, Nat.le_of_ble_eq_true rfl⟩
theorem cv_X9_lengthFrom_39 : ob_CV mi_X9_lengthFrom mi_J0_length_8abf5 39 RJ0 0 := ob_cvI rfl rfl tw_304 tw_305 tw_306 tw_60 tw_307 ⟨rfl, rfl⟩ ⟨rfl, by decide +kernel, by decide +kernel, by decide +kernel⟩ ⟨Nat.le_of_ble_eq_true rfl, Nat.le_of_ble_eq_true rfl⟩
noncomputable def f_X9_lengthFrom (σ : ob_St) (p1 : Int32) : Option (Int32 × ob_St) :=
  ob_bd (f_X9_letterAt σ p1) fun r1 σ2 =>
  ob_bd (f_X9_formOf σ2 r1) fun q3 σ4 =>
  ob_bd (ob_tg q3 (f_J0_length_8abf5 q3 σ4)) fun r5 σ6 =>
  some ((1 + r5), σ6)
set_option maxRecDepth 100000 in
set_option maxHeartbeats 4000000 in
theorem c_X9_lengthFrom {g : ob_GT} {ad : Nat → Nat} {r : Int32} {σ' : ob_St} {σ : ob_St} {p1 : Int32} (hf : f_X9_lengthFrom σ p1 = some (r, σ')) : ob_CT g (ob_X ad) mi_X9_lengthFrom [.ref (ad 28), .int p1] σ (some (.int r)) σ' := by
  refine ob_ct (by decide +kernel) rfl (Nat.le_of_ble_eq_true rfl) ?_
  show ob_V g (ob_X ad) mi_X9_lengthFrom (some (.int r)) σ' σ 0 [(0, .ref (ad 28)), (1, .int p1)] []
  refine vv_iconst dX9_lengthFrom_0 1 rfl 1 rfl ?_
  refine vv_aload_n dX9_lengthFrom_1 0 rfl rfl 2 rfl ?_
  refine vv_iload_n dX9_lengthFrom_2 1 rfl rfl 3 rfl ?_
  refine vv_callV [.int p1] [.int 1] (fun _ _ h => c_X9_letterAt h) (ob_rec ob_l28 rfl rfl) cv_X9_lengthFrom_58 rfl (Nat.le_of_ble_eq_true rfl) 6 rfl dX9_lengthFrom_3 rfl hf (fun r1 σ2 hf => ?_)
  refine vv_callSr [.int r1] [.int 1] g.2.2.2.2.1 (fun _ _ h => c_X9_formOf h) cs_X9_lengthFrom_42 rfl (Nat.le_of_ble_eq_true rfl) 9 rfl dX9_lengthFrom_6 rfl hf (fun q3 σ4 hf => ?_)
  have hi_r5 := ob_tgI hf
  refine vv_callV [] [.int 1] (fun _ _ h => c_J0_length_8abf5 hi_r5 (ob_tgE h)) (ob_recS hi_r5) cv_X9_lengthFrom_39 rfl (Nat.le_of_ble_eq_true rfl) 12 rfl dX9_lengthFrom_9 rfl hf (fun r5 σ6 hf => ?_)
  refine vv_iadd dX9_lengthFrom_12 13 rfl ?_
  exact vv_ireti rfl dX9_lengthFrom_13 hf
abbrev mi_X9_number : ob_MI := (yX9_number, ob_ws yX9_number cX9_number 5 (some .int), cX9_number, 5, (some .int), { frames := 1, cells := 0, slots := 0, locals := 21 })
theorem cv_X9_number_58 : ob_CV mi_X9_number mi_X9_letterAt 58 RX9 1 := ob_cvI rfl rfl tw_438 tw_440 tw_2 tw_50 tw_441 ⟨rfl, rfl⟩ ⟨rfl, by decide +kernel, by decide +kernel, by decide +kernel⟩ ⟨Nat.le_of_ble_eq_true rfl, Nat.le_of_ble_eq_true rfl⟩
noncomputable def L_X9_number_5 : Nat → ob_St → Int32 → Int32 → Int32 → Int32 → Option (Int32 × ob_St)
  | 0, _, _, _, _, _ => none
  | n + 1, σ, v1, v2, v3, v4 =>
    if v2 ≤ v4 then
      some (v3, σ)
    else
      ob_bd (f_X9_letterAt σ (v1 + v4)) fun r1 σ2 =>
      ob_nm (((10 * v3) + r1) - 48) fun v_3 =>
      L_X9_number_5 n σ2 v1 v2 v_3 (v4 + 1)
noncomputable def f_X9_number (σ : ob_St) (p1 : Int32) (p2 : Int32) : Option (Int32 × ob_St) :=
  L_X9_number_5 1000 σ p1 p2 0 0
set_option maxRecDepth 100000 in
set_option maxHeartbeats 4000000 in
theorem l_X9_number_5 {g : ob_GT} {ad : Nat → Nat} {r : Int32} {σ' : ob_St} : ∀ (n : Nat) {σ : ob_St} {v1 : Int32} {v2 : Int32} {v3 : Int32} {v4 : Int32}, L_X9_number_5 n σ v1 v2 v3 v4 = some (r, σ') → ob_V g (ob_X ad) mi_X9_number (some (.int r)) σ' σ 5 [(0, .ref (ad 28)), (1, .int v1), (2, .int v2), (3, .int v3), (4, .int v4)] [] := by
  intro n
  induction n with
  | zero => intro σ v1 v2 v3 v4 hf; exact absurd hf (fun h => by cases h)
  | succ n ih =>
    intro σ v1 v2 v3 v4 hf
    refine vv_iload dX9_number_5 4 rfl 7 rfl ?_
    refine vv_iload_n dX9_number_7 2 rfl rfl 8 rfl ?_
    refine vv_icmp_ge dX9_number_8 34 11 rfl rfl hf (fun hf => ?_) (fun hf => ?_)
    · refine vv_iload_n dX9_number_34 3 rfl rfl 35 rfl ?_
      exact vv_ireti rfl dX9_number_35 hf
    · refine vv_bipush dX9_number_11 10 rfl 13 rfl ?_
      refine vv_iload_n dX9_number_13 3 rfl rfl 14 rfl ?_
      refine vv_imul dX9_number_14 15 rfl ?_
      refine vv_aload_n dX9_number_15 0 rfl rfl 16 rfl ?_
      refine vv_iload_n dX9_number_16 1 rfl rfl 17 rfl ?_
      refine vv_iload dX9_number_17 4 rfl 19 rfl ?_
      refine vv_iadd dX9_number_19 20 rfl ?_
      refine vv_callV [.int (v1 + v4)] [.int (10 * v3)] (fun _ _ h => c_X9_letterAt h) (ob_rec ob_l28 rfl rfl) cv_X9_number_58 rfl (Nat.le_of_ble_eq_true rfl) 23 rfl dX9_number_20 rfl hf (fun r1 σ2 hf => ?_)
      refine vv_iadd dX9_number_23 24 rfl ?_
      refine vv_bipush dX9_number_24 48 rfl 26 rfl ?_
      refine vv_isub dX9_number_26 27 rfl ?_
      refine vv_nm hf (fun v_3 hf => ?_)
      refine vv_istore_n dX9_number_27 [(3, .int v_3), (0, .ref (ad 28)), (1, .int v1), (2, .int v2), (4, .int v4)] rfl (Nat.le_of_ble_eq_true rfl) rfl 28 rfl ?_
      refine vv_iinc dX9_number_28 (v4 + 1) 4 [(4, .int (v4 + 1)), (3, .int v_3), (0, .ref (ad 28)), (1, .int v1), (2, .int v2)] rfl rfl (Nat.le_of_ble_eq_true rfl) rfl 31 rfl ?_
      refine vv_goto dX9_number_31 5 rfl ?_
      refine vv_sub [2, 3, 4, 1, 0] [(0, .ref (ad 28)), (1, .int v1), (2, .int v2), (3, .int v_3), (4, .int (v4 + 1))] rfl ?_
      exact ih hf
set_option maxRecDepth 100000 in
set_option maxHeartbeats 4000000 in
theorem c_X9_number {g : ob_GT} {ad : Nat → Nat} {r : Int32} {σ' : ob_St} {σ : ob_St} {p1 : Int32} {p2 : Int32} (hf : f_X9_number σ p1 p2 = some (r, σ')) : ob_CT g (ob_X ad) mi_X9_number [.ref (ad 28), .int p1, .int p2] σ (some (.int r)) σ' := by
  refine ob_ct (by decide +kernel) rfl (Nat.le_of_ble_eq_true rfl) ?_
  show ob_V g (ob_X ad) mi_X9_number (some (.int r)) σ' σ 0 [(0, .ref (ad 28)), (1, .int p1), (2, .int p2)] []
  refine vv_iconst dX9_number_0 0 rfl 1 rfl ?_
  refine vv_istore_n dX9_number_1 [(3, .int 0), (0, .ref (ad 28)), (1, .int p1), (2, .int p2)] rfl (Nat.le_of_ble_eq_true rfl) rfl 2 rfl ?_
  refine vv_iconst dX9_number_2 0 rfl 3 rfl ?_
  refine vv_istore dX9_number_3 [(4, .int 0), (3, .int 0), (0, .ref (ad 28)), (1, .int p1), (2, .int p2)] (Nat.le_of_ble_eq_true rfl) rfl 5 rfl ?_
  refine vv_sub [2, 3, 4, 1, 0] [(0, .ref (ad 28)), (1, .int p1), (2, .int p2), (3, .int 0), (4, .int 0)] rfl ?_
  exact l_X9_number_5 1000 hf
abbrev mi_X9_tellTo : ob_MI := (yX9_tellTo, ob_ws yX9_tellTo cX9_tellTo 3 (some .boolean), cX9_tellTo, 3, (some .boolean), { frames := 4, cells := 0, slots := 0, locals := 91 })
theorem cv_X9_tellTo_58 : ob_CV mi_X9_tellTo mi_X9_letterAt 58 RX9 1 := ob_cvI rfl rfl tw_438 tw_440 tw_2 tw_50 tw_441 ⟨rfl, rfl⟩ ⟨rfl, by decide +kernel, by decide +kernel, by decide +kernel⟩ ⟨Nat.le_of_ble_eq_true rfl, Nat.le_of_ble_eq_true rfl⟩
theorem cv_X9_tellTo_61 : ob_CV mi_X9_tellTo mi_X9_number 61 RX9 2 := ob_cvI rfl rfl tw_442 tw_444 tw_3 tw_50 tw_445 ⟨rfl, rfl⟩ ⟨rfl, by decide +kernel, by decide +kernel, by decide +kernel⟩ ⟨Nat.le_of_ble_eq_true rfl, Nat.le_of_ble_eq_true rfl⟩
theorem cv_X9_tellTo_71 : ob_CV mi_X9_tellTo mi_X3_putInBox 71 RX3 2 := ob_cvI rfl rfl tw_453 tw_454 tw_455 tw_49 tw_456 ⟨rfl, rfl⟩ ⟨rfl, by decide +kernel, by decide +kernel, by decide +kernel⟩ ⟨Nat.le_of_ble_eq_true rfl, Nat.le_of_ble_eq_true rfl⟩
theorem cv_X9_tellTo_75 : ob_CV mi_X9_tellTo mi_X3_putBegin 75 RX3 2 := ob_cvI rfl rfl tw_461 tw_462 tw_463 tw_49 tw_464 ⟨rfl, rfl⟩ ⟨rfl, by decide +kernel, by decide +kernel, by decide +kernel⟩ ⟨Nat.le_of_ble_eq_true rfl, Nat.le_of_ble_eq_true rfl⟩
theorem cv_X9_tellTo_33 : ob_CV mi_X9_tellTo mi_J0_indexOf_0f7a4 33 RJ0 1 := ob_cvI rfl rfl tw_368 tw_369 tw_370 tw_60 tw_371 ⟨rfl, rfl⟩ ⟨rfl, by decide +kernel, by decide +kernel, by decide +kernel⟩ ⟨Nat.le_of_ble_eq_true rfl, Nat.le_of_ble_eq_true rfl⟩
theorem cv_X9_tellTo_65 : ob_CV mi_X9_tellTo mi_X3_addDish 65 RX3 5 := ob_cvI rfl rfl tw_446 tw_447 tw_448 tw_49 tw_449 ⟨rfl, rfl⟩ ⟨rfl, by decide +kernel, by decide +kernel, by decide +kernel⟩ ⟨Nat.le_of_ble_eq_true rfl, Nat.le_of_ble_eq_true rfl⟩
theorem cv_X9_tellTo_78 : ob_CV mi_X9_tellTo mi_X3_swap 78 RX3 2 := ob_cvI rfl rfl tw_465 tw_466 tw_467 tw_49 tw_468 ⟨rfl, rfl⟩ ⟨rfl, by decide +kernel, by decide +kernel, by decide +kernel⟩ ⟨Nat.le_of_ble_eq_true rfl, Nat.le_of_ble_eq_true rfl⟩
noncomputable def f_X9_tellTo (b : Nat) (σ : ob_St) (p2 : Int32) : Option (Int32 × ob_St) :=
  ob_bd (f_X9_letterAt σ p2) fun r1 σ2 =>
  if r1 = 98 then
    ob_bd (f_X9_number σ2 (p2 + 1) 2) fun r3 σ4 =>
    ob_bd (f_X3_putInBox b σ4 0 r3) fun r5 σ6 =>
    if r5 = 0 then
      ob_rb 0 σ6
    else
      ob_bd (f_X9_number σ6 (p2 + 3) 1) fun r7 σ8 =>
      ob_bd (f_X3_putInBox b σ8 1 r7) fun r9 σ10 =>
      if r9 = 0 then
        ob_rb 0 σ10
      else
        ob_bd (f_X9_number σ10 (p2 + 4) 2) fun r11 σ12 =>
        ob_bd (f_X3_putInBox b σ12 2 r11) fun r13 σ14 =>
        if r13 = 0 then
          ob_rb 0 σ14
        else
          ob_bd (f_X9_number σ14 (p2 + 6) 2) fun r15 σ16 =>
          ob_bd (f_X3_putInBox b σ16 3 r15) fun r17 σ18 =>
          if r17 = 0 then
            ob_rb 0 σ18
          else
            ob_rb 1 σ18
  else
  if r1 = 99 then
    ob_bd (f_X9_number σ2 (p2 + 1) 1) fun r19 σ20 =>
    ob_bd (f_X9_number σ20 (p2 + 2) 2) fun r21 σ22 =>
    ob_bd (f_X3_putBegin b σ22 r19 r21) fun r23 σ24 =>
    ob_rb r23 σ24
  else
  if r1 = 100 then
    ob_bd (f_X9_letterAt σ2 (p2 + 1)) fun r25 σ26 =>
    ob_bd (ob_tg 6 (f_J0_indexOf_0f7a4 6 σ26 ((r25.toUInt32 % 65536).toInt32))) fun r27 σ28 =>
    ob_bd (f_X9_number σ28 (p2 + 2) 1) fun r29 σ30 =>
    ob_bd (f_X9_number σ30 (p2 + 3) 2) fun r31 σ32 =>
    ob_bd (f_X9_number σ32 (p2 + 5) 1) fun r33 σ34 =>
    ob_bd (f_X9_number σ34 (p2 + 6) 1) fun r35 σ36 =>
    ob_bd (f_X3_addDish b σ36 r27 r29 r31 r33 r35) fun r37 σ38 =>
    ob_rb r37 σ38
  else
  if r1 = 104 then
    ob_bd (f_X9_number σ2 (p2 + 1) 1) fun r39 σ40 =>
    ob_bd (f_X3_putInBox b σ40 4 r39) fun r41 σ42 =>
    ob_rb r41 σ42
  else
  if r1 = 111 then
    ob_bd (f_X9_number σ2 (p2 + 1) 3) fun r43 σ44 =>
    ob_bd (f_X3_putInBox b σ44 5 r43) fun r45 σ46 =>
    ob_rb r45 σ46
  else
  if r1 = 120 then
    ob_bd (f_X9_number σ2 (p2 + 1) 1) fun r47 σ48 =>
    ob_bd (f_X9_number σ48 (p2 + 2) 1) fun r49 σ50 =>
    ob_bd (f_X3_swap b σ50 r47 r49) fun r51 σ52 =>
    ob_rb r51 σ52
  else
    ob_rb 0 σ2
set_option maxRecDepth 100000 in
set_option maxHeartbeats 4000000 in
theorem c_X9_tellTo {g : ob_GT} {ad : Nat → Nat} {b : Nat} (hb : ob_isK b) {r : Int32} {σ' : ob_St} {σ : ob_St} {p2 : Int32} (hf : f_X9_tellTo b σ p2 = some (r, σ')) : ob_CT g (ob_X ad) mi_X9_tellTo [.ref (ad 28), .ref (ad b), .int p2] σ (some (.int r)) σ' := by
  refine ob_ct (by decide +kernel) rfl (Nat.le_of_ble_eq_true rfl) ?_
  show ob_V g (ob_X ad) mi_X9_tellTo (some (.int r)) σ' σ 0 [(0, .ref (ad 28)), (1, .ref (ad b)), (2, .int p2)] []
  refine vv_aload_n dX9_tellTo_0 0 rfl rfl 1 rfl ?_
  refine vv_iload_n dX9_tellTo_1 2 rfl rfl 2 rfl ?_
  refine vv_callV [.int p2] [] (fun _ _ h => c_X9_letterAt h) (ob_rec ob_l28 rfl rfl) cv_X9_tellTo_58 rfl (Nat.le_of_ble_eq_true rfl) 5 rfl dX9_tellTo_2 rfl hf (fun r1 σ2 hf => ?_)
  refine vv_case 98 hf (fun hf => ?_) (fun nh0 hf => ?_)
  · refine vv_look dX9_tellTo_5 115 (by decide) rfl rfl ?_
    refine vv_aload_n dX9_tellTo_115 1 rfl rfl 116 rfl ?_
    refine vv_iconst dX9_tellTo_116 0 rfl 117 rfl ?_
    refine vv_aload_n dX9_tellTo_117 0 rfl rfl 118 rfl ?_
    refine vv_iload_n dX9_tellTo_118 2 rfl rfl 119 rfl ?_
    refine vv_iconst dX9_tellTo_119 1 rfl 120 rfl ?_
    refine vv_iadd dX9_tellTo_120 121 rfl ?_
    refine vv_iconst dX9_tellTo_121 2 rfl 122 rfl ?_
    refine vv_callV [.int (p2 + 1), .int 2] [.int 0, .ref (ad b)] (fun _ _ h => c_X9_number h) (ob_rec ob_l28 rfl rfl) cv_X9_tellTo_61 rfl (Nat.le_of_ble_eq_true rfl) 125 rfl dX9_tellTo_122 rfl hf (fun r3 σ4 hf => ?_)
    refine vv_callV [.int 0, .int r3] [] (fun _ _ h => c_X3_putInBox hb h) (ob_rec (ob_kl0 hb) (ob_ks hb) rfl) cv_X9_tellTo_71 rfl (Nat.le_of_ble_eq_true rfl) 128 rfl dX9_tellTo_125 rfl hf (fun r5 σ6 hf => ?_)
    refine vv_if_eq dX9_tellTo_128 184 131 rfl rfl hf (fun hf => ?_) (fun hf => ?_)
    · refine vv_iconst dX9_tellTo_184 0 rfl 185 rfl ?_
      exact vv_iretz rfl dX9_tellTo_185 hf
    · refine vv_aload_n dX9_tellTo_131 1 rfl rfl 132 rfl ?_
      refine vv_iconst dX9_tellTo_132 1 rfl 133 rfl ?_
      refine vv_aload_n dX9_tellTo_133 0 rfl rfl 134 rfl ?_
      refine vv_iload_n dX9_tellTo_134 2 rfl rfl 135 rfl ?_
      refine vv_iconst dX9_tellTo_135 3 rfl 136 rfl ?_
      refine vv_iadd dX9_tellTo_136 137 rfl ?_
      refine vv_iconst dX9_tellTo_137 1 rfl 138 rfl ?_
      refine vv_callV [.int (p2 + 3), .int 1] [.int 1, .ref (ad b)] (fun _ _ h => c_X9_number h) (ob_rec ob_l28 rfl rfl) cv_X9_tellTo_61 rfl (Nat.le_of_ble_eq_true rfl) 141 rfl dX9_tellTo_138 rfl hf (fun r7 σ8 hf => ?_)
      refine vv_callV [.int 1, .int r7] [] (fun _ _ h => c_X3_putInBox hb h) (ob_rec (ob_kl0 hb) (ob_ks hb) rfl) cv_X9_tellTo_71 rfl (Nat.le_of_ble_eq_true rfl) 144 rfl dX9_tellTo_141 rfl hf (fun r9 σ10 hf => ?_)
      refine vv_if_eq dX9_tellTo_144 184 147 rfl rfl hf (fun hf => ?_) (fun hf => ?_)
      · refine vv_iconst dX9_tellTo_184 0 rfl 185 rfl ?_
        exact vv_iretz rfl dX9_tellTo_185 hf
      · refine vv_aload_n dX9_tellTo_147 1 rfl rfl 148 rfl ?_
        refine vv_iconst dX9_tellTo_148 2 rfl 149 rfl ?_
        refine vv_aload_n dX9_tellTo_149 0 rfl rfl 150 rfl ?_
        refine vv_iload_n dX9_tellTo_150 2 rfl rfl 151 rfl ?_
        refine vv_iconst dX9_tellTo_151 4 rfl 152 rfl ?_
        refine vv_iadd dX9_tellTo_152 153 rfl ?_
        refine vv_iconst dX9_tellTo_153 2 rfl 154 rfl ?_
        refine vv_callV [.int (p2 + 4), .int 2] [.int 2, .ref (ad b)] (fun _ _ h => c_X9_number h) (ob_rec ob_l28 rfl rfl) cv_X9_tellTo_61 rfl (Nat.le_of_ble_eq_true rfl) 157 rfl dX9_tellTo_154 rfl hf (fun r11 σ12 hf => ?_)
        refine vv_callV [.int 2, .int r11] [] (fun _ _ h => c_X3_putInBox hb h) (ob_rec (ob_kl0 hb) (ob_ks hb) rfl) cv_X9_tellTo_71 rfl (Nat.le_of_ble_eq_true rfl) 160 rfl dX9_tellTo_157 rfl hf (fun r13 σ14 hf => ?_)
        refine vv_if_eq dX9_tellTo_160 184 163 rfl rfl hf (fun hf => ?_) (fun hf => ?_)
        · refine vv_iconst dX9_tellTo_184 0 rfl 185 rfl ?_
          exact vv_iretz rfl dX9_tellTo_185 hf
        · refine vv_aload_n dX9_tellTo_163 1 rfl rfl 164 rfl ?_
          refine vv_iconst dX9_tellTo_164 3 rfl 165 rfl ?_
          refine vv_aload_n dX9_tellTo_165 0 rfl rfl 166 rfl ?_
          refine vv_iload_n dX9_tellTo_166 2 rfl rfl 167 rfl ?_
          refine vv_bipush dX9_tellTo_167 6 rfl 169 rfl ?_
          refine vv_iadd dX9_tellTo_169 170 rfl ?_
          refine vv_iconst dX9_tellTo_170 2 rfl 171 rfl ?_
          refine vv_callV [.int (p2 + 6), .int 2] [.int 3, .ref (ad b)] (fun _ _ h => c_X9_number h) (ob_rec ob_l28 rfl rfl) cv_X9_tellTo_61 rfl (Nat.le_of_ble_eq_true rfl) 174 rfl dX9_tellTo_171 rfl hf (fun r15 σ16 hf => ?_)
          refine vv_callV [.int 3, .int r15] [] (fun _ _ h => c_X3_putInBox hb h) (ob_rec (ob_kl0 hb) (ob_ks hb) rfl) cv_X9_tellTo_71 rfl (Nat.le_of_ble_eq_true rfl) 177 rfl dX9_tellTo_174 rfl hf (fun r17 σ18 hf => ?_)
          refine vv_if_eq dX9_tellTo_177 184 180 rfl rfl hf (fun hf => ?_) (fun hf => ?_)
          · refine vv_iconst dX9_tellTo_184 0 rfl 185 rfl ?_
            exact vv_iretz rfl dX9_tellTo_185 hf
          · refine vv_iconst dX9_tellTo_180 1 rfl 181 rfl ?_
            refine vv_goto dX9_tellTo_181 185 rfl ?_
            exact vv_iretz rfl dX9_tellTo_185 hf
  refine vv_case 99 hf (fun hf => ?_) (fun nh1 hf => ?_)
  · refine vv_look dX9_tellTo_5 186 (by decide) rfl rfl ?_
    refine vv_aload_n dX9_tellTo_186 1 rfl rfl 187 rfl ?_
    refine vv_aload_n dX9_tellTo_187 0 rfl rfl 188 rfl ?_
    refine vv_iload_n dX9_tellTo_188 2 rfl rfl 189 rfl ?_
    refine vv_iconst dX9_tellTo_189 1 rfl 190 rfl ?_
    refine vv_iadd dX9_tellTo_190 191 rfl ?_
    refine vv_iconst dX9_tellTo_191 1 rfl 192 rfl ?_
    refine vv_callV [.int (p2 + 1), .int 1] [.ref (ad b)] (fun _ _ h => c_X9_number h) (ob_rec ob_l28 rfl rfl) cv_X9_tellTo_61 rfl (Nat.le_of_ble_eq_true rfl) 195 rfl dX9_tellTo_192 rfl hf (fun r19 σ20 hf => ?_)
    refine vv_aload_n dX9_tellTo_195 0 rfl rfl 196 rfl ?_
    refine vv_iload_n dX9_tellTo_196 2 rfl rfl 197 rfl ?_
    refine vv_iconst dX9_tellTo_197 2 rfl 198 rfl ?_
    refine vv_iadd dX9_tellTo_198 199 rfl ?_
    refine vv_iconst dX9_tellTo_199 2 rfl 200 rfl ?_
    refine vv_callV [.int (p2 + 2), .int 2] [.int r19, .ref (ad b)] (fun _ _ h => c_X9_number h) (ob_rec ob_l28 rfl rfl) cv_X9_tellTo_61 rfl (Nat.le_of_ble_eq_true rfl) 203 rfl dX9_tellTo_200 rfl hf (fun r21 σ22 hf => ?_)
    refine vv_callV [.int r19, .int r21] [] (fun _ _ h => c_X3_putBegin hb h) (ob_rec (ob_kl0 hb) (ob_ks hb) rfl) cv_X9_tellTo_75 rfl (Nat.le_of_ble_eq_true rfl) 206 rfl dX9_tellTo_203 rfl hf (fun r23 σ24 hf => ?_)
    exact vv_iretz rfl dX9_tellTo_206 hf
  refine vv_case 100 hf (fun hf => ?_) (fun nh2 hf => ?_)
  · refine vv_look dX9_tellTo_5 64 (by decide) rfl rfl ?_
    refine vv_aload_n dX9_tellTo_64 1 rfl rfl 65 rfl ?_
    refine vv_ldcS dX9_tellTo_65 6 "dslkga" (fun _ h => h.2.1.2.2.1) 67 rfl ?_
    refine vv_aload_n dX9_tellTo_67 0 rfl rfl 68 rfl ?_
    refine vv_iload_n dX9_tellTo_68 2 rfl rfl 69 rfl ?_
    refine vv_iconst dX9_tellTo_69 1 rfl 70 rfl ?_
    refine vv_iadd dX9_tellTo_70 71 rfl ?_
    refine vv_callV [.int (p2 + 1)] [.ref (g.2.2.2.2.1 6), .ref (ad b)] (fun _ _ h => c_X9_letterAt h) (ob_rec ob_l28 rfl rfl) cv_X9_tellTo_58 rfl (Nat.le_of_ble_eq_true rfl) 74 rfl dX9_tellTo_71 rfl hf (fun r25 σ26 hf => ?_)
    refine vv_i2c dX9_tellTo_74 75 rfl ?_
    have hi_r27 := ob_tgI hf
    refine vv_callV [.int ((r25.toUInt32 % 65536).toInt32)] [.ref (ad b)] (fun _ _ h => c_J0_indexOf_0f7a4 hi_r27 (ob_tgE h)) (ob_recS hi_r27) cv_X9_tellTo_33 rfl (Nat.le_of_ble_eq_true rfl) 78 rfl dX9_tellTo_75 rfl hf (fun r27 σ28 hf => ?_)
    refine vv_aload_n dX9_tellTo_78 0 rfl rfl 79 rfl ?_
    refine vv_iload_n dX9_tellTo_79 2 rfl rfl 80 rfl ?_
    refine vv_iconst dX9_tellTo_80 2 rfl 81 rfl ?_
    refine vv_iadd dX9_tellTo_81 82 rfl ?_
    refine vv_iconst dX9_tellTo_82 1 rfl 83 rfl ?_
    refine vv_callV [.int (p2 + 2), .int 1] [.int r27, .ref (ad b)] (fun _ _ h => c_X9_number h) (ob_rec ob_l28 rfl rfl) cv_X9_tellTo_61 rfl (Nat.le_of_ble_eq_true rfl) 86 rfl dX9_tellTo_83 rfl hf (fun r29 σ30 hf => ?_)
    refine vv_aload_n dX9_tellTo_86 0 rfl rfl 87 rfl ?_
    refine vv_iload_n dX9_tellTo_87 2 rfl rfl 88 rfl ?_
    refine vv_iconst dX9_tellTo_88 3 rfl 89 rfl ?_
    refine vv_iadd dX9_tellTo_89 90 rfl ?_
    refine vv_iconst dX9_tellTo_90 2 rfl 91 rfl ?_
    refine vv_callV [.int (p2 + 3), .int 2] [.int r29, .int r27, .ref (ad b)] (fun _ _ h => c_X9_number h) (ob_rec ob_l28 rfl rfl) cv_X9_tellTo_61 rfl (Nat.le_of_ble_eq_true rfl) 94 rfl dX9_tellTo_91 rfl hf (fun r31 σ32 hf => ?_)
    refine vv_aload_n dX9_tellTo_94 0 rfl rfl 95 rfl ?_
    refine vv_iload_n dX9_tellTo_95 2 rfl rfl 96 rfl ?_
    refine vv_iconst dX9_tellTo_96 5 rfl 97 rfl ?_
    refine vv_iadd dX9_tellTo_97 98 rfl ?_
    refine vv_iconst dX9_tellTo_98 1 rfl 99 rfl ?_
    refine vv_callV [.int (p2 + 5), .int 1] [.int r31, .int r29, .int r27, .ref (ad b)] (fun _ _ h => c_X9_number h) (ob_rec ob_l28 rfl rfl) cv_X9_tellTo_61 rfl (Nat.le_of_ble_eq_true rfl) 102 rfl dX9_tellTo_99 rfl hf (fun r33 σ34 hf => ?_)
    refine vv_aload_n dX9_tellTo_102 0 rfl rfl 103 rfl ?_
    refine vv_iload_n dX9_tellTo_103 2 rfl rfl 104 rfl ?_
    refine vv_bipush dX9_tellTo_104 6 rfl 106 rfl ?_
    refine vv_iadd dX9_tellTo_106 107 rfl ?_
    refine vv_iconst dX9_tellTo_107 1 rfl 108 rfl ?_
    refine vv_callV [.int (p2 + 6), .int 1] [.int r33, .int r31, .int r29, .int r27, .ref (ad b)] (fun _ _ h => c_X9_number h) (ob_rec ob_l28 rfl rfl) cv_X9_tellTo_61 rfl (Nat.le_of_ble_eq_true rfl) 111 rfl dX9_tellTo_108 rfl hf (fun r35 σ36 hf => ?_)
    refine vv_callV [.int r27, .int r29, .int r31, .int r33, .int r35] [] (fun _ _ h => c_X3_addDish hb h) (ob_rec (ob_kl0 hb) (ob_ks hb) rfl) cv_X9_tellTo_65 rfl (Nat.le_of_ble_eq_true rfl) 114 rfl dX9_tellTo_111 rfl hf (fun r37 σ38 hf => ?_)
    exact vv_iretz rfl dX9_tellTo_114 hf
  refine vv_case 104 hf (fun hf => ?_) (fun nh3 hf => ?_)
  · refine vv_look dX9_tellTo_5 207 (by decide) rfl rfl ?_
    refine vv_aload_n dX9_tellTo_207 1 rfl rfl 208 rfl ?_
    refine vv_iconst dX9_tellTo_208 4 rfl 209 rfl ?_
    refine vv_aload_n dX9_tellTo_209 0 rfl rfl 210 rfl ?_
    refine vv_iload_n dX9_tellTo_210 2 rfl rfl 211 rfl ?_
    refine vv_iconst dX9_tellTo_211 1 rfl 212 rfl ?_
    refine vv_iadd dX9_tellTo_212 213 rfl ?_
    refine vv_iconst dX9_tellTo_213 1 rfl 214 rfl ?_
    refine vv_callV [.int (p2 + 1), .int 1] [.int 4, .ref (ad b)] (fun _ _ h => c_X9_number h) (ob_rec ob_l28 rfl rfl) cv_X9_tellTo_61 rfl (Nat.le_of_ble_eq_true rfl) 217 rfl dX9_tellTo_214 rfl hf (fun r39 σ40 hf => ?_)
    refine vv_callV [.int 4, .int r39] [] (fun _ _ h => c_X3_putInBox hb h) (ob_rec (ob_kl0 hb) (ob_ks hb) rfl) cv_X9_tellTo_71 rfl (Nat.le_of_ble_eq_true rfl) 220 rfl dX9_tellTo_217 rfl hf (fun r41 σ42 hf => ?_)
    exact vv_iretz rfl dX9_tellTo_220 hf
  refine vv_case 111 hf (fun hf => ?_) (fun nh4 hf => ?_)
  · refine vv_look dX9_tellTo_5 221 (by decide) rfl rfl ?_
    refine vv_aload_n dX9_tellTo_221 1 rfl rfl 222 rfl ?_
    refine vv_iconst dX9_tellTo_222 5 rfl 223 rfl ?_
    refine vv_aload_n dX9_tellTo_223 0 rfl rfl 224 rfl ?_
    refine vv_iload_n dX9_tellTo_224 2 rfl rfl 225 rfl ?_
    refine vv_iconst dX9_tellTo_225 1 rfl 226 rfl ?_
    refine vv_iadd dX9_tellTo_226 227 rfl ?_
    refine vv_iconst dX9_tellTo_227 3 rfl 228 rfl ?_
    refine vv_callV [.int (p2 + 1), .int 3] [.int 5, .ref (ad b)] (fun _ _ h => c_X9_number h) (ob_rec ob_l28 rfl rfl) cv_X9_tellTo_61 rfl (Nat.le_of_ble_eq_true rfl) 231 rfl dX9_tellTo_228 rfl hf (fun r43 σ44 hf => ?_)
    refine vv_callV [.int 5, .int r43] [] (fun _ _ h => c_X3_putInBox hb h) (ob_rec (ob_kl0 hb) (ob_ks hb) rfl) cv_X9_tellTo_71 rfl (Nat.le_of_ble_eq_true rfl) 234 rfl dX9_tellTo_231 rfl hf (fun r45 σ46 hf => ?_)
    exact vv_iretz rfl dX9_tellTo_234 hf
  refine vv_case 120 hf (fun hf => ?_) (fun nh5 hf => ?_)
  · refine vv_look dX9_tellTo_5 235 (by decide) rfl rfl ?_
    refine vv_aload_n dX9_tellTo_235 1 rfl rfl 236 rfl ?_
    refine vv_aload_n dX9_tellTo_236 0 rfl rfl 237 rfl ?_
    refine vv_iload_n dX9_tellTo_237 2 rfl rfl 238 rfl ?_
    refine vv_iconst dX9_tellTo_238 1 rfl 239 rfl ?_
    refine vv_iadd dX9_tellTo_239 240 rfl ?_
    refine vv_iconst dX9_tellTo_240 1 rfl 241 rfl ?_
    refine vv_callV [.int (p2 + 1), .int 1] [.ref (ad b)] (fun _ _ h => c_X9_number h) (ob_rec ob_l28 rfl rfl) cv_X9_tellTo_61 rfl (Nat.le_of_ble_eq_true rfl) 244 rfl dX9_tellTo_241 rfl hf (fun r47 σ48 hf => ?_)
    refine vv_aload_n dX9_tellTo_244 0 rfl rfl 245 rfl ?_
    refine vv_iload_n dX9_tellTo_245 2 rfl rfl 246 rfl ?_
    refine vv_iconst dX9_tellTo_246 2 rfl 247 rfl ?_
    refine vv_iadd dX9_tellTo_247 248 rfl ?_
    refine vv_iconst dX9_tellTo_248 1 rfl 249 rfl ?_
    refine vv_callV [.int (p2 + 2), .int 1] [.int r47, .ref (ad b)] (fun _ _ h => c_X9_number h) (ob_rec ob_l28 rfl rfl) cv_X9_tellTo_61 rfl (Nat.le_of_ble_eq_true rfl) 252 rfl dX9_tellTo_249 rfl hf (fun r49 σ50 hf => ?_)
    refine vv_callV [.int r47, .int r49] [] (fun _ _ h => c_X3_swap hb h) (ob_rec (ob_kl0 hb) (ob_ks hb) rfl) cv_X9_tellTo_78 rfl (Nat.le_of_ble_eq_true rfl) 255 rfl dX9_tellTo_252 rfl hf (fun r51 σ52 hf => ?_)
    exact vv_iretz rfl dX9_tellTo_255 hf
  refine vv_look dX9_tellTo_5 256 (by decide) (off := 251) (by show Op.lookupswitch.offset [(98, 110), (99, 181), (100, 59), (104, 202), (111, 216), (120, 230)] 251 _ = 251; rw [lv_osw (a := 98) nh0 rfl, lv_osw (a := 99) nh1 rfl, lv_osw (a := 100) nh2 rfl, lv_osw (a := 104) nh3 rfl, lv_osw (a := 111) nh4 rfl, lv_osw (a := 120) nh5 rfl]; rfl) rfl ?_
  refine vv_iconst dX9_tellTo_256 0 rfl 257 rfl ?_
  exact vv_iretz rfl dX9_tellTo_257 hf
