theorem dX3_init_0 : decode cX3_init 0 = .ok (.aload_n 0, 1) := by decide +kernel
theorem dX3_init_1 : decode cX3_init 1 = .ok (.invokespecial 3, 3) := by decide +kernel
theorem dX3_init_4 : decode cX3_init 4 = .ok (.aload_n 0, 1) := by decide +kernel
theorem dX3_init_5 : decode cX3_init 5 = .ok (.bipush 6, 2) := by decide +kernel
theorem dX3_init_7 : decode cX3_init 7 = .ok (.newarray .int, 2) := by decide +kernel
theorem dX3_init_9 : decode cX3_init 9 = .ok (.putfield 9, 3) := by decide +kernel
theorem dX3_init_12 : decode cX3_init 12 = .ok (.aload_n 0, 1) := by decide +kernel
theorem dX3_init_13 : decode cX3_init 13 = .ok (.bipush 6, 2) := by decide +kernel
theorem dX3_init_15 : decode cX3_init 15 = .ok (.newarray .int, 2) := by decide +kernel
theorem dX3_init_17 : decode cX3_init 17 = .ok (.putfield 15, 3) := by decide +kernel
theorem dX3_init_20 : decode cX3_init 20 = .ok (.aload_n 0, 1) := by decide +kernel
theorem dX3_init_21 : decode cX3_init 21 = .ok (.bipush 6, 2) := by decide +kernel
theorem dX3_init_23 : decode cX3_init 23 = .ok (.newarray .int, 2) := by decide +kernel
theorem dX3_init_25 : decode cX3_init 25 = .ok (.putfield 18, 3) := by decide +kernel
theorem dX3_init_28 : decode cX3_init 28 = .ok (.aload_n 0, 1) := by decide +kernel
theorem dX3_init_29 : decode cX3_init 29 = .ok (.bipush 6, 2) := by decide +kernel
theorem dX3_init_31 : decode cX3_init 31 = .ok (.newarray .int, 2) := by decide +kernel
theorem dX3_init_33 : decode cX3_init 33 = .ok (.putfield 21, 3) := by decide +kernel
theorem dX3_init_36 : decode cX3_init 36 = .ok (.aload_n 0, 1) := by decide +kernel
theorem dX3_init_37 : decode cX3_init 37 = .ok (.bipush 6, 2) := by decide +kernel
theorem dX3_init_39 : decode cX3_init 39 = .ok (.newarray .int, 2) := by decide +kernel
theorem dX3_init_41 : decode cX3_init 41 = .ok (.putfield 24, 3) := by decide +kernel
theorem dX3_init_44 : decode cX3_init 44 = .ok (.aload_n 0, 1) := by decide +kernel
theorem dX3_init_45 : decode cX3_init 45 = .ok (.bipush 6, 2) := by decide +kernel
theorem dX3_init_47 : decode cX3_init 47 = .ok (.newarray .int, 2) := by decide +kernel
theorem dX3_init_49 : decode cX3_init 49 = .ok (.putfield 27, 3) := by decide +kernel
theorem dX3_init_52 : decode cX3_init 52 = .ok (.aload_n 0, 1) := by decide +kernel
theorem dX3_init_53 : decode cX3_init 53 = .ok (.iconst 5, 1) := by decide +kernel
theorem dX3_init_54 : decode cX3_init 54 = .ok (.newarray .int, 2) := by decide +kernel
theorem dX3_init_56 : decode cX3_init 56 = .ok (.putfield 30, 3) := by decide +kernel
theorem dX3_init_59 : decode cX3_init 59 = .ok (.aload_n 0, 1) := by decide +kernel
theorem dX3_init_60 : decode cX3_init 60 = .ok (.bipush 6, 2) := by decide +kernel
theorem dX3_init_62 : decode cX3_init 62 = .ok (.newarray .int, 2) := by decide +kernel
theorem dX3_init_64 : decode cX3_init 64 = .ok (.dup, 1) := by decide +kernel
theorem dX3_init_65 : decode cX3_init 65 = .ok (.iconst 0, 1) := by decide +kernel
theorem dX3_init_66 : decode cX3_init 66 = .ok (.bipush 6, 2) := by decide +kernel
theorem dX3_init_68 : decode cX3_init 68 = .ok (.iastore, 1) := by decide +kernel
theorem dX3_init_69 : decode cX3_init 69 = .ok (.dup, 1) := by decide +kernel
theorem dX3_init_70 : decode cX3_init 70 = .ok (.iconst 1, 1) := by decide +kernel
theorem dX3_init_71 : decode cX3_init 71 = .ok (.iconst 3, 1) := by decide +kernel
theorem dX3_init_72 : decode cX3_init 72 = .ok (.iastore, 1) := by decide +kernel
theorem dX3_init_73 : decode cX3_init 73 = .ok (.dup, 1) := by decide +kernel
theorem dX3_init_74 : decode cX3_init 74 = .ok (.iconst 2, 1) := by decide +kernel
theorem dX3_init_75 : decode cX3_init 75 = .ok (.bipush 8, 2) := by decide +kernel
theorem dX3_init_77 : decode cX3_init 77 = .ok (.iastore, 1) := by decide +kernel
theorem dX3_init_78 : decode cX3_init 78 = .ok (.dup, 1) := by decide +kernel
theorem dX3_init_79 : decode cX3_init 79 = .ok (.iconst 3, 1) := by decide +kernel
theorem dX3_init_80 : decode cX3_init 80 = .ok (.bipush 11, 2) := by decide +kernel
theorem dX3_init_82 : decode cX3_init 82 = .ok (.iastore, 1) := by decide +kernel
theorem dX3_init_83 : decode cX3_init 83 = .ok (.dup, 1) := by decide +kernel
theorem dX3_init_84 : decode cX3_init 84 = .ok (.iconst 4, 1) := by decide +kernel
theorem dX3_init_85 : decode cX3_init 85 = .ok (.iconst 0, 1) := by decide +kernel
theorem dX3_init_86 : decode cX3_init 86 = .ok (.iastore, 1) := by decide +kernel
theorem dX3_init_87 : decode cX3_init 87 = .ok (.dup, 1) := by decide +kernel
theorem dX3_init_88 : decode cX3_init 88 = .ok (.iconst 5, 1) := by decide +kernel
theorem dX3_init_89 : decode cX3_init 89 = .ok (.iconst 0, 1) := by decide +kernel
theorem dX3_init_90 : decode cX3_init 90 = .ok (.iastore, 1) := by decide +kernel
theorem dX3_init_91 : decode cX3_init 91 = .ok (.putfield 33, 3) := by decide +kernel
theorem dX3_init_94 : decode cX3_init 94 = .ok (.return_, 1) := by decide +kernel
theorem dX3_takeOver_0 : decode cX3_takeOver 0 = .ok (.aload_n 0, 1) := by decide +kernel
theorem dX3_takeOver_1 : decode cX3_takeOver 1 = .ok (.aload_n 1, 1) := by decide +kernel
theorem dX3_takeOver_2 : decode cX3_takeOver 2 = .ok (.getfield 36, 3) := by decide +kernel
theorem dX3_takeOver_5 : decode cX3_takeOver 5 = .ok (.putfield 36, 3) := by decide +kernel
theorem dX3_takeOver_8 : decode cX3_takeOver 8 = .ok (.aload_n 1, 1) := by decide +kernel
theorem dX3_takeOver_9 : decode cX3_takeOver 9 = .ok (.getfield 9, 3) := by decide +kernel
theorem dX3_takeOver_12 : decode cX3_takeOver 12 = .ok (.iconst 0, 1) := by decide +kernel
theorem dX3_takeOver_13 : decode cX3_takeOver 13 = .ok (.aload_n 0, 1) := by decide +kernel
theorem dX3_takeOver_14 : decode cX3_takeOver 14 = .ok (.getfield 9, 3) := by decide +kernel
theorem dX3_takeOver_17 : decode cX3_takeOver 17 = .ok (.iconst 0, 1) := by decide +kernel
theorem dX3_takeOver_18 : decode cX3_takeOver 18 = .ok (.bipush 6, 2) := by decide +kernel
theorem dX3_takeOver_20 : decode cX3_takeOver 20 = .ok (.invokestatic 40, 3) := by decide +kernel
theorem dX3_takeOver_23 : decode cX3_takeOver 23 = .ok (.aload_n 1, 1) := by decide +kernel
theorem dX3_takeOver_24 : decode cX3_takeOver 24 = .ok (.getfield 15, 3) := by decide +kernel
theorem dX3_takeOver_27 : decode cX3_takeOver 27 = .ok (.iconst 0, 1) := by decide +kernel
theorem dX3_takeOver_28 : decode cX3_takeOver 28 = .ok (.aload_n 0, 1) := by decide +kernel
theorem dX3_takeOver_29 : decode cX3_takeOver 29 = .ok (.getfield 15, 3) := by decide +kernel
theorem dX3_takeOver_32 : decode cX3_takeOver 32 = .ok (.iconst 0, 1) := by decide +kernel
theorem dX3_takeOver_33 : decode cX3_takeOver 33 = .ok (.bipush 6, 2) := by decide +kernel
theorem dX3_takeOver_35 : decode cX3_takeOver 35 = .ok (.invokestatic 40, 3) := by decide +kernel
theorem dX3_takeOver_38 : decode cX3_takeOver 38 = .ok (.aload_n 1, 1) := by decide +kernel
theorem dX3_takeOver_39 : decode cX3_takeOver 39 = .ok (.getfield 18, 3) := by decide +kernel
theorem dX3_takeOver_42 : decode cX3_takeOver 42 = .ok (.iconst 0, 1) := by decide +kernel
theorem dX3_takeOver_43 : decode cX3_takeOver 43 = .ok (.aload_n 0, 1) := by decide +kernel
theorem dX3_takeOver_44 : decode cX3_takeOver 44 = .ok (.getfield 18, 3) := by decide +kernel
theorem dX3_takeOver_47 : decode cX3_takeOver 47 = .ok (.iconst 0, 1) := by decide +kernel
theorem dX3_takeOver_48 : decode cX3_takeOver 48 = .ok (.bipush 6, 2) := by decide +kernel
theorem dX3_takeOver_50 : decode cX3_takeOver 50 = .ok (.invokestatic 40, 3) := by decide +kernel
theorem dX3_takeOver_53 : decode cX3_takeOver 53 = .ok (.aload_n 1, 1) := by decide +kernel
theorem dX3_takeOver_54 : decode cX3_takeOver 54 = .ok (.getfield 21, 3) := by decide +kernel
theorem dX3_takeOver_57 : decode cX3_takeOver 57 = .ok (.iconst 0, 1) := by decide +kernel
theorem dX3_takeOver_58 : decode cX3_takeOver 58 = .ok (.aload_n 0, 1) := by decide +kernel
theorem dX3_takeOver_59 : decode cX3_takeOver 59 = .ok (.getfield 21, 3) := by decide +kernel
theorem dX3_takeOver_62 : decode cX3_takeOver 62 = .ok (.iconst 0, 1) := by decide +kernel
theorem dX3_takeOver_63 : decode cX3_takeOver 63 = .ok (.bipush 6, 2) := by decide +kernel
theorem dX3_takeOver_65 : decode cX3_takeOver 65 = .ok (.invokestatic 40, 3) := by decide +kernel
theorem dX3_takeOver_68 : decode cX3_takeOver 68 = .ok (.aload_n 1, 1) := by decide +kernel
theorem dX3_takeOver_69 : decode cX3_takeOver 69 = .ok (.getfield 24, 3) := by decide +kernel
theorem dX3_takeOver_72 : decode cX3_takeOver 72 = .ok (.iconst 0, 1) := by decide +kernel
theorem dX3_takeOver_73 : decode cX3_takeOver 73 = .ok (.aload_n 0, 1) := by decide +kernel
theorem dX3_takeOver_74 : decode cX3_takeOver 74 = .ok (.getfield 24, 3) := by decide +kernel
theorem dX3_takeOver_77 : decode cX3_takeOver 77 = .ok (.iconst 0, 1) := by decide +kernel
theorem dX3_takeOver_78 : decode cX3_takeOver 78 = .ok (.bipush 6, 2) := by decide +kernel
theorem dX3_takeOver_80 : decode cX3_takeOver 80 = .ok (.invokestatic 40, 3) := by decide +kernel
theorem dX3_takeOver_83 : decode cX3_takeOver 83 = .ok (.aload_n 1, 1) := by decide +kernel
theorem dX3_takeOver_84 : decode cX3_takeOver 84 = .ok (.getfield 27, 3) := by decide +kernel
theorem dX3_takeOver_87 : decode cX3_takeOver 87 = .ok (.iconst 0, 1) := by decide +kernel
theorem dX3_takeOver_88 : decode cX3_takeOver 88 = .ok (.aload_n 0, 1) := by decide +kernel
theorem dX3_takeOver_89 : decode cX3_takeOver 89 = .ok (.getfield 27, 3) := by decide +kernel
theorem dX3_takeOver_92 : decode cX3_takeOver 92 = .ok (.iconst 0, 1) := by decide +kernel
theorem dX3_takeOver_93 : decode cX3_takeOver 93 = .ok (.bipush 6, 2) := by decide +kernel
theorem dX3_takeOver_95 : decode cX3_takeOver 95 = .ok (.invokestatic 40, 3) := by decide +kernel
theorem dX3_takeOver_98 : decode cX3_takeOver 98 = .ok (.aload_n 1, 1) := by decide +kernel
theorem dX3_takeOver_99 : decode cX3_takeOver 99 = .ok (.getfield 30, 3) := by decide +kernel
theorem dX3_takeOver_102 : decode cX3_takeOver 102 = .ok (.iconst 0, 1) := by decide +kernel
theorem dX3_takeOver_103 : decode cX3_takeOver 103 = .ok (.aload_n 0, 1) := by decide +kernel
theorem dX3_takeOver_104 : decode cX3_takeOver 104 = .ok (.getfield 30, 3) := by decide +kernel
theorem dX3_takeOver_107 : decode cX3_takeOver 107 = .ok (.iconst 0, 1) := by decide +kernel
theorem dX3_takeOver_108 : decode cX3_takeOver 108 = .ok (.iconst 5, 1) := by decide +kernel
theorem dX3_takeOver_109 : decode cX3_takeOver 109 = .ok (.invokestatic 40, 3) := by decide +kernel
theorem dX3_takeOver_112 : decode cX3_takeOver 112 = .ok (.aload_n 1, 1) := by decide +kernel
theorem dX3_takeOver_113 : decode cX3_takeOver 113 = .ok (.getfield 33, 3) := by decide +kernel
theorem dX3_takeOver_116 : decode cX3_takeOver 116 = .ok (.iconst 0, 1) := by decide +kernel
theorem dX3_takeOver_117 : decode cX3_takeOver 117 = .ok (.aload_n 0, 1) := by decide +kernel
theorem dX3_takeOver_118 : decode cX3_takeOver 118 = .ok (.getfield 33, 3) := by decide +kernel
theorem dX3_takeOver_121 : decode cX3_takeOver 121 = .ok (.iconst 0, 1) := by decide +kernel
theorem dX3_takeOver_122 : decode cX3_takeOver 122 = .ok (.aload_n 0, 1) := by decide +kernel
theorem dX3_takeOver_123 : decode cX3_takeOver 123 = .ok (.getfield 33, 3) := by decide +kernel
theorem dX3_takeOver_126 : decode cX3_takeOver 126 = .ok (.arraylength, 1) := by decide +kernel
theorem dX3_takeOver_127 : decode cX3_takeOver 127 = .ok (.invokestatic 40, 3) := by decide +kernel
theorem dX3_takeOver_130 : decode cX3_takeOver 130 = .ok (.return_, 1) := by decide +kernel
theorem dX3_hasDish_0 : decode cX3_hasDish 0 = .ok (.iload_n 1, 1) := by decide +kernel
theorem dX3_hasDish_1 : decode cX3_hasDish 1 = .ok (.ifCond .lt 15, 3) := by decide +kernel
theorem dX3_hasDish_4 : decode cX3_hasDish 4 = .ok (.iload_n 1, 1) := by decide +kernel
theorem dX3_hasDish_5 : decode cX3_hasDish 5 = .ok (.aload_n 0, 1) := by decide +kernel
theorem dX3_hasDish_6 : decode cX3_hasDish 6 = .ok (.getfield 36, 3) := by decide +kernel
theorem dX3_hasDish_9 : decode cX3_hasDish 9 = .ok (.if_icmp .ge 7, 3) := by decide +kernel
theorem dX3_hasDish_12 : decode cX3_hasDish 12 = .ok (.iconst 1, 1) := by decide +kernel
theorem dX3_hasDish_13 : decode cX3_hasDish 13 = .ok (.goto 4, 3) := by decide +kernel
theorem dX3_hasDish_16 : decode cX3_hasDish 16 = .ok (.iconst 0, 1) := by decide +kernel
theorem dX3_hasDish_17 : decode cX3_hasDish 17 = .ok (.ireturn, 1) := by decide +kernel
theorem dX3_whereIs_0 : decode cX3_whereIs 0 = .ok (.iconst 0, 1) := by decide +kernel
theorem dX3_whereIs_1 : decode cX3_whereIs 1 = .ok (.istore_n 2, 1) := by decide +kernel
theorem dX3_whereIs_2 : decode cX3_whereIs 2 = .ok (.iload_n 2, 1) := by decide +kernel
theorem dX3_whereIs_3 : decode cX3_whereIs 3 = .ok (.aload_n 0, 1) := by decide +kernel
theorem dX3_whereIs_4 : decode cX3_whereIs 4 = .ok (.getfield 36, 3) := by decide +kernel
theorem dX3_whereIs_7 : decode cX3_whereIs 7 = .ok (.if_icmp .ge 21, 3) := by decide +kernel
theorem dX3_whereIs_10 : decode cX3_whereIs 10 = .ok (.aload_n 0, 1) := by decide +kernel
theorem dX3_whereIs_11 : decode cX3_whereIs 11 = .ok (.getfield 27, 3) := by decide +kernel
theorem dX3_whereIs_14 : decode cX3_whereIs 14 = .ok (.iload_n 2, 1) := by decide +kernel
theorem dX3_whereIs_15 : decode cX3_whereIs 15 = .ok (.iaload, 1) := by decide +kernel
theorem dX3_whereIs_16 : decode cX3_whereIs 16 = .ok (.iload_n 1, 1) := by decide +kernel
theorem dX3_whereIs_17 : decode cX3_whereIs 17 = .ok (.if_icmp .ne 5, 3) := by decide +kernel
theorem dX3_whereIs_20 : decode cX3_whereIs 20 = .ok (.iload_n 2, 1) := by decide +kernel
theorem dX3_whereIs_21 : decode cX3_whereIs 21 = .ok (.ireturn, 1) := by decide +kernel
theorem dX3_whereIs_22 : decode cX3_whereIs 22 = .ok (.iinc 2 1, 3) := by decide +kernel
theorem dX3_whereIs_25 : decode cX3_whereIs 25 = .ok (.goto (-23), 3) := by decide +kernel
theorem dX3_whereIs_28 : decode cX3_whereIs 28 = .ok (.iconst (-1), 1) := by decide +kernel
theorem dX3_whereIs_29 : decode cX3_whereIs 29 = .ok (.ireturn, 1) := by decide +kernel
theorem dX3_swap_0 : decode cX3_swap 0 = .ok (.iload_n 1, 1) := by decide +kernel
theorem dX3_swap_1 : decode cX3_swap 1 = .ok (.iload_n 2, 1) := by decide +kernel
theorem dX3_swap_2 : decode cX3_swap 2 = .ok (.if_icmp .eq 19, 3) := by decide +kernel
theorem dX3_swap_5 : decode cX3_swap 5 = .ok (.aload_n 0, 1) := by decide +kernel
theorem dX3_swap_6 : decode cX3_swap 6 = .ok (.iload_n 1, 1) := by decide +kernel
theorem dX3_swap_7 : decode cX3_swap 7 = .ok (.invokevirtual 46, 3) := by decide +kernel
theorem dX3_swap_10 : decode cX3_swap 10 = .ok (.ifCond .eq 11, 3) := by decide +kernel
theorem dX3_swap_13 : decode cX3_swap 13 = .ok (.aload_n 0, 1) := by decide +kernel
theorem dX3_swap_14 : decode cX3_swap 14 = .ok (.iload_n 2, 1) := by decide +kernel
theorem dX3_swap_15 : decode cX3_swap 15 = .ok (.invokevirtual 46, 3) := by decide +kernel
theorem dX3_swap_18 : decode cX3_swap 18 = .ok (.ifCond .ne 5, 3) := by decide +kernel
theorem dX3_swap_21 : decode cX3_swap 21 = .ok (.iconst 0, 1) := by decide +kernel
theorem dX3_swap_22 : decode cX3_swap 22 = .ok (.ireturn, 1) := by decide +kernel
theorem dX3_swap_23 : decode cX3_swap 23 = .ok (.iconst 0, 1) := by decide +kernel
theorem dX3_swap_24 : decode cX3_swap 24 = .ok (.istore_n 3, 1) := by decide +kernel
theorem dX3_swap_25 : decode cX3_swap 25 = .ok (.iload_n 3, 1) := by decide +kernel
theorem dX3_swap_26 : decode cX3_swap 26 = .ok (.aload_n 0, 1) := by decide +kernel
theorem dX3_swap_27 : decode cX3_swap 27 = .ok (.getfield 36, 3) := by decide +kernel
theorem dX3_swap_30 : decode cX3_swap 30 = .ok (.if_icmp .ge 46, 3) := by decide +kernel
theorem dX3_swap_33 : decode cX3_swap 33 = .ok (.aload_n 0, 1) := by decide +kernel
theorem dX3_swap_34 : decode cX3_swap 34 = .ok (.getfield 27, 3) := by decide +kernel
theorem dX3_swap_37 : decode cX3_swap 37 = .ok (.iload_n 3, 1) := by decide +kernel
theorem dX3_swap_38 : decode cX3_swap 38 = .ok (.iaload, 1) := by decide +kernel
theorem dX3_swap_39 : decode cX3_swap 39 = .ok (.iload_n 1, 1) := by decide +kernel
theorem dX3_swap_40 : decode cX3_swap 40 = .ok (.if_icmp .ne 13, 3) := by decide +kernel
theorem dX3_swap_43 : decode cX3_swap 43 = .ok (.aload_n 0, 1) := by decide +kernel
theorem dX3_swap_44 : decode cX3_swap 44 = .ok (.getfield 27, 3) := by decide +kernel
theorem dX3_swap_47 : decode cX3_swap 47 = .ok (.iload_n 3, 1) := by decide +kernel
theorem dX3_swap_48 : decode cX3_swap 48 = .ok (.iload_n 2, 1) := by decide +kernel
theorem dX3_swap_49 : decode cX3_swap 49 = .ok (.iastore, 1) := by decide +kernel
theorem dX3_swap_50 : decode cX3_swap 50 = .ok (.goto 20, 3) := by decide +kernel
theorem dX3_swap_53 : decode cX3_swap 53 = .ok (.aload_n 0, 1) := by decide +kernel
theorem dX3_swap_54 : decode cX3_swap 54 = .ok (.getfield 27, 3) := by decide +kernel
theorem dX3_swap_57 : decode cX3_swap 57 = .ok (.iload_n 3, 1) := by decide +kernel
theorem dX3_swap_58 : decode cX3_swap 58 = .ok (.iaload, 1) := by decide +kernel
theorem dX3_swap_59 : decode cX3_swap 59 = .ok (.iload_n 2, 1) := by decide +kernel
theorem dX3_swap_60 : decode cX3_swap 60 = .ok (.if_icmp .ne 10, 3) := by decide +kernel
theorem dX3_swap_63 : decode cX3_swap 63 = .ok (.aload_n 0, 1) := by decide +kernel
theorem dX3_swap_64 : decode cX3_swap 64 = .ok (.getfield 27, 3) := by decide +kernel
theorem dX3_swap_67 : decode cX3_swap 67 = .ok (.iload_n 3, 1) := by decide +kernel
theorem dX3_swap_68 : decode cX3_swap 68 = .ok (.iload_n 1, 1) := by decide +kernel
theorem dX3_swap_69 : decode cX3_swap 69 = .ok (.iastore, 1) := by decide +kernel
theorem dX3_swap_70 : decode cX3_swap 70 = .ok (.iinc 3 1, 3) := by decide +kernel
theorem dX3_swap_73 : decode cX3_swap 73 = .ok (.goto (-48), 3) := by decide +kernel
theorem dX3_swap_76 : decode cX3_swap 76 = .ok (.iconst 1, 1) := by decide +kernel
theorem dX3_swap_77 : decode cX3_swap 77 = .ok (.ireturn, 1) := by decide +kernel
theorem dX3_addDish_0 : decode cX3_addDish 0 = .ok (.aload_n 0, 1) := by decide +kernel
theorem dX3_addDish_1 : decode cX3_addDish 1 = .ok (.getfield 36, 3) := by decide +kernel
theorem dX3_addDish_4 : decode cX3_addDish 4 = .ok (.bipush 6, 2) := by decide +kernel
theorem dX3_addDish_6 : decode cX3_addDish 6 = .ok (.if_icmp .ge 7, 3) := by decide +kernel
theorem dX3_addDish_9 : decode cX3_addDish 9 = .ok (.iload_n 1, 1) := by decide +kernel
theorem dX3_addDish_10 : decode cX3_addDish 10 = .ok (.ifCond .ge 5, 3) := by decide +kernel
theorem dX3_addDish_13 : decode cX3_addDish 13 = .ok (.iconst 0, 1) := by decide +kernel
theorem dX3_addDish_14 : decode cX3_addDish 14 = .ok (.ireturn, 1) := by decide +kernel
theorem dX3_addDish_15 : decode cX3_addDish 15 = .ok (.iload_n 2, 1) := by decide +kernel
theorem dX3_addDish_16 : decode cX3_addDish 16 = .ok (.iconst 1, 1) := by decide +kernel
theorem dX3_addDish_17 : decode cX3_addDish 17 = .ok (.if_icmp .lt 24, 3) := by decide +kernel
theorem dX3_addDish_20 : decode cX3_addDish 20 = .ok (.iload 4, 2) := by decide +kernel
theorem dX3_addDish_22 : decode cX3_addDish 22 = .ok (.iconst 1, 1) := by decide +kernel
theorem dX3_addDish_23 : decode cX3_addDish 23 = .ok (.if_icmp .lt 18, 3) := by decide +kernel
theorem dX3_addDish_26 : decode cX3_addDish 26 = .ok (.iload 4, 2) := by decide +kernel
theorem dX3_addDish_28 : decode cX3_addDish 28 = .ok (.bipush 6, 2) := by decide +kernel
theorem dX3_addDish_30 : decode cX3_addDish 30 = .ok (.if_icmp .gt 11, 3) := by decide +kernel
theorem dX3_addDish_33 : decode cX3_addDish 33 = .ok (.iload 5, 2) := by decide +kernel
theorem dX3_addDish_35 : decode cX3_addDish 35 = .ok (.invokestatic 50, 3) := by decide +kernel
theorem dX3_addDish_38 : decode cX3_addDish 38 = .ok (.ifCond .ne 5, 3) := by decide +kernel
theorem dX3_addDish_41 : decode cX3_addDish 41 = .ok (.iconst 0, 1) := by decide +kernel
theorem dX3_addDish_42 : decode cX3_addDish 42 = .ok (.ireturn, 1) := by decide +kernel
theorem dX3_addDish_43 : decode cX3_addDish 43 = .ok (.aload_n 0, 1) := by decide +kernel
theorem dX3_addDish_44 : decode cX3_addDish 44 = .ok (.getfield 9, 3) := by decide +kernel
theorem dX3_addDish_47 : decode cX3_addDish 47 = .ok (.aload_n 0, 1) := by decide +kernel
theorem dX3_addDish_48 : decode cX3_addDish 48 = .ok (.getfield 36, 3) := by decide +kernel
theorem dX3_addDish_51 : decode cX3_addDish 51 = .ok (.iload_n 1, 1) := by decide +kernel
theorem dX3_addDish_52 : decode cX3_addDish 52 = .ok (.iastore, 1) := by decide +kernel
theorem dX3_addDish_53 : decode cX3_addDish 53 = .ok (.aload_n 0, 1) := by decide +kernel
theorem dX3_addDish_54 : decode cX3_addDish 54 = .ok (.getfield 15, 3) := by decide +kernel
theorem dX3_addDish_57 : decode cX3_addDish 57 = .ok (.aload_n 0, 1) := by decide +kernel
theorem dX3_addDish_58 : decode cX3_addDish 58 = .ok (.getfield 36, 3) := by decide +kernel
theorem dX3_addDish_61 : decode cX3_addDish 61 = .ok (.iload_n 2, 1) := by decide +kernel
theorem dX3_addDish_62 : decode cX3_addDish 62 = .ok (.iastore, 1) := by decide +kernel
theorem dX3_addDish_63 : decode cX3_addDish 63 = .ok (.aload_n 0, 1) := by decide +kernel
theorem dX3_addDish_64 : decode cX3_addDish 64 = .ok (.getfield 18, 3) := by decide +kernel
theorem dX3_addDish_67 : decode cX3_addDish 67 = .ok (.aload_n 0, 1) := by decide +kernel
theorem dX3_addDish_68 : decode cX3_addDish 68 = .ok (.getfield 36, 3) := by decide +kernel
theorem dX3_addDish_71 : decode cX3_addDish 71 = .ok (.iload_n 3, 1) := by decide +kernel
theorem dX3_addDish_72 : decode cX3_addDish 72 = .ok (.iastore, 1) := by decide +kernel
theorem dX3_addDish_73 : decode cX3_addDish 73 = .ok (.aload_n 0, 1) := by decide +kernel
theorem dX3_addDish_74 : decode cX3_addDish 74 = .ok (.getfield 21, 3) := by decide +kernel
theorem dX3_addDish_77 : decode cX3_addDish 77 = .ok (.aload_n 0, 1) := by decide +kernel
theorem dX3_addDish_78 : decode cX3_addDish 78 = .ok (.getfield 36, 3) := by decide +kernel
theorem dX3_addDish_81 : decode cX3_addDish 81 = .ok (.iload 4, 2) := by decide +kernel
theorem dX3_addDish_83 : decode cX3_addDish 83 = .ok (.iastore, 1) := by decide +kernel
theorem dX3_addDish_84 : decode cX3_addDish 84 = .ok (.aload_n 0, 1) := by decide +kernel
theorem dX3_addDish_85 : decode cX3_addDish 85 = .ok (.getfield 24, 3) := by decide +kernel
theorem dX3_addDish_88 : decode cX3_addDish 88 = .ok (.aload_n 0, 1) := by decide +kernel
theorem dX3_addDish_89 : decode cX3_addDish 89 = .ok (.getfield 36, 3) := by decide +kernel
theorem dX3_addDish_92 : decode cX3_addDish 92 = .ok (.iload 5, 2) := by decide +kernel
theorem dX3_addDish_94 : decode cX3_addDish 94 = .ok (.iastore, 1) := by decide +kernel
theorem dX3_addDish_95 : decode cX3_addDish 95 = .ok (.aload_n 0, 1) := by decide +kernel
theorem dX3_addDish_96 : decode cX3_addDish 96 = .ok (.getfield 27, 3) := by decide +kernel
theorem dX3_addDish_99 : decode cX3_addDish 99 = .ok (.aload_n 0, 1) := by decide +kernel
theorem dX3_addDish_100 : decode cX3_addDish 100 = .ok (.getfield 36, 3) := by decide +kernel
theorem dX3_addDish_103 : decode cX3_addDish 103 = .ok (.aload_n 0, 1) := by decide +kernel
theorem dX3_addDish_104 : decode cX3_addDish 104 = .ok (.getfield 36, 3) := by decide +kernel
theorem dX3_addDish_107 : decode cX3_addDish 107 = .ok (.iastore, 1) := by decide +kernel
theorem dX3_addDish_108 : decode cX3_addDish 108 = .ok (.aload_n 0, 1) := by decide +kernel
theorem dX3_addDish_109 : decode cX3_addDish 109 = .ok (.dup, 1) := by decide +kernel
theorem dX3_addDish_110 : decode cX3_addDish 110 = .ok (.getfield 36, 3) := by decide +kernel
theorem dX3_addDish_113 : decode cX3_addDish 113 = .ok (.iconst 1, 1) := by decide +kernel
theorem dX3_addDish_114 : decode cX3_addDish 114 = .ok (.iadd, 1) := by decide +kernel
theorem dX3_addDish_115 : decode cX3_addDish 115 = .ok (.putfield 36, 3) := by decide +kernel
theorem dX3_addDish_118 : decode cX3_addDish 118 = .ok (.iconst 1, 1) := by decide +kernel
theorem dX3_addDish_119 : decode cX3_addDish 119 = .ok (.ireturn, 1) := by decide +kernel
theorem dX3_putInBox_0 : decode cX3_putInBox 0 = .ok (.iload_n 2, 1) := by decide +kernel
theorem dX3_putInBox_1 : decode cX3_putInBox 1 = .ok (.getstatic 53, 3) := by decide +kernel
theorem dX3_putInBox_4 : decode cX3_putInBox 4 = .ok (.iload_n 1, 1) := by decide +kernel
theorem dX3_putInBox_5 : decode cX3_putInBox 5 = .ok (.iaload, 1) := by decide +kernel
theorem dX3_putInBox_6 : decode cX3_putInBox 6 = .ok (.if_icmp .lt 12, 3) := by decide +kernel
theorem dX3_putInBox_9 : decode cX3_putInBox 9 = .ok (.iload_n 2, 1) := by decide +kernel
theorem dX3_putInBox_10 : decode cX3_putInBox 10 = .ok (.getstatic 56, 3) := by decide +kernel
theorem dX3_putInBox_13 : decode cX3_putInBox 13 = .ok (.iload_n 1, 1) := by decide +kernel
theorem dX3_putInBox_14 : decode cX3_putInBox 14 = .ok (.iaload, 1) := by decide +kernel
theorem dX3_putInBox_15 : decode cX3_putInBox 15 = .ok (.if_icmp .le 5, 3) := by decide +kernel
theorem dX3_putInBox_18 : decode cX3_putInBox 18 = .ok (.iconst 0, 1) := by decide +kernel
theorem dX3_putInBox_19 : decode cX3_putInBox 19 = .ok (.ireturn, 1) := by decide +kernel
theorem dX3_putInBox_20 : decode cX3_putInBox 20 = .ok (.aload_n 0, 1) := by decide +kernel
theorem dX3_putInBox_21 : decode cX3_putInBox 21 = .ok (.getfield 33, 3) := by decide +kernel
theorem dX3_putInBox_24 : decode cX3_putInBox 24 = .ok (.iload_n 1, 1) := by decide +kernel
theorem dX3_putInBox_25 : decode cX3_putInBox 25 = .ok (.iload_n 2, 1) := by decide +kernel
theorem dX3_putInBox_26 : decode cX3_putInBox 26 = .ok (.iastore, 1) := by decide +kernel
theorem dX3_putInBox_27 : decode cX3_putInBox 27 = .ok (.iconst 1, 1) := by decide +kernel
theorem dX3_putInBox_28 : decode cX3_putInBox 28 = .ok (.ireturn, 1) := by decide +kernel
theorem dX3_putBegin_0 : decode cX3_putBegin 0 = .ok (.iload_n 1, 1) := by decide +kernel
theorem dX3_putBegin_1 : decode cX3_putBegin 1 = .ok (.invokestatic 50, 3) := by decide +kernel
theorem dX3_putBegin_4 : decode cX3_putBegin 4 = .ok (.ifCond .ne 5, 3) := by decide +kernel
theorem dX3_putBegin_7 : decode cX3_putBegin 7 = .ok (.iconst 0, 1) := by decide +kernel
theorem dX3_putBegin_8 : decode cX3_putBegin 8 = .ok (.ireturn, 1) := by decide +kernel
theorem dX3_putBegin_9 : decode cX3_putBegin 9 = .ok (.aload_n 0, 1) := by decide +kernel
theorem dX3_putBegin_10 : decode cX3_putBegin 10 = .ok (.getfield 30, 3) := by decide +kernel
theorem dX3_putBegin_13 : decode cX3_putBegin 13 = .ok (.iload_n 1, 1) := by decide +kernel
theorem dX3_putBegin_14 : decode cX3_putBegin 14 = .ok (.iload_n 2, 1) := by decide +kernel
theorem dX3_putBegin_15 : decode cX3_putBegin 15 = .ok (.iastore, 1) := by decide +kernel
theorem dX3_putBegin_16 : decode cX3_putBegin 16 = .ok (.iconst 1, 1) := by decide +kernel
theorem dX3_putBegin_17 : decode cX3_putBegin 17 = .ok (.ireturn, 1) := by decide +kernel
theorem dX3_beginOf_0 : decode cX3_beginOf 0 = .ok (.bipush 100, 2) := by decide +kernel
theorem dX3_beginOf_2 : decode cX3_beginOf 2 = .ok (.iload_n 1, 1) := by decide +kernel
theorem dX3_beginOf_3 : decode cX3_beginOf 3 = .ok (.imul, 1) := by decide +kernel
theorem dX3_beginOf_4 : decode cX3_beginOf 4 = .ok (.aload_n 0, 1) := by decide +kernel
theorem dX3_beginOf_5 : decode cX3_beginOf 5 = .ok (.getfield 30, 3) := by decide +kernel
theorem dX3_beginOf_8 : decode cX3_beginOf 8 = .ok (.iload_n 1, 1) := by decide +kernel
theorem dX3_beginOf_9 : decode cX3_beginOf 9 = .ok (.iaload, 1) := by decide +kernel
theorem dX3_beginOf_10 : decode cX3_beginOf 10 = .ok (.iadd, 1) := by decide +kernel
theorem dX3_beginOf_11 : decode cX3_beginOf 11 = .ok (.ireturn, 1) := by decide +kernel
theorem dX3_secondsWith_0 : decode cX3_secondsWith 0 = .ok (.iload_n 1, 1) := by decide +kernel
theorem dX3_secondsWith_1 : decode cX3_secondsWith 1 = .ok (.aload_n 0, 1) := by decide +kernel
theorem dX3_secondsWith_2 : decode cX3_secondsWith 2 = .ok (.getfield 33, 3) := by decide +kernel
theorem dX3_secondsWith_5 : decode cX3_secondsWith 5 = .ok (.iconst 2, 1) := by decide +kernel
theorem dX3_secondsWith_6 : decode cX3_secondsWith 6 = .ok (.iaload, 1) := by decide +kernel
theorem dX3_secondsWith_7 : decode cX3_secondsWith 7 = .ok (.isub, 1) := by decide +kernel
theorem dX3_secondsWith_8 : decode cX3_secondsWith 8 = .ok (.invokestatic 59, 3) := by decide +kernel
theorem dX3_secondsWith_11 : decode cX3_secondsWith 11 = .ok (.istore_n 2, 1) := by decide +kernel
theorem dX3_secondsWith_12 : decode cX3_secondsWith 12 = .ok (.aload_n 0, 1) := by decide +kernel
theorem dX3_secondsWith_13 : decode cX3_secondsWith 13 = .ok (.getfield 33, 3) := by decide +kernel
theorem dX3_secondsWith_16 : decode cX3_secondsWith 16 = .ok (.iconst 3, 1) := by decide +kernel
theorem dX3_secondsWith_17 : decode cX3_secondsWith 17 = .ok (.iaload, 1) := by decide +kernel
theorem dX3_secondsWith_18 : decode cX3_secondsWith 18 = .ok (.iconst 1, 1) := by decide +kernel
theorem dX3_secondsWith_19 : decode cX3_secondsWith 19 = .ok (.iconst 1, 1) := by decide +kernel
theorem dX3_secondsWith_20 : decode cX3_secondsWith 20 = .ok (.iload_n 2, 1) := by decide +kernel
theorem dX3_secondsWith_21 : decode cX3_secondsWith 21 = .ok (.iconst 4, 1) := by decide +kernel
theorem dX3_secondsWith_22 : decode cX3_secondsWith 22 = .ok (.idiv, 1) := by decide +kernel
theorem dX3_secondsWith_23 : decode cX3_secondsWith 23 = .ok (.iadd, 1) := by decide +kernel
theorem dX3_secondsWith_24 : decode cX3_secondsWith 24 = .ok (.aload_n 0, 1) := by decide +kernel
theorem dX3_secondsWith_25 : decode cX3_secondsWith 25 = .ok (.getfield 33, 3) := by decide +kernel
theorem dX3_secondsWith_28 : decode cX3_secondsWith 28 = .ok (.iconst 4, 1) := by decide +kernel
theorem dX3_secondsWith_29 : decode cX3_secondsWith 29 = .ok (.iaload, 1) := by decide +kernel
theorem dX3_secondsWith_30 : decode cX3_secondsWith 30 = .ok (.isub, 1) := by decide +kernel
theorem dX3_secondsWith_31 : decode cX3_secondsWith 31 = .ok (.invokestatic 65, 3) := by decide +kernel
theorem dX3_secondsWith_34 : decode cX3_secondsWith 34 = .ok (.imul, 1) := by decide +kernel
theorem dX3_secondsWith_35 : decode cX3_secondsWith 35 = .ok (.ireturn, 1) := by decide +kernel
theorem dX3_sumOf_0 : decode cX3_sumOf 0 = .ok (.iconst 0, 1) := by decide +kernel
theorem dX3_sumOf_1 : decode cX3_sumOf 1 = .ok (.istore_n 2, 1) := by decide +kernel
theorem dX3_sumOf_2 : decode cX3_sumOf 2 = .ok (.iconst 0, 1) := by decide +kernel
theorem dX3_sumOf_3 : decode cX3_sumOf 3 = .ok (.istore_n 3, 1) := by decide +kernel
theorem dX3_sumOf_4 : decode cX3_sumOf 4 = .ok (.iload_n 3, 1) := by decide +kernel
theorem dX3_sumOf_5 : decode cX3_sumOf 5 = .ok (.aload_n 0, 1) := by decide +kernel
theorem dX3_sumOf_6 : decode cX3_sumOf 6 = .ok (.getfield 36, 3) := by decide +kernel
theorem dX3_sumOf_9 : decode cX3_sumOf 9 = .ok (.if_icmp .ge 15, 3) := by decide +kernel
theorem dX3_sumOf_12 : decode cX3_sumOf 12 = .ok (.iload_n 2, 1) := by decide +kernel
theorem dX3_sumOf_13 : decode cX3_sumOf 13 = .ok (.aload_n 1, 1) := by decide +kernel
theorem dX3_sumOf_14 : decode cX3_sumOf 14 = .ok (.iload_n 3, 1) := by decide +kernel
theorem dX3_sumOf_15 : decode cX3_sumOf 15 = .ok (.iaload, 1) := by decide +kernel
theorem dX3_sumOf_16 : decode cX3_sumOf 16 = .ok (.iadd, 1) := by decide +kernel
theorem dX3_sumOf_17 : decode cX3_sumOf 17 = .ok (.istore_n 2, 1) := by decide +kernel
theorem dX3_sumOf_18 : decode cX3_sumOf 18 = .ok (.iinc 3 1, 3) := by decide +kernel
theorem dX3_sumOf_21 : decode cX3_sumOf 21 = .ok (.goto (-17), 3) := by decide +kernel
theorem dX3_sumOf_24 : decode cX3_sumOf 24 = .ok (.iload_n 2, 1) := by decide +kernel
theorem dX3_sumOf_25 : decode cX3_sumOf 25 = .ok (.ireturn, 1) := by decide +kernel
theorem dX10_isCourse_0 : decode cX10_isCourse 0 = .ok (.iload_n 0, 1) := by decide +kernel
theorem dX10_isCourse_1 : decode cX10_isCourse 1 = .ok (.ifCond .lt 12, 3) := by decide +kernel
theorem dX10_isCourse_4 : decode cX10_isCourse 4 = .ok (.iload_n 0, 1) := by decide +kernel
theorem dX10_isCourse_5 : decode cX10_isCourse 5 = .ok (.iconst 5, 1) := by decide +kernel
theorem dX10_isCourse_6 : decode cX10_isCourse 6 = .ok (.if_icmp .ge 7, 3) := by decide +kernel
theorem dX10_isCourse_9 : decode cX10_isCourse 9 = .ok (.iconst 1, 1) := by decide +kernel
theorem dX10_isCourse_10 : decode cX10_isCourse 10 = .ok (.goto 4, 3) := by decide +kernel
theorem dX10_isCourse_13 : decode cX10_isCourse 13 = .ok (.iconst 0, 1) := by decide +kernel
theorem dX10_isCourse_14 : decode cX10_isCourse 14 = .ok (.ireturn, 1) := by decide +kernel
abbrev mi_X10_isCourse : ob_MI := (yX10_isCourse, ob_ws yX10_isCourse cX10_isCourse 1 (some .boolean), cX10_isCourse, 1, (some .boolean), { frames := 0, cells := 0, slots := 0, locals := 0 })
noncomputable def f_X10_isCourse (σ : ob_St) (p0 : Int32) : Option (Int32 × ob_St) :=
  if p0 < 0 then
    ob_rb 0 σ
  else
    if (5 : Int32) ≤ p0 then
      ob_rb 0 σ
    else
      ob_rb 1 σ
set_option maxRecDepth 100000 in
set_option maxHeartbeats 4000000 in
theorem c_X10_isCourse {g : ob_GT} {ad : Nat → Nat} {r : Int32} {σ' : ob_St} {σ : ob_St} {p0 : Int32} (hf : f_X10_isCourse σ p0 = some (r, σ')) : ob_CT g (ob_X ad) mi_X10_isCourse [.int p0] σ (some (.int r)) σ' := by
  refine ob_ct (by decide +kernel) rfl (Nat.le_of_ble_eq_true rfl) ?_
  show ob_V g (ob_X ad) mi_X10_isCourse (some (.int r)) σ' σ 0 [(0, .int p0)] []
  refine vv_iload_n dX10_isCourse_0 0 rfl rfl 1 rfl ?_
  refine vv_if_lt dX10_isCourse_1 13 4 rfl rfl hf (fun hf => ?_) (fun hf => ?_)
  · refine vv_iconst dX10_isCourse_13 0 rfl 14 rfl ?_
    exact vv_iretz rfl dX10_isCourse_14 hf
  · refine vv_iload_n dX10_isCourse_4 0 rfl rfl 5 rfl ?_
    refine vv_iconst dX10_isCourse_5 5 rfl 6 rfl ?_
    refine vv_icmp_ge dX10_isCourse_6 13 9 rfl rfl hf (fun hf => ?_) (fun hf => ?_)
    · refine vv_iconst dX10_isCourse_13 0 rfl 14 rfl ?_
      exact vv_iretz rfl dX10_isCourse_14 hf
    · refine vv_iconst dX10_isCourse_9 1 rfl 10 rfl ?_
      refine vv_goto dX10_isCourse_10 14 rfl ?_
      exact vv_iretz rfl dX10_isCourse_14 hf
abbrev mi_X3_hasDish : ob_MI := (yX3_hasDish, ob_ws yX3_hasDish cX3_hasDish 2 (some .boolean), cX3_hasDish, 2, (some .boolean), { frames := 0, cells := 0, slots := 0, locals := 0 })
theorem gf_X3_hasDish_36 : ob_GF mi_X3_hasDish 36 3 0 := ⟨RX3, TX3, 9, rfl, by decide, fun x h => List.mem_cons_of_mem _ (uw_X3 x h), List.mem_cons_of_mem _ tw_81⟩
noncomputable def f_X3_hasDish (b : Nat) (σ : ob_St) (p1 : Int32) : Option (Int32 × ob_St) :=
  if p1 < 0 then
    ob_rb 0 σ
  else
    if (σ b 0) ≤ p1 then
      ob_rb 0 σ
    else
      ob_rb 1 σ
set_option maxRecDepth 100000 in
set_option maxHeartbeats 4000000 in
theorem c_X3_hasDish {g : ob_GT} {ad : Nat → Nat} {b : Nat} (hb : ob_isK b) {r : Int32} {σ' : ob_St} {σ : ob_St} {p1 : Int32} (hf : f_X3_hasDish b σ p1 = some (r, σ')) : ob_CT g (ob_X ad) mi_X3_hasDish [.ref (ad b), .int p1] σ (some (.int r)) σ' := by
  refine ob_ct (by decide +kernel) rfl (Nat.le_of_ble_eq_true rfl) ?_
  show ob_V g (ob_X ad) mi_X3_hasDish (some (.int r)) σ' σ 0 [(0, .ref (ad b)), (1, .int p1)] []
  refine vv_iload_n dX3_hasDish_0 1 rfl rfl 1 rfl ?_
  refine vv_if_lt dX3_hasDish_1 16 4 rfl rfl hf (fun hf => ?_) (fun hf => ?_)
  · refine vv_iconst dX3_hasDish_16 0 rfl 17 rfl ?_
    exact vv_iretz rfl dX3_hasDish_17 hf
  · refine vv_iload_n dX3_hasDish_4 1 rfl rfl 5 rfl ?_
    refine vv_aload_n dX3_hasDish_5 0 rfl rfl 6 rfl ?_
    refine vv_getI dX3_hasDish_6 0 gf_X3_hasDish_36 (ob_kl0 hb) (ob_ks hb) rfl 9 rfl ?_
    refine vv_icmp_ge dX3_hasDish_9 16 12 rfl rfl hf (fun hf => ?_) (fun hf => ?_)
    · refine vv_iconst dX3_hasDish_16 0 rfl 17 rfl ?_
      exact vv_iretz rfl dX3_hasDish_17 hf
    · refine vv_iconst dX3_hasDish_12 1 rfl 13 rfl ?_
      refine vv_goto dX3_hasDish_13 17 rfl ?_
      exact vv_iretz rfl dX3_hasDish_17 hf
abbrev mi_X3_whereIs : ob_MI := (yX3_whereIs, ob_ws yX3_whereIs cX3_whereIs 3 (some .int), cX3_whereIs, 3, (some .int), { frames := 0, cells := 0, slots := 0, locals := 0 })
theorem gf_X3_whereIs_36 : ob_GF mi_X3_whereIs 36 3 0 := ⟨RX3, TX3, 9, rfl, by decide, fun x h => List.mem_cons_of_mem _ (uw_X3 x h), List.mem_cons_of_mem _ tw_81⟩
theorem gf_X3_whereIs_27 : ob_GF mi_X3_whereIs 27 3 6 := ⟨RX3, TX3, 9, rfl, by decide, fun x h => List.mem_cons_of_mem _ (uw_X3 x h), List.mem_cons_of_mem _ tw_99⟩
noncomputable def L_X3_whereIs_2 (b : Nat) : Nat → ob_St → Int32 → Int32 → Option (Int32 × ob_St)
  | 0, _, _, _ => none
  | n + 1, σ, v1, v2 =>
    if (σ b 0) ≤ v2 then
      some ((-1), σ)
    else
      ob_ld σ (b + 6) 6 v2 fun v_1 =>
      if v_1 = v1 then
        some (v2, σ)
      else
        L_X3_whereIs_2 b n σ v1 (v2 + 1)
noncomputable def f_X3_whereIs (b : Nat) (σ : ob_St) (p1 : Int32) : Option (Int32 × ob_St) :=
  L_X3_whereIs_2 b 1000 σ p1 0
set_option maxRecDepth 100000 in
set_option maxHeartbeats 4000000 in
theorem l_X3_whereIs_2 {g : ob_GT} {ad : Nat → Nat} {b : Nat} (hb : ob_isK b) {r : Int32} {σ' : ob_St} : ∀ (n : Nat) {σ : ob_St} {v1 : Int32} {v2 : Int32}, L_X3_whereIs_2 b n σ v1 v2 = some (r, σ') → ob_V g (ob_X ad) mi_X3_whereIs (some (.int r)) σ' σ 2 [(0, .ref (ad b)), (1, .int v1), (2, .int v2)] [] := by
  intro n
  induction n with
  | zero => intro σ v1 v2 hf; exact absurd hf (fun h => by cases h)
  | succ n ih =>
    intro σ v1 v2 hf
    refine vv_iload_n dX3_whereIs_2 2 rfl rfl 3 rfl ?_
    refine vv_aload_n dX3_whereIs_3 0 rfl rfl 4 rfl ?_
    refine vv_getI dX3_whereIs_4 0 gf_X3_whereIs_36 (ob_kl0 hb) (ob_ks hb) rfl 7 rfl ?_
    refine vv_icmp_ge dX3_whereIs_7 28 10 rfl rfl hf (fun hf => ?_) (fun hf => ?_)
    · refine vv_iconst dX3_whereIs_28 (-1) rfl 29 rfl ?_
      exact vv_ireti rfl dX3_whereIs_29 hf
    · refine vv_aload_n dX3_whereIs_10 0 rfl rfl 11 rfl ?_
      refine vv_getR dX3_whereIs_11 6 gf_X3_whereIs_27 (ob_kl0 hb) (ob_ks hb) rfl 14 rfl ?_
      refine vv_iload_n dX3_whereIs_14 2 rfl rfl 15 rfl ?_
      refine vv_iald dX3_whereIs_15 (ob_kl 6 hb (by decide)) (ob_ka6 hb) 16 rfl hf (fun v_1 hf => ?_)
      refine vv_iload_n dX3_whereIs_16 1 rfl rfl 17 rfl ?_
      refine vv_icmp_ne dX3_whereIs_17 22 20 rfl rfl hf (fun hf => ?_) (fun hf => ?_)
      · refine vv_iinc dX3_whereIs_22 (v2 + 1) 2 [(2, .int (v2 + 1)), (0, .ref (ad b)), (1, .int v1)] rfl rfl (Nat.le_of_ble_eq_true rfl) rfl 25 rfl ?_
        refine vv_goto dX3_whereIs_25 2 rfl ?_
        refine vv_sub [1, 2, 0] [(0, .ref (ad b)), (1, .int v1), (2, .int (v2 + 1))] rfl ?_
        exact ih hf
      · refine vv_iload_n dX3_whereIs_20 2 rfl rfl 21 rfl ?_
        exact vv_ireti rfl dX3_whereIs_21 hf
set_option maxRecDepth 100000 in
set_option maxHeartbeats 4000000 in
theorem c_X3_whereIs {g : ob_GT} {ad : Nat → Nat} {b : Nat} (hb : ob_isK b) {r : Int32} {σ' : ob_St} {σ : ob_St} {p1 : Int32} (hf : f_X3_whereIs b σ p1 = some (r, σ')) : ob_CT g (ob_X ad) mi_X3_whereIs [.ref (ad b), .int p1] σ (some (.int r)) σ' := by
  refine ob_ct (by decide +kernel) rfl (Nat.le_of_ble_eq_true rfl) ?_
  show ob_V g (ob_X ad) mi_X3_whereIs (some (.int r)) σ' σ 0 [(0, .ref (ad b)), (1, .int p1)] []
  refine vv_iconst dX3_whereIs_0 0 rfl 1 rfl ?_
  refine vv_istore_n dX3_whereIs_1 [(2, .int 0), (0, .ref (ad b)), (1, .int p1)] rfl (Nat.le_of_ble_eq_true rfl) rfl 2 rfl ?_
  refine vv_sub [1, 2, 0] [(0, .ref (ad b)), (1, .int p1), (2, .int 0)] rfl ?_
  exact l_X3_whereIs_2 hb 1000 hf
abbrev mi_X3_swap : ob_MI := (yX3_swap, ob_ws yX3_swap cX3_swap 4 (some .boolean), cX3_swap, 4, (some .boolean), { frames := 1, cells := 0, slots := 0, locals := 21 })
theorem cv_X3_swap_46 : ob_CV mi_X3_swap mi_X3_hasDish 46 RX3 1 := ob_cvI rfl rfl tw_469 tw_470 tw_471 tw_49 tw_472 ⟨rfl, rfl⟩ ⟨rfl, by decide +kernel, by decide +kernel, by decide +kernel⟩ ⟨Nat.le_of_ble_eq_true rfl, Nat.le_of_ble_eq_true rfl⟩
theorem gf_X3_swap_36 : ob_GF mi_X3_swap 36 3 0 := ⟨RX3, TX3, 9, rfl, by decide, fun x h => List.mem_cons_of_mem _ (uw_X3 x h), List.mem_cons_of_mem _ tw_81⟩
theorem gf_X3_swap_27 : ob_GF mi_X3_swap 27 3 6 := ⟨RX3, TX3, 9, rfl, by decide, fun x h => List.mem_cons_of_mem _ (uw_X3 x h), List.mem_cons_of_mem _ tw_99⟩
noncomputable def L_X3_swap_25 (b : Nat) : Nat → ob_St → Int32 → Int32 → Int32 → Option (Int32 × ob_St)
  | 0, _, _, _, _ => none
  | n + 1, σ, v1, v2, v3 =>
    if (σ b 0) ≤ v3 then
      ob_rb 1 σ
    else
      ob_ld σ (b + 6) 6 v3 fun v_5 =>
      if v_5 = v1 then
        ob_sd σ (b + 6) 6 v3 v2 fun σ8 =>
        L_X3_swap_25 b n σ8 v1 v2 (v3 + 1)
      else
        ob_ld σ (b + 6) 6 v3 fun v_6 =>
        if v_6 = v2 then
          ob_sd σ (b + 6) 6 v3 v1 fun σ7 =>
          L_X3_swap_25 b n σ7 v1 v2 (v3 + 1)
        else
          L_X3_swap_25 b n σ v1 v2 (v3 + 1)
noncomputable def f_X3_swap (b : Nat) (σ : ob_St) (p1 : Int32) (p2 : Int32) : Option (Int32 × ob_St) :=
  if p1 = p2 then
    ob_rb 0 σ
  else
    ob_bd (f_X3_hasDish b σ p1) fun r1 σ2 =>
    if r1 = 0 then
      ob_rb 0 σ2
    else
      ob_bd (f_X3_hasDish b σ2 p2) fun r3 σ4 =>
      if r3 = 0 then
        ob_rb 0 σ4
      else
        L_X3_swap_25 b 1000 σ4 p1 p2 0
set_option maxRecDepth 100000 in
set_option maxHeartbeats 4000000 in
theorem l_X3_swap_25 {g : ob_GT} {ad : Nat → Nat} {b : Nat} (hb : ob_isK b) {r : Int32} {σ' : ob_St} : ∀ (n : Nat) {σ : ob_St} {v1 : Int32} {v2 : Int32} {v3 : Int32}, L_X3_swap_25 b n σ v1 v2 v3 = some (r, σ') → ob_V g (ob_X ad) mi_X3_swap (some (.int r)) σ' σ 25 [(0, .ref (ad b)), (1, .int v1), (2, .int v2), (3, .int v3)] [] := by
  intro n
  induction n with
  | zero => intro σ v1 v2 v3 hf; exact absurd hf (fun h => by cases h)
  | succ n ih =>
    intro σ v1 v2 v3 hf
    refine vv_iload_n dX3_swap_25 3 rfl rfl 26 rfl ?_
    refine vv_aload_n dX3_swap_26 0 rfl rfl 27 rfl ?_
    refine vv_getI dX3_swap_27 0 gf_X3_swap_36 (ob_kl0 hb) (ob_ks hb) rfl 30 rfl ?_
    refine vv_icmp_ge dX3_swap_30 76 33 rfl rfl hf (fun hf => ?_) (fun hf => ?_)
    · refine vv_iconst dX3_swap_76 1 rfl 77 rfl ?_
      exact vv_iretz rfl dX3_swap_77 hf
    · refine vv_aload_n dX3_swap_33 0 rfl rfl 34 rfl ?_
      refine vv_getR dX3_swap_34 6 gf_X3_swap_27 (ob_kl0 hb) (ob_ks hb) rfl 37 rfl ?_
      refine vv_iload_n dX3_swap_37 3 rfl rfl 38 rfl ?_
      refine vv_iald dX3_swap_38 (ob_kl 6 hb (by decide)) (ob_ka6 hb) 39 rfl hf (fun v_5 hf => ?_)
      refine vv_iload_n dX3_swap_39 1 rfl rfl 40 rfl ?_
      refine vv_icmp_ne dX3_swap_40 53 43 rfl rfl hf (fun hf => ?_) (fun hf => ?_)
      · refine vv_aload_n dX3_swap_53 0 rfl rfl 54 rfl ?_
        refine vv_getR dX3_swap_54 6 gf_X3_swap_27 (ob_kl0 hb) (ob_ks hb) rfl 57 rfl ?_
        refine vv_iload_n dX3_swap_57 3 rfl rfl 58 rfl ?_
        refine vv_iald dX3_swap_58 (ob_kl 6 hb (by decide)) (ob_ka6 hb) 59 rfl hf (fun v_6 hf => ?_)
        refine vv_iload_n dX3_swap_59 2 rfl rfl 60 rfl ?_
        refine vv_icmp_ne dX3_swap_60 70 63 rfl rfl hf (fun hf => ?_) (fun hf => ?_)
        · refine vv_iinc dX3_swap_70 (v3 + 1) 3 [(3, .int (v3 + 1)), (0, .ref (ad b)), (1, .int v1), (2, .int v2)] rfl rfl (Nat.le_of_ble_eq_true rfl) rfl 73 rfl ?_
          refine vv_goto dX3_swap_73 25 rfl ?_
          refine vv_sub [1, 2, 3, 0] [(0, .ref (ad b)), (1, .int v1), (2, .int v2), (3, .int (v3 + 1))] rfl ?_
          exact ih hf
        · refine vv_aload_n dX3_swap_63 0 rfl rfl 64 rfl ?_
          refine vv_getR dX3_swap_64 6 gf_X3_swap_27 (ob_kl0 hb) (ob_ks hb) rfl 67 rfl ?_
          refine vv_iload_n dX3_swap_67 3 rfl rfl 68 rfl ?_
          refine vv_iload_n dX3_swap_68 1 rfl rfl 69 rfl ?_
          refine vv_iast dX3_swap_69 (ob_kl 6 hb (by decide)) (ob_ka6 hb) 70 rfl hf (fun σ7 hf => ?_)
          refine vv_iinc dX3_swap_70 (v3 + 1) 3 [(3, .int (v3 + 1)), (0, .ref (ad b)), (1, .int v1), (2, .int v2)] rfl rfl (Nat.le_of_ble_eq_true rfl) rfl 73 rfl ?_
          refine vv_goto dX3_swap_73 25 rfl ?_
          refine vv_sub [1, 2, 3, 0] [(0, .ref (ad b)), (1, .int v1), (2, .int v2), (3, .int (v3 + 1))] rfl ?_
          exact ih hf
      · refine vv_aload_n dX3_swap_43 0 rfl rfl 44 rfl ?_
        refine vv_getR dX3_swap_44 6 gf_X3_swap_27 (ob_kl0 hb) (ob_ks hb) rfl 47 rfl ?_
        refine vv_iload_n dX3_swap_47 3 rfl rfl 48 rfl ?_
        refine vv_iload_n dX3_swap_48 2 rfl rfl 49 rfl ?_
        refine vv_iast dX3_swap_49 (ob_kl 6 hb (by decide)) (ob_ka6 hb) 50 rfl hf (fun σ8 hf => ?_)
        refine vv_goto dX3_swap_50 70 rfl ?_
        refine vv_iinc dX3_swap_70 (v3 + 1) 3 [(3, .int (v3 + 1)), (0, .ref (ad b)), (1, .int v1), (2, .int v2)] rfl rfl (Nat.le_of_ble_eq_true rfl) rfl 73 rfl ?_
        refine vv_goto dX3_swap_73 25 rfl ?_
        refine vv_sub [1, 2, 3, 0] [(0, .ref (ad b)), (1, .int v1), (2, .int v2), (3, .int (v3 + 1))] rfl ?_
        exact ih hf
set_option maxRecDepth 100000 in
set_option maxHeartbeats 4000000 in
theorem c_X3_swap {g : ob_GT} {ad : Nat → Nat} {b : Nat} (hb : ob_isK b) {r : Int32} {σ' : ob_St} {σ : ob_St} {p1 : Int32} {p2 : Int32} (hf : f_X3_swap b σ p1 p2 = some (r, σ')) : ob_CT g (ob_X ad) mi_X3_swap [.ref (ad b), .int p1, .int p2] σ (some (.int r)) σ' := by
  refine ob_ct (by decide +kernel) rfl (Nat.le_of_ble_eq_true rfl) ?_
  show ob_V g (ob_X ad) mi_X3_swap (some (.int r)) σ' σ 0 [(0, .ref (ad b)), (1, .int p1), (2, .int p2)] []
  refine vv_iload_n dX3_swap_0 1 rfl rfl 1 rfl ?_
  refine vv_iload_n dX3_swap_1 2 rfl rfl 2 rfl ?_
  refine vv_icmp_eq dX3_swap_2 21 5 rfl rfl hf (fun hf => ?_) (fun hf => ?_)
  · refine vv_iconst dX3_swap_21 0 rfl 22 rfl ?_
    exact vv_iretz rfl dX3_swap_22 hf
  · refine vv_aload_n dX3_swap_5 0 rfl rfl 6 rfl ?_
    refine vv_iload_n dX3_swap_6 1 rfl rfl 7 rfl ?_
    refine vv_callV [.int p1] [] (fun _ _ h => c_X3_hasDish hb h) (ob_rec (ob_kl0 hb) (ob_ks hb) rfl) cv_X3_swap_46 rfl (Nat.le_of_ble_eq_true rfl) 10 rfl dX3_swap_7 rfl hf (fun r1 σ2 hf => ?_)
    refine vv_if_eq dX3_swap_10 21 13 rfl rfl hf (fun hf => ?_) (fun hf => ?_)
    · refine vv_iconst dX3_swap_21 0 rfl 22 rfl ?_
      exact vv_iretz rfl dX3_swap_22 hf
    · refine vv_aload_n dX3_swap_13 0 rfl rfl 14 rfl ?_
      refine vv_iload_n dX3_swap_14 2 rfl rfl 15 rfl ?_
      refine vv_callV [.int p2] [] (fun _ _ h => c_X3_hasDish hb h) (ob_rec (ob_kl0 hb) (ob_ks hb) rfl) cv_X3_swap_46 rfl (Nat.le_of_ble_eq_true rfl) 18 rfl dX3_swap_15 rfl hf (fun r3 σ4 hf => ?_)
      refine vv_if_ne dX3_swap_18 23 21 rfl rfl hf (fun hf => ?_) (fun hf => ?_)
      · refine vv_iconst dX3_swap_23 0 rfl 24 rfl ?_
        refine vv_istore_n dX3_swap_24 [(3, .int 0), (0, .ref (ad b)), (1, .int p1), (2, .int p2)] rfl (Nat.le_of_ble_eq_true rfl) rfl 25 rfl ?_
        refine vv_sub [1, 2, 3, 0] [(0, .ref (ad b)), (1, .int p1), (2, .int p2), (3, .int 0)] rfl ?_
        exact l_X3_swap_25 hb 1000 hf
      · refine vv_iconst dX3_swap_21 0 rfl 22 rfl ?_
        exact vv_iretz rfl dX3_swap_22 hf
abbrev mi_X3_addDish : ob_MI := (yX3_addDish, ob_ws yX3_addDish cX3_addDish 6 (some .boolean), cX3_addDish, 6, (some .boolean), { frames := 1, cells := 0, slots := 0, locals := 20 })
theorem gf_X3_addDish_36 : ob_GF mi_X3_addDish 36 3 0 := ⟨RX3, TX3, 9, rfl, by decide, fun x h => List.mem_cons_of_mem _ (uw_X3 x h), List.mem_cons_of_mem _ tw_81⟩
theorem gf_X3_addDish_9 : ob_GF mi_X3_addDish 9 3 1 := ⟨RX3, TX3, 9, rfl, by decide, fun x h => List.mem_cons_of_mem _ (uw_X3 x h), List.mem_cons_of_mem _ tw_84⟩
theorem gf_X3_addDish_15 : ob_GF mi_X3_addDish 15 3 2 := ⟨RX3, TX3, 9, rfl, by decide, fun x h => List.mem_cons_of_mem _ (uw_X3 x h), List.mem_cons_of_mem _ tw_87⟩
theorem gf_X3_addDish_18 : ob_GF mi_X3_addDish 18 3 3 := ⟨RX3, TX3, 9, rfl, by decide, fun x h => List.mem_cons_of_mem _ (uw_X3 x h), List.mem_cons_of_mem _ tw_90⟩
theorem gf_X3_addDish_21 : ob_GF mi_X3_addDish 21 3 4 := ⟨RX3, TX3, 9, rfl, by decide, fun x h => List.mem_cons_of_mem _ (uw_X3 x h), List.mem_cons_of_mem _ tw_93⟩
theorem gf_X3_addDish_24 : ob_GF mi_X3_addDish 24 3 5 := ⟨RX3, TX3, 9, rfl, by decide, fun x h => List.mem_cons_of_mem _ (uw_X3 x h), List.mem_cons_of_mem _ tw_96⟩
theorem gf_X3_addDish_27 : ob_GF mi_X3_addDish 27 3 6 := ⟨RX3, TX3, 9, rfl, by decide, fun x h => List.mem_cons_of_mem _ (uw_X3 x h), List.mem_cons_of_mem _ tw_99⟩
theorem pf_X3_addDish_36 : ob_PF mi_X3_addDish 36 3 0 .int := ⟨RX3, TX3, 9, tyX3, rfl, by decide, fun x h => List.mem_cons_of_mem _ (uw_X3 x h), List.mem_cons_of_mem _ tw_81, tyX3_ok, nmX3, rfl, by decide +kernel⟩
noncomputable def f_X3_addDish (b : Nat) (σ : ob_St) (p1 : Int32) (p2 : Int32) (p3 : Int32) (p4 : Int32) (p5 : Int32) : Option (Int32 × ob_St) :=
  if (6 : Int32) ≤ (σ b 0) then
    ob_rb 0 σ
  else
    if (0 : Int32) ≤ p1 then
      if p2 < 1 then
        ob_rb 0 σ
      else
        if p4 < 1 then
          ob_rb 0 σ
        else
          if (6 : Int32) < p4 then
            ob_rb 0 σ
          else
            ob_bd (f_X10_isCourse σ p5) fun r1 σ2 =>
            if r1 = 0 then
              ob_rb 0 σ2
            else
              ob_sd σ2 (b + 1) 6 (σ2 b 0) p1 fun σ3 =>
              ob_sd σ3 (b + 2) 6 (σ3 b 0) p2 fun σ4 =>
              ob_sd σ4 (b + 3) 6 (σ4 b 0) p3 fun σ5 =>
              ob_sd σ5 (b + 4) 6 (σ5 b 0) p4 fun σ6 =>
              ob_sd σ6 (b + 5) 6 (σ6 b 0) p5 fun σ7 =>
              ob_sd σ7 (b + 6) 6 (σ7 b 0) (σ7 b 0) fun σ8 =>
              ob_pf σ8 b 0 ((σ8 b 0) + 1) fun σ9 =>
              ob_rb 1 σ9
    else
      ob_rb 0 σ
set_option maxRecDepth 100000 in
set_option maxHeartbeats 4000000 in
theorem c_X3_addDish {g : ob_GT} {ad : Nat → Nat} {b : Nat} (hb : ob_isK b) {r : Int32} {σ' : ob_St} {σ : ob_St} {p1 : Int32} {p2 : Int32} {p3 : Int32} {p4 : Int32} {p5 : Int32} (hf : f_X3_addDish b σ p1 p2 p3 p4 p5 = some (r, σ')) : ob_CT g (ob_X ad) mi_X3_addDish [.ref (ad b), .int p1, .int p2, .int p3, .int p4, .int p5] σ (some (.int r)) σ' := by
  refine ob_ct (by decide +kernel) rfl (Nat.le_of_ble_eq_true rfl) ?_
  show ob_V g (ob_X ad) mi_X3_addDish (some (.int r)) σ' σ 0 [(0, .ref (ad b)), (1, .int p1), (2, .int p2), (3, .int p3), (4, .int p4), (5, .int p5)] []
  refine vv_aload_n dX3_addDish_0 0 rfl rfl 1 rfl ?_
  refine vv_getI dX3_addDish_1 0 gf_X3_addDish_36 (ob_kl0 hb) (ob_ks hb) rfl 4 rfl ?_
  refine vv_bipush dX3_addDish_4 6 rfl 6 rfl ?_
  refine vv_icmp_ge dX3_addDish_6 13 9 rfl rfl hf (fun hf => ?_) (fun hf => ?_)
  · refine vv_iconst dX3_addDish_13 0 rfl 14 rfl ?_
    exact vv_iretz rfl dX3_addDish_14 hf
  · refine vv_iload_n dX3_addDish_9 1 rfl rfl 10 rfl ?_
    refine vv_if_ge dX3_addDish_10 15 13 rfl rfl hf (fun hf => ?_) (fun hf => ?_)
    · refine vv_iload_n dX3_addDish_15 2 rfl rfl 16 rfl ?_
      refine vv_iconst dX3_addDish_16 1 rfl 17 rfl ?_
      refine vv_icmp_lt dX3_addDish_17 41 20 rfl rfl hf (fun hf => ?_) (fun hf => ?_)
      · refine vv_iconst dX3_addDish_41 0 rfl 42 rfl ?_
        exact vv_iretz rfl dX3_addDish_42 hf
      · refine vv_iload dX3_addDish_20 4 rfl 22 rfl ?_
        refine vv_iconst dX3_addDish_22 1 rfl 23 rfl ?_
        refine vv_icmp_lt dX3_addDish_23 41 26 rfl rfl hf (fun hf => ?_) (fun hf => ?_)
        · refine vv_iconst dX3_addDish_41 0 rfl 42 rfl ?_
          exact vv_iretz rfl dX3_addDish_42 hf
        · refine vv_iload dX3_addDish_26 4 rfl 28 rfl ?_
          refine vv_bipush dX3_addDish_28 6 rfl 30 rfl ?_
          refine vv_icmp_gt dX3_addDish_30 41 33 rfl rfl hf (fun hf => ?_) (fun hf => ?_)
          · refine vv_iconst dX3_addDish_41 0 rfl 42 rfl ?_
            exact vv_iretz rfl dX3_addDish_42 hf
          · refine vv_iload dX3_addDish_33 5 rfl 35 rfl ?_
            refine vv_callSN (n := 1) [.int p5] [] (fun _ _ h => c_X10_isCourse h) (ob_good (fun _ h => List.mem_cons_of_mem _ h) tw_452) rfl ⟨rfl, rfl⟩ ⟨by decide +kernel, by decide +kernel, by decide +kernel⟩ ⟨Nat.le_of_ble_eq_true rfl, Nat.le_of_ble_eq_true rfl⟩ ⟨List.mem_cons_of_mem _ tw_48, List.mem_cons_of_mem _ tw_451⟩ (fun _ h => h.2.2.2.2) rfl (Nat.le_of_ble_eq_true rfl) 38 rfl dX3_addDish_35 rfl hf (fun r1 σ2 hf => ?_)
            refine vv_if_ne dX3_addDish_38 43 41 rfl rfl hf (fun hf => ?_) (fun hf => ?_)
            · refine vv_aload_n dX3_addDish_43 0 rfl rfl 44 rfl ?_
              refine vv_getR dX3_addDish_44 1 gf_X3_addDish_9 (ob_kl0 hb) (ob_ks hb) rfl 47 rfl ?_
              refine vv_aload_n dX3_addDish_47 0 rfl rfl 48 rfl ?_
              refine vv_getI dX3_addDish_48 0 gf_X3_addDish_36 (ob_kl0 hb) (ob_ks hb) rfl 51 rfl ?_
              refine vv_iload_n dX3_addDish_51 1 rfl rfl 52 rfl ?_
              refine vv_iast dX3_addDish_52 (ob_kl 1 hb (by decide)) (ob_ka1 hb) 53 rfl hf (fun σ3 hf => ?_)
              refine vv_aload_n dX3_addDish_53 0 rfl rfl 54 rfl ?_
              refine vv_getR dX3_addDish_54 2 gf_X3_addDish_15 (ob_kl0 hb) (ob_ks hb) rfl 57 rfl ?_
              refine vv_aload_n dX3_addDish_57 0 rfl rfl 58 rfl ?_
              refine vv_getI dX3_addDish_58 0 gf_X3_addDish_36 (ob_kl0 hb) (ob_ks hb) rfl 61 rfl ?_
              refine vv_iload_n dX3_addDish_61 2 rfl rfl 62 rfl ?_
              refine vv_iast dX3_addDish_62 (ob_kl 2 hb (by decide)) (ob_ka2 hb) 63 rfl hf (fun σ4 hf => ?_)
              refine vv_aload_n dX3_addDish_63 0 rfl rfl 64 rfl ?_
              refine vv_getR dX3_addDish_64 3 gf_X3_addDish_18 (ob_kl0 hb) (ob_ks hb) rfl 67 rfl ?_
              refine vv_aload_n dX3_addDish_67 0 rfl rfl 68 rfl ?_
              refine vv_getI dX3_addDish_68 0 gf_X3_addDish_36 (ob_kl0 hb) (ob_ks hb) rfl 71 rfl ?_
              refine vv_iload_n dX3_addDish_71 3 rfl rfl 72 rfl ?_
              refine vv_iast dX3_addDish_72 (ob_kl 3 hb (by decide)) (ob_ka3 hb) 73 rfl hf (fun σ5 hf => ?_)
              refine vv_aload_n dX3_addDish_73 0 rfl rfl 74 rfl ?_
              refine vv_getR dX3_addDish_74 4 gf_X3_addDish_21 (ob_kl0 hb) (ob_ks hb) rfl 77 rfl ?_
              refine vv_aload_n dX3_addDish_77 0 rfl rfl 78 rfl ?_
              refine vv_getI dX3_addDish_78 0 gf_X3_addDish_36 (ob_kl0 hb) (ob_ks hb) rfl 81 rfl ?_
              refine vv_iload dX3_addDish_81 4 rfl 83 rfl ?_
              refine vv_iast dX3_addDish_83 (ob_kl 4 hb (by decide)) (ob_ka4 hb) 84 rfl hf (fun σ6 hf => ?_)
              refine vv_aload_n dX3_addDish_84 0 rfl rfl 85 rfl ?_
              refine vv_getR dX3_addDish_85 5 gf_X3_addDish_24 (ob_kl0 hb) (ob_ks hb) rfl 88 rfl ?_
              refine vv_aload_n dX3_addDish_88 0 rfl rfl 89 rfl ?_
              refine vv_getI dX3_addDish_89 0 gf_X3_addDish_36 (ob_kl0 hb) (ob_ks hb) rfl 92 rfl ?_
              refine vv_iload dX3_addDish_92 5 rfl 94 rfl ?_
              refine vv_iast dX3_addDish_94 (ob_kl 5 hb (by decide)) (ob_ka5 hb) 95 rfl hf (fun σ7 hf => ?_)
              refine vv_aload_n dX3_addDish_95 0 rfl rfl 96 rfl ?_
              refine vv_getR dX3_addDish_96 6 gf_X3_addDish_27 (ob_kl0 hb) (ob_ks hb) rfl 99 rfl ?_
              refine vv_aload_n dX3_addDish_99 0 rfl rfl 100 rfl ?_
              refine vv_getI dX3_addDish_100 0 gf_X3_addDish_36 (ob_kl0 hb) (ob_ks hb) rfl 103 rfl ?_
              refine vv_aload_n dX3_addDish_103 0 rfl rfl 104 rfl ?_
              refine vv_getI dX3_addDish_104 0 gf_X3_addDish_36 (ob_kl0 hb) (ob_ks hb) rfl 107 rfl ?_
              refine vv_iast dX3_addDish_107 (ob_kl 6 hb (by decide)) (ob_ka6 hb) 108 rfl hf (fun σ8 hf => ?_)
              refine vv_aload_n dX3_addDish_108 0 rfl rfl 109 rfl ?_
              refine vv_dup dX3_addDish_109 rfl 110 rfl ?_
              refine vv_getI dX3_addDish_110 0 gf_X3_addDish_36 (ob_kl0 hb) (ob_ks hb) rfl 113 rfl ?_
              refine vv_iconst dX3_addDish_113 1 rfl 114 rfl ?_
              refine vv_iadd dX3_addDish_114 115 rfl ?_
              refine vv_putI dX3_addDish_115 0 pf_X3_addDish_36 (ob_kl0 hb) (ob_ks hb) rfl (ob_fit_int _) 118 rfl hf (fun σ9 hf => ?_)
              refine vv_iconst dX3_addDish_118 1 rfl 119 rfl ?_
              exact vv_iretz rfl dX3_addDish_119 hf
            · refine vv_iconst dX3_addDish_41 0 rfl 42 rfl ?_
              exact vv_iretz rfl dX3_addDish_42 hf
    · refine vv_iconst dX3_addDish_13 0 rfl 14 rfl ?_
      exact vv_iretz rfl dX3_addDish_14 hf
abbrev mi_X3_putInBox : ob_MI := (yX3_putInBox, ob_ws yX3_putInBox cX3_putInBox 3 (some .boolean), cX3_putInBox, 3, (some .boolean), { frames := 0, cells := 0, slots := 0, locals := 0 })
theorem gf_X3_putInBox_33 : ob_GF mi_X3_putInBox 33 3 8 := ⟨RX3, TX3, 9, rfl, by decide, fun x h => List.mem_cons_of_mem _ (uw_X3 x h), List.mem_cons_of_mem _ tw_103⟩
noncomputable def f_X3_putInBox (b : Nat) (σ : ob_St) (p1 : Int32) (p2 : Int32) : Option (Int32 × ob_St) :=
  ob_lt ob_least 6 p1 fun v_1 =>
  if p2 < v_1 then
    ob_rb 0 σ
  else
    ob_lt ob_great 6 p1 fun v_2 =>
    if p2 ≤ v_2 then
      ob_sd σ (b + 8) 6 p1 p2 fun σ3 =>
      ob_rb 1 σ3
    else
      ob_rb 0 σ
set_option maxRecDepth 100000 in
set_option maxHeartbeats 4000000 in
theorem c_X3_putInBox {g : ob_GT} {ad : Nat → Nat} {b : Nat} (hb : ob_isK b) {r : Int32} {σ' : ob_St} {σ : ob_St} {p1 : Int32} {p2 : Int32} (hf : f_X3_putInBox b σ p1 p2 = some (r, σ')) : ob_CT g (ob_X ad) mi_X3_putInBox [.ref (ad b), .int p1, .int p2] σ (some (.int r)) σ' := by
  refine ob_ct (by decide +kernel) rfl (Nat.le_of_ble_eq_true rfl) ?_
  show ob_V g (ob_X ad) mi_X3_putInBox (some (.int r)) σ' σ 0 [(0, .ref (ad b)), (1, .int p1), (2, .int p2)] []
  refine vv_iload_n dX3_putInBox_0 2 rfl rfl 1 rfl ?_
  refine vv_gstN dX3_putInBox_1 (fun _ h => h.2.2.1) (fun _ _ h => h.2.1.1) 4 rfl ?_
  refine vv_iload_n dX3_putInBox_4 1 rfl rfl 5 rfl ?_
  refine vv_tald dX3_putInBox_5 (fun _ _ h => h.2.1.2.1) 6 rfl hf (fun v_1 hf => ?_)
  refine vv_icmp_lt dX3_putInBox_6 18 9 rfl rfl hf (fun hf => ?_) (fun hf => ?_)
  · refine vv_iconst dX3_putInBox_18 0 rfl 19 rfl ?_
    exact vv_iretz rfl dX3_putInBox_19 hf
  · refine vv_iload_n dX3_putInBox_9 2 rfl rfl 10 rfl ?_
    refine vv_gstN dX3_putInBox_10 (fun _ h => h.2.2.2.1) (fun _ _ h => h.2.1.2.2.1) 13 rfl ?_
    refine vv_iload_n dX3_putInBox_13 1 rfl rfl 14 rfl ?_
    refine vv_tald dX3_putInBox_14 (fun _ _ h => h.2.1.2.2.2) 15 rfl hf (fun v_2 hf => ?_)
    refine vv_icmp_le dX3_putInBox_15 20 18 rfl rfl hf (fun hf => ?_) (fun hf => ?_)
    · refine vv_aload_n dX3_putInBox_20 0 rfl rfl 21 rfl ?_
      refine vv_getR dX3_putInBox_21 8 gf_X3_putInBox_33 (ob_kl0 hb) (ob_ks hb) rfl 24 rfl ?_
      refine vv_iload_n dX3_putInBox_24 1 rfl rfl 25 rfl ?_
      refine vv_iload_n dX3_putInBox_25 2 rfl rfl 26 rfl ?_
      refine vv_iast dX3_putInBox_26 (ob_kl 8 hb (by decide)) (ob_ka8 hb) 27 rfl hf (fun σ3 hf => ?_)
      refine vv_iconst dX3_putInBox_27 1 rfl 28 rfl ?_
      exact vv_iretz rfl dX3_putInBox_28 hf
    · refine vv_iconst dX3_putInBox_18 0 rfl 19 rfl ?_
      exact vv_iretz rfl dX3_putInBox_19 hf
abbrev mi_X3_putBegin : ob_MI := (yX3_putBegin, ob_ws yX3_putBegin cX3_putBegin 3 (some .boolean), cX3_putBegin, 3, (some .boolean), { frames := 1, cells := 0, slots := 0, locals := 20 })
theorem gf_X3_putBegin_30 : ob_GF mi_X3_putBegin 30 3 7 := ⟨RX3, TX3, 9, rfl, by decide, fun x h => List.mem_cons_of_mem _ (uw_X3 x h), List.mem_cons_of_mem _ tw_101⟩
noncomputable def f_X3_putBegin (b : Nat) (σ : ob_St) (p1 : Int32) (p2 : Int32) : Option (Int32 × ob_St) :=
  ob_bd (f_X10_isCourse σ p1) fun r1 σ2 =>
  if r1 = 0 then
    ob_rb 0 σ2
  else
    ob_sd σ2 (b + 7) 5 p1 p2 fun σ3 =>
    ob_rb 1 σ3
set_option maxRecDepth 100000 in
set_option maxHeartbeats 4000000 in
theorem c_X3_putBegin {g : ob_GT} {ad : Nat → Nat} {b : Nat} (hb : ob_isK b) {r : Int32} {σ' : ob_St} {σ : ob_St} {p1 : Int32} {p2 : Int32} (hf : f_X3_putBegin b σ p1 p2 = some (r, σ')) : ob_CT g (ob_X ad) mi_X3_putBegin [.ref (ad b), .int p1, .int p2] σ (some (.int r)) σ' := by
  refine ob_ct (by decide +kernel) rfl (Nat.le_of_ble_eq_true rfl) ?_
  show ob_V g (ob_X ad) mi_X3_putBegin (some (.int r)) σ' σ 0 [(0, .ref (ad b)), (1, .int p1), (2, .int p2)] []
  refine vv_iload_n dX3_putBegin_0 1 rfl rfl 1 rfl ?_
  refine vv_callSN (n := 1) [.int p1] [] (fun _ _ h => c_X10_isCourse h) (ob_good (fun _ h => List.mem_cons_of_mem _ h) tw_452) rfl ⟨rfl, rfl⟩ ⟨by decide +kernel, by decide +kernel, by decide +kernel⟩ ⟨Nat.le_of_ble_eq_true rfl, Nat.le_of_ble_eq_true rfl⟩ ⟨List.mem_cons_of_mem _ tw_48, List.mem_cons_of_mem _ tw_451⟩ (fun _ h => h.2.2.2.2) rfl (Nat.le_of_ble_eq_true rfl) 4 rfl dX3_putBegin_1 rfl hf (fun r1 σ2 hf => ?_)
  refine vv_if_ne dX3_putBegin_4 9 7 rfl rfl hf (fun hf => ?_) (fun hf => ?_)
  · refine vv_aload_n dX3_putBegin_9 0 rfl rfl 10 rfl ?_
    refine vv_getR dX3_putBegin_10 7 gf_X3_putBegin_30 (ob_kl0 hb) (ob_ks hb) rfl 13 rfl ?_
    refine vv_iload_n dX3_putBegin_13 1 rfl rfl 14 rfl ?_
    refine vv_iload_n dX3_putBegin_14 2 rfl rfl 15 rfl ?_
    refine vv_iast dX3_putBegin_15 (ob_kl 7 hb (by decide)) (ob_ka7 hb) 16 rfl hf (fun σ3 hf => ?_)
    refine vv_iconst dX3_putBegin_16 1 rfl 17 rfl ?_
    exact vv_iretz rfl dX3_putBegin_17 hf
  · refine vv_iconst dX3_putBegin_7 0 rfl 8 rfl ?_
    exact vv_iretz rfl dX3_putBegin_8 hf
abbrev mi_X3_beginOf : ob_MI := (yX3_beginOf, ob_ws yX3_beginOf cX3_beginOf 2 (some .int), cX3_beginOf, 2, (some .int), { frames := 0, cells := 0, slots := 0, locals := 0 })
theorem gf_X3_beginOf_30 : ob_GF mi_X3_beginOf 30 3 7 := ⟨RX3, TX3, 9, rfl, by decide, fun x h => List.mem_cons_of_mem _ (uw_X3 x h), List.mem_cons_of_mem _ tw_101⟩
noncomputable def f_X3_beginOf (b : Nat) (σ : ob_St) (p1 : Int32) : Option (Int32 × ob_St) :=
  ob_ld σ (b + 7) 5 p1 fun v_1 =>
  some (((100 * p1) + v_1), σ)
set_option maxRecDepth 100000 in
set_option maxHeartbeats 4000000 in
theorem c_X3_beginOf {g : ob_GT} {ad : Nat → Nat} {b : Nat} (hb : ob_isK b) {r : Int32} {σ' : ob_St} {σ : ob_St} {p1 : Int32} (hf : f_X3_beginOf b σ p1 = some (r, σ')) : ob_CT g (ob_X ad) mi_X3_beginOf [.ref (ad b), .int p1] σ (some (.int r)) σ' := by
  refine ob_ct (by decide +kernel) rfl (Nat.le_of_ble_eq_true rfl) ?_
  show ob_V g (ob_X ad) mi_X3_beginOf (some (.int r)) σ' σ 0 [(0, .ref (ad b)), (1, .int p1)] []
  refine vv_bipush dX3_beginOf_0 100 rfl 2 rfl ?_
  refine vv_iload_n dX3_beginOf_2 1 rfl rfl 3 rfl ?_
  refine vv_imul dX3_beginOf_3 4 rfl ?_
  refine vv_aload_n dX3_beginOf_4 0 rfl rfl 5 rfl ?_
  refine vv_getR dX3_beginOf_5 7 gf_X3_beginOf_30 (ob_kl0 hb) (ob_ks hb) rfl 8 rfl ?_
  refine vv_iload_n dX3_beginOf_8 1 rfl rfl 9 rfl ?_
  refine vv_iald dX3_beginOf_9 (ob_kl 7 hb (by decide)) (ob_ka7 hb) 10 rfl hf (fun v_1 hf => ?_)
  refine vv_iadd dX3_beginOf_10 11 rfl ?_
  exact vv_ireti rfl dX3_beginOf_11 hf
abbrev mi_X3_secondsWith : ob_MI := (yX3_secondsWith, ob_ws yX3_secondsWith cX3_secondsWith 3 (some .int), cX3_secondsWith, 3, (some .int), { frames := 1, cells := 0, slots := 0, locals := 21 })
theorem gf_X3_secondsWith_33 : ob_GF mi_X3_secondsWith 33 3 8 := ⟨RX3, TX3, 9, rfl, by decide, fun x h => List.mem_cons_of_mem _ (uw_X3 x h), List.mem_cons_of_mem _ tw_103⟩
theorem mm_X3_secondsWith_59 : ob_mm mi_X3_secondsWith 59 Lib.Math.abs.name (.code Lib.Math.abs.name Lib.Math.abs.code 1 (some .int)) := ⟨List.mem_cons_of_mem _ tw_519, List.mem_cons_of_mem _ tw_520, List.mem_cons_of_mem _ tw_64, List.mem_cons_of_mem _ tw_521⟩
theorem mm_X3_secondsWith_65 : ob_mm mi_X3_secondsWith 65 Lib.Math.max.name (.code Lib.Math.max.name Lib.Math.max.code 2 (some .int)) := ⟨List.mem_cons_of_mem _ tw_522, List.mem_cons_of_mem _ tw_384, List.mem_cons_of_mem _ tw_64, List.mem_cons_of_mem _ tw_385⟩
noncomputable def f_X3_secondsWith (b : Nat) (σ : ob_St) (p1 : Int32) : Option (Int32 × ob_St) :=
  ob_ld σ (b + 8) 6 2 fun v_1 =>
  ob_nm (ob_abs (p1 - v_1)) fun v_2 =>
  ob_ld σ (b + 8) 6 3 fun v_3 =>
  ob_ld σ (b + 8) 6 4 fun v_4 =>
  some ((v_3 * (ob_max 1 ((1 + (v_2 / 4)) - v_4))), σ)
set_option maxRecDepth 100000 in
set_option maxHeartbeats 4000000 in
theorem c_X3_secondsWith {g : ob_GT} {ad : Nat → Nat} {b : Nat} (hb : ob_isK b) {r : Int32} {σ' : ob_St} {σ : ob_St} {p1 : Int32} (hf : f_X3_secondsWith b σ p1 = some (r, σ')) : ob_CT g (ob_X ad) mi_X3_secondsWith [.ref (ad b), .int p1] σ (some (.int r)) σ' := by
  refine ob_ct (by decide +kernel) rfl (Nat.le_of_ble_eq_true rfl) ?_
  show ob_V g (ob_X ad) mi_X3_secondsWith (some (.int r)) σ' σ 0 [(0, .ref (ad b)), (1, .int p1)] []
  refine vv_iload_n dX3_secondsWith_0 1 rfl rfl 1 rfl ?_
  refine vv_aload_n dX3_secondsWith_1 0 rfl rfl 2 rfl ?_
  refine vv_getR dX3_secondsWith_2 8 gf_X3_secondsWith_33 (ob_kl0 hb) (ob_ks hb) rfl 5 rfl ?_
  refine vv_iconst dX3_secondsWith_5 2 rfl 6 rfl ?_
  refine vv_iald dX3_secondsWith_6 (ob_kl 8 hb (by decide)) (ob_ka8 hb) 7 rfl hf (fun v_1 hf => ?_)
  refine vv_isub dX3_secondsWith_7 8 rfl ?_
  refine vv_abs dX3_secondsWith_8 mm_X3_secondsWith_59 (Nat.le_of_ble_eq_true rfl) (Nat.le_of_ble_eq_true rfl) 11 rfl ?_
  refine vv_nm hf (fun v_2 hf => ?_)
  refine vv_istore_n dX3_secondsWith_11 [(2, .int v_2), (0, .ref (ad b)), (1, .int p1)] rfl (Nat.le_of_ble_eq_true rfl) rfl 12 rfl ?_
  refine vv_aload_n dX3_secondsWith_12 1 rfl rfl 13 rfl ?_
  refine vv_getR dX3_secondsWith_13 8 gf_X3_secondsWith_33 (ob_kl0 hb) (ob_ks hb) rfl 16 rfl ?_
  refine vv_iconst dX3_secondsWith_16 3 rfl 17 rfl ?_
  refine vv_iald dX3_secondsWith_17 (ob_kl 8 hb (by decide)) (ob_ka8 hb) 18 rfl hf (fun v_3 hf => ?_)
  refine vv_iconst dX3_secondsWith_18 1 rfl 19 rfl ?_
  refine vv_iconst dX3_secondsWith_19 1 rfl 20 rfl ?_
  refine vv_iload_n dX3_secondsWith_20 0 rfl rfl 21 rfl ?_
  refine vv_iconst dX3_secondsWith_21 4 rfl 22 rfl ?_
  refine vv_idiv dX3_secondsWith_22 (by decide) 23 rfl ?_
  refine vv_iadd dX3_secondsWith_23 24 rfl ?_
  refine vv_aload_n dX3_secondsWith_24 1 rfl rfl 25 rfl ?_
  refine vv_getR dX3_secondsWith_25 8 gf_X3_secondsWith_33 (ob_kl0 hb) (ob_ks hb) rfl 28 rfl ?_
  refine vv_iconst dX3_secondsWith_28 4 rfl 29 rfl ?_
  refine vv_iald dX3_secondsWith_29 (ob_kl 8 hb (by decide)) (ob_ka8 hb) 30 rfl hf (fun v_4 hf => ?_)
  refine vv_isub dX3_secondsWith_30 31 rfl ?_
  refine vv_max dX3_secondsWith_31 mm_X3_secondsWith_65 (Nat.le_of_ble_eq_true rfl) (Nat.le_of_ble_eq_true rfl) 34 rfl ?_
  refine vv_imul dX3_secondsWith_34 35 rfl ?_
  exact vv_ireti rfl dX3_secondsWith_35 hf
abbrev mi_X3_sumOf : ob_MI := (yX3_sumOf, ob_ws yX3_sumOf cX3_sumOf 4 (some .int), cX3_sumOf, 4, (some .int), { frames := 0, cells := 0, slots := 0, locals := 0 })
theorem gf_X3_sumOf_36 : ob_GF mi_X3_sumOf 36 3 0 := ⟨RX3, TX3, 9, rfl, by decide, fun x h => List.mem_cons_of_mem _ (uw_X3 x h), List.mem_cons_of_mem _ tw_81⟩
noncomputable def L_X3_sumOf_4 (b : Nat) (a : Nat) : Nat → ob_St → Int32 → Int32 → Option (Int32 × ob_St)
  | 0, _, _, _ => none
  | n + 1, σ, v2, v3 =>
    if (σ b 0) ≤ v3 then
      some (v2, σ)
    else
      ob_ld σ a 6 v3 fun v_1 =>
      ob_nm (v2 + v_1) fun v_2 =>
      L_X3_sumOf_4 b a n σ v_2 (v3 + 1)
noncomputable def f_X3_sumOf (b : Nat) (a : Nat) (σ : ob_St) : Option (Int32 × ob_St) :=
  L_X3_sumOf_4 b a 1000 σ 0 0
set_option maxRecDepth 100000 in
set_option maxHeartbeats 4000000 in
theorem l_X3_sumOf_4 {g : ob_GT} {ad : Nat → Nat} {b : Nat} {a : Nat} (hb : ob_isK b) (ha : a < 52 ∧ ob_xsh a = .inl 6) {r : Int32} {σ' : ob_St} : ∀ (n : Nat) {σ : ob_St} {v2 : Int32} {v3 : Int32}, L_X3_sumOf_4 b a n σ v2 v3 = some (r, σ') → ob_V g (ob_X ad) mi_X3_sumOf (some (.int r)) σ' σ 4 [(0, .ref (ad b)), (1, .ref (ad a)), (2, .int v2), (3, .int v3)] [] := by
  intro n
  induction n with
  | zero => intro σ v2 v3 hf; exact absurd hf (fun h => by cases h)
  | succ n ih =>
    intro σ v2 v3 hf
    refine vv_iload_n dX3_sumOf_4 3 rfl rfl 5 rfl ?_
    refine vv_aload_n dX3_sumOf_5 0 rfl rfl 6 rfl ?_
    refine vv_getI dX3_sumOf_6 0 gf_X3_sumOf_36 (ob_kl0 hb) (ob_ks hb) rfl 9 rfl ?_
    refine vv_icmp_ge dX3_sumOf_9 24 12 rfl rfl hf (fun hf => ?_) (fun hf => ?_)
    · refine vv_iload_n dX3_sumOf_24 2 rfl rfl 25 rfl ?_
      exact vv_ireti rfl dX3_sumOf_25 hf
    · refine vv_iload_n dX3_sumOf_12 2 rfl rfl 13 rfl ?_
      refine vv_aload_n dX3_sumOf_13 1 rfl rfl 14 rfl ?_
      refine vv_iload_n dX3_sumOf_14 3 rfl rfl 15 rfl ?_
      refine vv_iald dX3_sumOf_15 ha.1 ha.2 16 rfl hf (fun v_1 hf => ?_)
      refine vv_iadd dX3_sumOf_16 17 rfl ?_
      refine vv_nm hf (fun v_2 hf => ?_)
      refine vv_istore_n dX3_sumOf_17 [(2, .int v_2), (0, .ref (ad b)), (1, .ref (ad a)), (3, .int v3)] rfl (Nat.le_of_ble_eq_true rfl) rfl 18 rfl ?_
      refine vv_iinc dX3_sumOf_18 (v3 + 1) 3 [(3, .int (v3 + 1)), (2, .int v_2), (0, .ref (ad b)), (1, .ref (ad a))] rfl rfl (Nat.le_of_ble_eq_true rfl) rfl 21 rfl ?_
      refine vv_goto dX3_sumOf_21 4 rfl ?_
      refine vv_sub [2, 3, 1, 0] [(0, .ref (ad b)), (1, .ref (ad a)), (2, .int v_2), (3, .int (v3 + 1))] rfl ?_
      exact ih hf
set_option maxRecDepth 100000 in
set_option maxHeartbeats 4000000 in
theorem c_X3_sumOf {g : ob_GT} {ad : Nat → Nat} {b : Nat} {a : Nat} (hb : ob_isK b) (ha : a < 52 ∧ ob_xsh a = .inl 6) {r : Int32} {σ' : ob_St} {σ : ob_St} (hf : f_X3_sumOf b a σ = some (r, σ')) : ob_CT g (ob_X ad) mi_X3_sumOf [.ref (ad b), .ref (ad a)] σ (some (.int r)) σ' := by
  refine ob_ct (by decide +kernel) rfl (Nat.le_of_ble_eq_true rfl) ?_
  show ob_V g (ob_X ad) mi_X3_sumOf (some (.int r)) σ' σ 0 [(0, .ref (ad b)), (1, .ref (ad a))] []
  refine vv_iconst dX3_sumOf_0 0 rfl 1 rfl ?_
  refine vv_istore_n dX3_sumOf_1 [(2, .int 0), (0, .ref (ad b)), (1, .ref (ad a))] rfl (Nat.le_of_ble_eq_true rfl) rfl 2 rfl ?_
  refine vv_iconst dX3_sumOf_2 0 rfl 3 rfl ?_
  refine vv_istore_n dX3_sumOf_3 [(3, .int 0), (2, .int 0), (0, .ref (ad b)), (1, .ref (ad a))] rfl (Nat.le_of_ble_eq_true rfl) rfl 4 rfl ?_
  refine vv_sub [2, 3, 1, 0] [(0, .ref (ad b)), (1, .ref (ad a)), (2, .int 0), (3, .int 0)] rfl ?_
  exact l_X3_sumOf_4 hb ha 1000 hf
abbrev mi_X3_takeOver : ob_MI := (yX3_takeOver, ob_ws yX3_takeOver cX3_takeOver 2 none, cX3_takeOver, 2, none, { frames := 1, cells := 0, slots := 0, locals := 60 })
theorem gf_X3_takeOver_36 : ob_GF mi_X3_takeOver 36 3 0 := ⟨RX3, TX3, 9, rfl, by decide, fun x h => List.mem_cons_of_mem _ (uw_X3 x h), List.mem_cons_of_mem _ tw_81⟩
theorem pf_X3_takeOver_36 : ob_PF mi_X3_takeOver 36 3 0 .int := ⟨RX3, TX3, 9, tyX3, rfl, by decide, fun x h => List.mem_cons_of_mem _ (uw_X3 x h), List.mem_cons_of_mem _ tw_81, tyX3_ok, nmX3, rfl, by decide +kernel⟩
theorem gf_X3_takeOver_9 : ob_GF mi_X3_takeOver 9 3 1 := ⟨RX3, TX3, 9, rfl, by decide, fun x h => List.mem_cons_of_mem _ (uw_X3 x h), List.mem_cons_of_mem _ tw_84⟩
theorem cp_X3_takeOver_40 : Cond.methodLink (mi_X3_takeOver).1.cls 40 arraycopyName ∈ (mi_X3_takeOver).2.1 ∧ Cond.native arraycopyName ∈ (mi_X3_takeOver).2.1 ∧ Cond.static arraycopyName ∈ (mi_X3_takeOver).2.1 ∧ Cond.initialized "java/lang/System" ∈ (mi_X3_takeOver).2.1 := ⟨List.mem_cons_of_mem _ tw_431, List.mem_cons_of_mem _ tw_433, List.mem_cons_of_mem _ tw_432, List.mem_cons_of_mem _ tw_66⟩
theorem gf_X3_takeOver_15 : ob_GF mi_X3_takeOver 15 3 2 := ⟨RX3, TX3, 9, rfl, by decide, fun x h => List.mem_cons_of_mem _ (uw_X3 x h), List.mem_cons_of_mem _ tw_87⟩
theorem gf_X3_takeOver_18 : ob_GF mi_X3_takeOver 18 3 3 := ⟨RX3, TX3, 9, rfl, by decide, fun x h => List.mem_cons_of_mem _ (uw_X3 x h), List.mem_cons_of_mem _ tw_90⟩
theorem gf_X3_takeOver_21 : ob_GF mi_X3_takeOver 21 3 4 := ⟨RX3, TX3, 9, rfl, by decide, fun x h => List.mem_cons_of_mem _ (uw_X3 x h), List.mem_cons_of_mem _ tw_93⟩
theorem gf_X3_takeOver_24 : ob_GF mi_X3_takeOver 24 3 5 := ⟨RX3, TX3, 9, rfl, by decide, fun x h => List.mem_cons_of_mem _ (uw_X3 x h), List.mem_cons_of_mem _ tw_96⟩
theorem gf_X3_takeOver_27 : ob_GF mi_X3_takeOver 27 3 6 := ⟨RX3, TX3, 9, rfl, by decide, fun x h => List.mem_cons_of_mem _ (uw_X3 x h), List.mem_cons_of_mem _ tw_99⟩
theorem gf_X3_takeOver_30 : ob_GF mi_X3_takeOver 30 3 7 := ⟨RX3, TX3, 9, rfl, by decide, fun x h => List.mem_cons_of_mem _ (uw_X3 x h), List.mem_cons_of_mem _ tw_101⟩
theorem gf_X3_takeOver_33 : ob_GF mi_X3_takeOver 33 3 8 := ⟨RX3, TX3, 9, rfl, by decide, fun x h => List.mem_cons_of_mem _ (uw_X3 x h), List.mem_cons_of_mem _ tw_103⟩
noncomputable def f_X3_takeOver (b : Nat) (b2 : Nat) (σ : ob_St) : Option (Unit × ob_St) :=
  ob_pf σ b 0 (σ b2 0) fun σ1 =>
  ob_cp σ1 (b2 + 1) (b + 1) 6 fun σ2 =>
  ob_cp σ2 (b2 + 2) (b + 2) 6 fun σ3 =>
  ob_cp σ3 (b2 + 3) (b + 3) 6 fun σ4 =>
  ob_cp σ4 (b2 + 4) (b + 4) 6 fun σ5 =>
  ob_cp σ5 (b2 + 5) (b + 5) 6 fun σ6 =>
  ob_cp σ6 (b2 + 6) (b + 6) 6 fun σ7 =>
  ob_cp σ7 (b2 + 7) (b + 7) 5 fun σ8 =>
  ob_cp σ8 (b2 + 8) (b + 8) 6 fun σ9 =>
  some ((), σ9)
set_option maxRecDepth 100000 in
set_option maxHeartbeats 4000000 in
theorem c_X3_takeOver {g : ob_GT} {ad : Nat → Nat} {b : Nat} {b2 : Nat} (hb : ob_isK b) (hb2 : ob_isK b2) {r : Unit} {σ' : ob_St} {σ : ob_St} (hf : f_X3_takeOver b b2 σ = some (r, σ')) : ob_CT g (ob_X ad) mi_X3_takeOver [.ref (ad b), .ref (ad b2)] σ none σ' := by
  refine ob_ct (by decide +kernel) rfl (Nat.le_of_ble_eq_true rfl) ?_
  show ob_V g (ob_X ad) mi_X3_takeOver none σ' σ 0 [(0, .ref (ad b)), (1, .ref (ad b2))] []
  refine vv_aload_n dX3_takeOver_0 0 rfl rfl 1 rfl ?_
  refine vv_aload_n dX3_takeOver_1 1 rfl rfl 2 rfl ?_
  refine vv_getI dX3_takeOver_2 0 gf_X3_takeOver_36 (ob_kl0 hb2) (ob_ks hb2) rfl 5 rfl ?_
  refine vv_putI dX3_takeOver_5 0 pf_X3_takeOver_36 (ob_kl0 hb) (ob_ks hb) rfl (ob_fit_int _) 8 rfl hf (fun σ1 hf => ?_)
  refine vv_aload_n dX3_takeOver_8 1 rfl rfl 9 rfl ?_
  refine vv_getR dX3_takeOver_9 1 gf_X3_takeOver_9 (ob_kl0 hb2) (ob_ks hb2) rfl 12 rfl ?_
  refine vv_iconst dX3_takeOver_12 0 rfl 13 rfl ?_
  refine vv_aload_n dX3_takeOver_13 0 rfl rfl 14 rfl ?_
  refine vv_getR dX3_takeOver_14 1 gf_X3_takeOver_9 (ob_kl0 hb) (ob_ks hb) rfl 17 rfl ?_
  refine vv_iconst dX3_takeOver_17 0 rfl 18 rfl ?_
  refine vv_bipush dX3_takeOver_18 6 rfl 20 rfl ?_
  refine vv_copy dX3_takeOver_20 6 (ob_kl 1 hb2 (by decide)) (ob_ka1 hb2) (ob_kl 1 hb (by decide)) (ob_ka1 hb) ⟨by decide, by decide⟩ ⟨by decide, by decide⟩ cp_X3_takeOver_40 (Nat.le_of_ble_eq_true rfl) (Nat.le_of_ble_eq_true rfl) 23 rfl hf (fun σ2 hf => ?_)
  refine vv_aload_n dX3_takeOver_23 1 rfl rfl 24 rfl ?_
  refine vv_getR dX3_takeOver_24 2 gf_X3_takeOver_15 (ob_kl0 hb2) (ob_ks hb2) rfl 27 rfl ?_
  refine vv_iconst dX3_takeOver_27 0 rfl 28 rfl ?_
  refine vv_aload_n dX3_takeOver_28 0 rfl rfl 29 rfl ?_
  refine vv_getR dX3_takeOver_29 2 gf_X3_takeOver_15 (ob_kl0 hb) (ob_ks hb) rfl 32 rfl ?_
  refine vv_iconst dX3_takeOver_32 0 rfl 33 rfl ?_
  refine vv_bipush dX3_takeOver_33 6 rfl 35 rfl ?_
  refine vv_copy dX3_takeOver_35 6 (ob_kl 2 hb2 (by decide)) (ob_ka2 hb2) (ob_kl 2 hb (by decide)) (ob_ka2 hb) ⟨by decide, by decide⟩ ⟨by decide, by decide⟩ cp_X3_takeOver_40 (Nat.le_of_ble_eq_true rfl) (Nat.le_of_ble_eq_true rfl) 38 rfl hf (fun σ3 hf => ?_)
  refine vv_aload_n dX3_takeOver_38 1 rfl rfl 39 rfl ?_
  refine vv_getR dX3_takeOver_39 3 gf_X3_takeOver_18 (ob_kl0 hb2) (ob_ks hb2) rfl 42 rfl ?_
  refine vv_iconst dX3_takeOver_42 0 rfl 43 rfl ?_
  refine vv_aload_n dX3_takeOver_43 0 rfl rfl 44 rfl ?_
  refine vv_getR dX3_takeOver_44 3 gf_X3_takeOver_18 (ob_kl0 hb) (ob_ks hb) rfl 47 rfl ?_
  refine vv_iconst dX3_takeOver_47 0 rfl 48 rfl ?_
  refine vv_bipush dX3_takeOver_48 6 rfl 50 rfl ?_
  refine vv_copy dX3_takeOver_50 6 (ob_kl 3 hb2 (by decide)) (ob_ka3 hb2) (ob_kl 3 hb (by decide)) (ob_ka3 hb) ⟨by decide, by decide⟩ ⟨by decide, by decide⟩ cp_X3_takeOver_40 (Nat.le_of_ble_eq_true rfl) (Nat.le_of_ble_eq_true rfl) 53 rfl hf (fun σ4 hf => ?_)
  refine vv_aload_n dX3_takeOver_53 1 rfl rfl 54 rfl ?_
  refine vv_getR dX3_takeOver_54 4 gf_X3_takeOver_21 (ob_kl0 hb2) (ob_ks hb2) rfl 57 rfl ?_
  refine vv_iconst dX3_takeOver_57 0 rfl 58 rfl ?_
  refine vv_aload_n dX3_takeOver_58 0 rfl rfl 59 rfl ?_
  refine vv_getR dX3_takeOver_59 4 gf_X3_takeOver_21 (ob_kl0 hb) (ob_ks hb) rfl 62 rfl ?_
  refine vv_iconst dX3_takeOver_62 0 rfl 63 rfl ?_
  refine vv_bipush dX3_takeOver_63 6 rfl 65 rfl ?_
  refine vv_copy dX3_takeOver_65 6 (ob_kl 4 hb2 (by decide)) (ob_ka4 hb2) (ob_kl 4 hb (by decide)) (ob_ka4 hb) ⟨by decide, by decide⟩ ⟨by decide, by decide⟩ cp_X3_takeOver_40 (Nat.le_of_ble_eq_true rfl) (Nat.le_of_ble_eq_true rfl) 68 rfl hf (fun σ5 hf => ?_)
  refine vv_aload_n dX3_takeOver_68 1 rfl rfl 69 rfl ?_
  refine vv_getR dX3_takeOver_69 5 gf_X3_takeOver_24 (ob_kl0 hb2) (ob_ks hb2) rfl 72 rfl ?_
  refine vv_iconst dX3_takeOver_72 0 rfl 73 rfl ?_
  refine vv_aload_n dX3_takeOver_73 0 rfl rfl 74 rfl ?_
  refine vv_getR dX3_takeOver_74 5 gf_X3_takeOver_24 (ob_kl0 hb) (ob_ks hb) rfl 77 rfl ?_
  refine vv_iconst dX3_takeOver_77 0 rfl 78 rfl ?_
  refine vv_bipush dX3_takeOver_78 6 rfl 80 rfl ?_
  refine vv_copy dX3_takeOver_80 6 (ob_kl 5 hb2 (by decide)) (ob_ka5 hb2) (ob_kl 5 hb (by decide)) (ob_ka5 hb) ⟨by decide, by decide⟩ ⟨by decide, by decide⟩ cp_X3_takeOver_40 (Nat.le_of_ble_eq_true rfl) (Nat.le_of_ble_eq_true rfl) 83 rfl hf (fun σ6 hf => ?_)
  refine vv_aload_n dX3_takeOver_83 1 rfl rfl 84 rfl ?_
  refine vv_getR dX3_takeOver_84 6 gf_X3_takeOver_27 (ob_kl0 hb2) (ob_ks hb2) rfl 87 rfl ?_
  refine vv_iconst dX3_takeOver_87 0 rfl 88 rfl ?_
  refine vv_aload_n dX3_takeOver_88 0 rfl rfl 89 rfl ?_
  refine vv_getR dX3_takeOver_89 6 gf_X3_takeOver_27 (ob_kl0 hb) (ob_ks hb) rfl 92 rfl ?_
  refine vv_iconst dX3_takeOver_92 0 rfl 93 rfl ?_
  refine vv_bipush dX3_takeOver_93 6 rfl 95 rfl ?_
  refine vv_copy dX3_takeOver_95 6 (ob_kl 6 hb2 (by decide)) (ob_ka6 hb2) (ob_kl 6 hb (by decide)) (ob_ka6 hb) ⟨by decide, by decide⟩ ⟨by decide, by decide⟩ cp_X3_takeOver_40 (Nat.le_of_ble_eq_true rfl) (Nat.le_of_ble_eq_true rfl) 98 rfl hf (fun σ7 hf => ?_)
  refine vv_aload_n dX3_takeOver_98 1 rfl rfl 99 rfl ?_
  refine vv_getR dX3_takeOver_99 7 gf_X3_takeOver_30 (ob_kl0 hb2) (ob_ks hb2) rfl 102 rfl ?_
  refine vv_iconst dX3_takeOver_102 0 rfl 103 rfl ?_
  refine vv_aload_n dX3_takeOver_103 0 rfl rfl 104 rfl ?_
  refine vv_getR dX3_takeOver_104 7 gf_X3_takeOver_30 (ob_kl0 hb) (ob_ks hb) rfl 107 rfl ?_
  refine vv_iconst dX3_takeOver_107 0 rfl 108 rfl ?_
  refine vv_iconst dX3_takeOver_108 5 rfl 109 rfl ?_
  refine vv_copy dX3_takeOver_109 5 (ob_kl 7 hb2 (by decide)) (ob_ka7 hb2) (ob_kl 7 hb (by decide)) (ob_ka7 hb) ⟨by decide, by decide⟩ ⟨by decide, by decide⟩ cp_X3_takeOver_40 (Nat.le_of_ble_eq_true rfl) (Nat.le_of_ble_eq_true rfl) 112 rfl hf (fun σ8 hf => ?_)
  refine vv_aload_n dX3_takeOver_112 1 rfl rfl 113 rfl ?_
  refine vv_getR dX3_takeOver_113 8 gf_X3_takeOver_33 (ob_kl0 hb2) (ob_ks hb2) rfl 116 rfl ?_
  refine vv_iconst dX3_takeOver_116 0 rfl 117 rfl ?_
  refine vv_aload_n dX3_takeOver_117 0 rfl rfl 118 rfl ?_
  refine vv_getR dX3_takeOver_118 8 gf_X3_takeOver_33 (ob_kl0 hb) (ob_ks hb) rfl 121 rfl ?_
  refine vv_iconst dX3_takeOver_121 0 rfl 122 rfl ?_
  refine vv_aload_n dX3_takeOver_122 0 rfl rfl 123 rfl ?_
  refine vv_getR dX3_takeOver_123 8 gf_X3_takeOver_33 (ob_kl0 hb) (ob_ks hb) rfl 126 rfl ?_
  refine vv_alen dX3_takeOver_126 6 (ob_kl 8 hb (by decide)) (ob_ka8 hb) rfl 127 rfl ?_
  refine vv_copy dX3_takeOver_127 6 (ob_kl 8 hb2 (by decide)) (ob_ka8 hb2) (ob_kl 8 hb (by decide)) (ob_ka8 hb) ⟨by decide, by decide⟩ ⟨by decide, by decide⟩ cp_X3_takeOver_40 (Nat.le_of_ble_eq_true rfl) (Nat.le_of_ble_eq_true rfl) 130 rfl hf (fun σ9 hf => ?_)
  exact vv_ret rfl dX3_takeOver_130 hf
