theorem dX1_init_0 : decode cX1_init 0 = .ok (.aload_n 0, 1) := by decide +kernel
theorem dX1_init_1 : decode cX1_init 1 = .ok (.invokespecial 3, 3) := by decide +kernel
theorem dX1_init_4 : decode cX1_init 4 = .ok (.aload_n 0, 1) := by decide +kernel
theorem dX1_init_5 : decode cX1_init 5 = .ok (.bipush 6, 2) := by decide +kernel
theorem dX1_init_7 : decode cX1_init 7 = .ok (.anewarray 9, 3) := by decide +kernel
theorem dX1_init_10 : decode cX1_init 10 = .ok (.dup, 1) := by decide +kernel
theorem dX1_init_11 : decode cX1_init 11 = .ok (.iconst 0, 1) := by decide +kernel
theorem dX1_init_12 : decode cX1_init 12 = .ok (.new 9, 3) := by decide +kernel
theorem dX1_init_15 : decode cX1_init 15 = .ok (.dup, 1) := by decide +kernel
theorem dX1_init_16 : decode cX1_init 16 = .ok (.invokespecial 11, 3) := by decide +kernel
theorem dX1_init_19 : decode cX1_init 19 = .ok (.aastore, 1) := by decide +kernel
theorem dX1_init_20 : decode cX1_init 20 = .ok (.dup, 1) := by decide +kernel
theorem dX1_init_21 : decode cX1_init 21 = .ok (.iconst 1, 1) := by decide +kernel
theorem dX1_init_22 : decode cX1_init 22 = .ok (.new 12, 3) := by decide +kernel
theorem dX1_init_25 : decode cX1_init 25 = .ok (.dup, 1) := by decide +kernel
theorem dX1_init_26 : decode cX1_init 26 = .ok (.invokespecial 14, 3) := by decide +kernel
theorem dX1_init_29 : decode cX1_init 29 = .ok (.aastore, 1) := by decide +kernel
theorem dX1_init_30 : decode cX1_init 30 = .ok (.dup, 1) := by decide +kernel
theorem dX1_init_31 : decode cX1_init 31 = .ok (.iconst 2, 1) := by decide +kernel
theorem dX1_init_32 : decode cX1_init 32 = .ok (.new 15, 3) := by decide +kernel
theorem dX1_init_35 : decode cX1_init 35 = .ok (.dup, 1) := by decide +kernel
theorem dX1_init_36 : decode cX1_init 36 = .ok (.invokespecial 17, 3) := by decide +kernel
theorem dX1_init_39 : decode cX1_init 39 = .ok (.aastore, 1) := by decide +kernel
theorem dX1_init_40 : decode cX1_init 40 = .ok (.dup, 1) := by decide +kernel
theorem dX1_init_41 : decode cX1_init 41 = .ok (.iconst 3, 1) := by decide +kernel
theorem dX1_init_42 : decode cX1_init 42 = .ok (.new 18, 3) := by decide +kernel
theorem dX1_init_45 : decode cX1_init 45 = .ok (.dup, 1) := by decide +kernel
theorem dX1_init_46 : decode cX1_init 46 = .ok (.invokespecial 20, 3) := by decide +kernel
theorem dX1_init_49 : decode cX1_init 49 = .ok (.aastore, 1) := by decide +kernel
theorem dX1_init_50 : decode cX1_init 50 = .ok (.dup, 1) := by decide +kernel
theorem dX1_init_51 : decode cX1_init 51 = .ok (.iconst 4, 1) := by decide +kernel
theorem dX1_init_52 : decode cX1_init 52 = .ok (.new 21, 3) := by decide +kernel
theorem dX1_init_55 : decode cX1_init 55 = .ok (.dup, 1) := by decide +kernel
theorem dX1_init_56 : decode cX1_init 56 = .ok (.invokespecial 23, 3) := by decide +kernel
theorem dX1_init_59 : decode cX1_init 59 = .ok (.aastore, 1) := by decide +kernel
theorem dX1_init_60 : decode cX1_init 60 = .ok (.dup, 1) := by decide +kernel
theorem dX1_init_61 : decode cX1_init 61 = .ok (.iconst 5, 1) := by decide +kernel
theorem dX1_init_62 : decode cX1_init 62 = .ok (.new 24, 3) := by decide +kernel
theorem dX1_init_65 : decode cX1_init 65 = .ok (.dup, 1) := by decide +kernel
theorem dX1_init_66 : decode cX1_init 66 = .ok (.invokespecial 26, 3) := by decide +kernel
theorem dX1_init_69 : decode cX1_init 69 = .ok (.aastore, 1) := by decide +kernel
theorem dX1_init_70 : decode cX1_init 70 = .ok (.putfield 27, 3) := by decide +kernel
theorem dX1_init_73 : decode cX1_init 73 = .ok (.aload_n 0, 1) := by decide +kernel
theorem dX1_init_74 : decode cX1_init 74 = .ok (.bipush 6, 2) := by decide +kernel
theorem dX1_init_76 : decode cX1_init 76 = .ok (.newarray .int, 2) := by decide +kernel
theorem dX1_init_78 : decode cX1_init 78 = .ok (.putfield 33, 3) := by decide +kernel
theorem dX1_init_81 : decode cX1_init 81 = .ok (.aload_n 0, 1) := by decide +kernel
theorem dX1_init_82 : decode cX1_init 82 = .ok (.bipush 6, 2) := by decide +kernel
theorem dX1_init_84 : decode cX1_init 84 = .ok (.newarray .int, 2) := by decide +kernel
theorem dX1_init_86 : decode cX1_init 86 = .ok (.putfield 37, 3) := by decide +kernel
theorem dX1_init_89 : decode cX1_init 89 = .ok (.aload_n 0, 1) := by decide +kernel
theorem dX1_init_90 : decode cX1_init 90 = .ok (.bipush 6, 2) := by decide +kernel
theorem dX1_init_92 : decode cX1_init 92 = .ok (.newarray .int, 2) := by decide +kernel
theorem dX1_init_94 : decode cX1_init 94 = .ok (.putfield 40, 3) := by decide +kernel
theorem dX1_init_97 : decode cX1_init 97 = .ok (.aload_n 0, 1) := by decide +kernel
theorem dX1_init_98 : decode cX1_init 98 = .ok (.bipush 6, 2) := by decide +kernel
theorem dX1_init_100 : decode cX1_init 100 = .ok (.newarray .int, 2) := by decide +kernel
theorem dX1_init_102 : decode cX1_init 102 = .ok (.putfield 43, 3) := by decide +kernel
theorem dX1_init_105 : decode cX1_init 105 = .ok (.aload_n 0, 1) := by decide +kernel
theorem dX1_init_106 : decode cX1_init 106 = .ok (.bipush 6, 2) := by decide +kernel
theorem dX1_init_108 : decode cX1_init 108 = .ok (.newarray .int, 2) := by decide +kernel
theorem dX1_init_110 : decode cX1_init 110 = .ok (.putfield 46, 3) := by decide +kernel
theorem dX1_init_113 : decode cX1_init 113 = .ok (.aload_n 0, 1) := by decide +kernel
theorem dX1_init_114 : decode cX1_init 114 = .ok (.bipush 6, 2) := by decide +kernel
theorem dX1_init_116 : decode cX1_init 116 = .ok (.newarray .int, 2) := by decide +kernel
theorem dX1_init_118 : decode cX1_init 118 = .ok (.putfield 49, 3) := by decide +kernel
theorem dX1_init_121 : decode cX1_init 121 = .ok (.aload_n 0, 1) := by decide +kernel
theorem dX1_init_122 : decode cX1_init 122 = .ok (.bipush 6, 2) := by decide +kernel
theorem dX1_init_124 : decode cX1_init 124 = .ok (.newarray .int, 2) := by decide +kernel
theorem dX1_init_126 : decode cX1_init 126 = .ok (.putfield 52, 3) := by decide +kernel
theorem dX1_init_129 : decode cX1_init 129 = .ok (.aload_n 0, 1) := by decide +kernel
theorem dX1_init_130 : decode cX1_init 130 = .ok (.bipush 6, 2) := by decide +kernel
theorem dX1_init_132 : decode cX1_init 132 = .ok (.newarray .int, 2) := by decide +kernel
theorem dX1_init_134 : decode cX1_init 134 = .ok (.putfield 55, 3) := by decide +kernel
theorem dX1_init_137 : decode cX1_init 137 = .ok (.aload_n 0, 1) := by decide +kernel
theorem dX1_init_138 : decode cX1_init 138 = .ok (.bipush 8, 2) := by decide +kernel
theorem dX1_init_140 : decode cX1_init 140 = .ok (.newarray .int, 2) := by decide +kernel
theorem dX1_init_142 : decode cX1_init 142 = .ok (.putfield 58, 3) := by decide +kernel
theorem dX1_init_145 : decode cX1_init 145 = .ok (.return_, 1) := by decide +kernel
theorem dX1_pass_0 : decode cX1_pass 0 = .ok (.aload_n 0, 1) := by decide +kernel
theorem dX1_pass_1 : decode cX1_pass 1 = .ok (.aload_n 1, 1) := by decide +kernel
theorem dX1_pass_2 : decode cX1_pass 2 = .ok (.aload_n 2, 1) := by decide +kernel
theorem dX1_pass_3 : decode cX1_pass 3 = .ok (.iload_n 3, 1) := by decide +kernel
theorem dX1_pass_4 : decode cX1_pass 4 = .ok (.invokevirtual 61, 3) := by decide +kernel
theorem dX1_pass_7 : decode cX1_pass 7 = .ok (.aload_n 0, 1) := by decide +kernel
theorem dX1_pass_8 : decode cX1_pass 8 = .ok (.aload_n 1, 1) := by decide +kernel
theorem dX1_pass_9 : decode cX1_pass 9 = .ok (.invokevirtual 65, 3) := by decide +kernel
theorem dX1_pass_12 : decode cX1_pass 12 = .ok (.aload_n 1, 1) := by decide +kernel
theorem dX1_pass_13 : decode cX1_pass 13 = .ok (.iload_n 3, 1) := by decide +kernel
theorem dX1_pass_14 : decode cX1_pass 14 = .ok (.invokevirtual 69, 3) := by decide +kernel
theorem dX1_pass_17 : decode cX1_pass 17 = .ok (.ifCond .eq 18, 3) := by decide +kernel
theorem dX1_pass_20 : decode cX1_pass 20 = .ok (.aload_n 0, 1) := by decide +kernel
theorem dX1_pass_21 : decode cX1_pass 21 = .ok (.getfield 37, 3) := by decide +kernel
theorem dX1_pass_24 : decode cX1_pass 24 = .ok (.iload_n 3, 1) := by decide +kernel
theorem dX1_pass_25 : decode cX1_pass 25 = .ok (.aload_n 1, 1) := by decide +kernel
theorem dX1_pass_26 : decode cX1_pass 26 = .ok (.getfield 75, 3) := by decide +kernel
theorem dX1_pass_29 : decode cX1_pass 29 = .ok (.iconst 5, 1) := by decide +kernel
theorem dX1_pass_30 : decode cX1_pass 30 = .ok (.iaload, 1) := by decide +kernel
theorem dX1_pass_31 : decode cX1_pass 31 = .ok (.bipush 60, 2) := by decide +kernel
theorem dX1_pass_33 : decode cX1_pass 33 = .ok (.iadd, 1) := by decide +kernel
theorem dX1_pass_34 : decode cX1_pass 34 = .ok (.iastore, 1) := by decide +kernel
theorem dX1_pass_35 : decode cX1_pass 35 = .ok (.iconst 0, 1) := by decide +kernel
theorem dX1_pass_36 : decode cX1_pass 36 = .ok (.istore 4, 2) := by decide +kernel
theorem dX1_pass_38 : decode cX1_pass 38 = .ok (.iload 4, 2) := by decide +kernel
theorem dX1_pass_40 : decode cX1_pass 40 = .ok (.aload_n 1, 1) := by decide +kernel
theorem dX1_pass_41 : decode cX1_pass 41 = .ok (.getfield 78, 3) := by decide +kernel
theorem dX1_pass_44 : decode cX1_pass 44 = .ok (.if_icmp .ge 16, 3) := by decide +kernel
theorem dX1_pass_47 : decode cX1_pass 47 = .ok (.aload_n 0, 1) := by decide +kernel
theorem dX1_pass_48 : decode cX1_pass 48 = .ok (.aload_n 1, 1) := by decide +kernel
theorem dX1_pass_49 : decode cX1_pass 49 = .ok (.iload 4, 2) := by decide +kernel
theorem dX1_pass_51 : decode cX1_pass 51 = .ok (.invokevirtual 82, 3) := by decide +kernel
theorem dX1_pass_54 : decode cX1_pass 54 = .ok (.iinc 4 1, 3) := by decide +kernel
theorem dX1_pass_57 : decode cX1_pass 57 = .ok (.goto (-19), 3) := by decide +kernel
theorem dX1_pass_60 : decode cX1_pass 60 = .ok (.aload_n 1, 1) := by decide +kernel
theorem dX1_pass_61 : decode cX1_pass 61 = .ok (.iload_n 3, 1) := by decide +kernel
theorem dX1_pass_62 : decode cX1_pass 62 = .ok (.invokevirtual 69, 3) := by decide +kernel
theorem dX1_pass_65 : decode cX1_pass 65 = .ok (.ifCond .eq 13, 3) := by decide +kernel
theorem dX1_pass_68 : decode cX1_pass 68 = .ok (.aload_n 0, 1) := by decide +kernel
theorem dX1_pass_69 : decode cX1_pass 69 = .ok (.getfield 55, 3) := by decide +kernel
theorem dX1_pass_72 : decode cX1_pass 72 = .ok (.iload_n 3, 1) := by decide +kernel
theorem dX1_pass_73 : decode cX1_pass 73 = .ok (.dup2, 1) := by decide +kernel
theorem dX1_pass_74 : decode cX1_pass 74 = .ok (.iaload, 1) := by decide +kernel
theorem dX1_pass_75 : decode cX1_pass 75 = .ok (.iconst 2, 1) := by decide +kernel
theorem dX1_pass_76 : decode cX1_pass 76 = .ok (.iadd, 1) := by decide +kernel
theorem dX1_pass_77 : decode cX1_pass 77 = .ok (.iastore, 1) := by decide +kernel
theorem dX1_pass_78 : decode cX1_pass 78 = .ok (.aload_n 0, 1) := by decide +kernel
theorem dX1_pass_79 : decode cX1_pass 79 = .ok (.aload_n 1, 1) := by decide +kernel
theorem dX1_pass_80 : decode cX1_pass 80 = .ok (.invokevirtual 86, 3) := by decide +kernel
theorem dX1_pass_83 : decode cX1_pass 83 = .ok (.return_, 1) := by decide +kernel
theorem dX1_lineUp_0 : decode cX1_lineUp 0 = .ok (.aload_n 0, 1) := by decide +kernel
theorem dX1_lineUp_1 : decode cX1_lineUp 1 = .ok (.iconst 0, 1) := by decide +kernel
theorem dX1_lineUp_2 : decode cX1_lineUp 2 = .ok (.putfield 89, 3) := by decide +kernel
theorem dX1_lineUp_5 : decode cX1_lineUp 5 = .ok (.iconst 0, 1) := by decide +kernel
theorem dX1_lineUp_6 : decode cX1_lineUp 6 = .ok (.istore 4, 2) := by decide +kernel
theorem dX1_lineUp_8 : decode cX1_lineUp 8 = .ok (.iload 4, 2) := by decide +kernel
theorem dX1_lineUp_10 : decode cX1_lineUp 10 = .ok (.aload_n 1, 1) := by decide +kernel
theorem dX1_lineUp_11 : decode cX1_lineUp 11 = .ok (.getfield 78, 3) := by decide +kernel
theorem dX1_lineUp_14 : decode cX1_lineUp 14 = .ok (.if_icmp .ge 40, 3) := by decide +kernel
theorem dX1_lineUp_17 : decode cX1_lineUp 17 = .ok (.aload_n 2, 1) := by decide +kernel
theorem dX1_lineUp_18 : decode cX1_lineUp 18 = .ok (.iload 4, 2) := by decide +kernel
theorem dX1_lineUp_20 : decode cX1_lineUp 20 = .ok (.iaload, 1) := by decide +kernel
theorem dX1_lineUp_21 : decode cX1_lineUp 21 = .ok (.iload_n 3, 1) := by decide +kernel
theorem dX1_lineUp_22 : decode cX1_lineUp 22 = .ok (.if_icmp .eq 26, 3) := by decide +kernel
theorem dX1_lineUp_25 : decode cX1_lineUp 25 = .ok (.aload_n 0, 1) := by decide +kernel
theorem dX1_lineUp_26 : decode cX1_lineUp 26 = .ok (.getfield 33, 3) := by decide +kernel
theorem dX1_lineUp_29 : decode cX1_lineUp 29 = .ok (.aload_n 0, 1) := by decide +kernel
theorem dX1_lineUp_30 : decode cX1_lineUp 30 = .ok (.getfield 89, 3) := by decide +kernel
theorem dX1_lineUp_33 : decode cX1_lineUp 33 = .ok (.aload_n 2, 1) := by decide +kernel
theorem dX1_lineUp_34 : decode cX1_lineUp 34 = .ok (.iload 4, 2) := by decide +kernel
theorem dX1_lineUp_36 : decode cX1_lineUp 36 = .ok (.iaload, 1) := by decide +kernel
theorem dX1_lineUp_37 : decode cX1_lineUp 37 = .ok (.iastore, 1) := by decide +kernel
theorem dX1_lineUp_38 : decode cX1_lineUp 38 = .ok (.aload_n 0, 1) := by decide +kernel
theorem dX1_lineUp_39 : decode cX1_lineUp 39 = .ok (.dup, 1) := by decide +kernel
theorem dX1_lineUp_40 : decode cX1_lineUp 40 = .ok (.getfield 89, 3) := by decide +kernel
theorem dX1_lineUp_43 : decode cX1_lineUp 43 = .ok (.iconst 1, 1) := by decide +kernel
theorem dX1_lineUp_44 : decode cX1_lineUp 44 = .ok (.iadd, 1) := by decide +kernel
theorem dX1_lineUp_45 : decode cX1_lineUp 45 = .ok (.putfield 89, 3) := by decide +kernel
theorem dX1_lineUp_48 : decode cX1_lineUp 48 = .ok (.iinc 4 1, 3) := by decide +kernel
theorem dX1_lineUp_51 : decode cX1_lineUp 51 = .ok (.goto (-43), 3) := by decide +kernel
theorem dX1_lineUp_54 : decode cX1_lineUp 54 = .ok (.return_, 1) := by decide +kernel
theorem dX1_carryAll_0 : decode cX1_carryAll 0 = .ok (.aload_n 1, 1) := by decide +kernel
theorem dX1_carryAll_1 : decode cX1_carryAll 1 = .ok (.getfield 75, 3) := by decide +kernel
theorem dX1_carryAll_4 : decode cX1_carryAll 4 = .ok (.iconst 1, 1) := by decide +kernel
theorem dX1_carryAll_5 : decode cX1_carryAll 5 = .ok (.iaload, 1) := by decide +kernel
theorem dX1_carryAll_6 : decode cX1_carryAll 6 = .ok (.istore_n 2, 1) := by decide +kernel
theorem dX1_carryAll_7 : decode cX1_carryAll 7 = .ok (.aload_n 1, 1) := by decide +kernel
theorem dX1_carryAll_8 : decode cX1_carryAll 8 = .ok (.getfield 75, 3) := by decide +kernel
theorem dX1_carryAll_11 : decode cX1_carryAll 11 = .ok (.iconst 5, 1) := by decide +kernel
theorem dX1_carryAll_12 : decode cX1_carryAll 12 = .ok (.iaload, 1) := by decide +kernel
theorem dX1_carryAll_13 : decode cX1_carryAll 13 = .ok (.istore_n 3, 1) := by decide +kernel
theorem dX1_carryAll_14 : decode cX1_carryAll 14 = .ok (.iconst 0, 1) := by decide +kernel
theorem dX1_carryAll_15 : decode cX1_carryAll 15 = .ok (.istore 4, 2) := by decide +kernel
theorem dX1_carryAll_17 : decode cX1_carryAll 17 = .ok (.iconst 0, 1) := by decide +kernel
theorem dX1_carryAll_18 : decode cX1_carryAll 18 = .ok (.istore 5, 2) := by decide +kernel
theorem dX1_carryAll_20 : decode cX1_carryAll 20 = .ok (.iload 4, 2) := by decide +kernel
theorem dX1_carryAll_22 : decode cX1_carryAll 22 = .ok (.aload_n 0, 1) := by decide +kernel
theorem dX1_carryAll_23 : decode cX1_carryAll 23 = .ok (.getfield 89, 3) := by decide +kernel
theorem dX1_carryAll_26 : decode cX1_carryAll 26 = .ok (.if_icmp .ge 127, 3) := by decide +kernel
theorem dX1_carryAll_29 : decode cX1_carryAll 29 = .ok (.iload 5, 2) := by decide +kernel
theorem dX1_carryAll_31 : decode cX1_carryAll 31 = .ok (.bipush 6, 2) := by decide +kernel
theorem dX1_carryAll_33 : decode cX1_carryAll 33 = .ok (.if_icmp .ge 120, 3) := by decide +kernel
theorem dX1_carryAll_36 : decode cX1_carryAll 36 = .ok (.aload_n 0, 1) := by decide +kernel
theorem dX1_carryAll_37 : decode cX1_carryAll 37 = .ok (.aload_n 1, 1) := by decide +kernel
theorem dX1_carryAll_38 : decode cX1_carryAll 38 = .ok (.iload 4, 2) := by decide +kernel
theorem dX1_carryAll_40 : decode cX1_carryAll 40 = .ok (.invokevirtual 92, 3) := by decide +kernel
theorem dX1_carryAll_43 : decode cX1_carryAll 43 = .ok (.istore 6, 2) := by decide +kernel
theorem dX1_carryAll_45 : decode cX1_carryAll 45 = .ok (.iload_n 2, 1) := by decide +kernel
theorem dX1_carryAll_46 : decode cX1_carryAll 46 = .ok (.istore 7, 2) := by decide +kernel
theorem dX1_carryAll_48 : decode cX1_carryAll 48 = .ok (.iload 4, 2) := by decide +kernel
theorem dX1_carryAll_50 : decode cX1_carryAll 50 = .ok (.istore 8, 2) := by decide +kernel
theorem dX1_carryAll_52 : decode cX1_carryAll 52 = .ok (.iload 8, 2) := by decide +kernel
theorem dX1_carryAll_54 : decode cX1_carryAll 54 = .ok (.iload 6, 2) := by decide +kernel
theorem dX1_carryAll_56 : decode cX1_carryAll 56 = .ok (.if_icmp .ge 26, 3) := by decide +kernel
theorem dX1_carryAll_59 : decode cX1_carryAll 59 = .ok (.iload 7, 2) := by decide +kernel
theorem dX1_carryAll_61 : decode cX1_carryAll 61 = .ok (.aload_n 1, 1) := by decide +kernel
theorem dX1_carryAll_62 : decode cX1_carryAll 62 = .ok (.getfield 96, 3) := by decide +kernel
theorem dX1_carryAll_65 : decode cX1_carryAll 65 = .ok (.aload_n 0, 1) := by decide +kernel
theorem dX1_carryAll_66 : decode cX1_carryAll 66 = .ok (.getfield 33, 3) := by decide +kernel
theorem dX1_carryAll_69 : decode cX1_carryAll 69 = .ok (.iload 8, 2) := by decide +kernel
theorem dX1_carryAll_71 : decode cX1_carryAll 71 = .ok (.iaload, 1) := by decide +kernel
theorem dX1_carryAll_72 : decode cX1_carryAll 72 = .ok (.iaload, 1) := by decide +kernel
theorem dX1_carryAll_73 : decode cX1_carryAll 73 = .ok (.iadd, 1) := by decide +kernel
theorem dX1_carryAll_74 : decode cX1_carryAll 74 = .ok (.istore 7, 2) := by decide +kernel
theorem dX1_carryAll_76 : decode cX1_carryAll 76 = .ok (.iinc 8 1, 3) := by decide +kernel
theorem dX1_carryAll_79 : decode cX1_carryAll 79 = .ok (.goto (-27), 3) := by decide +kernel
theorem dX1_carryAll_82 : decode cX1_carryAll 82 = .ok (.iload_n 3, 1) := by decide +kernel
theorem dX1_carryAll_83 : decode cX1_carryAll 83 = .ok (.aload_n 1, 1) := by decide +kernel
theorem dX1_carryAll_84 : decode cX1_carryAll 84 = .ok (.iload 7, 2) := by decide +kernel
theorem dX1_carryAll_86 : decode cX1_carryAll 86 = .ok (.invokevirtual 99, 3) := by decide +kernel
theorem dX1_carryAll_89 : decode cX1_carryAll 89 = .ok (.iadd, 1) := by decide +kernel
theorem dX1_carryAll_90 : decode cX1_carryAll 90 = .ok (.istore_n 3, 1) := by decide +kernel
theorem dX1_carryAll_91 : decode cX1_carryAll 91 = .ok (.iload 4, 2) := by decide +kernel
theorem dX1_carryAll_93 : decode cX1_carryAll 93 = .ok (.istore 8, 2) := by decide +kernel
theorem dX1_carryAll_95 : decode cX1_carryAll 95 = .ok (.iload 8, 2) := by decide +kernel
theorem dX1_carryAll_97 : decode cX1_carryAll 97 = .ok (.iload 6, 2) := by decide +kernel
theorem dX1_carryAll_99 : decode cX1_carryAll 99 = .ok (.if_icmp .ge 36, 3) := by decide +kernel
theorem dX1_carryAll_102 : decode cX1_carryAll 102 = .ok (.aload_n 0, 1) := by decide +kernel
theorem dX1_carryAll_103 : decode cX1_carryAll 103 = .ok (.getfield 37, 3) := by decide +kernel
theorem dX1_carryAll_106 : decode cX1_carryAll 106 = .ok (.aload_n 0, 1) := by decide +kernel
theorem dX1_carryAll_107 : decode cX1_carryAll 107 = .ok (.getfield 33, 3) := by decide +kernel
theorem dX1_carryAll_110 : decode cX1_carryAll 110 = .ok (.iload 8, 2) := by decide +kernel
theorem dX1_carryAll_112 : decode cX1_carryAll 112 = .ok (.iaload, 1) := by decide +kernel
theorem dX1_carryAll_113 : decode cX1_carryAll 113 = .ok (.iload_n 3, 1) := by decide +kernel
theorem dX1_carryAll_114 : decode cX1_carryAll 114 = .ok (.iastore, 1) := by decide +kernel
theorem dX1_carryAll_115 : decode cX1_carryAll 115 = .ok (.aload_n 0, 1) := by decide +kernel
theorem dX1_carryAll_116 : decode cX1_carryAll 116 = .ok (.getfield 49, 3) := by decide +kernel
theorem dX1_carryAll_119 : decode cX1_carryAll 119 = .ok (.aload_n 0, 1) := by decide +kernel
theorem dX1_carryAll_120 : decode cX1_carryAll 120 = .ok (.getfield 33, 3) := by decide +kernel
theorem dX1_carryAll_123 : decode cX1_carryAll 123 = .ok (.iload 8, 2) := by decide +kernel
theorem dX1_carryAll_125 : decode cX1_carryAll 125 = .ok (.iaload, 1) := by decide +kernel
theorem dX1_carryAll_126 : decode cX1_carryAll 126 = .ok (.iload 5, 2) := by decide +kernel
theorem dX1_carryAll_128 : decode cX1_carryAll 128 = .ok (.iastore, 1) := by decide +kernel
theorem dX1_carryAll_129 : decode cX1_carryAll 129 = .ok (.iinc 8 1, 3) := by decide +kernel
theorem dX1_carryAll_132 : decode cX1_carryAll 132 = .ok (.goto (-37), 3) := by decide +kernel
theorem dX1_carryAll_135 : decode cX1_carryAll 135 = .ok (.iload_n 3, 1) := by decide +kernel
theorem dX1_carryAll_136 : decode cX1_carryAll 136 = .ok (.aload_n 1, 1) := by decide +kernel
theorem dX1_carryAll_137 : decode cX1_carryAll 137 = .ok (.iload_n 2, 1) := by decide +kernel
theorem dX1_carryAll_138 : decode cX1_carryAll 138 = .ok (.invokevirtual 99, 3) := by decide +kernel
theorem dX1_carryAll_141 : decode cX1_carryAll 141 = .ok (.iadd, 1) := by decide +kernel
theorem dX1_carryAll_142 : decode cX1_carryAll 142 = .ok (.istore_n 3, 1) := by decide +kernel
theorem dX1_carryAll_143 : decode cX1_carryAll 143 = .ok (.iload 6, 2) := by decide +kernel
theorem dX1_carryAll_145 : decode cX1_carryAll 145 = .ok (.istore 4, 2) := by decide +kernel
theorem dX1_carryAll_147 : decode cX1_carryAll 147 = .ok (.iinc 5 1, 3) := by decide +kernel
theorem dX1_carryAll_150 : decode cX1_carryAll 150 = .ok (.goto (-130), 3) := by decide +kernel
theorem dX1_carryAll_153 : decode cX1_carryAll 153 = .ok (.aload_n 0, 1) := by decide +kernel
theorem dX1_carryAll_154 : decode cX1_carryAll 154 = .ok (.getfield 58, 3) := by decide +kernel
theorem dX1_carryAll_157 : decode cX1_carryAll 157 = .ok (.iconst 5, 1) := by decide +kernel
theorem dX1_carryAll_158 : decode cX1_carryAll 158 = .ok (.iload_n 3, 1) := by decide +kernel
theorem dX1_carryAll_159 : decode cX1_carryAll 159 = .ok (.iastore, 1) := by decide +kernel
theorem dX1_carryAll_160 : decode cX1_carryAll 160 = .ok (.aload_n 0, 1) := by decide +kernel
theorem dX1_carryAll_161 : decode cX1_carryAll 161 = .ok (.getfield 58, 3) := by decide +kernel
theorem dX1_carryAll_164 : decode cX1_carryAll 164 = .ok (.bipush 6, 2) := by decide +kernel
theorem dX1_carryAll_166 : decode cX1_carryAll 166 = .ok (.iload 5, 2) := by decide +kernel
theorem dX1_carryAll_168 : decode cX1_carryAll 168 = .ok (.iastore, 1) := by decide +kernel
theorem dX1_carryAll_169 : decode cX1_carryAll 169 = .ok (.return_, 1) := by decide +kernel
theorem dX1_behindGo_0 : decode cX1_behindGo 0 = .ok (.iload_n 2, 1) := by decide +kernel
theorem dX1_behindGo_1 : decode cX1_behindGo 1 = .ok (.iconst 1, 1) := by decide +kernel
theorem dX1_behindGo_2 : decode cX1_behindGo 2 = .ok (.iadd, 1) := by decide +kernel
theorem dX1_behindGo_3 : decode cX1_behindGo 3 = .ok (.istore_n 3, 1) := by decide +kernel
theorem dX1_behindGo_4 : decode cX1_behindGo 4 = .ok (.aload_n 0, 1) := by decide +kernel
theorem dX1_behindGo_5 : decode cX1_behindGo 5 = .ok (.aload_n 1, 1) := by decide +kernel
theorem dX1_behindGo_6 : decode cX1_behindGo 6 = .ok (.aload_n 0, 1) := by decide +kernel
theorem dX1_behindGo_7 : decode cX1_behindGo 7 = .ok (.getfield 33, 3) := by decide +kernel
theorem dX1_behindGo_10 : decode cX1_behindGo 10 = .ok (.iload_n 2, 1) := by decide +kernel
theorem dX1_behindGo_11 : decode cX1_behindGo 11 = .ok (.iaload, 1) := by decide +kernel
theorem dX1_behindGo_12 : decode cX1_behindGo 12 = .ok (.invokevirtual 103, 3) := by decide +kernel
theorem dX1_behindGo_15 : decode cX1_behindGo 15 = .ok (.invokevirtual 107, 3) := by decide +kernel
theorem dX1_behindGo_18 : decode cX1_behindGo 18 = .ok (.ifCond .eq 5, 3) := by decide +kernel
theorem dX1_behindGo_21 : decode cX1_behindGo 21 = .ok (.iload_n 3, 1) := by decide +kernel
theorem dX1_behindGo_22 : decode cX1_behindGo 22 = .ok (.ireturn, 1) := by decide +kernel
theorem dX1_behindGo_23 : decode cX1_behindGo 23 = .ok (.aload_n 1, 1) := by decide +kernel
theorem dX1_behindGo_24 : decode cX1_behindGo 24 = .ok (.getfield 111, 3) := by decide +kernel
theorem dX1_behindGo_27 : decode cX1_behindGo 27 = .ok (.aload_n 0, 1) := by decide +kernel
theorem dX1_behindGo_28 : decode cX1_behindGo 28 = .ok (.getfield 33, 3) := by decide +kernel
theorem dX1_behindGo_31 : decode cX1_behindGo 31 = .ok (.iload_n 2, 1) := by decide +kernel
theorem dX1_behindGo_32 : decode cX1_behindGo 32 = .ok (.iaload, 1) := by decide +kernel
theorem dX1_behindGo_33 : decode cX1_behindGo 33 = .ok (.iaload, 1) := by decide +kernel
theorem dX1_behindGo_34 : decode cX1_behindGo 34 = .ok (.istore 4, 2) := by decide +kernel
theorem dX1_behindGo_36 : decode cX1_behindGo 36 = .ok (.iload_n 3, 1) := by decide +kernel
theorem dX1_behindGo_37 : decode cX1_behindGo 37 = .ok (.istore 5, 2) := by decide +kernel
theorem dX1_behindGo_39 : decode cX1_behindGo 39 = .ok (.iload 5, 2) := by decide +kernel
theorem dX1_behindGo_41 : decode cX1_behindGo 41 = .ok (.aload_n 0, 1) := by decide +kernel
theorem dX1_behindGo_42 : decode cX1_behindGo 42 = .ok (.getfield 89, 3) := by decide +kernel
theorem dX1_behindGo_45 : decode cX1_behindGo 45 = .ok (.if_icmp .ge 58, 3) := by decide +kernel
theorem dX1_behindGo_48 : decode cX1_behindGo 48 = .ok (.iload 4, 2) := by decide +kernel
theorem dX1_behindGo_50 : decode cX1_behindGo 50 = .ok (.aload_n 1, 1) := by decide +kernel
theorem dX1_behindGo_51 : decode cX1_behindGo 51 = .ok (.getfield 111, 3) := by decide +kernel
theorem dX1_behindGo_54 : decode cX1_behindGo 54 = .ok (.aload_n 0, 1) := by decide +kernel
theorem dX1_behindGo_55 : decode cX1_behindGo 55 = .ok (.getfield 33, 3) := by decide +kernel
theorem dX1_behindGo_58 : decode cX1_behindGo 58 = .ok (.iload 5, 2) := by decide +kernel
theorem dX1_behindGo_60 : decode cX1_behindGo 60 = .ok (.iaload, 1) := by decide +kernel
theorem dX1_behindGo_61 : decode cX1_behindGo 61 = .ok (.iaload, 1) := by decide +kernel
theorem dX1_behindGo_62 : decode cX1_behindGo 62 = .ok (.iadd, 1) := by decide +kernel
theorem dX1_behindGo_63 : decode cX1_behindGo 63 = .ok (.istore 4, 2) := by decide +kernel
theorem dX1_behindGo_65 : decode cX1_behindGo 65 = .ok (.iload 4, 2) := by decide +kernel
theorem dX1_behindGo_67 : decode cX1_behindGo 67 = .ok (.aload_n 1, 1) := by decide +kernel
theorem dX1_behindGo_68 : decode cX1_behindGo 68 = .ok (.getfield 75, 3) := by decide +kernel
theorem dX1_behindGo_71 : decode cX1_behindGo 71 = .ok (.iconst 0, 1) := by decide +kernel
theorem dX1_behindGo_72 : decode cX1_behindGo 72 = .ok (.iaload, 1) := by decide +kernel
theorem dX1_behindGo_73 : decode cX1_behindGo 73 = .ok (.if_icmp .gt 21, 3) := by decide +kernel
theorem dX1_behindGo_76 : decode cX1_behindGo 76 = .ok (.aload_n 0, 1) := by decide +kernel
theorem dX1_behindGo_77 : decode cX1_behindGo 77 = .ok (.aload_n 1, 1) := by decide +kernel
theorem dX1_behindGo_78 : decode cX1_behindGo 78 = .ok (.aload_n 0, 1) := by decide +kernel
theorem dX1_behindGo_79 : decode cX1_behindGo 79 = .ok (.getfield 33, 3) := by decide +kernel
theorem dX1_behindGo_82 : decode cX1_behindGo 82 = .ok (.iload 5, 2) := by decide +kernel
theorem dX1_behindGo_84 : decode cX1_behindGo 84 = .ok (.iaload, 1) := by decide +kernel
theorem dX1_behindGo_85 : decode cX1_behindGo 85 = .ok (.invokevirtual 103, 3) := by decide +kernel
theorem dX1_behindGo_88 : decode cX1_behindGo 88 = .ok (.invokevirtual 107, 3) := by decide +kernel
theorem dX1_behindGo_91 : decode cX1_behindGo 91 = .ok (.ifCond .eq 6, 3) := by decide +kernel
theorem dX1_behindGo_94 : decode cX1_behindGo 94 = .ok (.iload 5, 2) := by decide +kernel
theorem dX1_behindGo_96 : decode cX1_behindGo 96 = .ok (.ireturn, 1) := by decide +kernel
theorem dX1_behindGo_97 : decode cX1_behindGo 97 = .ok (.iinc 5 1, 3) := by decide +kernel
theorem dX1_behindGo_100 : decode cX1_behindGo 100 = .ok (.goto (-61), 3) := by decide +kernel
theorem dX1_behindGo_103 : decode cX1_behindGo 103 = .ok (.aload_n 0, 1) := by decide +kernel
theorem dX1_behindGo_104 : decode cX1_behindGo 104 = .ok (.getfield 89, 3) := by decide +kernel
theorem dX1_behindGo_107 : decode cX1_behindGo 107 = .ok (.ireturn, 1) := by decide +kernel
theorem dX1_kindOf_0 : decode cX1_kindOf 0 = .ok (.aload_n 1, 1) := by decide +kernel
theorem dX1_kindOf_1 : decode cX1_kindOf 1 = .ok (.getfield 114, 3) := by decide +kernel
theorem dX1_kindOf_4 : decode cX1_kindOf 4 = .ok (.iload_n 2, 1) := by decide +kernel
theorem dX1_kindOf_5 : decode cX1_kindOf 5 = .ok (.iaload, 1) := by decide +kernel
theorem dX1_kindOf_6 : decode cX1_kindOf 6 = .ok (.istore_n 3, 1) := by decide +kernel
theorem dX1_kindOf_7 : decode cX1_kindOf 7 = .ok (.iload_n 3, 1) := by decide +kernel
theorem dX1_kindOf_8 : decode cX1_kindOf 8 = .ok (.ifCond .lt 21, 3) := by decide +kernel
theorem dX1_kindOf_11 : decode cX1_kindOf 11 = .ok (.iload_n 3, 1) := by decide +kernel
theorem dX1_kindOf_12 : decode cX1_kindOf 12 = .ok (.aload_n 0, 1) := by decide +kernel
theorem dX1_kindOf_13 : decode cX1_kindOf 13 = .ok (.getfield 27, 3) := by decide +kernel
theorem dX1_kindOf_16 : decode cX1_kindOf 16 = .ok (.arraylength, 1) := by decide +kernel
theorem dX1_kindOf_17 : decode cX1_kindOf 17 = .ok (.if_icmp .ge 12, 3) := by decide +kernel
theorem dX1_kindOf_20 : decode cX1_kindOf 20 = .ok (.aload_n 0, 1) := by decide +kernel
theorem dX1_kindOf_21 : decode cX1_kindOf 21 = .ok (.getfield 27, 3) := by decide +kernel
theorem dX1_kindOf_24 : decode cX1_kindOf 24 = .ok (.iload_n 3, 1) := by decide +kernel
theorem dX1_kindOf_25 : decode cX1_kindOf 25 = .ok (.aaload, 1) := by decide +kernel
theorem dX1_kindOf_26 : decode cX1_kindOf 26 = .ok (.goto 9, 3) := by decide +kernel
theorem dX1_kindOf_29 : decode cX1_kindOf 29 = .ok (.aload_n 0, 1) := by decide +kernel
theorem dX1_kindOf_30 : decode cX1_kindOf 30 = .ok (.getfield 27, 3) := by decide +kernel
theorem dX1_kindOf_33 : decode cX1_kindOf 33 = .ok (.iconst 0, 1) := by decide +kernel
theorem dX1_kindOf_34 : decode cX1_kindOf 34 = .ok (.aaload, 1) := by decide +kernel
theorem dX1_kindOf_35 : decode cX1_kindOf 35 = .ok (.areturn, 1) := by decide +kernel
theorem dX1_serve_0 : decode cX1_serve 0 = .ok (.aload_n 0, 1) := by decide +kernel
theorem dX1_serve_1 : decode cX1_serve 1 = .ok (.aload_n 1, 1) := by decide +kernel
theorem dX1_serve_2 : decode cX1_serve 2 = .ok (.iload_n 2, 1) := by decide +kernel
theorem dX1_serve_3 : decode cX1_serve 3 = .ok (.invokevirtual 103, 3) := by decide +kernel
theorem dX1_serve_6 : decode cX1_serve 6 = .ok (.astore_n 3, 1) := by decide +kernel
theorem dX1_serve_7 : decode cX1_serve 7 = .ok (.aload_n 1, 1) := by decide +kernel
theorem dX1_serve_8 : decode cX1_serve 8 = .ok (.aload_n 1, 1) := by decide +kernel
theorem dX1_serve_9 : decode cX1_serve 9 = .ok (.getfield 117, 3) := by decide +kernel
theorem dX1_serve_12 : decode cX1_serve 12 = .ok (.iload_n 2, 1) := by decide +kernel
theorem dX1_serve_13 : decode cX1_serve 13 = .ok (.iaload, 1) := by decide +kernel
theorem dX1_serve_14 : decode cX1_serve 14 = .ok (.invokevirtual 120, 3) := by decide +kernel
theorem dX1_serve_17 : decode cX1_serve 17 = .ok (.istore 4, 2) := by decide +kernel
theorem dX1_serve_19 : decode cX1_serve 19 = .ok (.aload_n 0, 1) := by decide +kernel
theorem dX1_serve_20 : decode cX1_serve 20 = .ok (.getfield 40, 3) := by decide +kernel
theorem dX1_serve_23 : decode cX1_serve 23 = .ok (.iload_n 2, 1) := by decide +kernel
theorem dX1_serve_24 : decode cX1_serve 24 = .ok (.aload_n 0, 1) := by decide +kernel
theorem dX1_serve_25 : decode cX1_serve 25 = .ok (.getfield 37, 3) := by decide +kernel
theorem dX1_serve_28 : decode cX1_serve 28 = .ok (.iload_n 2, 1) := by decide +kernel
theorem dX1_serve_29 : decode cX1_serve 29 = .ok (.iaload, 1) := by decide +kernel
theorem dX1_serve_30 : decode cX1_serve 30 = .ok (.iload 4, 2) := by decide +kernel
theorem dX1_serve_32 : decode cX1_serve 32 = .ok (.invokestatic 123, 3) := by decide +kernel
theorem dX1_serve_35 : decode cX1_serve 35 = .ok (.iastore, 1) := by decide +kernel
theorem dX1_serve_36 : decode cX1_serve 36 = .ok (.aload_n 0, 1) := by decide +kernel
theorem dX1_serve_37 : decode cX1_serve 37 = .ok (.getfield 43, 3) := by decide +kernel
theorem dX1_serve_40 : decode cX1_serve 40 = .ok (.iload_n 2, 1) := by decide +kernel
theorem dX1_serve_41 : decode cX1_serve 41 = .ok (.iconst 0, 1) := by decide +kernel
theorem dX1_serve_42 : decode cX1_serve 42 = .ok (.aload_n 1, 1) := by decide +kernel
theorem dX1_serve_43 : decode cX1_serve 43 = .ok (.getfield 129, 3) := by decide +kernel
theorem dX1_serve_46 : decode cX1_serve 46 = .ok (.iload_n 2, 1) := by decide +kernel
theorem dX1_serve_47 : decode cX1_serve 47 = .ok (.iaload, 1) := by decide +kernel
theorem dX1_serve_48 : decode cX1_serve 48 = .ok (.aload_n 3, 1) := by decide +kernel
theorem dX1_serve_49 : decode cX1_serve 49 = .ok (.aload_n 0, 1) := by decide +kernel
theorem dX1_serve_50 : decode cX1_serve 50 = .ok (.getfield 40, 3) := by decide +kernel
theorem dX1_serve_53 : decode cX1_serve 53 = .ok (.iload_n 2, 1) := by decide +kernel
theorem dX1_serve_54 : decode cX1_serve 54 = .ok (.iaload, 1) := by decide +kernel
theorem dX1_serve_55 : decode cX1_serve 55 = .ok (.invokevirtual 132, 3) := by decide +kernel
theorem dX1_serve_58 : decode cX1_serve 58 = .ok (.isub, 1) := by decide +kernel
theorem dX1_serve_59 : decode cX1_serve 59 = .ok (.invokestatic 123, 3) := by decide +kernel
theorem dX1_serve_62 : decode cX1_serve 62 = .ok (.iastore, 1) := by decide +kernel
theorem dX1_serve_63 : decode cX1_serve 63 = .ok (.aload_n 0, 1) := by decide +kernel
theorem dX1_serve_64 : decode cX1_serve 64 = .ok (.getfield 46, 3) := by decide +kernel
theorem dX1_serve_67 : decode cX1_serve 67 = .ok (.iload_n 2, 1) := by decide +kernel
theorem dX1_serve_68 : decode cX1_serve 68 = .ok (.iconst 0, 1) := by decide +kernel
theorem dX1_serve_69 : decode cX1_serve 69 = .ok (.aload_n 0, 1) := by decide +kernel
theorem dX1_serve_70 : decode cX1_serve 70 = .ok (.getfield 37, 3) := by decide +kernel
theorem dX1_serve_73 : decode cX1_serve 73 = .ok (.iload_n 2, 1) := by decide +kernel
theorem dX1_serve_74 : decode cX1_serve 74 = .ok (.iaload, 1) := by decide +kernel
theorem dX1_serve_75 : decode cX1_serve 75 = .ok (.iload 4, 2) := by decide +kernel
theorem dX1_serve_77 : decode cX1_serve 77 = .ok (.isub, 1) := by decide +kernel
theorem dX1_serve_78 : decode cX1_serve 78 = .ok (.invokestatic 123, 3) := by decide +kernel
theorem dX1_serve_81 : decode cX1_serve 81 = .ok (.iastore, 1) := by decide +kernel
theorem dX1_serve_82 : decode cX1_serve 82 = .ok (.aload_n 0, 1) := by decide +kernel
theorem dX1_serve_83 : decode cX1_serve 83 = .ok (.getfield 52, 3) := by decide +kernel
theorem dX1_serve_86 : decode cX1_serve 86 = .ok (.iload_n 2, 1) := by decide +kernel
theorem dX1_serve_87 : decode cX1_serve 87 = .ok (.aload_n 0, 1) := by decide +kernel
theorem dX1_serve_88 : decode cX1_serve 88 = .ok (.getfield 40, 3) := by decide +kernel
theorem dX1_serve_91 : decode cX1_serve 91 = .ok (.iload_n 2, 1) := by decide +kernel
theorem dX1_serve_92 : decode cX1_serve 92 = .ok (.iaload, 1) := by decide +kernel
theorem dX1_serve_93 : decode cX1_serve 93 = .ok (.aload_n 0, 1) := by decide +kernel
theorem dX1_serve_94 : decode cX1_serve 94 = .ok (.getfield 37, 3) := by decide +kernel
theorem dX1_serve_97 : decode cX1_serve 97 = .ok (.iload_n 2, 1) := by decide +kernel
theorem dX1_serve_98 : decode cX1_serve 98 = .ok (.iaload, 1) := by decide +kernel
theorem dX1_serve_99 : decode cX1_serve 99 = .ok (.isub, 1) := by decide +kernel
theorem dX1_serve_100 : decode cX1_serve 100 = .ok (.iastore, 1) := by decide +kernel
theorem dX1_serve_101 : decode cX1_serve 101 = .ok (.aload_n 0, 1) := by decide +kernel
theorem dX1_serve_102 : decode cX1_serve 102 = .ok (.getfield 55, 3) := by decide +kernel
theorem dX1_serve_105 : decode cX1_serve 105 = .ok (.iload_n 2, 1) := by decide +kernel
theorem dX1_serve_106 : decode cX1_serve 106 = .ok (.aload_n 3, 1) := by decide +kernel
theorem dX1_serve_107 : decode cX1_serve 107 = .ok (.aload_n 1, 1) := by decide +kernel
theorem dX1_serve_108 : decode cX1_serve 108 = .ok (.getfield 75, 3) := by decide +kernel
theorem dX1_serve_111 : decode cX1_serve 111 = .ok (.iconst 4, 1) := by decide +kernel
theorem dX1_serve_112 : decode cX1_serve 112 = .ok (.iaload, 1) := by decide +kernel
theorem dX1_serve_113 : decode cX1_serve 113 = .ok (.invokevirtual 135, 3) := by decide +kernel
theorem dX1_serve_116 : decode cX1_serve 116 = .ok (.iastore, 1) := by decide +kernel
theorem dX1_serve_117 : decode cX1_serve 117 = .ok (.return_, 1) := by decide +kernel
theorem dX1_sumUp_0 : decode cX1_sumUp 0 = .ok (.aload_n 0, 1) := by decide +kernel
theorem dX1_sumUp_1 : decode cX1_sumUp 1 = .ok (.getfield 58, 3) := by decide +kernel
theorem dX1_sumUp_4 : decode cX1_sumUp 4 = .ok (.iconst 0, 1) := by decide +kernel
theorem dX1_sumUp_5 : decode cX1_sumUp 5 = .ok (.aload_n 1, 1) := by decide +kernel
theorem dX1_sumUp_6 : decode cX1_sumUp 6 = .ok (.aload_n 0, 1) := by decide +kernel
theorem dX1_sumUp_7 : decode cX1_sumUp 7 = .ok (.getfield 46, 3) := by decide +kernel
theorem dX1_sumUp_10 : decode cX1_sumUp 10 = .ok (.invokevirtual 138, 3) := by decide +kernel
theorem dX1_sumUp_13 : decode cX1_sumUp 13 = .ok (.iastore, 1) := by decide +kernel
theorem dX1_sumUp_14 : decode cX1_sumUp 14 = .ok (.aload_n 0, 1) := by decide +kernel
theorem dX1_sumUp_15 : decode cX1_sumUp 15 = .ok (.getfield 58, 3) := by decide +kernel
theorem dX1_sumUp_18 : decode cX1_sumUp 18 = .ok (.iconst 1, 1) := by decide +kernel
theorem dX1_sumUp_19 : decode cX1_sumUp 19 = .ok (.iconst 0, 1) := by decide +kernel
theorem dX1_sumUp_20 : decode cX1_sumUp 20 = .ok (.iastore, 1) := by decide +kernel
theorem dX1_sumUp_21 : decode cX1_sumUp 21 = .ok (.iconst 0, 1) := by decide +kernel
theorem dX1_sumUp_22 : decode cX1_sumUp 22 = .ok (.istore_n 2, 1) := by decide +kernel
theorem dX1_sumUp_23 : decode cX1_sumUp 23 = .ok (.iload_n 2, 1) := by decide +kernel
theorem dX1_sumUp_24 : decode cX1_sumUp 24 = .ok (.aload_n 1, 1) := by decide +kernel
theorem dX1_sumUp_25 : decode cX1_sumUp 25 = .ok (.getfield 78, 3) := by decide +kernel
theorem dX1_sumUp_28 : decode cX1_sumUp 28 = .ok (.if_icmp .ge 30, 3) := by decide +kernel
theorem dX1_sumUp_31 : decode cX1_sumUp 31 = .ok (.aload_n 0, 1) := by decide +kernel
theorem dX1_sumUp_32 : decode cX1_sumUp 32 = .ok (.getfield 58, 3) := by decide +kernel
theorem dX1_sumUp_35 : decode cX1_sumUp 35 = .ok (.iconst 1, 1) := by decide +kernel
theorem dX1_sumUp_36 : decode cX1_sumUp 36 = .ok (.aload_n 0, 1) := by decide +kernel
theorem dX1_sumUp_37 : decode cX1_sumUp 37 = .ok (.getfield 58, 3) := by decide +kernel
theorem dX1_sumUp_40 : decode cX1_sumUp 40 = .ok (.iconst 1, 1) := by decide +kernel
theorem dX1_sumUp_41 : decode cX1_sumUp 41 = .ok (.iaload, 1) := by decide +kernel
theorem dX1_sumUp_42 : decode cX1_sumUp 42 = .ok (.aload_n 0, 1) := by decide +kernel
theorem dX1_sumUp_43 : decode cX1_sumUp 43 = .ok (.getfield 46, 3) := by decide +kernel
theorem dX1_sumUp_46 : decode cX1_sumUp 46 = .ok (.iload_n 2, 1) := by decide +kernel
theorem dX1_sumUp_47 : decode cX1_sumUp 47 = .ok (.iaload, 1) := by decide +kernel
theorem dX1_sumUp_48 : decode cX1_sumUp 48 = .ok (.invokestatic 123, 3) := by decide +kernel
theorem dX1_sumUp_51 : decode cX1_sumUp 51 = .ok (.iastore, 1) := by decide +kernel
theorem dX1_sumUp_52 : decode cX1_sumUp 52 = .ok (.iinc 2 1, 3) := by decide +kernel
theorem dX1_sumUp_55 : decode cX1_sumUp 55 = .ok (.goto (-32), 3) := by decide +kernel
theorem dX1_sumUp_58 : decode cX1_sumUp 58 = .ok (.aload_n 0, 1) := by decide +kernel
theorem dX1_sumUp_59 : decode cX1_sumUp 59 = .ok (.getfield 58, 3) := by decide +kernel
theorem dX1_sumUp_62 : decode cX1_sumUp 62 = .ok (.iconst 2, 1) := by decide +kernel
theorem dX1_sumUp_63 : decode cX1_sumUp 63 = .ok (.aload_n 1, 1) := by decide +kernel
theorem dX1_sumUp_64 : decode cX1_sumUp 64 = .ok (.aload_n 0, 1) := by decide +kernel
theorem dX1_sumUp_65 : decode cX1_sumUp 65 = .ok (.getfield 43, 3) := by decide +kernel
theorem dX1_sumUp_68 : decode cX1_sumUp 68 = .ok (.invokevirtual 138, 3) := by decide +kernel
theorem dX1_sumUp_71 : decode cX1_sumUp 71 = .ok (.iastore, 1) := by decide +kernel
theorem dX1_sumUp_72 : decode cX1_sumUp 72 = .ok (.aload_n 0, 1) := by decide +kernel
theorem dX1_sumUp_73 : decode cX1_sumUp 73 = .ok (.getfield 58, 3) := by decide +kernel
theorem dX1_sumUp_76 : decode cX1_sumUp 76 = .ok (.iconst 3, 1) := by decide +kernel
theorem dX1_sumUp_77 : decode cX1_sumUp 77 = .ok (.aload_n 1, 1) := by decide +kernel
theorem dX1_sumUp_78 : decode cX1_sumUp 78 = .ok (.aload_n 0, 1) := by decide +kernel
theorem dX1_sumUp_79 : decode cX1_sumUp 79 = .ok (.getfield 55, 3) := by decide +kernel
theorem dX1_sumUp_82 : decode cX1_sumUp 82 = .ok (.invokevirtual 138, 3) := by decide +kernel
theorem dX1_sumUp_85 : decode cX1_sumUp 85 = .ok (.iastore, 1) := by decide +kernel
theorem dX1_sumUp_86 : decode cX1_sumUp 86 = .ok (.aload_n 0, 1) := by decide +kernel
theorem dX1_sumUp_87 : decode cX1_sumUp 87 = .ok (.getfield 58, 3) := by decide +kernel
theorem dX1_sumUp_90 : decode cX1_sumUp 90 = .ok (.iconst 4, 1) := by decide +kernel
theorem dX1_sumUp_91 : decode cX1_sumUp 91 = .ok (.aload_n 1, 1) := by decide +kernel
theorem dX1_sumUp_92 : decode cX1_sumUp 92 = .ok (.aload_n 0, 1) := by decide +kernel
theorem dX1_sumUp_93 : decode cX1_sumUp 93 = .ok (.getfield 52, 3) := by decide +kernel
theorem dX1_sumUp_96 : decode cX1_sumUp 96 = .ok (.invokevirtual 138, 3) := by decide +kernel
theorem dX1_sumUp_99 : decode cX1_sumUp 99 = .ok (.iastore, 1) := by decide +kernel
theorem dX1_sumUp_100 : decode cX1_sumUp 100 = .ok (.aload_n 0, 1) := by decide +kernel
theorem dX1_sumUp_101 : decode cX1_sumUp 101 = .ok (.getfield 58, 3) := by decide +kernel
theorem dX1_sumUp_104 : decode cX1_sumUp 104 = .ok (.bipush 7, 2) := by decide +kernel
theorem dX1_sumUp_106 : decode cX1_sumUp 106 = .ok (.aload_n 0, 1) := by decide +kernel
theorem dX1_sumUp_107 : decode cX1_sumUp 107 = .ok (.getfield 58, 3) := by decide +kernel
theorem dX1_sumUp_110 : decode cX1_sumUp 110 = .ok (.iconst 2, 1) := by decide +kernel
theorem dX1_sumUp_111 : decode cX1_sumUp 111 = .ok (.iaload, 1) := by decide +kernel
theorem dX1_sumUp_112 : decode cX1_sumUp 112 = .ok (.aload_n 0, 1) := by decide +kernel
theorem dX1_sumUp_113 : decode cX1_sumUp 113 = .ok (.getfield 58, 3) := by decide +kernel
theorem dX1_sumUp_116 : decode cX1_sumUp 116 = .ok (.iconst 0, 1) := by decide +kernel
theorem dX1_sumUp_117 : decode cX1_sumUp 117 = .ok (.iaload, 1) := by decide +kernel
theorem dX1_sumUp_118 : decode cX1_sumUp 118 = .ok (.isub, 1) := by decide +kernel
theorem dX1_sumUp_119 : decode cX1_sumUp 119 = .ok (.iconst 5, 1) := by decide +kernel
theorem dX1_sumUp_120 : decode cX1_sumUp 120 = .ok (.aload_n 0, 1) := by decide +kernel
theorem dX1_sumUp_121 : decode cX1_sumUp 121 = .ok (.getfield 58, 3) := by decide +kernel
theorem dX1_sumUp_124 : decode cX1_sumUp 124 = .ok (.iconst 3, 1) := by decide +kernel
theorem dX1_sumUp_125 : decode cX1_sumUp 125 = .ok (.iaload, 1) := by decide +kernel
theorem dX1_sumUp_126 : decode cX1_sumUp 126 = .ok (.imul, 1) := by decide +kernel
theorem dX1_sumUp_127 : decode cX1_sumUp 127 = .ok (.isub, 1) := by decide +kernel
theorem dX1_sumUp_128 : decode cX1_sumUp 128 = .ok (.iastore, 1) := by decide +kernel
theorem dX1_sumUp_129 : decode cX1_sumUp 129 = .ok (.return_, 1) := by decide +kernel
theorem dX1_isHalved_0 : decode cX1_isHalved 0 = .ok (.bipush (-9), 2) := by decide +kernel
theorem dX1_isHalved_2 : decode cX1_isHalved 2 = .ok (.istore_n 3, 1) := by decide +kernel
theorem dX1_isHalved_3 : decode cX1_isHalved 3 = .ok (.iconst 0, 1) := by decide +kernel
theorem dX1_isHalved_4 : decode cX1_isHalved 4 = .ok (.istore 4, 2) := by decide +kernel
theorem dX1_isHalved_6 : decode cX1_isHalved 6 = .ok (.iload 4, 2) := by decide +kernel
theorem dX1_isHalved_8 : decode cX1_isHalved 8 = .ok (.aload_n 1, 1) := by decide +kernel
theorem dX1_isHalved_9 : decode cX1_isHalved 9 = .ok (.getfield 78, 3) := by decide +kernel
theorem dX1_isHalved_12 : decode cX1_isHalved 12 = .ok (.if_icmp .ge 47, 3) := by decide +kernel
theorem dX1_isHalved_15 : decode cX1_isHalved 15 = .ok (.aload_n 1, 1) := by decide +kernel
theorem dX1_isHalved_16 : decode cX1_isHalved 16 = .ok (.getfield 117, 3) := by decide +kernel
theorem dX1_isHalved_19 : decode cX1_isHalved 19 = .ok (.iload 4, 2) := by decide +kernel
theorem dX1_isHalved_21 : decode cX1_isHalved 21 = .ok (.iaload, 1) := by decide +kernel
theorem dX1_isHalved_22 : decode cX1_isHalved 22 = .ok (.iload_n 2, 1) := by decide +kernel
theorem dX1_isHalved_23 : decode cX1_isHalved 23 = .ok (.if_icmp .ne 30, 3) := by decide +kernel
theorem dX1_isHalved_26 : decode cX1_isHalved 26 = .ok (.iload_n 3, 1) := by decide +kernel
theorem dX1_isHalved_27 : decode cX1_isHalved 27 = .ok (.bipush (-9), 2) := by decide +kernel
theorem dX1_isHalved_29 : decode cX1_isHalved 29 = .ok (.if_icmp .eq 16, 3) := by decide +kernel
theorem dX1_isHalved_32 : decode cX1_isHalved 32 = .ok (.iload_n 3, 1) := by decide +kernel
theorem dX1_isHalved_33 : decode cX1_isHalved 33 = .ok (.aload_n 0, 1) := by decide +kernel
theorem dX1_isHalved_34 : decode cX1_isHalved 34 = .ok (.getfield 49, 3) := by decide +kernel
theorem dX1_isHalved_37 : decode cX1_isHalved 37 = .ok (.iload 4, 2) := by decide +kernel
theorem dX1_isHalved_39 : decode cX1_isHalved 39 = .ok (.iaload, 1) := by decide +kernel
theorem dX1_isHalved_40 : decode cX1_isHalved 40 = .ok (.if_icmp .eq 5, 3) := by decide +kernel
theorem dX1_isHalved_43 : decode cX1_isHalved 43 = .ok (.iconst 1, 1) := by decide +kernel
theorem dX1_isHalved_44 : decode cX1_isHalved 44 = .ok (.ireturn, 1) := by decide +kernel
theorem dX1_isHalved_45 : decode cX1_isHalved 45 = .ok (.aload_n 0, 1) := by decide +kernel
theorem dX1_isHalved_46 : decode cX1_isHalved 46 = .ok (.getfield 49, 3) := by decide +kernel
theorem dX1_isHalved_49 : decode cX1_isHalved 49 = .ok (.iload 4, 2) := by decide +kernel
theorem dX1_isHalved_51 : decode cX1_isHalved 51 = .ok (.iaload, 1) := by decide +kernel
theorem dX1_isHalved_52 : decode cX1_isHalved 52 = .ok (.istore_n 3, 1) := by decide +kernel
theorem dX1_isHalved_53 : decode cX1_isHalved 53 = .ok (.iinc 4 1, 3) := by decide +kernel
theorem dX1_isHalved_56 : decode cX1_isHalved 56 = .ok (.goto (-50), 3) := by decide +kernel
theorem dX1_isHalved_59 : decode cX1_isHalved 59 = .ok (.iconst 0, 1) := by decide +kernel
theorem dX1_isHalved_60 : decode cX1_isHalved 60 = .ok (.ireturn, 1) := by decide +kernel
abbrev mi_X1_kindOf : ob_MI := (yX1_kindOf, ob_ws yX1_kindOf cX1_kindOf 4 (some (.object "BoxOnARope$Plain")), cX1_kindOf, 4, (some (.object "BoxOnARope$Plain")), { frames := 0, cells := 0, slots := 0, locals := 0 })
theorem gf_X1_kindOf_114 : ob_GF mi_X1_kindOf 114 3 1 := ⟨RX3, TX3, 9, rfl, by decide, fun x h => List.mem_cons_of_mem _ (uw_X3 x h), List.mem_cons_of_mem _ tw_86⟩
theorem gf_X1_kindOf_27 : ob_GF mi_X1_kindOf 27 1 0 := ⟨RX1, TX1, 11, rfl, by decide, fun x h => List.mem_cons_of_mem _ (uw_X1 x h), List.mem_cons_of_mem _ tw_189⟩
noncomputable def f_X1_kindOf (b : Nat) (σ : ob_St) (p2 : Int32) : Option (Nat × ob_St) :=
  ob_ld σ (b + 1) 6 p2 fun v_1 =>
  if v_1 < 0 then
    ob_lq [32, 33, 34, 35, 36, 37] 0 fun q2 =>
    some (q2, σ)
  else
    if (6 : Int32) ≤ v_1 then
      ob_lq [32, 33, 34, 35, 36, 37] 0 fun q3 =>
      some (q3, σ)
    else
      ob_lq [32, 33, 34, 35, 36, 37] v_1 fun q4 =>
      some (q4, σ)
set_option maxRecDepth 100000 in
set_option maxHeartbeats 4000000 in
theorem c_X1_kindOf {g : ob_GT} {ad : Nat → Nat} {b : Nat} (hb : ob_isK b) {r : Nat} {σ' : ob_St} {σ : ob_St} {p2 : Int32} (hf : f_X1_kindOf b σ p2 = some (r, σ')) : ob_CT g (ob_X ad) mi_X1_kindOf [.ref (ad 30), .ref (ad b), .int p2] σ (some (.ref (ad r))) σ' := by
  refine ob_ct (by decide +kernel) rfl (Nat.le_of_ble_eq_true rfl) ?_
  show ob_V g (ob_X ad) mi_X1_kindOf (some (.ref (ad r))) σ' σ 0 [(0, .ref (ad 30)), (1, .ref (ad b)), (2, .int p2)] []
  refine vv_aload_n dX1_kindOf_0 1 rfl rfl 1 rfl ?_
  refine vv_getR dX1_kindOf_1 1 gf_X1_kindOf_114 (ob_kl0 hb) (ob_ks hb) rfl 4 rfl ?_
  refine vv_iload_n dX1_kindOf_4 2 rfl rfl 5 rfl ?_
  refine vv_iald dX1_kindOf_5 (ob_kl 1 hb (by decide)) (ob_ka1 hb) 6 rfl hf (fun v_1 hf => ?_)
  refine vv_istore_n dX1_kindOf_6 [(3, .int v_1), (0, .ref (ad 30)), (1, .ref (ad b)), (2, .int p2)] rfl (Nat.le_of_ble_eq_true rfl) rfl 7 rfl ?_
  refine vv_iload_n dX1_kindOf_7 0 rfl rfl 8 rfl ?_
  refine vv_if_lt dX1_kindOf_8 29 11 rfl rfl hf (fun hf => ?_) (fun hf => ?_)
  · refine vv_aload_n dX1_kindOf_29 1 rfl rfl 30 rfl ?_
    refine vv_getR dX1_kindOf_30 0 gf_X1_kindOf_27 ob_l30 rfl rfl 33 rfl ?_
    refine vv_iconst dX1_kindOf_33 0 rfl 34 rfl ?_
    refine vv_aald dX1_kindOf_34 ob_l31 rfl 35 rfl hf (fun q2 _ hf => ?_)
    exact vv_aret ad rfl dX1_kindOf_35 hf
  · refine vv_iload_n dX1_kindOf_11 0 rfl rfl 12 rfl ?_
    refine vv_aload_n dX1_kindOf_12 1 rfl rfl 13 rfl ?_
    refine vv_getR dX1_kindOf_13 0 gf_X1_kindOf_27 ob_l30 rfl rfl 16 rfl ?_
    refine vv_qlen dX1_kindOf_16 6 ob_l31 rfl rfl 17 rfl ?_
    refine vv_icmp_ge dX1_kindOf_17 29 20 rfl rfl hf (fun hf => ?_) (fun hf => ?_)
    · refine vv_aload_n dX1_kindOf_29 1 rfl rfl 30 rfl ?_
      refine vv_getR dX1_kindOf_30 0 gf_X1_kindOf_27 ob_l30 rfl rfl 33 rfl ?_
      refine vv_iconst dX1_kindOf_33 0 rfl 34 rfl ?_
      refine vv_aald dX1_kindOf_34 ob_l31 rfl 35 rfl hf (fun q3 _ hf => ?_)
      exact vv_aret ad rfl dX1_kindOf_35 hf
    · refine vv_aload_n dX1_kindOf_20 1 rfl rfl 21 rfl ?_
      refine vv_getR dX1_kindOf_21 0 gf_X1_kindOf_27 ob_l30 rfl rfl 24 rfl ?_
      refine vv_iload_n dX1_kindOf_24 0 rfl rfl 25 rfl ?_
      refine vv_aald dX1_kindOf_25 ob_l31 rfl 26 rfl hf (fun q4 _ hf => ?_)
      refine vv_goto dX1_kindOf_26 35 rfl ?_
      exact vv_aret ad rfl dX1_kindOf_35 hf
abbrev mi_X1_behindGo : ob_MI := (yX1_behindGo, ob_ws yX1_behindGo cX1_behindGo 6 (some .int), cX1_behindGo, 6, (some .int), { frames := 1, cells := 0, slots := 0, locals := 23 })
theorem gf_X1_behindGo_33 : ob_GF mi_X1_behindGo 33 1 1 := ⟨RX1, TX1, 11, rfl, by decide, fun x h => List.mem_cons_of_mem _ (uw_X1 x h), List.mem_cons_of_mem _ tw_190⟩
theorem cv_X1_behindGo_103 : ob_CV mi_X1_behindGo mi_X1_kindOf 103 RX1 2 := ob_cvI rfl rfl tw_555 tw_557 tw_9 tw_51 tw_558 ⟨rfl, rfl⟩ ⟨rfl, by decide +kernel, by decide +kernel, by decide +kernel⟩ ⟨Nat.le_of_ble_eq_true rfl, Nat.le_of_ble_eq_true rfl⟩
theorem gf_X1_behindGo_111 : ob_GF mi_X1_behindGo 111 3 4 := ⟨RX3, TX3, 9, rfl, by decide, fun x h => List.mem_cons_of_mem _ (uw_X3 x h), List.mem_cons_of_mem _ tw_95⟩
theorem gf_X1_behindGo_89 : ob_GF mi_X1_behindGo 89 1 2 := ⟨RX1, TX1, 11, rfl, by decide, fun x h => List.mem_cons_of_mem _ (uw_X1 x h), List.mem_cons_of_mem _ tw_191⟩
theorem gf_X1_behindGo_75 : ob_GF mi_X1_behindGo 75 3 8 := ⟨RX3, TX3, 9, rfl, by decide, fun x h => List.mem_cons_of_mem _ (uw_X3 x h), List.mem_cons_of_mem _ tw_104⟩
set_option maxHeartbeats 4000000 in
theorem vd_X1_behindGo_107 {α : Type} {r : α} {g : ob_GT} {ad : Nat → Nat} {ov : Option Value} {σ σ' : ob_St} {pc q : Nat} {lv : List (Nat × Value)} {rest : List Value} {K : Int32 → ob_St → Option α} (hd : decode cX1_behindGo pc = .ok (.invokevirtual 107, 3)) (hro : (rest.map fun v => v.category).sum ≤ 8) (pc' : Nat) (hp : pc + 3 = pc') (hf : ob_bd (f_disp_isAlone q σ) K = some r) (kk : ∀ (r1 : Int32) (σ1 : ob_St), K r1 σ1 = some r → ob_V g (ob_X ad) mi_X1_behindGo ov σ' σ1 pc' lv (.int r1 :: rest)) : ob_V g (ob_X ad) mi_X1_behindGo ov σ' σ pc lv (.ref (ad q) :: rest) := by
  unfold f_disp_isAlone at hf
  by_cases h32 : q = 32
  · subst h32
    rw [if_pos rfl] at hf
    exact vv_callU (n := 0) (owner := "BoxOnARope$Plain") hd [] rest (fun _ _ h => c_X6_isAlone h) (ob_rec ob_l32 rfl rfl) rfl rfl tw_559 tw_562 tw_561 tw_560 tw_52 tw_570 (Or.inl rfl) ⟨rfl, rfl⟩ ⟨by decide +kernel, by decide +kernel, by decide +kernel⟩ ⟨Nat.le_of_ble_eq_true rfl, Nat.le_of_ble_eq_true rfl⟩ rfl hro pc' hp rfl hf kk
  rw [if_neg h32] at hf
  by_cases h33 : q = 33
  · subst h33
    rw [if_pos rfl] at hf
    exact vv_callU (n := 0) (owner := "BoxOnARope$Plain") hd [] rest (fun _ _ h => c_X6_isAlone h) (ob_rec ob_l33 rfl rfl) rfl rfl tw_559 tw_562 tw_569 tw_560 tw_52 tw_570 (Or.inl rfl) ⟨rfl, rfl⟩ ⟨by decide +kernel, by decide +kernel, by decide +kernel⟩ ⟨Nat.le_of_ble_eq_true rfl, Nat.le_of_ble_eq_true rfl⟩ rfl hro pc' hp rfl hf kk
  rw [if_neg h33] at hf
  by_cases h34 : q = 34
  · subst h34
    rw [if_pos rfl] at hf
    exact vv_callU (n := 0) (owner := "BoxOnARope$Plain") hd [] rest (fun _ _ h => c_X6_isAlone h) (ob_rec ob_l34 rfl rfl) rfl rfl tw_559 tw_562 tw_565 tw_560 tw_52 tw_570 (Or.inl rfl) ⟨rfl, rfl⟩ ⟨by decide +kernel, by decide +kernel, by decide +kernel⟩ ⟨Nat.le_of_ble_eq_true rfl, Nat.le_of_ble_eq_true rfl⟩ rfl hro pc' hp rfl hf kk
  rw [if_neg h34] at hf
  by_cases h35 : q = 35
  · subst h35
    rw [if_pos rfl] at hf
    exact vv_callU (n := 0) (owner := "BoxOnARope$Plain") hd [] rest (fun _ _ h => c_X6_isAlone h) (ob_rec ob_l35 rfl rfl) rfl rfl tw_559 tw_562 tw_563 tw_560 tw_52 tw_570 (Or.inl rfl) ⟨rfl, rfl⟩ ⟨by decide +kernel, by decide +kernel, by decide +kernel⟩ ⟨Nat.le_of_ble_eq_true rfl, Nat.le_of_ble_eq_true rfl⟩ rfl hro pc' hp rfl hf kk
  rw [if_neg h35] at hf
  by_cases h36 : q = 36
  · subst h36
    rw [if_pos rfl] at hf
    exact vv_callU (n := 0) (owner := "BoxOnARope$Plain") hd [] rest (fun _ _ h => c_X6_isAlone h) (ob_rec ob_l36 rfl rfl) rfl rfl tw_559 tw_562 tw_564 tw_560 tw_52 tw_570 (Or.inl rfl) ⟨rfl, rfl⟩ ⟨by decide +kernel, by decide +kernel, by decide +kernel⟩ ⟨Nat.le_of_ble_eq_true rfl, Nat.le_of_ble_eq_true rfl⟩ rfl hro pc' hp rfl hf kk
  rw [if_neg h36] at hf
  by_cases h37 : q = 37
  · subst h37
    rw [if_pos rfl] at hf
    exact vv_callU (n := 0) (owner := "BoxOnARope$Plain") hd [] rest (fun _ _ h => c_X7_isAlone h) (ob_rec ob_l37 rfl rfl) rfl rfl tw_559 tw_562 tw_566 tw_567 tw_57 tw_568 (Or.inr ⟨tw_560, _, _, _, tw_570⟩) ⟨rfl, rfl⟩ ⟨by decide +kernel, by decide +kernel, by decide +kernel⟩ ⟨Nat.le_of_ble_eq_true rfl, Nat.le_of_ble_eq_true rfl⟩ rfl hro pc' hp rfl hf kk
  rw [if_neg h37] at hf
  exact absurd hf (fun h => by cases h)
noncomputable def L_X1_behindGo_39 (b : Nat) : Nat → ob_St → Int32 → Int32 → Option (Int32 × ob_St)
  | 0, _, _, _ => none
  | n + 1, σ, v4, v5 =>
    if (σ 30 2) ≤ v5 then
      some ((σ 30 2), σ)
    else
      ob_ld σ 38 6 v5 fun v_9 =>
      ob_ld σ (b + 4) 6 v_9 fun v_10 =>
      ob_nm (v4 + v_10) fun v_11 =>
      ob_ld σ (b + 8) 6 0 fun v_12 =>
      if v_12 < v_11 then
        some (v5, σ)
      else
        ob_ld σ 38 6 v5 fun v_13 =>
        ob_bd (f_X1_kindOf b σ v_13) fun q14 σ15 =>
        ob_bd (f_disp_isAlone q14 σ15) fun r16 σ17 =>
        if r16 = 0 then
          L_X1_behindGo_39 b n σ17 v_11 (v5 + 1)
        else
          some (v5, σ17)
noncomputable def f_X1_behindGo (b : Nat) (σ : ob_St) (p2 : Int32) : Option (Int32 × ob_St) :=
  ob_nm (p2 + 1) fun v_1 =>
  ob_ld σ 38 6 p2 fun v_2 =>
  ob_bd (f_X1_kindOf b σ v_2) fun q3 σ4 =>
  ob_bd (f_disp_isAlone q3 σ4) fun r5 σ6 =>
  if r5 = 0 then
    ob_ld σ6 38 6 p2 fun v_7 =>
    ob_ld σ6 (b + 4) 6 v_7 fun v_8 =>
    L_X1_behindGo_39 b 1000 σ6 v_8 v_1
  else
    some (v_1, σ6)
set_option maxRecDepth 100000 in
set_option maxHeartbeats 4000000 in
theorem l_X1_behindGo_39 {g : ob_GT} {ad : Nat → Nat} {b : Nat} (hb : ob_isK b) {r : Int32} {σ' : ob_St} : ∀ (n : Nat) {σ : ob_St} {v4 : Int32} {v5 : Int32}, L_X1_behindGo_39 b n σ v4 v5 = some (r, σ') → ob_V g (ob_X ad) mi_X1_behindGo (some (.int r)) σ' σ 39 [(0, .ref (ad 30)), (1, .ref (ad b)), (4, .int v4), (5, .int v5)] [] := by
  intro n
  induction n with
  | zero => intro σ v4 v5 hf; exact absurd hf (fun h => by cases h)
  | succ n ih =>
    intro σ v4 v5 hf
    refine vv_iload dX1_behindGo_39 3 rfl 41 rfl ?_
    refine vv_aload_n dX1_behindGo_41 0 rfl rfl 42 rfl ?_
    refine vv_getI dX1_behindGo_42 2 gf_X1_behindGo_89 ob_l30 rfl rfl 45 rfl ?_
    refine vv_icmp_ge dX1_behindGo_45 103 48 rfl rfl hf (fun hf => ?_) (fun hf => ?_)
    · refine vv_aload_n dX1_behindGo_103 0 rfl rfl 104 rfl ?_
      refine vv_getI dX1_behindGo_104 2 gf_X1_behindGo_89 ob_l30 rfl rfl 107 rfl ?_
      exact vv_ireti rfl dX1_behindGo_107 hf
    · refine vv_iload dX1_behindGo_48 2 rfl 50 rfl ?_
      refine vv_aload_n dX1_behindGo_50 1 rfl rfl 51 rfl ?_
      refine vv_getR dX1_behindGo_51 4 gf_X1_behindGo_111 (ob_kl0 hb) (ob_ks hb) rfl 54 rfl ?_
      refine vv_aload_n dX1_behindGo_54 0 rfl rfl 55 rfl ?_
      refine vv_getR dX1_behindGo_55 1 gf_X1_behindGo_33 ob_l30 rfl rfl 58 rfl ?_
      refine vv_iload dX1_behindGo_58 3 rfl 60 rfl ?_
      refine vv_iald dX1_behindGo_60 ob_l38 rfl 61 rfl hf (fun v_9 hf => ?_)
      refine vv_iald dX1_behindGo_61 (ob_kl 4 hb (by decide)) (ob_ka4 hb) 62 rfl hf (fun v_10 hf => ?_)
      refine vv_iadd dX1_behindGo_62 63 rfl ?_
      refine vv_nm hf (fun v_11 hf => ?_)
      refine vv_istore dX1_behindGo_63 [(4, .int v_11), (0, .ref (ad 30)), (1, .ref (ad b)), (5, .int v5)] (Nat.le_of_ble_eq_true rfl) rfl 65 rfl ?_
      refine vv_iload dX1_behindGo_65 0 rfl 67 rfl ?_
      refine vv_aload_n dX1_behindGo_67 2 rfl rfl 68 rfl ?_
      refine vv_getR dX1_behindGo_68 8 gf_X1_behindGo_75 (ob_kl0 hb) (ob_ks hb) rfl 71 rfl ?_
      refine vv_iconst dX1_behindGo_71 0 rfl 72 rfl ?_
      refine vv_iald dX1_behindGo_72 (ob_kl 8 hb (by decide)) (ob_ka8 hb) 73 rfl hf (fun v_12 hf => ?_)
      refine vv_icmp_gt dX1_behindGo_73 94 76 rfl rfl hf (fun hf => ?_) (fun hf => ?_)
      · refine vv_iload dX1_behindGo_94 3 rfl 96 rfl ?_
        exact vv_ireti rfl dX1_behindGo_96 hf
      · refine vv_aload_n dX1_behindGo_76 1 rfl rfl 77 rfl ?_
        refine vv_aload_n dX1_behindGo_77 2 rfl rfl 78 rfl ?_
        refine vv_aload_n dX1_behindGo_78 1 rfl rfl 79 rfl ?_
        refine vv_getR dX1_behindGo_79 1 gf_X1_behindGo_33 ob_l30 rfl rfl 82 rfl ?_
        refine vv_iload dX1_behindGo_82 3 rfl 84 rfl ?_
        refine vv_iald dX1_behindGo_84 ob_l38 rfl 85 rfl hf (fun v_13 hf => ?_)
        refine vv_callVr [.ref (ad b), .int v_13] [] ad (fun _ _ h => c_X1_kindOf hb h) (ob_rec ob_l30 rfl rfl) cv_X1_behindGo_103 rfl (Nat.le_of_ble_eq_true rfl) 88 rfl dX1_behindGo_85 rfl hf (fun q14 σ15 hf => ?_)
        refine vd_X1_behindGo_107 dX1_behindGo_88 (Nat.le_of_ble_eq_true rfl) 91 rfl hf (fun r16 σ17 hf => ?_)
        refine vv_if_eq dX1_behindGo_91 97 94 rfl rfl hf (fun hf => ?_) (fun hf => ?_)
        · refine vv_iinc dX1_behindGo_97 (v5 + 1) 3 [(5, .int (v5 + 1)), (4, .int v_11), (0, .ref (ad 30)), (1, .ref (ad b))] rfl rfl (Nat.le_of_ble_eq_true rfl) rfl 100 rfl ?_
          refine vv_goto dX1_behindGo_100 39 rfl ?_
          refine vv_sub [2, 3, 1, 0] [(0, .ref (ad 30)), (1, .ref (ad b)), (4, .int v_11), (5, .int (v5 + 1))] rfl ?_
          exact ih hf
        · refine vv_iload dX1_behindGo_94 3 rfl 96 rfl ?_
          exact vv_ireti rfl dX1_behindGo_96 hf
set_option maxRecDepth 100000 in
set_option maxHeartbeats 4000000 in
theorem c_X1_behindGo {g : ob_GT} {ad : Nat → Nat} {b : Nat} (hb : ob_isK b) {r : Int32} {σ' : ob_St} {σ : ob_St} {p2 : Int32} (hf : f_X1_behindGo b σ p2 = some (r, σ')) : ob_CT g (ob_X ad) mi_X1_behindGo [.ref (ad 30), .ref (ad b), .int p2] σ (some (.int r)) σ' := by
  refine ob_ct (by decide +kernel) rfl (Nat.le_of_ble_eq_true rfl) ?_
  show ob_V g (ob_X ad) mi_X1_behindGo (some (.int r)) σ' σ 0 [(0, .ref (ad 30)), (1, .ref (ad b)), (2, .int p2)] []
  refine vv_iload_n dX1_behindGo_0 2 rfl rfl 1 rfl ?_
  refine vv_iconst dX1_behindGo_1 1 rfl 2 rfl ?_
  refine vv_iadd dX1_behindGo_2 3 rfl ?_
  refine vv_nm hf (fun v_1 hf => ?_)
  refine vv_istore_n dX1_behindGo_3 [(3, .int v_1), (0, .ref (ad 30)), (1, .ref (ad b)), (2, .int p2)] rfl (Nat.le_of_ble_eq_true rfl) rfl 4 rfl ?_
  refine vv_aload_n dX1_behindGo_4 1 rfl rfl 5 rfl ?_
  refine vv_aload_n dX1_behindGo_5 2 rfl rfl 6 rfl ?_
  refine vv_aload_n dX1_behindGo_6 1 rfl rfl 7 rfl ?_
  refine vv_getR dX1_behindGo_7 1 gf_X1_behindGo_33 ob_l30 rfl rfl 10 rfl ?_
  refine vv_iload_n dX1_behindGo_10 3 rfl rfl 11 rfl ?_
  refine vv_iald dX1_behindGo_11 ob_l38 rfl 12 rfl hf (fun v_2 hf => ?_)
  refine vv_callVr [.ref (ad b), .int v_2] [] ad (fun _ _ h => c_X1_kindOf hb h) (ob_rec ob_l30 rfl rfl) cv_X1_behindGo_103 rfl (Nat.le_of_ble_eq_true rfl) 15 rfl dX1_behindGo_12 rfl hf (fun q3 σ4 hf => ?_)
  refine vd_X1_behindGo_107 dX1_behindGo_15 (Nat.le_of_ble_eq_true rfl) 18 rfl hf (fun r5 σ6 hf => ?_)
  refine vv_if_eq dX1_behindGo_18 23 21 rfl rfl hf (fun hf => ?_) (fun hf => ?_)
  · refine vv_aload_n dX1_behindGo_23 2 rfl rfl 24 rfl ?_
    refine vv_getR dX1_behindGo_24 4 gf_X1_behindGo_111 (ob_kl0 hb) (ob_ks hb) rfl 27 rfl ?_
    refine vv_aload_n dX1_behindGo_27 1 rfl rfl 28 rfl ?_
    refine vv_getR dX1_behindGo_28 1 gf_X1_behindGo_33 ob_l30 rfl rfl 31 rfl ?_
    refine vv_iload_n dX1_behindGo_31 3 rfl rfl 32 rfl ?_
    refine vv_iald dX1_behindGo_32 ob_l38 rfl 33 rfl hf (fun v_7 hf => ?_)
    refine vv_iald dX1_behindGo_33 (ob_kl 4 hb (by decide)) (ob_ka4 hb) 34 rfl hf (fun v_8 hf => ?_)
    refine vv_istore dX1_behindGo_34 [(4, .int v_8), (3, .int v_1), (0, .ref (ad 30)), (1, .ref (ad b)), (2, .int p2)] (Nat.le_of_ble_eq_true rfl) rfl 36 rfl ?_
    refine vv_iload_n dX1_behindGo_36 1 rfl rfl 37 rfl ?_
    refine vv_istore dX1_behindGo_37 [(5, .int v_1), (4, .int v_8), (3, .int v_1), (0, .ref (ad 30)), (1, .ref (ad b)), (2, .int p2)] (Nat.le_of_ble_eq_true rfl) rfl 39 rfl ?_
    refine vv_sub [3, 4, 1, 0] [(0, .ref (ad 30)), (1, .ref (ad b)), (4, .int v_8), (5, .int v_1)] rfl ?_
    exact l_X1_behindGo_39 hb 1000 hf
  · refine vv_iload_n dX1_behindGo_21 0 rfl rfl 22 rfl ?_
    exact vv_ireti rfl dX1_behindGo_22 hf
abbrev mi_X1_lineUp : ob_MI := (yX1_lineUp, ob_ws yX1_lineUp cX1_lineUp 5 none, cX1_lineUp, 5, none, { frames := 0, cells := 0, slots := 0, locals := 0 })
theorem pf_X1_lineUp_89 : ob_PF mi_X1_lineUp 89 1 2 .int := ⟨RX1, TX1, 11, tyX1, rfl, by decide, fun x h => List.mem_cons_of_mem _ (uw_X1 x h), List.mem_cons_of_mem _ tw_191, tyX1_ok, nmX1, rfl, by decide +kernel⟩
theorem gf_X1_lineUp_78 : ob_GF mi_X1_lineUp 78 3 0 := ⟨RX3, TX3, 9, rfl, by decide, fun x h => List.mem_cons_of_mem _ (uw_X3 x h), List.mem_cons_of_mem _ tw_82⟩
theorem gf_X1_lineUp_33 : ob_GF mi_X1_lineUp 33 1 1 := ⟨RX1, TX1, 11, rfl, by decide, fun x h => List.mem_cons_of_mem _ (uw_X1 x h), List.mem_cons_of_mem _ tw_190⟩
theorem gf_X1_lineUp_89 : ob_GF mi_X1_lineUp 89 1 2 := ⟨RX1, TX1, 11, rfl, by decide, fun x h => List.mem_cons_of_mem _ (uw_X1 x h), List.mem_cons_of_mem _ tw_191⟩
noncomputable def L_X1_lineUp_8 (b : Nat) (a : Nat) : Nat → ob_St → Int32 → Int32 → Option (Unit × ob_St)
  | 0, _, _, _ => none
  | n + 1, σ, v3, v4 =>
    if (σ b 0) ≤ v4 then
      some ((), σ)
    else
      ob_ld σ a 6 v4 fun v_2 =>
      if v_2 = v3 then
        L_X1_lineUp_8 b a n σ v3 (v4 + 1)
      else
        ob_ld σ a 6 v4 fun v_3 =>
        ob_sd σ 38 6 (σ 30 2) v_3 fun σ4 =>
        ob_pf σ4 30 2 ((σ4 30 2) + 1) fun σ5 =>
        L_X1_lineUp_8 b a n σ5 v3 (v4 + 1)
noncomputable def f_X1_lineUp (b : Nat) (a : Nat) (σ : ob_St) (p3 : Int32) : Option (Unit × ob_St) :=
  ob_pf σ 30 2 0 fun σ1 =>
  L_X1_lineUp_8 b a 1000 σ1 p3 0
set_option maxRecDepth 100000 in
set_option maxHeartbeats 4000000 in
theorem l_X1_lineUp_8 {g : ob_GT} {ad : Nat → Nat} {b : Nat} {a : Nat} (hb : ob_isK b) (ha : a < 52 ∧ ob_xsh a = .inl 6) {r : Unit} {σ' : ob_St} : ∀ (n : Nat) {σ : ob_St} {v3 : Int32} {v4 : Int32}, L_X1_lineUp_8 b a n σ v3 v4 = some (r, σ') → ob_V g (ob_X ad) mi_X1_lineUp none σ' σ 8 [(0, .ref (ad 30)), (1, .ref (ad b)), (2, .ref (ad a)), (3, .int v3), (4, .int v4)] [] := by
  intro n
  induction n with
  | zero => intro σ v3 v4 hf; exact absurd hf (fun h => by cases h)
  | succ n ih =>
    intro σ v3 v4 hf
    refine vv_iload dX1_lineUp_8 4 rfl 10 rfl ?_
    refine vv_aload_n dX1_lineUp_10 1 rfl rfl 11 rfl ?_
    refine vv_getI dX1_lineUp_11 0 gf_X1_lineUp_78 (ob_kl0 hb) (ob_ks hb) rfl 14 rfl ?_
    refine vv_icmp_ge dX1_lineUp_14 54 17 rfl rfl hf (fun hf => ?_) (fun hf => ?_)
    · exact vv_ret rfl dX1_lineUp_54 hf
    · refine vv_aload_n dX1_lineUp_17 2 rfl rfl 18 rfl ?_
      refine vv_iload dX1_lineUp_18 4 rfl 20 rfl ?_
      refine vv_iald dX1_lineUp_20 ha.1 ha.2 21 rfl hf (fun v_2 hf => ?_)
      refine vv_iload_n dX1_lineUp_21 3 rfl rfl 22 rfl ?_
      refine vv_icmp_eq dX1_lineUp_22 48 25 rfl rfl hf (fun hf => ?_) (fun hf => ?_)
      · refine vv_iinc dX1_lineUp_48 (v4 + 1) 4 [(4, .int (v4 + 1)), (0, .ref (ad 30)), (1, .ref (ad b)), (2, .ref (ad a)), (3, .int v3)] rfl rfl (Nat.le_of_ble_eq_true rfl) rfl 51 rfl ?_
        refine vv_goto dX1_lineUp_51 8 rfl ?_
        refine vv_sub [1, 2, 3, 4, 0] [(0, .ref (ad 30)), (1, .ref (ad b)), (2, .ref (ad a)), (3, .int v3), (4, .int (v4 + 1))] rfl ?_
        exact ih hf
      · refine vv_aload_n dX1_lineUp_25 0 rfl rfl 26 rfl ?_
        refine vv_getR dX1_lineUp_26 1 gf_X1_lineUp_33 ob_l30 rfl rfl 29 rfl ?_
        refine vv_aload_n dX1_lineUp_29 0 rfl rfl 30 rfl ?_
        refine vv_getI dX1_lineUp_30 2 gf_X1_lineUp_89 ob_l30 rfl rfl 33 rfl ?_
        refine vv_aload_n dX1_lineUp_33 2 rfl rfl 34 rfl ?_
        refine vv_iload dX1_lineUp_34 4 rfl 36 rfl ?_
        refine vv_iald dX1_lineUp_36 ha.1 ha.2 37 rfl hf (fun v_3 hf => ?_)
        refine vv_iast dX1_lineUp_37 ob_l38 rfl 38 rfl hf (fun σ4 hf => ?_)
        refine vv_aload_n dX1_lineUp_38 0 rfl rfl 39 rfl ?_
        refine vv_dup dX1_lineUp_39 rfl 40 rfl ?_
        refine vv_getI dX1_lineUp_40 2 gf_X1_lineUp_89 ob_l30 rfl rfl 43 rfl ?_
        refine vv_iconst dX1_lineUp_43 1 rfl 44 rfl ?_
        refine vv_iadd dX1_lineUp_44 45 rfl ?_
        refine vv_putI dX1_lineUp_45 2 pf_X1_lineUp_89 ob_l30 rfl rfl (ob_fit_int _) 48 rfl hf (fun σ5 hf => ?_)
        refine vv_iinc dX1_lineUp_48 (v4 + 1) 4 [(4, .int (v4 + 1)), (0, .ref (ad 30)), (1, .ref (ad b)), (2, .ref (ad a)), (3, .int v3)] rfl rfl (Nat.le_of_ble_eq_true rfl) rfl 51 rfl ?_
        refine vv_goto dX1_lineUp_51 8 rfl ?_
        refine vv_sub [1, 2, 3, 4, 0] [(0, .ref (ad 30)), (1, .ref (ad b)), (2, .ref (ad a)), (3, .int v3), (4, .int (v4 + 1))] rfl ?_
        exact ih hf
set_option maxRecDepth 100000 in
set_option maxHeartbeats 4000000 in
theorem c_X1_lineUp {g : ob_GT} {ad : Nat → Nat} {b : Nat} {a : Nat} (hb : ob_isK b) (ha : a < 52 ∧ ob_xsh a = .inl 6) {r : Unit} {σ' : ob_St} {σ : ob_St} {p3 : Int32} (hf : f_X1_lineUp b a σ p3 = some (r, σ')) : ob_CT g (ob_X ad) mi_X1_lineUp [.ref (ad 30), .ref (ad b), .ref (ad a), .int p3] σ none σ' := by
  refine ob_ct (by decide +kernel) rfl (Nat.le_of_ble_eq_true rfl) ?_
  show ob_V g (ob_X ad) mi_X1_lineUp none σ' σ 0 [(0, .ref (ad 30)), (1, .ref (ad b)), (2, .ref (ad a)), (3, .int p3)] []
  refine vv_aload_n dX1_lineUp_0 0 rfl rfl 1 rfl ?_
  refine vv_iconst dX1_lineUp_1 0 rfl 2 rfl ?_
  refine vv_putI dX1_lineUp_2 2 pf_X1_lineUp_89 ob_l30 rfl rfl (ob_fit_int _) 5 rfl hf (fun σ1 hf => ?_)
  refine vv_iconst dX1_lineUp_5 0 rfl 6 rfl ?_
  refine vv_istore dX1_lineUp_6 [(4, .int 0), (0, .ref (ad 30)), (1, .ref (ad b)), (2, .ref (ad a)), (3, .int p3)] (Nat.le_of_ble_eq_true rfl) rfl 8 rfl ?_
  refine vv_sub [1, 2, 3, 4, 0] [(0, .ref (ad 30)), (1, .ref (ad b)), (2, .ref (ad a)), (3, .int p3), (4, .int 0)] rfl ?_
  exact l_X1_lineUp_8 hb ha 1000 hf
abbrev mi_X1_carryAll : ob_MI := (yX1_carryAll, ob_ws yX1_carryAll cX1_carryAll 9 none, cX1_carryAll, 9, none, { frames := 2, cells := 0, slots := 0, locals := 48 })
theorem gf_X1_carryAll_75 : ob_GF mi_X1_carryAll 75 3 8 := ⟨RX3, TX3, 9, rfl, by decide, fun x h => List.mem_cons_of_mem _ (uw_X3 x h), List.mem_cons_of_mem _ tw_104⟩
theorem gf_X1_carryAll_89 : ob_GF mi_X1_carryAll 89 1 2 := ⟨RX1, TX1, 11, rfl, by decide, fun x h => List.mem_cons_of_mem _ (uw_X1 x h), List.mem_cons_of_mem _ tw_191⟩
theorem gf_X1_carryAll_58 : ob_GF mi_X1_carryAll 58 1 10 := ⟨RX1, TX1, 11, rfl, by decide, fun x h => List.mem_cons_of_mem _ (uw_X1 x h), List.mem_cons_of_mem _ tw_206⟩
theorem cv_X1_carryAll_92 : ob_CV mi_X1_carryAll mi_X1_behindGo 92 RX1 2 := ob_cvI rfl rfl tw_551 tw_553 tw_8 tw_51 tw_554 ⟨rfl, rfl⟩ ⟨rfl, by decide +kernel, by decide +kernel, by decide +kernel⟩ ⟨Nat.le_of_ble_eq_true rfl, Nat.le_of_ble_eq_true rfl⟩
theorem gf_X1_carryAll_96 : ob_GF mi_X1_carryAll 96 3 2 := ⟨RX3, TX3, 9, rfl, by decide, fun x h => List.mem_cons_of_mem _ (uw_X3 x h), List.mem_cons_of_mem _ tw_88⟩
theorem gf_X1_carryAll_33 : ob_GF mi_X1_carryAll 33 1 1 := ⟨RX1, TX1, 11, rfl, by decide, fun x h => List.mem_cons_of_mem _ (uw_X1 x h), List.mem_cons_of_mem _ tw_190⟩
theorem cv_X1_carryAll_99 : ob_CV mi_X1_carryAll mi_X3_secondsWith 99 RX3 1 := ob_cvI rfl rfl tw_571 tw_516 tw_517 tw_49 tw_518 ⟨rfl, rfl⟩ ⟨rfl, by decide +kernel, by decide +kernel, by decide +kernel⟩ ⟨Nat.le_of_ble_eq_true rfl, Nat.le_of_ble_eq_true rfl⟩
theorem gf_X1_carryAll_37 : ob_GF mi_X1_carryAll 37 1 3 := ⟨RX1, TX1, 11, rfl, by decide, fun x h => List.mem_cons_of_mem _ (uw_X1 x h), List.mem_cons_of_mem _ tw_192⟩
theorem gf_X1_carryAll_49 : ob_GF mi_X1_carryAll 49 1 7 := ⟨RX1, TX1, 11, rfl, by decide, fun x h => List.mem_cons_of_mem _ (uw_X1 x h), List.mem_cons_of_mem _ tw_200⟩
noncomputable def J_X1_carryAll_153_20 (b : Nat) (rec : ob_St → Int32 → Int32 → Int32 → Int32 → Option (Unit × ob_St)) (σ : ob_St) (v3 : Int32) (v5 : Int32) : Option (Unit × ob_St) :=
  ob_sd σ 46 8 5 v3 fun σ3 =>
  ob_sd σ3 46 8 6 v5 fun σ4 =>
  some ((), σ4)
noncomputable def L_X1_carryAll_52 (b : Nat) : Nat → ob_St → Int32 → Int32 → Int32 → Int32 → Int32 → Int32 → Int32 → Option (Int32 × ob_St)
  | 0, _, _, _, _, _, _, _, _ => none
  | n + 1, σ, v2, v3, v4, v5, v6, v7, v8 =>
    if v6 ≤ v8 then
      some (v7, σ)
    else
      ob_ld σ 38 6 v8 fun v_7 =>
      ob_ld σ (b + 2) 6 v_7 fun v_8 =>
      ob_nm (v7 + v_8) fun v_9 =>
      L_X1_carryAll_52 b n σ v2 v3 v4 v5 v6 v_9 (v8 + 1)
noncomputable def L_X1_carryAll_95 (b : Nat) : Nat → ob_St → Int32 → Int32 → Int32 → Int32 → Int32 → Option (Unit × ob_St)
  | 0, _, _, _, _, _, _ => none
  | n + 1, σ, v2, v3, v5, v6, v8 =>
    if v6 ≤ v8 then
      some ((), σ)
    else
      ob_ld σ 38 6 v8 fun v_15 =>
      ob_sd σ 39 6 v_15 v3 fun σ16 =>
      ob_ld σ16 38 6 v8 fun v_17 =>
      ob_sd σ16 43 6 v_17 v5 fun σ18 =>
      L_X1_carryAll_95 b n σ18 v2 v3 v5 v6 (v8 + 1)
noncomputable def L_X1_carryAll_20 (b : Nat) : Nat → ob_St → Int32 → Int32 → Int32 → Int32 → Option (Unit × ob_St)
  | 0, _, _, _, _, _ => none
  | n + 1, σ, v2, v3, v4, v5 =>
    if (σ 30 2) ≤ v4 then
      J_X1_carryAll_153_20 b (fun σ v2 v3 v4 v5 => L_X1_carryAll_20 b n σ v2 v3 v4 v5) σ v3 v5
    else
      if (6 : Int32) ≤ v5 then
        J_X1_carryAll_153_20 b (fun σ v2 v3 v4 v5 => L_X1_carryAll_20 b n σ v2 v3 v4 v5) σ v3 v5
      else
        ob_bd (f_X1_behindGo b σ v4) fun r5 σ6 =>
        ob_bd (L_X1_carryAll_52 b 1000 σ6 v2 v3 v4 v5 r5 v2 v4) fun q10 σ11 =>
        ob_bd (f_X3_secondsWith b σ11 q10) fun r12 σ13 =>
        ob_nm (v3 + r12) fun v_14 =>
        ob_bd (L_X1_carryAll_95 b 1000 σ13 v2 v_14 v5 r5 v4) fun q19 σ20 =>
        ob_bd (f_X3_secondsWith b σ20 v2) fun r21 σ22 =>
        ob_nm (v_14 + r21) fun v_23 =>
        L_X1_carryAll_20 b n σ22 v2 v_23 r5 (v5 + 1)
noncomputable def f_X1_carryAll (b : Nat) (σ : ob_St) : Option (Unit × ob_St) :=
  ob_ld σ (b + 8) 6 1 fun v_1 =>
  ob_ld σ (b + 8) 6 5 fun v_2 =>
  L_X1_carryAll_20 b 1000 σ v_1 v_2 0 0
set_option maxRecDepth 100000 in
set_option maxHeartbeats 4000000 in
theorem j_X1_carryAll_153_20 {g : ob_GT} {ad : Nat → Nat} {b : Nat} (hb : ob_isK b) {r : Unit} {σ' : ob_St} {σ : ob_St} {v3 : Int32} {v5 : Int32} {rec : ob_St → Int32 → Int32 → Int32 → Int32 → Option (Unit × ob_St)} (hrec : ∀ {σ : ob_St} {v2 : Int32} {v3 : Int32} {v4 : Int32} {v5 : Int32}, rec σ v2 v3 v4 v5 = some (r, σ') → ob_V g (ob_X ad) mi_X1_carryAll none σ' σ 20 [(0, .ref (ad 30)), (1, .ref (ad b)), (2, .int v2), (3, .int v3), (4, .int v4), (5, .int v5)] []) (hf : J_X1_carryAll_153_20 b rec σ v3 v5 = some (r, σ')) : ob_V g (ob_X ad) mi_X1_carryAll none σ' σ 153 [(0, .ref (ad 30)), (3, .int v3), (5, .int v5)] [] := by
  refine vv_aload_n dX1_carryAll_153 0 rfl rfl 154 rfl ?_
  refine vv_getR dX1_carryAll_154 10 gf_X1_carryAll_58 ob_l30 rfl rfl 157 rfl ?_
  refine vv_iconst dX1_carryAll_157 5 rfl 158 rfl ?_
  refine vv_iload_n dX1_carryAll_158 1 rfl rfl 159 rfl ?_
  refine vv_iast dX1_carryAll_159 ob_l46 rfl 160 rfl hf (fun σ3 hf => ?_)
  refine vv_aload_n dX1_carryAll_160 0 rfl rfl 161 rfl ?_
  refine vv_getR dX1_carryAll_161 10 gf_X1_carryAll_58 ob_l30 rfl rfl 164 rfl ?_
  refine vv_bipush dX1_carryAll_164 6 rfl 166 rfl ?_
  refine vv_iload dX1_carryAll_166 2 rfl 168 rfl ?_
  refine vv_iast dX1_carryAll_168 ob_l46 rfl 169 rfl hf (fun σ4 hf => ?_)
  exact vv_ret rfl dX1_carryAll_169 hf
set_option maxRecDepth 100000 in
set_option maxHeartbeats 4000000 in
theorem l_X1_carryAll_52 {g : ob_GT} {ad : Nat → Nat} {b : Nat} (hb : ob_isK b) {ov : Option Value} {σ' σq : ob_St} {q : Int32} : ∀ (n : Nat) {σ : ob_St} {v2 : Int32} {v3 : Int32} {v4 : Int32} {v5 : Int32} {v6 : Int32} {v7 : Int32} {v8 : Int32}, L_X1_carryAll_52 b n σ v2 v3 v4 v5 v6 v7 v8 = some (q, σq) → ob_V g (ob_X ad) mi_X1_carryAll ov σ' σq 82 [(0, .ref (ad 30)), (1, .ref (ad b)), (2, .int v2), (3, .int v3), (4, .int v4), (5, .int v5), (6, .int v6), (7, .int q)] [] → ob_V g (ob_X ad) mi_X1_carryAll ov σ' σ 52 [(0, .ref (ad 30)), (1, .ref (ad b)), (2, .int v2), (3, .int v3), (4, .int v4), (5, .int v5), (6, .int v6), (7, .int v7), (8, .int v8)] [] := by
  intro n
  induction n with
  | zero => intro σ v2 v3 v4 v5 v6 v7 v8 hf kk; exact absurd hf (fun h => by cases h)
  | succ n ih =>
    intro σ v2 v3 v4 v5 v6 v7 v8 hf kk
    refine vv_iload dX1_carryAll_52 8 rfl 54 rfl ?_
    refine vv_iload dX1_carryAll_54 6 rfl 56 rfl ?_
    refine vv_icmp_ge dX1_carryAll_56 82 59 rfl rfl hf (fun hf => ?_) (fun hf => ?_)
    · refine vv_sub [0, 1, 2, 3, 4, 5, 6, 7] [(0, .ref (ad 30)), (1, .ref (ad b)), (2, .int v2), (3, .int v3), (4, .int v4), (5, .int v5), (6, .int v6), (7, .int v7)] rfl ?_
      obtain ⟨rfl, rfl⟩ := Prod.mk.inj (Option.some.inj hf)
      exact kk
    · refine vv_iload dX1_carryAll_59 7 rfl 61 rfl ?_
      refine vv_aload_n dX1_carryAll_61 1 rfl rfl 62 rfl ?_
      refine vv_getR dX1_carryAll_62 2 gf_X1_carryAll_96 (ob_kl0 hb) (ob_ks hb) rfl 65 rfl ?_
      refine vv_aload_n dX1_carryAll_65 0 rfl rfl 66 rfl ?_
      refine vv_getR dX1_carryAll_66 1 gf_X1_carryAll_33 ob_l30 rfl rfl 69 rfl ?_
      refine vv_iload dX1_carryAll_69 8 rfl 71 rfl ?_
      refine vv_iald dX1_carryAll_71 ob_l38 rfl 72 rfl hf (fun v_7 hf => ?_)
      refine vv_iald dX1_carryAll_72 (ob_kl 2 hb (by decide)) (ob_ka2 hb) 73 rfl hf (fun v_8 hf => ?_)
      refine vv_iadd dX1_carryAll_73 74 rfl ?_
      refine vv_nm hf (fun v_9 hf => ?_)
      refine vv_istore dX1_carryAll_74 [(7, .int v_9), (0, .ref (ad 30)), (1, .ref (ad b)), (2, .int v2), (3, .int v3), (4, .int v4), (5, .int v5), (6, .int v6), (8, .int v8)] (Nat.le_of_ble_eq_true rfl) rfl 76 rfl ?_
      refine vv_iinc dX1_carryAll_76 (v8 + 1) 8 [(8, .int (v8 + 1)), (7, .int v_9), (0, .ref (ad 30)), (1, .ref (ad b)), (2, .int v2), (3, .int v3), (4, .int v4), (5, .int v5), (6, .int v6)] rfl rfl (Nat.le_of_ble_eq_true rfl) rfl 79 rfl ?_
      refine vv_goto dX1_carryAll_79 52 rfl ?_
      refine vv_sub [2, 3, 4, 5, 6, 7, 8, 1, 0] [(0, .ref (ad 30)), (1, .ref (ad b)), (2, .int v2), (3, .int v3), (4, .int v4), (5, .int v5), (6, .int v6), (7, .int v_9), (8, .int (v8 + 1))] rfl ?_
      exact ih hf kk
set_option maxRecDepth 100000 in
set_option maxHeartbeats 4000000 in
theorem l_X1_carryAll_95 {g : ob_GT} {ad : Nat → Nat} {b : Nat} (hb : ob_isK b) {ov : Option Value} {σ' σq : ob_St} {q : Unit} : ∀ (n : Nat) {σ : ob_St} {v2 : Int32} {v3 : Int32} {v5 : Int32} {v6 : Int32} {v8 : Int32}, L_X1_carryAll_95 b n σ v2 v3 v5 v6 v8 = some (q, σq) → ob_V g (ob_X ad) mi_X1_carryAll ov σ' σq 135 [(0, .ref (ad 30)), (1, .ref (ad b)), (2, .int v2), (3, .int v3), (5, .int v5), (6, .int v6)] [] → ob_V g (ob_X ad) mi_X1_carryAll ov σ' σ 95 [(0, .ref (ad 30)), (1, .ref (ad b)), (2, .int v2), (3, .int v3), (5, .int v5), (6, .int v6), (8, .int v8)] [] := by
  intro n
  induction n with
  | zero => intro σ v2 v3 v5 v6 v8 hf kk; exact absurd hf (fun h => by cases h)
  | succ n ih =>
    intro σ v2 v3 v5 v6 v8 hf kk
    refine vv_iload dX1_carryAll_95 6 rfl 97 rfl ?_
    refine vv_iload dX1_carryAll_97 5 rfl 99 rfl ?_
    refine vv_icmp_ge dX1_carryAll_99 135 102 rfl rfl hf (fun hf => ?_) (fun hf => ?_)
    · refine vv_sub [0, 1, 2, 3, 4, 5] [(0, .ref (ad 30)), (1, .ref (ad b)), (2, .int v2), (3, .int v3), (5, .int v5), (6, .int v6)] rfl ?_
      obtain ⟨rfl, rfl⟩ := Prod.mk.inj (Option.some.inj hf)
      exact kk
    · refine vv_aload_n dX1_carryAll_102 0 rfl rfl 103 rfl ?_
      refine vv_getR dX1_carryAll_103 3 gf_X1_carryAll_37 ob_l30 rfl rfl 106 rfl ?_
      refine vv_aload_n dX1_carryAll_106 0 rfl rfl 107 rfl ?_
      refine vv_getR dX1_carryAll_107 1 gf_X1_carryAll_33 ob_l30 rfl rfl 110 rfl ?_
      refine vv_iload dX1_carryAll_110 6 rfl 112 rfl ?_
      refine vv_iald dX1_carryAll_112 ob_l38 rfl 113 rfl hf (fun v_15 hf => ?_)
      refine vv_iload_n dX1_carryAll_113 3 rfl rfl 114 rfl ?_
      refine vv_iast dX1_carryAll_114 ob_l39 rfl 115 rfl hf (fun σ16 hf => ?_)
      refine vv_aload_n dX1_carryAll_115 0 rfl rfl 116 rfl ?_
      refine vv_getR dX1_carryAll_116 7 gf_X1_carryAll_49 ob_l30 rfl rfl 119 rfl ?_
      refine vv_aload_n dX1_carryAll_119 0 rfl rfl 120 rfl ?_
      refine vv_getR dX1_carryAll_120 1 gf_X1_carryAll_33 ob_l30 rfl rfl 123 rfl ?_
      refine vv_iload dX1_carryAll_123 6 rfl 125 rfl ?_
      refine vv_iald dX1_carryAll_125 ob_l38 rfl 126 rfl hf (fun v_17 hf => ?_)
      refine vv_iload dX1_carryAll_126 4 rfl 128 rfl ?_
      refine vv_iast dX1_carryAll_128 ob_l43 rfl 129 rfl hf (fun σ18 hf => ?_)
      refine vv_iinc dX1_carryAll_129 (v8 + 1) 6 [(8, .int (v8 + 1)), (0, .ref (ad 30)), (1, .ref (ad b)), (2, .int v2), (3, .int v3), (5, .int v5), (6, .int v6)] rfl rfl (Nat.le_of_ble_eq_true rfl) rfl 132 rfl ?_
      refine vv_goto dX1_carryAll_132 95 rfl ?_
      refine vv_sub [1, 2, 3, 4, 5, 6, 0] [(0, .ref (ad 30)), (1, .ref (ad b)), (2, .int v2), (3, .int v3), (5, .int v5), (6, .int v6), (8, .int (v8 + 1))] rfl ?_
      exact ih hf kk
set_option maxRecDepth 100000 in
set_option maxHeartbeats 4000000 in
theorem l_X1_carryAll_20 {g : ob_GT} {ad : Nat → Nat} {b : Nat} (hb : ob_isK b) {r : Unit} {σ' : ob_St} : ∀ (n : Nat) {σ : ob_St} {v2 : Int32} {v3 : Int32} {v4 : Int32} {v5 : Int32}, L_X1_carryAll_20 b n σ v2 v3 v4 v5 = some (r, σ') → ob_V g (ob_X ad) mi_X1_carryAll none σ' σ 20 [(0, .ref (ad 30)), (1, .ref (ad b)), (2, .int v2), (3, .int v3), (4, .int v4), (5, .int v5)] [] := by
  intro n
  induction n with
  | zero => intro σ v2 v3 v4 v5 hf; exact absurd hf (fun h => by cases h)
  | succ n ih =>
    intro σ v2 v3 v4 v5 hf
    refine vv_iload dX1_carryAll_20 4 rfl 22 rfl ?_
    refine vv_aload_n dX1_carryAll_22 0 rfl rfl 23 rfl ?_
    refine vv_getI dX1_carryAll_23 2 gf_X1_carryAll_89 ob_l30 rfl rfl 26 rfl ?_
    refine vv_icmp_ge dX1_carryAll_26 153 29 rfl rfl hf (fun hf => ?_) (fun hf => ?_)
    · refine vv_sub [0, 3, 5] [(0, .ref (ad 30)), (3, .int v3), (5, .int v5)] rfl ?_
      exact j_X1_carryAll_153_20 hb ih hf
    · refine vv_iload dX1_carryAll_29 5 rfl 31 rfl ?_
      refine vv_bipush dX1_carryAll_31 6 rfl 33 rfl ?_
      refine vv_icmp_ge dX1_carryAll_33 153 36 rfl rfl hf (fun hf => ?_) (fun hf => ?_)
      · refine vv_sub [0, 3, 5] [(0, .ref (ad 30)), (3, .int v3), (5, .int v5)] rfl ?_
        exact j_X1_carryAll_153_20 hb ih hf
      · refine vv_aload_n dX1_carryAll_36 0 rfl rfl 37 rfl ?_
        refine vv_aload_n dX1_carryAll_37 1 rfl rfl 38 rfl ?_
        refine vv_iload dX1_carryAll_38 4 rfl 40 rfl ?_
        refine vv_callV [.ref (ad b), .int v4] [] (fun _ _ h => c_X1_behindGo hb h) (ob_rec ob_l30 rfl rfl) cv_X1_carryAll_92 rfl (Nat.le_of_ble_eq_true rfl) 43 rfl dX1_carryAll_40 rfl hf (fun r5 σ6 hf => ?_)
        refine vv_istore dX1_carryAll_43 [(6, .int r5), (0, .ref (ad 30)), (1, .ref (ad b)), (2, .int v2), (3, .int v3), (4, .int v4), (5, .int v5)] (Nat.le_of_ble_eq_true rfl) rfl 45 rfl ?_
        refine vv_iload_n dX1_carryAll_45 3 rfl rfl 46 rfl ?_
        refine vv_istore dX1_carryAll_46 [(7, .int v2), (6, .int r5), (0, .ref (ad 30)), (1, .ref (ad b)), (2, .int v2), (3, .int v3), (4, .int v4), (5, .int v5)] (Nat.le_of_ble_eq_true rfl) rfl 48 rfl ?_
        refine vv_iload dX1_carryAll_48 6 rfl 50 rfl ?_
        refine vv_istore dX1_carryAll_50 [(8, .int v4), (7, .int v2), (6, .int r5), (0, .ref (ad 30)), (1, .ref (ad b)), (2, .int v2), (3, .int v3), (4, .int v4), (5, .int v5)] (Nat.le_of_ble_eq_true rfl) rfl 52 rfl ?_
        refine vv_sub [3, 4, 5, 6, 7, 8, 2, 1, 0] [(0, .ref (ad 30)), (1, .ref (ad b)), (2, .int v2), (3, .int v3), (4, .int v4), (5, .int v5), (6, .int r5), (7, .int v2), (8, .int v4)] rfl ?_
        obtain ⟨q10, σ11, hL, hf⟩ := ob_bdE hf
        refine l_X1_carryAll_52 hb 1000 hL ?_
        refine vv_iload_n dX1_carryAll_82 3 rfl rfl 83 rfl ?_
        refine vv_aload_n dX1_carryAll_83 1 rfl rfl 84 rfl ?_
        refine vv_iload dX1_carryAll_84 7 rfl 86 rfl ?_
        refine vv_callV [.int q10] [.int v3] (fun _ _ h => c_X3_secondsWith hb h) (ob_rec (ob_kl0 hb) (ob_ks hb) rfl) cv_X1_carryAll_99 rfl (Nat.le_of_ble_eq_true rfl) 89 rfl dX1_carryAll_86 rfl hf (fun r12 σ13 hf => ?_)
        refine vv_iadd dX1_carryAll_89 90 rfl ?_
        refine vv_nm hf (fun v_14 hf => ?_)
        refine vv_istore_n dX1_carryAll_90 [(3, .int v_14), (0, .ref (ad 30)), (1, .ref (ad b)), (2, .int v2), (4, .int v4), (5, .int v5), (6, .int r5), (7, .int q10)] rfl (Nat.le_of_ble_eq_true rfl) rfl 91 rfl ?_
        refine vv_iload dX1_carryAll_91 4 rfl 93 rfl ?_
        refine vv_istore dX1_carryAll_93 [(8, .int v4), (3, .int v_14), (0, .ref (ad 30)), (1, .ref (ad b)), (2, .int v2), (4, .int v4), (5, .int v5), (6, .int r5), (7, .int q10)] (Nat.le_of_ble_eq_true rfl) rfl 95 rfl ?_
        refine vv_sub [2, 3, 4, 1, 6, 7, 0] [(0, .ref (ad 30)), (1, .ref (ad b)), (2, .int v2), (3, .int v_14), (5, .int v5), (6, .int r5), (8, .int v4)] rfl ?_
        obtain ⟨q19, σ20, hL, hf⟩ := ob_bdE hf
        refine l_X1_carryAll_95 hb 1000 hL ?_
        refine vv_iload_n dX1_carryAll_135 3 rfl rfl 136 rfl ?_
        refine vv_aload_n dX1_carryAll_136 1 rfl rfl 137 rfl ?_
        refine vv_iload_n dX1_carryAll_137 2 rfl rfl 138 rfl ?_
        refine vv_callV [.int v2] [.int v_14] (fun _ _ h => c_X3_secondsWith hb h) (ob_rec (ob_kl0 hb) (ob_ks hb) rfl) cv_X1_carryAll_99 rfl (Nat.le_of_ble_eq_true rfl) 141 rfl dX1_carryAll_138 rfl hf (fun r21 σ22 hf => ?_)
        refine vv_iadd dX1_carryAll_141 142 rfl ?_
        refine vv_nm hf (fun v_23 hf => ?_)
        refine vv_istore_n dX1_carryAll_142 [(3, .int v_23), (0, .ref (ad 30)), (1, .ref (ad b)), (2, .int v2), (5, .int v5), (6, .int r5)] rfl (Nat.le_of_ble_eq_true rfl) rfl 143 rfl ?_
        refine vv_iload dX1_carryAll_143 5 rfl 145 rfl ?_
        refine vv_istore dX1_carryAll_145 [(4, .int r5), (3, .int v_23), (0, .ref (ad 30)), (1, .ref (ad b)), (2, .int v2), (5, .int v5), (6, .int r5)] (Nat.le_of_ble_eq_true rfl) rfl 147 rfl ?_
        refine vv_iinc dX1_carryAll_147 (v5 + 1) 5 [(5, .int (v5 + 1)), (4, .int r5), (3, .int v_23), (0, .ref (ad 30)), (1, .ref (ad b)), (2, .int v2), (6, .int r5)] rfl rfl (Nat.le_of_ble_eq_true rfl) rfl 150 rfl ?_
        refine vv_goto dX1_carryAll_150 20 rfl ?_
        refine vv_sub [3, 4, 5, 2, 1, 0] [(0, .ref (ad 30)), (1, .ref (ad b)), (2, .int v2), (3, .int v_23), (4, .int r5), (5, .int (v5 + 1))] rfl ?_
        exact ih hf
set_option maxRecDepth 100000 in
set_option maxHeartbeats 4000000 in
theorem c_X1_carryAll {g : ob_GT} {ad : Nat → Nat} {b : Nat} (hb : ob_isK b) {r : Unit} {σ' : ob_St} {σ : ob_St} (hf : f_X1_carryAll b σ = some (r, σ')) : ob_CT g (ob_X ad) mi_X1_carryAll [.ref (ad 30), .ref (ad b)] σ none σ' := by
  refine ob_ct (by decide +kernel) rfl (Nat.le_of_ble_eq_true rfl) ?_
  show ob_V g (ob_X ad) mi_X1_carryAll none σ' σ 0 [(0, .ref (ad 30)), (1, .ref (ad b))] []
  refine vv_aload_n dX1_carryAll_0 1 rfl rfl 1 rfl ?_
  refine vv_getR dX1_carryAll_1 8 gf_X1_carryAll_75 (ob_kl0 hb) (ob_ks hb) rfl 4 rfl ?_
  refine vv_iconst dX1_carryAll_4 1 rfl 5 rfl ?_
  refine vv_iald dX1_carryAll_5 (ob_kl 8 hb (by decide)) (ob_ka8 hb) 6 rfl hf (fun v_1 hf => ?_)
  refine vv_istore_n dX1_carryAll_6 [(2, .int v_1), (0, .ref (ad 30)), (1, .ref (ad b))] rfl (Nat.le_of_ble_eq_true rfl) rfl 7 rfl ?_
  refine vv_aload_n dX1_carryAll_7 2 rfl rfl 8 rfl ?_
  refine vv_getR dX1_carryAll_8 8 gf_X1_carryAll_75 (ob_kl0 hb) (ob_ks hb) rfl 11 rfl ?_
  refine vv_iconst dX1_carryAll_11 5 rfl 12 rfl ?_
  refine vv_iald dX1_carryAll_12 (ob_kl 8 hb (by decide)) (ob_ka8 hb) 13 rfl hf (fun v_2 hf => ?_)
  refine vv_istore_n dX1_carryAll_13 [(3, .int v_2), (2, .int v_1), (0, .ref (ad 30)), (1, .ref (ad b))] rfl (Nat.le_of_ble_eq_true rfl) rfl 14 rfl ?_
  refine vv_iconst dX1_carryAll_14 0 rfl 15 rfl ?_
  refine vv_istore dX1_carryAll_15 [(4, .int 0), (3, .int v_2), (2, .int v_1), (0, .ref (ad 30)), (1, .ref (ad b))] (Nat.le_of_ble_eq_true rfl) rfl 17 rfl ?_
  refine vv_iconst dX1_carryAll_17 0 rfl 18 rfl ?_
  refine vv_istore dX1_carryAll_18 [(5, .int 0), (4, .int 0), (3, .int v_2), (2, .int v_1), (0, .ref (ad 30)), (1, .ref (ad b))] (Nat.le_of_ble_eq_true rfl) rfl 20 rfl ?_
  refine vv_sub [4, 5, 3, 2, 1, 0] [(0, .ref (ad 30)), (1, .ref (ad b)), (2, .int v_1), (3, .int v_2), (4, .int 0), (5, .int 0)] rfl ?_
  exact l_X1_carryAll_20 hb 1000 hf
abbrev mi_X1_serve : ob_MI := (yX1_serve, ob_ws yX1_serve cX1_serve 5 none, cX1_serve, 5, none, { frames := 2, cells := 0, slots := 0, locals := 42 })
theorem cv_X1_serve_103 : ob_CV mi_X1_serve mi_X1_kindOf 103 RX1 2 := ob_cvI rfl rfl tw_555 tw_557 tw_9 tw_51 tw_558 ⟨rfl, rfl⟩ ⟨rfl, by decide +kernel, by decide +kernel, by decide +kernel⟩ ⟨Nat.le_of_ble_eq_true rfl, Nat.le_of_ble_eq_true rfl⟩
theorem gf_X1_serve_117 : ob_GF mi_X1_serve 117 3 5 := ⟨RX3, TX3, 9, rfl, by decide, fun x h => List.mem_cons_of_mem _ (uw_X3 x h), List.mem_cons_of_mem _ tw_98⟩
theorem cv_X1_serve_120 : ob_CV mi_X1_serve mi_X3_beginOf 120 RX3 1 := ob_cvI rfl rfl tw_577 tw_578 tw_579 tw_49 tw_580 ⟨rfl, rfl⟩ ⟨rfl, by decide +kernel, by decide +kernel, by decide +kernel⟩ ⟨Nat.le_of_ble_eq_true rfl, Nat.le_of_ble_eq_true rfl⟩
theorem gf_X1_serve_40 : ob_GF mi_X1_serve 40 1 4 := ⟨RX1, TX1, 11, rfl, by decide, fun x h => List.mem_cons_of_mem _ (uw_X1 x h), List.mem_cons_of_mem _ tw_194⟩
theorem gf_X1_serve_37 : ob_GF mi_X1_serve 37 1 3 := ⟨RX1, TX1, 11, rfl, by decide, fun x h => List.mem_cons_of_mem _ (uw_X1 x h), List.mem_cons_of_mem _ tw_192⟩
theorem mm_X1_serve_123 : ob_mm mi_X1_serve 123 Lib.Math.max.name (.code Lib.Math.max.name Lib.Math.max.code 2 (some .int)) := ⟨List.mem_cons_of_mem _ tw_581, List.mem_cons_of_mem _ tw_384, List.mem_cons_of_mem _ tw_64, List.mem_cons_of_mem _ tw_385⟩
theorem gf_X1_serve_43 : ob_GF mi_X1_serve 43 1 5 := ⟨RX1, TX1, 11, rfl, by decide, fun x h => List.mem_cons_of_mem _ (uw_X1 x h), List.mem_cons_of_mem _ tw_196⟩
theorem gf_X1_serve_129 : ob_GF mi_X1_serve 129 3 3 := ⟨RX3, TX3, 9, rfl, by decide, fun x h => List.mem_cons_of_mem _ (uw_X3 x h), List.mem_cons_of_mem _ tw_92⟩
theorem gf_X1_serve_46 : ob_GF mi_X1_serve 46 1 6 := ⟨RX1, TX1, 11, rfl, by decide, fun x h => List.mem_cons_of_mem _ (uw_X1 x h), List.mem_cons_of_mem _ tw_198⟩
theorem gf_X1_serve_52 : ob_GF mi_X1_serve 52 1 8 := ⟨RX1, TX1, 11, rfl, by decide, fun x h => List.mem_cons_of_mem _ (uw_X1 x h), List.mem_cons_of_mem _ tw_202⟩
theorem gf_X1_serve_55 : ob_GF mi_X1_serve 55 1 9 := ⟨RX1, TX1, 11, rfl, by decide, fun x h => List.mem_cons_of_mem _ (uw_X1 x h), List.mem_cons_of_mem _ tw_204⟩
theorem gf_X1_serve_75 : ob_GF mi_X1_serve 75 3 8 := ⟨RX3, TX3, 9, rfl, by decide, fun x h => List.mem_cons_of_mem _ (uw_X3 x h), List.mem_cons_of_mem _ tw_104⟩
set_option maxHeartbeats 4000000 in
theorem vd_X1_serve_132 {α : Type} {r : α} {g : ob_GT} {ad : Nat → Nat} {ov : Option Value} {σ σ' : ob_St} {pc q : Nat} {lv : List (Nat × Value)} {rest : List Value} {x : Int32} {K : Int32 → ob_St → Option α} (hd : decode cX1_serve pc = .ok (.invokevirtual 132, 3)) (hro : (rest.map fun v => v.category).sum ≤ 8) (pc' : Nat) (hp : pc + 3 = pc') (hf : ob_bd (f_disp_cooled q σ x) K = some r) (kk : ∀ (r1 : Int32) (σ1 : ob_St), K r1 σ1 = some r → ob_V g (ob_X ad) mi_X1_serve ov σ' σ1 pc' lv (.int r1 :: rest)) : ob_V g (ob_X ad) mi_X1_serve ov σ' σ pc lv (.int x :: .ref (ad q) :: rest) := by
  unfold f_disp_cooled at hf
  by_cases h32 : q = 32
  · subst h32
    rw [if_pos rfl] at hf
    exact vv_callU (n := 1) (owner := "BoxOnARope$Plain") hd [.int x] rest (fun _ _ h => c_X6_cooled h) (ob_rec ob_l32 rfl rfl) rfl rfl tw_582 tw_585 tw_584 tw_583 tw_52 tw_608 (Or.inl rfl) ⟨rfl, rfl⟩ ⟨by decide +kernel, by decide +kernel, by decide +kernel⟩ ⟨Nat.le_of_ble_eq_true rfl, Nat.le_of_ble_eq_true rfl⟩ rfl hro pc' hp rfl hf kk
  rw [if_neg h32] at hf
  by_cases h33 : q = 33
  · subst h33
    rw [if_pos rfl] at hf
    exact vv_callU (n := 1) (owner := "BoxOnARope$Plain") hd [.int x] rest (fun _ _ h => c_X6_cooled h) (ob_rec ob_l33 rfl rfl) rfl rfl tw_582 tw_585 tw_607 tw_583 tw_52 tw_608 (Or.inl rfl) ⟨rfl, rfl⟩ ⟨by decide +kernel, by decide +kernel, by decide +kernel⟩ ⟨Nat.le_of_ble_eq_true rfl, Nat.le_of_ble_eq_true rfl⟩ rfl hro pc' hp rfl hf kk
  rw [if_neg h33] at hf
  by_cases h34 : q = 34
  · subst h34
    rw [if_pos rfl] at hf
    exact vv_callU (n := 1) (owner := "BoxOnARope$Plain") hd [.int x] rest (fun _ _ h => c_X4_cooled h) (ob_rec ob_l34 rfl rfl) rfl rfl tw_582 tw_585 tw_598 tw_599 tw_54 tw_600 (Or.inr ⟨tw_583, _, _, _, tw_608⟩) ⟨rfl, rfl⟩ ⟨by decide +kernel, by decide +kernel, by decide +kernel⟩ ⟨Nat.le_of_ble_eq_true rfl, Nat.le_of_ble_eq_true rfl⟩ rfl hro pc' hp rfl hf kk
  rw [if_neg h34] at hf
  by_cases h35 : q = 35
  · subst h35
    rw [if_pos rfl] at hf
    exact vv_callU (n := 1) (owner := "BoxOnARope$Plain") hd [.int x] rest (fun _ _ h => c_X0_cooled h) (ob_rec ob_l35 rfl rfl) rfl rfl tw_582 tw_585 tw_586 tw_587 tw_55 tw_588 (Or.inr ⟨tw_583, _, _, _, tw_608⟩) ⟨rfl, rfl⟩ ⟨by decide +kernel, by decide +kernel, by decide +kernel⟩ ⟨Nat.le_of_ble_eq_true rfl, Nat.le_of_ble_eq_true rfl⟩ rfl hro pc' hp rfl hf kk
  rw [if_neg h35] at hf
  by_cases h36 : q = 36
  · subst h36
    rw [if_pos rfl] at hf
    exact vv_callU (n := 1) (owner := "BoxOnARope$Plain") hd [.int x] rest (fun _ _ h => c_X2_cooled h) (ob_rec ob_l36 rfl rfl) rfl rfl tw_582 tw_585 tw_589 tw_590 tw_56 tw_591 (Or.inr ⟨tw_583, _, _, _, tw_608⟩) ⟨rfl, rfl⟩ ⟨by decide +kernel, by decide +kernel, by decide +kernel⟩ ⟨Nat.le_of_ble_eq_true rfl, Nat.le_of_ble_eq_true rfl⟩ rfl hro pc' hp rfl hf kk
  rw [if_neg h36] at hf
  by_cases h37 : q = 37
  · subst h37
    rw [if_pos rfl] at hf
    exact vv_callU (n := 1) (owner := "BoxOnARope$Plain") hd [.int x] rest (fun _ _ h => c_X7_cooled h) (ob_rec ob_l37 rfl rfl) rfl rfl tw_582 tw_585 tw_603 tw_604 tw_57 tw_605 (Or.inr ⟨tw_583, _, _, _, tw_608⟩) ⟨rfl, rfl⟩ ⟨by decide +kernel, by decide +kernel, by decide +kernel⟩ ⟨Nat.le_of_ble_eq_true rfl, Nat.le_of_ble_eq_true rfl⟩ rfl hro pc' hp rfl hf kk
  rw [if_neg h37] at hf
  exact absurd hf (fun h => by cases h)
set_option maxHeartbeats 4000000 in
theorem vd_X1_serve_135 {α : Type} {r : α} {g : ob_GT} {ad : Nat → Nat} {ov : Option Value} {σ σ' : ob_St} {pc q : Nat} {lv : List (Nat × Value)} {rest : List Value} {x : Int32} {K : Int32 → ob_St → Option α} (hd : decode cX1_serve pc = .ok (.invokevirtual 135, 3)) (hro : (rest.map fun v => v.category).sum ≤ 8) (pc' : Nat) (hp : pc + 3 = pc') (hf : ob_bd (f_disp_slopped q σ x) K = some r) (kk : ∀ (r1 : Int32) (σ1 : ob_St), K r1 σ1 = some r → ob_V g (ob_X ad) mi_X1_serve ov σ' σ1 pc' lv (.int r1 :: rest)) : ob_V g (ob_X ad) mi_X1_serve ov σ' σ pc lv (.int x :: .ref (ad q) :: rest) := by
  unfold f_disp_slopped at hf
  by_cases h32 : q = 32
  · subst h32
    rw [if_pos rfl] at hf
    exact vv_callU (n := 1) (owner := "BoxOnARope$Plain") hd [.int x] rest (fun _ _ h => c_X6_slopped h) (ob_rec ob_l32 rfl rfl) rfl rfl tw_609 tw_612 tw_611 tw_610 tw_52 tw_623 (Or.inl rfl) ⟨rfl, rfl⟩ ⟨by decide +kernel, by decide +kernel, by decide +kernel⟩ ⟨Nat.le_of_ble_eq_true rfl, Nat.le_of_ble_eq_true rfl⟩ rfl hro pc' hp rfl hf kk
  rw [if_neg h32] at hf
  by_cases h33 : q = 33
  · subst h33
    rw [if_pos rfl] at hf
    exact vv_callU (n := 1) (owner := "BoxOnARope$Plain") hd [.int x] rest (fun _ _ h => c_X8_slopped h) (ob_rec ob_l33 rfl rfl) rfl rfl tw_609 tw_612 tw_622 tw_618 tw_53 tw_619 (Or.inr ⟨tw_610, _, _, _, tw_623⟩) ⟨rfl, rfl⟩ ⟨by decide +kernel, by decide +kernel, by decide +kernel⟩ ⟨Nat.le_of_ble_eq_true rfl, Nat.le_of_ble_eq_true rfl⟩ rfl hro pc' hp rfl hf kk
  rw [if_neg h33] at hf
  by_cases h34 : q = 34
  · subst h34
    rw [if_pos rfl] at hf
    exact vv_callU (n := 1) (owner := "BoxOnARope$Plain") hd [.int x] rest (fun _ _ h => c_X6_slopped h) (ob_rec ob_l34 rfl rfl) rfl rfl tw_609 tw_612 tw_620 tw_610 tw_52 tw_623 (Or.inl rfl) ⟨rfl, rfl⟩ ⟨by decide +kernel, by decide +kernel, by decide +kernel⟩ ⟨Nat.le_of_ble_eq_true rfl, Nat.le_of_ble_eq_true rfl⟩ rfl hro pc' hp rfl hf kk
  rw [if_neg h34] at hf
  by_cases h35 : q = 35
  · subst h35
    rw [if_pos rfl] at hf
    exact vv_callU (n := 1) (owner := "BoxOnARope$Plain") hd [.int x] rest (fun _ _ h => c_X6_slopped h) (ob_rec ob_l35 rfl rfl) rfl rfl tw_609 tw_612 tw_613 tw_610 tw_52 tw_623 (Or.inl rfl) ⟨rfl, rfl⟩ ⟨by decide +kernel, by decide +kernel, by decide +kernel⟩ ⟨Nat.le_of_ble_eq_true rfl, Nat.le_of_ble_eq_true rfl⟩ rfl hro pc' hp rfl hf kk
  rw [if_neg h35] at hf
  by_cases h36 : q = 36
  · subst h36
    rw [if_pos rfl] at hf
    exact vv_callU (n := 1) (owner := "BoxOnARope$Plain") hd [.int x] rest (fun _ _ h => c_X2_slopped h) (ob_rec ob_l36 rfl rfl) rfl rfl tw_609 tw_612 tw_614 tw_615 tw_56 tw_616 (Or.inr ⟨tw_610, _, _, _, tw_623⟩) ⟨rfl, rfl⟩ ⟨by decide +kernel, by decide +kernel, by decide +kernel⟩ ⟨Nat.le_of_ble_eq_true rfl, Nat.le_of_ble_eq_true rfl⟩ rfl hro pc' hp rfl hf kk
  rw [if_neg h36] at hf
  by_cases h37 : q = 37
  · subst h37
    rw [if_pos rfl] at hf
    exact vv_callU (n := 1) (owner := "BoxOnARope$Plain") hd [.int x] rest (fun _ _ h => c_X6_slopped h) (ob_rec ob_l37 rfl rfl) rfl rfl tw_609 tw_612 tw_621 tw_610 tw_52 tw_623 (Or.inl rfl) ⟨rfl, rfl⟩ ⟨by decide +kernel, by decide +kernel, by decide +kernel⟩ ⟨Nat.le_of_ble_eq_true rfl, Nat.le_of_ble_eq_true rfl⟩ rfl hro pc' hp rfl hf kk
  rw [if_neg h37] at hf
  exact absurd hf (fun h => by cases h)
noncomputable def f_X1_serve (b : Nat) (σ : ob_St) (p2 : Int32) : Option (Unit × ob_St) :=
  ob_bd (f_X1_kindOf b σ p2) fun q1 σ2 =>
  ob_ld σ2 (b + 5) 6 p2 fun v_3 =>
  ob_bd (f_X3_beginOf b σ2 v_3) fun r4 σ5 =>
  ob_ld σ5 39 6 p2 fun v_6 =>
  ob_sd σ5 40 6 p2 (ob_max v_6 r4) fun σ7 =>
  ob_ld σ7 (b + 3) 6 p2 fun v_8 =>
  ob_ld σ7 40 6 p2 fun v_9 =>
  ob_bd (f_disp_cooled q1 σ7 v_9) fun r10 σ11 =>
  ob_sd σ11 41 6 p2 (ob_max 0 (v_8 - r10)) fun σ12 =>
  ob_ld σ12 39 6 p2 fun v_13 =>
  ob_sd σ12 42 6 p2 (ob_max 0 (v_13 - r4)) fun σ14 =>
  ob_ld σ14 40 6 p2 fun v_15 =>
  ob_ld σ14 39 6 p2 fun v_16 =>
  ob_sd σ14 44 6 p2 (v_15 - v_16) fun σ17 =>
  ob_ld σ17 (b + 8) 6 4 fun v_18 =>
  ob_bd (f_disp_slopped q1 σ17 v_18) fun r19 σ20 =>
  ob_sd σ20 45 6 p2 r19 fun σ21 =>
  some ((), σ21)
set_option maxRecDepth 100000 in
set_option maxHeartbeats 4000000 in
theorem c_X1_serve {g : ob_GT} {ad : Nat → Nat} {b : Nat} (hb : ob_isK b) {r : Unit} {σ' : ob_St} {σ : ob_St} {p2 : Int32} (hf : f_X1_serve b σ p2 = some (r, σ')) : ob_CT g (ob_X ad) mi_X1_serve [.ref (ad 30), .ref (ad b), .int p2] σ none σ' := by
  refine ob_ct (by decide +kernel) rfl (Nat.le_of_ble_eq_true rfl) ?_
  show ob_V g (ob_X ad) mi_X1_serve none σ' σ 0 [(0, .ref (ad 30)), (1, .ref (ad b)), (2, .int p2)] []
  refine vv_aload_n dX1_serve_0 0 rfl rfl 1 rfl ?_
  refine vv_aload_n dX1_serve_1 1 rfl rfl 2 rfl ?_
  refine vv_iload_n dX1_serve_2 2 rfl rfl 3 rfl ?_
  refine vv_callVr [.ref (ad b), .int p2] [] ad (fun _ _ h => c_X1_kindOf hb h) (ob_rec ob_l30 rfl rfl) cv_X1_serve_103 rfl (Nat.le_of_ble_eq_true rfl) 6 rfl dX1_serve_3 rfl hf (fun q1 σ2 hf => ?_)
  refine vv_astore_n dX1_serve_6 [(3, .ref (ad q1)), (0, .ref (ad 30)), (1, .ref (ad b)), (2, .int p2)] rfl (Nat.le_of_ble_eq_true rfl) rfl 7 rfl ?_
  refine vv_aload_n dX1_serve_7 2 rfl rfl 8 rfl ?_
  refine vv_aload_n dX1_serve_8 2 rfl rfl 9 rfl ?_
  refine vv_getR dX1_serve_9 5 gf_X1_serve_117 (ob_kl0 hb) (ob_ks hb) rfl 12 rfl ?_
  refine vv_iload_n dX1_serve_12 3 rfl rfl 13 rfl ?_
  refine vv_iald dX1_serve_13 (ob_kl 5 hb (by decide)) (ob_ka5 hb) 14 rfl hf (fun v_3 hf => ?_)
  refine vv_callV [.int v_3] [] (fun _ _ h => c_X3_beginOf hb h) (ob_rec (ob_kl0 hb) (ob_ks hb) rfl) cv_X1_serve_120 rfl (Nat.le_of_ble_eq_true rfl) 17 rfl dX1_serve_14 rfl hf (fun r4 σ5 hf => ?_)
  refine vv_istore dX1_serve_17 [(4, .int r4), (3, .ref (ad q1)), (0, .ref (ad 30)), (1, .ref (ad b)), (2, .int p2)] (Nat.le_of_ble_eq_true rfl) rfl 19 rfl ?_
  refine vv_aload_n dX1_serve_19 2 rfl rfl 20 rfl ?_
  refine vv_getR dX1_serve_20 4 gf_X1_serve_40 ob_l30 rfl rfl 23 rfl ?_
  refine vv_iload_n dX1_serve_23 4 rfl rfl 24 rfl ?_
  refine vv_aload_n dX1_serve_24 2 rfl rfl 25 rfl ?_
  refine vv_getR dX1_serve_25 3 gf_X1_serve_37 ob_l30 rfl rfl 28 rfl ?_
  refine vv_iload_n dX1_serve_28 4 rfl rfl 29 rfl ?_
  refine vv_iald dX1_serve_29 ob_l39 rfl 30 rfl hf (fun v_6 hf => ?_)
  refine vv_iload dX1_serve_30 0 rfl 32 rfl ?_
  refine vv_max dX1_serve_32 mm_X1_serve_123 (Nat.le_of_ble_eq_true rfl) (Nat.le_of_ble_eq_true rfl) 35 rfl ?_
  refine vv_iast dX1_serve_35 ob_l40 rfl 36 rfl hf (fun σ7 hf => ?_)
  refine vv_aload_n dX1_serve_36 2 rfl rfl 37 rfl ?_
  refine vv_getR dX1_serve_37 5 gf_X1_serve_43 ob_l30 rfl rfl 40 rfl ?_
  refine vv_iload_n dX1_serve_40 4 rfl rfl 41 rfl ?_
  refine vv_iconst dX1_serve_41 0 rfl 42 rfl ?_
  refine vv_aload_n dX1_serve_42 3 rfl rfl 43 rfl ?_
  refine vv_getR dX1_serve_43 3 gf_X1_serve_129 (ob_kl0 hb) (ob_ks hb) rfl 46 rfl ?_
  refine vv_iload_n dX1_serve_46 4 rfl rfl 47 rfl ?_
  refine vv_iald dX1_serve_47 (ob_kl 3 hb (by decide)) (ob_ka3 hb) 48 rfl hf (fun v_8 hf => ?_)
  refine vv_aload_n dX1_serve_48 1 rfl rfl 49 rfl ?_
  refine vv_aload_n dX1_serve_49 2 rfl rfl 50 rfl ?_
  refine vv_getR dX1_serve_50 4 gf_X1_serve_40 ob_l30 rfl rfl 53 rfl ?_
  refine vv_iload_n dX1_serve_53 4 rfl rfl 54 rfl ?_
  refine vv_iald dX1_serve_54 ob_l40 rfl 55 rfl hf (fun v_9 hf => ?_)
  refine vd_X1_serve_132 dX1_serve_55 (Nat.le_of_ble_eq_true rfl) 58 rfl hf (fun r10 σ11 hf => ?_)
  refine vv_isub dX1_serve_58 59 rfl ?_
  refine vv_max dX1_serve_59 mm_X1_serve_123 (Nat.le_of_ble_eq_true rfl) (Nat.le_of_ble_eq_true rfl) 62 rfl ?_
  refine vv_iast dX1_serve_62 ob_l41 rfl 63 rfl hf (fun σ12 hf => ?_)
  refine vv_aload_n dX1_serve_63 2 rfl rfl 64 rfl ?_
  refine vv_getR dX1_serve_64 6 gf_X1_serve_46 ob_l30 rfl rfl 67 rfl ?_
  refine vv_iload_n dX1_serve_67 4 rfl rfl 68 rfl ?_
  refine vv_iconst dX1_serve_68 0 rfl 69 rfl ?_
  refine vv_aload_n dX1_serve_69 2 rfl rfl 70 rfl ?_
  refine vv_getR dX1_serve_70 3 gf_X1_serve_37 ob_l30 rfl rfl 73 rfl ?_
  refine vv_iload_n dX1_serve_73 4 rfl rfl 74 rfl ?_
  refine vv_iald dX1_serve_74 ob_l39 rfl 75 rfl hf (fun v_13 hf => ?_)
  refine vv_iload dX1_serve_75 0 rfl 77 rfl ?_
  refine vv_isub dX1_serve_77 78 rfl ?_
  refine vv_max dX1_serve_78 mm_X1_serve_123 (Nat.le_of_ble_eq_true rfl) (Nat.le_of_ble_eq_true rfl) 81 rfl ?_
  refine vv_iast dX1_serve_81 ob_l42 rfl 82 rfl hf (fun σ14 hf => ?_)
  refine vv_aload_n dX1_serve_82 2 rfl rfl 83 rfl ?_
  refine vv_getR dX1_serve_83 8 gf_X1_serve_52 ob_l30 rfl rfl 86 rfl ?_
  refine vv_iload_n dX1_serve_86 4 rfl rfl 87 rfl ?_
  refine vv_aload_n dX1_serve_87 2 rfl rfl 88 rfl ?_
  refine vv_getR dX1_serve_88 4 gf_X1_serve_40 ob_l30 rfl rfl 91 rfl ?_
  refine vv_iload_n dX1_serve_91 4 rfl rfl 92 rfl ?_
  refine vv_iald dX1_serve_92 ob_l40 rfl 93 rfl hf (fun v_15 hf => ?_)
  refine vv_aload_n dX1_serve_93 2 rfl rfl 94 rfl ?_
  refine vv_getR dX1_serve_94 3 gf_X1_serve_37 ob_l30 rfl rfl 97 rfl ?_
  refine vv_iload_n dX1_serve_97 4 rfl rfl 98 rfl ?_
  refine vv_iald dX1_serve_98 ob_l39 rfl 99 rfl hf (fun v_16 hf => ?_)
  refine vv_isub dX1_serve_99 100 rfl ?_
  refine vv_iast dX1_serve_100 ob_l44 rfl 101 rfl hf (fun σ17 hf => ?_)
  refine vv_aload_n dX1_serve_101 2 rfl rfl 102 rfl ?_
  refine vv_getR dX1_serve_102 9 gf_X1_serve_55 ob_l30 rfl rfl 105 rfl ?_
  refine vv_iload_n dX1_serve_105 4 rfl rfl 106 rfl ?_
  refine vv_aload_n dX1_serve_106 1 rfl rfl 107 rfl ?_
  refine vv_aload_n dX1_serve_107 3 rfl rfl 108 rfl ?_
  refine vv_getR dX1_serve_108 8 gf_X1_serve_75 (ob_kl0 hb) (ob_ks hb) rfl 111 rfl ?_
  refine vv_iconst dX1_serve_111 4 rfl 112 rfl ?_
  refine vv_iald dX1_serve_112 (ob_kl 8 hb (by decide)) (ob_ka8 hb) 113 rfl hf (fun v_18 hf => ?_)
  refine vd_X1_serve_135 dX1_serve_113 (Nat.le_of_ble_eq_true rfl) 116 rfl hf (fun r19 σ20 hf => ?_)
  refine vv_iast dX1_serve_116 ob_l45 rfl 117 rfl hf (fun σ21 hf => ?_)
  exact vv_ret rfl dX1_serve_117 hf
abbrev mi_X1_sumUp : ob_MI := (yX1_sumUp, ob_ws yX1_sumUp cX1_sumUp 3 none, cX1_sumUp, 3, none, { frames := 1, cells := 0, slots := 0, locals := 23 })
theorem gf_X1_sumUp_58 : ob_GF mi_X1_sumUp 58 1 10 := ⟨RX1, TX1, 11, rfl, by decide, fun x h => List.mem_cons_of_mem _ (uw_X1 x h), List.mem_cons_of_mem _ tw_206⟩
theorem gf_X1_sumUp_46 : ob_GF mi_X1_sumUp 46 1 6 := ⟨RX1, TX1, 11, rfl, by decide, fun x h => List.mem_cons_of_mem _ (uw_X1 x h), List.mem_cons_of_mem _ tw_198⟩
theorem cv_X1_sumUp_138 : ob_CV mi_X1_sumUp mi_X3_sumOf 138 RX3 1 := ob_cvI rfl rfl tw_628 tw_629 tw_630 tw_49 tw_631 ⟨rfl, rfl⟩ ⟨rfl, by decide +kernel, by decide +kernel, by decide +kernel⟩ ⟨Nat.le_of_ble_eq_true rfl, Nat.le_of_ble_eq_true rfl⟩
theorem gf_X1_sumUp_78 : ob_GF mi_X1_sumUp 78 3 0 := ⟨RX3, TX3, 9, rfl, by decide, fun x h => List.mem_cons_of_mem _ (uw_X3 x h), List.mem_cons_of_mem _ tw_82⟩
theorem gf_X1_sumUp_43 : ob_GF mi_X1_sumUp 43 1 5 := ⟨RX1, TX1, 11, rfl, by decide, fun x h => List.mem_cons_of_mem _ (uw_X1 x h), List.mem_cons_of_mem _ tw_196⟩
theorem gf_X1_sumUp_55 : ob_GF mi_X1_sumUp 55 1 9 := ⟨RX1, TX1, 11, rfl, by decide, fun x h => List.mem_cons_of_mem _ (uw_X1 x h), List.mem_cons_of_mem _ tw_204⟩
theorem gf_X1_sumUp_52 : ob_GF mi_X1_sumUp 52 1 8 := ⟨RX1, TX1, 11, rfl, by decide, fun x h => List.mem_cons_of_mem _ (uw_X1 x h), List.mem_cons_of_mem _ tw_202⟩
theorem mm_X1_sumUp_123 : ob_mm mi_X1_sumUp 123 Lib.Math.max.name (.code Lib.Math.max.name Lib.Math.max.code 2 (some .int)) := ⟨List.mem_cons_of_mem _ tw_581, List.mem_cons_of_mem _ tw_384, List.mem_cons_of_mem _ tw_64, List.mem_cons_of_mem _ tw_385⟩
noncomputable def L_X1_sumUp_23 (b : Nat) : Nat → ob_St → Int32 → Option (Unit × ob_St)
  | 0, _, _ => none
  | n + 1, σ, v2 =>
    if (σ b 0) ≤ v2 then
      ob_bd (f_X3_sumOf b 41 σ) fun r5 σ6 =>
      ob_sd σ6 46 8 2 r5 fun σ7 =>
      ob_bd (f_X3_sumOf b 45 σ7) fun r8 σ9 =>
      ob_sd σ9 46 8 3 r8 fun σ10 =>
      ob_bd (f_X3_sumOf b 44 σ10) fun r11 σ12 =>
      ob_sd σ12 46 8 4 r11 fun σ13 =>
      ob_ld σ13 46 8 2 fun v_14 =>
      ob_ld σ13 46 8 0 fun v_15 =>
      ob_ld σ13 46 8 3 fun v_16 =>
      ob_sd σ13 46 8 7 ((v_14 - v_15) - (5 * v_16)) fun σ17 =>
      some ((), σ17)
    else
      ob_ld σ 46 8 1 fun v_18 =>
      ob_ld σ 42 6 v2 fun v_19 =>
      ob_sd σ 46 8 1 (ob_max v_18 v_19) fun σ20 =>
      L_X1_sumUp_23 b n σ20 (v2 + 1)
noncomputable def f_X1_sumUp (b : Nat) (σ : ob_St) : Option (Unit × ob_St) :=
  ob_bd (f_X3_sumOf b 42 σ) fun r1 σ2 =>
  ob_sd σ2 46 8 0 r1 fun σ3 =>
  ob_sd σ3 46 8 1 0 fun σ4 =>
  L_X1_sumUp_23 b 1000 σ4 0
set_option maxRecDepth 100000 in
set_option maxHeartbeats 4000000 in
theorem l_X1_sumUp_23 {g : ob_GT} {ad : Nat → Nat} {b : Nat} (hb : ob_isK b) {r : Unit} {σ' : ob_St} : ∀ (n : Nat) {σ : ob_St} {v2 : Int32}, L_X1_sumUp_23 b n σ v2 = some (r, σ') → ob_V g (ob_X ad) mi_X1_sumUp none σ' σ 23 [(0, .ref (ad 30)), (1, .ref (ad b)), (2, .int v2)] [] := by
  intro n
  induction n with
  | zero => intro σ v2 hf; exact absurd hf (fun h => by cases h)
  | succ n ih =>
    intro σ v2 hf
    refine vv_iload_n dX1_sumUp_23 2 rfl rfl 24 rfl ?_
    refine vv_aload_n dX1_sumUp_24 1 rfl rfl 25 rfl ?_
    refine vv_getI dX1_sumUp_25 0 gf_X1_sumUp_78 (ob_kl0 hb) (ob_ks hb) rfl 28 rfl ?_
    refine vv_icmp_ge dX1_sumUp_28 58 31 rfl rfl hf (fun hf => ?_) (fun hf => ?_)
    · refine vv_aload_n dX1_sumUp_58 0 rfl rfl 59 rfl ?_
      refine vv_getR dX1_sumUp_59 10 gf_X1_sumUp_58 ob_l30 rfl rfl 62 rfl ?_
      refine vv_iconst dX1_sumUp_62 2 rfl 63 rfl ?_
      refine vv_aload_n dX1_sumUp_63 1 rfl rfl 64 rfl ?_
      refine vv_aload_n dX1_sumUp_64 0 rfl rfl 65 rfl ?_
      refine vv_getR dX1_sumUp_65 5 gf_X1_sumUp_43 ob_l30 rfl rfl 68 rfl ?_
      refine vv_callV [.ref (ad 41)] [.int 2, .ref (ad 46)] (fun _ _ h => c_X3_sumOf hb ⟨ob_l41, rfl⟩ h) (ob_rec (ob_kl0 hb) (ob_ks hb) rfl) cv_X1_sumUp_138 rfl (Nat.le_of_ble_eq_true rfl) 71 rfl dX1_sumUp_68 rfl hf (fun r5 σ6 hf => ?_)
      refine vv_iast dX1_sumUp_71 ob_l46 rfl 72 rfl hf (fun σ7 hf => ?_)
      refine vv_aload_n dX1_sumUp_72 0 rfl rfl 73 rfl ?_
      refine vv_getR dX1_sumUp_73 10 gf_X1_sumUp_58 ob_l30 rfl rfl 76 rfl ?_
      refine vv_iconst dX1_sumUp_76 3 rfl 77 rfl ?_
      refine vv_aload_n dX1_sumUp_77 1 rfl rfl 78 rfl ?_
      refine vv_aload_n dX1_sumUp_78 0 rfl rfl 79 rfl ?_
      refine vv_getR dX1_sumUp_79 9 gf_X1_sumUp_55 ob_l30 rfl rfl 82 rfl ?_
      refine vv_callV [.ref (ad 45)] [.int 3, .ref (ad 46)] (fun _ _ h => c_X3_sumOf hb ⟨ob_l45, rfl⟩ h) (ob_rec (ob_kl0 hb) (ob_ks hb) rfl) cv_X1_sumUp_138 rfl (Nat.le_of_ble_eq_true rfl) 85 rfl dX1_sumUp_82 rfl hf (fun r8 σ9 hf => ?_)
      refine vv_iast dX1_sumUp_85 ob_l46 rfl 86 rfl hf (fun σ10 hf => ?_)
      refine vv_aload_n dX1_sumUp_86 0 rfl rfl 87 rfl ?_
      refine vv_getR dX1_sumUp_87 10 gf_X1_sumUp_58 ob_l30 rfl rfl 90 rfl ?_
      refine vv_iconst dX1_sumUp_90 4 rfl 91 rfl ?_
      refine vv_aload_n dX1_sumUp_91 1 rfl rfl 92 rfl ?_
      refine vv_aload_n dX1_sumUp_92 0 rfl rfl 93 rfl ?_
      refine vv_getR dX1_sumUp_93 8 gf_X1_sumUp_52 ob_l30 rfl rfl 96 rfl ?_
      refine vv_callV [.ref (ad 44)] [.int 4, .ref (ad 46)] (fun _ _ h => c_X3_sumOf hb ⟨ob_l44, rfl⟩ h) (ob_rec (ob_kl0 hb) (ob_ks hb) rfl) cv_X1_sumUp_138 rfl (Nat.le_of_ble_eq_true rfl) 99 rfl dX1_sumUp_96 rfl hf (fun r11 σ12 hf => ?_)
      refine vv_iast dX1_sumUp_99 ob_l46 rfl 100 rfl hf (fun σ13 hf => ?_)
      refine vv_aload_n dX1_sumUp_100 0 rfl rfl 101 rfl ?_
      refine vv_getR dX1_sumUp_101 10 gf_X1_sumUp_58 ob_l30 rfl rfl 104 rfl ?_
      refine vv_bipush dX1_sumUp_104 7 rfl 106 rfl ?_
      refine vv_aload_n dX1_sumUp_106 0 rfl rfl 107 rfl ?_
      refine vv_getR dX1_sumUp_107 10 gf_X1_sumUp_58 ob_l30 rfl rfl 110 rfl ?_
      refine vv_iconst dX1_sumUp_110 2 rfl 111 rfl ?_
      refine vv_iald dX1_sumUp_111 ob_l46 rfl 112 rfl hf (fun v_14 hf => ?_)
      refine vv_aload_n dX1_sumUp_112 0 rfl rfl 113 rfl ?_
      refine vv_getR dX1_sumUp_113 10 gf_X1_sumUp_58 ob_l30 rfl rfl 116 rfl ?_
      refine vv_iconst dX1_sumUp_116 0 rfl 117 rfl ?_
      refine vv_iald dX1_sumUp_117 ob_l46 rfl 118 rfl hf (fun v_15 hf => ?_)
      refine vv_isub dX1_sumUp_118 119 rfl ?_
      refine vv_iconst dX1_sumUp_119 5 rfl 120 rfl ?_
      refine vv_aload_n dX1_sumUp_120 0 rfl rfl 121 rfl ?_
      refine vv_getR dX1_sumUp_121 10 gf_X1_sumUp_58 ob_l30 rfl rfl 124 rfl ?_
      refine vv_iconst dX1_sumUp_124 3 rfl 125 rfl ?_
      refine vv_iald dX1_sumUp_125 ob_l46 rfl 126 rfl hf (fun v_16 hf => ?_)
      refine vv_imul dX1_sumUp_126 127 rfl ?_
      refine vv_isub dX1_sumUp_127 128 rfl ?_
      refine vv_iast dX1_sumUp_128 ob_l46 rfl 129 rfl hf (fun σ17 hf => ?_)
      exact vv_ret rfl dX1_sumUp_129 hf
    · refine vv_aload_n dX1_sumUp_31 0 rfl rfl 32 rfl ?_
      refine vv_getR dX1_sumUp_32 10 gf_X1_sumUp_58 ob_l30 rfl rfl 35 rfl ?_
      refine vv_iconst dX1_sumUp_35 1 rfl 36 rfl ?_
      refine vv_aload_n dX1_sumUp_36 0 rfl rfl 37 rfl ?_
      refine vv_getR dX1_sumUp_37 10 gf_X1_sumUp_58 ob_l30 rfl rfl 40 rfl ?_
      refine vv_iconst dX1_sumUp_40 1 rfl 41 rfl ?_
      refine vv_iald dX1_sumUp_41 ob_l46 rfl 42 rfl hf (fun v_18 hf => ?_)
      refine vv_aload_n dX1_sumUp_42 0 rfl rfl 43 rfl ?_
      refine vv_getR dX1_sumUp_43 6 gf_X1_sumUp_46 ob_l30 rfl rfl 46 rfl ?_
      refine vv_iload_n dX1_sumUp_46 2 rfl rfl 47 rfl ?_
      refine vv_iald dX1_sumUp_47 ob_l42 rfl 48 rfl hf (fun v_19 hf => ?_)
      refine vv_max dX1_sumUp_48 mm_X1_sumUp_123 (Nat.le_of_ble_eq_true rfl) (Nat.le_of_ble_eq_true rfl) 51 rfl ?_
      refine vv_iast dX1_sumUp_51 ob_l46 rfl 52 rfl hf (fun σ20 hf => ?_)
      refine vv_iinc dX1_sumUp_52 (v2 + 1) 2 [(2, .int (v2 + 1)), (0, .ref (ad 30)), (1, .ref (ad b))] rfl rfl (Nat.le_of_ble_eq_true rfl) rfl 55 rfl ?_
      refine vv_goto dX1_sumUp_55 23 rfl ?_
      refine vv_sub [1, 2, 0] [(0, .ref (ad 30)), (1, .ref (ad b)), (2, .int (v2 + 1))] rfl ?_
      exact ih hf
set_option maxRecDepth 100000 in
set_option maxHeartbeats 4000000 in
theorem c_X1_sumUp {g : ob_GT} {ad : Nat → Nat} {b : Nat} (hb : ob_isK b) {r : Unit} {σ' : ob_St} {σ : ob_St} (hf : f_X1_sumUp b σ = some (r, σ')) : ob_CT g (ob_X ad) mi_X1_sumUp [.ref (ad 30), .ref (ad b)] σ none σ' := by
  refine ob_ct (by decide +kernel) rfl (Nat.le_of_ble_eq_true rfl) ?_
  show ob_V g (ob_X ad) mi_X1_sumUp none σ' σ 0 [(0, .ref (ad 30)), (1, .ref (ad b))] []
  refine vv_aload_n dX1_sumUp_0 0 rfl rfl 1 rfl ?_
  refine vv_getR dX1_sumUp_1 10 gf_X1_sumUp_58 ob_l30 rfl rfl 4 rfl ?_
  refine vv_iconst dX1_sumUp_4 0 rfl 5 rfl ?_
  refine vv_aload_n dX1_sumUp_5 1 rfl rfl 6 rfl ?_
  refine vv_aload_n dX1_sumUp_6 0 rfl rfl 7 rfl ?_
  refine vv_getR dX1_sumUp_7 6 gf_X1_sumUp_46 ob_l30 rfl rfl 10 rfl ?_
  refine vv_callV [.ref (ad 42)] [.int 0, .ref (ad 46)] (fun _ _ h => c_X3_sumOf hb ⟨ob_l42, rfl⟩ h) (ob_rec (ob_kl0 hb) (ob_ks hb) rfl) cv_X1_sumUp_138 rfl (Nat.le_of_ble_eq_true rfl) 13 rfl dX1_sumUp_10 rfl hf (fun r1 σ2 hf => ?_)
  refine vv_iast dX1_sumUp_13 ob_l46 rfl 14 rfl hf (fun σ3 hf => ?_)
  refine vv_aload_n dX1_sumUp_14 0 rfl rfl 15 rfl ?_
  refine vv_getR dX1_sumUp_15 10 gf_X1_sumUp_58 ob_l30 rfl rfl 18 rfl ?_
  refine vv_iconst dX1_sumUp_18 1 rfl 19 rfl ?_
  refine vv_iconst dX1_sumUp_19 0 rfl 20 rfl ?_
  refine vv_iast dX1_sumUp_20 ob_l46 rfl 21 rfl hf (fun σ4 hf => ?_)
  refine vv_iconst dX1_sumUp_21 0 rfl 22 rfl ?_
  refine vv_istore_n dX1_sumUp_22 [(2, .int 0), (0, .ref (ad 30)), (1, .ref (ad b))] rfl (Nat.le_of_ble_eq_true rfl) rfl 23 rfl ?_
  refine vv_sub [1, 2, 0] [(0, .ref (ad 30)), (1, .ref (ad b)), (2, .int 0)] rfl ?_
  exact l_X1_sumUp_23 hb 1000 hf
abbrev mi_X1_pass : ob_MI := (yX1_pass, ob_ws yX1_pass cX1_pass 5 none, cX1_pass, 5, none, { frames := 3, cells := 0, slots := 0, locals := 76 })
theorem cv_X1_pass_61 : ob_CV mi_X1_pass mi_X1_lineUp 61 RX1 3 := ob_cvI rfl rfl tw_543 tw_545 tw_6 tw_51 tw_546 ⟨rfl, rfl⟩ ⟨rfl, by decide +kernel, by decide +kernel, by decide +kernel⟩ ⟨Nat.le_of_ble_eq_true rfl, Nat.le_of_ble_eq_true rfl⟩
theorem cv_X1_pass_65 : ob_CV mi_X1_pass mi_X1_carryAll 65 RX1 1 := ob_cvI rfl rfl tw_547 tw_549 tw_7 tw_51 tw_550 ⟨rfl, rfl⟩ ⟨rfl, by decide +kernel, by decide +kernel, by decide +kernel⟩ ⟨Nat.le_of_ble_eq_true rfl, Nat.le_of_ble_eq_true rfl⟩
theorem cv_X1_pass_69 : ob_CV mi_X1_pass mi_X3_hasDish 69 RX3 1 := ob_cvI rfl rfl tw_572 tw_470 tw_471 tw_49 tw_472 ⟨rfl, rfl⟩ ⟨rfl, by decide +kernel, by decide +kernel, by decide +kernel⟩ ⟨Nat.le_of_ble_eq_true rfl, Nat.le_of_ble_eq_true rfl⟩
theorem gf_X1_pass_78 : ob_GF mi_X1_pass 78 3 0 := ⟨RX3, TX3, 9, rfl, by decide, fun x h => List.mem_cons_of_mem _ (uw_X3 x h), List.mem_cons_of_mem _ tw_82⟩
theorem cv_X1_pass_86 : ob_CV mi_X1_pass mi_X1_sumUp 86 RX1 1 := ob_cvI rfl rfl tw_624 tw_626 tw_11 tw_51 tw_627 ⟨rfl, rfl⟩ ⟨rfl, by decide +kernel, by decide +kernel, by decide +kernel⟩ ⟨Nat.le_of_ble_eq_true rfl, Nat.le_of_ble_eq_true rfl⟩
theorem gf_X1_pass_55 : ob_GF mi_X1_pass 55 1 9 := ⟨RX1, TX1, 11, rfl, by decide, fun x h => List.mem_cons_of_mem _ (uw_X1 x h), List.mem_cons_of_mem _ tw_204⟩
theorem cv_X1_pass_82 : ob_CV mi_X1_pass mi_X1_serve 82 RX1 2 := ob_cvI rfl rfl tw_573 tw_575 tw_10 tw_51 tw_576 ⟨rfl, rfl⟩ ⟨rfl, by decide +kernel, by decide +kernel, by decide +kernel⟩ ⟨Nat.le_of_ble_eq_true rfl, Nat.le_of_ble_eq_true rfl⟩
theorem gf_X1_pass_37 : ob_GF mi_X1_pass 37 1 3 := ⟨RX1, TX1, 11, rfl, by decide, fun x h => List.mem_cons_of_mem _ (uw_X1 x h), List.mem_cons_of_mem _ tw_192⟩
theorem gf_X1_pass_75 : ob_GF mi_X1_pass 75 3 8 := ⟨RX3, TX3, 9, rfl, by decide, fun x h => List.mem_cons_of_mem _ (uw_X3 x h), List.mem_cons_of_mem _ tw_104⟩
noncomputable def L_X1_pass_38 (b : Nat) (a : Nat) : Nat → ob_St → Int32 → Int32 → Option (Unit × ob_St)
  | 0, _, _, _ => none
  | n + 1, σ, v3, v4 =>
    if (σ b 0) ≤ v4 then
      ob_bd (f_X3_hasDish b σ v3) fun r7 σ8 =>
      if r7 = 0 then
        ob_bd (f_X1_sumUp b σ8) fun _ σ10 =>
        some ((), σ10)
      else
        ob_ld σ8 45 6 v3 fun v_11 =>
        ob_sd σ8 45 6 v3 (v_11 + 2) fun σ12 =>
        ob_bd (f_X1_sumUp b σ12) fun _ σ14 =>
        some ((), σ14)
    else
      ob_bd (f_X1_serve b σ v4) fun _ σ16 =>
      L_X1_pass_38 b a n σ16 v3 (v4 + 1)
noncomputable def f_X1_pass (b : Nat) (a : Nat) (σ : ob_St) (p3 : Int32) : Option (Unit × ob_St) :=
  ob_bd (f_X1_lineUp b a σ p3) fun _ σ2 =>
  ob_bd (f_X1_carryAll b σ2) fun _ σ4 =>
  ob_bd (f_X3_hasDish b σ4 p3) fun r5 σ6 =>
  if r5 = 0 then
    L_X1_pass_38 b a 1000 σ6 p3 0
  else
    ob_ld σ6 (b + 8) 6 5 fun v_17 =>
    ob_sd σ6 39 6 p3 (v_17 + 60) fun σ18 =>
    L_X1_pass_38 b a 1000 σ18 p3 0
set_option maxRecDepth 100000 in
set_option maxHeartbeats 4000000 in
theorem l_X1_pass_38 {g : ob_GT} {ad : Nat → Nat} {b : Nat} {a : Nat} (hb : ob_isK b) (ha : a < 52 ∧ ob_xsh a = .inl 6) {r : Unit} {σ' : ob_St} : ∀ (n : Nat) {σ : ob_St} {v3 : Int32} {v4 : Int32}, L_X1_pass_38 b a n σ v3 v4 = some (r, σ') → ob_V g (ob_X ad) mi_X1_pass none σ' σ 38 [(0, .ref (ad 30)), (1, .ref (ad b)), (3, .int v3), (4, .int v4)] [] := by
  intro n
  induction n with
  | zero => intro σ v3 v4 hf; exact absurd hf (fun h => by cases h)
  | succ n ih =>
    intro σ v3 v4 hf
    refine vv_iload dX1_pass_38 3 rfl 40 rfl ?_
    refine vv_aload_n dX1_pass_40 1 rfl rfl 41 rfl ?_
    refine vv_getI dX1_pass_41 0 gf_X1_pass_78 (ob_kl0 hb) (ob_ks hb) rfl 44 rfl ?_
    refine vv_icmp_ge dX1_pass_44 60 47 rfl rfl hf (fun hf => ?_) (fun hf => ?_)
    · refine vv_aload_n dX1_pass_60 1 rfl rfl 61 rfl ?_
      refine vv_iload_n dX1_pass_61 2 rfl rfl 62 rfl ?_
      refine vv_callV [.int v3] [] (fun _ _ h => c_X3_hasDish hb h) (ob_rec (ob_kl0 hb) (ob_ks hb) rfl) cv_X1_pass_69 rfl (Nat.le_of_ble_eq_true rfl) 65 rfl dX1_pass_62 rfl hf (fun r7 σ8 hf => ?_)
      refine vv_if_eq dX1_pass_65 78 68 rfl rfl hf (fun hf => ?_) (fun hf => ?_)
      · refine vv_aload_n dX1_pass_78 0 rfl rfl 79 rfl ?_
        refine vv_aload_n dX1_pass_79 1 rfl rfl 80 rfl ?_
        refine vv_callVu [.ref (ad b)] [] (fun _ _ h => c_X1_sumUp hb h) (ob_rec ob_l30 rfl rfl) cv_X1_pass_86 rfl (Nat.le_of_ble_eq_true rfl) 83 rfl dX1_pass_80 rfl hf (fun _ σ10 hf => ?_)
        exact vv_ret rfl dX1_pass_83 hf
      · refine vv_aload_n dX1_pass_68 0 rfl rfl 69 rfl ?_
        refine vv_getR dX1_pass_69 9 gf_X1_pass_55 ob_l30 rfl rfl 72 rfl ?_
        refine vv_iload_n dX1_pass_72 2 rfl rfl 73 rfl ?_
        refine vv_dup2 dX1_pass_73 rfl rfl 74 rfl ?_
        refine vv_iald dX1_pass_74 ob_l45 rfl 75 rfl hf (fun v_11 hf => ?_)
        refine vv_iconst dX1_pass_75 2 rfl 76 rfl ?_
        refine vv_iadd dX1_pass_76 77 rfl ?_
        refine vv_iast dX1_pass_77 ob_l45 rfl 78 rfl hf (fun σ12 hf => ?_)
        refine vv_aload_n dX1_pass_78 0 rfl rfl 79 rfl ?_
        refine vv_aload_n dX1_pass_79 1 rfl rfl 80 rfl ?_
        refine vv_callVu [.ref (ad b)] [] (fun _ _ h => c_X1_sumUp hb h) (ob_rec ob_l30 rfl rfl) cv_X1_pass_86 rfl (Nat.le_of_ble_eq_true rfl) 83 rfl dX1_pass_80 rfl hf (fun _ σ14 hf => ?_)
        exact vv_ret rfl dX1_pass_83 hf
    · refine vv_aload_n dX1_pass_47 0 rfl rfl 48 rfl ?_
      refine vv_aload_n dX1_pass_48 1 rfl rfl 49 rfl ?_
      refine vv_iload dX1_pass_49 3 rfl 51 rfl ?_
      refine vv_callVu [.ref (ad b), .int v4] [] (fun _ _ h => c_X1_serve hb h) (ob_rec ob_l30 rfl rfl) cv_X1_pass_82 rfl (Nat.le_of_ble_eq_true rfl) 54 rfl dX1_pass_51 rfl hf (fun _ σ16 hf => ?_)
      refine vv_iinc dX1_pass_54 (v4 + 1) 3 [(4, .int (v4 + 1)), (0, .ref (ad 30)), (1, .ref (ad b)), (3, .int v3)] rfl rfl (Nat.le_of_ble_eq_true rfl) rfl 57 rfl ?_
      refine vv_goto dX1_pass_57 38 rfl ?_
      refine vv_sub [1, 2, 3, 0] [(0, .ref (ad 30)), (1, .ref (ad b)), (3, .int v3), (4, .int (v4 + 1))] rfl ?_
      exact ih hf
set_option maxRecDepth 100000 in
set_option maxHeartbeats 4000000 in
theorem c_X1_pass {g : ob_GT} {ad : Nat → Nat} {b : Nat} {a : Nat} (hb : ob_isK b) (ha : a < 52 ∧ ob_xsh a = .inl 6) {r : Unit} {σ' : ob_St} {σ : ob_St} {p3 : Int32} (hf : f_X1_pass b a σ p3 = some (r, σ')) : ob_CT g (ob_X ad) mi_X1_pass [.ref (ad 30), .ref (ad b), .ref (ad a), .int p3] σ none σ' := by
  refine ob_ct (by decide +kernel) rfl (Nat.le_of_ble_eq_true rfl) ?_
  show ob_V g (ob_X ad) mi_X1_pass none σ' σ 0 [(0, .ref (ad 30)), (1, .ref (ad b)), (2, .ref (ad a)), (3, .int p3)] []
  refine vv_aload_n dX1_pass_0 0 rfl rfl 1 rfl ?_
  refine vv_aload_n dX1_pass_1 1 rfl rfl 2 rfl ?_
  refine vv_aload_n dX1_pass_2 2 rfl rfl 3 rfl ?_
  refine vv_iload_n dX1_pass_3 3 rfl rfl 4 rfl ?_
  refine vv_callVu [.ref (ad b), .ref (ad a), .int p3] [] (fun _ _ h => c_X1_lineUp hb ha h) (ob_rec ob_l30 rfl rfl) cv_X1_pass_61 rfl (Nat.le_of_ble_eq_true rfl) 7 rfl dX1_pass_4 rfl hf (fun _ σ2 hf => ?_)
  refine vv_aload_n dX1_pass_7 0 rfl rfl 8 rfl ?_
  refine vv_aload_n dX1_pass_8 1 rfl rfl 9 rfl ?_
  refine vv_callVu [.ref (ad b)] [] (fun _ _ h => c_X1_carryAll hb h) (ob_rec ob_l30 rfl rfl) cv_X1_pass_65 rfl (Nat.le_of_ble_eq_true rfl) 12 rfl dX1_pass_9 rfl hf (fun _ σ4 hf => ?_)
  refine vv_aload_n dX1_pass_12 1 rfl rfl 13 rfl ?_
  refine vv_iload_n dX1_pass_13 3 rfl rfl 14 rfl ?_
  refine vv_callV [.int p3] [] (fun _ _ h => c_X3_hasDish hb h) (ob_rec (ob_kl0 hb) (ob_ks hb) rfl) cv_X1_pass_69 rfl (Nat.le_of_ble_eq_true rfl) 17 rfl dX1_pass_14 rfl hf (fun r5 σ6 hf => ?_)
  refine vv_if_eq dX1_pass_17 35 20 rfl rfl hf (fun hf => ?_) (fun hf => ?_)
  · refine vv_iconst dX1_pass_35 0 rfl 36 rfl ?_
    refine vv_istore dX1_pass_36 [(4, .int 0), (0, .ref (ad 30)), (1, .ref (ad b)), (2, .ref (ad a)), (3, .int p3)] (Nat.le_of_ble_eq_true rfl) rfl 38 rfl ?_
    refine vv_sub [1, 2, 4, 0] [(0, .ref (ad 30)), (1, .ref (ad b)), (3, .int p3), (4, .int 0)] rfl ?_
    exact l_X1_pass_38 hb ha 1000 hf
  · refine vv_aload_n dX1_pass_20 0 rfl rfl 21 rfl ?_
    refine vv_getR dX1_pass_21 3 gf_X1_pass_37 ob_l30 rfl rfl 24 rfl ?_
    refine vv_iload_n dX1_pass_24 3 rfl rfl 25 rfl ?_
    refine vv_aload_n dX1_pass_25 1 rfl rfl 26 rfl ?_
    refine vv_getR dX1_pass_26 8 gf_X1_pass_75 (ob_kl0 hb) (ob_ks hb) rfl 29 rfl ?_
    refine vv_iconst dX1_pass_29 5 rfl 30 rfl ?_
    refine vv_iald dX1_pass_30 (ob_kl 8 hb (by decide)) (ob_ka8 hb) 31 rfl hf (fun v_17 hf => ?_)
    refine vv_bipush dX1_pass_31 60 rfl 33 rfl ?_
    refine vv_iadd dX1_pass_33 34 rfl ?_
    refine vv_iast dX1_pass_34 ob_l39 rfl 35 rfl hf (fun σ18 hf => ?_)
    refine vv_iconst dX1_pass_35 0 rfl 36 rfl ?_
    refine vv_istore dX1_pass_36 [(4, .int 0), (0, .ref (ad 30)), (1, .ref (ad b)), (2, .ref (ad a)), (3, .int p3)] (Nat.le_of_ble_eq_true rfl) rfl 38 rfl ?_
    refine vv_sub [1, 2, 4, 0] [(0, .ref (ad 30)), (1, .ref (ad b)), (3, .int p3), (4, .int 0)] rfl ?_
    exact l_X1_pass_38 hb ha 1000 hf
abbrev mi_X1_isHalved : ob_MI := (yX1_isHalved, ob_ws yX1_isHalved cX1_isHalved 5 (some .boolean), cX1_isHalved, 5, (some .boolean), { frames := 0, cells := 0, slots := 0, locals := 0 })
theorem gf_X1_isHalved_78 : ob_GF mi_X1_isHalved 78 3 0 := ⟨RX3, TX3, 9, rfl, by decide, fun x h => List.mem_cons_of_mem _ (uw_X3 x h), List.mem_cons_of_mem _ tw_82⟩
theorem gf_X1_isHalved_117 : ob_GF mi_X1_isHalved 117 3 5 := ⟨RX3, TX3, 9, rfl, by decide, fun x h => List.mem_cons_of_mem _ (uw_X3 x h), List.mem_cons_of_mem _ tw_98⟩
theorem gf_X1_isHalved_49 : ob_GF mi_X1_isHalved 49 1 7 := ⟨RX1, TX1, 11, rfl, by decide, fun x h => List.mem_cons_of_mem _ (uw_X1 x h), List.mem_cons_of_mem _ tw_200⟩
noncomputable def J_X1_isHalved_45_6 (b : Nat) (rec : ob_St → Int32 → Int32 → Int32 → Option (Int32 × ob_St)) (σ : ob_St) (v2 : Int32) (v4 : Int32) : Option (Int32 × ob_St) :=
  ob_ld σ 43 6 v4 fun v_2 =>
  rec σ v2 v_2 (v4 + 1)
noncomputable def L_X1_isHalved_6 (b : Nat) : Nat → ob_St → Int32 → Int32 → Int32 → Option (Int32 × ob_St)
  | 0, _, _, _, _ => none
  | n + 1, σ, v2, v3, v4 =>
    if (σ b 0) ≤ v4 then
      ob_rb 0 σ
    else
      ob_ld σ (b + 5) 6 v4 fun v_1 =>
      if v_1 = v2 then
        if v3 = (-9) then
          J_X1_isHalved_45_6 b (fun σ v2 v3 v4 => L_X1_isHalved_6 b n σ v2 v3 v4) σ v2 v4
        else
          ob_ld σ 43 6 v4 fun v_3 =>
          if v3 = v_3 then
            J_X1_isHalved_45_6 b (fun σ v2 v3 v4 => L_X1_isHalved_6 b n σ v2 v3 v4) σ v2 v4
          else
            ob_rb 1 σ
      else
        L_X1_isHalved_6 b n σ v2 v3 (v4 + 1)
noncomputable def f_X1_isHalved (b : Nat) (σ : ob_St) (p2 : Int32) : Option (Int32 × ob_St) :=
  L_X1_isHalved_6 b 1000 σ p2 (-9) 0
set_option maxRecDepth 100000 in
set_option maxHeartbeats 4000000 in
theorem j_X1_isHalved_45_6 {g : ob_GT} {ad : Nat → Nat} {b : Nat} (hb : ob_isK b) {r : Int32} {σ' : ob_St} {σ : ob_St} {v2 : Int32} {v4 : Int32} {rec : ob_St → Int32 → Int32 → Int32 → Option (Int32 × ob_St)} (hrec : ∀ {σ : ob_St} {v2 : Int32} {v3 : Int32} {v4 : Int32}, rec σ v2 v3 v4 = some (r, σ') → ob_V g (ob_X ad) mi_X1_isHalved (some (.int r)) σ' σ 6 [(0, .ref (ad 30)), (1, .ref (ad b)), (2, .int v2), (3, .int v3), (4, .int v4)] []) (hf : J_X1_isHalved_45_6 b rec σ v2 v4 = some (r, σ')) : ob_V g (ob_X ad) mi_X1_isHalved (some (.int r)) σ' σ 45 [(0, .ref (ad 30)), (1, .ref (ad b)), (2, .int v2), (4, .int v4)] [] := by
  refine vv_aload_n dX1_isHalved_45 0 rfl rfl 46 rfl ?_
  refine vv_getR dX1_isHalved_46 7 gf_X1_isHalved_49 ob_l30 rfl rfl 49 rfl ?_
  refine vv_iload dX1_isHalved_49 3 rfl 51 rfl ?_
  refine vv_iald dX1_isHalved_51 ob_l43 rfl 52 rfl hf (fun v_2 hf => ?_)
  refine vv_istore_n dX1_isHalved_52 [(3, .int v_2), (0, .ref (ad 30)), (1, .ref (ad b)), (2, .int v2), (4, .int v4)] rfl (Nat.le_of_ble_eq_true rfl) rfl 53 rfl ?_
  refine vv_iinc dX1_isHalved_53 (v4 + 1) 4 [(4, .int (v4 + 1)), (3, .int v_2), (0, .ref (ad 30)), (1, .ref (ad b)), (2, .int v2)] rfl rfl (Nat.le_of_ble_eq_true rfl) rfl 56 rfl ?_
  refine vv_goto dX1_isHalved_56 6 rfl ?_
  refine vv_sub [2, 3, 4, 1, 0] [(0, .ref (ad 30)), (1, .ref (ad b)), (2, .int v2), (3, .int v_2), (4, .int (v4 + 1))] rfl ?_
  exact hrec hf
set_option maxRecDepth 100000 in
set_option maxHeartbeats 4000000 in
theorem l_X1_isHalved_6 {g : ob_GT} {ad : Nat → Nat} {b : Nat} (hb : ob_isK b) {r : Int32} {σ' : ob_St} : ∀ (n : Nat) {σ : ob_St} {v2 : Int32} {v3 : Int32} {v4 : Int32}, L_X1_isHalved_6 b n σ v2 v3 v4 = some (r, σ') → ob_V g (ob_X ad) mi_X1_isHalved (some (.int r)) σ' σ 6 [(0, .ref (ad 30)), (1, .ref (ad b)), (2, .int v2), (3, .int v3), (4, .int v4)] [] := by
  intro n
  induction n with
  | zero => intro σ v2 v3 v4 hf; exact absurd hf (fun h => by cases h)
  | succ n ih =>
    intro σ v2 v3 v4 hf
    refine vv_iload dX1_isHalved_6 4 rfl 8 rfl ?_
    refine vv_aload_n dX1_isHalved_8 1 rfl rfl 9 rfl ?_
    refine vv_getI dX1_isHalved_9 0 gf_X1_isHalved_78 (ob_kl0 hb) (ob_ks hb) rfl 12 rfl ?_
    refine vv_icmp_ge dX1_isHalved_12 59 15 rfl rfl hf (fun hf => ?_) (fun hf => ?_)
    · refine vv_iconst dX1_isHalved_59 0 rfl 60 rfl ?_
      exact vv_iretz rfl dX1_isHalved_60 hf
    · refine vv_aload_n dX1_isHalved_15 1 rfl rfl 16 rfl ?_
      refine vv_getR dX1_isHalved_16 5 gf_X1_isHalved_117 (ob_kl0 hb) (ob_ks hb) rfl 19 rfl ?_
      refine vv_iload dX1_isHalved_19 4 rfl 21 rfl ?_
      refine vv_iald dX1_isHalved_21 (ob_kl 5 hb (by decide)) (ob_ka5 hb) 22 rfl hf (fun v_1 hf => ?_)
      refine vv_iload_n dX1_isHalved_22 2 rfl rfl 23 rfl ?_
      refine vv_icmp_ne dX1_isHalved_23 53 26 rfl rfl hf (fun hf => ?_) (fun hf => ?_)
      · refine vv_iinc dX1_isHalved_53 (v4 + 1) 4 [(4, .int (v4 + 1)), (0, .ref (ad 30)), (1, .ref (ad b)), (2, .int v2), (3, .int v3)] rfl rfl (Nat.le_of_ble_eq_true rfl) rfl 56 rfl ?_
        refine vv_goto dX1_isHalved_56 6 rfl ?_
        refine vv_sub [1, 2, 3, 4, 0] [(0, .ref (ad 30)), (1, .ref (ad b)), (2, .int v2), (3, .int v3), (4, .int (v4 + 1))] rfl ?_
        exact ih hf
      · refine vv_iload_n dX1_isHalved_26 3 rfl rfl 27 rfl ?_
        refine vv_bipush dX1_isHalved_27 (-9) rfl 29 rfl ?_
        refine vv_icmp_eq dX1_isHalved_29 45 32 rfl rfl hf (fun hf => ?_) (fun hf => ?_)
        · refine vv_sub [0, 1, 2, 4] [(0, .ref (ad 30)), (1, .ref (ad b)), (2, .int v2), (4, .int v4)] rfl ?_
          exact j_X1_isHalved_45_6 hb ih hf
        · refine vv_iload_n dX1_isHalved_32 3 rfl rfl 33 rfl ?_
          refine vv_aload_n dX1_isHalved_33 0 rfl rfl 34 rfl ?_
          refine vv_getR dX1_isHalved_34 7 gf_X1_isHalved_49 ob_l30 rfl rfl 37 rfl ?_
          refine vv_iload dX1_isHalved_37 4 rfl 39 rfl ?_
          refine vv_iald dX1_isHalved_39 ob_l43 rfl 40 rfl hf (fun v_3 hf => ?_)
          refine vv_icmp_eq dX1_isHalved_40 45 43 rfl rfl hf (fun hf => ?_) (fun hf => ?_)
          · refine vv_sub [0, 1, 2, 4] [(0, .ref (ad 30)), (1, .ref (ad b)), (2, .int v2), (4, .int v4)] rfl ?_
            exact j_X1_isHalved_45_6 hb ih hf
          · refine vv_iconst dX1_isHalved_43 1 rfl 44 rfl ?_
            exact vv_iretz rfl dX1_isHalved_44 hf
set_option maxRecDepth 100000 in
set_option maxHeartbeats 4000000 in
theorem c_X1_isHalved {g : ob_GT} {ad : Nat → Nat} {b : Nat} (hb : ob_isK b) {r : Int32} {σ' : ob_St} {σ : ob_St} {p2 : Int32} (hf : f_X1_isHalved b σ p2 = some (r, σ')) : ob_CT g (ob_X ad) mi_X1_isHalved [.ref (ad 30), .ref (ad b), .int p2] σ (some (.int r)) σ' := by
  refine ob_ct (by decide +kernel) rfl (Nat.le_of_ble_eq_true rfl) ?_
  show ob_V g (ob_X ad) mi_X1_isHalved (some (.int r)) σ' σ 0 [(0, .ref (ad 30)), (1, .ref (ad b)), (2, .int p2)] []
  refine vv_bipush dX1_isHalved_0 (-9) rfl 2 rfl ?_
  refine vv_istore_n dX1_isHalved_2 [(3, .int (-9)), (0, .ref (ad 30)), (1, .ref (ad b)), (2, .int p2)] rfl (Nat.le_of_ble_eq_true rfl) rfl 3 rfl ?_
  refine vv_iconst dX1_isHalved_3 0 rfl 4 rfl ?_
  refine vv_istore dX1_isHalved_4 [(4, .int 0), (3, .int (-9)), (0, .ref (ad 30)), (1, .ref (ad b)), (2, .int p2)] (Nat.le_of_ble_eq_true rfl) rfl 6 rfl ?_
  refine vv_sub [2, 3, 4, 1, 0] [(0, .ref (ad 30)), (1, .ref (ad b)), (2, .int p2), (3, .int (-9)), (4, .int 0)] rfl ?_
  exact l_X1_isHalved_6 hb 1000 hf
