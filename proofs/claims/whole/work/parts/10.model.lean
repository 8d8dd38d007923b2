theorem dX11_init_0 : decode cX11_init 0 = .ok (.aload_n 0, 1) := by decide +kernel
theorem dX11_init_1 : decode cX11_init 1 = .ok (.invokespecial 1, 3) := by decide +kernel
theorem dX11_init_4 : decode cX11_init 4 = .ok (.aload_n 0, 1) := by decide +kernel
theorem dX11_init_5 : decode cX11_init 5 = .ok (.bipush 6, 2) := by decide +kernel
theorem dX11_init_7 : decode cX11_init 7 = .ok (.newarray .int, 2) := by decide +kernel
theorem dX11_init_9 : decode cX11_init 9 = .ok (.putfield 7, 3) := by decide +kernel
theorem dX11_init_12 : decode cX11_init 12 = .ok (.aload_n 0, 1) := by decide +kernel
theorem dX11_init_13 : decode cX11_init 13 = .ok (.bipush 6, 2) := by decide +kernel
theorem dX11_init_15 : decode cX11_init 15 = .ok (.newarray .int, 2) := by decide +kernel
theorem dX11_init_17 : decode cX11_init 17 = .ok (.putfield 13, 3) := by decide +kernel
theorem dX11_init_20 : decode cX11_init 20 = .ok (.aload_n 0, 1) := by decide +kernel
theorem dX11_init_21 : decode cX11_init 21 = .ok (.bipush 6, 2) := by decide +kernel
theorem dX11_init_23 : decode cX11_init 23 = .ok (.newarray .int, 2) := by decide +kernel
theorem dX11_init_25 : decode cX11_init 25 = .ok (.putfield 16, 3) := by decide +kernel
theorem dX11_init_28 : decode cX11_init 28 = .ok (.aload_n 0, 1) := by decide +kernel
theorem dX11_init_29 : decode cX11_init 29 = .ok (.bipush 6, 2) := by decide +kernel
theorem dX11_init_31 : decode cX11_init 31 = .ok (.newarray .int, 2) := by decide +kernel
theorem dX11_init_33 : decode cX11_init 33 = .ok (.putfield 19, 3) := by decide +kernel
theorem dX11_init_36 : decode cX11_init 36 = .ok (.aload_n 0, 1) := by decide +kernel
theorem dX11_init_37 : decode cX11_init 37 = .ok (.bipush 6, 2) := by decide +kernel
theorem dX11_init_39 : decode cX11_init 39 = .ok (.newarray .int, 2) := by decide +kernel
theorem dX11_init_41 : decode cX11_init 41 = .ok (.putfield 22, 3) := by decide +kernel
theorem dX11_init_44 : decode cX11_init 44 = .ok (.aload_n 0, 1) := by decide +kernel
theorem dX11_init_45 : decode cX11_init 45 = .ok (.bipush 6, 2) := by decide +kernel
theorem dX11_init_47 : decode cX11_init 47 = .ok (.newarray .int, 2) := by decide +kernel
theorem dX11_init_49 : decode cX11_init 49 = .ok (.putfield 25, 3) := by decide +kernel
theorem dX11_init_52 : decode cX11_init 52 = .ok (.aload_n 0, 1) := by decide +kernel
theorem dX11_init_53 : decode cX11_init 53 = .ok (.bipush 6, 2) := by decide +kernel
theorem dX11_init_55 : decode cX11_init 55 = .ok (.newarray .int, 2) := by decide +kernel
theorem dX11_init_57 : decode cX11_init 57 = .ok (.putfield 28, 3) := by decide +kernel
theorem dX11_init_60 : decode cX11_init 60 = .ok (.aload_n 0, 1) := by decide +kernel
theorem dX11_init_61 : decode cX11_init 61 = .ok (.iconst 5, 1) := by decide +kernel
theorem dX11_init_62 : decode cX11_init 62 = .ok (.newarray .int, 2) := by decide +kernel
theorem dX11_init_64 : decode cX11_init 64 = .ok (.putfield 31, 3) := by decide +kernel
theorem dX11_init_67 : decode cX11_init 67 = .ok (.aload_n 0, 1) := by decide +kernel
theorem dX11_init_68 : decode cX11_init 68 = .ok (.bipush 96, 2) := by decide +kernel
theorem dX11_init_70 : decode cX11_init 70 = .ok (.newarray .int, 2) := by decide +kernel
theorem dX11_init_72 : decode cX11_init 72 = .ok (.putfield 34, 3) := by decide +kernel
theorem dX11_init_75 : decode cX11_init 75 = .ok (.aload_n 0, 1) := by decide +kernel
theorem dX11_init_76 : decode cX11_init 76 = .ok (.bipush 7, 2) := by decide +kernel
theorem dX11_init_78 : decode cX11_init 78 = .ok (.newarray .int, 2) := by decide +kernel
theorem dX11_init_80 : decode cX11_init 80 = .ok (.putfield 37, 3) := by decide +kernel
theorem dX11_init_83 : decode cX11_init 83 = .ok (.aload_n 0, 1) := by decide +kernel
theorem dX11_init_84 : decode cX11_init 84 = .ok (.bipush 12, 2) := by decide +kernel
theorem dX11_init_86 : decode cX11_init 86 = .ok (.newarray .int, 2) := by decide +kernel
theorem dX11_init_88 : decode cX11_init 88 = .ok (.putfield 40, 3) := by decide +kernel
theorem dX11_init_91 : decode cX11_init 91 = .ok (.aload_n 0, 1) := by decide +kernel
theorem dX11_init_92 : decode cX11_init 92 = .ok (.bipush 7, 2) := by decide +kernel
theorem dX11_init_94 : decode cX11_init 94 = .ok (.newarray .int, 2) := by decide +kernel
theorem dX11_init_96 : decode cX11_init 96 = .ok (.putfield 43, 3) := by decide +kernel
theorem dX11_init_99 : decode cX11_init 99 = .ok (.aload_n 0, 1) := by decide +kernel
theorem dX11_init_100 : decode cX11_init 100 = .ok (.bipush 48, 2) := by decide +kernel
theorem dX11_init_102 : decode cX11_init 102 = .ok (.newarray .int, 2) := by decide +kernel
theorem dX11_init_104 : decode cX11_init 104 = .ok (.putfield 46, 3) := by decide +kernel
theorem dX11_init_107 : decode cX11_init 107 = .ok (.aload_n 0, 1) := by decide +kernel
theorem dX11_init_108 : decode cX11_init 108 = .ok (.bipush 48, 2) := by decide +kernel
theorem dX11_init_110 : decode cX11_init 110 = .ok (.newarray .int, 2) := by decide +kernel
theorem dX11_init_112 : decode cX11_init 112 = .ok (.putfield 49, 3) := by decide +kernel
theorem dX11_init_115 : decode cX11_init 115 = .ok (.aload_n 0, 1) := by decide +kernel
theorem dX11_init_116 : decode cX11_init 116 = .ok (.bipush 6, 2) := by decide +kernel
theorem dX11_init_118 : decode cX11_init 118 = .ok (.newarray .int, 2) := by decide +kernel
theorem dX11_init_120 : decode cX11_init 120 = .ok (.putfield 52, 3) := by decide +kernel
theorem dX11_init_123 : decode cX11_init 123 = .ok (.aload_n 0, 1) := by decide +kernel
theorem dX11_init_124 : decode cX11_init 124 = .ok (.bipush 6, 2) := by decide +kernel
theorem dX11_init_126 : decode cX11_init 126 = .ok (.newarray .int, 2) := by decide +kernel
theorem dX11_init_128 : decode cX11_init 128 = .ok (.putfield 55, 3) := by decide +kernel
theorem dX11_init_131 : decode cX11_init 131 = .ok (.aload_n 0, 1) := by decide +kernel
theorem dX11_init_132 : decode cX11_init 132 = .ok (.bipush 6, 2) := by decide +kernel
theorem dX11_init_134 : decode cX11_init 134 = .ok (.newarray .int, 2) := by decide +kernel
theorem dX11_init_136 : decode cX11_init 136 = .ok (.putfield 58, 3) := by decide +kernel
theorem dX11_init_139 : decode cX11_init 139 = .ok (.aload_n 0, 1) := by decide +kernel
theorem dX11_init_140 : decode cX11_init 140 = .ok (.getfield 28, 3) := by decide +kernel
theorem dX11_init_143 : decode cX11_init 143 = .ok (.iconst 0, 1) := by decide +kernel
theorem dX11_init_144 : decode cX11_init 144 = .ok (.bipush 6, 2) := by decide +kernel
theorem dX11_init_146 : decode cX11_init 146 = .ok (.iastore, 1) := by decide +kernel
theorem dX11_init_147 : decode cX11_init 147 = .ok (.aload_n 0, 1) := by decide +kernel
theorem dX11_init_148 : decode cX11_init 148 = .ok (.getfield 28, 3) := by decide +kernel
theorem dX11_init_151 : decode cX11_init 151 = .ok (.iconst 1, 1) := by decide +kernel
theorem dX11_init_152 : decode cX11_init 152 = .ok (.iconst 3, 1) := by decide +kernel
theorem dX11_init_153 : decode cX11_init 153 = .ok (.iastore, 1) := by decide +kernel
theorem dX11_init_154 : decode cX11_init 154 = .ok (.aload_n 0, 1) := by decide +kernel
theorem dX11_init_155 : decode cX11_init 155 = .ok (.getfield 28, 3) := by decide +kernel
theorem dX11_init_158 : decode cX11_init 158 = .ok (.iconst 2, 1) := by decide +kernel
theorem dX11_init_159 : decode cX11_init 159 = .ok (.bipush 8, 2) := by decide +kernel
theorem dX11_init_161 : decode cX11_init 161 = .ok (.iastore, 1) := by decide +kernel
theorem dX11_init_162 : decode cX11_init 162 = .ok (.aload_n 0, 1) := by decide +kernel
theorem dX11_init_163 : decode cX11_init 163 = .ok (.getfield 28, 3) := by decide +kernel
theorem dX11_init_166 : decode cX11_init 166 = .ok (.iconst 3, 1) := by decide +kernel
theorem dX11_init_167 : decode cX11_init 167 = .ok (.bipush 11, 2) := by decide +kernel
theorem dX11_init_169 : decode cX11_init 169 = .ok (.iastore, 1) := by decide +kernel
theorem dX11_init_170 : decode cX11_init 170 = .ok (.return_, 1) := by decide +kernel
theorem dX11_no_0 : decode cX11_no 0 = .ok (.aload_n 0, 1) := by decide +kernel
theorem dX11_no_1 : decode cX11_no 1 = .ok (.getfield 43, 3) := by decide +kernel
theorem dX11_no_4 : decode cX11_no 4 = .ok (.iload_n 1, 1) := by decide +kernel
theorem dX11_no_5 : decode cX11_no 5 = .ok (.ineg, 1) := by decide +kernel
theorem dX11_no_6 : decode cX11_no 6 = .ok (.dup2, 1) := by decide +kernel
theorem dX11_no_7 : decode cX11_no 7 = .ok (.iaload, 1) := by decide +kernel
theorem dX11_no_8 : decode cX11_no 8 = .ok (.iconst 1, 1) := by decide +kernel
theorem dX11_no_9 : decode cX11_no 9 = .ok (.iadd, 1) := by decide +kernel
theorem dX11_no_10 : decode cX11_no 10 = .ok (.iastore, 1) := by decide +kernel
theorem dX11_no_11 : decode cX11_no 11 = .ok (.iload_n 1, 1) := by decide +kernel
theorem dX11_no_12 : decode cX11_no 12 = .ok (.ireturn, 1) := by decide +kernel
theorem dX11_noMuch_0 : decode cX11_noMuch 0 = .ok (.ldc 61, 2) := by decide +kernel
theorem dX11_noMuch_2 : decode cX11_noMuch 2 = .ok (.aload_n 0, 1) := by decide +kernel
theorem dX11_noMuch_3 : decode cX11_noMuch 3 = .ok (.iload_n 1, 1) := by decide +kernel
theorem dX11_noMuch_4 : decode cX11_noMuch 4 = .ok (.invokevirtual 62, 3) := by decide +kernel
theorem dX11_noMuch_7 : decode cX11_noMuch 7 = .ok (.isub, 1) := by decide +kernel
theorem dX11_noMuch_8 : decode cX11_noMuch 8 = .ok (.ireturn, 1) := by decide +kernel
theorem dX11_within_0 : decode cX11_within 0 = .ok (.iload_n 0, 1) := by decide +kernel
theorem dX11_within_1 : decode cX11_within 1 = .ok (.iload_n 1, 1) := by decide +kernel
theorem dX11_within_2 : decode cX11_within 2 = .ok (.if_icmp .lt 12, 3) := by decide +kernel
theorem dX11_within_5 : decode cX11_within 5 = .ok (.iload_n 0, 1) := by decide +kernel
theorem dX11_within_6 : decode cX11_within 6 = .ok (.iload_n 2, 1) := by decide +kernel
theorem dX11_within_7 : decode cX11_within 7 = .ok (.if_icmp .gt 7, 3) := by decide +kernel
theorem dX11_within_10 : decode cX11_within 10 = .ok (.iconst 1, 1) := by decide +kernel
theorem dX11_within_11 : decode cX11_within 11 = .ok (.goto 4, 3) := by decide +kernel
theorem dX11_within_14 : decode cX11_within 14 = .ok (.iconst 0, 1) := by decide +kernel
theorem dX11_within_15 : decode cX11_within 15 = .ok (.ireturn, 1) := by decide +kernel
theorem dX11_isDish_0 : decode cX11_isDish 0 = .ok (.iload_n 1, 1) := by decide +kernel
theorem dX11_isDish_1 : decode cX11_isDish 1 = .ok (.iconst 0, 1) := by decide +kernel
theorem dX11_isDish_2 : decode cX11_isDish 2 = .ok (.aload_n 0, 1) := by decide +kernel
theorem dX11_isDish_3 : decode cX11_isDish 3 = .ok (.getfield 66, 3) := by decide +kernel
theorem dX11_isDish_6 : decode cX11_isDish 6 = .ok (.iconst 1, 1) := by decide +kernel
theorem dX11_isDish_7 : decode cX11_isDish 7 = .ok (.isub, 1) := by decide +kernel
theorem dX11_isDish_8 : decode cX11_isDish 8 = .ok (.invokestatic 70, 3) := by decide +kernel
theorem dX11_isDish_11 : decode cX11_isDish 11 = .ok (.ireturn, 1) := by decide +kernel
theorem dX11_leastOf_0 : decode cX11_leastOf 0 = .ok (.iload_n 0, 1) := by decide +kernel
theorem dX11_leastOf_1 : decode cX11_leastOf 1 = .ok (.ifCond .eq 8, 3) := by decide +kernel
theorem dX11_leastOf_4 : decode cX11_leastOf 4 = .ok (.iload_n 0, 1) := by decide +kernel
theorem dX11_leastOf_5 : decode cX11_leastOf 5 = .ok (.iconst 3, 1) := by decide +kernel
theorem dX11_leastOf_6 : decode cX11_leastOf 6 = .ok (.if_icmp .ne 7, 3) := by decide +kernel
theorem dX11_leastOf_9 : decode cX11_leastOf 9 = .ok (.iconst 1, 1) := by decide +kernel
theorem dX11_leastOf_10 : decode cX11_leastOf 10 = .ok (.goto 4, 3) := by decide +kernel
theorem dX11_leastOf_13 : decode cX11_leastOf 13 = .ok (.iconst 0, 1) := by decide +kernel
theorem dX11_leastOf_14 : decode cX11_leastOf 14 = .ok (.ireturn, 1) := by decide +kernel
theorem dX11_mostOf_0 : decode cX11_mostOf 0 = .ok (.iload_n 0, 1) := by decide +kernel
theorem dX11_mostOf_1 : decode cX11_mostOf 1 = .ok (.tableswitch 49 0 4 #[35, 38, 41, 44, 47], 35) := by decide +kernel
theorem dX11_mostOf_36 : decode cX11_mostOf 36 = .ok (.bipush 11, 2) := by decide +kernel
theorem dX11_mostOf_38 : decode cX11_mostOf 38 = .ok (.ireturn, 1) := by decide +kernel
theorem dX11_mostOf_39 : decode cX11_mostOf 39 = .ok (.bipush 9, 2) := by decide +kernel
theorem dX11_mostOf_41 : decode cX11_mostOf 41 = .ok (.ireturn, 1) := by decide +kernel
theorem dX11_mostOf_42 : decode cX11_mostOf 42 = .ok (.bipush 40, 2) := by decide +kernel
theorem dX11_mostOf_44 : decode cX11_mostOf 44 = .ok (.ireturn, 1) := by decide +kernel
theorem dX11_mostOf_45 : decode cX11_mostOf 45 = .ok (.bipush 20, 2) := by decide +kernel
theorem dX11_mostOf_47 : decode cX11_mostOf 47 = .ok (.ireturn, 1) := by decide +kernel
theorem dX11_mostOf_48 : decode cX11_mostOf 48 = .ok (.iconst 2, 1) := by decide +kernel
theorem dX11_mostOf_49 : decode cX11_mostOf 49 = .ok (.ireturn, 1) := by decide +kernel
theorem dX11_mostOf_50 : decode cX11_mostOf 50 = .ok (.sipush 400, 3) := by decide +kernel
theorem dX11_mostOf_53 : decode cX11_mostOf 53 = .ok (.ireturn, 1) := by decide +kernel
theorem dX11_letter_0 : decode cX11_letter 0 = .ok (.iload_n 1, 1) := by decide +kernel
theorem dX11_letter_1 : decode cX11_letter 1 = .ok (.ifCond .ge 10, 3) := by decide +kernel
theorem dX11_letter_4 : decode cX11_letter 4 = .ok (.aload_n 0, 1) := by decide +kernel
theorem dX11_letter_5 : decode cX11_letter 5 = .ok (.bipush (-4), 2) := by decide +kernel
theorem dX11_letter_7 : decode cX11_letter 7 = .ok (.invokevirtual 62, 3) := by decide +kernel
theorem dX11_letter_10 : decode cX11_letter 10 = .ok (.ireturn, 1) := by decide +kernel
theorem dX11_letter_11 : decode cX11_letter 11 = .ok (.iload_n 1, 1) := by decide +kernel
theorem dX11_letter_12 : decode cX11_letter 12 = .ok (.sipush 255, 3) := by decide +kernel
theorem dX11_letter_15 : decode cX11_letter 15 = .ok (.if_icmp .gt 12, 3) := by decide +kernel
theorem dX11_letter_18 : decode cX11_letter 18 = .ok (.aload_n 0, 1) := by decide +kernel
theorem dX11_letter_19 : decode cX11_letter 19 = .ok (.getfield 74, 3) := by decide +kernel
theorem dX11_letter_22 : decode cX11_letter 22 = .ok (.bipush 96, 2) := by decide +kernel
theorem dX11_letter_24 : decode cX11_letter 24 = .ok (.if_icmp .ne 10, 3) := by decide +kernel
theorem dX11_letter_27 : decode cX11_letter 27 = .ok (.aload_n 0, 1) := by decide +kernel
theorem dX11_letter_28 : decode cX11_letter 28 = .ok (.bipush (-6), 2) := by decide +kernel
theorem dX11_letter_30 : decode cX11_letter 30 = .ok (.invokevirtual 62, 3) := by decide +kernel
theorem dX11_letter_33 : decode cX11_letter 33 = .ok (.ireturn, 1) := by decide +kernel
theorem dX11_letter_34 : decode cX11_letter 34 = .ok (.aload_n 0, 1) := by decide +kernel
theorem dX11_letter_35 : decode cX11_letter 35 = .ok (.getfield 34, 3) := by decide +kernel
theorem dX11_letter_38 : decode cX11_letter 38 = .ok (.aload_n 0, 1) := by decide +kernel
theorem dX11_letter_39 : decode cX11_letter 39 = .ok (.dup, 1) := by decide +kernel
theorem dX11_letter_40 : decode cX11_letter 40 = .ok (.getfield 74, 3) := by decide +kernel
theorem dX11_letter_43 : decode cX11_letter 43 = .ok (.dup_x1, 1) := by decide +kernel
theorem dX11_letter_44 : decode cX11_letter 44 = .ok (.iconst 1, 1) := by decide +kernel
theorem dX11_letter_45 : decode cX11_letter 45 = .ok (.iadd, 1) := by decide +kernel
theorem dX11_letter_46 : decode cX11_letter 46 = .ok (.putfield 74, 3) := by decide +kernel
theorem dX11_letter_49 : decode cX11_letter 49 = .ok (.iload_n 1, 1) := by decide +kernel
theorem dX11_letter_50 : decode cX11_letter 50 = .ok (.iastore, 1) := by decide +kernel
theorem dX11_letter_51 : decode cX11_letter 51 = .ok (.aload_n 0, 1) := by decide +kernel
theorem dX11_letter_52 : decode cX11_letter 52 = .ok (.getfield 74, 3) := by decide +kernel
theorem dX11_letter_55 : decode cX11_letter 55 = .ok (.ireturn, 1) := by decide +kernel
theorem dX11_is_0 : decode cX11_is 0 = .ok (.aload_n 0, 1) := by decide +kernel
theorem dX11_is_1 : decode cX11_is 1 = .ok (.getfield 77, 3) := by decide +kernel
theorem dX11_is_4 : decode cX11_is 4 = .ok (.aload_n 0, 1) := by decide +kernel
theorem dX11_is_5 : decode cX11_is 5 = .ok (.getfield 74, 3) := by decide +kernel
theorem dX11_is_8 : decode cX11_is 8 = .ok (.if_icmp .eq 16, 3) := by decide +kernel
theorem dX11_is_11 : decode cX11_is 11 = .ok (.aload_n 0, 1) := by decide +kernel
theorem dX11_is_12 : decode cX11_is 12 = .ok (.getfield 34, 3) := by decide +kernel
theorem dX11_is_15 : decode cX11_is 15 = .ok (.aload_n 0, 1) := by decide +kernel
theorem dX11_is_16 : decode cX11_is 16 = .ok (.getfield 77, 3) := by decide +kernel
theorem dX11_is_19 : decode cX11_is 19 = .ok (.iaload, 1) := by decide +kernel
theorem dX11_is_20 : decode cX11_is 20 = .ok (.iload_n 1, 1) := by decide +kernel
theorem dX11_is_21 : decode cX11_is 21 = .ok (.if_icmp .eq 5, 3) := by decide +kernel
theorem dX11_is_24 : decode cX11_is 24 = .ok (.iconst 0, 1) := by decide +kernel
theorem dX11_is_25 : decode cX11_is 25 = .ok (.ireturn, 1) := by decide +kernel
theorem dX11_is_26 : decode cX11_is 26 = .ok (.aload_n 0, 1) := by decide +kernel
theorem dX11_is_27 : decode cX11_is 27 = .ok (.dup, 1) := by decide +kernel
theorem dX11_is_28 : decode cX11_is 28 = .ok (.getfield 77, 3) := by decide +kernel
theorem dX11_is_31 : decode cX11_is 31 = .ok (.iconst 1, 1) := by decide +kernel
theorem dX11_is_32 : decode cX11_is 32 = .ok (.iadd, 1) := by decide +kernel
theorem dX11_is_33 : decode cX11_is 33 = .ok (.putfield 77, 3) := by decide +kernel
theorem dX11_is_36 : decode cX11_is 36 = .ok (.iconst 1, 1) := by decide +kernel
theorem dX11_is_37 : decode cX11_is 37 = .ok (.ireturn, 1) := by decide +kernel
theorem dX11_digits_0 : decode cX11_digits 0 = .ok (.iconst 0, 1) := by decide +kernel
theorem dX11_digits_1 : decode cX11_digits 1 = .ok (.istore_n 2, 1) := by decide +kernel
theorem dX11_digits_2 : decode cX11_digits 2 = .ok (.iload_n 2, 1) := by decide +kernel
theorem dX11_digits_3 : decode cX11_digits 3 = .ok (.iload_n 1, 1) := by decide +kernel
theorem dX11_digits_4 : decode cX11_digits 4 = .ok (.if_icmp .ge 75, 3) := by decide +kernel
theorem dX11_digits_7 : decode cX11_digits 7 = .ok (.aload_n 0, 1) := by decide +kernel
theorem dX11_digits_8 : decode cX11_digits 8 = .ok (.getfield 77, 3) := by decide +kernel
theorem dX11_digits_11 : decode cX11_digits 11 = .ok (.aload_n 0, 1) := by decide +kernel
theorem dX11_digits_12 : decode cX11_digits 12 = .ok (.getfield 74, 3) := by decide +kernel
theorem dX11_digits_15 : decode cX11_digits 15 = .ok (.if_icmp .eq 31, 3) := by decide +kernel
theorem dX11_digits_18 : decode cX11_digits 18 = .ok (.aload_n 0, 1) := by decide +kernel
theorem dX11_digits_19 : decode cX11_digits 19 = .ok (.getfield 34, 3) := by decide +kernel
theorem dX11_digits_22 : decode cX11_digits 22 = .ok (.aload_n 0, 1) := by decide +kernel
theorem dX11_digits_23 : decode cX11_digits 23 = .ok (.getfield 77, 3) := by decide +kernel
theorem dX11_digits_26 : decode cX11_digits 26 = .ok (.iaload, 1) := by decide +kernel
theorem dX11_digits_27 : decode cX11_digits 27 = .ok (.bipush 48, 2) := by decide +kernel
theorem dX11_digits_29 : decode cX11_digits 29 = .ok (.if_icmp .lt 17, 3) := by decide +kernel
theorem dX11_digits_32 : decode cX11_digits 32 = .ok (.aload_n 0, 1) := by decide +kernel
theorem dX11_digits_33 : decode cX11_digits 33 = .ok (.getfield 34, 3) := by decide +kernel
theorem dX11_digits_36 : decode cX11_digits 36 = .ok (.aload_n 0, 1) := by decide +kernel
theorem dX11_digits_37 : decode cX11_digits 37 = .ok (.getfield 77, 3) := by decide +kernel
theorem dX11_digits_40 : decode cX11_digits 40 = .ok (.iaload, 1) := by decide +kernel
theorem dX11_digits_41 : decode cX11_digits 41 = .ok (.bipush 57, 2) := by decide +kernel
theorem dX11_digits_43 : decode cX11_digits 43 = .ok (.if_icmp .le 5, 3) := by decide +kernel
theorem dX11_digits_46 : decode cX11_digits 46 = .ok (.iconst 0, 1) := by decide +kernel
theorem dX11_digits_47 : decode cX11_digits 47 = .ok (.ireturn, 1) := by decide +kernel
theorem dX11_digits_48 : decode cX11_digits 48 = .ok (.aload_n 0, 1) := by decide +kernel
theorem dX11_digits_49 : decode cX11_digits 49 = .ok (.getfield 37, 3) := by decide +kernel
theorem dX11_digits_52 : decode cX11_digits 52 = .ok (.iload_n 2, 1) := by decide +kernel
theorem dX11_digits_53 : decode cX11_digits 53 = .ok (.aload_n 0, 1) := by decide +kernel
theorem dX11_digits_54 : decode cX11_digits 54 = .ok (.getfield 34, 3) := by decide +kernel
theorem dX11_digits_57 : decode cX11_digits 57 = .ok (.aload_n 0, 1) := by decide +kernel
theorem dX11_digits_58 : decode cX11_digits 58 = .ok (.dup, 1) := by decide +kernel
theorem dX11_digits_59 : decode cX11_digits 59 = .ok (.getfield 77, 3) := by decide +kernel
theorem dX11_digits_62 : decode cX11_digits 62 = .ok (.dup_x1, 1) := by decide +kernel
theorem dX11_digits_63 : decode cX11_digits 63 = .ok (.iconst 1, 1) := by decide +kernel
theorem dX11_digits_64 : decode cX11_digits 64 = .ok (.iadd, 1) := by decide +kernel
theorem dX11_digits_65 : decode cX11_digits 65 = .ok (.putfield 77, 3) := by decide +kernel
theorem dX11_digits_68 : decode cX11_digits 68 = .ok (.iaload, 1) := by decide +kernel
theorem dX11_digits_69 : decode cX11_digits 69 = .ok (.bipush 48, 2) := by decide +kernel
theorem dX11_digits_71 : decode cX11_digits 71 = .ok (.isub, 1) := by decide +kernel
theorem dX11_digits_72 : decode cX11_digits 72 = .ok (.iastore, 1) := by decide +kernel
theorem dX11_digits_73 : decode cX11_digits 73 = .ok (.iinc 2 1, 3) := by decide +kernel
theorem dX11_digits_76 : decode cX11_digits 76 = .ok (.goto (-74), 3) := by decide +kernel
theorem dX11_digits_79 : decode cX11_digits 79 = .ok (.iconst 1, 1) := by decide +kernel
theorem dX11_digits_80 : decode cX11_digits 80 = .ok (.ireturn, 1) := by decide +kernel
theorem dX11_two_0 : decode cX11_two 0 = .ok (.bipush 10, 2) := by decide +kernel
theorem dX11_two_2 : decode cX11_two 2 = .ok (.aload_n 0, 1) := by decide +kernel
theorem dX11_two_3 : decode cX11_two 3 = .ok (.getfield 37, 3) := by decide +kernel
theorem dX11_two_6 : decode cX11_two 6 = .ok (.iload_n 1, 1) := by decide +kernel
theorem dX11_two_7 : decode cX11_two 7 = .ok (.iaload, 1) := by decide +kernel
theorem dX11_two_8 : decode cX11_two 8 = .ok (.imul, 1) := by decide +kernel
theorem dX11_two_9 : decode cX11_two 9 = .ok (.aload_n 0, 1) := by decide +kernel
theorem dX11_two_10 : decode cX11_two 10 = .ok (.getfield 37, 3) := by decide +kernel
theorem dX11_two_13 : decode cX11_two 13 = .ok (.iload_n 1, 1) := by decide +kernel
theorem dX11_two_14 : decode cX11_two 14 = .ok (.iconst 1, 1) := by decide +kernel
theorem dX11_two_15 : decode cX11_two 15 = .ok (.iadd, 1) := by decide +kernel
theorem dX11_two_16 : decode cX11_two 16 = .ok (.iaload, 1) := by decide +kernel
theorem dX11_two_17 : decode cX11_two 17 = .ok (.iadd, 1) := by decide +kernel
theorem dX11_two_18 : decode cX11_two 18 = .ok (.ireturn, 1) := by decide +kernel
theorem dX11_statement_0 : decode cX11_statement 0 = .ok (.aload_n 0, 1) := by decide +kernel
theorem dX11_statement_1 : decode cX11_statement 1 = .ok (.bipush 100, 2) := by decide +kernel
theorem dX11_statement_3 : decode cX11_statement 3 = .ok (.invokevirtual 80, 3) := by decide +kernel
theorem dX11_statement_6 : decode cX11_statement 6 = .ok (.ifCond .eq 216, 3) := by decide +kernel
theorem dX11_statement_9 : decode cX11_statement 9 = .ok (.aload_n 0, 1) := by decide +kernel
theorem dX11_statement_10 : decode cX11_statement 10 = .ok (.getfield 77, 3) := by decide +kernel
theorem dX11_statement_13 : decode cX11_statement 13 = .ok (.aload_n 0, 1) := by decide +kernel
theorem dX11_statement_14 : decode cX11_statement 14 = .ok (.getfield 74, 3) := by decide +kernel
theorem dX11_statement_17 : decode cX11_statement 17 = .ok (.if_icmp .ge 32, 3) := by decide +kernel
theorem dX11_statement_20 : decode cX11_statement 20 = .ok (.aload_n 0, 1) := by decide +kernel
theorem dX11_statement_21 : decode cX11_statement 21 = .ok (.getfield 34, 3) := by decide +kernel
theorem dX11_statement_24 : decode cX11_statement 24 = .ok (.aload_n 0, 1) := by decide +kernel
theorem dX11_statement_25 : decode cX11_statement 25 = .ok (.getfield 77, 3) := by decide +kernel
theorem dX11_statement_28 : decode cX11_statement 28 = .ok (.iaload, 1) := by decide +kernel
theorem dX11_statement_29 : decode cX11_statement 29 = .ok (.ifCond .le 20, 3) := by decide +kernel
theorem dX11_statement_32 : decode cX11_statement 32 = .ok (.ldc 84, 2) := by decide +kernel
theorem dX11_statement_34 : decode cX11_statement 34 = .ok (.aload_n 0, 1) := by decide +kernel
theorem dX11_statement_35 : decode cX11_statement 35 = .ok (.getfield 34, 3) := by decide +kernel
theorem dX11_statement_38 : decode cX11_statement 38 = .ok (.aload_n 0, 1) := by decide +kernel
theorem dX11_statement_39 : decode cX11_statement 39 = .ok (.getfield 77, 3) := by decide +kernel
theorem dX11_statement_42 : decode cX11_statement 42 = .ok (.iaload, 1) := by decide +kernel
theorem dX11_statement_43 : decode cX11_statement 43 = .ok (.invokevirtual 86, 3) := by decide +kernel
theorem dX11_statement_46 : decode cX11_statement 46 = .ok (.goto 4, 3) := by decide +kernel
theorem dX11_statement_49 : decode cX11_statement 49 = .ok (.iconst (-1), 1) := by decide +kernel
theorem dX11_statement_50 : decode cX11_statement 50 = .ok (.istore_n 2, 1) := by decide +kernel
theorem dX11_statement_51 : decode cX11_statement 51 = .ok (.iload_n 2, 1) := by decide +kernel
theorem dX11_statement_52 : decode cX11_statement 52 = .ok (.ifCond .ge 5, 3) := by decide +kernel
theorem dX11_statement_55 : decode cX11_statement 55 = .ok (.iconst (-1), 1) := by decide +kernel
theorem dX11_statement_56 : decode cX11_statement 56 = .ok (.ireturn, 1) := by decide +kernel
theorem dX11_statement_57 : decode cX11_statement 57 = .ok (.aload_n 0, 1) := by decide +kernel
theorem dX11_statement_58 : decode cX11_statement 58 = .ok (.dup, 1) := by decide +kernel
theorem dX11_statement_59 : decode cX11_statement 59 = .ok (.getfield 77, 3) := by decide +kernel
theorem dX11_statement_62 : decode cX11_statement 62 = .ok (.iconst 1, 1) := by decide +kernel
theorem dX11_statement_63 : decode cX11_statement 63 = .ok (.iadd, 1) := by decide +kernel
theorem dX11_statement_64 : decode cX11_statement 64 = .ok (.putfield 77, 3) := by decide +kernel
theorem dX11_statement_67 : decode cX11_statement 67 = .ok (.aload_n 0, 1) := by decide +kernel
theorem dX11_statement_68 : decode cX11_statement 68 = .ok (.iconst 5, 1) := by decide +kernel
theorem dX11_statement_69 : decode cX11_statement 69 = .ok (.invokevirtual 91, 3) := by decide +kernel
theorem dX11_statement_72 : decode cX11_statement 72 = .ok (.ifCond .ne 5, 3) := by decide +kernel
theorem dX11_statement_75 : decode cX11_statement 75 = .ok (.iconst (-1), 1) := by decide +kernel
theorem dX11_statement_76 : decode cX11_statement 76 = .ok (.ireturn, 1) := by decide +kernel
theorem dX11_statement_77 : decode cX11_statement 77 = .ok (.iload_n 1, 1) := by decide +kernel
theorem dX11_statement_78 : decode cX11_statement 78 = .ok (.ifCond .ne 5, 3) := by decide +kernel
theorem dX11_statement_81 : decode cX11_statement 81 = .ok (.iconst 1, 1) := by decide +kernel
theorem dX11_statement_82 : decode cX11_statement 82 = .ok (.ireturn, 1) := by decide +kernel
theorem dX11_statement_83 : decode cX11_statement 83 = .ok (.aload_n 0, 1) := by decide +kernel
theorem dX11_statement_84 : decode cX11_statement 84 = .ok (.getfield 37, 3) := by decide +kernel
theorem dX11_statement_87 : decode cX11_statement 87 = .ok (.iconst 0, 1) := by decide +kernel
theorem dX11_statement_88 : decode cX11_statement 88 = .ok (.iaload, 1) := by decide +kernel
theorem dX11_statement_89 : decode cX11_statement 89 = .ok (.ifCond .eq 37, 3) := by decide +kernel
theorem dX11_statement_92 : decode cX11_statement 92 = .ok (.aload_n 0, 1) := by decide +kernel
theorem dX11_statement_93 : decode cX11_statement 93 = .ok (.getfield 37, 3) := by decide +kernel
theorem dX11_statement_96 : decode cX11_statement 96 = .ok (.iconst 3, 1) := by decide +kernel
theorem dX11_statement_97 : decode cX11_statement 97 = .ok (.iaload, 1) := by decide +kernel
theorem dX11_statement_98 : decode cX11_statement 98 = .ok (.iconst 1, 1) := by decide +kernel
theorem dX11_statement_99 : decode cX11_statement 99 = .ok (.bipush 6, 2) := by decide +kernel
theorem dX11_statement_101 : decode cX11_statement 101 = .ok (.invokestatic 70, 3) := by decide +kernel
theorem dX11_statement_104 : decode cX11_statement 104 = .ok (.ifCond .eq 22, 3) := by decide +kernel
theorem dX11_statement_107 : decode cX11_statement 107 = .ok (.aload_n 0, 1) := by decide +kernel
theorem dX11_statement_108 : decode cX11_statement 108 = .ok (.getfield 37, 3) := by decide +kernel
theorem dX11_statement_111 : decode cX11_statement 111 = .ok (.iconst 4, 1) := by decide +kernel
theorem dX11_statement_112 : decode cX11_statement 112 = .ok (.iaload, 1) := by decide +kernel
theorem dX11_statement_113 : decode cX11_statement 113 = .ok (.iconst 4, 1) := by decide +kernel
theorem dX11_statement_114 : decode cX11_statement 114 = .ok (.if_icmp .gt 12, 3) := by decide +kernel
theorem dX11_statement_117 : decode cX11_statement 117 = .ok (.aload_n 0, 1) := by decide +kernel
theorem dX11_statement_118 : decode cX11_statement 118 = .ok (.getfield 66, 3) := by decide +kernel
theorem dX11_statement_121 : decode cX11_statement 121 = .ok (.bipush 6, 2) := by decide +kernel
theorem dX11_statement_123 : decode cX11_statement 123 = .ok (.if_icmp .ne 5, 3) := by decide +kernel
theorem dX11_statement_126 : decode cX11_statement 126 = .ok (.iconst 0, 1) := by decide +kernel
theorem dX11_statement_127 : decode cX11_statement 127 = .ok (.ireturn, 1) := by decide +kernel
theorem dX11_statement_128 : decode cX11_statement 128 = .ok (.aload_n 0, 1) := by decide +kernel
theorem dX11_statement_129 : decode cX11_statement 129 = .ok (.getfield 7, 3) := by decide +kernel
theorem dX11_statement_132 : decode cX11_statement 132 = .ok (.aload_n 0, 1) := by decide +kernel
theorem dX11_statement_133 : decode cX11_statement 133 = .ok (.getfield 66, 3) := by decide +kernel
theorem dX11_statement_136 : decode cX11_statement 136 = .ok (.iload_n 2, 1) := by decide +kernel
theorem dX11_statement_137 : decode cX11_statement 137 = .ok (.iastore, 1) := by decide +kernel
theorem dX11_statement_138 : decode cX11_statement 138 = .ok (.aload_n 0, 1) := by decide +kernel
theorem dX11_statement_139 : decode cX11_statement 139 = .ok (.getfield 13, 3) := by decide +kernel
theorem dX11_statement_142 : decode cX11_statement 142 = .ok (.aload_n 0, 1) := by decide +kernel
theorem dX11_statement_143 : decode cX11_statement 143 = .ok (.getfield 66, 3) := by decide +kernel
theorem dX11_statement_146 : decode cX11_statement 146 = .ok (.aload_n 0, 1) := by decide +kernel
theorem dX11_statement_147 : decode cX11_statement 147 = .ok (.getfield 37, 3) := by decide +kernel
theorem dX11_statement_150 : decode cX11_statement 150 = .ok (.iconst 0, 1) := by decide +kernel
theorem dX11_statement_151 : decode cX11_statement 151 = .ok (.iaload, 1) := by decide +kernel
theorem dX11_statement_152 : decode cX11_statement 152 = .ok (.iastore, 1) := by decide +kernel
theorem dX11_statement_153 : decode cX11_statement 153 = .ok (.aload_n 0, 1) := by decide +kernel
theorem dX11_statement_154 : decode cX11_statement 154 = .ok (.getfield 16, 3) := by decide +kernel
theorem dX11_statement_157 : decode cX11_statement 157 = .ok (.aload_n 0, 1) := by decide +kernel
theorem dX11_statement_158 : decode cX11_statement 158 = .ok (.getfield 66, 3) := by decide +kernel
theorem dX11_statement_161 : decode cX11_statement 161 = .ok (.aload_n 0, 1) := by decide +kernel
theorem dX11_statement_162 : decode cX11_statement 162 = .ok (.iconst 1, 1) := by decide +kernel
theorem dX11_statement_163 : decode cX11_statement 163 = .ok (.invokevirtual 94, 3) := by decide +kernel
theorem dX11_statement_166 : decode cX11_statement 166 = .ok (.iastore, 1) := by decide +kernel
theorem dX11_statement_167 : decode cX11_statement 167 = .ok (.aload_n 0, 1) := by decide +kernel
theorem dX11_statement_168 : decode cX11_statement 168 = .ok (.getfield 19, 3) := by decide +kernel
theorem dX11_statement_171 : decode cX11_statement 171 = .ok (.aload_n 0, 1) := by decide +kernel
theorem dX11_statement_172 : decode cX11_statement 172 = .ok (.getfield 66, 3) := by decide +kernel
theorem dX11_statement_175 : decode cX11_statement 175 = .ok (.aload_n 0, 1) := by decide +kernel
theorem dX11_statement_176 : decode cX11_statement 176 = .ok (.getfield 37, 3) := by decide +kernel
theorem dX11_statement_179 : decode cX11_statement 179 = .ok (.iconst 3, 1) := by decide +kernel
theorem dX11_statement_180 : decode cX11_statement 180 = .ok (.iaload, 1) := by decide +kernel
theorem dX11_statement_181 : decode cX11_statement 181 = .ok (.iastore, 1) := by decide +kernel
theorem dX11_statement_182 : decode cX11_statement 182 = .ok (.aload_n 0, 1) := by decide +kernel
theorem dX11_statement_183 : decode cX11_statement 183 = .ok (.getfield 22, 3) := by decide +kernel
theorem dX11_statement_186 : decode cX11_statement 186 = .ok (.aload_n 0, 1) := by decide +kernel
theorem dX11_statement_187 : decode cX11_statement 187 = .ok (.getfield 66, 3) := by decide +kernel
theorem dX11_statement_190 : decode cX11_statement 190 = .ok (.aload_n 0, 1) := by decide +kernel
theorem dX11_statement_191 : decode cX11_statement 191 = .ok (.getfield 37, 3) := by decide +kernel
theorem dX11_statement_194 : decode cX11_statement 194 = .ok (.iconst 4, 1) := by decide +kernel
theorem dX11_statement_195 : decode cX11_statement 195 = .ok (.iaload, 1) := by decide +kernel
theorem dX11_statement_196 : decode cX11_statement 196 = .ok (.iastore, 1) := by decide +kernel
theorem dX11_statement_197 : decode cX11_statement 197 = .ok (.aload_n 0, 1) := by decide +kernel
theorem dX11_statement_198 : decode cX11_statement 198 = .ok (.getfield 25, 3) := by decide +kernel
theorem dX11_statement_201 : decode cX11_statement 201 = .ok (.aload_n 0, 1) := by decide +kernel
theorem dX11_statement_202 : decode cX11_statement 202 = .ok (.getfield 66, 3) := by decide +kernel
theorem dX11_statement_205 : decode cX11_statement 205 = .ok (.aload_n 0, 1) := by decide +kernel
theorem dX11_statement_206 : decode cX11_statement 206 = .ok (.getfield 66, 3) := by decide +kernel
theorem dX11_statement_209 : decode cX11_statement 209 = .ok (.iastore, 1) := by decide +kernel
theorem dX11_statement_210 : decode cX11_statement 210 = .ok (.aload_n 0, 1) := by decide +kernel
theorem dX11_statement_211 : decode cX11_statement 211 = .ok (.dup, 1) := by decide +kernel
theorem dX11_statement_212 : decode cX11_statement 212 = .ok (.getfield 66, 3) := by decide +kernel
theorem dX11_statement_215 : decode cX11_statement 215 = .ok (.iconst 1, 1) := by decide +kernel
theorem dX11_statement_216 : decode cX11_statement 216 = .ok (.iadd, 1) := by decide +kernel
theorem dX11_statement_217 : decode cX11_statement 217 = .ok (.putfield 66, 3) := by decide +kernel
theorem dX11_statement_220 : decode cX11_statement 220 = .ok (.iconst 1, 1) := by decide +kernel
theorem dX11_statement_221 : decode cX11_statement 221 = .ok (.ireturn, 1) := by decide +kernel
theorem dX11_statement_222 : decode cX11_statement 222 = .ok (.aload_n 0, 1) := by decide +kernel
theorem dX11_statement_223 : decode cX11_statement 223 = .ok (.bipush 98, 2) := by decide +kernel
theorem dX11_statement_225 : decode cX11_statement 225 = .ok (.invokevirtual 80, 3) := by decide +kernel
theorem dX11_statement_228 : decode cX11_statement 228 = .ok (.ifCond .eq 107, 3) := by decide +kernel
theorem dX11_statement_231 : decode cX11_statement 231 = .ok (.aload_n 0, 1) := by decide +kernel
theorem dX11_statement_232 : decode cX11_statement 232 = .ok (.bipush 7, 2) := by decide +kernel
theorem dX11_statement_234 : decode cX11_statement 234 = .ok (.invokevirtual 91, 3) := by decide +kernel
theorem dX11_statement_237 : decode cX11_statement 237 = .ok (.ifCond .ne 5, 3) := by decide +kernel
theorem dX11_statement_240 : decode cX11_statement 240 = .ok (.iconst (-1), 1) := by decide +kernel
theorem dX11_statement_241 : decode cX11_statement 241 = .ok (.ireturn, 1) := by decide +kernel
theorem dX11_statement_242 : decode cX11_statement 242 = .ok (.iload_n 1, 1) := by decide +kernel
theorem dX11_statement_243 : decode cX11_statement 243 = .ok (.ifCond .ne 5, 3) := by decide +kernel
theorem dX11_statement_246 : decode cX11_statement 246 = .ok (.iconst 1, 1) := by decide +kernel
theorem dX11_statement_247 : decode cX11_statement 247 = .ok (.ireturn, 1) := by decide +kernel
theorem dX11_statement_248 : decode cX11_statement 248 = .ok (.aload_n 0, 1) := by decide +kernel
theorem dX11_statement_249 : decode cX11_statement 249 = .ok (.iconst 0, 1) := by decide +kernel
theorem dX11_statement_250 : decode cX11_statement 250 = .ok (.invokevirtual 94, 3) := by decide +kernel
theorem dX11_statement_253 : decode cX11_statement 253 = .ok (.iconst 1, 1) := by decide +kernel
theorem dX11_statement_254 : decode cX11_statement 254 = .ok (.bipush 11, 2) := by decide +kernel
theorem dX11_statement_256 : decode cX11_statement 256 = .ok (.invokestatic 70, 3) := by decide +kernel
theorem dX11_statement_259 : decode cX11_statement 259 = .ok (.ifCond .eq 27, 3) := by decide +kernel
theorem dX11_statement_262 : decode cX11_statement 262 = .ok (.aload_n 0, 1) := by decide +kernel
theorem dX11_statement_263 : decode cX11_statement 263 = .ok (.iconst 3, 1) := by decide +kernel
theorem dX11_statement_264 : decode cX11_statement 264 = .ok (.invokevirtual 94, 3) := by decide +kernel
theorem dX11_statement_267 : decode cX11_statement 267 = .ok (.bipush 40, 2) := by decide +kernel
theorem dX11_statement_269 : decode cX11_statement 269 = .ok (.if_icmp .gt 17, 3) := by decide +kernel
theorem dX11_statement_272 : decode cX11_statement 272 = .ok (.aload_n 0, 1) := by decide +kernel
theorem dX11_statement_273 : decode cX11_statement 273 = .ok (.iconst 5, 1) := by decide +kernel
theorem dX11_statement_274 : decode cX11_statement 274 = .ok (.invokevirtual 94, 3) := by decide +kernel
theorem dX11_statement_277 : decode cX11_statement 277 = .ok (.iconst 1, 1) := by decide +kernel
theorem dX11_statement_278 : decode cX11_statement 278 = .ok (.bipush 20, 2) := by decide +kernel
theorem dX11_statement_280 : decode cX11_statement 280 = .ok (.invokestatic 70, 3) := by decide +kernel
theorem dX11_statement_283 : decode cX11_statement 283 = .ok (.ifCond .ne 5, 3) := by decide +kernel
theorem dX11_statement_286 : decode cX11_statement 286 = .ok (.iconst 0, 1) := by decide +kernel
theorem dX11_statement_287 : decode cX11_statement 287 = .ok (.ireturn, 1) := by decide +kernel
theorem dX11_statement_288 : decode cX11_statement 288 = .ok (.aload_n 0, 1) := by decide +kernel
theorem dX11_statement_289 : decode cX11_statement 289 = .ok (.getfield 28, 3) := by decide +kernel
theorem dX11_statement_292 : decode cX11_statement 292 = .ok (.iconst 0, 1) := by decide +kernel
theorem dX11_statement_293 : decode cX11_statement 293 = .ok (.aload_n 0, 1) := by decide +kernel
theorem dX11_statement_294 : decode cX11_statement 294 = .ok (.iconst 0, 1) := by decide +kernel
theorem dX11_statement_295 : decode cX11_statement 295 = .ok (.invokevirtual 94, 3) := by decide +kernel
theorem dX11_statement_298 : decode cX11_statement 298 = .ok (.iastore, 1) := by decide +kernel
theorem dX11_statement_299 : decode cX11_statement 299 = .ok (.aload_n 0, 1) := by decide +kernel
theorem dX11_statement_300 : decode cX11_statement 300 = .ok (.getfield 28, 3) := by decide +kernel
theorem dX11_statement_303 : decode cX11_statement 303 = .ok (.iconst 1, 1) := by decide +kernel
theorem dX11_statement_304 : decode cX11_statement 304 = .ok (.aload_n 0, 1) := by decide +kernel
theorem dX11_statement_305 : decode cX11_statement 305 = .ok (.getfield 37, 3) := by decide +kernel
theorem dX11_statement_308 : decode cX11_statement 308 = .ok (.iconst 2, 1) := by decide +kernel
theorem dX11_statement_309 : decode cX11_statement 309 = .ok (.iaload, 1) := by decide +kernel
theorem dX11_statement_310 : decode cX11_statement 310 = .ok (.iastore, 1) := by decide +kernel
theorem dX11_statement_311 : decode cX11_statement 311 = .ok (.aload_n 0, 1) := by decide +kernel
theorem dX11_statement_312 : decode cX11_statement 312 = .ok (.getfield 28, 3) := by decide +kernel
theorem dX11_statement_315 : decode cX11_statement 315 = .ok (.iconst 2, 1) := by decide +kernel
theorem dX11_statement_316 : decode cX11_statement 316 = .ok (.aload_n 0, 1) := by decide +kernel
theorem dX11_statement_317 : decode cX11_statement 317 = .ok (.iconst 3, 1) := by decide +kernel
theorem dX11_statement_318 : decode cX11_statement 318 = .ok (.invokevirtual 94, 3) := by decide +kernel
theorem dX11_statement_321 : decode cX11_statement 321 = .ok (.iastore, 1) := by decide +kernel
theorem dX11_statement_322 : decode cX11_statement 322 = .ok (.aload_n 0, 1) := by decide +kernel
theorem dX11_statement_323 : decode cX11_statement 323 = .ok (.getfield 28, 3) := by decide +kernel
theorem dX11_statement_326 : decode cX11_statement 326 = .ok (.iconst 3, 1) := by decide +kernel
theorem dX11_statement_327 : decode cX11_statement 327 = .ok (.aload_n 0, 1) := by decide +kernel
theorem dX11_statement_328 : decode cX11_statement 328 = .ok (.iconst 5, 1) := by decide +kernel
theorem dX11_statement_329 : decode cX11_statement 329 = .ok (.invokevirtual 94, 3) := by decide +kernel
theorem dX11_statement_332 : decode cX11_statement 332 = .ok (.iastore, 1) := by decide +kernel
theorem dX11_statement_333 : decode cX11_statement 333 = .ok (.iconst 1, 1) := by decide +kernel
theorem dX11_statement_334 : decode cX11_statement 334 = .ok (.ireturn, 1) := by decide +kernel
theorem dX11_statement_335 : decode cX11_statement 335 = .ok (.aload_n 0, 1) := by decide +kernel
theorem dX11_statement_336 : decode cX11_statement 336 = .ok (.bipush 99, 2) := by decide +kernel
theorem dX11_statement_338 : decode cX11_statement 338 = .ok (.invokevirtual 80, 3) := by decide +kernel
theorem dX11_statement_341 : decode cX11_statement 341 = .ok (.ifCond .eq 49, 3) := by decide +kernel
theorem dX11_statement_344 : decode cX11_statement 344 = .ok (.aload_n 0, 1) := by decide +kernel
theorem dX11_statement_345 : decode cX11_statement 345 = .ok (.iconst 3, 1) := by decide +kernel
theorem dX11_statement_346 : decode cX11_statement 346 = .ok (.invokevirtual 91, 3) := by decide +kernel
theorem dX11_statement_349 : decode cX11_statement 349 = .ok (.ifCond .ne 5, 3) := by decide +kernel
theorem dX11_statement_352 : decode cX11_statement 352 = .ok (.iconst (-1), 1) := by decide +kernel
theorem dX11_statement_353 : decode cX11_statement 353 = .ok (.ireturn, 1) := by decide +kernel
theorem dX11_statement_354 : decode cX11_statement 354 = .ok (.iload_n 1, 1) := by decide +kernel
theorem dX11_statement_355 : decode cX11_statement 355 = .ok (.ifCond .ne 5, 3) := by decide +kernel
theorem dX11_statement_358 : decode cX11_statement 358 = .ok (.iconst 1, 1) := by decide +kernel
theorem dX11_statement_359 : decode cX11_statement 359 = .ok (.ireturn, 1) := by decide +kernel
theorem dX11_statement_360 : decode cX11_statement 360 = .ok (.aload_n 0, 1) := by decide +kernel
theorem dX11_statement_361 : decode cX11_statement 361 = .ok (.getfield 37, 3) := by decide +kernel
theorem dX11_statement_364 : decode cX11_statement 364 = .ok (.iconst 0, 1) := by decide +kernel
theorem dX11_statement_365 : decode cX11_statement 365 = .ok (.iaload, 1) := by decide +kernel
theorem dX11_statement_366 : decode cX11_statement 366 = .ok (.iconst 4, 1) := by decide +kernel
theorem dX11_statement_367 : decode cX11_statement 367 = .ok (.if_icmp .le 5, 3) := by decide +kernel
theorem dX11_statement_370 : decode cX11_statement 370 = .ok (.iconst 0, 1) := by decide +kernel
theorem dX11_statement_371 : decode cX11_statement 371 = .ok (.ireturn, 1) := by decide +kernel
theorem dX11_statement_372 : decode cX11_statement 372 = .ok (.aload_n 0, 1) := by decide +kernel
theorem dX11_statement_373 : decode cX11_statement 373 = .ok (.getfield 31, 3) := by decide +kernel
theorem dX11_statement_376 : decode cX11_statement 376 = .ok (.aload_n 0, 1) := by decide +kernel
theorem dX11_statement_377 : decode cX11_statement 377 = .ok (.getfield 37, 3) := by decide +kernel
theorem dX11_statement_380 : decode cX11_statement 380 = .ok (.iconst 0, 1) := by decide +kernel
theorem dX11_statement_381 : decode cX11_statement 381 = .ok (.iaload, 1) := by decide +kernel
theorem dX11_statement_382 : decode cX11_statement 382 = .ok (.aload_n 0, 1) := by decide +kernel
theorem dX11_statement_383 : decode cX11_statement 383 = .ok (.iconst 1, 1) := by decide +kernel
theorem dX11_statement_384 : decode cX11_statement 384 = .ok (.invokevirtual 94, 3) := by decide +kernel
theorem dX11_statement_387 : decode cX11_statement 387 = .ok (.iastore, 1) := by decide +kernel
theorem dX11_statement_388 : decode cX11_statement 388 = .ok (.iconst 1, 1) := by decide +kernel
theorem dX11_statement_389 : decode cX11_statement 389 = .ok (.ireturn, 1) := by decide +kernel
theorem dX11_statement_390 : decode cX11_statement 390 = .ok (.aload_n 0, 1) := by decide +kernel
theorem dX11_statement_391 : decode cX11_statement 391 = .ok (.bipush 104, 2) := by decide +kernel
theorem dX11_statement_393 : decode cX11_statement 393 = .ok (.invokevirtual 80, 3) := by decide +kernel
theorem dX11_statement_396 : decode cX11_statement 396 = .ok (.ifCond .eq 45, 3) := by decide +kernel
theorem dX11_statement_399 : decode cX11_statement 399 = .ok (.aload_n 0, 1) := by decide +kernel
theorem dX11_statement_400 : decode cX11_statement 400 = .ok (.iconst 1, 1) := by decide +kernel
theorem dX11_statement_401 : decode cX11_statement 401 = .ok (.invokevirtual 91, 3) := by decide +kernel
theorem dX11_statement_404 : decode cX11_statement 404 = .ok (.ifCond .ne 5, 3) := by decide +kernel
theorem dX11_statement_407 : decode cX11_statement 407 = .ok (.iconst (-1), 1) := by decide +kernel
theorem dX11_statement_408 : decode cX11_statement 408 = .ok (.ireturn, 1) := by decide +kernel
theorem dX11_statement_409 : decode cX11_statement 409 = .ok (.iload_n 1, 1) := by decide +kernel
theorem dX11_statement_410 : decode cX11_statement 410 = .ok (.ifCond .ne 5, 3) := by decide +kernel
theorem dX11_statement_413 : decode cX11_statement 413 = .ok (.iconst 1, 1) := by decide +kernel
theorem dX11_statement_414 : decode cX11_statement 414 = .ok (.ireturn, 1) := by decide +kernel
theorem dX11_statement_415 : decode cX11_statement 415 = .ok (.aload_n 0, 1) := by decide +kernel
theorem dX11_statement_416 : decode cX11_statement 416 = .ok (.getfield 37, 3) := by decide +kernel
theorem dX11_statement_419 : decode cX11_statement 419 = .ok (.iconst 0, 1) := by decide +kernel
theorem dX11_statement_420 : decode cX11_statement 420 = .ok (.iaload, 1) := by decide +kernel
theorem dX11_statement_421 : decode cX11_statement 421 = .ok (.iconst 2, 1) := by decide +kernel
theorem dX11_statement_422 : decode cX11_statement 422 = .ok (.if_icmp .le 5, 3) := by decide +kernel
theorem dX11_statement_425 : decode cX11_statement 425 = .ok (.iconst 0, 1) := by decide +kernel
theorem dX11_statement_426 : decode cX11_statement 426 = .ok (.ireturn, 1) := by decide +kernel
theorem dX11_statement_427 : decode cX11_statement 427 = .ok (.aload_n 0, 1) := by decide +kernel
theorem dX11_statement_428 : decode cX11_statement 428 = .ok (.getfield 28, 3) := by decide +kernel
theorem dX11_statement_431 : decode cX11_statement 431 = .ok (.iconst 4, 1) := by decide +kernel
theorem dX11_statement_432 : decode cX11_statement 432 = .ok (.aload_n 0, 1) := by decide +kernel
theorem dX11_statement_433 : decode cX11_statement 433 = .ok (.getfield 37, 3) := by decide +kernel
theorem dX11_statement_436 : decode cX11_statement 436 = .ok (.iconst 0, 1) := by decide +kernel
theorem dX11_statement_437 : decode cX11_statement 437 = .ok (.iaload, 1) := by decide +kernel
theorem dX11_statement_438 : decode cX11_statement 438 = .ok (.iastore, 1) := by decide +kernel
theorem dX11_statement_439 : decode cX11_statement 439 = .ok (.iconst 1, 1) := by decide +kernel
theorem dX11_statement_440 : decode cX11_statement 440 = .ok (.ireturn, 1) := by decide +kernel
theorem dX11_statement_441 : decode cX11_statement 441 = .ok (.aload_n 0, 1) := by decide +kernel
theorem dX11_statement_442 : decode cX11_statement 442 = .ok (.bipush 111, 2) := by decide +kernel
theorem dX11_statement_444 : decode cX11_statement 444 = .ok (.invokevirtual 80, 3) := by decide +kernel
theorem dX11_statement_447 : decode cX11_statement 447 = .ok (.ifCond .eq 53, 3) := by decide +kernel
theorem dX11_statement_450 : decode cX11_statement 450 = .ok (.aload_n 0, 1) := by decide +kernel
theorem dX11_statement_451 : decode cX11_statement 451 = .ok (.iconst 3, 1) := by decide +kernel
theorem dX11_statement_452 : decode cX11_statement 452 = .ok (.invokevirtual 91, 3) := by decide +kernel
theorem dX11_statement_455 : decode cX11_statement 455 = .ok (.ifCond .ne 5, 3) := by decide +kernel
theorem dX11_statement_458 : decode cX11_statement 458 = .ok (.iconst (-1), 1) := by decide +kernel
theorem dX11_statement_459 : decode cX11_statement 459 = .ok (.ireturn, 1) := by decide +kernel
theorem dX11_statement_460 : decode cX11_statement 460 = .ok (.iload_n 1, 1) := by decide +kernel
theorem dX11_statement_461 : decode cX11_statement 461 = .ok (.ifCond .ne 5, 3) := by decide +kernel
theorem dX11_statement_464 : decode cX11_statement 464 = .ok (.iconst 1, 1) := by decide +kernel
theorem dX11_statement_465 : decode cX11_statement 465 = .ok (.ireturn, 1) := by decide +kernel
theorem dX11_statement_466 : decode cX11_statement 466 = .ok (.bipush 100, 2) := by decide +kernel
theorem dX11_statement_468 : decode cX11_statement 468 = .ok (.aload_n 0, 1) := by decide +kernel
theorem dX11_statement_469 : decode cX11_statement 469 = .ok (.getfield 37, 3) := by decide +kernel
theorem dX11_statement_472 : decode cX11_statement 472 = .ok (.iconst 0, 1) := by decide +kernel
theorem dX11_statement_473 : decode cX11_statement 473 = .ok (.iaload, 1) := by decide +kernel
theorem dX11_statement_474 : decode cX11_statement 474 = .ok (.imul, 1) := by decide +kernel
theorem dX11_statement_475 : decode cX11_statement 475 = .ok (.aload_n 0, 1) := by decide +kernel
theorem dX11_statement_476 : decode cX11_statement 476 = .ok (.iconst 1, 1) := by decide +kernel
theorem dX11_statement_477 : decode cX11_statement 477 = .ok (.invokevirtual 94, 3) := by decide +kernel
theorem dX11_statement_480 : decode cX11_statement 480 = .ok (.iadd, 1) := by decide +kernel
theorem dX11_statement_481 : decode cX11_statement 481 = .ok (.istore_n 2, 1) := by decide +kernel
theorem dX11_statement_482 : decode cX11_statement 482 = .ok (.iload_n 2, 1) := by decide +kernel
theorem dX11_statement_483 : decode cX11_statement 483 = .ok (.sipush 400, 3) := by decide +kernel
theorem dX11_statement_486 : decode cX11_statement 486 = .ok (.if_icmp .le 5, 3) := by decide +kernel
theorem dX11_statement_489 : decode cX11_statement 489 = .ok (.iconst 0, 1) := by decide +kernel
theorem dX11_statement_490 : decode cX11_statement 490 = .ok (.ireturn, 1) := by decide +kernel
theorem dX11_statement_491 : decode cX11_statement 491 = .ok (.aload_n 0, 1) := by decide +kernel
theorem dX11_statement_492 : decode cX11_statement 492 = .ok (.getfield 28, 3) := by decide +kernel
theorem dX11_statement_495 : decode cX11_statement 495 = .ok (.iconst 5, 1) := by decide +kernel
theorem dX11_statement_496 : decode cX11_statement 496 = .ok (.iload_n 2, 1) := by decide +kernel
theorem dX11_statement_497 : decode cX11_statement 497 = .ok (.iastore, 1) := by decide +kernel
theorem dX11_statement_498 : decode cX11_statement 498 = .ok (.iconst 1, 1) := by decide +kernel
theorem dX11_statement_499 : decode cX11_statement 499 = .ok (.ireturn, 1) := by decide +kernel
theorem dX11_statement_500 : decode cX11_statement 500 = .ok (.aload_n 0, 1) := by decide +kernel
theorem dX11_statement_501 : decode cX11_statement 501 = .ok (.bipush 120, 2) := by decide +kernel
theorem dX11_statement_503 : decode cX11_statement 503 = .ok (.invokevirtual 80, 3) := by decide +kernel
theorem dX11_statement_506 : decode cX11_statement 506 = .ok (.ifCond .eq 11, 3) := by decide +kernel
theorem dX11_statement_509 : decode cX11_statement 509 = .ok (.aload_n 0, 1) := by decide +kernel
theorem dX11_statement_510 : decode cX11_statement 510 = .ok (.iconst 2, 1) := by decide +kernel
theorem dX11_statement_511 : decode cX11_statement 511 = .ok (.invokevirtual 91, 3) := by decide +kernel
theorem dX11_statement_514 : decode cX11_statement 514 = .ok (.ifCond .ne 5, 3) := by decide +kernel
theorem dX11_statement_517 : decode cX11_statement 517 = .ok (.iconst (-1), 1) := by decide +kernel
theorem dX11_statement_518 : decode cX11_statement 518 = .ok (.ireturn, 1) := by decide +kernel
theorem dX11_statement_519 : decode cX11_statement 519 = .ok (.iload_n 1, 1) := by decide +kernel
theorem dX11_statement_520 : decode cX11_statement 520 = .ok (.ifCond .ne 5, 3) := by decide +kernel
theorem dX11_statement_523 : decode cX11_statement 523 = .ok (.iconst 1, 1) := by decide +kernel
theorem dX11_statement_524 : decode cX11_statement 524 = .ok (.ireturn, 1) := by decide +kernel
theorem dX11_statement_525 : decode cX11_statement 525 = .ok (.aload_n 0, 1) := by decide +kernel
theorem dX11_statement_526 : decode cX11_statement 526 = .ok (.aload_n 0, 1) := by decide +kernel
theorem dX11_statement_527 : decode cX11_statement 527 = .ok (.getfield 37, 3) := by decide +kernel
theorem dX11_statement_530 : decode cX11_statement 530 = .ok (.iconst 0, 1) := by decide +kernel
theorem dX11_statement_531 : decode cX11_statement 531 = .ok (.iaload, 1) := by decide +kernel
theorem dX11_statement_532 : decode cX11_statement 532 = .ok (.invokevirtual 97, 3) := by decide +kernel
theorem dX11_statement_535 : decode cX11_statement 535 = .ok (.ifCond .eq 31, 3) := by decide +kernel
theorem dX11_statement_538 : decode cX11_statement 538 = .ok (.aload_n 0, 1) := by decide +kernel
theorem dX11_statement_539 : decode cX11_statement 539 = .ok (.aload_n 0, 1) := by decide +kernel
theorem dX11_statement_540 : decode cX11_statement 540 = .ok (.getfield 37, 3) := by decide +kernel
theorem dX11_statement_543 : decode cX11_statement 543 = .ok (.iconst 1, 1) := by decide +kernel
theorem dX11_statement_544 : decode cX11_statement 544 = .ok (.iaload, 1) := by decide +kernel
theorem dX11_statement_545 : decode cX11_statement 545 = .ok (.invokevirtual 97, 3) := by decide +kernel
theorem dX11_statement_548 : decode cX11_statement 548 = .ok (.ifCond .eq 18, 3) := by decide +kernel
theorem dX11_statement_551 : decode cX11_statement 551 = .ok (.aload_n 0, 1) := by decide +kernel
theorem dX11_statement_552 : decode cX11_statement 552 = .ok (.getfield 37, 3) := by decide +kernel
theorem dX11_statement_555 : decode cX11_statement 555 = .ok (.iconst 0, 1) := by decide +kernel
theorem dX11_statement_556 : decode cX11_statement 556 = .ok (.iaload, 1) := by decide +kernel
theorem dX11_statement_557 : decode cX11_statement 557 = .ok (.aload_n 0, 1) := by decide +kernel
theorem dX11_statement_558 : decode cX11_statement 558 = .ok (.getfield 37, 3) := by decide +kernel
theorem dX11_statement_561 : decode cX11_statement 561 = .ok (.iconst 1, 1) := by decide +kernel
theorem dX11_statement_562 : decode cX11_statement 562 = .ok (.iaload, 1) := by decide +kernel
theorem dX11_statement_563 : decode cX11_statement 563 = .ok (.if_icmp .ne 5, 3) := by decide +kernel
theorem dX11_statement_566 : decode cX11_statement 566 = .ok (.iconst 0, 1) := by decide +kernel
theorem dX11_statement_567 : decode cX11_statement 567 = .ok (.ireturn, 1) := by decide +kernel
theorem dX11_statement_568 : decode cX11_statement 568 = .ok (.aload_n 0, 1) := by decide +kernel
theorem dX11_statement_569 : decode cX11_statement 569 = .ok (.aload_n 0, 1) := by decide +kernel
theorem dX11_statement_570 : decode cX11_statement 570 = .ok (.aload_n 0, 1) := by decide +kernel
theorem dX11_statement_571 : decode cX11_statement 571 = .ok (.getfield 37, 3) := by decide +kernel
theorem dX11_statement_574 : decode cX11_statement 574 = .ok (.iconst 0, 1) := by decide +kernel
theorem dX11_statement_575 : decode cX11_statement 575 = .ok (.iaload, 1) := by decide +kernel
theorem dX11_statement_576 : decode cX11_statement 576 = .ok (.invokevirtual 100, 3) := by decide +kernel
theorem dX11_statement_579 : decode cX11_statement 579 = .ok (.aload_n 0, 1) := by decide +kernel
theorem dX11_statement_580 : decode cX11_statement 580 = .ok (.aload_n 0, 1) := by decide +kernel
theorem dX11_statement_581 : decode cX11_statement 581 = .ok (.getfield 37, 3) := by decide +kernel
theorem dX11_statement_584 : decode cX11_statement 584 = .ok (.iconst 1, 1) := by decide +kernel
theorem dX11_statement_585 : decode cX11_statement 585 = .ok (.iaload, 1) := by decide +kernel
theorem dX11_statement_586 : decode cX11_statement 586 = .ok (.invokevirtual 100, 3) := by decide +kernel
theorem dX11_statement_589 : decode cX11_statement 589 = .ok (.invokevirtual 103, 3) := by decide +kernel
theorem dX11_statement_592 : decode cX11_statement 592 = .ok (.iconst 1, 1) := by decide +kernel
theorem dX11_statement_593 : decode cX11_statement 593 = .ok (.ireturn, 1) := by decide +kernel
theorem dX11_kitchen_0 : decode cX11_kitchen 0 = .ok (.aload_n 0, 1) := by decide +kernel
theorem dX11_kitchen_1 : decode cX11_kitchen 1 = .ok (.iconst 0, 1) := by decide +kernel
theorem dX11_kitchen_2 : decode cX11_kitchen 2 = .ok (.putfield 77, 3) := by decide +kernel
theorem dX11_kitchen_5 : decode cX11_kitchen 5 = .ok (.iconst 1, 1) := by decide +kernel
theorem dX11_kitchen_6 : decode cX11_kitchen 6 = .ok (.istore_n 1, 1) := by decide +kernel
theorem dX11_kitchen_7 : decode cX11_kitchen 7 = .ok (.iload_n 1, 1) := by decide +kernel
theorem dX11_kitchen_8 : decode cX11_kitchen 8 = .ok (.ifCond .eq 45, 3) := by decide +kernel
theorem dX11_kitchen_11 : decode cX11_kitchen 11 = .ok (.aload_n 0, 1) := by decide +kernel
theorem dX11_kitchen_12 : decode cX11_kitchen 12 = .ok (.iconst 0, 1) := by decide +kernel
theorem dX11_kitchen_13 : decode cX11_kitchen 13 = .ok (.invokevirtual 107, 3) := by decide +kernel
theorem dX11_kitchen_16 : decode cX11_kitchen 16 = .ok (.iconst 1, 1) := by decide +kernel
theorem dX11_kitchen_17 : decode cX11_kitchen 17 = .ok (.if_icmp .ne 16, 3) := by decide +kernel
theorem dX11_kitchen_20 : decode cX11_kitchen 20 = .ok (.aload_n 0, 1) := by decide +kernel
theorem dX11_kitchen_21 : decode cX11_kitchen 21 = .ok (.bipush 59, 2) := by decide +kernel
theorem dX11_kitchen_23 : decode cX11_kitchen 23 = .ok (.invokevirtual 80, 3) := by decide +kernel
theorem dX11_kitchen_26 : decode cX11_kitchen 26 = .ok (.ifCond .eq 7, 3) := by decide +kernel
theorem dX11_kitchen_29 : decode cX11_kitchen 29 = .ok (.iconst 1, 1) := by decide +kernel
theorem dX11_kitchen_30 : decode cX11_kitchen 30 = .ok (.goto 4, 3) := by decide +kernel
theorem dX11_kitchen_33 : decode cX11_kitchen 33 = .ok (.iconst 0, 1) := by decide +kernel
theorem dX11_kitchen_34 : decode cX11_kitchen 34 = .ok (.istore_n 1, 1) := by decide +kernel
theorem dX11_kitchen_35 : decode cX11_kitchen 35 = .ok (.iload_n 1, 1) := by decide +kernel
theorem dX11_kitchen_36 : decode cX11_kitchen 36 = .ok (.ifCond .eq (-29), 3) := by decide +kernel
theorem dX11_kitchen_39 : decode cX11_kitchen 39 = .ok (.aload_n 0, 1) := by decide +kernel
theorem dX11_kitchen_40 : decode cX11_kitchen 40 = .ok (.getfield 77, 3) := by decide +kernel
theorem dX11_kitchen_43 : decode cX11_kitchen 43 = .ok (.aload_n 0, 1) := by decide +kernel
theorem dX11_kitchen_44 : decode cX11_kitchen 44 = .ok (.getfield 74, 3) := by decide +kernel
theorem dX11_kitchen_47 : decode cX11_kitchen 47 = .ok (.if_icmp .ne (-40), 3) := by decide +kernel
theorem dX11_kitchen_50 : decode cX11_kitchen 50 = .ok (.goto 3, 3) := by decide +kernel
theorem dX11_kitchen_53 : decode cX11_kitchen 53 = .ok (.iload_n 1, 1) := by decide +kernel
theorem dX11_kitchen_54 : decode cX11_kitchen 54 = .ok (.ifCond .ne 17, 3) := by decide +kernel
theorem dX11_kitchen_57 : decode cX11_kitchen 57 = .ok (.aload_n 0, 1) := by decide +kernel
theorem dX11_kitchen_58 : decode cX11_kitchen 58 = .ok (.iconst 0, 1) := by decide +kernel
theorem dX11_kitchen_59 : decode cX11_kitchen 59 = .ok (.putfield 74, 3) := by decide +kernel
theorem dX11_kitchen_62 : decode cX11_kitchen 62 = .ok (.sipush (-1000), 3) := by decide +kernel
theorem dX11_kitchen_65 : decode cX11_kitchen 65 = .ok (.aload_n 0, 1) := by decide +kernel
theorem dX11_kitchen_66 : decode cX11_kitchen 66 = .ok (.getfield 77, 3) := by decide +kernel
theorem dX11_kitchen_69 : decode cX11_kitchen 69 = .ok (.isub, 1) := by decide +kernel
theorem dX11_kitchen_70 : decode cX11_kitchen 70 = .ok (.ireturn, 1) := by decide +kernel
theorem dX11_kitchen_71 : decode cX11_kitchen 71 = .ok (.aload_n 0, 1) := by decide +kernel
theorem dX11_kitchen_72 : decode cX11_kitchen 72 = .ok (.aload_n 0, 1) := by decide +kernel
theorem dX11_kitchen_73 : decode cX11_kitchen 73 = .ok (.getfield 49, 3) := by decide +kernel
theorem dX11_kitchen_76 : decode cX11_kitchen 76 = .ok (.invokevirtual 111, 3) := by decide +kernel
theorem dX11_kitchen_79 : decode cX11_kitchen 79 = .ok (.aload_n 0, 1) := by decide +kernel
theorem dX11_kitchen_80 : decode cX11_kitchen 80 = .ok (.iconst 0, 1) := by decide +kernel
theorem dX11_kitchen_81 : decode cX11_kitchen 81 = .ok (.putfield 77, 3) := by decide +kernel
theorem dX11_kitchen_84 : decode cX11_kitchen 84 = .ok (.iconst 0, 1) := by decide +kernel
theorem dX11_kitchen_85 : decode cX11_kitchen 85 = .ok (.istore_n 2, 1) := by decide +kernel
theorem dX11_kitchen_86 : decode cX11_kitchen 86 = .ok (.aload_n 0, 1) := by decide +kernel
theorem dX11_kitchen_87 : decode cX11_kitchen 87 = .ok (.getfield 77, 3) := by decide +kernel
theorem dX11_kitchen_90 : decode cX11_kitchen 90 = .ok (.aload_n 0, 1) := by decide +kernel
theorem dX11_kitchen_91 : decode cX11_kitchen 91 = .ok (.getfield 74, 3) := by decide +kernel
theorem dX11_kitchen_94 : decode cX11_kitchen 94 = .ok (.if_icmp .ge 48, 3) := by decide +kernel
theorem dX11_kitchen_97 : decode cX11_kitchen 97 = .ok (.aload_n 0, 1) := by decide +kernel
theorem dX11_kitchen_98 : decode cX11_kitchen 98 = .ok (.getfield 77, 3) := by decide +kernel
theorem dX11_kitchen_101 : decode cX11_kitchen 101 = .ok (.istore_n 3, 1) := by decide +kernel
theorem dX11_kitchen_102 : decode cX11_kitchen 102 = .ok (.aload_n 0, 1) := by decide +kernel
theorem dX11_kitchen_103 : decode cX11_kitchen 103 = .ok (.iconst 1, 1) := by decide +kernel
theorem dX11_kitchen_104 : decode cX11_kitchen 104 = .ok (.invokevirtual 107, 3) := by decide +kernel
theorem dX11_kitchen_107 : decode cX11_kitchen 107 = .ok (.ifCond .ne 22, 3) := by decide +kernel
theorem dX11_kitchen_110 : decode cX11_kitchen 110 = .ok (.aload_n 0, 1) := by decide +kernel
theorem dX11_kitchen_111 : decode cX11_kitchen 111 = .ok (.aload_n 0, 1) := by decide +kernel
theorem dX11_kitchen_112 : decode cX11_kitchen 112 = .ok (.getfield 49, 3) := by decide +kernel
theorem dX11_kitchen_115 : decode cX11_kitchen 115 = .ok (.invokevirtual 115, 3) := by decide +kernel
theorem dX11_kitchen_118 : decode cX11_kitchen 118 = .ok (.aload_n 0, 1) := by decide +kernel
theorem dX11_kitchen_119 : decode cX11_kitchen 119 = .ok (.iconst 0, 1) := by decide +kernel
theorem dX11_kitchen_120 : decode cX11_kitchen 120 = .ok (.putfield 74, 3) := by decide +kernel
theorem dX11_kitchen_123 : decode cX11_kitchen 123 = .ok (.sipush (-2000), 3) := by decide +kernel
theorem dX11_kitchen_126 : decode cX11_kitchen 126 = .ok (.iload_n 3, 1) := by decide +kernel
theorem dX11_kitchen_127 : decode cX11_kitchen 127 = .ok (.isub, 1) := by decide +kernel
theorem dX11_kitchen_128 : decode cX11_kitchen 128 = .ok (.ireturn, 1) := by decide +kernel
theorem dX11_kitchen_129 : decode cX11_kitchen 129 = .ok (.aload_n 0, 1) := by decide +kernel
theorem dX11_kitchen_130 : decode cX11_kitchen 130 = .ok (.bipush 59, 2) := by decide +kernel
theorem dX11_kitchen_132 : decode cX11_kitchen 132 = .ok (.invokevirtual 80, 3) := by decide +kernel
theorem dX11_kitchen_135 : decode cX11_kitchen 135 = .ok (.pop, 1) := by decide +kernel
theorem dX11_kitchen_136 : decode cX11_kitchen 136 = .ok (.iinc 2 1, 3) := by decide +kernel
theorem dX11_kitchen_139 : decode cX11_kitchen 139 = .ok (.goto (-53), 3) := by decide +kernel
theorem dX11_kitchen_142 : decode cX11_kitchen 142 = .ok (.aload_n 0, 1) := by decide +kernel
theorem dX11_kitchen_143 : decode cX11_kitchen 143 = .ok (.iconst 0, 1) := by decide +kernel
theorem dX11_kitchen_144 : decode cX11_kitchen 144 = .ok (.putfield 74, 3) := by decide +kernel
theorem dX11_kitchen_147 : decode cX11_kitchen 147 = .ok (.iload_n 2, 1) := by decide +kernel
theorem dX11_kitchen_148 : decode cX11_kitchen 148 = .ok (.ireturn, 1) := by decide +kernel
theorem dX11_placeOf_0 : decode cX11_placeOf 0 = .ok (.iconst 0, 1) := by decide +kernel
theorem dX11_placeOf_1 : decode cX11_placeOf 1 = .ok (.istore_n 2, 1) := by decide +kernel
theorem dX11_placeOf_2 : decode cX11_placeOf 2 = .ok (.aload_n 0, 1) := by decide +kernel
theorem dX11_placeOf_3 : decode cX11_placeOf 3 = .ok (.getfield 25, 3) := by decide +kernel
theorem dX11_placeOf_6 : decode cX11_placeOf 6 = .ok (.iload_n 2, 1) := by decide +kernel
theorem dX11_placeOf_7 : decode cX11_placeOf 7 = .ok (.iaload, 1) := by decide +kernel
theorem dX11_placeOf_8 : decode cX11_placeOf 8 = .ok (.iload_n 1, 1) := by decide +kernel
theorem dX11_placeOf_9 : decode cX11_placeOf 9 = .ok (.if_icmp .eq 9, 3) := by decide +kernel
theorem dX11_placeOf_12 : decode cX11_placeOf 12 = .ok (.iinc 2 1, 3) := by decide +kernel
theorem dX11_placeOf_15 : decode cX11_placeOf 15 = .ok (.goto (-13), 3) := by decide +kernel
theorem dX11_placeOf_18 : decode cX11_placeOf 18 = .ok (.iload_n 2, 1) := by decide +kernel
theorem dX11_placeOf_19 : decode cX11_placeOf 19 = .ok (.ireturn, 1) := by decide +kernel
theorem dX11_swap_0 : decode cX11_swap 0 = .ok (.aload_n 0, 1) := by decide +kernel
theorem dX11_swap_1 : decode cX11_swap 1 = .ok (.getfield 25, 3) := by decide +kernel
theorem dX11_swap_4 : decode cX11_swap 4 = .ok (.iload_n 1, 1) := by decide +kernel
theorem dX11_swap_5 : decode cX11_swap 5 = .ok (.iaload, 1) := by decide +kernel
theorem dX11_swap_6 : decode cX11_swap 6 = .ok (.istore_n 3, 1) := by decide +kernel
theorem dX11_swap_7 : decode cX11_swap 7 = .ok (.aload_n 0, 1) := by decide +kernel
theorem dX11_swap_8 : decode cX11_swap 8 = .ok (.getfield 25, 3) := by decide +kernel
theorem dX11_swap_11 : decode cX11_swap 11 = .ok (.iload_n 1, 1) := by decide +kernel
theorem dX11_swap_12 : decode cX11_swap 12 = .ok (.aload_n 0, 1) := by decide +kernel
theorem dX11_swap_13 : decode cX11_swap 13 = .ok (.getfield 25, 3) := by decide +kernel
theorem dX11_swap_16 : decode cX11_swap 16 = .ok (.iload_n 2, 1) := by decide +kernel
theorem dX11_swap_17 : decode cX11_swap 17 = .ok (.iaload, 1) := by decide +kernel
theorem dX11_swap_18 : decode cX11_swap 18 = .ok (.iastore, 1) := by decide +kernel
theorem dX11_swap_19 : decode cX11_swap 19 = .ok (.aload_n 0, 1) := by decide +kernel
theorem dX11_swap_20 : decode cX11_swap 20 = .ok (.getfield 25, 3) := by decide +kernel
theorem dX11_swap_23 : decode cX11_swap 23 = .ok (.iload_n 2, 1) := by decide +kernel
theorem dX11_swap_24 : decode cX11_swap 24 = .ok (.iload_n 3, 1) := by decide +kernel
theorem dX11_swap_25 : decode cX11_swap 25 = .ok (.iastore, 1) := by decide +kernel
theorem dX11_swap_26 : decode cX11_swap 26 = .ok (.return_, 1) := by decide +kernel
theorem dX11_dish_0 : decode cX11_dish 0 = .ok (.aload_n 0, 1) := by decide +kernel
theorem dX11_dish_1 : decode cX11_dish 1 = .ok (.iload_n 1, 1) := by decide +kernel
theorem dX11_dish_2 : decode cX11_dish 2 = .ok (.invokevirtual 97, 3) := by decide +kernel
theorem dX11_dish_5 : decode cX11_dish 5 = .ok (.ifCond .ne 9, 3) := by decide +kernel
theorem dX11_dish_8 : decode cX11_dish 8 = .ok (.aload_n 0, 1) := by decide +kernel
theorem dX11_dish_9 : decode cX11_dish 9 = .ok (.iconst (-1), 1) := by decide +kernel
theorem dX11_dish_10 : decode cX11_dish 10 = .ok (.invokevirtual 62, 3) := by decide +kernel
theorem dX11_dish_13 : decode cX11_dish 13 = .ok (.ireturn, 1) := by decide +kernel
theorem dX11_dish_14 : decode cX11_dish 14 = .ok (.iload_n 2, 1) := by decide +kernel
theorem dX11_dish_15 : decode cX11_dish 15 = .ok (.tableswitch 78 0 5 #[37, 44, 51, 58, 65, 72], 37) := by decide +kernel
theorem dX11_dish_52 : decode cX11_dish 52 = .ok (.aload_n 0, 1) := by decide +kernel
theorem dX11_dish_53 : decode cX11_dish 53 = .ok (.getfield 7, 3) := by decide +kernel
theorem dX11_dish_56 : decode cX11_dish 56 = .ok (.iload_n 1, 1) := by decide +kernel
theorem dX11_dish_57 : decode cX11_dish 57 = .ok (.iaload, 1) := by decide +kernel
theorem dX11_dish_58 : decode cX11_dish 58 = .ok (.ireturn, 1) := by decide +kernel
theorem dX11_dish_59 : decode cX11_dish 59 = .ok (.aload_n 0, 1) := by decide +kernel
theorem dX11_dish_60 : decode cX11_dish 60 = .ok (.getfield 13, 3) := by decide +kernel
theorem dX11_dish_63 : decode cX11_dish 63 = .ok (.iload_n 1, 1) := by decide +kernel
theorem dX11_dish_64 : decode cX11_dish 64 = .ok (.iaload, 1) := by decide +kernel
theorem dX11_dish_65 : decode cX11_dish 65 = .ok (.ireturn, 1) := by decide +kernel
theorem dX11_dish_66 : decode cX11_dish 66 = .ok (.aload_n 0, 1) := by decide +kernel
theorem dX11_dish_67 : decode cX11_dish 67 = .ok (.getfield 16, 3) := by decide +kernel
theorem dX11_dish_70 : decode cX11_dish 70 = .ok (.iload_n 1, 1) := by decide +kernel
theorem dX11_dish_71 : decode cX11_dish 71 = .ok (.iaload, 1) := by decide +kernel
theorem dX11_dish_72 : decode cX11_dish 72 = .ok (.ireturn, 1) := by decide +kernel
theorem dX11_dish_73 : decode cX11_dish 73 = .ok (.aload_n 0, 1) := by decide +kernel
theorem dX11_dish_74 : decode cX11_dish 74 = .ok (.getfield 19, 3) := by decide +kernel
theorem dX11_dish_77 : decode cX11_dish 77 = .ok (.iload_n 1, 1) := by decide +kernel
theorem dX11_dish_78 : decode cX11_dish 78 = .ok (.iaload, 1) := by decide +kernel
theorem dX11_dish_79 : decode cX11_dish 79 = .ok (.ireturn, 1) := by decide +kernel
theorem dX11_dish_80 : decode cX11_dish 80 = .ok (.aload_n 0, 1) := by decide +kernel
theorem dX11_dish_81 : decode cX11_dish 81 = .ok (.getfield 22, 3) := by decide +kernel
theorem dX11_dish_84 : decode cX11_dish 84 = .ok (.iload_n 1, 1) := by decide +kernel
theorem dX11_dish_85 : decode cX11_dish 85 = .ok (.iaload, 1) := by decide +kernel
theorem dX11_dish_86 : decode cX11_dish 86 = .ok (.ireturn, 1) := by decide +kernel
theorem dX11_dish_87 : decode cX11_dish 87 = .ok (.aload_n 0, 1) := by decide +kernel
theorem dX11_dish_88 : decode cX11_dish 88 = .ok (.iload_n 1, 1) := by decide +kernel
theorem dX11_dish_89 : decode cX11_dish 89 = .ok (.invokevirtual 100, 3) := by decide +kernel
theorem dX11_dish_92 : decode cX11_dish 92 = .ok (.ireturn, 1) := by decide +kernel
theorem dX11_dish_93 : decode cX11_dish 93 = .ok (.aload_n 0, 1) := by decide +kernel
theorem dX11_dish_94 : decode cX11_dish 94 = .ok (.bipush (-2), 2) := by decide +kernel
theorem dX11_dish_96 : decode cX11_dish 96 = .ok (.invokevirtual 62, 3) := by decide +kernel
theorem dX11_dish_99 : decode cX11_dish 99 = .ok (.ireturn, 1) := by decide +kernel
theorem dX11_place_0 : decode cX11_place 0 = .ok (.aload_n 0, 1) := by decide +kernel
theorem dX11_place_1 : decode cX11_place 1 = .ok (.iload_n 1, 1) := by decide +kernel
theorem dX11_place_2 : decode cX11_place 2 = .ok (.invokevirtual 97, 3) := by decide +kernel
theorem dX11_place_5 : decode cX11_place 5 = .ok (.ifCond .eq 12, 3) := by decide +kernel
theorem dX11_place_8 : decode cX11_place 8 = .ok (.aload_n 0, 1) := by decide +kernel
theorem dX11_place_9 : decode cX11_place 9 = .ok (.getfield 25, 3) := by decide +kernel
theorem dX11_place_12 : decode cX11_place 12 = .ok (.iload_n 1, 1) := by decide +kernel
theorem dX11_place_13 : decode cX11_place 13 = .ok (.iaload, 1) := by decide +kernel
theorem dX11_place_14 : decode cX11_place 14 = .ok (.goto 8, 3) := by decide +kernel
theorem dX11_place_17 : decode cX11_place 17 = .ok (.aload_n 0, 1) := by decide +kernel
theorem dX11_place_18 : decode cX11_place 18 = .ok (.iconst (-1), 1) := by decide +kernel
theorem dX11_place_19 : decode cX11_place 19 = .ok (.invokevirtual 62, 3) := by decide +kernel
theorem dX11_place_22 : decode cX11_place 22 = .ok (.ireturn, 1) := by decide +kernel
theorem dX11_change_0 : decode cX11_change 0 = .ok (.aload_n 0, 1) := by decide +kernel
theorem dX11_change_1 : decode cX11_change 1 = .ok (.iload_n 1, 1) := by decide +kernel
theorem dX11_change_2 : decode cX11_change 2 = .ok (.invokevirtual 97, 3) := by decide +kernel
theorem dX11_change_5 : decode cX11_change 5 = .ok (.ifCond .eq 16, 3) := by decide +kernel
theorem dX11_change_8 : decode cX11_change 8 = .ok (.aload_n 0, 1) := by decide +kernel
theorem dX11_change_9 : decode cX11_change 9 = .ok (.iload_n 2, 1) := by decide +kernel
theorem dX11_change_10 : decode cX11_change 10 = .ok (.invokevirtual 97, 3) := by decide +kernel
theorem dX11_change_13 : decode cX11_change 13 = .ok (.ifCond .eq 8, 3) := by decide +kernel
theorem dX11_change_16 : decode cX11_change 16 = .ok (.iload_n 1, 1) := by decide +kernel
theorem dX11_change_17 : decode cX11_change 17 = .ok (.iload_n 2, 1) := by decide +kernel
theorem dX11_change_18 : decode cX11_change 18 = .ok (.if_icmp .ne 9, 3) := by decide +kernel
theorem dX11_change_21 : decode cX11_change 21 = .ok (.aload_n 0, 1) := by decide +kernel
theorem dX11_change_22 : decode cX11_change 22 = .ok (.iconst (-1), 1) := by decide +kernel
theorem dX11_change_23 : decode cX11_change 23 = .ok (.invokevirtual 62, 3) := by decide +kernel
theorem dX11_change_26 : decode cX11_change 26 = .ok (.ireturn, 1) := by decide +kernel
theorem dX11_change_27 : decode cX11_change 27 = .ok (.aload_n 0, 1) := by decide +kernel
theorem dX11_change_28 : decode cX11_change 28 = .ok (.aload_n 0, 1) := by decide +kernel
theorem dX11_change_29 : decode cX11_change 29 = .ok (.iload_n 1, 1) := by decide +kernel
theorem dX11_change_30 : decode cX11_change 30 = .ok (.invokevirtual 100, 3) := by decide +kernel
theorem dX11_change_33 : decode cX11_change 33 = .ok (.aload_n 0, 1) := by decide +kernel
theorem dX11_change_34 : decode cX11_change 34 = .ok (.iload_n 2, 1) := by decide +kernel
theorem dX11_change_35 : decode cX11_change 35 = .ok (.invokevirtual 100, 3) := by decide +kernel
theorem dX11_change_38 : decode cX11_change 38 = .ok (.invokevirtual 103, 3) := by decide +kernel
theorem dX11_change_41 : decode cX11_change 41 = .ok (.aload_n 0, 1) := by decide +kernel
theorem dX11_change_42 : decode cX11_change 42 = .ok (.iload_n 1, 1) := by decide +kernel
theorem dX11_change_43 : decode cX11_change 43 = .ok (.invokevirtual 100, 3) := by decide +kernel
theorem dX11_change_46 : decode cX11_change 46 = .ok (.ireturn, 1) := by decide +kernel
theorem dX11_heat_0 : decode cX11_heat 0 = .ok (.aload_n 0, 1) := by decide +kernel
theorem dX11_heat_1 : decode cX11_heat 1 = .ok (.iload_n 1, 1) := by decide +kernel
theorem dX11_heat_2 : decode cX11_heat 2 = .ok (.invokevirtual 97, 3) := by decide +kernel
theorem dX11_heat_5 : decode cX11_heat 5 = .ok (.ifCond .ne 9, 3) := by decide +kernel
theorem dX11_heat_8 : decode cX11_heat 8 = .ok (.aload_n 0, 1) := by decide +kernel
theorem dX11_heat_9 : decode cX11_heat 9 = .ok (.iconst (-1), 1) := by decide +kernel
theorem dX11_heat_10 : decode cX11_heat 10 = .ok (.invokevirtual 62, 3) := by decide +kernel
theorem dX11_heat_13 : decode cX11_heat 13 = .ok (.ireturn, 1) := by decide +kernel
theorem dX11_heat_14 : decode cX11_heat 14 = .ok (.iload_n 2, 1) := by decide +kernel
theorem dX11_heat_15 : decode cX11_heat 15 = .ok (.ifCond .ge 10, 3) := by decide +kernel
theorem dX11_heat_18 : decode cX11_heat 18 = .ok (.aload_n 0, 1) := by decide +kernel
theorem dX11_heat_19 : decode cX11_heat 19 = .ok (.bipush (-4), 2) := by decide +kernel
theorem dX11_heat_21 : decode cX11_heat 21 = .ok (.invokevirtual 62, 3) := by decide +kernel
theorem dX11_heat_24 : decode cX11_heat 24 = .ok (.ireturn, 1) := by decide +kernel
theorem dX11_heat_25 : decode cX11_heat 25 = .ok (.iload_n 2, 1) := by decide +kernel
theorem dX11_heat_26 : decode cX11_heat 26 = .ok (.bipush 99, 2) := by decide +kernel
theorem dX11_heat_28 : decode cX11_heat 28 = .ok (.if_icmp .le 10, 3) := by decide +kernel
theorem dX11_heat_31 : decode cX11_heat 31 = .ok (.aload_n 0, 1) := by decide +kernel
theorem dX11_heat_32 : decode cX11_heat 32 = .ok (.bipush (-6), 2) := by decide +kernel
theorem dX11_heat_34 : decode cX11_heat 34 = .ok (.invokevirtual 62, 3) := by decide +kernel
theorem dX11_heat_37 : decode cX11_heat 37 = .ok (.ireturn, 1) := by decide +kernel
theorem dX11_heat_38 : decode cX11_heat 38 = .ok (.aload_n 0, 1) := by decide +kernel
theorem dX11_heat_39 : decode cX11_heat 39 = .ok (.getfield 16, 3) := by decide +kernel
theorem dX11_heat_42 : decode cX11_heat 42 = .ok (.iload_n 1, 1) := by decide +kernel
theorem dX11_heat_43 : decode cX11_heat 43 = .ok (.iaload, 1) := by decide +kernel
theorem dX11_heat_44 : decode cX11_heat 44 = .ok (.istore_n 3, 1) := by decide +kernel
theorem dX11_heat_45 : decode cX11_heat 45 = .ok (.aload_n 0, 1) := by decide +kernel
theorem dX11_heat_46 : decode cX11_heat 46 = .ok (.getfield 16, 3) := by decide +kernel
theorem dX11_heat_49 : decode cX11_heat 49 = .ok (.iload_n 1, 1) := by decide +kernel
theorem dX11_heat_50 : decode cX11_heat 50 = .ok (.iload_n 2, 1) := by decide +kernel
theorem dX11_heat_51 : decode cX11_heat 51 = .ok (.iastore, 1) := by decide +kernel
theorem dX11_heat_52 : decode cX11_heat 52 = .ok (.iload_n 3, 1) := by decide +kernel
theorem dX11_heat_53 : decode cX11_heat 53 = .ok (.ireturn, 1) := by decide +kernel
theorem dX11_begins_0 : decode cX11_begins 0 = .ok (.iload_n 1, 1) := by decide +kernel
theorem dX11_begins_1 : decode cX11_begins 1 = .ok (.iconst 0, 1) := by decide +kernel
theorem dX11_begins_2 : decode cX11_begins 2 = .ok (.iconst 4, 1) := by decide +kernel
theorem dX11_begins_3 : decode cX11_begins 3 = .ok (.invokestatic 70, 3) := by decide +kernel
theorem dX11_begins_6 : decode cX11_begins 6 = .ok (.ifCond .ne 9, 3) := by decide +kernel
theorem dX11_begins_9 : decode cX11_begins 9 = .ok (.aload_n 0, 1) := by decide +kernel
theorem dX11_begins_10 : decode cX11_begins 10 = .ok (.iconst (-1), 1) := by decide +kernel
theorem dX11_begins_11 : decode cX11_begins 11 = .ok (.invokevirtual 62, 3) := by decide +kernel
theorem dX11_begins_14 : decode cX11_begins 14 = .ok (.ireturn, 1) := by decide +kernel
theorem dX11_begins_15 : decode cX11_begins 15 = .ok (.iload_n 2, 1) := by decide +kernel
theorem dX11_begins_16 : decode cX11_begins 16 = .ok (.ifCond .ge 10, 3) := by decide +kernel
theorem dX11_begins_19 : decode cX11_begins 19 = .ok (.aload_n 0, 1) := by decide +kernel
theorem dX11_begins_20 : decode cX11_begins 20 = .ok (.bipush (-4), 2) := by decide +kernel
theorem dX11_begins_22 : decode cX11_begins 22 = .ok (.invokevirtual 62, 3) := by decide +kernel
theorem dX11_begins_25 : decode cX11_begins 25 = .ok (.ireturn, 1) := by decide +kernel
theorem dX11_begins_26 : decode cX11_begins 26 = .ok (.iload_n 2, 1) := by decide +kernel
theorem dX11_begins_27 : decode cX11_begins 27 = .ok (.bipush 99, 2) := by decide +kernel
theorem dX11_begins_29 : decode cX11_begins 29 = .ok (.if_icmp .le 10, 3) := by decide +kernel
theorem dX11_begins_32 : decode cX11_begins 32 = .ok (.aload_n 0, 1) := by decide +kernel
theorem dX11_begins_33 : decode cX11_begins 33 = .ok (.bipush (-6), 2) := by decide +kernel
theorem dX11_begins_35 : decode cX11_begins 35 = .ok (.invokevirtual 62, 3) := by decide +kernel
theorem dX11_begins_38 : decode cX11_begins 38 = .ok (.ireturn, 1) := by decide +kernel
theorem dX11_begins_39 : decode cX11_begins 39 = .ok (.aload_n 0, 1) := by decide +kernel
theorem dX11_begins_40 : decode cX11_begins 40 = .ok (.getfield 31, 3) := by decide +kernel
theorem dX11_begins_43 : decode cX11_begins 43 = .ok (.iload_n 1, 1) := by decide +kernel
theorem dX11_begins_44 : decode cX11_begins 44 = .ok (.iaload, 1) := by decide +kernel
theorem dX11_begins_45 : decode cX11_begins 45 = .ok (.istore_n 3, 1) := by decide +kernel
theorem dX11_begins_46 : decode cX11_begins 46 = .ok (.aload_n 0, 1) := by decide +kernel
theorem dX11_begins_47 : decode cX11_begins 47 = .ok (.getfield 31, 3) := by decide +kernel
theorem dX11_begins_50 : decode cX11_begins 50 = .ok (.iload_n 1, 1) := by decide +kernel
theorem dX11_begins_51 : decode cX11_begins 51 = .ok (.iload_n 2, 1) := by decide +kernel
theorem dX11_begins_52 : decode cX11_begins 52 = .ok (.iastore, 1) := by decide +kernel
theorem dX11_begins_53 : decode cX11_begins 53 = .ok (.iload_n 3, 1) := by decide +kernel
theorem dX11_begins_54 : decode cX11_begins 54 = .ok (.ireturn, 1) := by decide +kernel
theorem dX11_set_0 : decode cX11_set 0 = .ok (.iload_n 1, 1) := by decide +kernel
theorem dX11_set_1 : decode cX11_set 1 = .ok (.iconst 0, 1) := by decide +kernel
theorem dX11_set_2 : decode cX11_set 2 = .ok (.iconst 5, 1) := by decide +kernel
theorem dX11_set_3 : decode cX11_set 3 = .ok (.invokestatic 70, 3) := by decide +kernel
theorem dX11_set_6 : decode cX11_set 6 = .ok (.ifCond .ne 10, 3) := by decide +kernel
theorem dX11_set_9 : decode cX11_set 9 = .ok (.aload_n 0, 1) := by decide +kernel
theorem dX11_set_10 : decode cX11_set 10 = .ok (.bipush (-2), 2) := by decide +kernel
theorem dX11_set_12 : decode cX11_set 12 = .ok (.invokevirtual 62, 3) := by decide +kernel
theorem dX11_set_15 : decode cX11_set 15 = .ok (.ireturn, 1) := by decide +kernel
theorem dX11_set_16 : decode cX11_set 16 = .ok (.iload_n 2, 1) := by decide +kernel
theorem dX11_set_17 : decode cX11_set 17 = .ok (.iload_n 1, 1) := by decide +kernel
theorem dX11_set_18 : decode cX11_set 18 = .ok (.invokestatic 118, 3) := by decide +kernel
theorem dX11_set_21 : decode cX11_set 21 = .ok (.if_icmp .ge 10, 3) := by decide +kernel
theorem dX11_set_24 : decode cX11_set 24 = .ok (.aload_n 0, 1) := by decide +kernel
theorem dX11_set_25 : decode cX11_set 25 = .ok (.bipush (-4), 2) := by decide +kernel
theorem dX11_set_27 : decode cX11_set 27 = .ok (.invokevirtual 62, 3) := by decide +kernel
theorem dX11_set_30 : decode cX11_set 30 = .ok (.ireturn, 1) := by decide +kernel
theorem dX11_set_31 : decode cX11_set 31 = .ok (.iload_n 2, 1) := by decide +kernel
theorem dX11_set_32 : decode cX11_set 32 = .ok (.iload_n 1, 1) := by decide +kernel
theorem dX11_set_33 : decode cX11_set 33 = .ok (.invokestatic 121, 3) := by decide +kernel
theorem dX11_set_36 : decode cX11_set 36 = .ok (.if_icmp .le 10, 3) := by decide +kernel
theorem dX11_set_39 : decode cX11_set 39 = .ok (.aload_n 0, 1) := by decide +kernel
theorem dX11_set_40 : decode cX11_set 40 = .ok (.bipush (-6), 2) := by decide +kernel
theorem dX11_set_42 : decode cX11_set 42 = .ok (.invokevirtual 62, 3) := by decide +kernel
theorem dX11_set_45 : decode cX11_set 45 = .ok (.ireturn, 1) := by decide +kernel
theorem dX11_set_46 : decode cX11_set 46 = .ok (.aload_n 0, 1) := by decide +kernel
theorem dX11_set_47 : decode cX11_set 47 = .ok (.getfield 28, 3) := by decide +kernel
theorem dX11_set_50 : decode cX11_set 50 = .ok (.iload_n 1, 1) := by decide +kernel
theorem dX11_set_51 : decode cX11_set 51 = .ok (.iaload, 1) := by decide +kernel
theorem dX11_set_52 : decode cX11_set 52 = .ok (.istore_n 3, 1) := by decide +kernel
theorem dX11_set_53 : decode cX11_set 53 = .ok (.aload_n 0, 1) := by decide +kernel
theorem dX11_set_54 : decode cX11_set 54 = .ok (.getfield 28, 3) := by decide +kernel
theorem dX11_set_57 : decode cX11_set 57 = .ok (.iload_n 1, 1) := by decide +kernel
theorem dX11_set_58 : decode cX11_set 58 = .ok (.iload_n 2, 1) := by decide +kernel
theorem dX11_set_59 : decode cX11_set 59 = .ok (.iastore, 1) := by decide +kernel
theorem dX11_set_60 : decode cX11_set 60 = .ok (.iload_n 3, 1) := by decide +kernel
theorem dX11_set_61 : decode cX11_set 61 = .ok (.ireturn, 1) := by decide +kernel
theorem dX11_seconds_0 : decode cX11_seconds 0 = .ok (.aload_n 0, 1) := by decide +kernel
theorem dX11_seconds_1 : decode cX11_seconds 1 = .ok (.getfield 28, 3) := by decide +kernel
theorem dX11_seconds_4 : decode cX11_seconds 4 = .ok (.iconst 3, 1) := by decide +kernel
theorem dX11_seconds_5 : decode cX11_seconds 5 = .ok (.iaload, 1) := by decide +kernel
theorem dX11_seconds_6 : decode cX11_seconds 6 = .ok (.iconst 1, 1) := by decide +kernel
theorem dX11_seconds_7 : decode cX11_seconds 7 = .ok (.iconst 1, 1) := by decide +kernel
theorem dX11_seconds_8 : decode cX11_seconds 8 = .ok (.iload_n 1, 1) := by decide +kernel
theorem dX11_seconds_9 : decode cX11_seconds 9 = .ok (.aload_n 0, 1) := by decide +kernel
theorem dX11_seconds_10 : decode cX11_seconds 10 = .ok (.getfield 28, 3) := by decide +kernel
theorem dX11_seconds_13 : decode cX11_seconds 13 = .ok (.iconst 2, 1) := by decide +kernel
theorem dX11_seconds_14 : decode cX11_seconds 14 = .ok (.iaload, 1) := by decide +kernel
theorem dX11_seconds_15 : decode cX11_seconds 15 = .ok (.isub, 1) := by decide +kernel
theorem dX11_seconds_16 : decode cX11_seconds 16 = .ok (.invokestatic 124, 3) := by decide +kernel
theorem dX11_seconds_19 : decode cX11_seconds 19 = .ok (.iconst 4, 1) := by decide +kernel
theorem dX11_seconds_20 : decode cX11_seconds 20 = .ok (.idiv, 1) := by decide +kernel
theorem dX11_seconds_21 : decode cX11_seconds 21 = .ok (.iadd, 1) := by decide +kernel
theorem dX11_seconds_22 : decode cX11_seconds 22 = .ok (.aload_n 0, 1) := by decide +kernel
theorem dX11_seconds_23 : decode cX11_seconds 23 = .ok (.getfield 28, 3) := by decide +kernel
theorem dX11_seconds_26 : decode cX11_seconds 26 = .ok (.iconst 4, 1) := by decide +kernel
theorem dX11_seconds_27 : decode cX11_seconds 27 = .ok (.iaload, 1) := by decide +kernel
theorem dX11_seconds_28 : decode cX11_seconds 28 = .ok (.isub, 1) := by decide +kernel
theorem dX11_seconds_29 : decode cX11_seconds 29 = .ok (.invokestatic 129, 3) := by decide +kernel
theorem dX11_seconds_32 : decode cX11_seconds 32 = .ok (.imul, 1) := by decide +kernel
theorem dX11_seconds_33 : decode cX11_seconds 33 = .ok (.ireturn, 1) := by decide +kernel
theorem dX11_goes_0 : decode cX11_goes 0 = .ok (.iload_n 1, 1) := by decide +kernel
theorem dX11_goes_1 : decode cX11_goes 1 = .ok (.ifCond .ge 10, 3) := by decide +kernel
theorem dX11_goes_4 : decode cX11_goes 4 = .ok (.aload_n 0, 1) := by decide +kernel
theorem dX11_goes_5 : decode cX11_goes 5 = .ok (.bipush (-4), 2) := by decide +kernel
theorem dX11_goes_7 : decode cX11_goes 7 = .ok (.invokevirtual 62, 3) := by decide +kernel
theorem dX11_goes_10 : decode cX11_goes 10 = .ok (.ireturn, 1) := by decide +kernel
theorem dX11_goes_11 : decode cX11_goes 11 = .ok (.iload_n 1, 1) := by decide +kernel
theorem dX11_goes_12 : decode cX11_goes 12 = .ok (.bipush 99, 2) := by decide +kernel
theorem dX11_goes_14 : decode cX11_goes 14 = .ok (.if_icmp .le 12, 3) := by decide +kernel
theorem dX11_goes_17 : decode cX11_goes 17 = .ok (.aload_n 0, 1) := by decide +kernel
theorem dX11_goes_18 : decode cX11_goes 18 = .ok (.bipush (-6), 2) := by decide +kernel
theorem dX11_goes_20 : decode cX11_goes 20 = .ok (.invokevirtual 62, 3) := by decide +kernel
theorem dX11_goes_23 : decode cX11_goes 23 = .ok (.goto 8, 3) := by decide +kernel
theorem dX11_goes_26 : decode cX11_goes 26 = .ok (.aload_n 0, 1) := by decide +kernel
theorem dX11_goes_27 : decode cX11_goes 27 = .ok (.iload_n 1, 1) := by decide +kernel
theorem dX11_goes_28 : decode cX11_goes 28 = .ok (.invokevirtual 133, 3) := by decide +kernel
theorem dX11_goes_31 : decode cX11_goes 31 = .ok (.ireturn, 1) := by decide +kernel
theorem dX11_run_0 : decode cX11_run 0 = .ok (.aload_n 0, 1) := by decide +kernel
theorem dX11_run_1 : decode cX11_run 1 = .ok (.iconst 0, 1) := by decide +kernel
theorem dX11_run_2 : decode cX11_run 2 = .ok (.putfield 136, 3) := by decide +kernel
theorem dX11_run_5 : decode cX11_run 5 = .ok (.aload_n 0, 1) := by decide +kernel
theorem dX11_run_6 : decode cX11_run 6 = .ok (.aload_n 0, 1) := by decide +kernel
theorem dX11_run_7 : decode cX11_run 7 = .ok (.getfield 28, 3) := by decide +kernel
theorem dX11_run_10 : decode cX11_run 10 = .ok (.iconst 5, 1) := by decide +kernel
theorem dX11_run_11 : decode cX11_run 11 = .ok (.iaload, 1) := by decide +kernel
theorem dX11_run_12 : decode cX11_run 12 = .ok (.putfield 139, 3) := by decide +kernel
theorem dX11_run_15 : decode cX11_run 15 = .ok (.iconst 0, 1) := by decide +kernel
theorem dX11_run_16 : decode cX11_run 16 = .ok (.istore_n 2, 1) := by decide +kernel
theorem dX11_run_17 : decode cX11_run 17 = .ok (.iload_n 2, 1) := by decide +kernel
theorem dX11_run_18 : decode cX11_run 18 = .ok (.aload_n 0, 1) := by decide +kernel
theorem dX11_run_19 : decode cX11_run 19 = .ok (.getfield 66, 3) := by decide +kernel
theorem dX11_run_22 : decode cX11_run 22 = .ok (.if_icmp .ge 316, 3) := by decide +kernel
theorem dX11_run_25 : decode cX11_run 25 = .ok (.aload_n 0, 1) := by decide +kernel
theorem dX11_run_26 : decode cX11_run 26 = .ok (.getfield 25, 3) := by decide +kernel
theorem dX11_run_29 : decode cX11_run 29 = .ok (.iload_n 2, 1) := by decide +kernel
theorem dX11_run_30 : decode cX11_run 30 = .ok (.iaload, 1) := by decide +kernel
theorem dX11_run_31 : decode cX11_run 31 = .ok (.iload_n 1, 1) := by decide +kernel
theorem dX11_run_32 : decode cX11_run 32 = .ok (.if_icmp .ne 42, 3) := by decide +kernel
theorem dX11_run_35 : decode cX11_run 35 = .ok (.aload_n 0, 1) := by decide +kernel
theorem dX11_run_36 : decode cX11_run 36 = .ok (.getfield 52, 3) := by decide +kernel
theorem dX11_run_39 : decode cX11_run 39 = .ok (.aload_n 0, 1) := by decide +kernel
theorem dX11_run_40 : decode cX11_run 40 = .ok (.getfield 25, 3) := by decide +kernel
theorem dX11_run_43 : decode cX11_run 43 = .ok (.iload_n 2, 1) := by decide +kernel
theorem dX11_run_44 : decode cX11_run 44 = .ok (.iaload, 1) := by decide +kernel
theorem dX11_run_45 : decode cX11_run 45 = .ok (.aload_n 0, 1) := by decide +kernel
theorem dX11_run_46 : decode cX11_run 46 = .ok (.getfield 28, 3) := by decide +kernel
theorem dX11_run_49 : decode cX11_run 49 = .ok (.iconst 5, 1) := by decide +kernel
theorem dX11_run_50 : decode cX11_run 50 = .ok (.iaload, 1) := by decide +kernel
theorem dX11_run_51 : decode cX11_run 51 = .ok (.bipush 60, 2) := by decide +kernel
theorem dX11_run_53 : decode cX11_run 53 = .ok (.iadd, 1) := by decide +kernel
theorem dX11_run_54 : decode cX11_run 54 = .ok (.iastore, 1) := by decide +kernel
theorem dX11_run_55 : decode cX11_run 55 = .ok (.aload_n 0, 1) := by decide +kernel
theorem dX11_run_56 : decode cX11_run 56 = .ok (.getfield 55, 3) := by decide +kernel
theorem dX11_run_59 : decode cX11_run 59 = .ok (.aload_n 0, 1) := by decide +kernel
theorem dX11_run_60 : decode cX11_run 60 = .ok (.getfield 25, 3) := by decide +kernel
theorem dX11_run_63 : decode cX11_run 63 = .ok (.iload_n 2, 1) := by decide +kernel
theorem dX11_run_64 : decode cX11_run 64 = .ok (.iaload, 1) := by decide +kernel
theorem dX11_run_65 : decode cX11_run 65 = .ok (.bipush (-9), 2) := by decide +kernel
theorem dX11_run_67 : decode cX11_run 67 = .ok (.iastore, 1) := by decide +kernel
theorem dX11_run_68 : decode cX11_run 68 = .ok (.iinc 2 1, 3) := by decide +kernel
theorem dX11_run_71 : decode cX11_run 71 = .ok (.goto (-54), 3) := by decide +kernel
theorem dX11_run_74 : decode cX11_run 74 = .ok (.aload_n 0, 1) := by decide +kernel
theorem dX11_run_75 : decode cX11_run 75 = .ok (.getfield 28, 3) := by decide +kernel
theorem dX11_run_78 : decode cX11_run 78 = .ok (.iconst 1, 1) := by decide +kernel
theorem dX11_run_79 : decode cX11_run 79 = .ok (.iaload, 1) := by decide +kernel
theorem dX11_run_80 : decode cX11_run 80 = .ok (.istore_n 3, 1) := by decide +kernel
theorem dX11_run_81 : decode cX11_run 81 = .ok (.iconst 0, 1) := by decide +kernel
theorem dX11_run_82 : decode cX11_run 82 = .ok (.istore 4, 2) := by decide +kernel
theorem dX11_run_84 : decode cX11_run 84 = .ok (.iload_n 2, 1) := by decide +kernel
theorem dX11_run_85 : decode cX11_run 85 = .ok (.istore 5, 2) := by decide +kernel
theorem dX11_run_87 : decode cX11_run 87 = .ok (.iconst 0, 1) := by decide +kernel
theorem dX11_run_88 : decode cX11_run 88 = .ok (.istore 6, 2) := by decide +kernel
theorem dX11_run_90 : decode cX11_run 90 = .ok (.iload_n 2, 1) := by decide +kernel
theorem dX11_run_91 : decode cX11_run 91 = .ok (.aload_n 0, 1) := by decide +kernel
theorem dX11_run_92 : decode cX11_run 92 = .ok (.getfield 66, 3) := by decide +kernel
theorem dX11_run_95 : decode cX11_run 95 = .ok (.if_icmp .ge 160, 3) := by decide +kernel
theorem dX11_run_98 : decode cX11_run 98 = .ok (.iload 6, 2) := by decide +kernel
theorem dX11_run_100 : decode cX11_run 100 = .ok (.ifCond .ne 155, 3) := by decide +kernel
theorem dX11_run_103 : decode cX11_run 103 = .ok (.aload_n 0, 1) := by decide +kernel
theorem dX11_run_104 : decode cX11_run 104 = .ok (.getfield 25, 3) := by decide +kernel
theorem dX11_run_107 : decode cX11_run 107 = .ok (.iload_n 2, 1) := by decide +kernel
theorem dX11_run_108 : decode cX11_run 108 = .ok (.iaload, 1) := by decide +kernel
theorem dX11_run_109 : decode cX11_run 109 = .ok (.istore 7, 2) := by decide +kernel
theorem dX11_run_111 : decode cX11_run 111 = .ok (.iload 7, 2) := by decide +kernel
theorem dX11_run_113 : decode cX11_run 113 = .ok (.iload_n 1, 1) := by decide +kernel
theorem dX11_run_114 : decode cX11_run 114 = .ok (.if_icmp .ne 34, 3) := by decide +kernel
theorem dX11_run_117 : decode cX11_run 117 = .ok (.aload_n 0, 1) := by decide +kernel
theorem dX11_run_118 : decode cX11_run 118 = .ok (.getfield 52, 3) := by decide +kernel
theorem dX11_run_121 : decode cX11_run 121 = .ok (.iload 7, 2) := by decide +kernel
theorem dX11_run_123 : decode cX11_run 123 = .ok (.aload_n 0, 1) := by decide +kernel
theorem dX11_run_124 : decode cX11_run 124 = .ok (.getfield 28, 3) := by decide +kernel
theorem dX11_run_127 : decode cX11_run 127 = .ok (.iconst 5, 1) := by decide +kernel
theorem dX11_run_128 : decode cX11_run 128 = .ok (.iaload, 1) := by decide +kernel
theorem dX11_run_129 : decode cX11_run 129 = .ok (.bipush 60, 2) := by decide +kernel
theorem dX11_run_131 : decode cX11_run 131 = .ok (.iadd, 1) := by decide +kernel
theorem dX11_run_132 : decode cX11_run 132 = .ok (.iastore, 1) := by decide +kernel
theorem dX11_run_133 : decode cX11_run 133 = .ok (.aload_n 0, 1) := by decide +kernel
theorem dX11_run_134 : decode cX11_run 134 = .ok (.getfield 55, 3) := by decide +kernel
theorem dX11_run_137 : decode cX11_run 137 = .ok (.iload 7, 2) := by decide +kernel
theorem dX11_run_139 : decode cX11_run 139 = .ok (.bipush (-9), 2) := by decide +kernel
theorem dX11_run_141 : decode cX11_run 141 = .ok (.iastore, 1) := by decide +kernel
theorem dX11_run_142 : decode cX11_run 142 = .ok (.iinc 2 1, 3) := by decide +kernel
theorem dX11_run_145 : decode cX11_run 145 = .ok (.goto (-55), 3) := by decide +kernel
theorem dX11_run_148 : decode cX11_run 148 = .ok (.iload 4, 2) := by decide +kernel
theorem dX11_run_150 : decode cX11_run 150 = .ok (.ifCond .le 37, 3) := by decide +kernel
theorem dX11_run_153 : decode cX11_run 153 = .ok (.iload 4, 2) := by decide +kernel
theorem dX11_run_155 : decode cX11_run 155 = .ok (.aload_n 0, 1) := by decide +kernel
theorem dX11_run_156 : decode cX11_run 156 = .ok (.getfield 19, 3) := by decide +kernel
theorem dX11_run_159 : decode cX11_run 159 = .ok (.iload 7, 2) := by decide +kernel
theorem dX11_run_161 : decode cX11_run 161 = .ok (.iaload, 1) := by decide +kernel
theorem dX11_run_162 : decode cX11_run 162 = .ok (.iadd, 1) := by decide +kernel
theorem dX11_run_163 : decode cX11_run 163 = .ok (.aload_n 0, 1) := by decide +kernel
theorem dX11_run_164 : decode cX11_run 164 = .ok (.getfield 28, 3) := by decide +kernel
theorem dX11_run_167 : decode cX11_run 167 = .ok (.iconst 0, 1) := by decide +kernel
theorem dX11_run_168 : decode cX11_run 168 = .ok (.iaload, 1) := by decide +kernel
theorem dX11_run_169 : decode cX11_run 169 = .ok (.if_icmp .gt 14, 3) := by decide +kernel
theorem dX11_run_172 : decode cX11_run 172 = .ok (.aload_n 0, 1) := by decide +kernel
theorem dX11_run_173 : decode cX11_run 173 = .ok (.getfield 7, 3) := by decide +kernel
theorem dX11_run_176 : decode cX11_run 176 = .ok (.iload 7, 2) := by decide +kernel
theorem dX11_run_178 : decode cX11_run 178 = .ok (.iaload, 1) := by decide +kernel
theorem dX11_run_179 : decode cX11_run 179 = .ok (.iconst 5, 1) := by decide +kernel
theorem dX11_run_180 : decode cX11_run 180 = .ok (.if_icmp .ne 7, 3) := by decide +kernel
theorem dX11_run_183 : decode cX11_run 183 = .ok (.iconst 1, 1) := by decide +kernel
theorem dX11_run_184 : decode cX11_run 184 = .ok (.goto 4, 3) := by decide +kernel
theorem dX11_run_187 : decode cX11_run 187 = .ok (.iconst 0, 1) := by decide +kernel
theorem dX11_run_188 : decode cX11_run 188 = .ok (.istore 6, 2) := by decide +kernel
theorem dX11_run_190 : decode cX11_run 190 = .ok (.iload 6, 2) := by decide +kernel
theorem dX11_run_192 : decode cX11_run 192 = .ok (.ifCond .eq 6, 3) := by decide +kernel
theorem dX11_run_195 : decode cX11_run 195 = .ok (.goto (-105), 3) := by decide +kernel
theorem dX11_run_198 : decode cX11_run 198 = .ok (.iload 4, 2) := by decide +kernel
theorem dX11_run_200 : decode cX11_run 200 = .ok (.aload_n 0, 1) := by decide +kernel
theorem dX11_run_201 : decode cX11_run 201 = .ok (.getfield 19, 3) := by decide +kernel
theorem dX11_run_204 : decode cX11_run 204 = .ok (.iload 7, 2) := by decide +kernel
theorem dX11_run_206 : decode cX11_run 206 = .ok (.iaload, 1) := by decide +kernel
theorem dX11_run_207 : decode cX11_run 207 = .ok (.iadd, 1) := by decide +kernel
theorem dX11_run_208 : decode cX11_run 208 = .ok (.istore 4, 2) := by decide +kernel
theorem dX11_run_210 : decode cX11_run 210 = .ok (.iload_n 3, 1) := by decide +kernel
theorem dX11_run_211 : decode cX11_run 211 = .ok (.aload_n 0, 1) := by decide +kernel
theorem dX11_run_212 : decode cX11_run 212 = .ok (.getfield 13, 3) := by decide +kernel
theorem dX11_run_215 : decode cX11_run 215 = .ok (.iload 7, 2) := by decide +kernel
theorem dX11_run_217 : decode cX11_run 217 = .ok (.iaload, 1) := by decide +kernel
theorem dX11_run_218 : decode cX11_run 218 = .ok (.iadd, 1) := by decide +kernel
theorem dX11_run_219 : decode cX11_run 219 = .ok (.istore_n 3, 1) := by decide +kernel
theorem dX11_run_220 : decode cX11_run 220 = .ok (.aload_n 0, 1) := by decide +kernel
theorem dX11_run_221 : decode cX11_run 221 = .ok (.getfield 55, 3) := by decide +kernel
theorem dX11_run_224 : decode cX11_run 224 = .ok (.iload 7, 2) := by decide +kernel
theorem dX11_run_226 : decode cX11_run 226 = .ok (.aload_n 0, 1) := by decide +kernel
theorem dX11_run_227 : decode cX11_run 227 = .ok (.getfield 136, 3) := by decide +kernel
theorem dX11_run_230 : decode cX11_run 230 = .ok (.iastore, 1) := by decide +kernel
theorem dX11_run_231 : decode cX11_run 231 = .ok (.aload_n 0, 1) := by decide +kernel
theorem dX11_run_232 : decode cX11_run 232 = .ok (.getfield 7, 3) := by decide +kernel
theorem dX11_run_235 : decode cX11_run 235 = .ok (.iload 7, 2) := by decide +kernel
theorem dX11_run_237 : decode cX11_run 237 = .ok (.iaload, 1) := by decide +kernel
theorem dX11_run_238 : decode cX11_run 238 = .ok (.iconst 5, 1) := by decide +kernel
theorem dX11_run_239 : decode cX11_run 239 = .ok (.if_icmp .ne 7, 3) := by decide +kernel
theorem dX11_run_242 : decode cX11_run 242 = .ok (.iconst 1, 1) := by decide +kernel
theorem dX11_run_243 : decode cX11_run 243 = .ok (.goto 4, 3) := by decide +kernel
theorem dX11_run_246 : decode cX11_run 246 = .ok (.iconst 0, 1) := by decide +kernel
theorem dX11_run_247 : decode cX11_run 247 = .ok (.istore 6, 2) := by decide +kernel
theorem dX11_run_249 : decode cX11_run 249 = .ok (.iinc 2 1, 3) := by decide +kernel
theorem dX11_run_252 : decode cX11_run 252 = .ok (.goto (-162), 3) := by decide +kernel
theorem dX11_run_255 : decode cX11_run 255 = .ok (.aload_n 0, 1) := by decide +kernel
theorem dX11_run_256 : decode cX11_run 256 = .ok (.getfield 139, 3) := by decide +kernel
theorem dX11_run_259 : decode cX11_run 259 = .ok (.aload_n 0, 1) := by decide +kernel
theorem dX11_run_260 : decode cX11_run 260 = .ok (.iload_n 3, 1) := by decide +kernel
theorem dX11_run_261 : decode cX11_run 261 = .ok (.invokevirtual 133, 3) := by decide +kernel
theorem dX11_run_264 : decode cX11_run 264 = .ok (.iadd, 1) := by decide +kernel
theorem dX11_run_265 : decode cX11_run 265 = .ok (.istore 7, 2) := by decide +kernel
theorem dX11_run_267 : decode cX11_run 267 = .ok (.iload 5, 2) := by decide +kernel
theorem dX11_run_269 : decode cX11_run 269 = .ok (.istore 8, 2) := by decide +kernel
theorem dX11_run_271 : decode cX11_run 271 = .ok (.iload 8, 2) := by decide +kernel
theorem dX11_run_273 : decode cX11_run 273 = .ok (.iload_n 2, 1) := by decide +kernel
theorem dX11_run_274 : decode cX11_run 274 = .ok (.if_icmp .ge 34, 3) := by decide +kernel
theorem dX11_run_277 : decode cX11_run 277 = .ok (.aload_n 0, 1) := by decide +kernel
theorem dX11_run_278 : decode cX11_run 278 = .ok (.getfield 25, 3) := by decide +kernel
theorem dX11_run_281 : decode cX11_run 281 = .ok (.iload 8, 2) := by decide +kernel
theorem dX11_run_283 : decode cX11_run 283 = .ok (.iaload, 1) := by decide +kernel
theorem dX11_run_284 : decode cX11_run 284 = .ok (.iload_n 1, 1) := by decide +kernel
theorem dX11_run_285 : decode cX11_run 285 = .ok (.if_icmp .eq 17, 3) := by decide +kernel
theorem dX11_run_288 : decode cX11_run 288 = .ok (.aload_n 0, 1) := by decide +kernel
theorem dX11_run_289 : decode cX11_run 289 = .ok (.getfield 52, 3) := by decide +kernel
theorem dX11_run_292 : decode cX11_run 292 = .ok (.aload_n 0, 1) := by decide +kernel
theorem dX11_run_293 : decode cX11_run 293 = .ok (.getfield 25, 3) := by decide +kernel
theorem dX11_run_296 : decode cX11_run 296 = .ok (.iload 8, 2) := by decide +kernel
theorem dX11_run_298 : decode cX11_run 298 = .ok (.iaload, 1) := by decide +kernel
theorem dX11_run_299 : decode cX11_run 299 = .ok (.iload 7, 2) := by decide +kernel
theorem dX11_run_301 : decode cX11_run 301 = .ok (.iastore, 1) := by decide +kernel
theorem dX11_run_302 : decode cX11_run 302 = .ok (.iinc 8 1, 3) := by decide +kernel
theorem dX11_run_305 : decode cX11_run 305 = .ok (.goto (-34), 3) := by decide +kernel
theorem dX11_run_308 : decode cX11_run 308 = .ok (.aload_n 0, 1) := by decide +kernel
theorem dX11_run_309 : decode cX11_run 309 = .ok (.iload 7, 2) := by decide +kernel
theorem dX11_run_311 : decode cX11_run 311 = .ok (.aload_n 0, 1) := by decide +kernel
theorem dX11_run_312 : decode cX11_run 312 = .ok (.aload_n 0, 1) := by decide +kernel
theorem dX11_run_313 : decode cX11_run 313 = .ok (.getfield 28, 3) := by decide +kernel
theorem dX11_run_316 : decode cX11_run 316 = .ok (.iconst 1, 1) := by decide +kernel
theorem dX11_run_317 : decode cX11_run 317 = .ok (.iaload, 1) := by decide +kernel
theorem dX11_run_318 : decode cX11_run 318 = .ok (.invokevirtual 133, 3) := by decide +kernel
theorem dX11_run_321 : decode cX11_run 321 = .ok (.iadd, 1) := by decide +kernel
theorem dX11_run_322 : decode cX11_run 322 = .ok (.putfield 139, 3) := by decide +kernel
theorem dX11_run_325 : decode cX11_run 325 = .ok (.aload_n 0, 1) := by decide +kernel
theorem dX11_run_326 : decode cX11_run 326 = .ok (.dup, 1) := by decide +kernel
theorem dX11_run_327 : decode cX11_run 327 = .ok (.getfield 136, 3) := by decide +kernel
theorem dX11_run_330 : decode cX11_run 330 = .ok (.iconst 1, 1) := by decide +kernel
theorem dX11_run_331 : decode cX11_run 331 = .ok (.iadd, 1) := by decide +kernel
theorem dX11_run_332 : decode cX11_run 332 = .ok (.putfield 136, 3) := by decide +kernel
theorem dX11_run_335 : decode cX11_run 335 = .ok (.goto (-318), 3) := by decide +kernel
theorem dX11_run_338 : decode cX11_run 338 = .ok (.return_, 1) := by decide +kernel
theorem dX11_begin_0 : decode cX11_begin 0 = .ok (.bipush 100, 2) := by decide +kernel
theorem dX11_begin_2 : decode cX11_begin 2 = .ok (.iload_n 1, 1) := by decide +kernel
theorem dX11_begin_3 : decode cX11_begin 3 = .ok (.imul, 1) := by decide +kernel
theorem dX11_begin_4 : decode cX11_begin 4 = .ok (.aload_n 0, 1) := by decide +kernel
theorem dX11_begin_5 : decode cX11_begin 5 = .ok (.getfield 31, 3) := by decide +kernel
theorem dX11_begin_8 : decode cX11_begin 8 = .ok (.iload_n 1, 1) := by decide +kernel
theorem dX11_begin_9 : decode cX11_begin 9 = .ok (.iaload, 1) := by decide +kernel
theorem dX11_begin_10 : decode cX11_begin 10 = .ok (.iadd, 1) := by decide +kernel
theorem dX11_begin_11 : decode cX11_begin 11 = .ok (.ireturn, 1) := by decide +kernel
theorem dX11_servedOf_0 : decode cX11_servedOf 0 = .ok (.aload_n 0, 1) := by decide +kernel
theorem dX11_servedOf_1 : decode cX11_servedOf 1 = .ok (.getfield 52, 3) := by decide +kernel
theorem dX11_servedOf_4 : decode cX11_servedOf 4 = .ok (.iload_n 1, 1) := by decide +kernel
theorem dX11_servedOf_5 : decode cX11_servedOf 5 = .ok (.iaload, 1) := by decide +kernel
theorem dX11_servedOf_6 : decode cX11_servedOf 6 = .ok (.aload_n 0, 1) := by decide +kernel
theorem dX11_servedOf_7 : decode cX11_servedOf 7 = .ok (.aload_n 0, 1) := by decide +kernel
theorem dX11_servedOf_8 : decode cX11_servedOf 8 = .ok (.getfield 22, 3) := by decide +kernel
theorem dX11_servedOf_11 : decode cX11_servedOf 11 = .ok (.iload_n 1, 1) := by decide +kernel
theorem dX11_servedOf_12 : decode cX11_servedOf 12 = .ok (.iaload, 1) := by decide +kernel
theorem dX11_servedOf_13 : decode cX11_servedOf 13 = .ok (.invokevirtual 142, 3) := by decide +kernel
theorem dX11_servedOf_16 : decode cX11_servedOf 16 = .ok (.invokestatic 129, 3) := by decide +kernel
theorem dX11_servedOf_19 : decode cX11_servedOf 19 = .ok (.ireturn, 1) := by decide +kernel
theorem dX11_cools_0 : decode cX11_cools 0 = .ok (.aload_n 0, 1) := by decide +kernel
theorem dX11_cools_1 : decode cX11_cools 1 = .ok (.getfield 7, 3) := by decide +kernel
theorem dX11_cools_4 : decode cX11_cools 4 = .ok (.iload_n 1, 1) := by decide +kernel
theorem dX11_cools_5 : decode cX11_cools 5 = .ok (.iaload, 1) := by decide +kernel
theorem dX11_cools_6 : decode cX11_cools 6 = .ok (.tableswitch 46 2 5 #[30, 37, 30, 39], 30) := by decide +kernel
theorem dX11_cools_36 : decode cX11_cools 36 = .ok (.iload_n 2, 1) := by decide +kernel
theorem dX11_cools_37 : decode cX11_cools 37 = .ok (.bipush 10, 2) := by decide +kernel
theorem dX11_cools_39 : decode cX11_cools 39 = .ok (.idiv, 1) := by decide +kernel
theorem dX11_cools_40 : decode cX11_cools 40 = .ok (.iconst 2, 1) := by decide +kernel
theorem dX11_cools_41 : decode cX11_cools 41 = .ok (.idiv, 1) := by decide +kernel
theorem dX11_cools_42 : decode cX11_cools 42 = .ok (.ireturn, 1) := by decide +kernel
theorem dX11_cools_43 : decode cX11_cools 43 = .ok (.iconst 0, 1) := by decide +kernel
theorem dX11_cools_44 : decode cX11_cools 44 = .ok (.ireturn, 1) := by decide +kernel
theorem dX11_cools_45 : decode cX11_cools 45 = .ok (.iload_n 2, 1) := by decide +kernel
theorem dX11_cools_46 : decode cX11_cools 46 = .ok (.bipush 10, 2) := by decide +kernel
theorem dX11_cools_48 : decode cX11_cools 48 = .ok (.idiv, 1) := by decide +kernel
theorem dX11_cools_49 : decode cX11_cools 49 = .ok (.iconst 1, 1) := by decide +kernel
theorem dX11_cools_50 : decode cX11_cools 50 = .ok (.iadd, 1) := by decide +kernel
theorem dX11_cools_51 : decode cX11_cools 51 = .ok (.ireturn, 1) := by decide +kernel
theorem dX11_cools_52 : decode cX11_cools 52 = .ok (.iload_n 2, 1) := by decide +kernel
theorem dX11_cools_53 : decode cX11_cools 53 = .ok (.bipush 10, 2) := by decide +kernel
theorem dX11_cools_55 : decode cX11_cools 55 = .ok (.idiv, 1) := by decide +kernel
theorem dX11_cools_56 : decode cX11_cools 56 = .ok (.ireturn, 1) := by decide +kernel
theorem dX11_slops_0 : decode cX11_slops 0 = .ok (.aload_n 0, 1) := by decide +kernel
theorem dX11_slops_1 : decode cX11_slops 1 = .ok (.getfield 7, 3) := by decide +kernel
theorem dX11_slops_4 : decode cX11_slops 4 = .ok (.iload_n 1, 1) := by decide +kernel
theorem dX11_slops_5 : decode cX11_slops 5 = .ok (.iaload, 1) := by decide +kernel
theorem dX11_slops_6 : decode cX11_slops 6 = .ok (.lookupswitch 46 #[(1, 26), (4, 35)], 26) := by decide +kernel
theorem dX11_slops_32 : decode cX11_slops 32 = .ok (.iconst 4, 1) := by decide +kernel
theorem dX11_slops_33 : decode cX11_slops 33 = .ok (.aload_n 0, 1) := by decide +kernel
theorem dX11_slops_34 : decode cX11_slops 34 = .ok (.getfield 28, 3) := by decide +kernel
theorem dX11_slops_37 : decode cX11_slops 37 = .ok (.iconst 4, 1) := by decide +kernel
theorem dX11_slops_38 : decode cX11_slops 38 = .ok (.iaload, 1) := by decide +kernel
theorem dX11_slops_39 : decode cX11_slops 39 = .ok (.imul, 1) := by decide +kernel
theorem dX11_slops_40 : decode cX11_slops 40 = .ok (.ireturn, 1) := by decide +kernel
theorem dX11_slops_41 : decode cX11_slops 41 = .ok (.iconst 4, 1) := by decide +kernel
theorem dX11_slops_42 : decode cX11_slops 42 = .ok (.aload_n 0, 1) := by decide +kernel
theorem dX11_slops_43 : decode cX11_slops 43 = .ok (.getfield 28, 3) := by decide +kernel
theorem dX11_slops_46 : decode cX11_slops 46 = .ok (.iconst 4, 1) := by decide +kernel
theorem dX11_slops_47 : decode cX11_slops 47 = .ok (.iaload, 1) := by decide +kernel
theorem dX11_slops_48 : decode cX11_slops 48 = .ok (.imul, 1) := by decide +kernel
theorem dX11_slops_49 : decode cX11_slops 49 = .ok (.iconst 1, 1) := by decide +kernel
theorem dX11_slops_50 : decode cX11_slops 50 = .ok (.iadd, 1) := by decide +kernel
theorem dX11_slops_51 : decode cX11_slops 51 = .ok (.ireturn, 1) := by decide +kernel
theorem dX11_slops_52 : decode cX11_slops 52 = .ok (.iconst 0, 1) := by decide +kernel
theorem dX11_slops_53 : decode cX11_slops 53 = .ok (.ireturn, 1) := by decide +kernel
theorem dX11_warmOf_0 : decode cX11_warmOf 0 = .ok (.iconst 0, 1) := by decide +kernel
theorem dX11_warmOf_1 : decode cX11_warmOf 1 = .ok (.aload_n 0, 1) := by decide +kernel
theorem dX11_warmOf_2 : decode cX11_warmOf 2 = .ok (.getfield 16, 3) := by decide +kernel
theorem dX11_warmOf_5 : decode cX11_warmOf 5 = .ok (.iload_n 1, 1) := by decide +kernel
theorem dX11_warmOf_6 : decode cX11_warmOf 6 = .ok (.iaload, 1) := by decide +kernel
theorem dX11_warmOf_7 : decode cX11_warmOf 7 = .ok (.aload_n 0, 1) := by decide +kernel
theorem dX11_warmOf_8 : decode cX11_warmOf 8 = .ok (.iload_n 1, 1) := by decide +kernel
theorem dX11_warmOf_9 : decode cX11_warmOf 9 = .ok (.aload_n 0, 1) := by decide +kernel
theorem dX11_warmOf_10 : decode cX11_warmOf 10 = .ok (.iload_n 1, 1) := by decide +kernel
theorem dX11_warmOf_11 : decode cX11_warmOf 11 = .ok (.invokevirtual 145, 3) := by decide +kernel
theorem dX11_warmOf_14 : decode cX11_warmOf 14 = .ok (.invokevirtual 148, 3) := by decide +kernel
theorem dX11_warmOf_17 : decode cX11_warmOf 17 = .ok (.isub, 1) := by decide +kernel
theorem dX11_warmOf_18 : decode cX11_warmOf 18 = .ok (.invokestatic 129, 3) := by decide +kernel
theorem dX11_warmOf_21 : decode cX11_warmOf 21 = .ok (.ireturn, 1) := by decide +kernel
theorem dX11_lateOf_0 : decode cX11_lateOf 0 = .ok (.iconst 0, 1) := by decide +kernel
theorem dX11_lateOf_1 : decode cX11_lateOf 1 = .ok (.aload_n 0, 1) := by decide +kernel
theorem dX11_lateOf_2 : decode cX11_lateOf 2 = .ok (.getfield 52, 3) := by decide +kernel
theorem dX11_lateOf_5 : decode cX11_lateOf 5 = .ok (.iload_n 1, 1) := by decide +kernel
theorem dX11_lateOf_6 : decode cX11_lateOf 6 = .ok (.iaload, 1) := by decide +kernel
theorem dX11_lateOf_7 : decode cX11_lateOf 7 = .ok (.aload_n 0, 1) := by decide +kernel
theorem dX11_lateOf_8 : decode cX11_lateOf 8 = .ok (.aload_n 0, 1) := by decide +kernel
theorem dX11_lateOf_9 : decode cX11_lateOf 9 = .ok (.getfield 22, 3) := by decide +kernel
theorem dX11_lateOf_12 : decode cX11_lateOf 12 = .ok (.iload_n 1, 1) := by decide +kernel
theorem dX11_lateOf_13 : decode cX11_lateOf 13 = .ok (.iaload, 1) := by decide +kernel
theorem dX11_lateOf_14 : decode cX11_lateOf 14 = .ok (.invokevirtual 142, 3) := by decide +kernel
theorem dX11_lateOf_17 : decode cX11_lateOf 17 = .ok (.isub, 1) := by decide +kernel
theorem dX11_lateOf_18 : decode cX11_lateOf 18 = .ok (.invokestatic 129, 3) := by decide +kernel
theorem dX11_lateOf_21 : decode cX11_lateOf 21 = .ok (.ireturn, 1) := by decide +kernel
theorem dX11_stoodOf_0 : decode cX11_stoodOf 0 = .ok (.aload_n 0, 1) := by decide +kernel
theorem dX11_stoodOf_1 : decode cX11_stoodOf 1 = .ok (.iload_n 1, 1) := by decide +kernel
theorem dX11_stoodOf_2 : decode cX11_stoodOf 2 = .ok (.invokevirtual 145, 3) := by decide +kernel
theorem dX11_stoodOf_5 : decode cX11_stoodOf 5 = .ok (.aload_n 0, 1) := by decide +kernel
theorem dX11_stoodOf_6 : decode cX11_stoodOf 6 = .ok (.getfield 52, 3) := by decide +kernel
theorem dX11_stoodOf_9 : decode cX11_stoodOf 9 = .ok (.iload_n 1, 1) := by decide +kernel
theorem dX11_stoodOf_10 : decode cX11_stoodOf 10 = .ok (.iaload, 1) := by decide +kernel
theorem dX11_stoodOf_11 : decode cX11_stoodOf 11 = .ok (.isub, 1) := by decide +kernel
theorem dX11_stoodOf_12 : decode cX11_stoodOf 12 = .ok (.ireturn, 1) := by decide +kernel
theorem dX11_totalOf_0 : decode cX11_totalOf 0 = .ok (.iconst 0, 1) := by decide +kernel
theorem dX11_totalOf_1 : decode cX11_totalOf 1 = .ok (.istore_n 2, 1) := by decide +kernel
theorem dX11_totalOf_2 : decode cX11_totalOf 2 = .ok (.iconst 0, 1) := by decide +kernel
theorem dX11_totalOf_3 : decode cX11_totalOf 3 = .ok (.istore_n 3, 1) := by decide +kernel
theorem dX11_totalOf_4 : decode cX11_totalOf 4 = .ok (.iload_n 3, 1) := by decide +kernel
theorem dX11_totalOf_5 : decode cX11_totalOf 5 = .ok (.aload_n 0, 1) := by decide +kernel
theorem dX11_totalOf_6 : decode cX11_totalOf 6 = .ok (.getfield 66, 3) := by decide +kernel
theorem dX11_totalOf_9 : decode cX11_totalOf 9 = .ok (.if_icmp .ge 139, 3) := by decide +kernel
theorem dX11_totalOf_12 : decode cX11_totalOf 12 = .ok (.iload_n 1, 1) := by decide +kernel
theorem dX11_totalOf_13 : decode cX11_totalOf 13 = .ok (.tableswitch 129 0 7 #[47, 58, 71, 82, 93, 129, 129, 104], 47) := by decide +kernel
theorem dX11_totalOf_60 : decode cX11_totalOf 60 = .ok (.iload_n 2, 1) := by decide +kernel
theorem dX11_totalOf_61 : decode cX11_totalOf 61 = .ok (.aload_n 0, 1) := by decide +kernel
theorem dX11_totalOf_62 : decode cX11_totalOf 62 = .ok (.iload_n 3, 1) := by decide +kernel
theorem dX11_totalOf_63 : decode cX11_totalOf 63 = .ok (.invokevirtual 151, 3) := by decide +kernel
theorem dX11_totalOf_66 : decode cX11_totalOf 66 = .ok (.iadd, 1) := by decide +kernel
theorem dX11_totalOf_67 : decode cX11_totalOf 67 = .ok (.istore_n 2, 1) := by decide +kernel
theorem dX11_totalOf_68 : decode cX11_totalOf 68 = .ok (.goto 74, 3) := by decide +kernel
theorem dX11_totalOf_71 : decode cX11_totalOf 71 = .ok (.iload_n 2, 1) := by decide +kernel
theorem dX11_totalOf_72 : decode cX11_totalOf 72 = .ok (.aload_n 0, 1) := by decide +kernel
theorem dX11_totalOf_73 : decode cX11_totalOf 73 = .ok (.iload_n 3, 1) := by decide +kernel
theorem dX11_totalOf_74 : decode cX11_totalOf 74 = .ok (.invokevirtual 151, 3) := by decide +kernel
theorem dX11_totalOf_77 : decode cX11_totalOf 77 = .ok (.invokestatic 129, 3) := by decide +kernel
theorem dX11_totalOf_80 : decode cX11_totalOf 80 = .ok (.istore_n 2, 1) := by decide +kernel
theorem dX11_totalOf_81 : decode cX11_totalOf 81 = .ok (.goto 61, 3) := by decide +kernel
theorem dX11_totalOf_84 : decode cX11_totalOf 84 = .ok (.iload_n 2, 1) := by decide +kernel
theorem dX11_totalOf_85 : decode cX11_totalOf 85 = .ok (.aload_n 0, 1) := by decide +kernel
theorem dX11_totalOf_86 : decode cX11_totalOf 86 = .ok (.iload_n 3, 1) := by decide +kernel
theorem dX11_totalOf_87 : decode cX11_totalOf 87 = .ok (.invokevirtual 154, 3) := by decide +kernel
theorem dX11_totalOf_90 : decode cX11_totalOf 90 = .ok (.iadd, 1) := by decide +kernel
theorem dX11_totalOf_91 : decode cX11_totalOf 91 = .ok (.istore_n 2, 1) := by decide +kernel
theorem dX11_totalOf_92 : decode cX11_totalOf 92 = .ok (.goto 50, 3) := by decide +kernel
theorem dX11_totalOf_95 : decode cX11_totalOf 95 = .ok (.iload_n 2, 1) := by decide +kernel
theorem dX11_totalOf_96 : decode cX11_totalOf 96 = .ok (.aload_n 0, 1) := by decide +kernel
theorem dX11_totalOf_97 : decode cX11_totalOf 97 = .ok (.iload_n 3, 1) := by decide +kernel
theorem dX11_totalOf_98 : decode cX11_totalOf 98 = .ok (.invokevirtual 157, 3) := by decide +kernel
theorem dX11_totalOf_101 : decode cX11_totalOf 101 = .ok (.iadd, 1) := by decide +kernel
theorem dX11_totalOf_102 : decode cX11_totalOf 102 = .ok (.istore_n 2, 1) := by decide +kernel
theorem dX11_totalOf_103 : decode cX11_totalOf 103 = .ok (.goto 39, 3) := by decide +kernel
theorem dX11_totalOf_106 : decode cX11_totalOf 106 = .ok (.iload_n 2, 1) := by decide +kernel
theorem dX11_totalOf_107 : decode cX11_totalOf 107 = .ok (.aload_n 0, 1) := by decide +kernel
theorem dX11_totalOf_108 : decode cX11_totalOf 108 = .ok (.iload_n 3, 1) := by decide +kernel
theorem dX11_totalOf_109 : decode cX11_totalOf 109 = .ok (.invokevirtual 160, 3) := by decide +kernel
theorem dX11_totalOf_112 : decode cX11_totalOf 112 = .ok (.iadd, 1) := by decide +kernel
theorem dX11_totalOf_113 : decode cX11_totalOf 113 = .ok (.istore_n 2, 1) := by decide +kernel
theorem dX11_totalOf_114 : decode cX11_totalOf 114 = .ok (.goto 28, 3) := by decide +kernel
theorem dX11_totalOf_117 : decode cX11_totalOf 117 = .ok (.iload_n 2, 1) := by decide +kernel
theorem dX11_totalOf_118 : decode cX11_totalOf 118 = .ok (.aload_n 0, 1) := by decide +kernel
theorem dX11_totalOf_119 : decode cX11_totalOf 119 = .ok (.iload_n 3, 1) := by decide +kernel
theorem dX11_totalOf_120 : decode cX11_totalOf 120 = .ok (.invokevirtual 154, 3) := by decide +kernel
theorem dX11_totalOf_123 : decode cX11_totalOf 123 = .ok (.aload_n 0, 1) := by decide +kernel
theorem dX11_totalOf_124 : decode cX11_totalOf 124 = .ok (.iload_n 3, 1) := by decide +kernel
theorem dX11_totalOf_125 : decode cX11_totalOf 125 = .ok (.invokevirtual 151, 3) := by decide +kernel
theorem dX11_totalOf_128 : decode cX11_totalOf 128 = .ok (.isub, 1) := by decide +kernel
theorem dX11_totalOf_129 : decode cX11_totalOf 129 = .ok (.iconst 5, 1) := by decide +kernel
theorem dX11_totalOf_130 : decode cX11_totalOf 130 = .ok (.aload_n 0, 1) := by decide +kernel
theorem dX11_totalOf_131 : decode cX11_totalOf 131 = .ok (.iload_n 3, 1) := by decide +kernel
theorem dX11_totalOf_132 : decode cX11_totalOf 132 = .ok (.invokevirtual 157, 3) := by decide +kernel
theorem dX11_totalOf_135 : decode cX11_totalOf 135 = .ok (.imul, 1) := by decide +kernel
theorem dX11_totalOf_136 : decode cX11_totalOf 136 = .ok (.isub, 1) := by decide +kernel
theorem dX11_totalOf_137 : decode cX11_totalOf 137 = .ok (.iadd, 1) := by decide +kernel
theorem dX11_totalOf_138 : decode cX11_totalOf 138 = .ok (.istore_n 2, 1) := by decide +kernel
theorem dX11_totalOf_139 : decode cX11_totalOf 139 = .ok (.goto 3, 3) := by decide +kernel
theorem dX11_totalOf_142 : decode cX11_totalOf 142 = .ok (.iinc 3 1, 3) := by decide +kernel
theorem dX11_totalOf_145 : decode cX11_totalOf 145 = .ok (.goto (-141), 3) := by decide +kernel
theorem dX11_totalOf_148 : decode cX11_totalOf 148 = .ok (.iload_n 1, 1) := by decide +kernel
theorem dX11_totalOf_149 : decode cX11_totalOf 149 = .ok (.iconst 5, 1) := by decide +kernel
theorem dX11_totalOf_150 : decode cX11_totalOf 150 = .ok (.if_icmp .ne 10, 3) := by decide +kernel
theorem dX11_totalOf_153 : decode cX11_totalOf 153 = .ok (.aload_n 0, 1) := by decide +kernel
theorem dX11_totalOf_154 : decode cX11_totalOf 154 = .ok (.getfield 139, 3) := by decide +kernel
theorem dX11_totalOf_157 : decode cX11_totalOf 157 = .ok (.goto 17, 3) := by decide +kernel
theorem dX11_totalOf_160 : decode cX11_totalOf 160 = .ok (.iload_n 1, 1) := by decide +kernel
theorem dX11_totalOf_161 : decode cX11_totalOf 161 = .ok (.bipush 6, 2) := by decide +kernel
theorem dX11_totalOf_163 : decode cX11_totalOf 163 = .ok (.if_icmp .ne 10, 3) := by decide +kernel
theorem dX11_totalOf_166 : decode cX11_totalOf 166 = .ok (.aload_n 0, 1) := by decide +kernel
theorem dX11_totalOf_167 : decode cX11_totalOf 167 = .ok (.getfield 136, 3) := by decide +kernel
theorem dX11_totalOf_170 : decode cX11_totalOf 170 = .ok (.goto 4, 3) := by decide +kernel
theorem dX11_totalOf_173 : decode cX11_totalOf 173 = .ok (.iload_n 2, 1) := by decide +kernel
theorem dX11_totalOf_174 : decode cX11_totalOf 174 = .ok (.ireturn, 1) := by decide +kernel
theorem dX11_worth_0 : decode cX11_worth 0 = .ok (.aload_n 0, 1) := by decide +kernel
theorem dX11_worth_1 : decode cX11_worth 1 = .ok (.bipush (-9), 2) := by decide +kernel
theorem dX11_worth_3 : decode cX11_worth 3 = .ok (.invokevirtual 163, 3) := by decide +kernel
theorem dX11_worth_6 : decode cX11_worth 6 = .ok (.aload_n 0, 1) := by decide +kernel
theorem dX11_worth_7 : decode cX11_worth 7 = .ok (.bipush 7, 2) := by decide +kernel
theorem dX11_worth_9 : decode cX11_worth 9 = .ok (.invokevirtual 167, 3) := by decide +kernel
theorem dX11_worth_12 : decode cX11_worth 12 = .ok (.ireturn, 1) := by decide +kernel
theorem dX11_total_0 : decode cX11_total 0 = .ok (.iload_n 1, 1) := by decide +kernel
theorem dX11_total_1 : decode cX11_total 1 = .ok (.iconst 0, 1) := by decide +kernel
theorem dX11_total_2 : decode cX11_total 2 = .ok (.bipush 7, 2) := by decide +kernel
theorem dX11_total_4 : decode cX11_total 4 = .ok (.invokestatic 70, 3) := by decide +kernel
theorem dX11_total_7 : decode cX11_total 7 = .ok (.ifCond .ne 10, 3) := by decide +kernel
theorem dX11_total_10 : decode cX11_total 10 = .ok (.aload_n 0, 1) := by decide +kernel
theorem dX11_total_11 : decode cX11_total 11 = .ok (.bipush (-2), 2) := by decide +kernel
theorem dX11_total_13 : decode cX11_total 13 = .ok (.invokevirtual 170, 3) := by decide +kernel
theorem dX11_total_16 : decode cX11_total 16 = .ok (.ireturn, 1) := by decide +kernel
theorem dX11_total_17 : decode cX11_total 17 = .ok (.aload_n 0, 1) := by decide +kernel
theorem dX11_total_18 : decode cX11_total 18 = .ok (.bipush (-9), 2) := by decide +kernel
theorem dX11_total_20 : decode cX11_total 20 = .ok (.invokevirtual 163, 3) := by decide +kernel
theorem dX11_total_23 : decode cX11_total 23 = .ok (.aload_n 0, 1) := by decide +kernel
theorem dX11_total_24 : decode cX11_total 24 = .ok (.iload_n 1, 1) := by decide +kernel
theorem dX11_total_25 : decode cX11_total 25 = .ok (.invokevirtual 167, 3) := by decide +kernel
theorem dX11_total_28 : decode cX11_total 28 = .ok (.ireturn, 1) := by decide +kernel
theorem dX11_of_0 : decode cX11_of 0 = .ok (.aload_n 0, 1) := by decide +kernel
theorem dX11_of_1 : decode cX11_of 1 = .ok (.iload_n 1, 1) := by decide +kernel
theorem dX11_of_2 : decode cX11_of 2 = .ok (.invokevirtual 97, 3) := by decide +kernel
theorem dX11_of_5 : decode cX11_of 5 = .ok (.ifCond .ne 9, 3) := by decide +kernel
theorem dX11_of_8 : decode cX11_of 8 = .ok (.aload_n 0, 1) := by decide +kernel
theorem dX11_of_9 : decode cX11_of 9 = .ok (.iconst (-1), 1) := by decide +kernel
theorem dX11_of_10 : decode cX11_of 10 = .ok (.invokevirtual 62, 3) := by decide +kernel
theorem dX11_of_13 : decode cX11_of 13 = .ok (.ireturn, 1) := by decide +kernel
theorem dX11_of_14 : decode cX11_of 14 = .ok (.aload_n 0, 1) := by decide +kernel
theorem dX11_of_15 : decode cX11_of 15 = .ok (.bipush (-9), 2) := by decide +kernel
theorem dX11_of_17 : decode cX11_of 17 = .ok (.invokevirtual 163, 3) := by decide +kernel
theorem dX11_of_20 : decode cX11_of 20 = .ok (.iload_n 2, 1) := by decide +kernel
theorem dX11_of_21 : decode cX11_of 21 = .ok (.tableswitch 87 0 6 #[43, 50, 56, 62, 68, 75, 81], 43) := by decide +kernel
theorem dX11_of_64 : decode cX11_of 64 = .ok (.aload_n 0, 1) := by decide +kernel
theorem dX11_of_65 : decode cX11_of 65 = .ok (.getfield 52, 3) := by decide +kernel
theorem dX11_of_68 : decode cX11_of 68 = .ok (.iload_n 1, 1) := by decide +kernel
theorem dX11_of_69 : decode cX11_of 69 = .ok (.iaload, 1) := by decide +kernel
theorem dX11_of_70 : decode cX11_of 70 = .ok (.ireturn, 1) := by decide +kernel
theorem dX11_of_71 : decode cX11_of 71 = .ok (.aload_n 0, 1) := by decide +kernel
theorem dX11_of_72 : decode cX11_of 72 = .ok (.iload_n 1, 1) := by decide +kernel
theorem dX11_of_73 : decode cX11_of 73 = .ok (.invokevirtual 145, 3) := by decide +kernel
theorem dX11_of_76 : decode cX11_of 76 = .ok (.ireturn, 1) := by decide +kernel
theorem dX11_of_77 : decode cX11_of 77 = .ok (.aload_n 0, 1) := by decide +kernel
theorem dX11_of_78 : decode cX11_of 78 = .ok (.iload_n 1, 1) := by decide +kernel
theorem dX11_of_79 : decode cX11_of 79 = .ok (.invokevirtual 154, 3) := by decide +kernel
theorem dX11_of_82 : decode cX11_of 82 = .ok (.ireturn, 1) := by decide +kernel
theorem dX11_of_83 : decode cX11_of 83 = .ok (.aload_n 0, 1) := by decide +kernel
theorem dX11_of_84 : decode cX11_of 84 = .ok (.iload_n 1, 1) := by decide +kernel
theorem dX11_of_85 : decode cX11_of 85 = .ok (.invokevirtual 151, 3) := by decide +kernel
theorem dX11_of_88 : decode cX11_of 88 = .ok (.ireturn, 1) := by decide +kernel
theorem dX11_of_89 : decode cX11_of 89 = .ok (.aload_n 0, 1) := by decide +kernel
theorem dX11_of_90 : decode cX11_of 90 = .ok (.getfield 55, 3) := by decide +kernel
theorem dX11_of_93 : decode cX11_of 93 = .ok (.iload_n 1, 1) := by decide +kernel
theorem dX11_of_94 : decode cX11_of 94 = .ok (.iaload, 1) := by decide +kernel
theorem dX11_of_95 : decode cX11_of 95 = .ok (.ireturn, 1) := by decide +kernel
theorem dX11_of_96 : decode cX11_of 96 = .ok (.aload_n 0, 1) := by decide +kernel
theorem dX11_of_97 : decode cX11_of 97 = .ok (.iload_n 1, 1) := by decide +kernel
theorem dX11_of_98 : decode cX11_of 98 = .ok (.invokevirtual 160, 3) := by decide +kernel
theorem dX11_of_101 : decode cX11_of 101 = .ok (.ireturn, 1) := by decide +kernel
theorem dX11_of_102 : decode cX11_of 102 = .ok (.aload_n 0, 1) := by decide +kernel
theorem dX11_of_103 : decode cX11_of 103 = .ok (.iload_n 1, 1) := by decide +kernel
theorem dX11_of_104 : decode cX11_of 104 = .ok (.invokevirtual 157, 3) := by decide +kernel
theorem dX11_of_107 : decode cX11_of 107 = .ok (.ireturn, 1) := by decide +kernel
theorem dX11_of_108 : decode cX11_of 108 = .ok (.aload_n 0, 1) := by decide +kernel
theorem dX11_of_109 : decode cX11_of 109 = .ok (.bipush (-2), 2) := by decide +kernel
theorem dX11_of_111 : decode cX11_of 111 = .ok (.invokevirtual 62, 3) := by decide +kernel
theorem dX11_of_114 : decode cX11_of 114 = .ok (.ireturn, 1) := by decide +kernel
theorem dX11_next_0 : decode cX11_next 0 = .ok (.aload_n 0, 1) := by decide +kernel
theorem dX11_next_1 : decode cX11_next 1 = .ok (.getfield 66, 3) := by decide +kernel
theorem dX11_next_4 : decode cX11_next 4 = .ok (.iconst 2, 1) := by decide +kernel
theorem dX11_next_5 : decode cX11_next 5 = .ok (.isub, 1) := by decide +kernel
theorem dX11_next_6 : decode cX11_next 6 = .ok (.istore_n 1, 1) := by decide +kernel
theorem dX11_next_7 : decode cX11_next 7 = .ok (.iload_n 1, 1) := by decide +kernel
theorem dX11_next_8 : decode cX11_next 8 = .ok (.ifCond .lt 26, 3) := by decide +kernel
theorem dX11_next_11 : decode cX11_next 11 = .ok (.aload_n 0, 1) := by decide +kernel
theorem dX11_next_12 : decode cX11_next 12 = .ok (.getfield 25, 3) := by decide +kernel
theorem dX11_next_15 : decode cX11_next 15 = .ok (.iload_n 1, 1) := by decide +kernel
theorem dX11_next_16 : decode cX11_next 16 = .ok (.iaload, 1) := by decide +kernel
theorem dX11_next_17 : decode cX11_next 17 = .ok (.aload_n 0, 1) := by decide +kernel
theorem dX11_next_18 : decode cX11_next 18 = .ok (.getfield 25, 3) := by decide +kernel
theorem dX11_next_21 : decode cX11_next 21 = .ok (.iload_n 1, 1) := by decide +kernel
theorem dX11_next_22 : decode cX11_next 22 = .ok (.iconst 1, 1) := by decide +kernel
theorem dX11_next_23 : decode cX11_next 23 = .ok (.iadd, 1) := by decide +kernel
theorem dX11_next_24 : decode cX11_next 24 = .ok (.iaload, 1) := by decide +kernel
theorem dX11_next_25 : decode cX11_next 25 = .ok (.if_icmp .le 9, 3) := by decide +kernel
theorem dX11_next_28 : decode cX11_next 28 = .ok (.iinc 1 (-1), 3) := by decide +kernel
theorem dX11_next_31 : decode cX11_next 31 = .ok (.goto (-24), 3) := by decide +kernel
theorem dX11_next_34 : decode cX11_next 34 = .ok (.iload_n 1, 1) := by decide +kernel
theorem dX11_next_35 : decode cX11_next 35 = .ok (.ifCond .ge 5, 3) := by decide +kernel
theorem dX11_next_38 : decode cX11_next 38 = .ok (.iconst 0, 1) := by decide +kernel
theorem dX11_next_39 : decode cX11_next 39 = .ok (.ireturn, 1) := by decide +kernel
theorem dX11_next_40 : decode cX11_next 40 = .ok (.aload_n 0, 1) := by decide +kernel
theorem dX11_next_41 : decode cX11_next 41 = .ok (.getfield 66, 3) := by decide +kernel
theorem dX11_next_44 : decode cX11_next 44 = .ok (.iconst 1, 1) := by decide +kernel
theorem dX11_next_45 : decode cX11_next 45 = .ok (.isub, 1) := by decide +kernel
theorem dX11_next_46 : decode cX11_next 46 = .ok (.istore_n 2, 1) := by decide +kernel
theorem dX11_next_47 : decode cX11_next 47 = .ok (.aload_n 0, 1) := by decide +kernel
theorem dX11_next_48 : decode cX11_next 48 = .ok (.getfield 25, 3) := by decide +kernel
theorem dX11_next_51 : decode cX11_next 51 = .ok (.iload_n 2, 1) := by decide +kernel
theorem dX11_next_52 : decode cX11_next 52 = .ok (.iaload, 1) := by decide +kernel
theorem dX11_next_53 : decode cX11_next 53 = .ok (.aload_n 0, 1) := by decide +kernel
theorem dX11_next_54 : decode cX11_next 54 = .ok (.getfield 25, 3) := by decide +kernel
theorem dX11_next_57 : decode cX11_next 57 = .ok (.iload_n 1, 1) := by decide +kernel
theorem dX11_next_58 : decode cX11_next 58 = .ok (.iaload, 1) := by decide +kernel
theorem dX11_next_59 : decode cX11_next 59 = .ok (.if_icmp .ge 9, 3) := by decide +kernel
theorem dX11_next_62 : decode cX11_next 62 = .ok (.iinc 2 (-1), 3) := by decide +kernel
theorem dX11_next_65 : decode cX11_next 65 = .ok (.goto (-18), 3) := by decide +kernel
theorem dX11_next_68 : decode cX11_next 68 = .ok (.aload_n 0, 1) := by decide +kernel
theorem dX11_next_69 : decode cX11_next 69 = .ok (.iload_n 1, 1) := by decide +kernel
theorem dX11_next_70 : decode cX11_next 70 = .ok (.iload_n 2, 1) := by decide +kernel
theorem dX11_next_71 : decode cX11_next 71 = .ok (.invokevirtual 103, 3) := by decide +kernel
theorem dX11_next_74 : decode cX11_next 74 = .ok (.iload_n 1, 1) := by decide +kernel
theorem dX11_next_75 : decode cX11_next 75 = .ok (.iconst 1, 1) := by decide +kernel
theorem dX11_next_76 : decode cX11_next 76 = .ok (.iadd, 1) := by decide +kernel
theorem dX11_next_77 : decode cX11_next 77 = .ok (.istore_n 3, 1) := by decide +kernel
theorem dX11_next_78 : decode cX11_next 78 = .ok (.aload_n 0, 1) := by decide +kernel
theorem dX11_next_79 : decode cX11_next 79 = .ok (.getfield 66, 3) := by decide +kernel
theorem dX11_next_82 : decode cX11_next 82 = .ok (.iconst 1, 1) := by decide +kernel
theorem dX11_next_83 : decode cX11_next 83 = .ok (.isub, 1) := by decide +kernel
theorem dX11_next_84 : decode cX11_next 84 = .ok (.istore 4, 2) := by decide +kernel
theorem dX11_next_86 : decode cX11_next 86 = .ok (.iload_n 3, 1) := by decide +kernel
theorem dX11_next_87 : decode cX11_next 87 = .ok (.iload 4, 2) := by decide +kernel
theorem dX11_next_89 : decode cX11_next 89 = .ok (.if_icmp .ge 19, 3) := by decide +kernel
theorem dX11_next_92 : decode cX11_next 92 = .ok (.aload_n 0, 1) := by decide +kernel
theorem dX11_next_93 : decode cX11_next 93 = .ok (.iload_n 3, 1) := by decide +kernel
theorem dX11_next_94 : decode cX11_next 94 = .ok (.iload 4, 2) := by decide +kernel
theorem dX11_next_96 : decode cX11_next 96 = .ok (.invokevirtual 103, 3) := by decide +kernel
theorem dX11_next_99 : decode cX11_next 99 = .ok (.iinc 3 1, 3) := by decide +kernel
theorem dX11_next_102 : decode cX11_next 102 = .ok (.iinc 4 (-1), 3) := by decide +kernel
theorem dX11_next_105 : decode cX11_next 105 = .ok (.goto (-19), 3) := by decide +kernel
theorem dX11_next_108 : decode cX11_next 108 = .ok (.iconst 1, 1) := by decide +kernel
theorem dX11_next_109 : decode cX11_next 109 = .ok (.ireturn, 1) := by decide +kernel
theorem dX11_begin__0 : decode cX11_begin_ 0 = .ok (.iconst 0, 1) := by decide +kernel
theorem dX11_begin__1 : decode cX11_begin_ 1 = .ok (.istore_n 1, 1) := by decide +kernel
theorem dX11_begin__2 : decode cX11_begin_ 2 = .ok (.iload_n 1, 1) := by decide +kernel
theorem dX11_begin__3 : decode cX11_begin_ 3 = .ok (.aload_n 0, 1) := by decide +kernel
theorem dX11_begin__4 : decode cX11_begin_ 4 = .ok (.getfield 66, 3) := by decide +kernel
theorem dX11_begin__7 : decode cX11_begin_ 7 = .ok (.if_icmp .ge 16, 3) := by decide +kernel
theorem dX11_begin__10 : decode cX11_begin_ 10 = .ok (.aload_n 0, 1) := by decide +kernel
theorem dX11_begin__11 : decode cX11_begin_ 11 = .ok (.getfield 25, 3) := by decide +kernel
theorem dX11_begin__14 : decode cX11_begin_ 14 = .ok (.iload_n 1, 1) := by decide +kernel
theorem dX11_begin__15 : decode cX11_begin_ 15 = .ok (.iload_n 1, 1) := by decide +kernel
theorem dX11_begin__16 : decode cX11_begin_ 16 = .ok (.iastore, 1) := by decide +kernel
theorem dX11_begin__17 : decode cX11_begin_ 17 = .ok (.iinc 1 1, 3) := by decide +kernel
theorem dX11_begin__20 : decode cX11_begin_ 20 = .ok (.goto (-18), 3) := by decide +kernel
theorem dX11_begin__23 : decode cX11_begin_ 23 = .ok (.return_, 1) := by decide +kernel
theorem dX11_bestOf_0 : decode cX11_bestOf 0 = .ok (.aload_n 0, 1) := by decide +kernel
theorem dX11_bestOf_1 : decode cX11_bestOf 1 = .ok (.aload_n 0, 1) := by decide +kernel
theorem dX11_bestOf_2 : decode cX11_bestOf 2 = .ok (.getfield 49, 3) := by decide +kernel
theorem dX11_bestOf_5 : decode cX11_bestOf 5 = .ok (.invokevirtual 111, 3) := by decide +kernel
theorem dX11_bestOf_8 : decode cX11_bestOf 8 = .ok (.aload_n 0, 1) := by decide +kernel
theorem dX11_bestOf_9 : decode cX11_bestOf 9 = .ok (.invokevirtual 173, 3) := by decide +kernel
theorem dX11_bestOf_12 : decode cX11_bestOf 12 = .ok (.iconst 0, 1) := by decide +kernel
theorem dX11_bestOf_13 : decode cX11_bestOf 13 = .ok (.istore_n 2, 1) := by decide +kernel
theorem dX11_bestOf_14 : decode cX11_bestOf 14 = .ok (.iconst 0, 1) := by decide +kernel
theorem dX11_bestOf_15 : decode cX11_bestOf 15 = .ok (.istore_n 3, 1) := by decide +kernel
theorem dX11_bestOf_16 : decode cX11_bestOf 16 = .ok (.iconst 1, 1) := by decide +kernel
theorem dX11_bestOf_17 : decode cX11_bestOf 17 = .ok (.istore 4, 2) := by decide +kernel
theorem dX11_bestOf_19 : decode cX11_bestOf 19 = .ok (.iload 4, 2) := by decide +kernel
theorem dX11_bestOf_21 : decode cX11_bestOf 21 = .ok (.ifCond .eq 92, 3) := by decide +kernel
theorem dX11_bestOf_24 : decode cX11_bestOf 24 = .ok (.aload_n 0, 1) := by decide +kernel
theorem dX11_bestOf_25 : decode cX11_bestOf 25 = .ok (.bipush (-9), 2) := by decide +kernel
theorem dX11_bestOf_27 : decode cX11_bestOf 27 = .ok (.invokevirtual 163, 3) := by decide +kernel
theorem dX11_bestOf_30 : decode cX11_bestOf 30 = .ok (.aload_n 0, 1) := by decide +kernel
theorem dX11_bestOf_31 : decode cX11_bestOf 31 = .ok (.iload_n 1, 1) := by decide +kernel
theorem dX11_bestOf_32 : decode cX11_bestOf 32 = .ok (.invokevirtual 167, 3) := by decide +kernel
theorem dX11_bestOf_35 : decode cX11_bestOf 35 = .ok (.istore 5, 2) := by decide +kernel
theorem dX11_bestOf_37 : decode cX11_bestOf 37 = .ok (.iload_n 2, 1) := by decide +kernel
theorem dX11_bestOf_38 : decode cX11_bestOf 38 = .ok (.ifCond .eq 29, 3) := by decide +kernel
theorem dX11_bestOf_41 : decode cX11_bestOf 41 = .ok (.iload_n 1, 1) := by decide +kernel
theorem dX11_bestOf_42 : decode cX11_bestOf 42 = .ok (.iconst 2, 1) := by decide +kernel
theorem dX11_bestOf_43 : decode cX11_bestOf 43 = .ok (.if_icmp .eq 9, 3) := by decide +kernel
theorem dX11_bestOf_46 : decode cX11_bestOf 46 = .ok (.iload_n 1, 1) := by decide +kernel
theorem dX11_bestOf_47 : decode cX11_bestOf 47 = .ok (.bipush 7, 2) := by decide +kernel
theorem dX11_bestOf_49 : decode cX11_bestOf 49 = .ok (.if_icmp .ne 12, 3) := by decide +kernel
theorem dX11_bestOf_52 : decode cX11_bestOf 52 = .ok (.iload 5, 2) := by decide +kernel
theorem dX11_bestOf_54 : decode cX11_bestOf 54 = .ok (.iload_n 3, 1) := by decide +kernel
theorem dX11_bestOf_55 : decode cX11_bestOf 55 = .ok (.if_icmp .le 49, 3) := by decide +kernel
theorem dX11_bestOf_58 : decode cX11_bestOf 58 = .ok (.goto 9, 3) := by decide +kernel
theorem dX11_bestOf_61 : decode cX11_bestOf 61 = .ok (.iload 5, 2) := by decide +kernel
theorem dX11_bestOf_63 : decode cX11_bestOf 63 = .ok (.iload_n 3, 1) := by decide +kernel
theorem dX11_bestOf_64 : decode cX11_bestOf 64 = .ok (.if_icmp .ge 40, 3) := by decide +kernel
theorem dX11_bestOf_67 : decode cX11_bestOf 67 = .ok (.iconst 1, 1) := by decide +kernel
theorem dX11_bestOf_68 : decode cX11_bestOf 68 = .ok (.istore_n 2, 1) := by decide +kernel
theorem dX11_bestOf_69 : decode cX11_bestOf 69 = .ok (.iload 5, 2) := by decide +kernel
theorem dX11_bestOf_71 : decode cX11_bestOf 71 = .ok (.istore_n 3, 1) := by decide +kernel
theorem dX11_bestOf_72 : decode cX11_bestOf 72 = .ok (.iconst 0, 1) := by decide +kernel
theorem dX11_bestOf_73 : decode cX11_bestOf 73 = .ok (.istore 6, 2) := by decide +kernel
theorem dX11_bestOf_75 : decode cX11_bestOf 75 = .ok (.iload 6, 2) := by decide +kernel
theorem dX11_bestOf_77 : decode cX11_bestOf 77 = .ok (.aload_n 0, 1) := by decide +kernel
theorem dX11_bestOf_78 : decode cX11_bestOf 78 = .ok (.getfield 66, 3) := by decide +kernel
theorem dX11_bestOf_81 : decode cX11_bestOf 81 = .ok (.if_icmp .ge 23, 3) := by decide +kernel
theorem dX11_bestOf_84 : decode cX11_bestOf 84 = .ok (.aload_n 0, 1) := by decide +kernel
theorem dX11_bestOf_85 : decode cX11_bestOf 85 = .ok (.getfield 58, 3) := by decide +kernel
theorem dX11_bestOf_88 : decode cX11_bestOf 88 = .ok (.iload 6, 2) := by decide +kernel
theorem dX11_bestOf_90 : decode cX11_bestOf 90 = .ok (.aload_n 0, 1) := by decide +kernel
theorem dX11_bestOf_91 : decode cX11_bestOf 91 = .ok (.getfield 25, 3) := by decide +kernel
theorem dX11_bestOf_94 : decode cX11_bestOf 94 = .ok (.iload 6, 2) := by decide +kernel
theorem dX11_bestOf_96 : decode cX11_bestOf 96 = .ok (.iaload, 1) := by decide +kernel
theorem dX11_bestOf_97 : decode cX11_bestOf 97 = .ok (.iastore, 1) := by decide +kernel
theorem dX11_bestOf_98 : decode cX11_bestOf 98 = .ok (.iinc 6 1, 3) := by decide +kernel
theorem dX11_bestOf_101 : decode cX11_bestOf 101 = .ok (.goto (-26), 3) := by decide +kernel
theorem dX11_bestOf_104 : decode cX11_bestOf 104 = .ok (.aload_n 0, 1) := by decide +kernel
theorem dX11_bestOf_105 : decode cX11_bestOf 105 = .ok (.invokevirtual 175, 3) := by decide +kernel
theorem dX11_bestOf_108 : decode cX11_bestOf 108 = .ok (.istore 4, 2) := by decide +kernel
theorem dX11_bestOf_110 : decode cX11_bestOf 110 = .ok (.goto (-91), 3) := by decide +kernel
theorem dX11_bestOf_113 : decode cX11_bestOf 113 = .ok (.aload_n 0, 1) := by decide +kernel
theorem dX11_bestOf_114 : decode cX11_bestOf 114 = .ok (.aload_n 0, 1) := by decide +kernel
theorem dX11_bestOf_115 : decode cX11_bestOf 115 = .ok (.getfield 49, 3) := by decide +kernel
theorem dX11_bestOf_118 : decode cX11_bestOf 118 = .ok (.invokevirtual 115, 3) := by decide +kernel
theorem dX11_bestOf_121 : decode cX11_bestOf 121 = .ok (.iload_n 3, 1) := by decide +kernel
theorem dX11_bestOf_122 : decode cX11_bestOf 122 = .ok (.ireturn, 1) := by decide +kernel
theorem dX11_best_0 : decode cX11_best 0 = .ok (.iload_n 1, 1) := by decide +kernel
theorem dX11_best_1 : decode cX11_best 1 = .ok (.iconst 0, 1) := by decide +kernel
theorem dX11_best_2 : decode cX11_best 2 = .ok (.bipush 7, 2) := by decide +kernel
theorem dX11_best_4 : decode cX11_best 4 = .ok (.invokestatic 70, 3) := by decide +kernel
theorem dX11_best_7 : decode cX11_best 7 = .ok (.ifCond .eq 11, 3) := by decide +kernel
theorem dX11_best_10 : decode cX11_best 10 = .ok (.aload_n 0, 1) := by decide +kernel
theorem dX11_best_11 : decode cX11_best 11 = .ok (.iload_n 1, 1) := by decide +kernel
theorem dX11_best_12 : decode cX11_best 12 = .ok (.invokevirtual 179, 3) := by decide +kernel
theorem dX11_best_15 : decode cX11_best 15 = .ok (.goto 9, 3) := by decide +kernel
theorem dX11_best_18 : decode cX11_best 18 = .ok (.aload_n 0, 1) := by decide +kernel
theorem dX11_best_19 : decode cX11_best 19 = .ok (.bipush (-2), 2) := by decide +kernel
theorem dX11_best_21 : decode cX11_best 21 = .ok (.invokevirtual 170, 3) := by decide +kernel
theorem dX11_best_24 : decode cX11_best 24 = .ok (.ireturn, 1) := by decide +kernel
theorem dX11_bestAt_0 : decode cX11_bestAt 0 = .ok (.iload_n 1, 1) := by decide +kernel
theorem dX11_bestAt_1 : decode cX11_bestAt 1 = .ok (.iconst 0, 1) := by decide +kernel
theorem dX11_bestAt_2 : decode cX11_bestAt 2 = .ok (.bipush 7, 2) := by decide +kernel
theorem dX11_bestAt_4 : decode cX11_bestAt 4 = .ok (.invokestatic 70, 3) := by decide +kernel
theorem dX11_bestAt_7 : decode cX11_bestAt 7 = .ok (.ifCond .ne 10, 3) := by decide +kernel
theorem dX11_bestAt_10 : decode cX11_bestAt 10 = .ok (.aload_n 0, 1) := by decide +kernel
theorem dX11_bestAt_11 : decode cX11_bestAt 11 = .ok (.bipush (-2), 2) := by decide +kernel
theorem dX11_bestAt_13 : decode cX11_bestAt 13 = .ok (.invokevirtual 62, 3) := by decide +kernel
theorem dX11_bestAt_16 : decode cX11_bestAt 16 = .ok (.ireturn, 1) := by decide +kernel
theorem dX11_bestAt_17 : decode cX11_bestAt 17 = .ok (.aload_n 0, 1) := by decide +kernel
theorem dX11_bestAt_18 : decode cX11_bestAt 18 = .ok (.iload_n 2, 1) := by decide +kernel
theorem dX11_bestAt_19 : decode cX11_bestAt 19 = .ok (.invokevirtual 97, 3) := by decide +kernel
theorem dX11_bestAt_22 : decode cX11_bestAt 22 = .ok (.ifCond .ne 9, 3) := by decide +kernel
theorem dX11_bestAt_25 : decode cX11_bestAt 25 = .ok (.aload_n 0, 1) := by decide +kernel
theorem dX11_bestAt_26 : decode cX11_bestAt 26 = .ok (.iconst (-1), 1) := by decide +kernel
theorem dX11_bestAt_27 : decode cX11_bestAt 27 = .ok (.invokevirtual 62, 3) := by decide +kernel
theorem dX11_bestAt_30 : decode cX11_bestAt 30 = .ok (.ireturn, 1) := by decide +kernel
theorem dX11_bestAt_31 : decode cX11_bestAt 31 = .ok (.aload_n 0, 1) := by decide +kernel
theorem dX11_bestAt_32 : decode cX11_bestAt 32 = .ok (.iload_n 1, 1) := by decide +kernel
theorem dX11_bestAt_33 : decode cX11_bestAt 33 = .ok (.invokevirtual 179, 3) := by decide +kernel
theorem dX11_bestAt_36 : decode cX11_bestAt 36 = .ok (.pop, 1) := by decide +kernel
theorem dX11_bestAt_37 : decode cX11_bestAt 37 = .ok (.aload_n 0, 1) := by decide +kernel
theorem dX11_bestAt_38 : decode cX11_bestAt 38 = .ok (.getfield 58, 3) := by decide +kernel
theorem dX11_bestAt_41 : decode cX11_bestAt 41 = .ok (.iload_n 2, 1) := by decide +kernel
theorem dX11_bestAt_42 : decode cX11_bestAt 42 = .ok (.iaload, 1) := by decide +kernel
theorem dX11_bestAt_43 : decode cX11_bestAt 43 = .ok (.ireturn, 1) := by decide +kernel
theorem dX11_bestSet_0 : decode cX11_bestSet 0 = .ok (.iload_n 1, 1) := by decide +kernel
theorem dX11_bestSet_1 : decode cX11_bestSet 1 = .ok (.ifCond .eq 25, 3) := by decide +kernel
theorem dX11_bestSet_4 : decode cX11_bestSet 4 = .ok (.iload_n 1, 1) := by decide +kernel
theorem dX11_bestSet_5 : decode cX11_bestSet 5 = .ok (.iconst 2, 1) := by decide +kernel
theorem dX11_bestSet_6 : decode cX11_bestSet 6 = .ok (.if_icmp .eq 20, 3) := by decide +kernel
theorem dX11_bestSet_9 : decode cX11_bestSet 9 = .ok (.iload_n 1, 1) := by decide +kernel
theorem dX11_bestSet_10 : decode cX11_bestSet 10 = .ok (.iconst 4, 1) := by decide +kernel
theorem dX11_bestSet_11 : decode cX11_bestSet 11 = .ok (.if_icmp .eq 15, 3) := by decide +kernel
theorem dX11_bestSet_14 : decode cX11_bestSet 14 = .ok (.iload_n 1, 1) := by decide +kernel
theorem dX11_bestSet_15 : decode cX11_bestSet 15 = .ok (.iconst 5, 1) := by decide +kernel
theorem dX11_bestSet_16 : decode cX11_bestSet 16 = .ok (.if_icmp .eq 10, 3) := by decide +kernel
theorem dX11_bestSet_19 : decode cX11_bestSet 19 = .ok (.aload_n 0, 1) := by decide +kernel
theorem dX11_bestSet_20 : decode cX11_bestSet 20 = .ok (.bipush (-2), 2) := by decide +kernel
theorem dX11_bestSet_22 : decode cX11_bestSet 22 = .ok (.invokevirtual 62, 3) := by decide +kernel
theorem dX11_bestSet_25 : decode cX11_bestSet 25 = .ok (.ireturn, 1) := by decide +kernel
theorem dX11_bestSet_26 : decode cX11_bestSet 26 = .ok (.aload_n 0, 1) := by decide +kernel
theorem dX11_bestSet_27 : decode cX11_bestSet 27 = .ok (.getfield 28, 3) := by decide +kernel
theorem dX11_bestSet_30 : decode cX11_bestSet 30 = .ok (.iload_n 1, 1) := by decide +kernel
theorem dX11_bestSet_31 : decode cX11_bestSet 31 = .ok (.iaload, 1) := by decide +kernel
theorem dX11_bestSet_32 : decode cX11_bestSet 32 = .ok (.istore_n 2, 1) := by decide +kernel
theorem dX11_bestSet_33 : decode cX11_bestSet 33 = .ok (.iload_n 1, 1) := by decide +kernel
theorem dX11_bestSet_34 : decode cX11_bestSet 34 = .ok (.invokestatic 118, 3) := by decide +kernel
theorem dX11_bestSet_37 : decode cX11_bestSet 37 = .ok (.istore_n 3, 1) := by decide +kernel
theorem dX11_bestSet_38 : decode cX11_bestSet 38 = .ok (.aload_n 0, 1) := by decide +kernel
theorem dX11_bestSet_39 : decode cX11_bestSet 39 = .ok (.getfield 28, 3) := by decide +kernel
theorem dX11_bestSet_42 : decode cX11_bestSet 42 = .ok (.iload_n 1, 1) := by decide +kernel
theorem dX11_bestSet_43 : decode cX11_bestSet 43 = .ok (.iload_n 3, 1) := by decide +kernel
theorem dX11_bestSet_44 : decode cX11_bestSet 44 = .ok (.iastore, 1) := by decide +kernel
theorem dX11_bestSet_45 : decode cX11_bestSet 45 = .ok (.aload_n 0, 1) := by decide +kernel
theorem dX11_bestSet_46 : decode cX11_bestSet 46 = .ok (.invokevirtual 182, 3) := by decide +kernel
theorem dX11_bestSet_49 : decode cX11_bestSet 49 = .ok (.istore 4, 2) := by decide +kernel
theorem dX11_bestSet_51 : decode cX11_bestSet 51 = .ok (.iload_n 3, 1) := by decide +kernel
theorem dX11_bestSet_52 : decode cX11_bestSet 52 = .ok (.istore 5, 2) := by decide +kernel
theorem dX11_bestSet_54 : decode cX11_bestSet 54 = .ok (.iload 5, 2) := by decide +kernel
theorem dX11_bestSet_56 : decode cX11_bestSet 56 = .ok (.iload_n 1, 1) := by decide +kernel
theorem dX11_bestSet_57 : decode cX11_bestSet 57 = .ok (.invokestatic 121, 3) := by decide +kernel
theorem dX11_bestSet_60 : decode cX11_bestSet 60 = .ok (.if_icmp .gt 53, 3) := by decide +kernel
theorem dX11_bestSet_63 : decode cX11_bestSet 63 = .ok (.aload_n 0, 1) := by decide +kernel
theorem dX11_bestSet_64 : decode cX11_bestSet 64 = .ok (.getfield 28, 3) := by decide +kernel
theorem dX11_bestSet_67 : decode cX11_bestSet 67 = .ok (.iload_n 1, 1) := by decide +kernel
theorem dX11_bestSet_68 : decode cX11_bestSet 68 = .ok (.iload 5, 2) := by decide +kernel
theorem dX11_bestSet_70 : decode cX11_bestSet 70 = .ok (.iastore, 1) := by decide +kernel
theorem dX11_bestSet_71 : decode cX11_bestSet 71 = .ok (.aload_n 0, 1) := by decide +kernel
theorem dX11_bestSet_72 : decode cX11_bestSet 72 = .ok (.invokevirtual 182, 3) := by decide +kernel
theorem dX11_bestSet_75 : decode cX11_bestSet 75 = .ok (.istore 6, 2) := by decide +kernel
theorem dX11_bestSet_77 : decode cX11_bestSet 77 = .ok (.iload 6, 2) := by decide +kernel
theorem dX11_bestSet_79 : decode cX11_bestSet 79 = .ok (.iload 4, 2) := by decide +kernel
theorem dX11_bestSet_81 : decode cX11_bestSet 81 = .ok (.if_icmp .gt 6, 3) := by decide +kernel
theorem dX11_bestSet_84 : decode cX11_bestSet 84 = .ok (.goto 10, 3) := by decide +kernel
theorem dX11_bestSet_87 : decode cX11_bestSet 87 = .ok (.iload 6, 2) := by decide +kernel
theorem dX11_bestSet_89 : decode cX11_bestSet 89 = .ok (.istore 4, 2) := by decide +kernel
theorem dX11_bestSet_91 : decode cX11_bestSet 91 = .ok (.iload 5, 2) := by decide +kernel
theorem dX11_bestSet_93 : decode cX11_bestSet 93 = .ok (.istore_n 3, 1) := by decide +kernel
theorem dX11_bestSet_94 : decode cX11_bestSet 94 = .ok (.iload 5, 2) := by decide +kernel
theorem dX11_bestSet_96 : decode cX11_bestSet 96 = .ok (.iload_n 1, 1) := by decide +kernel
theorem dX11_bestSet_97 : decode cX11_bestSet 97 = .ok (.iconst 5, 1) := by decide +kernel
theorem dX11_bestSet_98 : decode cX11_bestSet 98 = .ok (.if_icmp .ne 8, 3) := by decide +kernel
theorem dX11_bestSet_101 : decode cX11_bestSet 101 = .ok (.bipush 10, 2) := by decide +kernel
theorem dX11_bestSet_103 : decode cX11_bestSet 103 = .ok (.goto 4, 3) := by decide +kernel
theorem dX11_bestSet_106 : decode cX11_bestSet 106 = .ok (.iconst 1, 1) := by decide +kernel
theorem dX11_bestSet_107 : decode cX11_bestSet 107 = .ok (.iadd, 1) := by decide +kernel
theorem dX11_bestSet_108 : decode cX11_bestSet 108 = .ok (.istore 5, 2) := by decide +kernel
theorem dX11_bestSet_110 : decode cX11_bestSet 110 = .ok (.goto (-56), 3) := by decide +kernel
theorem dX11_bestSet_113 : decode cX11_bestSet 113 = .ok (.aload_n 0, 1) := by decide +kernel
theorem dX11_bestSet_114 : decode cX11_bestSet 114 = .ok (.getfield 28, 3) := by decide +kernel
theorem dX11_bestSet_117 : decode cX11_bestSet 117 = .ok (.iload_n 1, 1) := by decide +kernel
theorem dX11_bestSet_118 : decode cX11_bestSet 118 = .ok (.iload_n 2, 1) := by decide +kernel
theorem dX11_bestSet_119 : decode cX11_bestSet 119 = .ok (.iastore, 1) := by decide +kernel
theorem dX11_bestSet_120 : decode cX11_bestSet 120 = .ok (.iload_n 3, 1) := by decide +kernel
theorem dX11_bestSet_121 : decode cX11_bestSet 121 = .ok (.ireturn, 1) := by decide +kernel
theorem dX11_more_0 : decode cX11_more 0 = .ok (.aload_n 0, 1) := by decide +kernel
theorem dX11_more_1 : decode cX11_more 1 = .ok (.invokevirtual 182, 3) := by decide +kernel
theorem dX11_more_4 : decode cX11_more 4 = .ok (.istore_n 3, 1) := by decide +kernel
theorem dX11_more_5 : decode cX11_more 5 = .ok (.aload_n 0, 1) := by decide +kernel
theorem dX11_more_6 : decode cX11_more 6 = .ok (.getfield 28, 3) := by decide +kernel
theorem dX11_more_9 : decode cX11_more 9 = .ok (.iload_n 1, 1) := by decide +kernel
theorem dX11_more_10 : decode cX11_more 10 = .ok (.iaload, 1) := by decide +kernel
theorem dX11_more_11 : decode cX11_more 11 = .ok (.istore 4, 2) := by decide +kernel
theorem dX11_more_13 : decode cX11_more 13 = .ok (.aload_n 0, 1) := by decide +kernel
theorem dX11_more_14 : decode cX11_more 14 = .ok (.getfield 28, 3) := by decide +kernel
theorem dX11_more_17 : decode cX11_more 17 = .ok (.iload_n 1, 1) := by decide +kernel
theorem dX11_more_18 : decode cX11_more 18 = .ok (.iload_n 2, 1) := by decide +kernel
theorem dX11_more_19 : decode cX11_more 19 = .ok (.iastore, 1) := by decide +kernel
theorem dX11_more_20 : decode cX11_more 20 = .ok (.aload_n 0, 1) := by decide +kernel
theorem dX11_more_21 : decode cX11_more 21 = .ok (.invokevirtual 182, 3) := by decide +kernel
theorem dX11_more_24 : decode cX11_more 24 = .ok (.istore 5, 2) := by decide +kernel
theorem dX11_more_26 : decode cX11_more 26 = .ok (.aload_n 0, 1) := by decide +kernel
theorem dX11_more_27 : decode cX11_more 27 = .ok (.getfield 28, 3) := by decide +kernel
theorem dX11_more_30 : decode cX11_more 30 = .ok (.iload_n 1, 1) := by decide +kernel
theorem dX11_more_31 : decode cX11_more 31 = .ok (.iload 4, 2) := by decide +kernel
theorem dX11_more_33 : decode cX11_more 33 = .ok (.iastore, 1) := by decide +kernel
theorem dX11_more_34 : decode cX11_more 34 = .ok (.iload 5, 2) := by decide +kernel
theorem dX11_more_36 : decode cX11_more 36 = .ok (.iload_n 3, 1) := by decide +kernel
theorem dX11_more_37 : decode cX11_more 37 = .ok (.isub, 1) := by decide +kernel
theorem dX11_more_38 : decode cX11_more 38 = .ok (.ireturn, 1) := by decide +kernel
theorem dX11_roomMore_0 : decode cX11_roomMore 0 = .ok (.aload_n 0, 1) := by decide +kernel
theorem dX11_roomMore_1 : decode cX11_roomMore 1 = .ok (.getfield 28, 3) := by decide +kernel
theorem dX11_roomMore_4 : decode cX11_roomMore 4 = .ok (.iconst 0, 1) := by decide +kernel
theorem dX11_roomMore_5 : decode cX11_roomMore 5 = .ok (.iaload, 1) := by decide +kernel
theorem dX11_roomMore_6 : decode cX11_roomMore 6 = .ok (.bipush 11, 2) := by decide +kernel
theorem dX11_roomMore_8 : decode cX11_roomMore 8 = .ok (.if_icmp .ne 12, 3) := by decide +kernel
theorem dX11_roomMore_11 : decode cX11_roomMore 11 = .ok (.aload_n 0, 1) := by decide +kernel
theorem dX11_roomMore_12 : decode cX11_roomMore 12 = .ok (.bipush (-3), 2) := by decide +kernel
theorem dX11_roomMore_14 : decode cX11_roomMore 14 = .ok (.invokevirtual 170, 3) := by decide +kernel
theorem dX11_roomMore_17 : decode cX11_roomMore 17 = .ok (.goto 16, 3) := by decide +kernel
theorem dX11_roomMore_20 : decode cX11_roomMore 20 = .ok (.aload_n 0, 1) := by decide +kernel
theorem dX11_roomMore_21 : decode cX11_roomMore 21 = .ok (.iconst 0, 1) := by decide +kernel
theorem dX11_roomMore_22 : decode cX11_roomMore 22 = .ok (.aload_n 0, 1) := by decide +kernel
theorem dX11_roomMore_23 : decode cX11_roomMore 23 = .ok (.getfield 28, 3) := by decide +kernel
theorem dX11_roomMore_26 : decode cX11_roomMore 26 = .ok (.iconst 0, 1) := by decide +kernel
theorem dX11_roomMore_27 : decode cX11_roomMore 27 = .ok (.iaload, 1) := by decide +kernel
theorem dX11_roomMore_28 : decode cX11_roomMore 28 = .ok (.iconst 1, 1) := by decide +kernel
theorem dX11_roomMore_29 : decode cX11_roomMore 29 = .ok (.iadd, 1) := by decide +kernel
theorem dX11_roomMore_30 : decode cX11_roomMore 30 = .ok (.invokevirtual 186, 3) := by decide +kernel
theorem dX11_roomMore_33 : decode cX11_roomMore 33 = .ok (.ireturn, 1) := by decide +kernel
theorem dX11_twoPull_0 : decode cX11_twoPull 0 = .ok (.aload_n 0, 1) := by decide +kernel
theorem dX11_twoPull_1 : decode cX11_twoPull 1 = .ok (.iconst 3, 1) := by decide +kernel
theorem dX11_twoPull_2 : decode cX11_twoPull 2 = .ok (.aload_n 0, 1) := by decide +kernel
theorem dX11_twoPull_3 : decode cX11_twoPull 3 = .ok (.getfield 28, 3) := by decide +kernel
theorem dX11_twoPull_6 : decode cX11_twoPull 6 = .ok (.iconst 3, 1) := by decide +kernel
theorem dX11_twoPull_7 : decode cX11_twoPull 7 = .ok (.iaload, 1) := by decide +kernel
theorem dX11_twoPull_8 : decode cX11_twoPull 8 = .ok (.iconst 1, 1) := by decide +kernel
theorem dX11_twoPull_9 : decode cX11_twoPull 9 = .ok (.iadd, 1) := by decide +kernel
theorem dX11_twoPull_10 : decode cX11_twoPull 10 = .ok (.iconst 2, 1) := by decide +kernel
theorem dX11_twoPull_11 : decode cX11_twoPull 11 = .ok (.idiv, 1) := by decide +kernel
theorem dX11_twoPull_12 : decode cX11_twoPull 12 = .ok (.invokevirtual 186, 3) := by decide +kernel
theorem dX11_twoPull_15 : decode cX11_twoPull 15 = .ok (.ireturn, 1) := by decide +kernel
theorem dX11_stairs_0 : decode cX11_stairs 0 = .ok (.iload_n 1, 1) := by decide +kernel
theorem dX11_stairs_1 : decode cX11_stairs 1 = .ok (.iconst 0, 1) := by decide +kernel
theorem dX11_stairs_2 : decode cX11_stairs 2 = .ok (.iconst 1, 1) := by decide +kernel
theorem dX11_stairs_3 : decode cX11_stairs 3 = .ok (.invokestatic 70, 3) := by decide +kernel
theorem dX11_stairs_6 : decode cX11_stairs 6 = .ok (.ifCond .ne 10, 3) := by decide +kernel
theorem dX11_stairs_9 : decode cX11_stairs 9 = .ok (.aload_n 0, 1) := by decide +kernel
theorem dX11_stairs_10 : decode cX11_stairs 10 = .ok (.bipush (-2), 2) := by decide +kernel
theorem dX11_stairs_12 : decode cX11_stairs 12 = .ok (.invokevirtual 170, 3) := by decide +kernel
theorem dX11_stairs_15 : decode cX11_stairs 15 = .ok (.ireturn, 1) := by decide +kernel
theorem dX11_stairs_16 : decode cX11_stairs 16 = .ok (.aload_n 0, 1) := by decide +kernel
theorem dX11_stairs_17 : decode cX11_stairs 17 = .ok (.invokevirtual 182, 3) := by decide +kernel
theorem dX11_stairs_20 : decode cX11_stairs 20 = .ok (.istore_n 2, 1) := by decide +kernel
theorem dX11_stairs_21 : decode cX11_stairs 21 = .ok (.bipush (-9), 2) := by decide +kernel
theorem dX11_stairs_23 : decode cX11_stairs 23 = .ok (.istore_n 3, 1) := by decide +kernel
theorem dX11_stairs_24 : decode cX11_stairs 24 = .ok (.iconst 0, 1) := by decide +kernel
theorem dX11_stairs_25 : decode cX11_stairs 25 = .ok (.istore 4, 2) := by decide +kernel
theorem dX11_stairs_27 : decode cX11_stairs 27 = .ok (.iconst 0, 1) := by decide +kernel
theorem dX11_stairs_28 : decode cX11_stairs 28 = .ok (.istore 5, 2) := by decide +kernel
theorem dX11_stairs_30 : decode cX11_stairs 30 = .ok (.iload 5, 2) := by decide +kernel
theorem dX11_stairs_32 : decode cX11_stairs 32 = .ok (.aload_n 0, 1) := by decide +kernel
theorem dX11_stairs_33 : decode cX11_stairs 33 = .ok (.getfield 66, 3) := by decide +kernel
theorem dX11_stairs_36 : decode cX11_stairs 36 = .ok (.if_icmp .ge 45, 3) := by decide +kernel
theorem dX11_stairs_39 : decode cX11_stairs 39 = .ok (.aload_n 0, 1) := by decide +kernel
theorem dX11_stairs_40 : decode cX11_stairs 40 = .ok (.iload 5, 2) := by decide +kernel
theorem dX11_stairs_42 : decode cX11_stairs 42 = .ok (.invokevirtual 163, 3) := by decide +kernel
theorem dX11_stairs_45 : decode cX11_stairs 45 = .ok (.aload_n 0, 1) := by decide +kernel
theorem dX11_stairs_46 : decode cX11_stairs 46 = .ok (.bipush 7, 2) := by decide +kernel
theorem dX11_stairs_48 : decode cX11_stairs 48 = .ok (.invokevirtual 167, 3) := by decide +kernel
theorem dX11_stairs_51 : decode cX11_stairs 51 = .ok (.bipush 10, 2) := by decide +kernel
theorem dX11_stairs_53 : decode cX11_stairs 53 = .ok (.isub, 1) := by decide +kernel
theorem dX11_stairs_54 : decode cX11_stairs 54 = .ok (.iload_n 2, 1) := by decide +kernel
theorem dX11_stairs_55 : decode cX11_stairs 55 = .ok (.isub, 1) := by decide +kernel
theorem dX11_stairs_56 : decode cX11_stairs 56 = .ok (.istore 6, 2) := by decide +kernel
theorem dX11_stairs_58 : decode cX11_stairs 58 = .ok (.iload 6, 2) := by decide +kernel
theorem dX11_stairs_60 : decode cX11_stairs 60 = .ok (.iload 4, 2) := by decide +kernel
theorem dX11_stairs_62 : decode cX11_stairs 62 = .ok (.if_icmp .gt 6, 3) := by decide +kernel
theorem dX11_stairs_65 : decode cX11_stairs 65 = .ok (.goto 10, 3) := by decide +kernel
theorem dX11_stairs_68 : decode cX11_stairs 68 = .ok (.iload 6, 2) := by decide +kernel
theorem dX11_stairs_70 : decode cX11_stairs 70 = .ok (.istore 4, 2) := by decide +kernel
theorem dX11_stairs_72 : decode cX11_stairs 72 = .ok (.iload 5, 2) := by decide +kernel
theorem dX11_stairs_74 : decode cX11_stairs 74 = .ok (.istore_n 3, 1) := by decide +kernel
theorem dX11_stairs_75 : decode cX11_stairs 75 = .ok (.iinc 5 1, 3) := by decide +kernel
theorem dX11_stairs_78 : decode cX11_stairs 78 = .ok (.goto (-48), 3) := by decide +kernel
theorem dX11_stairs_81 : decode cX11_stairs 81 = .ok (.iload_n 1, 1) := by decide +kernel
theorem dX11_stairs_82 : decode cX11_stairs 82 = .ok (.ifCond .ne 7, 3) := by decide +kernel
theorem dX11_stairs_85 : decode cX11_stairs 85 = .ok (.iload_n 3, 1) := by decide +kernel
theorem dX11_stairs_86 : decode cX11_stairs 86 = .ok (.goto 5, 3) := by decide +kernel
theorem dX11_stairs_89 : decode cX11_stairs 89 = .ok (.iload 4, 2) := by decide +kernel
theorem dX11_stairs_91 : decode cX11_stairs 91 = .ok (.ireturn, 1) := by decide +kernel
theorem dX11_forgotten_0 : decode cX11_forgotten 0 = .ok (.aload_n 0, 1) := by decide +kernel
theorem dX11_forgotten_1 : decode cX11_forgotten 1 = .ok (.iload_n 1, 1) := by decide +kernel
theorem dX11_forgotten_2 : decode cX11_forgotten 2 = .ok (.invokevirtual 97, 3) := by decide +kernel
theorem dX11_forgotten_5 : decode cX11_forgotten 5 = .ok (.ifCond .ne 9, 3) := by decide +kernel
theorem dX11_forgotten_8 : decode cX11_forgotten 8 = .ok (.aload_n 0, 1) := by decide +kernel
theorem dX11_forgotten_9 : decode cX11_forgotten 9 = .ok (.iconst (-1), 1) := by decide +kernel
theorem dX11_forgotten_10 : decode cX11_forgotten 10 = .ok (.invokevirtual 170, 3) := by decide +kernel
theorem dX11_forgotten_13 : decode cX11_forgotten 13 = .ok (.ireturn, 1) := by decide +kernel
theorem dX11_forgotten_14 : decode cX11_forgotten 14 = .ok (.aload_n 0, 1) := by decide +kernel
theorem dX11_forgotten_15 : decode cX11_forgotten 15 = .ok (.invokevirtual 182, 3) := by decide +kernel
theorem dX11_forgotten_18 : decode cX11_forgotten 18 = .ok (.istore_n 2, 1) := by decide +kernel
theorem dX11_forgotten_19 : decode cX11_forgotten 19 = .ok (.aload_n 0, 1) := by decide +kernel
theorem dX11_forgotten_20 : decode cX11_forgotten 20 = .ok (.aload_n 0, 1) := by decide +kernel
theorem dX11_forgotten_21 : decode cX11_forgotten 21 = .ok (.getfield 49, 3) := by decide +kernel
theorem dX11_forgotten_24 : decode cX11_forgotten 24 = .ok (.invokevirtual 111, 3) := by decide +kernel
theorem dX11_forgotten_27 : decode cX11_forgotten 27 = .ok (.aload_n 0, 1) := by decide +kernel
theorem dX11_forgotten_28 : decode cX11_forgotten 28 = .ok (.iload_n 1, 1) := by decide +kernel
theorem dX11_forgotten_29 : decode cX11_forgotten 29 = .ok (.invokevirtual 100, 3) := by decide +kernel
theorem dX11_forgotten_32 : decode cX11_forgotten 32 = .ok (.istore_n 3, 1) := by decide +kernel
theorem dX11_forgotten_33 : decode cX11_forgotten 33 = .ok (.iload_n 3, 1) := by decide +kernel
theorem dX11_forgotten_34 : decode cX11_forgotten 34 = .ok (.aload_n 0, 1) := by decide +kernel
theorem dX11_forgotten_35 : decode cX11_forgotten 35 = .ok (.getfield 66, 3) := by decide +kernel
theorem dX11_forgotten_38 : decode cX11_forgotten 38 = .ok (.iconst 1, 1) := by decide +kernel
theorem dX11_forgotten_39 : decode cX11_forgotten 39 = .ok (.isub, 1) := by decide +kernel
theorem dX11_forgotten_40 : decode cX11_forgotten 40 = .ok (.if_icmp .ge 17, 3) := by decide +kernel
theorem dX11_forgotten_43 : decode cX11_forgotten 43 = .ok (.aload_n 0, 1) := by decide +kernel
theorem dX11_forgotten_44 : decode cX11_forgotten 44 = .ok (.iload_n 3, 1) := by decide +kernel
theorem dX11_forgotten_45 : decode cX11_forgotten 45 = .ok (.iload_n 3, 1) := by decide +kernel
theorem dX11_forgotten_46 : decode cX11_forgotten 46 = .ok (.iconst 1, 1) := by decide +kernel
theorem dX11_forgotten_47 : decode cX11_forgotten 47 = .ok (.iadd, 1) := by decide +kernel
theorem dX11_forgotten_48 : decode cX11_forgotten 48 = .ok (.invokevirtual 103, 3) := by decide +kernel
theorem dX11_forgotten_51 : decode cX11_forgotten 51 = .ok (.iinc 3 1, 3) := by decide +kernel
theorem dX11_forgotten_54 : decode cX11_forgotten 54 = .ok (.goto (-21), 3) := by decide +kernel
theorem dX11_forgotten_57 : decode cX11_forgotten 57 = .ok (.aload_n 0, 1) := by decide +kernel
theorem dX11_forgotten_58 : decode cX11_forgotten 58 = .ok (.invokevirtual 182, 3) := by decide +kernel
theorem dX11_forgotten_61 : decode cX11_forgotten 61 = .ok (.istore_n 3, 1) := by decide +kernel
theorem dX11_forgotten_62 : decode cX11_forgotten 62 = .ok (.aload_n 0, 1) := by decide +kernel
theorem dX11_forgotten_63 : decode cX11_forgotten 63 = .ok (.aload_n 0, 1) := by decide +kernel
theorem dX11_forgotten_64 : decode cX11_forgotten 64 = .ok (.getfield 49, 3) := by decide +kernel
theorem dX11_forgotten_67 : decode cX11_forgotten 67 = .ok (.invokevirtual 115, 3) := by decide +kernel
theorem dX11_forgotten_70 : decode cX11_forgotten 70 = .ok (.iload_n 2, 1) := by decide +kernel
theorem dX11_forgotten_71 : decode cX11_forgotten 71 = .ok (.iload_n 3, 1) := by decide +kernel
theorem dX11_forgotten_72 : decode cX11_forgotten 72 = .ok (.isub, 1) := by decide +kernel
theorem dX11_forgotten_73 : decode cX11_forgotten 73 = .ok (.ireturn, 1) := by decide +kernel
theorem dX11_isHalved_0 : decode cX11_isHalved 0 = .ok (.bipush (-9), 2) := by decide +kernel
theorem dX11_isHalved_2 : decode cX11_isHalved 2 = .ok (.istore_n 2, 1) := by decide +kernel
theorem dX11_isHalved_3 : decode cX11_isHalved 3 = .ok (.iconst 0, 1) := by decide +kernel
theorem dX11_isHalved_4 : decode cX11_isHalved 4 = .ok (.istore_n 3, 1) := by decide +kernel
theorem dX11_isHalved_5 : decode cX11_isHalved 5 = .ok (.iload_n 3, 1) := by decide +kernel
theorem dX11_isHalved_6 : decode cX11_isHalved 6 = .ok (.aload_n 0, 1) := by decide +kernel
theorem dX11_isHalved_7 : decode cX11_isHalved 7 = .ok (.getfield 66, 3) := by decide +kernel
theorem dX11_isHalved_10 : decode cX11_isHalved 10 = .ok (.if_icmp .ge 47, 3) := by decide +kernel
theorem dX11_isHalved_13 : decode cX11_isHalved 13 = .ok (.aload_n 0, 1) := by decide +kernel
theorem dX11_isHalved_14 : decode cX11_isHalved 14 = .ok (.getfield 22, 3) := by decide +kernel
theorem dX11_isHalved_17 : decode cX11_isHalved 17 = .ok (.iload_n 3, 1) := by decide +kernel
theorem dX11_isHalved_18 : decode cX11_isHalved 18 = .ok (.iaload, 1) := by decide +kernel
theorem dX11_isHalved_19 : decode cX11_isHalved 19 = .ok (.iload_n 1, 1) := by decide +kernel
theorem dX11_isHalved_20 : decode cX11_isHalved 20 = .ok (.if_icmp .eq 6, 3) := by decide +kernel
theorem dX11_isHalved_23 : decode cX11_isHalved 23 = .ok (.goto 28, 3) := by decide +kernel
theorem dX11_isHalved_26 : decode cX11_isHalved 26 = .ok (.iload_n 2, 1) := by decide +kernel
theorem dX11_isHalved_27 : decode cX11_isHalved 27 = .ok (.bipush (-9), 2) := by decide +kernel
theorem dX11_isHalved_29 : decode cX11_isHalved 29 = .ok (.if_icmp .ne 10, 3) := by decide +kernel
theorem dX11_isHalved_32 : decode cX11_isHalved 32 = .ok (.aload_n 0, 1) := by decide +kernel
theorem dX11_isHalved_33 : decode cX11_isHalved 33 = .ok (.getfield 55, 3) := by decide +kernel
theorem dX11_isHalved_36 : decode cX11_isHalved 36 = .ok (.iload_n 3, 1) := by decide +kernel
theorem dX11_isHalved_37 : decode cX11_isHalved 37 = .ok (.iaload, 1) := by decide +kernel
theorem dX11_isHalved_38 : decode cX11_isHalved 38 = .ok (.istore_n 2, 1) := by decide +kernel
theorem dX11_isHalved_39 : decode cX11_isHalved 39 = .ok (.aload_n 0, 1) := by decide +kernel
theorem dX11_isHalved_40 : decode cX11_isHalved 40 = .ok (.getfield 55, 3) := by decide +kernel
theorem dX11_isHalved_43 : decode cX11_isHalved 43 = .ok (.iload_n 3, 1) := by decide +kernel
theorem dX11_isHalved_44 : decode cX11_isHalved 44 = .ok (.iaload, 1) := by decide +kernel
theorem dX11_isHalved_45 : decode cX11_isHalved 45 = .ok (.iload_n 2, 1) := by decide +kernel
theorem dX11_isHalved_46 : decode cX11_isHalved 46 = .ok (.if_icmp .eq 5, 3) := by decide +kernel
theorem dX11_isHalved_49 : decode cX11_isHalved 49 = .ok (.iconst 1, 1) := by decide +kernel
theorem dX11_isHalved_50 : decode cX11_isHalved 50 = .ok (.ireturn, 1) := by decide +kernel
theorem dX11_isHalved_51 : decode cX11_isHalved 51 = .ok (.iinc 3 1, 3) := by decide +kernel
theorem dX11_isHalved_54 : decode cX11_isHalved 54 = .ok (.goto (-49), 3) := by decide +kernel
theorem dX11_isHalved_57 : decode cX11_isHalved 57 = .ok (.iconst 0, 1) := by decide +kernel
theorem dX11_isHalved_58 : decode cX11_isHalved 58 = .ok (.ireturn, 1) := by decide +kernel
theorem dX11_halved_0 : decode cX11_halved 0 = .ok (.iload_n 1, 1) := by decide +kernel
theorem dX11_halved_1 : decode cX11_halved 1 = .ok (.iconst (-1), 1) := by decide +kernel
theorem dX11_halved_2 : decode cX11_halved 2 = .ok (.if_icmp .ge 10, 3) := by decide +kernel
theorem dX11_halved_5 : decode cX11_halved 5 = .ok (.aload_n 0, 1) := by decide +kernel
theorem dX11_halved_6 : decode cX11_halved 6 = .ok (.bipush (-4), 2) := by decide +kernel
theorem dX11_halved_8 : decode cX11_halved 8 = .ok (.invokevirtual 62, 3) := by decide +kernel
theorem dX11_halved_11 : decode cX11_halved 11 = .ok (.ireturn, 1) := by decide +kernel
theorem dX11_halved_12 : decode cX11_halved 12 = .ok (.iload_n 1, 1) := by decide +kernel
theorem dX11_halved_13 : decode cX11_halved 13 = .ok (.iconst 4, 1) := by decide +kernel
theorem dX11_halved_14 : decode cX11_halved 14 = .ok (.if_icmp .le 9, 3) := by decide +kernel
theorem dX11_halved_17 : decode cX11_halved 17 = .ok (.aload_n 0, 1) := by decide +kernel
theorem dX11_halved_18 : decode cX11_halved 18 = .ok (.iconst (-1), 1) := by decide +kernel
theorem dX11_halved_19 : decode cX11_halved 19 = .ok (.invokevirtual 62, 3) := by decide +kernel
theorem dX11_halved_22 : decode cX11_halved 22 = .ok (.ireturn, 1) := by decide +kernel
theorem dX11_halved_23 : decode cX11_halved 23 = .ok (.aload_n 0, 1) := by decide +kernel
theorem dX11_halved_24 : decode cX11_halved 24 = .ok (.bipush (-9), 2) := by decide +kernel
theorem dX11_halved_26 : decode cX11_halved 26 = .ok (.invokevirtual 163, 3) := by decide +kernel
theorem dX11_halved_29 : decode cX11_halved 29 = .ok (.iconst 0, 1) := by decide +kernel
theorem dX11_halved_30 : decode cX11_halved 30 = .ok (.istore_n 2, 1) := by decide +kernel
theorem dX11_halved_31 : decode cX11_halved 31 = .ok (.iconst 0, 1) := by decide +kernel
theorem dX11_halved_32 : decode cX11_halved 32 = .ok (.istore_n 3, 1) := by decide +kernel
theorem dX11_halved_33 : decode cX11_halved 33 = .ok (.iload_n 3, 1) := by decide +kernel
theorem dX11_halved_34 : decode cX11_halved 34 = .ok (.iconst 5, 1) := by decide +kernel
theorem dX11_halved_35 : decode cX11_halved 35 = .ok (.if_icmp .ge 29, 3) := by decide +kernel
theorem dX11_halved_38 : decode cX11_halved 38 = .ok (.iload_n 1, 1) := by decide +kernel
theorem dX11_halved_39 : decode cX11_halved 39 = .ok (.ifCond .lt 8, 3) := by decide +kernel
theorem dX11_halved_42 : decode cX11_halved 42 = .ok (.iload_n 3, 1) := by decide +kernel
theorem dX11_halved_43 : decode cX11_halved 43 = .ok (.iload_n 1, 1) := by decide +kernel
theorem dX11_halved_44 : decode cX11_halved 44 = .ok (.if_icmp .ne 14, 3) := by decide +kernel
theorem dX11_halved_47 : decode cX11_halved 47 = .ok (.aload_n 0, 1) := by decide +kernel
theorem dX11_halved_48 : decode cX11_halved 48 = .ok (.iload_n 3, 1) := by decide +kernel
theorem dX11_halved_49 : decode cX11_halved 49 = .ok (.invokevirtual 189, 3) := by decide +kernel
theorem dX11_halved_52 : decode cX11_halved 52 = .ok (.ifCond .eq 6, 3) := by decide +kernel
theorem dX11_halved_55 : decode cX11_halved 55 = .ok (.iinc 2 1, 3) := by decide +kernel
theorem dX11_halved_58 : decode cX11_halved 58 = .ok (.iinc 3 1, 3) := by decide +kernel
theorem dX11_halved_61 : decode cX11_halved 61 = .ok (.goto (-28), 3) := by decide +kernel
theorem dX11_halved_64 : decode cX11_halved 64 = .ok (.iload_n 2, 1) := by decide +kernel
theorem dX11_halved_65 : decode cX11_halved 65 = .ok (.ireturn, 1) := by decide +kernel
theorem dX11_heard_0 : decode cX11_heard 0 = .ok (.iload_n 1, 1) := by decide +kernel
theorem dX11_heard_1 : decode cX11_heard 1 = .ok (.ifCond .ge 10, 3) := by decide +kernel
theorem dX11_heard_4 : decode cX11_heard 4 = .ok (.aload_n 0, 1) := by decide +kernel
theorem dX11_heard_5 : decode cX11_heard 5 = .ok (.bipush (-4), 2) := by decide +kernel
theorem dX11_heard_7 : decode cX11_heard 7 = .ok (.invokevirtual 62, 3) := by decide +kernel
theorem dX11_heard_10 : decode cX11_heard 10 = .ok (.ireturn, 1) := by decide +kernel
theorem dX11_heard_11 : decode cX11_heard 11 = .ok (.iload_n 1, 1) := by decide +kernel
theorem dX11_heard_12 : decode cX11_heard 12 = .ok (.sipush 999, 3) := by decide +kernel
theorem dX11_heard_15 : decode cX11_heard 15 = .ok (.if_icmp .le 10, 3) := by decide +kernel
theorem dX11_heard_18 : decode cX11_heard 18 = .ok (.aload_n 0, 1) := by decide +kernel
theorem dX11_heard_19 : decode cX11_heard 19 = .ok (.bipush (-6), 2) := by decide +kernel
theorem dX11_heard_21 : decode cX11_heard 21 = .ok (.invokevirtual 62, 3) := by decide +kernel
theorem dX11_heard_24 : decode cX11_heard 24 = .ok (.ireturn, 1) := by decide +kernel
theorem dX11_heard_25 : decode cX11_heard 25 = .ok (.bipush (-9), 2) := by decide +kernel
theorem dX11_heard_27 : decode cX11_heard 27 = .ok (.istore_n 2, 1) := by decide +kernel
theorem dX11_heard_28 : decode cX11_heard 28 = .ok (.iconst 0, 1) := by decide +kernel
theorem dX11_heard_29 : decode cX11_heard 29 = .ok (.istore_n 3, 1) := by decide +kernel
theorem dX11_heard_30 : decode cX11_heard 30 = .ok (.iload_n 3, 1) := by decide +kernel
theorem dX11_heard_31 : decode cX11_heard 31 = .ok (.iconst 5, 1) := by decide +kernel
theorem dX11_heard_32 : decode cX11_heard 32 = .ok (.if_icmp .ge 20, 3) := by decide +kernel
theorem dX11_heard_35 : decode cX11_heard 35 = .ok (.aload_n 0, 1) := by decide +kernel
theorem dX11_heard_36 : decode cX11_heard 36 = .ok (.iload_n 3, 1) := by decide +kernel
theorem dX11_heard_37 : decode cX11_heard 37 = .ok (.invokevirtual 142, 3) := by decide +kernel
theorem dX11_heard_40 : decode cX11_heard 40 = .ok (.iload_n 1, 1) := by decide +kernel
theorem dX11_heard_41 : decode cX11_heard 41 = .ok (.if_icmp .gt 5, 3) := by decide +kernel
theorem dX11_heard_44 : decode cX11_heard 44 = .ok (.iload_n 3, 1) := by decide +kernel
theorem dX11_heard_45 : decode cX11_heard 45 = .ok (.istore_n 2, 1) := by decide +kernel
theorem dX11_heard_46 : decode cX11_heard 46 = .ok (.iinc 3 1, 3) := by decide +kernel
theorem dX11_heard_49 : decode cX11_heard 49 = .ok (.goto (-19), 3) := by decide +kernel
theorem dX11_heard_52 : decode cX11_heard 52 = .ok (.iload_n 2, 1) := by decide +kernel
theorem dX11_heard_53 : decode cX11_heard 53 = .ok (.ireturn, 1) := by decide +kernel
theorem dX11_waits_0 : decode cX11_waits 0 = .ok (.iload_n 1, 1) := by decide +kernel
theorem dX11_waits_1 : decode cX11_waits 1 = .ok (.ifCond .ge 10, 3) := by decide +kernel
theorem dX11_waits_4 : decode cX11_waits 4 = .ok (.aload_n 0, 1) := by decide +kernel
theorem dX11_waits_5 : decode cX11_waits 5 = .ok (.bipush (-4), 2) := by decide +kernel
theorem dX11_waits_7 : decode cX11_waits 7 = .ok (.invokevirtual 62, 3) := by decide +kernel
theorem dX11_waits_10 : decode cX11_waits 10 = .ok (.ireturn, 1) := by decide +kernel
theorem dX11_waits_11 : decode cX11_waits 11 = .ok (.iload_n 1, 1) := by decide +kernel
theorem dX11_waits_12 : decode cX11_waits 12 = .ok (.sipush 999, 3) := by decide +kernel
theorem dX11_waits_15 : decode cX11_waits 15 = .ok (.if_icmp .le 10, 3) := by decide +kernel
theorem dX11_waits_18 : decode cX11_waits 18 = .ok (.aload_n 0, 1) := by decide +kernel
theorem dX11_waits_19 : decode cX11_waits 19 = .ok (.bipush (-6), 2) := by decide +kernel
theorem dX11_waits_21 : decode cX11_waits 21 = .ok (.invokevirtual 62, 3) := by decide +kernel
theorem dX11_waits_24 : decode cX11_waits 24 = .ok (.ireturn, 1) := by decide +kernel
theorem dX11_waits_25 : decode cX11_waits 25 = .ok (.aload_n 0, 1) := by decide +kernel
theorem dX11_waits_26 : decode cX11_waits 26 = .ok (.bipush (-9), 2) := by decide +kernel
theorem dX11_waits_28 : decode cX11_waits 28 = .ok (.invokevirtual 163, 3) := by decide +kernel
theorem dX11_waits_31 : decode cX11_waits 31 = .ok (.iconst 0, 1) := by decide +kernel
theorem dX11_waits_32 : decode cX11_waits 32 = .ok (.istore_n 2, 1) := by decide +kernel
theorem dX11_waits_33 : decode cX11_waits 33 = .ok (.iconst 0, 1) := by decide +kernel
theorem dX11_waits_34 : decode cX11_waits 34 = .ok (.istore_n 3, 1) := by decide +kernel
theorem dX11_waits_35 : decode cX11_waits 35 = .ok (.iload_n 3, 1) := by decide +kernel
theorem dX11_waits_36 : decode cX11_waits 36 = .ok (.aload_n 0, 1) := by decide +kernel
theorem dX11_waits_37 : decode cX11_waits 37 = .ok (.getfield 66, 3) := by decide +kernel
theorem dX11_waits_40 : decode cX11_waits 40 = .ok (.if_icmp .ge 39, 3) := by decide +kernel
theorem dX11_waits_43 : decode cX11_waits 43 = .ok (.aload_n 0, 1) := by decide +kernel
theorem dX11_waits_44 : decode cX11_waits 44 = .ok (.getfield 52, 3) := by decide +kernel
theorem dX11_waits_47 : decode cX11_waits 47 = .ok (.iload_n 3, 1) := by decide +kernel
theorem dX11_waits_48 : decode cX11_waits 48 = .ok (.iaload, 1) := by decide +kernel
theorem dX11_waits_49 : decode cX11_waits 49 = .ok (.iload_n 1, 1) := by decide +kernel
theorem dX11_waits_50 : decode cX11_waits 50 = .ok (.if_icmp .le 23, 3) := by decide +kernel
theorem dX11_waits_53 : decode cX11_waits 53 = .ok (.aload_n 0, 1) := by decide +kernel
theorem dX11_waits_54 : decode cX11_waits 54 = .ok (.aload_n 0, 1) := by decide +kernel
theorem dX11_waits_55 : decode cX11_waits 55 = .ok (.getfield 22, 3) := by decide +kernel
theorem dX11_waits_58 : decode cX11_waits 58 = .ok (.iload_n 3, 1) := by decide +kernel
theorem dX11_waits_59 : decode cX11_waits 59 = .ok (.iaload, 1) := by decide +kernel
theorem dX11_waits_60 : decode cX11_waits 60 = .ok (.invokevirtual 142, 3) := by decide +kernel
theorem dX11_waits_63 : decode cX11_waits 63 = .ok (.iload_n 1, 1) := by decide +kernel
theorem dX11_waits_64 : decode cX11_waits 64 = .ok (.if_icmp .gt 9, 3) := by decide +kernel
theorem dX11_waits_67 : decode cX11_waits 67 = .ok (.iload_n 2, 1) := by decide +kernel
theorem dX11_waits_68 : decode cX11_waits 68 = .ok (.iconst 1, 1) := by decide +kernel
theorem dX11_waits_69 : decode cX11_waits 69 = .ok (.iload_n 3, 1) := by decide +kernel
theorem dX11_waits_70 : decode cX11_waits 70 = .ok (.ishl, 1) := by decide +kernel
theorem dX11_waits_71 : decode cX11_waits 71 = .ok (.ior, 1) := by decide +kernel
theorem dX11_waits_72 : decode cX11_waits 72 = .ok (.istore_n 2, 1) := by decide +kernel
theorem dX11_waits_73 : decode cX11_waits 73 = .ok (.iinc 3 1, 3) := by decide +kernel
theorem dX11_waits_76 : decode cX11_waits 76 = .ok (.goto (-41), 3) := by decide +kernel
theorem dX11_waits_79 : decode cX11_waits 79 = .ok (.iload_n 2, 1) := by decide +kernel
theorem dX11_waits_80 : decode cX11_waits 80 = .ok (.ireturn, 1) := by decide +kernel
theorem dX11_stands_0 : decode cX11_stands 0 = .ok (.aload_n 0, 1) := by decide +kernel
theorem dX11_stands_1 : decode cX11_stands 1 = .ok (.bipush (-9), 2) := by decide +kernel
theorem dX11_stands_3 : decode cX11_stands 3 = .ok (.invokevirtual 163, 3) := by decide +kernel
theorem dX11_stands_6 : decode cX11_stands 6 = .ok (.iconst 0, 1) := by decide +kernel
theorem dX11_stands_7 : decode cX11_stands 7 = .ok (.istore_n 2, 1) := by decide +kernel
theorem dX11_stands_8 : decode cX11_stands 8 = .ok (.iconst 0, 1) := by decide +kernel
theorem dX11_stands_9 : decode cX11_stands 9 = .ok (.istore_n 3, 1) := by decide +kernel
theorem dX11_stands_10 : decode cX11_stands 10 = .ok (.iload_n 3, 1) := by decide +kernel
theorem dX11_stands_11 : decode cX11_stands 11 = .ok (.aload_n 0, 1) := by decide +kernel
theorem dX11_stands_12 : decode cX11_stands 12 = .ok (.getfield 66, 3) := by decide +kernel
theorem dX11_stands_15 : decode cX11_stands 15 = .ok (.if_icmp .ge 41, 3) := by decide +kernel
theorem dX11_stands_18 : decode cX11_stands 18 = .ok (.aload_n 0, 1) := by decide +kernel
theorem dX11_stands_19 : decode cX11_stands 19 = .ok (.getfield 22, 3) := by decide +kernel
theorem dX11_stands_22 : decode cX11_stands 22 = .ok (.iload_n 3, 1) := by decide +kernel
theorem dX11_stands_23 : decode cX11_stands 23 = .ok (.iaload, 1) := by decide +kernel
theorem dX11_stands_24 : decode cX11_stands 24 = .ok (.iload_n 1, 1) := by decide +kernel
theorem dX11_stands_25 : decode cX11_stands 25 = .ok (.if_icmp .eq 6, 3) := by decide +kernel
theorem dX11_stands_28 : decode cX11_stands 28 = .ok (.goto 22, 3) := by decide +kernel
theorem dX11_stands_31 : decode cX11_stands 31 = .ok (.aload_n 0, 1) := by decide +kernel
theorem dX11_stands_32 : decode cX11_stands 32 = .ok (.iload_n 3, 1) := by decide +kernel
theorem dX11_stands_33 : decode cX11_stands 33 = .ok (.invokevirtual 151, 3) := by decide +kernel
theorem dX11_stands_36 : decode cX11_stands 36 = .ok (.ifCond .le 6, 3) := by decide +kernel
theorem dX11_stands_39 : decode cX11_stands 39 = .ok (.bipush (-9), 2) := by decide +kernel
theorem dX11_stands_41 : decode cX11_stands 41 = .ok (.ireturn, 1) := by decide +kernel
theorem dX11_stands_42 : decode cX11_stands 42 = .ok (.iload_n 2, 1) := by decide +kernel
theorem dX11_stands_43 : decode cX11_stands 43 = .ok (.aload_n 0, 1) := by decide +kernel
theorem dX11_stands_44 : decode cX11_stands 44 = .ok (.iload_n 3, 1) := by decide +kernel
theorem dX11_stands_45 : decode cX11_stands 45 = .ok (.invokevirtual 160, 3) := by decide +kernel
theorem dX11_stands_48 : decode cX11_stands 48 = .ok (.iadd, 1) := by decide +kernel
theorem dX11_stands_49 : decode cX11_stands 49 = .ok (.istore_n 2, 1) := by decide +kernel
theorem dX11_stands_50 : decode cX11_stands 50 = .ok (.iinc 3 1, 3) := by decide +kernel
theorem dX11_stands_53 : decode cX11_stands 53 = .ok (.goto (-43), 3) := by decide +kernel
theorem dX11_stands_56 : decode cX11_stands 56 = .ok (.iload_n 2, 1) := by decide +kernel
theorem dX11_stands_57 : decode cX11_stands 57 = .ok (.ireturn, 1) := by decide +kernel
theorem dX11_send_0 : decode cX11_send 0 = .ok (.iload_n 1, 1) := by decide +kernel
theorem dX11_send_1 : decode cX11_send 1 = .ok (.iconst 0, 1) := by decide +kernel
theorem dX11_send_2 : decode cX11_send 2 = .ok (.iconst 4, 1) := by decide +kernel
theorem dX11_send_3 : decode cX11_send 3 = .ok (.invokestatic 70, 3) := by decide +kernel
theorem dX11_send_6 : decode cX11_send 6 = .ok (.ifCond .ne 9, 3) := by decide +kernel
theorem dX11_send_9 : decode cX11_send 9 = .ok (.aload_n 0, 1) := by decide +kernel
theorem dX11_send_10 : decode cX11_send 10 = .ok (.iconst (-1), 1) := by decide +kernel
theorem dX11_send_11 : decode cX11_send 11 = .ok (.invokevirtual 62, 3) := by decide +kernel
theorem dX11_send_14 : decode cX11_send 14 = .ok (.ireturn, 1) := by decide +kernel
theorem dX11_send_15 : decode cX11_send 15 = .ok (.iconst 0, 1) := by decide +kernel
theorem dX11_send_16 : decode cX11_send 16 = .ok (.istore_n 2, 1) := by decide +kernel
theorem dX11_send_17 : decode cX11_send 17 = .ok (.iconst 0, 1) := by decide +kernel
theorem dX11_send_18 : decode cX11_send 18 = .ok (.istore_n 3, 1) := by decide +kernel
theorem dX11_send_19 : decode cX11_send 19 = .ok (.iload_n 3, 1) := by decide +kernel
theorem dX11_send_20 : decode cX11_send 20 = .ok (.aload_n 0, 1) := by decide +kernel
theorem dX11_send_21 : decode cX11_send 21 = .ok (.getfield 66, 3) := by decide +kernel
theorem dX11_send_24 : decode cX11_send 24 = .ok (.if_icmp .ge 21, 3) := by decide +kernel
theorem dX11_send_27 : decode cX11_send 27 = .ok (.aload_n 0, 1) := by decide +kernel
theorem dX11_send_28 : decode cX11_send 28 = .ok (.getfield 22, 3) := by decide +kernel
theorem dX11_send_31 : decode cX11_send 31 = .ok (.iload_n 3, 1) := by decide +kernel
theorem dX11_send_32 : decode cX11_send 32 = .ok (.iaload, 1) := by decide +kernel
theorem dX11_send_33 : decode cX11_send 33 = .ok (.iload_n 1, 1) := by decide +kernel
theorem dX11_send_34 : decode cX11_send 34 = .ok (.if_icmp .ne 5, 3) := by decide +kernel
theorem dX11_send_37 : decode cX11_send 37 = .ok (.iconst 1, 1) := by decide +kernel
theorem dX11_send_38 : decode cX11_send 38 = .ok (.istore_n 2, 1) := by decide +kernel
theorem dX11_send_39 : decode cX11_send 39 = .ok (.iinc 3 1, 3) := by decide +kernel
theorem dX11_send_42 : decode cX11_send 42 = .ok (.goto (-23), 3) := by decide +kernel
theorem dX11_send_45 : decode cX11_send 45 = .ok (.iload_n 2, 1) := by decide +kernel
theorem dX11_send_46 : decode cX11_send 46 = .ok (.ifCond .ne 10, 3) := by decide +kernel
theorem dX11_send_49 : decode cX11_send 49 = .ok (.aload_n 0, 1) := by decide +kernel
theorem dX11_send_50 : decode cX11_send 50 = .ok (.bipush (-3), 2) := by decide +kernel
theorem dX11_send_52 : decode cX11_send 52 = .ok (.invokevirtual 62, 3) := by decide +kernel
theorem dX11_send_55 : decode cX11_send 55 = .ok (.ireturn, 1) := by decide +kernel
theorem dX11_send_56 : decode cX11_send 56 = .ok (.aload_n 0, 1) := by decide +kernel
theorem dX11_send_57 : decode cX11_send 57 = .ok (.getfield 28, 3) := by decide +kernel
theorem dX11_send_60 : decode cX11_send 60 = .ok (.iconst 5, 1) := by decide +kernel
theorem dX11_send_61 : decode cX11_send 61 = .ok (.iaload, 1) := by decide +kernel
theorem dX11_send_62 : decode cX11_send 62 = .ok (.istore_n 3, 1) := by decide +kernel
theorem dX11_send_63 : decode cX11_send 63 = .ok (.bipush (-9), 2) := by decide +kernel
theorem dX11_send_65 : decode cX11_send 65 = .ok (.istore 4, 2) := by decide +kernel
theorem dX11_send_67 : decode cX11_send 67 = .ok (.iconst 0, 1) := by decide +kernel
theorem dX11_send_68 : decode cX11_send 68 = .ok (.istore 5, 2) := by decide +kernel
theorem dX11_send_70 : decode cX11_send 70 = .ok (.iconst 0, 1) := by decide +kernel
theorem dX11_send_71 : decode cX11_send 71 = .ok (.istore 6, 2) := by decide +kernel
theorem dX11_send_73 : decode cX11_send 73 = .ok (.iload 6, 2) := by decide +kernel
theorem dX11_send_75 : decode cX11_send 75 = .ok (.sipush 400, 3) := by decide +kernel
theorem dX11_send_78 : decode cX11_send 78 = .ok (.if_icmp .gt 56, 3) := by decide +kernel
theorem dX11_send_81 : decode cX11_send 81 = .ok (.aload_n 0, 1) := by decide +kernel
theorem dX11_send_82 : decode cX11_send 82 = .ok (.getfield 28, 3) := by decide +kernel
theorem dX11_send_85 : decode cX11_send 85 = .ok (.iconst 5, 1) := by decide +kernel
theorem dX11_send_86 : decode cX11_send 86 = .ok (.iload 6, 2) := by decide +kernel
theorem dX11_send_88 : decode cX11_send 88 = .ok (.iastore, 1) := by decide +kernel
theorem dX11_send_89 : decode cX11_send 89 = .ok (.aload_n 0, 1) := by decide +kernel
theorem dX11_send_90 : decode cX11_send 90 = .ok (.iload_n 1, 1) := by decide +kernel
theorem dX11_send_91 : decode cX11_send 91 = .ok (.invokevirtual 192, 3) := by decide +kernel
theorem dX11_send_94 : decode cX11_send 94 = .ok (.istore 7, 2) := by decide +kernel
theorem dX11_send_96 : decode cX11_send 96 = .ok (.iload 7, 2) := by decide +kernel
theorem dX11_send_98 : decode cX11_send 98 = .ok (.bipush (-9), 2) := by decide +kernel
theorem dX11_send_100 : decode cX11_send 100 = .ok (.if_icmp .eq 28, 3) := by decide +kernel
theorem dX11_send_103 : decode cX11_send 103 = .ok (.iload 4, 2) := by decide +kernel
theorem dX11_send_105 : decode cX11_send 105 = .ok (.bipush (-9), 2) := by decide +kernel
theorem dX11_send_107 : decode cX11_send 107 = .ok (.if_icmp .eq 13, 3) := by decide +kernel
theorem dX11_send_110 : decode cX11_send 110 = .ok (.iload 7, 2) := by decide +kernel
theorem dX11_send_112 : decode cX11_send 112 = .ok (.iload 5, 2) := by decide +kernel
theorem dX11_send_114 : decode cX11_send 114 = .ok (.if_icmp .lt 6, 3) := by decide +kernel
theorem dX11_send_117 : decode cX11_send 117 = .ok (.goto 11, 3) := by decide +kernel
theorem dX11_send_120 : decode cX11_send 120 = .ok (.iload 7, 2) := by decide +kernel
theorem dX11_send_122 : decode cX11_send 122 = .ok (.istore 5, 2) := by decide +kernel
theorem dX11_send_124 : decode cX11_send 124 = .ok (.iload 6, 2) := by decide +kernel
theorem dX11_send_126 : decode cX11_send 126 = .ok (.istore 4, 2) := by decide +kernel
theorem dX11_send_128 : decode cX11_send 128 = .ok (.iinc 6 1, 3) := by decide +kernel
theorem dX11_send_131 : decode cX11_send 131 = .ok (.goto (-58), 3) := by decide +kernel
theorem dX11_send_134 : decode cX11_send 134 = .ok (.aload_n 0, 1) := by decide +kernel
theorem dX11_send_135 : decode cX11_send 135 = .ok (.getfield 28, 3) := by decide +kernel
theorem dX11_send_138 : decode cX11_send 138 = .ok (.iconst 5, 1) := by decide +kernel
theorem dX11_send_139 : decode cX11_send 139 = .ok (.iload_n 3, 1) := by decide +kernel
theorem dX11_send_140 : decode cX11_send 140 = .ok (.iastore, 1) := by decide +kernel
theorem dX11_send_141 : decode cX11_send 141 = .ok (.iload 4, 2) := by decide +kernel
theorem dX11_send_143 : decode cX11_send 143 = .ok (.ireturn, 1) := by decide +kernel
theorem dX11_row_0 : decode cX11_row 0 = .ok (.iload_n 1, 1) := by decide +kernel
theorem dX11_row_1 : decode cX11_row 1 = .ok (.ifCond .ge 10, 3) := by decide +kernel
theorem dX11_row_4 : decode cX11_row 4 = .ok (.aload_n 0, 1) := by decide +kernel
theorem dX11_row_5 : decode cX11_row 5 = .ok (.bipush (-4), 2) := by decide +kernel
theorem dX11_row_7 : decode cX11_row 7 = .ok (.invokevirtual 62, 3) := by decide +kernel
theorem dX11_row_10 : decode cX11_row 10 = .ok (.ireturn, 1) := by decide +kernel
theorem dX11_row_11 : decode cX11_row 11 = .ok (.iload_n 1, 1) := by decide +kernel
theorem dX11_row_12 : decode cX11_row 12 = .ok (.bipush 99, 2) := by decide +kernel
theorem dX11_row_14 : decode cX11_row 14 = .ok (.if_icmp .gt 12, 3) := by decide +kernel
theorem dX11_row_17 : decode cX11_row 17 = .ok (.aload_n 0, 1) := by decide +kernel
theorem dX11_row_18 : decode cX11_row 18 = .ok (.getfield 195, 3) := by decide +kernel
theorem dX11_row_21 : decode cX11_row 21 = .ok (.bipush 12, 2) := by decide +kernel
theorem dX11_row_23 : decode cX11_row 23 = .ok (.if_icmp .ne 10, 3) := by decide +kernel
theorem dX11_row_26 : decode cX11_row 26 = .ok (.aload_n 0, 1) := by decide +kernel
theorem dX11_row_27 : decode cX11_row 27 = .ok (.bipush (-6), 2) := by decide +kernel
theorem dX11_row_29 : decode cX11_row 29 = .ok (.invokevirtual 62, 3) := by decide +kernel
theorem dX11_row_32 : decode cX11_row 32 = .ok (.ireturn, 1) := by decide +kernel
theorem dX11_row_33 : decode cX11_row 33 = .ok (.aload_n 0, 1) := by decide +kernel
theorem dX11_row_34 : decode cX11_row 34 = .ok (.getfield 40, 3) := by decide +kernel
theorem dX11_row_37 : decode cX11_row 37 = .ok (.aload_n 0, 1) := by decide +kernel
theorem dX11_row_38 : decode cX11_row 38 = .ok (.dup, 1) := by decide +kernel
theorem dX11_row_39 : decode cX11_row 39 = .ok (.getfield 195, 3) := by decide +kernel
theorem dX11_row_42 : decode cX11_row 42 = .ok (.dup_x1, 1) := by decide +kernel
theorem dX11_row_43 : decode cX11_row 43 = .ok (.iconst 1, 1) := by decide +kernel
theorem dX11_row_44 : decode cX11_row 44 = .ok (.iadd, 1) := by decide +kernel
theorem dX11_row_45 : decode cX11_row 45 = .ok (.putfield 195, 3) := by decide +kernel
theorem dX11_row_48 : decode cX11_row 48 = .ok (.iload_n 1, 1) := by decide +kernel
theorem dX11_row_49 : decode cX11_row 49 = .ok (.iastore, 1) := by decide +kernel
theorem dX11_row_50 : decode cX11_row 50 = .ok (.aload_n 0, 1) := by decide +kernel
theorem dX11_row_51 : decode cX11_row 51 = .ok (.getfield 195, 3) := by decide +kernel
theorem dX11_row_54 : decode cX11_row 54 = .ok (.ireturn, 1) := by decide +kernel
theorem dX11_wrong_0 : decode cX11_wrong 0 = .ok (.aload_n 0, 1) := by decide +kernel
theorem dX11_wrong_1 : decode cX11_wrong 1 = .ok (.bipush (-9), 2) := by decide +kernel
theorem dX11_wrong_3 : decode cX11_wrong 3 = .ok (.invokevirtual 163, 3) := by decide +kernel
theorem dX11_wrong_6 : decode cX11_wrong 6 = .ok (.iconst 0, 1) := by decide +kernel
theorem dX11_wrong_7 : decode cX11_wrong 7 = .ok (.istore_n 1, 1) := by decide +kernel
theorem dX11_wrong_8 : decode cX11_wrong 8 = .ok (.iload_n 1, 1) := by decide +kernel
theorem dX11_wrong_9 : decode cX11_wrong 9 = .ok (.aload_n 0, 1) := by decide +kernel
theorem dX11_wrong_10 : decode cX11_wrong 10 = .ok (.getfield 195, 3) := by decide +kernel
theorem dX11_wrong_13 : decode cX11_wrong 13 = .ok (.if_icmp .ge 39, 3) := by decide +kernel
theorem dX11_wrong_16 : decode cX11_wrong 16 = .ok (.iload_n 1, 1) := by decide +kernel
theorem dX11_wrong_17 : decode cX11_wrong 17 = .ok (.aload_n 0, 1) := by decide +kernel
theorem dX11_wrong_18 : decode cX11_wrong 18 = .ok (.getfield 66, 3) := by decide +kernel
theorem dX11_wrong_21 : decode cX11_wrong 21 = .ok (.if_icmp .ge 23, 3) := by decide +kernel
theorem dX11_wrong_24 : decode cX11_wrong 24 = .ok (.aload_n 0, 1) := by decide +kernel
theorem dX11_wrong_25 : decode cX11_wrong 25 = .ok (.getfield 55, 3) := by decide +kernel
theorem dX11_wrong_28 : decode cX11_wrong 28 = .ok (.aload_n 0, 1) := by decide +kernel
theorem dX11_wrong_29 : decode cX11_wrong 29 = .ok (.getfield 25, 3) := by decide +kernel
theorem dX11_wrong_32 : decode cX11_wrong 32 = .ok (.iload_n 1, 1) := by decide +kernel
theorem dX11_wrong_33 : decode cX11_wrong 33 = .ok (.iaload, 1) := by decide +kernel
theorem dX11_wrong_34 : decode cX11_wrong 34 = .ok (.iaload, 1) := by decide +kernel
theorem dX11_wrong_35 : decode cX11_wrong 35 = .ok (.aload_n 0, 1) := by decide +kernel
theorem dX11_wrong_36 : decode cX11_wrong 36 = .ok (.getfield 40, 3) := by decide +kernel
theorem dX11_wrong_39 : decode cX11_wrong 39 = .ok (.iload_n 1, 1) := by decide +kernel
theorem dX11_wrong_40 : decode cX11_wrong 40 = .ok (.iaload, 1) := by decide +kernel
theorem dX11_wrong_41 : decode cX11_wrong 41 = .ok (.if_icmp .eq 5, 3) := by decide +kernel
theorem dX11_wrong_44 : decode cX11_wrong 44 = .ok (.iload_n 1, 1) := by decide +kernel
theorem dX11_wrong_45 : decode cX11_wrong 45 = .ok (.ireturn, 1) := by decide +kernel
theorem dX11_wrong_46 : decode cX11_wrong 46 = .ok (.iinc 1 1, 3) := by decide +kernel
theorem dX11_wrong_49 : decode cX11_wrong 49 = .ok (.goto (-41), 3) := by decide +kernel
theorem dX11_wrong_52 : decode cX11_wrong 52 = .ok (.bipush (-9), 2) := by decide +kernel
theorem dX11_wrong_54 : decode cX11_wrong 54 = .ok (.ireturn, 1) := by decide +kernel
theorem dX11_fits_0 : decode cX11_fits 0 = .ok (.iload_n 1, 1) := by decide +kernel
theorem dX11_fits_1 : decode cX11_fits 1 = .ok (.iconst (-1), 1) := by decide +kernel
theorem dX11_fits_2 : decode cX11_fits 2 = .ok (.if_icmp .ge 10, 3) := by decide +kernel
theorem dX11_fits_5 : decode cX11_fits 5 = .ok (.aload_n 0, 1) := by decide +kernel
theorem dX11_fits_6 : decode cX11_fits 6 = .ok (.bipush (-4), 2) := by decide +kernel
theorem dX11_fits_8 : decode cX11_fits 8 = .ok (.invokevirtual 62, 3) := by decide +kernel
theorem dX11_fits_11 : decode cX11_fits 11 = .ok (.ireturn, 1) := by decide +kernel
theorem dX11_fits_12 : decode cX11_fits 12 = .ok (.iload_n 1, 1) := by decide +kernel
theorem dX11_fits_13 : decode cX11_fits 13 = .ok (.aload_n 0, 1) := by decide +kernel
theorem dX11_fits_14 : decode cX11_fits 14 = .ok (.getfield 66, 3) := by decide +kernel
theorem dX11_fits_17 : decode cX11_fits 17 = .ok (.if_icmp .lt 9, 3) := by decide +kernel
theorem dX11_fits_20 : decode cX11_fits 20 = .ok (.aload_n 0, 1) := by decide +kernel
theorem dX11_fits_21 : decode cX11_fits 21 = .ok (.iconst (-1), 1) := by decide +kernel
theorem dX11_fits_22 : decode cX11_fits 22 = .ok (.invokevirtual 62, 3) := by decide +kernel
theorem dX11_fits_25 : decode cX11_fits 25 = .ok (.ireturn, 1) := by decide +kernel
theorem dX11_fits_26 : decode cX11_fits 26 = .ok (.aload_n 0, 1) := by decide +kernel
theorem dX11_fits_27 : decode cX11_fits 27 = .ok (.aload_n 0, 1) := by decide +kernel
theorem dX11_fits_28 : decode cX11_fits 28 = .ok (.getfield 49, 3) := by decide +kernel
theorem dX11_fits_31 : decode cX11_fits 31 = .ok (.invokevirtual 111, 3) := by decide +kernel
theorem dX11_fits_34 : decode cX11_fits 34 = .ok (.aload_n 0, 1) := by decide +kernel
theorem dX11_fits_35 : decode cX11_fits 35 = .ok (.invokevirtual 173, 3) := by decide +kernel
theorem dX11_fits_38 : decode cX11_fits 38 = .ok (.iconst 0, 1) := by decide +kernel
theorem dX11_fits_39 : decode cX11_fits 39 = .ok (.istore_n 2, 1) := by decide +kernel
theorem dX11_fits_40 : decode cX11_fits 40 = .ok (.iconst 1, 1) := by decide +kernel
theorem dX11_fits_41 : decode cX11_fits 41 = .ok (.istore_n 3, 1) := by decide +kernel
theorem dX11_fits_42 : decode cX11_fits 42 = .ok (.iload_n 3, 1) := by decide +kernel
theorem dX11_fits_43 : decode cX11_fits 43 = .ok (.ifCond .eq 59, 3) := by decide +kernel
theorem dX11_fits_46 : decode cX11_fits 46 = .ok (.aload_n 0, 1) := by decide +kernel
theorem dX11_fits_47 : decode cX11_fits 47 = .ok (.invokevirtual 198, 3) := by decide +kernel
theorem dX11_fits_50 : decode cX11_fits 50 = .ok (.bipush (-9), 2) := by decide +kernel
theorem dX11_fits_52 : decode cX11_fits 52 = .ok (.if_icmp .ne 42, 3) := by decide +kernel
theorem dX11_fits_55 : decode cX11_fits 55 = .ok (.iload_n 2, 1) := by decide +kernel
theorem dX11_fits_56 : decode cX11_fits 56 = .ok (.ifCond .ne 35, 3) := by decide +kernel
theorem dX11_fits_59 : decode cX11_fits 59 = .ok (.iconst 0, 1) := by decide +kernel
theorem dX11_fits_60 : decode cX11_fits 60 = .ok (.istore 4, 2) := by decide +kernel
theorem dX11_fits_62 : decode cX11_fits 62 = .ok (.iload 4, 2) := by decide +kernel
theorem dX11_fits_64 : decode cX11_fits 64 = .ok (.aload_n 0, 1) := by decide +kernel
theorem dX11_fits_65 : decode cX11_fits 65 = .ok (.getfield 66, 3) := by decide +kernel
theorem dX11_fits_68 : decode cX11_fits 68 = .ok (.if_icmp .ge 23, 3) := by decide +kernel
theorem dX11_fits_71 : decode cX11_fits 71 = .ok (.aload_n 0, 1) := by decide +kernel
theorem dX11_fits_72 : decode cX11_fits 72 = .ok (.getfield 58, 3) := by decide +kernel
theorem dX11_fits_75 : decode cX11_fits 75 = .ok (.iload 4, 2) := by decide +kernel
theorem dX11_fits_77 : decode cX11_fits 77 = .ok (.aload_n 0, 1) := by decide +kernel
theorem dX11_fits_78 : decode cX11_fits 78 = .ok (.getfield 25, 3) := by decide +kernel
theorem dX11_fits_81 : decode cX11_fits 81 = .ok (.iload 4, 2) := by decide +kernel
theorem dX11_fits_83 : decode cX11_fits 83 = .ok (.iaload, 1) := by decide +kernel
theorem dX11_fits_84 : decode cX11_fits 84 = .ok (.iastore, 1) := by decide +kernel
theorem dX11_fits_85 : decode cX11_fits 85 = .ok (.iinc 4 1, 3) := by decide +kernel
theorem dX11_fits_88 : decode cX11_fits 88 = .ok (.goto (-26), 3) := by decide +kernel
theorem dX11_fits_91 : decode cX11_fits 91 = .ok (.iinc 2 1, 3) := by decide +kernel
theorem dX11_fits_94 : decode cX11_fits 94 = .ok (.aload_n 0, 1) := by decide +kernel
theorem dX11_fits_95 : decode cX11_fits 95 = .ok (.invokevirtual 175, 3) := by decide +kernel
theorem dX11_fits_98 : decode cX11_fits 98 = .ok (.istore_n 3, 1) := by decide +kernel
theorem dX11_fits_99 : decode cX11_fits 99 = .ok (.goto (-57), 3) := by decide +kernel
theorem dX11_fits_102 : decode cX11_fits 102 = .ok (.aload_n 0, 1) := by decide +kernel
theorem dX11_fits_103 : decode cX11_fits 103 = .ok (.aload_n 0, 1) := by decide +kernel
theorem dX11_fits_104 : decode cX11_fits 104 = .ok (.getfield 49, 3) := by decide +kernel
theorem dX11_fits_107 : decode cX11_fits 107 = .ok (.invokevirtual 115, 3) := by decide +kernel
theorem dX11_fits_110 : decode cX11_fits 110 = .ok (.iload_n 1, 1) := by decide +kernel
theorem dX11_fits_111 : decode cX11_fits 111 = .ok (.ifCond .ge 7, 3) := by decide +kernel
theorem dX11_fits_114 : decode cX11_fits 114 = .ok (.iload_n 2, 1) := by decide +kernel
theorem dX11_fits_115 : decode cX11_fits 115 = .ok (.goto 18, 3) := by decide +kernel
theorem dX11_fits_118 : decode cX11_fits 118 = .ok (.iload_n 2, 1) := by decide +kernel
theorem dX11_fits_119 : decode cX11_fits 119 = .ok (.ifCond .ne 8, 3) := by decide +kernel
theorem dX11_fits_122 : decode cX11_fits 122 = .ok (.bipush (-9), 2) := by decide +kernel
theorem dX11_fits_124 : decode cX11_fits 124 = .ok (.goto 9, 3) := by decide +kernel
theorem dX11_fits_127 : decode cX11_fits 127 = .ok (.aload_n 0, 1) := by decide +kernel
theorem dX11_fits_128 : decode cX11_fits 128 = .ok (.getfield 58, 3) := by decide +kernel
theorem dX11_fits_131 : decode cX11_fits 131 = .ok (.iload_n 1, 1) := by decide +kernel
theorem dX11_fits_132 : decode cX11_fits 132 = .ok (.iaload, 1) := by decide +kernel
theorem dX11_fits_133 : decode cX11_fits 133 = .ok (.ireturn, 1) := by decide +kernel
theorem dX11_judge_0 : decode cX11_judge 0 = .ok (.aload_n 0, 1) := by decide +kernel
theorem dX11_judge_1 : decode cX11_judge 1 = .ok (.invokevirtual 198, 3) := by decide +kernel
theorem dX11_judge_4 : decode cX11_judge 4 = .ok (.istore_n 1, 1) := by decide +kernel
theorem dX11_judge_5 : decode cX11_judge 5 = .ok (.aload_n 0, 1) := by decide +kernel
theorem dX11_judge_6 : decode cX11_judge 6 = .ok (.iconst 0, 1) := by decide +kernel
theorem dX11_judge_7 : decode cX11_judge 7 = .ok (.putfield 195, 3) := by decide +kernel
theorem dX11_judge_10 : decode cX11_judge 10 = .ok (.iload_n 1, 1) := by decide +kernel
theorem dX11_judge_11 : decode cX11_judge 11 = .ok (.ireturn, 1) := by decide +kernel
theorem dX11_lots_0 : decode cX11_lots 0 = .ok (.iload_n 1, 1) := by decide +kernel
theorem dX11_lots_1 : decode cX11_lots 1 = .ok (.iconst 1, 1) := by decide +kernel
theorem dX11_lots_2 : decode cX11_lots 2 = .ok (.if_icmp .ge 10, 3) := by decide +kernel
theorem dX11_lots_5 : decode cX11_lots 5 = .ok (.aload_n 0, 1) := by decide +kernel
theorem dX11_lots_6 : decode cX11_lots 6 = .ok (.bipush (-4), 2) := by decide +kernel
theorem dX11_lots_8 : decode cX11_lots 8 = .ok (.invokevirtual 62, 3) := by decide +kernel
theorem dX11_lots_11 : decode cX11_lots 11 = .ok (.ireturn, 1) := by decide +kernel
theorem dX11_lots_12 : decode cX11_lots 12 = .ok (.iload_n 1, 1) := by decide +kernel
theorem dX11_lots_13 : decode cX11_lots 13 = .ok (.bipush 20, 2) := by decide +kernel
theorem dX11_lots_15 : decode cX11_lots 15 = .ok (.if_icmp .le 10, 3) := by decide +kernel
theorem dX11_lots_18 : decode cX11_lots 18 = .ok (.aload_n 0, 1) := by decide +kernel
theorem dX11_lots_19 : decode cX11_lots 19 = .ok (.bipush (-6), 2) := by decide +kernel
theorem dX11_lots_21 : decode cX11_lots 21 = .ok (.invokevirtual 62, 3) := by decide +kernel
theorem dX11_lots_24 : decode cX11_lots 24 = .ok (.ireturn, 1) := by decide +kernel
theorem dX11_lots_25 : decode cX11_lots 25 = .ok (.aload_n 0, 1) := by decide +kernel
theorem dX11_lots_26 : decode cX11_lots 26 = .ok (.aload_n 0, 1) := by decide +kernel
theorem dX11_lots_27 : decode cX11_lots 27 = .ok (.getfield 49, 3) := by decide +kernel
theorem dX11_lots_30 : decode cX11_lots 30 = .ok (.invokevirtual 111, 3) := by decide +kernel
theorem dX11_lots_33 : decode cX11_lots 33 = .ok (.iload_n 2, 1) := by decide +kernel
theorem dX11_lots_34 : decode cX11_lots 34 = .ok (.istore_n 3, 1) := by decide +kernel
theorem dX11_lots_35 : decode cX11_lots 35 = .ok (.iconst 0, 1) := by decide +kernel
theorem dX11_lots_36 : decode cX11_lots 36 = .ok (.istore 4, 2) := by decide +kernel
theorem dX11_lots_38 : decode cX11_lots 38 = .ok (.iconst 0, 1) := by decide +kernel
theorem dX11_lots_39 : decode cX11_lots 39 = .ok (.istore 5, 2) := by decide +kernel
theorem dX11_lots_41 : decode cX11_lots 41 = .ok (.iload 5, 2) := by decide +kernel
theorem dX11_lots_43 : decode cX11_lots 43 = .ok (.iload_n 1, 1) := by decide +kernel
theorem dX11_lots_44 : decode cX11_lots 44 = .ok (.if_icmp .ge 66, 3) := by decide +kernel
theorem dX11_lots_47 : decode cX11_lots 47 = .ok (.iconst 0, 1) := by decide +kernel
theorem dX11_lots_48 : decode cX11_lots 48 = .ok (.istore 6, 2) := by decide +kernel
theorem dX11_lots_50 : decode cX11_lots 50 = .ok (.iload 6, 2) := by decide +kernel
theorem dX11_lots_52 : decode cX11_lots 52 = .ok (.iconst 5, 1) := by decide +kernel
theorem dX11_lots_53 : decode cX11_lots 53 = .ok (.if_icmp .ge 35, 3) := by decide +kernel
theorem dX11_lots_56 : decode cX11_lots 56 = .ok (.iload_n 3, 1) := by decide +kernel
theorem dX11_lots_57 : decode cX11_lots 57 = .ok (.ldc 201, 2) := by decide +kernel
theorem dX11_lots_59 : decode cX11_lots 59 = .ok (.imul, 1) := by decide +kernel
theorem dX11_lots_60 : decode cX11_lots 60 = .ok (.ldc 202, 2) := by decide +kernel
theorem dX11_lots_62 : decode cX11_lots 62 = .ok (.iadd, 1) := by decide +kernel
theorem dX11_lots_63 : decode cX11_lots 63 = .ok (.istore_n 3, 1) := by decide +kernel
theorem dX11_lots_64 : decode cX11_lots 64 = .ok (.aload_n 0, 1) := by decide +kernel
theorem dX11_lots_65 : decode cX11_lots 65 = .ok (.getfield 31, 3) := by decide +kernel
theorem dX11_lots_68 : decode cX11_lots 68 = .ok (.iload 6, 2) := by decide +kernel
theorem dX11_lots_70 : decode cX11_lots 70 = .ok (.iload_n 3, 1) := by decide +kernel
theorem dX11_lots_71 : decode cX11_lots 71 = .ok (.ldc 203, 2) := by decide +kernel
theorem dX11_lots_73 : decode cX11_lots 73 = .ok (.iand, 1) := by decide +kernel
theorem dX11_lots_74 : decode cX11_lots 74 = .ok (.sipush 256, 3) := by decide +kernel
theorem dX11_lots_77 : decode cX11_lots 77 = .ok (.idiv, 1) := by decide +kernel
theorem dX11_lots_78 : decode cX11_lots 78 = .ok (.bipush 100, 2) := by decide +kernel
theorem dX11_lots_80 : decode cX11_lots 80 = .ok (.irem, 1) := by decide +kernel
theorem dX11_lots_81 : decode cX11_lots 81 = .ok (.iastore, 1) := by decide +kernel
theorem dX11_lots_82 : decode cX11_lots 82 = .ok (.iinc 6 1, 3) := by decide +kernel
theorem dX11_lots_85 : decode cX11_lots 85 = .ok (.goto (-35), 3) := by decide +kernel
theorem dX11_lots_88 : decode cX11_lots 88 = .ok (.aload_n 0, 1) := by decide +kernel
theorem dX11_lots_89 : decode cX11_lots 89 = .ok (.bipush (-9), 2) := by decide +kernel
theorem dX11_lots_91 : decode cX11_lots 91 = .ok (.invokevirtual 163, 3) := by decide +kernel
theorem dX11_lots_94 : decode cX11_lots 94 = .ok (.iload 4, 2) := by decide +kernel
theorem dX11_lots_96 : decode cX11_lots 96 = .ok (.aload_n 0, 1) := by decide +kernel
theorem dX11_lots_97 : decode cX11_lots 97 = .ok (.iconst 0, 1) := by decide +kernel
theorem dX11_lots_98 : decode cX11_lots 98 = .ok (.invokevirtual 167, 3) := by decide +kernel
theorem dX11_lots_101 : decode cX11_lots 101 = .ok (.iadd, 1) := by decide +kernel
theorem dX11_lots_102 : decode cX11_lots 102 = .ok (.istore 4, 2) := by decide +kernel
theorem dX11_lots_104 : decode cX11_lots 104 = .ok (.iinc 5 1, 3) := by decide +kernel
theorem dX11_lots_107 : decode cX11_lots 107 = .ok (.goto (-66), 3) := by decide +kernel
theorem dX11_lots_110 : decode cX11_lots 110 = .ok (.aload_n 0, 1) := by decide +kernel
theorem dX11_lots_111 : decode cX11_lots 111 = .ok (.aload_n 0, 1) := by decide +kernel
theorem dX11_lots_112 : decode cX11_lots 112 = .ok (.getfield 49, 3) := by decide +kernel
theorem dX11_lots_115 : decode cX11_lots 115 = .ok (.invokevirtual 115, 3) := by decide +kernel
theorem dX11_lots_118 : decode cX11_lots 118 = .ok (.iload 4, 2) := by decide +kernel
theorem dX11_lots_120 : decode cX11_lots 120 = .ok (.ireturn, 1) := by decide +kernel
theorem dX11_keep_0 : decode cX11_keep 0 = .ok (.iconst 0, 1) := by decide +kernel
theorem dX11_keep_1 : decode cX11_keep 1 = .ok (.istore_n 2, 1) := by decide +kernel
theorem dX11_keep_2 : decode cX11_keep 2 = .ok (.iload_n 2, 1) := by decide +kernel
theorem dX11_keep_3 : decode cX11_keep 3 = .ok (.bipush 6, 2) := by decide +kernel
theorem dX11_keep_5 : decode cX11_keep 5 = .ok (.if_icmp .ge 90, 3) := by decide +kernel
theorem dX11_keep_8 : decode cX11_keep 8 = .ok (.aload_n 1, 1) := by decide +kernel
theorem dX11_keep_9 : decode cX11_keep 9 = .ok (.iload_n 2, 1) := by decide +kernel
theorem dX11_keep_10 : decode cX11_keep 10 = .ok (.aload_n 0, 1) := by decide +kernel
theorem dX11_keep_11 : decode cX11_keep 11 = .ok (.getfield 7, 3) := by decide +kernel
theorem dX11_keep_14 : decode cX11_keep 14 = .ok (.iload_n 2, 1) := by decide +kernel
theorem dX11_keep_15 : decode cX11_keep 15 = .ok (.iaload, 1) := by decide +kernel
theorem dX11_keep_16 : decode cX11_keep 16 = .ok (.iastore, 1) := by decide +kernel
theorem dX11_keep_17 : decode cX11_keep 17 = .ok (.aload_n 1, 1) := by decide +kernel
theorem dX11_keep_18 : decode cX11_keep 18 = .ok (.bipush 6, 2) := by decide +kernel
theorem dX11_keep_20 : decode cX11_keep 20 = .ok (.iload_n 2, 1) := by decide +kernel
theorem dX11_keep_21 : decode cX11_keep 21 = .ok (.iadd, 1) := by decide +kernel
theorem dX11_keep_22 : decode cX11_keep 22 = .ok (.aload_n 0, 1) := by decide +kernel
theorem dX11_keep_23 : decode cX11_keep 23 = .ok (.getfield 13, 3) := by decide +kernel
theorem dX11_keep_26 : decode cX11_keep 26 = .ok (.iload_n 2, 1) := by decide +kernel
theorem dX11_keep_27 : decode cX11_keep 27 = .ok (.iaload, 1) := by decide +kernel
theorem dX11_keep_28 : decode cX11_keep 28 = .ok (.iastore, 1) := by decide +kernel
theorem dX11_keep_29 : decode cX11_keep 29 = .ok (.aload_n 1, 1) := by decide +kernel
theorem dX11_keep_30 : decode cX11_keep 30 = .ok (.bipush 12, 2) := by decide +kernel
theorem dX11_keep_32 : decode cX11_keep 32 = .ok (.iload_n 2, 1) := by decide +kernel
theorem dX11_keep_33 : decode cX11_keep 33 = .ok (.iadd, 1) := by decide +kernel
theorem dX11_keep_34 : decode cX11_keep 34 = .ok (.aload_n 0, 1) := by decide +kernel
theorem dX11_keep_35 : decode cX11_keep 35 = .ok (.getfield 16, 3) := by decide +kernel
theorem dX11_keep_38 : decode cX11_keep 38 = .ok (.iload_n 2, 1) := by decide +kernel
theorem dX11_keep_39 : decode cX11_keep 39 = .ok (.iaload, 1) := by decide +kernel
theorem dX11_keep_40 : decode cX11_keep 40 = .ok (.iastore, 1) := by decide +kernel
theorem dX11_keep_41 : decode cX11_keep 41 = .ok (.aload_n 1, 1) := by decide +kernel
theorem dX11_keep_42 : decode cX11_keep 42 = .ok (.bipush 18, 2) := by decide +kernel
theorem dX11_keep_44 : decode cX11_keep 44 = .ok (.iload_n 2, 1) := by decide +kernel
theorem dX11_keep_45 : decode cX11_keep 45 = .ok (.iadd, 1) := by decide +kernel
theorem dX11_keep_46 : decode cX11_keep 46 = .ok (.aload_n 0, 1) := by decide +kernel
theorem dX11_keep_47 : decode cX11_keep 47 = .ok (.getfield 19, 3) := by decide +kernel
theorem dX11_keep_50 : decode cX11_keep 50 = .ok (.iload_n 2, 1) := by decide +kernel
theorem dX11_keep_51 : decode cX11_keep 51 = .ok (.iaload, 1) := by decide +kernel
theorem dX11_keep_52 : decode cX11_keep 52 = .ok (.iastore, 1) := by decide +kernel
theorem dX11_keep_53 : decode cX11_keep 53 = .ok (.aload_n 1, 1) := by decide +kernel
theorem dX11_keep_54 : decode cX11_keep 54 = .ok (.bipush 24, 2) := by decide +kernel
theorem dX11_keep_56 : decode cX11_keep 56 = .ok (.iload_n 2, 1) := by decide +kernel
theorem dX11_keep_57 : decode cX11_keep 57 = .ok (.iadd, 1) := by decide +kernel
theorem dX11_keep_58 : decode cX11_keep 58 = .ok (.aload_n 0, 1) := by decide +kernel
theorem dX11_keep_59 : decode cX11_keep 59 = .ok (.getfield 22, 3) := by decide +kernel
theorem dX11_keep_62 : decode cX11_keep 62 = .ok (.iload_n 2, 1) := by decide +kernel
theorem dX11_keep_63 : decode cX11_keep 63 = .ok (.iaload, 1) := by decide +kernel
theorem dX11_keep_64 : decode cX11_keep 64 = .ok (.iastore, 1) := by decide +kernel
theorem dX11_keep_65 : decode cX11_keep 65 = .ok (.aload_n 1, 1) := by decide +kernel
theorem dX11_keep_66 : decode cX11_keep 66 = .ok (.bipush 30, 2) := by decide +kernel
theorem dX11_keep_68 : decode cX11_keep 68 = .ok (.iload_n 2, 1) := by decide +kernel
theorem dX11_keep_69 : decode cX11_keep 69 = .ok (.iadd, 1) := by decide +kernel
theorem dX11_keep_70 : decode cX11_keep 70 = .ok (.aload_n 0, 1) := by decide +kernel
theorem dX11_keep_71 : decode cX11_keep 71 = .ok (.getfield 25, 3) := by decide +kernel
theorem dX11_keep_74 : decode cX11_keep 74 = .ok (.iload_n 2, 1) := by decide +kernel
theorem dX11_keep_75 : decode cX11_keep 75 = .ok (.iaload, 1) := by decide +kernel
theorem dX11_keep_76 : decode cX11_keep 76 = .ok (.iastore, 1) := by decide +kernel
theorem dX11_keep_77 : decode cX11_keep 77 = .ok (.aload_n 1, 1) := by decide +kernel
theorem dX11_keep_78 : decode cX11_keep 78 = .ok (.bipush 36, 2) := by decide +kernel
theorem dX11_keep_80 : decode cX11_keep 80 = .ok (.iload_n 2, 1) := by decide +kernel
theorem dX11_keep_81 : decode cX11_keep 81 = .ok (.iadd, 1) := by decide +kernel
theorem dX11_keep_82 : decode cX11_keep 82 = .ok (.aload_n 0, 1) := by decide +kernel
theorem dX11_keep_83 : decode cX11_keep 83 = .ok (.getfield 28, 3) := by decide +kernel
theorem dX11_keep_86 : decode cX11_keep 86 = .ok (.iload_n 2, 1) := by decide +kernel
theorem dX11_keep_87 : decode cX11_keep 87 = .ok (.iaload, 1) := by decide +kernel
theorem dX11_keep_88 : decode cX11_keep 88 = .ok (.iastore, 1) := by decide +kernel
theorem dX11_keep_89 : decode cX11_keep 89 = .ok (.iinc 2 1, 3) := by decide +kernel
theorem dX11_keep_92 : decode cX11_keep 92 = .ok (.goto (-90), 3) := by decide +kernel
theorem dX11_keep_95 : decode cX11_keep 95 = .ok (.iconst 0, 1) := by decide +kernel
theorem dX11_keep_96 : decode cX11_keep 96 = .ok (.istore_n 2, 1) := by decide +kernel
theorem dX11_keep_97 : decode cX11_keep 97 = .ok (.iload_n 2, 1) := by decide +kernel
theorem dX11_keep_98 : decode cX11_keep 98 = .ok (.iconst 5, 1) := by decide +kernel
theorem dX11_keep_99 : decode cX11_keep 99 = .ok (.if_icmp .ge 21, 3) := by decide +kernel
theorem dX11_keep_102 : decode cX11_keep 102 = .ok (.aload_n 1, 1) := by decide +kernel
theorem dX11_keep_103 : decode cX11_keep 103 = .ok (.bipush 42, 2) := by decide +kernel
theorem dX11_keep_105 : decode cX11_keep 105 = .ok (.iload_n 2, 1) := by decide +kernel
theorem dX11_keep_106 : decode cX11_keep 106 = .ok (.iadd, 1) := by decide +kernel
theorem dX11_keep_107 : decode cX11_keep 107 = .ok (.aload_n 0, 1) := by decide +kernel
theorem dX11_keep_108 : decode cX11_keep 108 = .ok (.getfield 31, 3) := by decide +kernel
theorem dX11_keep_111 : decode cX11_keep 111 = .ok (.iload_n 2, 1) := by decide +kernel
theorem dX11_keep_112 : decode cX11_keep 112 = .ok (.iaload, 1) := by decide +kernel
theorem dX11_keep_113 : decode cX11_keep 113 = .ok (.iastore, 1) := by decide +kernel
theorem dX11_keep_114 : decode cX11_keep 114 = .ok (.iinc 2 1, 3) := by decide +kernel
theorem dX11_keep_117 : decode cX11_keep 117 = .ok (.goto (-20), 3) := by decide +kernel
theorem dX11_keep_120 : decode cX11_keep 120 = .ok (.aload_n 1, 1) := by decide +kernel
theorem dX11_keep_121 : decode cX11_keep 121 = .ok (.bipush 47, 2) := by decide +kernel
theorem dX11_keep_123 : decode cX11_keep 123 = .ok (.aload_n 0, 1) := by decide +kernel
theorem dX11_keep_124 : decode cX11_keep 124 = .ok (.getfield 66, 3) := by decide +kernel
theorem dX11_keep_127 : decode cX11_keep 127 = .ok (.iastore, 1) := by decide +kernel
theorem dX11_keep_128 : decode cX11_keep 128 = .ok (.return_, 1) := by decide +kernel
theorem dX11_again_0 : decode cX11_again 0 = .ok (.iconst 0, 1) := by decide +kernel
theorem dX11_again_1 : decode cX11_again 1 = .ok (.istore_n 2, 1) := by decide +kernel
theorem dX11_again_2 : decode cX11_again 2 = .ok (.iload_n 2, 1) := by decide +kernel
theorem dX11_again_3 : decode cX11_again 3 = .ok (.bipush 6, 2) := by decide +kernel
theorem dX11_again_5 : decode cX11_again 5 = .ok (.if_icmp .ge 90, 3) := by decide +kernel
theorem dX11_again_8 : decode cX11_again 8 = .ok (.aload_n 0, 1) := by decide +kernel
theorem dX11_again_9 : decode cX11_again 9 = .ok (.getfield 7, 3) := by decide +kernel
theorem dX11_again_12 : decode cX11_again 12 = .ok (.iload_n 2, 1) := by decide +kernel
theorem dX11_again_13 : decode cX11_again 13 = .ok (.aload_n 1, 1) := by decide +kernel
theorem dX11_again_14 : decode cX11_again 14 = .ok (.iload_n 2, 1) := by decide +kernel
theorem dX11_again_15 : decode cX11_again 15 = .ok (.iaload, 1) := by decide +kernel
theorem dX11_again_16 : decode cX11_again 16 = .ok (.iastore, 1) := by decide +kernel
theorem dX11_again_17 : decode cX11_again 17 = .ok (.aload_n 0, 1) := by decide +kernel
theorem dX11_again_18 : decode cX11_again 18 = .ok (.getfield 13, 3) := by decide +kernel
theorem dX11_again_21 : decode cX11_again 21 = .ok (.iload_n 2, 1) := by decide +kernel
theorem dX11_again_22 : decode cX11_again 22 = .ok (.aload_n 1, 1) := by decide +kernel
theorem dX11_again_23 : decode cX11_again 23 = .ok (.bipush 6, 2) := by decide +kernel
theorem dX11_again_25 : decode cX11_again 25 = .ok (.iload_n 2, 1) := by decide +kernel
theorem dX11_again_26 : decode cX11_again 26 = .ok (.iadd, 1) := by decide +kernel
theorem dX11_again_27 : decode cX11_again 27 = .ok (.iaload, 1) := by decide +kernel
theorem dX11_again_28 : decode cX11_again 28 = .ok (.iastore, 1) := by decide +kernel
theorem dX11_again_29 : decode cX11_again 29 = .ok (.aload_n 0, 1) := by decide +kernel
theorem dX11_again_30 : decode cX11_again 30 = .ok (.getfield 16, 3) := by decide +kernel
theorem dX11_again_33 : decode cX11_again 33 = .ok (.iload_n 2, 1) := by decide +kernel
theorem dX11_again_34 : decode cX11_again 34 = .ok (.aload_n 1, 1) := by decide +kernel
theorem dX11_again_35 : decode cX11_again 35 = .ok (.bipush 12, 2) := by decide +kernel
theorem dX11_again_37 : decode cX11_again 37 = .ok (.iload_n 2, 1) := by decide +kernel
theorem dX11_again_38 : decode cX11_again 38 = .ok (.iadd, 1) := by decide +kernel
theorem dX11_again_39 : decode cX11_again 39 = .ok (.iaload, 1) := by decide +kernel
theorem dX11_again_40 : decode cX11_again 40 = .ok (.iastore, 1) := by decide +kernel
theorem dX11_again_41 : decode cX11_again 41 = .ok (.aload_n 0, 1) := by decide +kernel
theorem dX11_again_42 : decode cX11_again 42 = .ok (.getfield 19, 3) := by decide +kernel
theorem dX11_again_45 : decode cX11_again 45 = .ok (.iload_n 2, 1) := by decide +kernel
theorem dX11_again_46 : decode cX11_again 46 = .ok (.aload_n 1, 1) := by decide +kernel
theorem dX11_again_47 : decode cX11_again 47 = .ok (.bipush 18, 2) := by decide +kernel
theorem dX11_again_49 : decode cX11_again 49 = .ok (.iload_n 2, 1) := by decide +kernel
theorem dX11_again_50 : decode cX11_again 50 = .ok (.iadd, 1) := by decide +kernel
theorem dX11_again_51 : decode cX11_again 51 = .ok (.iaload, 1) := by decide +kernel
theorem dX11_again_52 : decode cX11_again 52 = .ok (.iastore, 1) := by decide +kernel
theorem dX11_again_53 : decode cX11_again 53 = .ok (.aload_n 0, 1) := by decide +kernel
theorem dX11_again_54 : decode cX11_again 54 = .ok (.getfield 22, 3) := by decide +kernel
theorem dX11_again_57 : decode cX11_again 57 = .ok (.iload_n 2, 1) := by decide +kernel
theorem dX11_again_58 : decode cX11_again 58 = .ok (.aload_n 1, 1) := by decide +kernel
theorem dX11_again_59 : decode cX11_again 59 = .ok (.bipush 24, 2) := by decide +kernel
theorem dX11_again_61 : decode cX11_again 61 = .ok (.iload_n 2, 1) := by decide +kernel
theorem dX11_again_62 : decode cX11_again 62 = .ok (.iadd, 1) := by decide +kernel
theorem dX11_again_63 : decode cX11_again 63 = .ok (.iaload, 1) := by decide +kernel
theorem dX11_again_64 : decode cX11_again 64 = .ok (.iastore, 1) := by decide +kernel
theorem dX11_again_65 : decode cX11_again 65 = .ok (.aload_n 0, 1) := by decide +kernel
theorem dX11_again_66 : decode cX11_again 66 = .ok (.getfield 25, 3) := by decide +kernel
theorem dX11_again_69 : decode cX11_again 69 = .ok (.iload_n 2, 1) := by decide +kernel
theorem dX11_again_70 : decode cX11_again 70 = .ok (.aload_n 1, 1) := by decide +kernel
theorem dX11_again_71 : decode cX11_again 71 = .ok (.bipush 30, 2) := by decide +kernel
theorem dX11_again_73 : decode cX11_again 73 = .ok (.iload_n 2, 1) := by decide +kernel
theorem dX11_again_74 : decode cX11_again 74 = .ok (.iadd, 1) := by decide +kernel
theorem dX11_again_75 : decode cX11_again 75 = .ok (.iaload, 1) := by decide +kernel
theorem dX11_again_76 : decode cX11_again 76 = .ok (.iastore, 1) := by decide +kernel
theorem dX11_again_77 : decode cX11_again 77 = .ok (.aload_n 0, 1) := by decide +kernel
theorem dX11_again_78 : decode cX11_again 78 = .ok (.getfield 28, 3) := by decide +kernel
theorem dX11_again_81 : decode cX11_again 81 = .ok (.iload_n 2, 1) := by decide +kernel
theorem dX11_again_82 : decode cX11_again 82 = .ok (.aload_n 1, 1) := by decide +kernel
theorem dX11_again_83 : decode cX11_again 83 = .ok (.bipush 36, 2) := by decide +kernel
theorem dX11_again_85 : decode cX11_again 85 = .ok (.iload_n 2, 1) := by decide +kernel
theorem dX11_again_86 : decode cX11_again 86 = .ok (.iadd, 1) := by decide +kernel
theorem dX11_again_87 : decode cX11_again 87 = .ok (.iaload, 1) := by decide +kernel
theorem dX11_again_88 : decode cX11_again 88 = .ok (.iastore, 1) := by decide +kernel
theorem dX11_again_89 : decode cX11_again 89 = .ok (.iinc 2 1, 3) := by decide +kernel
theorem dX11_again_92 : decode cX11_again 92 = .ok (.goto (-90), 3) := by decide +kernel
theorem dX11_again_95 : decode cX11_again 95 = .ok (.iconst 0, 1) := by decide +kernel
theorem dX11_again_96 : decode cX11_again 96 = .ok (.istore_n 2, 1) := by decide +kernel
theorem dX11_again_97 : decode cX11_again 97 = .ok (.iload_n 2, 1) := by decide +kernel
theorem dX11_again_98 : decode cX11_again 98 = .ok (.iconst 5, 1) := by decide +kernel
theorem dX11_again_99 : decode cX11_again 99 = .ok (.if_icmp .ge 21, 3) := by decide +kernel
theorem dX11_again_102 : decode cX11_again 102 = .ok (.aload_n 0, 1) := by decide +kernel
theorem dX11_again_103 : decode cX11_again 103 = .ok (.getfield 31, 3) := by decide +kernel
theorem dX11_again_106 : decode cX11_again 106 = .ok (.iload_n 2, 1) := by decide +kernel
theorem dX11_again_107 : decode cX11_again 107 = .ok (.aload_n 1, 1) := by decide +kernel
theorem dX11_again_108 : decode cX11_again 108 = .ok (.bipush 42, 2) := by decide +kernel
theorem dX11_again_110 : decode cX11_again 110 = .ok (.iload_n 2, 1) := by decide +kernel
theorem dX11_again_111 : decode cX11_again 111 = .ok (.iadd, 1) := by decide +kernel
theorem dX11_again_112 : decode cX11_again 112 = .ok (.iaload, 1) := by decide +kernel
theorem dX11_again_113 : decode cX11_again 113 = .ok (.iastore, 1) := by decide +kernel
theorem dX11_again_114 : decode cX11_again 114 = .ok (.iinc 2 1, 3) := by decide +kernel
theorem dX11_again_117 : decode cX11_again 117 = .ok (.goto (-20), 3) := by decide +kernel
theorem dX11_again_120 : decode cX11_again 120 = .ok (.aload_n 0, 1) := by decide +kernel
theorem dX11_again_121 : decode cX11_again 121 = .ok (.aload_n 1, 1) := by decide +kernel
theorem dX11_again_122 : decode cX11_again 122 = .ok (.bipush 47, 2) := by decide +kernel
theorem dX11_again_124 : decode cX11_again 124 = .ok (.iaload, 1) := by decide +kernel
theorem dX11_again_125 : decode cX11_again 125 = .ok (.putfield 66, 3) := by decide +kernel
theorem dX11_again_128 : decode cX11_again 128 = .ok (.return_, 1) := by decide +kernel
theorem dX11_image_0 : decode cX11_image 0 = .ok (.aload_n 0, 1) := by decide +kernel
theorem dX11_image_1 : decode cX11_image 1 = .ok (.iconst 1, 1) := by decide +kernel
theorem dX11_image_2 : decode cX11_image 2 = .ok (.putfield 204, 3) := by decide +kernel
theorem dX11_image_5 : decode cX11_image 5 = .ok (.aload_n 0, 1) := by decide +kernel
theorem dX11_image_6 : decode cX11_image 6 = .ok (.aload_n 0, 1) := by decide +kernel
theorem dX11_image_7 : decode cX11_image 7 = .ok (.getfield 46, 3) := by decide +kernel
theorem dX11_image_10 : decode cX11_image 10 = .ok (.invokevirtual 111, 3) := by decide +kernel
theorem dX11_image_13 : decode cX11_image 13 = .ok (.aload_n 0, 1) := by decide +kernel
theorem dX11_image_14 : decode cX11_image 14 = .ok (.getfield 66, 3) := by decide +kernel
theorem dX11_image_17 : decode cX11_image 17 = .ok (.ireturn, 1) := by decide +kernel
theorem dX11_on_0 : decode cX11_on 0 = .ok (.aload_n 0, 1) := by decide +kernel
theorem dX11_on_1 : decode cX11_on 1 = .ok (.getfield 204, 3) := by decide +kernel
theorem dX11_on_4 : decode cX11_on 4 = .ok (.ifCond .ne 10, 3) := by decide +kernel
theorem dX11_on_7 : decode cX11_on 7 = .ok (.aload_n 0, 1) := by decide +kernel
theorem dX11_on_8 : decode cX11_on 8 = .ok (.bipush (-3), 2) := by decide +kernel
theorem dX11_on_10 : decode cX11_on 10 = .ok (.invokevirtual 62, 3) := by decide +kernel
theorem dX11_on_13 : decode cX11_on 13 = .ok (.ireturn, 1) := by decide +kernel
theorem dX11_on_14 : decode cX11_on 14 = .ok (.aload_n 0, 1) := by decide +kernel
theorem dX11_on_15 : decode cX11_on 15 = .ok (.aload_n 0, 1) := by decide +kernel
theorem dX11_on_16 : decode cX11_on 16 = .ok (.getfield 46, 3) := by decide +kernel
theorem dX11_on_19 : decode cX11_on 19 = .ok (.invokevirtual 115, 3) := by decide +kernel
theorem dX11_on_22 : decode cX11_on 22 = .ok (.aload_n 0, 1) := by decide +kernel
theorem dX11_on_23 : decode cX11_on 23 = .ok (.getfield 66, 3) := by decide +kernel
theorem dX11_on_26 : decode cX11_on 26 = .ok (.ireturn, 1) := by decide +kernel
theorem dX11_count_0 : decode cX11_count 0 = .ok (.iconst 0, 1) := by decide +kernel
theorem dX11_count_1 : decode cX11_count 1 = .ok (.istore_n 2, 1) := by decide +kernel
theorem dX11_count_2 : decode cX11_count 2 = .ok (.iload_n 1, 1) := by decide +kernel
theorem dX11_count_3 : decode cX11_count 3 = .ok (.tableswitch 157 0 9 #[53, 58, 85, 112, 119, 126, 133, 140, 147, 152], 53) := by decide +kernel
theorem dX11_count_56 : decode cX11_count 56 = .ok (.aload_n 0, 1) := by decide +kernel
theorem dX11_count_57 : decode cX11_count 57 = .ok (.getfield 66, 3) := by decide +kernel
theorem dX11_count_60 : decode cX11_count 60 = .ok (.ireturn, 1) := by decide +kernel
theorem dX11_count_61 : decode cX11_count 61 = .ok (.iconst 0, 1) := by decide +kernel
theorem dX11_count_62 : decode cX11_count 62 = .ok (.istore_n 3, 1) := by decide +kernel
theorem dX11_count_63 : decode cX11_count 63 = .ok (.iload_n 3, 1) := by decide +kernel
theorem dX11_count_64 : decode cX11_count 64 = .ok (.aload_n 0, 1) := by decide +kernel
theorem dX11_count_65 : decode cX11_count 65 = .ok (.getfield 66, 3) := by decide +kernel
theorem dX11_count_68 : decode cX11_count 68 = .ok (.if_icmp .ge 18, 3) := by decide +kernel
theorem dX11_count_71 : decode cX11_count 71 = .ok (.iload_n 2, 1) := by decide +kernel
theorem dX11_count_72 : decode cX11_count 72 = .ok (.aload_n 0, 1) := by decide +kernel
theorem dX11_count_73 : decode cX11_count 73 = .ok (.getfield 13, 3) := by decide +kernel
theorem dX11_count_76 : decode cX11_count 76 = .ok (.iload_n 3, 1) := by decide +kernel
theorem dX11_count_77 : decode cX11_count 77 = .ok (.iaload, 1) := by decide +kernel
theorem dX11_count_78 : decode cX11_count 78 = .ok (.iadd, 1) := by decide +kernel
theorem dX11_count_79 : decode cX11_count 79 = .ok (.istore_n 2, 1) := by decide +kernel
theorem dX11_count_80 : decode cX11_count 80 = .ok (.iinc 3 1, 3) := by decide +kernel
theorem dX11_count_83 : decode cX11_count 83 = .ok (.goto (-20), 3) := by decide +kernel
theorem dX11_count_86 : decode cX11_count 86 = .ok (.iload_n 2, 1) := by decide +kernel
theorem dX11_count_87 : decode cX11_count 87 = .ok (.ireturn, 1) := by decide +kernel
theorem dX11_count_88 : decode cX11_count 88 = .ok (.iconst 0, 1) := by decide +kernel
theorem dX11_count_89 : decode cX11_count 89 = .ok (.istore_n 3, 1) := by decide +kernel
theorem dX11_count_90 : decode cX11_count 90 = .ok (.iload_n 3, 1) := by decide +kernel
theorem dX11_count_91 : decode cX11_count 91 = .ok (.aload_n 0, 1) := by decide +kernel
theorem dX11_count_92 : decode cX11_count 92 = .ok (.getfield 66, 3) := by decide +kernel
theorem dX11_count_95 : decode cX11_count 95 = .ok (.if_icmp .ge 18, 3) := by decide +kernel
theorem dX11_count_98 : decode cX11_count 98 = .ok (.iload_n 2, 1) := by decide +kernel
theorem dX11_count_99 : decode cX11_count 99 = .ok (.aload_n 0, 1) := by decide +kernel
theorem dX11_count_100 : decode cX11_count 100 = .ok (.getfield 19, 3) := by decide +kernel
theorem dX11_count_103 : decode cX11_count 103 = .ok (.iload_n 3, 1) := by decide +kernel
theorem dX11_count_104 : decode cX11_count 104 = .ok (.iaload, 1) := by decide +kernel
theorem dX11_count_105 : decode cX11_count 105 = .ok (.iadd, 1) := by decide +kernel
theorem dX11_count_106 : decode cX11_count 106 = .ok (.istore_n 2, 1) := by decide +kernel
theorem dX11_count_107 : decode cX11_count 107 = .ok (.iinc 3 1, 3) := by decide +kernel
theorem dX11_count_110 : decode cX11_count 110 = .ok (.goto (-20), 3) := by decide +kernel
theorem dX11_count_113 : decode cX11_count 113 = .ok (.iload_n 2, 1) := by decide +kernel
theorem dX11_count_114 : decode cX11_count 114 = .ok (.ireturn, 1) := by decide +kernel
theorem dX11_count_115 : decode cX11_count 115 = .ok (.aload_n 0, 1) := by decide +kernel
theorem dX11_count_116 : decode cX11_count 116 = .ok (.getfield 28, 3) := by decide +kernel
theorem dX11_count_119 : decode cX11_count 119 = .ok (.iconst 0, 1) := by decide +kernel
theorem dX11_count_120 : decode cX11_count 120 = .ok (.iaload, 1) := by decide +kernel
theorem dX11_count_121 : decode cX11_count 121 = .ok (.ireturn, 1) := by decide +kernel
theorem dX11_count_122 : decode cX11_count 122 = .ok (.aload_n 0, 1) := by decide +kernel
theorem dX11_count_123 : decode cX11_count 123 = .ok (.getfield 28, 3) := by decide +kernel
theorem dX11_count_126 : decode cX11_count 126 = .ok (.iconst 2, 1) := by decide +kernel
theorem dX11_count_127 : decode cX11_count 127 = .ok (.iaload, 1) := by decide +kernel
theorem dX11_count_128 : decode cX11_count 128 = .ok (.ireturn, 1) := by decide +kernel
theorem dX11_count_129 : decode cX11_count 129 = .ok (.aload_n 0, 1) := by decide +kernel
theorem dX11_count_130 : decode cX11_count 130 = .ok (.getfield 28, 3) := by decide +kernel
theorem dX11_count_133 : decode cX11_count 133 = .ok (.iconst 3, 1) := by decide +kernel
theorem dX11_count_134 : decode cX11_count 134 = .ok (.iaload, 1) := by decide +kernel
theorem dX11_count_135 : decode cX11_count 135 = .ok (.ireturn, 1) := by decide +kernel
theorem dX11_count_136 : decode cX11_count 136 = .ok (.aload_n 0, 1) := by decide +kernel
theorem dX11_count_137 : decode cX11_count 137 = .ok (.getfield 28, 3) := by decide +kernel
theorem dX11_count_140 : decode cX11_count 140 = .ok (.iconst 4, 1) := by decide +kernel
theorem dX11_count_141 : decode cX11_count 141 = .ok (.iaload, 1) := by decide +kernel
theorem dX11_count_142 : decode cX11_count 142 = .ok (.ireturn, 1) := by decide +kernel
theorem dX11_count_143 : decode cX11_count 143 = .ok (.aload_n 0, 1) := by decide +kernel
theorem dX11_count_144 : decode cX11_count 144 = .ok (.getfield 28, 3) := by decide +kernel
theorem dX11_count_147 : decode cX11_count 147 = .ok (.iconst 5, 1) := by decide +kernel
theorem dX11_count_148 : decode cX11_count 148 = .ok (.iaload, 1) := by decide +kernel
theorem dX11_count_149 : decode cX11_count 149 = .ok (.ireturn, 1) := by decide +kernel
theorem dX11_count_150 : decode cX11_count 150 = .ok (.aload_n 0, 1) := by decide +kernel
theorem dX11_count_151 : decode cX11_count 151 = .ok (.getfield 195, 3) := by decide +kernel
theorem dX11_count_154 : decode cX11_count 154 = .ok (.ireturn, 1) := by decide +kernel
theorem dX11_count_155 : decode cX11_count 155 = .ok (.aload_n 0, 1) := by decide +kernel
theorem dX11_count_156 : decode cX11_count 156 = .ok (.getfield 74, 3) := by decide +kernel
theorem dX11_count_159 : decode cX11_count 159 = .ok (.ireturn, 1) := by decide +kernel
theorem dX11_count_160 : decode cX11_count 160 = .ok (.iload_n 1, 1) := by decide +kernel
theorem dX11_count_161 : decode cX11_count 161 = .ok (.bipush 11, 2) := by decide +kernel
theorem dX11_count_163 : decode cX11_count 163 = .ok (.bipush 16, 2) := by decide +kernel
theorem dX11_count_165 : decode cX11_count 165 = .ok (.invokestatic 70, 3) := by decide +kernel
theorem dX11_count_168 : decode cX11_count 168 = .ok (.ifCond .eq 15, 3) := by decide +kernel
theorem dX11_count_171 : decode cX11_count 171 = .ok (.aload_n 0, 1) := by decide +kernel
theorem dX11_count_172 : decode cX11_count 172 = .ok (.getfield 43, 3) := by decide +kernel
theorem dX11_count_175 : decode cX11_count 175 = .ok (.iload_n 1, 1) := by decide +kernel
theorem dX11_count_176 : decode cX11_count 176 = .ok (.bipush 10, 2) := by decide +kernel
theorem dX11_count_178 : decode cX11_count 178 = .ok (.isub, 1) := by decide +kernel
theorem dX11_count_179 : decode cX11_count 179 = .ok (.iaload, 1) := by decide +kernel
theorem dX11_count_180 : decode cX11_count 180 = .ok (.goto 5, 3) := by decide +kernel
theorem dX11_count_183 : decode cX11_count 183 = .ok (.bipush (-9), 2) := by decide +kernel
theorem dX11_count_185 : decode cX11_count 185 = .ok (.ireturn, 1) := by decide +kernel
abbrev mi_X11_no : ob_MI := (yX11_no, ob_ws yX11_no cX11_no 2 (some .int), cX11_no, 2, (some .int), { frames := 0, cells := 0, slots := 0, locals := 0 })
theorem gf_X11_no_43 : ob_GF mi_X11_no 43 11 15 := ⟨RX11, TX11, 24, rfl, by decide, fun x h => List.mem_cons_of_mem _ (uw_X11 x h), List.mem_cons_of_mem _ tw_773⟩
noncomputable def f_X11_no (σ : ob_St) (p1 : Int32) : Option (Int32 × ob_St) :=
  ob_ld σ 12 7 (-p1) fun v_1 =>
  ob_sd σ 12 7 (-p1) (v_1 + 1) fun σ2 =>
  some (p1, σ2)
set_option maxRecDepth 100000 in
set_option maxHeartbeats 4000000 in
theorem c_X11_no {g : ob_GT} {ad : Nat → Nat} {r : Int32} {σ' : ob_St} {σ : ob_St} {p1 : Int32} (hf : f_X11_no σ p1 = some (r, σ')) : ob_CT g (ob_M ad) mi_X11_no [.ref (ad 0), .int p1] σ (some (.int r)) σ' := by
  refine ob_ct (by decide +kernel) rfl (Nat.le_of_ble_eq_true rfl) ?_
  show ob_V g (ob_M ad) mi_X11_no (some (.int r)) σ' σ 0 [(0, .ref (ad 0)), (1, .int p1)] []
  refine vv_aload_n dX11_no_0 0 rfl rfl 1 rfl ?_
  refine vv_getR dX11_no_1 15 gf_X11_no_43 ob_m0 rfl rfl 4 rfl ?_
  refine vv_iload_n dX11_no_4 1 rfl rfl 5 rfl ?_
  refine vv_ineg dX11_no_5 6 rfl ?_
  refine vv_dup2 dX11_no_6 rfl rfl 7 rfl ?_
  refine vv_iald dX11_no_7 ob_m12 rfl 8 rfl hf (fun v_1 hf => ?_)
  refine vv_iconst dX11_no_8 1 rfl 9 rfl ?_
  refine vv_iadd dX11_no_9 10 rfl ?_
  refine vv_iast dX11_no_10 ob_m12 rfl 11 rfl hf (fun σ2 hf => ?_)
  refine vv_iload_n dX11_no_11 1 rfl rfl 12 rfl ?_
  exact vv_ireti rfl dX11_no_12 hf
abbrev mi_X11_noMuch : ob_MI := (yX11_noMuch, ob_ws yX11_noMuch cX11_noMuch 2 (some .int), cX11_noMuch, 2, (some .int), { frames := 1, cells := 0, slots := 0, locals := 21 })
theorem cv_X11_noMuch_62 : ob_CV mi_X11_noMuch mi_X11_no 62 RX11 1 := ob_cvI rfl rfl tw_835 tw_837 tw_18 tw_59 tw_838 ⟨rfl, rfl⟩ ⟨rfl, by decide +kernel, by decide +kernel, by decide +kernel⟩ ⟨Nat.le_of_ble_eq_true rfl, Nat.le_of_ble_eq_true rfl⟩
noncomputable def f_X11_noMuch (σ : ob_St) (p1 : Int32) : Option (Int32 × ob_St) :=
  ob_bd (f_X11_no σ p1) fun r1 σ2 =>
  some ((1000000000 - r1), σ2)
set_option maxRecDepth 100000 in
set_option maxHeartbeats 4000000 in
theorem c_X11_noMuch {g : ob_GT} {ad : Nat → Nat} {r : Int32} {σ' : ob_St} {σ : ob_St} {p1 : Int32} (hf : f_X11_noMuch σ p1 = some (r, σ')) : ob_CT g (ob_M ad) mi_X11_noMuch [.ref (ad 0), .int p1] σ (some (.int r)) σ' := by
  refine ob_ct (by decide +kernel) rfl (Nat.le_of_ble_eq_true rfl) ?_
  show ob_V g (ob_M ad) mi_X11_noMuch (some (.int r)) σ' σ 0 [(0, .ref (ad 0)), (1, .int p1)] []
  refine vv_ldc dX11_noMuch_0 1000000000 (List.mem_cons_of_mem _ tw_932) 2 rfl ?_
  refine vv_aload_n dX11_noMuch_2 0 rfl rfl 3 rfl ?_
  refine vv_iload_n dX11_noMuch_3 1 rfl rfl 4 rfl ?_
  refine vv_callV [.int p1] [.int 1000000000] (fun _ _ h => c_X11_no h) (ob_rec ob_m0 rfl rfl) cv_X11_noMuch_62 rfl (Nat.le_of_ble_eq_true rfl) 7 rfl dX11_noMuch_4 rfl hf (fun r1 σ2 hf => ?_)
  refine vv_isub dX11_noMuch_7 8 rfl ?_
  exact vv_ireti rfl dX11_noMuch_8 hf
abbrev mi_X11_within : ob_MI := (yX11_within, ob_ws yX11_within cX11_within 3 (some .boolean), cX11_within, 3, (some .boolean), { frames := 0, cells := 0, slots := 0, locals := 0 })
noncomputable def f_X11_within (σ : ob_St) (p0 : Int32) (p1 : Int32) (p2 : Int32) : Option (Int32 × ob_St) :=
  if p0 < p1 then
    ob_rb 0 σ
  else
    if p2 < p0 then
      ob_rb 0 σ
    else
      ob_rb 1 σ
set_option maxRecDepth 100000 in
set_option maxHeartbeats 4000000 in
theorem c_X11_within {g : ob_GT} {ad : Nat → Nat} {r : Int32} {σ' : ob_St} {σ : ob_St} {p0 : Int32} {p1 : Int32} {p2 : Int32} (hf : f_X11_within σ p0 p1 p2 = some (r, σ')) : ob_CT g (ob_M ad) mi_X11_within [.int p0, .int p1, .int p2] σ (some (.int r)) σ' := by
  refine ob_ct (by decide +kernel) rfl (Nat.le_of_ble_eq_true rfl) ?_
  show ob_V g (ob_M ad) mi_X11_within (some (.int r)) σ' σ 0 [(0, .int p0), (1, .int p1), (2, .int p2)] []
  refine vv_iload_n dX11_within_0 0 rfl rfl 1 rfl ?_
  refine vv_iload_n dX11_within_1 1 rfl rfl 2 rfl ?_
  refine vv_icmp_lt dX11_within_2 14 5 rfl rfl hf (fun hf => ?_) (fun hf => ?_)
  · refine vv_iconst dX11_within_14 0 rfl 15 rfl ?_
    exact vv_iretz rfl dX11_within_15 hf
  · refine vv_iload_n dX11_within_5 0 rfl rfl 6 rfl ?_
    refine vv_iload_n dX11_within_6 2 rfl rfl 7 rfl ?_
    refine vv_icmp_gt dX11_within_7 14 10 rfl rfl hf (fun hf => ?_) (fun hf => ?_)
    · refine vv_iconst dX11_within_14 0 rfl 15 rfl ?_
      exact vv_iretz rfl dX11_within_15 hf
    · refine vv_iconst dX11_within_10 1 rfl 11 rfl ?_
      refine vv_goto dX11_within_11 15 rfl ?_
      exact vv_iretz rfl dX11_within_15 hf
abbrev mi_X11_isDish : ob_MI := (yX11_isDish, ob_ws yX11_isDish cX11_isDish 2 (some .boolean), cX11_isDish, 2, (some .boolean), { frames := 1, cells := 0, slots := 0, locals := 22 })
theorem gf_X11_isDish_66 : ob_GF mi_X11_isDish 66 11 0 := ⟨RX11, TX11, 24, rfl, by decide, fun x h => List.mem_cons_of_mem _ (uw_X11 x h), List.mem_cons_of_mem _ tw_758⟩
theorem cs_X11_isDish_70 : ob_CS mi_X11_isDish mi_X11_within 70 3 := ob_csI rfl rfl tw_857 tw_858 tw_59 tw_859 ⟨rfl, rfl⟩ ⟨by decide +kernel, by decide +kernel, by decide +kernel⟩ ⟨Nat.le_of_ble_eq_true rfl, Nat.le_of_ble_eq_true rfl⟩
noncomputable def f_X11_isDish (σ : ob_St) (p1 : Int32) : Option (Int32 × ob_St) :=
  ob_bd (f_X11_within σ p1 0 ((σ 0 0) - 1)) fun r1 σ2 =>
  ob_rb r1 σ2
set_option maxRecDepth 100000 in
set_option maxHeartbeats 4000000 in
theorem c_X11_isDish {g : ob_GT} {ad : Nat → Nat} {r : Int32} {σ' : ob_St} {σ : ob_St} {p1 : Int32} (hf : f_X11_isDish σ p1 = some (r, σ')) : ob_CT g (ob_M ad) mi_X11_isDish [.ref (ad 0), .int p1] σ (some (.int r)) σ' := by
  refine ob_ct (by decide +kernel) rfl (Nat.le_of_ble_eq_true rfl) ?_
  show ob_V g (ob_M ad) mi_X11_isDish (some (.int r)) σ' σ 0 [(0, .ref (ad 0)), (1, .int p1)] []
  refine vv_iload_n dX11_isDish_0 1 rfl rfl 1 rfl ?_
  refine vv_iconst dX11_isDish_1 0 rfl 2 rfl ?_
  refine vv_aload_n dX11_isDish_2 0 rfl rfl 3 rfl ?_
  refine vv_getI dX11_isDish_3 0 gf_X11_isDish_66 ob_m0 rfl rfl 6 rfl ?_
  refine vv_iconst dX11_isDish_6 1 rfl 7 rfl ?_
  refine vv_isub dX11_isDish_7 8 rfl ?_
  refine vv_callS [.int p1, .int 0, .int ((σ 0 0) - 1)] [] (fun _ _ h => c_X11_within h) cs_X11_isDish_70 rfl (Nat.le_of_ble_eq_true rfl) 11 rfl dX11_isDish_8 rfl hf (fun r1 σ2 hf => ?_)
  exact vv_iretz rfl dX11_isDish_11 hf
abbrev mi_X11_leastOf : ob_MI := (yX11_leastOf, ob_ws yX11_leastOf cX11_leastOf 1 (some .int), cX11_leastOf, 1, (some .int), { frames := 0, cells := 0, slots := 0, locals := 0 })
noncomputable def f_X11_leastOf (σ : ob_St) (p0 : Int32) : Option (Int32 × ob_St) :=
  if p0 = 0 then
    some (1, σ)
  else
    if p0 = 3 then
      some (1, σ)
    else
      some (0, σ)
set_option maxRecDepth 100000 in
set_option maxHeartbeats 4000000 in
theorem c_X11_leastOf {g : ob_GT} {ad : Nat → Nat} {r : Int32} {σ' : ob_St} {σ : ob_St} {p0 : Int32} (hf : f_X11_leastOf σ p0 = some (r, σ')) : ob_CT g (ob_M ad) mi_X11_leastOf [.int p0] σ (some (.int r)) σ' := by
  refine ob_ct (by decide +kernel) rfl (Nat.le_of_ble_eq_true rfl) ?_
  show ob_V g (ob_M ad) mi_X11_leastOf (some (.int r)) σ' σ 0 [(0, .int p0)] []
  refine vv_iload_n dX11_leastOf_0 0 rfl rfl 1 rfl ?_
  refine vv_if_eq dX11_leastOf_1 9 4 rfl rfl hf (fun hf => ?_) (fun hf => ?_)
  · refine vv_iconst dX11_leastOf_9 1 rfl 10 rfl ?_
    refine vv_goto dX11_leastOf_10 14 rfl ?_
    exact vv_ireti rfl dX11_leastOf_14 hf
  · refine vv_iload_n dX11_leastOf_4 0 rfl rfl 5 rfl ?_
    refine vv_iconst dX11_leastOf_5 3 rfl 6 rfl ?_
    refine vv_icmp_ne dX11_leastOf_6 13 9 rfl rfl hf (fun hf => ?_) (fun hf => ?_)
    · refine vv_iconst dX11_leastOf_13 0 rfl 14 rfl ?_
      exact vv_ireti rfl dX11_leastOf_14 hf
    · refine vv_iconst dX11_leastOf_9 1 rfl 10 rfl ?_
      refine vv_goto dX11_leastOf_10 14 rfl ?_
      exact vv_ireti rfl dX11_leastOf_14 hf
abbrev mi_X11_mostOf : ob_MI := (yX11_mostOf, ob_ws yX11_mostOf cX11_mostOf 1 (some .int), cX11_mostOf, 1, (some .int), { frames := 0, cells := 0, slots := 0, locals := 0 })
noncomputable def f_X11_mostOf (σ : ob_St) (p0 : Int32) : Option (Int32 × ob_St) :=
  if p0 = 0 then
    some (11, σ)
  else
  if p0 = 1 then
    some (9, σ)
  else
  if p0 = 2 then
    some (40, σ)
  else
  if p0 = 3 then
    some (20, σ)
  else
  if p0 = 4 then
    some (2, σ)
  else
    some (400, σ)
set_option maxRecDepth 100000 in
set_option maxHeartbeats 4000000 in
theorem c_X11_mostOf {g : ob_GT} {ad : Nat → Nat} {r : Int32} {σ' : ob_St} {σ : ob_St} {p0 : Int32} (hf : f_X11_mostOf σ p0 = some (r, σ')) : ob_CT g (ob_M ad) mi_X11_mostOf [.int p0] σ (some (.int r)) σ' := by
  refine ob_ct (by decide +kernel) rfl (Nat.le_of_ble_eq_true rfl) ?_
  show ob_V g (ob_M ad) mi_X11_mostOf (some (.int r)) σ' σ 0 [(0, .int p0)] []
  refine vv_iload_n dX11_mostOf_0 0 rfl rfl 1 rfl ?_
  refine vv_case 0 hf (fun hf => ?_) (fun nh0 hf => ?_)
  · refine vv_tabIn dX11_mostOf_1 36 (by decide) (by decide) rfl rfl ?_
    refine vv_bipush dX11_mostOf_36 11 rfl 38 rfl ?_
    exact vv_ireti rfl dX11_mostOf_38 hf
  refine vv_case 1 hf (fun hf => ?_) (fun nh1 hf => ?_)
  · refine vv_tabIn dX11_mostOf_1 39 (by decide) (by decide) rfl rfl ?_
    refine vv_bipush dX11_mostOf_39 9 rfl 41 rfl ?_
    exact vv_ireti rfl dX11_mostOf_41 hf
  refine vv_case 2 hf (fun hf => ?_) (fun nh2 hf => ?_)
  · refine vv_tabIn dX11_mostOf_1 42 (by decide) (by decide) rfl rfl ?_
    refine vv_bipush dX11_mostOf_42 40 rfl 44 rfl ?_
    exact vv_ireti rfl dX11_mostOf_44 hf
  refine vv_case 3 hf (fun hf => ?_) (fun nh3 hf => ?_)
  · refine vv_tabIn dX11_mostOf_1 45 (by decide) (by decide) rfl rfl ?_
    refine vv_bipush dX11_mostOf_45 20 rfl 47 rfl ?_
    exact vv_ireti rfl dX11_mostOf_47 hf
  refine vv_case 4 hf (fun hf => ?_) (fun nh4 hf => ?_)
  · refine vv_tabIn dX11_mostOf_1 48 (by decide) (by decide) rfl rfl ?_
    refine vv_iconst dX11_mostOf_48 2 rfl 49 rfl ?_
    exact vv_ireti rfl dX11_mostOf_49 hf
  refine vv_tabOut dX11_mostOf_1 50 (by have z0 := ob_neI nh0 (a := 0) rfl; have z1 := ob_neI nh1 (a := 1) rfl; have z2 := ob_neI nh2 (a := 2) rfl; have z3 := ob_neI nh3 (a := 3) rfl; have z4 := ob_neI nh4 (a := 4) rfl; omega) rfl ?_
  refine vv_sipush dX11_mostOf_50 400 rfl 53 rfl ?_
  exact vv_ireti rfl dX11_mostOf_53 hf
abbrev mi_X11_letter : ob_MI := (yX11_letter, ob_ws yX11_letter cX11_letter 2 (some .int), cX11_letter, 2, (some .int), { frames := 1, cells := 0, slots := 0, locals := 21 })
theorem cv_X11_letter_62 : ob_CV mi_X11_letter mi_X11_no 62 RX11 1 := ob_cvI rfl rfl tw_835 tw_837 tw_18 tw_59 tw_838 ⟨rfl, rfl⟩ ⟨rfl, by decide +kernel, by decide +kernel, by decide +kernel⟩ ⟨Nat.le_of_ble_eq_true rfl, Nat.le_of_ble_eq_true rfl⟩
theorem gf_X11_letter_74 : ob_GF mi_X11_letter 74 11 9 := ⟨RX11, TX11, 24, rfl, by decide, fun x h => List.mem_cons_of_mem _ (uw_X11 x h), List.mem_cons_of_mem _ tw_767⟩
theorem gf_X11_letter_34 : ob_GF mi_X11_letter 34 11 10 := ⟨RX11, TX11, 24, rfl, by decide, fun x h => List.mem_cons_of_mem _ (uw_X11 x h), List.mem_cons_of_mem _ tw_768⟩
theorem pf_X11_letter_74 : ob_PF mi_X11_letter 74 11 9 .int := ⟨RX11, TX11, 24, tyX11, rfl, by decide, fun x h => List.mem_cons_of_mem _ (uw_X11 x h), List.mem_cons_of_mem _ tw_767, tyX11_ok, nmX11, rfl, by decide +kernel⟩
noncomputable def f_X11_letter (σ : ob_St) (p1 : Int32) : Option (Int32 × ob_St) :=
  if (0 : Int32) ≤ p1 then
    if (255 : Int32) < p1 then
      ob_bd (f_X11_no σ (-6)) fun r1 σ2 =>
      some (r1, σ2)
    else
      if (σ 0 9) = 96 then
        ob_bd (f_X11_no σ (-6)) fun r5 σ6 =>
        some (r5, σ6)
      else
        ob_pf σ 0 9 ((σ 0 9) + 1) fun σ3 =>
        ob_sd σ3 9 96 (σ 0 9) p1 fun σ4 =>
        some ((σ4 0 9), σ4)
  else
    ob_bd (f_X11_no σ (-4)) fun r7 σ8 =>
    some (r7, σ8)
set_option maxRecDepth 100000 in
set_option maxHeartbeats 4000000 in
theorem c_X11_letter {g : ob_GT} {ad : Nat → Nat} {r : Int32} {σ' : ob_St} {σ : ob_St} {p1 : Int32} (hf : f_X11_letter σ p1 = some (r, σ')) : ob_CT g (ob_M ad) mi_X11_letter [.ref (ad 0), .int p1] σ (some (.int r)) σ' := by
  refine ob_ct (by decide +kernel) rfl (Nat.le_of_ble_eq_true rfl) ?_
  show ob_V g (ob_M ad) mi_X11_letter (some (.int r)) σ' σ 0 [(0, .ref (ad 0)), (1, .int p1)] []
  refine vv_iload_n dX11_letter_0 1 rfl rfl 1 rfl ?_
  refine vv_if_ge dX11_letter_1 11 4 rfl rfl hf (fun hf => ?_) (fun hf => ?_)
  · refine vv_iload_n dX11_letter_11 1 rfl rfl 12 rfl ?_
    refine vv_sipush dX11_letter_12 255 rfl 15 rfl ?_
    refine vv_icmp_gt dX11_letter_15 27 18 rfl rfl hf (fun hf => ?_) (fun hf => ?_)
    · refine vv_aload_n dX11_letter_27 0 rfl rfl 28 rfl ?_
      refine vv_bipush dX11_letter_28 (-6) rfl 30 rfl ?_
      refine vv_callV [.int (-6)] [] (fun _ _ h => c_X11_no h) (ob_rec ob_m0 rfl rfl) cv_X11_letter_62 rfl (Nat.le_of_ble_eq_true rfl) 33 rfl dX11_letter_30 rfl hf (fun r1 σ2 hf => ?_)
      exact vv_ireti rfl dX11_letter_33 hf
    · refine vv_aload_n dX11_letter_18 0 rfl rfl 19 rfl ?_
      refine vv_getI dX11_letter_19 9 gf_X11_letter_74 ob_m0 rfl rfl 22 rfl ?_
      refine vv_bipush dX11_letter_22 96 rfl 24 rfl ?_
      refine vv_icmp_ne dX11_letter_24 34 27 rfl rfl hf (fun hf => ?_) (fun hf => ?_)
      · refine vv_aload_n dX11_letter_34 0 rfl rfl 35 rfl ?_
        refine vv_getR dX11_letter_35 10 gf_X11_letter_34 ob_m0 rfl rfl 38 rfl ?_
        refine vv_aload_n dX11_letter_38 0 rfl rfl 39 rfl ?_
        refine vv_dup dX11_letter_39 rfl 40 rfl ?_
        refine vv_getI dX11_letter_40 9 gf_X11_letter_74 ob_m0 rfl rfl 43 rfl ?_
        refine vv_dup_x1 dX11_letter_43 rfl rfl 44 rfl ?_
        refine vv_iconst dX11_letter_44 1 rfl 45 rfl ?_
        refine vv_iadd dX11_letter_45 46 rfl ?_
        refine vv_putI dX11_letter_46 9 pf_X11_letter_74 ob_m0 rfl rfl (ob_fit_int _) 49 rfl hf (fun σ3 hf => ?_)
        refine vv_iload_n dX11_letter_49 1 rfl rfl 50 rfl ?_
        refine vv_iast dX11_letter_50 ob_m9 rfl 51 rfl hf (fun σ4 hf => ?_)
        refine vv_aload_n dX11_letter_51 0 rfl rfl 52 rfl ?_
        refine vv_getI dX11_letter_52 9 gf_X11_letter_74 ob_m0 rfl rfl 55 rfl ?_
        exact vv_ireti rfl dX11_letter_55 hf
      · refine vv_aload_n dX11_letter_27 0 rfl rfl 28 rfl ?_
        refine vv_bipush dX11_letter_28 (-6) rfl 30 rfl ?_
        refine vv_callV [.int (-6)] [] (fun _ _ h => c_X11_no h) (ob_rec ob_m0 rfl rfl) cv_X11_letter_62 rfl (Nat.le_of_ble_eq_true rfl) 33 rfl dX11_letter_30 rfl hf (fun r5 σ6 hf => ?_)
        exact vv_ireti rfl dX11_letter_33 hf
  · refine vv_aload_n dX11_letter_4 0 rfl rfl 5 rfl ?_
    refine vv_bipush dX11_letter_5 (-4) rfl 7 rfl ?_
    refine vv_callV [.int (-4)] [] (fun _ _ h => c_X11_no h) (ob_rec ob_m0 rfl rfl) cv_X11_letter_62 rfl (Nat.le_of_ble_eq_true rfl) 10 rfl dX11_letter_7 rfl hf (fun r7 σ8 hf => ?_)
    exact vv_ireti rfl dX11_letter_10 hf
abbrev mi_X11_is : ob_MI := (yX11_is, ob_ws yX11_is cX11_is 2 (some .boolean), cX11_is, 2, (some .boolean), { frames := 0, cells := 0, slots := 0, locals := 0 })
theorem gf_X11_is_77 : ob_GF mi_X11_is 77 11 11 := ⟨RX11, TX11, 24, rfl, by decide, fun x h => List.mem_cons_of_mem _ (uw_X11 x h), List.mem_cons_of_mem _ tw_769⟩
theorem gf_X11_is_74 : ob_GF mi_X11_is 74 11 9 := ⟨RX11, TX11, 24, rfl, by decide, fun x h => List.mem_cons_of_mem _ (uw_X11 x h), List.mem_cons_of_mem _ tw_767⟩
theorem gf_X11_is_34 : ob_GF mi_X11_is 34 11 10 := ⟨RX11, TX11, 24, rfl, by decide, fun x h => List.mem_cons_of_mem _ (uw_X11 x h), List.mem_cons_of_mem _ tw_768⟩
theorem pf_X11_is_77 : ob_PF mi_X11_is 77 11 11 .int := ⟨RX11, TX11, 24, tyX11, rfl, by decide, fun x h => List.mem_cons_of_mem _ (uw_X11 x h), List.mem_cons_of_mem _ tw_769, tyX11_ok, nmX11, rfl, by decide +kernel⟩
noncomputable def f_X11_is (σ : ob_St) (p1 : Int32) : Option (Int32 × ob_St) :=
  if (σ 0 11) = (σ 0 9) then
    ob_rb 0 σ
  else
    ob_ld σ 9 96 (σ 0 11) fun v_1 =>
    if v_1 = p1 then
      ob_pf σ 0 11 ((σ 0 11) + 1) fun σ2 =>
      ob_rb 1 σ2
    else
      ob_rb 0 σ
set_option maxRecDepth 100000 in
set_option maxHeartbeats 4000000 in
theorem c_X11_is {g : ob_GT} {ad : Nat → Nat} {r : Int32} {σ' : ob_St} {σ : ob_St} {p1 : Int32} (hf : f_X11_is σ p1 = some (r, σ')) : ob_CT g (ob_M ad) mi_X11_is [.ref (ad 0), .int p1] σ (some (.int r)) σ' := by
  refine ob_ct (by decide +kernel) rfl (Nat.le_of_ble_eq_true rfl) ?_
  show ob_V g (ob_M ad) mi_X11_is (some (.int r)) σ' σ 0 [(0, .ref (ad 0)), (1, .int p1)] []
  refine vv_aload_n dX11_is_0 0 rfl rfl 1 rfl ?_
  refine vv_getI dX11_is_1 11 gf_X11_is_77 ob_m0 rfl rfl 4 rfl ?_
  refine vv_aload_n dX11_is_4 0 rfl rfl 5 rfl ?_
  refine vv_getI dX11_is_5 9 gf_X11_is_74 ob_m0 rfl rfl 8 rfl ?_
  refine vv_icmp_eq dX11_is_8 24 11 rfl rfl hf (fun hf => ?_) (fun hf => ?_)
  · refine vv_iconst dX11_is_24 0 rfl 25 rfl ?_
    exact vv_iretz rfl dX11_is_25 hf
  · refine vv_aload_n dX11_is_11 0 rfl rfl 12 rfl ?_
    refine vv_getR dX11_is_12 10 gf_X11_is_34 ob_m0 rfl rfl 15 rfl ?_
    refine vv_aload_n dX11_is_15 0 rfl rfl 16 rfl ?_
    refine vv_getI dX11_is_16 11 gf_X11_is_77 ob_m0 rfl rfl 19 rfl ?_
    refine vv_iald dX11_is_19 ob_m9 rfl 20 rfl hf (fun v_1 hf => ?_)
    refine vv_iload_n dX11_is_20 1 rfl rfl 21 rfl ?_
    refine vv_icmp_eq dX11_is_21 26 24 rfl rfl hf (fun hf => ?_) (fun hf => ?_)
    · refine vv_aload_n dX11_is_26 0 rfl rfl 27 rfl ?_
      refine vv_dup dX11_is_27 rfl 28 rfl ?_
      refine vv_getI dX11_is_28 11 gf_X11_is_77 ob_m0 rfl rfl 31 rfl ?_
      refine vv_iconst dX11_is_31 1 rfl 32 rfl ?_
      refine vv_iadd dX11_is_32 33 rfl ?_
      refine vv_putI dX11_is_33 11 pf_X11_is_77 ob_m0 rfl rfl (ob_fit_int _) 36 rfl hf (fun σ2 hf => ?_)
      refine vv_iconst dX11_is_36 1 rfl 37 rfl ?_
      exact vv_iretz rfl dX11_is_37 hf
    · refine vv_iconst dX11_is_24 0 rfl 25 rfl ?_
      exact vv_iretz rfl dX11_is_25 hf
abbrev mi_X11_digits : ob_MI := (yX11_digits, ob_ws yX11_digits cX11_digits 3 (some .boolean), cX11_digits, 3, (some .boolean), { frames := 0, cells := 0, slots := 0, locals := 0 })
theorem gf_X11_digits_77 : ob_GF mi_X11_digits 77 11 11 := ⟨RX11, TX11, 24, rfl, by decide, fun x h => List.mem_cons_of_mem _ (uw_X11 x h), List.mem_cons_of_mem _ tw_769⟩
theorem gf_X11_digits_74 : ob_GF mi_X11_digits 74 11 9 := ⟨RX11, TX11, 24, rfl, by decide, fun x h => List.mem_cons_of_mem _ (uw_X11 x h), List.mem_cons_of_mem _ tw_767⟩
theorem gf_X11_digits_34 : ob_GF mi_X11_digits 34 11 10 := ⟨RX11, TX11, 24, rfl, by decide, fun x h => List.mem_cons_of_mem _ (uw_X11 x h), List.mem_cons_of_mem _ tw_768⟩
theorem gf_X11_digits_37 : ob_GF mi_X11_digits 37 11 12 := ⟨RX11, TX11, 24, rfl, by decide, fun x h => List.mem_cons_of_mem _ (uw_X11 x h), List.mem_cons_of_mem _ tw_770⟩
theorem pf_X11_digits_77 : ob_PF mi_X11_digits 77 11 11 .int := ⟨RX11, TX11, 24, tyX11, rfl, by decide, fun x h => List.mem_cons_of_mem _ (uw_X11 x h), List.mem_cons_of_mem _ tw_769, tyX11_ok, nmX11, rfl, by decide +kernel⟩
noncomputable def L_X11_digits_2 : Nat → ob_St → Int32 → Int32 → Option (Int32 × ob_St)
  | 0, _, _, _ => none
  | n + 1, σ, v1, v2 =>
    if v1 ≤ v2 then
      ob_rb 1 σ
    else
      if (σ 0 11) = (σ 0 9) then
        ob_rb 0 σ
      else
        ob_ld σ 9 96 (σ 0 11) fun v_1 =>
        if v_1 < 48 then
          ob_rb 0 σ
        else
          ob_ld σ 9 96 (σ 0 11) fun v_2 =>
          if v_2 ≤ 57 then
            ob_pf σ 0 11 ((σ 0 11) + 1) fun σ3 =>
            ob_ld σ3 9 96 (σ 0 11) fun v_4 =>
            ob_sd σ3 10 7 v2 (v_4 - 48) fun σ5 =>
            L_X11_digits_2 n σ5 v1 (v2 + 1)
          else
            ob_rb 0 σ
noncomputable def f_X11_digits (σ : ob_St) (p1 : Int32) : Option (Int32 × ob_St) :=
  L_X11_digits_2 1000 σ p1 0
set_option maxRecDepth 100000 in
set_option maxHeartbeats 4000000 in
theorem l_X11_digits_2 {g : ob_GT} {ad : Nat → Nat} {r : Int32} {σ' : ob_St} : ∀ (n : Nat) {σ : ob_St} {v1 : Int32} {v2 : Int32}, L_X11_digits_2 n σ v1 v2 = some (r, σ') → ob_V g (ob_M ad) mi_X11_digits (some (.int r)) σ' σ 2 [(0, .ref (ad 0)), (1, .int v1), (2, .int v2)] [] := by
  intro n
  induction n with
  | zero => intro σ v1 v2 hf; exact absurd hf (fun h => by cases h)
  | succ n ih =>
    intro σ v1 v2 hf
    refine vv_iload_n dX11_digits_2 2 rfl rfl 3 rfl ?_
    refine vv_iload_n dX11_digits_3 1 rfl rfl 4 rfl ?_
    refine vv_icmp_ge dX11_digits_4 79 7 rfl rfl hf (fun hf => ?_) (fun hf => ?_)
    · refine vv_iconst dX11_digits_79 1 rfl 80 rfl ?_
      exact vv_iretz rfl dX11_digits_80 hf
    · refine vv_aload_n dX11_digits_7 0 rfl rfl 8 rfl ?_
      refine vv_getI dX11_digits_8 11 gf_X11_digits_77 ob_m0 rfl rfl 11 rfl ?_
      refine vv_aload_n dX11_digits_11 0 rfl rfl 12 rfl ?_
      refine vv_getI dX11_digits_12 9 gf_X11_digits_74 ob_m0 rfl rfl 15 rfl ?_
      refine vv_icmp_eq dX11_digits_15 46 18 rfl rfl hf (fun hf => ?_) (fun hf => ?_)
      · refine vv_iconst dX11_digits_46 0 rfl 47 rfl ?_
        exact vv_iretz rfl dX11_digits_47 hf
      · refine vv_aload_n dX11_digits_18 0 rfl rfl 19 rfl ?_
        refine vv_getR dX11_digits_19 10 gf_X11_digits_34 ob_m0 rfl rfl 22 rfl ?_
        refine vv_aload_n dX11_digits_22 0 rfl rfl 23 rfl ?_
        refine vv_getI dX11_digits_23 11 gf_X11_digits_77 ob_m0 rfl rfl 26 rfl ?_
        refine vv_iald dX11_digits_26 ob_m9 rfl 27 rfl hf (fun v_1 hf => ?_)
        refine vv_bipush dX11_digits_27 48 rfl 29 rfl ?_
        refine vv_icmp_lt dX11_digits_29 46 32 rfl rfl hf (fun hf => ?_) (fun hf => ?_)
        · refine vv_iconst dX11_digits_46 0 rfl 47 rfl ?_
          exact vv_iretz rfl dX11_digits_47 hf
        · refine vv_aload_n dX11_digits_32 0 rfl rfl 33 rfl ?_
          refine vv_getR dX11_digits_33 10 gf_X11_digits_34 ob_m0 rfl rfl 36 rfl ?_
          refine vv_aload_n dX11_digits_36 0 rfl rfl 37 rfl ?_
          refine vv_getI dX11_digits_37 11 gf_X11_digits_77 ob_m0 rfl rfl 40 rfl ?_
          refine vv_iald dX11_digits_40 ob_m9 rfl 41 rfl hf (fun v_2 hf => ?_)
          refine vv_bipush dX11_digits_41 57 rfl 43 rfl ?_
          refine vv_icmp_le dX11_digits_43 48 46 rfl rfl hf (fun hf => ?_) (fun hf => ?_)
          · refine vv_aload_n dX11_digits_48 0 rfl rfl 49 rfl ?_
            refine vv_getR dX11_digits_49 12 gf_X11_digits_37 ob_m0 rfl rfl 52 rfl ?_
            refine vv_iload_n dX11_digits_52 2 rfl rfl 53 rfl ?_
            refine vv_aload_n dX11_digits_53 0 rfl rfl 54 rfl ?_
            refine vv_getR dX11_digits_54 10 gf_X11_digits_34 ob_m0 rfl rfl 57 rfl ?_
            refine vv_aload_n dX11_digits_57 0 rfl rfl 58 rfl ?_
            refine vv_dup dX11_digits_58 rfl 59 rfl ?_
            refine vv_getI dX11_digits_59 11 gf_X11_digits_77 ob_m0 rfl rfl 62 rfl ?_
            refine vv_dup_x1 dX11_digits_62 rfl rfl 63 rfl ?_
            refine vv_iconst dX11_digits_63 1 rfl 64 rfl ?_
            refine vv_iadd dX11_digits_64 65 rfl ?_
            refine vv_putI dX11_digits_65 11 pf_X11_digits_77 ob_m0 rfl rfl (ob_fit_int _) 68 rfl hf (fun σ3 hf => ?_)
            refine vv_iald dX11_digits_68 ob_m9 rfl 69 rfl hf (fun v_4 hf => ?_)
            refine vv_bipush dX11_digits_69 48 rfl 71 rfl ?_
            refine vv_isub dX11_digits_71 72 rfl ?_
            refine vv_iast dX11_digits_72 ob_m10 rfl 73 rfl hf (fun σ5 hf => ?_)
            refine vv_iinc dX11_digits_73 (v2 + 1) 2 [(2, .int (v2 + 1)), (0, .ref (ad 0)), (1, .int v1)] rfl rfl (Nat.le_of_ble_eq_true rfl) rfl 76 rfl ?_
            refine vv_goto dX11_digits_76 2 rfl ?_
            refine vv_sub [1, 2, 0] [(0, .ref (ad 0)), (1, .int v1), (2, .int (v2 + 1))] rfl ?_
            exact ih hf
          · refine vv_iconst dX11_digits_46 0 rfl 47 rfl ?_
            exact vv_iretz rfl dX11_digits_47 hf
set_option maxRecDepth 100000 in
set_option maxHeartbeats 4000000 in
theorem c_X11_digits {g : ob_GT} {ad : Nat → Nat} {r : Int32} {σ' : ob_St} {σ : ob_St} {p1 : Int32} (hf : f_X11_digits σ p1 = some (r, σ')) : ob_CT g (ob_M ad) mi_X11_digits [.ref (ad 0), .int p1] σ (some (.int r)) σ' := by
  refine ob_ct (by decide +kernel) rfl (Nat.le_of_ble_eq_true rfl) ?_
  show ob_V g (ob_M ad) mi_X11_digits (some (.int r)) σ' σ 0 [(0, .ref (ad 0)), (1, .int p1)] []
  refine vv_iconst dX11_digits_0 0 rfl 1 rfl ?_
  refine vv_istore_n dX11_digits_1 [(2, .int 0), (0, .ref (ad 0)), (1, .int p1)] rfl (Nat.le_of_ble_eq_true rfl) rfl 2 rfl ?_
  refine vv_sub [1, 2, 0] [(0, .ref (ad 0)), (1, .int p1), (2, .int 0)] rfl ?_
  exact l_X11_digits_2 1000 hf
abbrev mi_X11_two : ob_MI := (yX11_two, ob_ws yX11_two cX11_two 2 (some .int), cX11_two, 2, (some .int), { frames := 0, cells := 0, slots := 0, locals := 0 })
theorem gf_X11_two_37 : ob_GF mi_X11_two 37 11 12 := ⟨RX11, TX11, 24, rfl, by decide, fun x h => List.mem_cons_of_mem _ (uw_X11 x h), List.mem_cons_of_mem _ tw_770⟩
noncomputable def f_X11_two (σ : ob_St) (p1 : Int32) : Option (Int32 × ob_St) :=
  ob_ld σ 10 7 p1 fun v_1 =>
  ob_ld σ 10 7 (p1 + 1) fun v_2 =>
  some (((10 * v_1) + v_2), σ)
set_option maxRecDepth 100000 in
set_option maxHeartbeats 4000000 in
theorem c_X11_two {g : ob_GT} {ad : Nat → Nat} {r : Int32} {σ' : ob_St} {σ : ob_St} {p1 : Int32} (hf : f_X11_two σ p1 = some (r, σ')) : ob_CT g (ob_M ad) mi_X11_two [.ref (ad 0), .int p1] σ (some (.int r)) σ' := by
  refine ob_ct (by decide +kernel) rfl (Nat.le_of_ble_eq_true rfl) ?_
  show ob_V g (ob_M ad) mi_X11_two (some (.int r)) σ' σ 0 [(0, .ref (ad 0)), (1, .int p1)] []
  refine vv_bipush dX11_two_0 10 rfl 2 rfl ?_
  refine vv_aload_n dX11_two_2 0 rfl rfl 3 rfl ?_
  refine vv_getR dX11_two_3 12 gf_X11_two_37 ob_m0 rfl rfl 6 rfl ?_
  refine vv_iload_n dX11_two_6 1 rfl rfl 7 rfl ?_
  refine vv_iald dX11_two_7 ob_m10 rfl 8 rfl hf (fun v_1 hf => ?_)
  refine vv_imul dX11_two_8 9 rfl ?_
  refine vv_aload_n dX11_two_9 0 rfl rfl 10 rfl ?_
  refine vv_getR dX11_two_10 12 gf_X11_two_37 ob_m0 rfl rfl 13 rfl ?_
  refine vv_iload_n dX11_two_13 1 rfl rfl 14 rfl ?_
  refine vv_iconst dX11_two_14 1 rfl 15 rfl ?_
  refine vv_iadd dX11_two_15 16 rfl ?_
  refine vv_iald dX11_two_16 ob_m10 rfl 17 rfl hf (fun v_2 hf => ?_)
  refine vv_iadd dX11_two_17 18 rfl ?_
  exact vv_ireti rfl dX11_two_18 hf
abbrev mi_X11_placeOf : ob_MI := (yX11_placeOf, ob_ws yX11_placeOf cX11_placeOf 3 (some .int), cX11_placeOf, 3, (some .int), { frames := 0, cells := 0, slots := 0, locals := 0 })
theorem gf_X11_placeOf_25 : ob_GF mi_X11_placeOf 25 11 6 := ⟨RX11, TX11, 24, rfl, by decide, fun x h => List.mem_cons_of_mem _ (uw_X11 x h), List.mem_cons_of_mem _ tw_764⟩
noncomputable def L_X11_placeOf_2 : Nat → ob_St → Int32 → Int32 → Option (Int32 × ob_St)
  | 0, _, _, _ => none
  | n + 1, σ, v1, v2 =>
    ob_ld σ 6 6 v2 fun v_1 =>
    if v_1 = v1 then
      some (v2, σ)
    else
      L_X11_placeOf_2 n σ v1 (v2 + 1)
noncomputable def f_X11_placeOf (σ : ob_St) (p1 : Int32) : Option (Int32 × ob_St) :=
  L_X11_placeOf_2 1000 σ p1 0
set_option maxRecDepth 100000 in
set_option maxHeartbeats 4000000 in
theorem l_X11_placeOf_2 {g : ob_GT} {ad : Nat → Nat} {r : Int32} {σ' : ob_St} : ∀ (n : Nat) {σ : ob_St} {v1 : Int32} {v2 : Int32}, L_X11_placeOf_2 n σ v1 v2 = some (r, σ') → ob_V g (ob_M ad) mi_X11_placeOf (some (.int r)) σ' σ 2 [(0, .ref (ad 0)), (1, .int v1), (2, .int v2)] [] := by
  intro n
  induction n with
  | zero => intro σ v1 v2 hf; exact absurd hf (fun h => by cases h)
  | succ n ih =>
    intro σ v1 v2 hf
    refine vv_aload_n dX11_placeOf_2 0 rfl rfl 3 rfl ?_
    refine vv_getR dX11_placeOf_3 6 gf_X11_placeOf_25 ob_m0 rfl rfl 6 rfl ?_
    refine vv_iload_n dX11_placeOf_6 2 rfl rfl 7 rfl ?_
    refine vv_iald dX11_placeOf_7 ob_m6 rfl 8 rfl hf (fun v_1 hf => ?_)
    refine vv_iload_n dX11_placeOf_8 1 rfl rfl 9 rfl ?_
    refine vv_icmp_eq dX11_placeOf_9 18 12 rfl rfl hf (fun hf => ?_) (fun hf => ?_)
    · refine vv_iload_n dX11_placeOf_18 2 rfl rfl 19 rfl ?_
      exact vv_ireti rfl dX11_placeOf_19 hf
    · refine vv_iinc dX11_placeOf_12 (v2 + 1) 2 [(2, .int (v2 + 1)), (0, .ref (ad 0)), (1, .int v1)] rfl rfl (Nat.le_of_ble_eq_true rfl) rfl 15 rfl ?_
      refine vv_goto dX11_placeOf_15 2 rfl ?_
      refine vv_sub [1, 2, 0] [(0, .ref (ad 0)), (1, .int v1), (2, .int (v2 + 1))] rfl ?_
      exact ih hf
set_option maxRecDepth 100000 in
set_option maxHeartbeats 4000000 in
theorem c_X11_placeOf {g : ob_GT} {ad : Nat → Nat} {r : Int32} {σ' : ob_St} {σ : ob_St} {p1 : Int32} (hf : f_X11_placeOf σ p1 = some (r, σ')) : ob_CT g (ob_M ad) mi_X11_placeOf [.ref (ad 0), .int p1] σ (some (.int r)) σ' := by
  refine ob_ct (by decide +kernel) rfl (Nat.le_of_ble_eq_true rfl) ?_
  show ob_V g (ob_M ad) mi_X11_placeOf (some (.int r)) σ' σ 0 [(0, .ref (ad 0)), (1, .int p1)] []
  refine vv_iconst dX11_placeOf_0 0 rfl 1 rfl ?_
  refine vv_istore_n dX11_placeOf_1 [(2, .int 0), (0, .ref (ad 0)), (1, .int p1)] rfl (Nat.le_of_ble_eq_true rfl) rfl 2 rfl ?_
  refine vv_sub [1, 2, 0] [(0, .ref (ad 0)), (1, .int p1), (2, .int 0)] rfl ?_
  exact l_X11_placeOf_2 1000 hf
abbrev mi_X11_swap : ob_MI := (yX11_swap, ob_ws yX11_swap cX11_swap 4 none, cX11_swap, 4, none, { frames := 0, cells := 0, slots := 0, locals := 0 })
theorem gf_X11_swap_25 : ob_GF mi_X11_swap 25 11 6 := ⟨RX11, TX11, 24, rfl, by decide, fun x h => List.mem_cons_of_mem _ (uw_X11 x h), List.mem_cons_of_mem _ tw_764⟩
noncomputable def f_X11_swap (σ : ob_St) (p1 : Int32) (p2 : Int32) : Option (Unit × ob_St) :=
  ob_ld σ 6 6 p1 fun v_1 =>
  ob_ld σ 6 6 p2 fun v_2 =>
  ob_sd σ 6 6 p1 v_2 fun σ3 =>
  ob_sd σ3 6 6 p2 v_1 fun σ4 =>
  some ((), σ4)
set_option maxRecDepth 100000 in
set_option maxHeartbeats 4000000 in
theorem c_X11_swap {g : ob_GT} {ad : Nat → Nat} {r : Unit} {σ' : ob_St} {σ : ob_St} {p1 : Int32} {p2 : Int32} (hf : f_X11_swap σ p1 p2 = some (r, σ')) : ob_CT g (ob_M ad) mi_X11_swap [.ref (ad 0), .int p1, .int p2] σ none σ' := by
  refine ob_ct (by decide +kernel) rfl (Nat.le_of_ble_eq_true rfl) ?_
  show ob_V g (ob_M ad) mi_X11_swap none σ' σ 0 [(0, .ref (ad 0)), (1, .int p1), (2, .int p2)] []
  refine vv_aload_n dX11_swap_0 0 rfl rfl 1 rfl ?_
  refine vv_getR dX11_swap_1 6 gf_X11_swap_25 ob_m0 rfl rfl 4 rfl ?_
  refine vv_iload_n dX11_swap_4 1 rfl rfl 5 rfl ?_
  refine vv_iald dX11_swap_5 ob_m6 rfl 6 rfl hf (fun v_1 hf => ?_)
  refine vv_istore_n dX11_swap_6 [(3, .int v_1), (0, .ref (ad 0)), (1, .int p1), (2, .int p2)] rfl (Nat.le_of_ble_eq_true rfl) rfl 7 rfl ?_
  refine vv_aload_n dX11_swap_7 1 rfl rfl 8 rfl ?_
  refine vv_getR dX11_swap_8 6 gf_X11_swap_25 ob_m0 rfl rfl 11 rfl ?_
  refine vv_iload_n dX11_swap_11 2 rfl rfl 12 rfl ?_
  refine vv_aload_n dX11_swap_12 1 rfl rfl 13 rfl ?_
  refine vv_getR dX11_swap_13 6 gf_X11_swap_25 ob_m0 rfl rfl 16 rfl ?_
  refine vv_iload_n dX11_swap_16 3 rfl rfl 17 rfl ?_
  refine vv_iald dX11_swap_17 ob_m6 rfl 18 rfl hf (fun v_2 hf => ?_)
  refine vv_iast dX11_swap_18 ob_m6 rfl 19 rfl hf (fun σ3 hf => ?_)
  refine vv_aload_n dX11_swap_19 1 rfl rfl 20 rfl ?_
  refine vv_getR dX11_swap_20 6 gf_X11_swap_25 ob_m0 rfl rfl 23 rfl ?_
  refine vv_iload_n dX11_swap_23 3 rfl rfl 24 rfl ?_
  refine vv_iload_n dX11_swap_24 0 rfl rfl 25 rfl ?_
  refine vv_iast dX11_swap_25 ob_m6 rfl 26 rfl hf (fun σ4 hf => ?_)
  exact vv_ret rfl dX11_swap_26 hf
abbrev mi_X11_statement : ob_MI := (yX11_statement, ob_ws yX11_statement cX11_statement 3 (some .int), cX11_statement, 3, (some .int), { frames := 4, cells := 0, slots := 0, locals := 91 })
theorem cv_X11_statement_80 : ob_CV mi_X11_statement mi_X11_is 80 RX11 1 := ob_cvI rfl rfl tw_847 tw_849 tw_20 tw_59 tw_850 ⟨rfl, rfl⟩ ⟨rfl, by decide +kernel, by decide +kernel, by decide +kernel⟩ ⟨Nat.le_of_ble_eq_true rfl, Nat.le_of_ble_eq_true rfl⟩
theorem cv_X11_statement_91 : ob_CV mi_X11_statement mi_X11_digits 91 RX11 1 := ob_cvI rfl rfl tw_853 tw_855 tw_21 tw_59 tw_856 ⟨rfl, rfl⟩ ⟨rfl, by decide +kernel, by decide +kernel, by decide +kernel⟩ ⟨Nat.le_of_ble_eq_true rfl, Nat.le_of_ble_eq_true rfl⟩
theorem gf_X11_statement_37 : ob_GF mi_X11_statement 37 11 12 := ⟨RX11, TX11, 24, rfl, by decide, fun x h => List.mem_cons_of_mem _ (uw_X11 x h), List.mem_cons_of_mem _ tw_770⟩
theorem cv_X11_statement_97 : ob_CV mi_X11_statement mi_X11_isDish 97 RX11 1 := ob_cvI rfl rfl tw_864 tw_866 tw_23 tw_59 tw_867 ⟨rfl, rfl⟩ ⟨rfl, by decide +kernel, by decide +kernel, by decide +kernel⟩ ⟨Nat.le_of_ble_eq_true rfl, Nat.le_of_ble_eq_true rfl⟩
theorem cv_X11_statement_100 : ob_CV mi_X11_statement mi_X11_placeOf 100 RX11 1 := ob_cvI rfl rfl tw_868 tw_870 tw_24 tw_59 tw_871 ⟨rfl, rfl⟩ ⟨rfl, by decide +kernel, by decide +kernel, by decide +kernel⟩ ⟨Nat.le_of_ble_eq_true rfl, Nat.le_of_ble_eq_true rfl⟩
theorem cv_X11_statement_103 : ob_CV mi_X11_statement mi_X11_swap 103 RX11 2 := ob_cvI rfl rfl tw_872 tw_874 tw_25 tw_59 tw_875 ⟨rfl, rfl⟩ ⟨rfl, by decide +kernel, by decide +kernel, by decide +kernel⟩ ⟨Nat.le_of_ble_eq_true rfl, Nat.le_of_ble_eq_true rfl⟩
theorem cv_X11_statement_94 : ob_CV mi_X11_statement mi_X11_two 94 RX11 1 := ob_cvI rfl rfl tw_860 tw_862 tw_22 tw_59 tw_863 ⟨rfl, rfl⟩ ⟨rfl, by decide +kernel, by decide +kernel, by decide +kernel⟩ ⟨Nat.le_of_ble_eq_true rfl, Nat.le_of_ble_eq_true rfl⟩
theorem gf_X11_statement_28 : ob_GF mi_X11_statement 28 11 7 := ⟨RX11, TX11, 24, rfl, by decide, fun x h => List.mem_cons_of_mem _ (uw_X11 x h), List.mem_cons_of_mem _ tw_765⟩
theorem gf_X11_statement_31 : ob_GF mi_X11_statement 31 11 8 := ⟨RX11, TX11, 24, rfl, by decide, fun x h => List.mem_cons_of_mem _ (uw_X11 x h), List.mem_cons_of_mem _ tw_766⟩
theorem cs_X11_statement_70 : ob_CS mi_X11_statement mi_X11_within 70 3 := ob_csI rfl rfl tw_857 tw_858 tw_59 tw_859 ⟨rfl, rfl⟩ ⟨by decide +kernel, by decide +kernel, by decide +kernel⟩ ⟨Nat.le_of_ble_eq_true rfl, Nat.le_of_ble_eq_true rfl⟩
theorem gf_X11_statement_77 : ob_GF mi_X11_statement 77 11 11 := ⟨RX11, TX11, 24, rfl, by decide, fun x h => List.mem_cons_of_mem _ (uw_X11 x h), List.mem_cons_of_mem _ tw_769⟩
theorem gf_X11_statement_74 : ob_GF mi_X11_statement 74 11 9 := ⟨RX11, TX11, 24, rfl, by decide, fun x h => List.mem_cons_of_mem _ (uw_X11 x h), List.mem_cons_of_mem _ tw_767⟩
theorem pf_X11_statement_77 : ob_PF mi_X11_statement 77 11 11 .int := ⟨RX11, TX11, 24, tyX11, rfl, by decide, fun x h => List.mem_cons_of_mem _ (uw_X11 x h), List.mem_cons_of_mem _ tw_769, tyX11_ok, nmX11, rfl, by decide +kernel⟩
theorem gf_X11_statement_66 : ob_GF mi_X11_statement 66 11 0 := ⟨RX11, TX11, 24, rfl, by decide, fun x h => List.mem_cons_of_mem _ (uw_X11 x h), List.mem_cons_of_mem _ tw_758⟩
theorem gf_X11_statement_7 : ob_GF mi_X11_statement 7 11 1 := ⟨RX11, TX11, 24, rfl, by decide, fun x h => List.mem_cons_of_mem _ (uw_X11 x h), List.mem_cons_of_mem _ tw_759⟩
theorem gf_X11_statement_13 : ob_GF mi_X11_statement 13 11 2 := ⟨RX11, TX11, 24, rfl, by decide, fun x h => List.mem_cons_of_mem _ (uw_X11 x h), List.mem_cons_of_mem _ tw_760⟩
theorem gf_X11_statement_16 : ob_GF mi_X11_statement 16 11 3 := ⟨RX11, TX11, 24, rfl, by decide, fun x h => List.mem_cons_of_mem _ (uw_X11 x h), List.mem_cons_of_mem _ tw_761⟩
theorem gf_X11_statement_19 : ob_GF mi_X11_statement 19 11 4 := ⟨RX11, TX11, 24, rfl, by decide, fun x h => List.mem_cons_of_mem _ (uw_X11 x h), List.mem_cons_of_mem _ tw_762⟩
theorem gf_X11_statement_22 : ob_GF mi_X11_statement 22 11 5 := ⟨RX11, TX11, 24, rfl, by decide, fun x h => List.mem_cons_of_mem _ (uw_X11 x h), List.mem_cons_of_mem _ tw_763⟩
theorem gf_X11_statement_25 : ob_GF mi_X11_statement 25 11 6 := ⟨RX11, TX11, 24, rfl, by decide, fun x h => List.mem_cons_of_mem _ (uw_X11 x h), List.mem_cons_of_mem _ tw_764⟩
theorem pf_X11_statement_66 : ob_PF mi_X11_statement 66 11 0 .int := ⟨RX11, TX11, 24, tyX11, rfl, by decide, fun x h => List.mem_cons_of_mem _ (uw_X11 x h), List.mem_cons_of_mem _ tw_758, tyX11_ok, nmX11, rfl, by decide +kernel⟩
theorem gf_X11_statement_34 : ob_GF mi_X11_statement 34 11 10 := ⟨RX11, TX11, 24, rfl, by decide, fun x h => List.mem_cons_of_mem _ (uw_X11 x h), List.mem_cons_of_mem _ tw_768⟩
theorem cv_X11_statement_86 : ob_CV mi_X11_statement mi_J0_indexOf_0f7a4 86 RJ0 1 := ob_cvI rfl rfl tw_852 tw_369 tw_370 tw_60 tw_371 ⟨rfl, rfl⟩ ⟨rfl, by decide +kernel, by decide +kernel, by decide +kernel⟩ ⟨Nat.le_of_ble_eq_true rfl, Nat.le_of_ble_eq_true rfl⟩
noncomputable def J_X11_statement_50 (σ : ob_St) (v1 : Int32) (w0 : Int32) : Option (Int32 × ob_St) :=
  if (0 : Int32) ≤ w0 then
    ob_pf σ 0 11 ((σ 0 11) + 1) fun σ73 =>
    ob_bd (f_X11_digits σ73 5) fun r74 σ75 =>
    if r74 = 0 then
      some ((-1), σ75)
    else
      if v1 = 0 then
        some (1, σ75)
      else
        ob_ld σ75 10 7 0 fun v_76 =>
        if v_76 = 0 then
          some (0, σ75)
        else
          ob_ld σ75 10 7 3 fun v_77 =>
          ob_bd (f_X11_within σ75 v_77 1 6) fun r78 σ79 =>
          if r78 = 0 then
            some (0, σ79)
          else
            ob_ld σ79 10 7 4 fun v_80 =>
            if (4 : Int32) < v_80 then
              some (0, σ79)
            else
              if (σ79 0 0) = 6 then
                some (0, σ79)
              else
                ob_sd σ79 1 6 (σ79 0 0) w0 fun σ81 =>
                ob_ld σ81 10 7 0 fun v_82 =>
                ob_sd σ81 2 6 (σ81 0 0) v_82 fun σ83 =>
                ob_bd (f_X11_two σ83 1) fun r84 σ85 =>
                ob_sd σ85 3 6 (σ83 0 0) r84 fun σ86 =>
                ob_ld σ86 10 7 3 fun v_87 =>
                ob_sd σ86 4 6 (σ86 0 0) v_87 fun σ88 =>
                ob_ld σ88 10 7 4 fun v_89 =>
                ob_sd σ88 5 6 (σ88 0 0) v_89 fun σ90 =>
                ob_sd σ90 6 6 (σ90 0 0) (σ90 0 0) fun σ91 =>
                ob_pf σ91 0 0 ((σ91 0 0) + 1) fun σ92 =>
                some (1, σ92)
  else
    some ((-1), σ)
noncomputable def J_X11_statement_49 (σ : ob_St) (v1 : Int32) : Option (Int32 × ob_St) :=
  J_X11_statement_50 σ v1 (-1)
noncomputable def f_X11_statement (σ : ob_St) (p1 : Int32) : Option (Int32 × ob_St) :=
  ob_bd (f_X11_is σ 100) fun r1 σ2 =>
  if r1 = 0 then
    ob_bd (f_X11_is σ2 98) fun r3 σ4 =>
    if r3 = 0 then
      ob_bd (f_X11_is σ4 99) fun r5 σ6 =>
      if r5 = 0 then
        ob_bd (f_X11_is σ6 104) fun r7 σ8 =>
        if r7 = 0 then
          ob_bd (f_X11_is σ8 111) fun r9 σ10 =>
          if r9 = 0 then
            ob_bd (f_X11_is σ10 120) fun r11 σ12 =>
            if r11 = 0 then
              some ((-1), σ12)
            else
              ob_bd (f_X11_digits σ12 2) fun r13 σ14 =>
              if r13 = 0 then
                some ((-1), σ14)
              else
                if p1 = 0 then
                  some (1, σ14)
                else
                  ob_ld σ14 10 7 0 fun v_15 =>
                  ob_bd (f_X11_isDish σ14 v_15) fun r16 σ17 =>
                  if r16 = 0 then
                    some (0, σ17)
                  else
                    ob_ld σ17 10 7 1 fun v_18 =>
                    ob_bd (f_X11_isDish σ17 v_18) fun r19 σ20 =>
                    if r19 = 0 then
                      some (0, σ20)
                    else
                      ob_ld σ20 10 7 0 fun v_21 =>
                      ob_ld σ20 10 7 1 fun v_22 =>
                      if v_21 = v_22 then
                        some (0, σ20)
                      else
                        ob_ld σ20 10 7 0 fun v_23 =>
                        ob_bd (f_X11_placeOf σ20 v_23) fun r24 σ25 =>
                        ob_ld σ25 10 7 1 fun v_26 =>
                        ob_bd (f_X11_placeOf σ25 v_26) fun r27 σ28 =>
                        ob_bd (f_X11_swap σ28 r24 r27) fun _ σ30 =>
                        some (1, σ30)
          else
            ob_bd (f_X11_digits σ10 3) fun r31 σ32 =>
            if r31 = 0 then
              some ((-1), σ32)
            else
              if p1 = 0 then
                some (1, σ32)
              else
                ob_ld σ32 10 7 0 fun v_33 =>
                ob_bd (f_X11_two σ32 1) fun r34 σ35 =>
                ob_nm ((100 * v_33) + r34) fun v_36 =>
                if v_36 ≤ 400 then
                  ob_sd σ35 7 6 5 v_36 fun σ37 =>
                  some (1, σ37)
                else
                  some (0, σ35)
        else
          ob_bd (f_X11_digits σ8 1) fun r38 σ39 =>
          if r38 = 0 then
            some ((-1), σ39)
          else
            if p1 = 0 then
              some (1, σ39)
            else
              ob_ld σ39 10 7 0 fun v_40 =>
              if v_40 ≤ 2 then
                ob_ld σ39 10 7 0 fun v_41 =>
                ob_sd σ39 7 6 4 v_41 fun σ42 =>
                some (1, σ42)
              else
                some (0, σ39)
      else
        ob_bd (f_X11_digits σ6 3) fun r43 σ44 =>
        if r43 = 0 then
          some ((-1), σ44)
        else
          if p1 = 0 then
            some (1, σ44)
          else
            ob_ld σ44 10 7 0 fun v_45 =>
            if v_45 ≤ 4 then
              ob_ld σ44 10 7 0 fun v_46 =>
              ob_bd (f_X11_two σ44 1) fun r47 σ48 =>
              ob_sd σ48 8 5 v_46 r47 fun σ49 =>
              some (1, σ49)
            else
              some (0, σ44)
    else
      ob_bd (f_X11_digits σ4 7) fun r50 σ51 =>
      if r50 = 0 then
        some ((-1), σ51)
      else
        if p1 = 0 then
          some (1, σ51)
        else
          ob_bd (f_X11_two σ51 0) fun r52 σ53 =>
          ob_bd (f_X11_within σ53 r52 1 11) fun r54 σ55 =>
          if r54 = 0 then
            some (0, σ55)
          else
            ob_bd (f_X11_two σ55 3) fun r56 σ57 =>
            if (40 : Int32) < r56 then
              some (0, σ57)
            else
              ob_bd (f_X11_two σ57 5) fun r58 σ59 =>
              ob_bd (f_X11_within σ59 r58 1 20) fun r60 σ61 =>
              if r60 = 0 then
                some (0, σ61)
              else
                ob_bd (f_X11_two σ61 0) fun r62 σ63 =>
                ob_sd σ63 7 6 0 r62 fun σ64 =>
                ob_ld σ64 10 7 2 fun v_65 =>
                ob_sd σ64 7 6 1 v_65 fun σ66 =>
                ob_bd (f_X11_two σ66 3) fun r67 σ68 =>
                ob_sd σ68 7 6 2 r67 fun σ69 =>
                ob_bd (f_X11_two σ69 5) fun r70 σ71 =>
                ob_sd σ71 7 6 3 r70 fun σ72 =>
                some (1, σ72)
  else
    if (σ2 0 9) ≤ (σ2 0 11) then
      J_X11_statement_49 σ2 p1
    else
      ob_ld σ2 9 96 (σ2 0 11) fun v_93 =>
      if v_93 ≤ 0 then
        J_X11_statement_49 σ2 p1
      else
        ob_ld σ2 9 96 (σ2 0 11) fun v_94 =>
        ob_bd (ob_tg 6 (f_J0_indexOf_0f7a4 6 σ2 v_94)) fun r95 σ96 =>
        J_X11_statement_50 σ96 p1 r95
set_option maxRecDepth 100000 in
set_option maxHeartbeats 4000000 in
theorem j_X11_statement_50 {g : ob_GT} {ad : Nat → Nat} {r : Int32} {σ' : ob_St} {σ : ob_St} {v1 : Int32} {w0 : Int32} (hf : J_X11_statement_50 σ v1 w0 = some (r, σ')) : ob_V g (ob_M ad) mi_X11_statement (some (.int r)) σ' σ 50 [(0, .ref (ad 0)), (1, .int v1)] [.int w0] := by
  refine vv_istore_n dX11_statement_50 [(2, .int w0), (0, .ref (ad 0)), (1, .int v1)] rfl (Nat.le_of_ble_eq_true rfl) rfl 51 rfl ?_
  refine vv_iload_n dX11_statement_51 0 rfl rfl 52 rfl ?_
  refine vv_if_ge dX11_statement_52 57 55 rfl rfl hf (fun hf => ?_) (fun hf => ?_)
  · refine vv_aload_n dX11_statement_57 1 rfl rfl 58 rfl ?_
    refine vv_dup dX11_statement_58 rfl 59 rfl ?_
    refine vv_getI dX11_statement_59 11 gf_X11_statement_77 ob_m0 rfl rfl 62 rfl ?_
    refine vv_iconst dX11_statement_62 1 rfl 63 rfl ?_
    refine vv_iadd dX11_statement_63 64 rfl ?_
    refine vv_putI dX11_statement_64 11 pf_X11_statement_77 ob_m0 rfl rfl (ob_fit_int _) 67 rfl hf (fun σ73 hf => ?_)
    refine vv_aload_n dX11_statement_67 1 rfl rfl 68 rfl ?_
    refine vv_iconst dX11_statement_68 5 rfl 69 rfl ?_
    refine vv_callV [.int 5] [] (fun _ _ h => c_X11_digits h) (ob_rec ob_m0 rfl rfl) cv_X11_statement_91 rfl (Nat.le_of_ble_eq_true rfl) 72 rfl dX11_statement_69 rfl hf (fun r74 σ75 hf => ?_)
    refine vv_if_ne dX11_statement_72 77 75 rfl rfl hf (fun hf => ?_) (fun hf => ?_)
    · refine vv_iload_n dX11_statement_77 2 rfl rfl 78 rfl ?_
      refine vv_if_ne dX11_statement_78 83 81 rfl rfl hf (fun hf => ?_) (fun hf => ?_)
      · refine vv_aload_n dX11_statement_83 1 rfl rfl 84 rfl ?_
        refine vv_getR dX11_statement_84 12 gf_X11_statement_37 ob_m0 rfl rfl 87 rfl ?_
        refine vv_iconst dX11_statement_87 0 rfl 88 rfl ?_
        refine vv_iald dX11_statement_88 ob_m10 rfl 89 rfl hf (fun v_76 hf => ?_)
        refine vv_if_eq dX11_statement_89 126 92 rfl rfl hf (fun hf => ?_) (fun hf => ?_)
        · refine vv_iconst dX11_statement_126 0 rfl 127 rfl ?_
          exact vv_ireti rfl dX11_statement_127 hf
        · refine vv_aload_n dX11_statement_92 1 rfl rfl 93 rfl ?_
          refine vv_getR dX11_statement_93 12 gf_X11_statement_37 ob_m0 rfl rfl 96 rfl ?_
          refine vv_iconst dX11_statement_96 3 rfl 97 rfl ?_
          refine vv_iald dX11_statement_97 ob_m10 rfl 98 rfl hf (fun v_77 hf => ?_)
          refine vv_iconst dX11_statement_98 1 rfl 99 rfl ?_
          refine vv_bipush dX11_statement_99 6 rfl 101 rfl ?_
          refine vv_callS [.int v_77, .int 1, .int 6] [] (fun _ _ h => c_X11_within h) cs_X11_statement_70 rfl (Nat.le_of_ble_eq_true rfl) 104 rfl dX11_statement_101 rfl hf (fun r78 σ79 hf => ?_)
          refine vv_if_eq dX11_statement_104 126 107 rfl rfl hf (fun hf => ?_) (fun hf => ?_)
          · refine vv_iconst dX11_statement_126 0 rfl 127 rfl ?_
            exact vv_ireti rfl dX11_statement_127 hf
          · refine vv_aload_n dX11_statement_107 1 rfl rfl 108 rfl ?_
            refine vv_getR dX11_statement_108 12 gf_X11_statement_37 ob_m0 rfl rfl 111 rfl ?_
            refine vv_iconst dX11_statement_111 4 rfl 112 rfl ?_
            refine vv_iald dX11_statement_112 ob_m10 rfl 113 rfl hf (fun v_80 hf => ?_)
            refine vv_iconst dX11_statement_113 4 rfl 114 rfl ?_
            refine vv_icmp_gt dX11_statement_114 126 117 rfl rfl hf (fun hf => ?_) (fun hf => ?_)
            · refine vv_iconst dX11_statement_126 0 rfl 127 rfl ?_
              exact vv_ireti rfl dX11_statement_127 hf
            · refine vv_aload_n dX11_statement_117 1 rfl rfl 118 rfl ?_
              refine vv_getI dX11_statement_118 0 gf_X11_statement_66 ob_m0 rfl rfl 121 rfl ?_
              refine vv_bipush dX11_statement_121 6 rfl 123 rfl ?_
              refine vv_icmp_ne dX11_statement_123 128 126 rfl rfl hf (fun hf => ?_) (fun hf => ?_)
              · refine vv_aload_n dX11_statement_128 1 rfl rfl 129 rfl ?_
                refine vv_getR dX11_statement_129 1 gf_X11_statement_7 ob_m0 rfl rfl 132 rfl ?_
                refine vv_aload_n dX11_statement_132 1 rfl rfl 133 rfl ?_
                refine vv_getI dX11_statement_133 0 gf_X11_statement_66 ob_m0 rfl rfl 136 rfl ?_
                refine vv_iload_n dX11_statement_136 0 rfl rfl 137 rfl ?_
                refine vv_iast dX11_statement_137 ob_m1 rfl 138 rfl hf (fun σ81 hf => ?_)
                refine vv_aload_n dX11_statement_138 1 rfl rfl 139 rfl ?_
                refine vv_getR dX11_statement_139 2 gf_X11_statement_13 ob_m0 rfl rfl 142 rfl ?_
                refine vv_aload_n dX11_statement_142 1 rfl rfl 143 rfl ?_
                refine vv_getI dX11_statement_143 0 gf_X11_statement_66 ob_m0 rfl rfl 146 rfl ?_
                refine vv_aload_n dX11_statement_146 1 rfl rfl 147 rfl ?_
                refine vv_getR dX11_statement_147 12 gf_X11_statement_37 ob_m0 rfl rfl 150 rfl ?_
                refine vv_iconst dX11_statement_150 0 rfl 151 rfl ?_
                refine vv_iald dX11_statement_151 ob_m10 rfl 152 rfl hf (fun v_82 hf => ?_)
                refine vv_iast dX11_statement_152 ob_m2 rfl 153 rfl hf (fun σ83 hf => ?_)
                refine vv_aload_n dX11_statement_153 1 rfl rfl 154 rfl ?_
                refine vv_getR dX11_statement_154 3 gf_X11_statement_16 ob_m0 rfl rfl 157 rfl ?_
                refine vv_aload_n dX11_statement_157 1 rfl rfl 158 rfl ?_
                refine vv_getI dX11_statement_158 0 gf_X11_statement_66 ob_m0 rfl rfl 161 rfl ?_
                refine vv_aload_n dX11_statement_161 1 rfl rfl 162 rfl ?_
                refine vv_iconst dX11_statement_162 1 rfl 163 rfl ?_
                refine vv_callV [.int 1] [.int (σ83 0 0), .ref (ad 3)] (fun _ _ h => c_X11_two h) (ob_rec ob_m0 rfl rfl) cv_X11_statement_94 rfl (Nat.le_of_ble_eq_true rfl) 166 rfl dX11_statement_163 rfl hf (fun r84 σ85 hf => ?_)
                refine vv_iast dX11_statement_166 ob_m3 rfl 167 rfl hf (fun σ86 hf => ?_)
                refine vv_aload_n dX11_statement_167 1 rfl rfl 168 rfl ?_
                refine vv_getR dX11_statement_168 4 gf_X11_statement_19 ob_m0 rfl rfl 171 rfl ?_
                refine vv_aload_n dX11_statement_171 1 rfl rfl 172 rfl ?_
                refine vv_getI dX11_statement_172 0 gf_X11_statement_66 ob_m0 rfl rfl 175 rfl ?_
                refine vv_aload_n dX11_statement_175 1 rfl rfl 176 rfl ?_
                refine vv_getR dX11_statement_176 12 gf_X11_statement_37 ob_m0 rfl rfl 179 rfl ?_
                refine vv_iconst dX11_statement_179 3 rfl 180 rfl ?_
                refine vv_iald dX11_statement_180 ob_m10 rfl 181 rfl hf (fun v_87 hf => ?_)
                refine vv_iast dX11_statement_181 ob_m4 rfl 182 rfl hf (fun σ88 hf => ?_)
                refine vv_aload_n dX11_statement_182 1 rfl rfl 183 rfl ?_
                refine vv_getR dX11_statement_183 5 gf_X11_statement_22 ob_m0 rfl rfl 186 rfl ?_
                refine vv_aload_n dX11_statement_186 1 rfl rfl 187 rfl ?_
                refine vv_getI dX11_statement_187 0 gf_X11_statement_66 ob_m0 rfl rfl 190 rfl ?_
                refine vv_aload_n dX11_statement_190 1 rfl rfl 191 rfl ?_
                refine vv_getR dX11_statement_191 12 gf_X11_statement_37 ob_m0 rfl rfl 194 rfl ?_
                refine vv_iconst dX11_statement_194 4 rfl 195 rfl ?_
                refine vv_iald dX11_statement_195 ob_m10 rfl 196 rfl hf (fun v_89 hf => ?_)
                refine vv_iast dX11_statement_196 ob_m5 rfl 197 rfl hf (fun σ90 hf => ?_)
                refine vv_aload_n dX11_statement_197 1 rfl rfl 198 rfl ?_
                refine vv_getR dX11_statement_198 6 gf_X11_statement_25 ob_m0 rfl rfl 201 rfl ?_
                refine vv_aload_n dX11_statement_201 1 rfl rfl 202 rfl ?_
                refine vv_getI dX11_statement_202 0 gf_X11_statement_66 ob_m0 rfl rfl 205 rfl ?_
                refine vv_aload_n dX11_statement_205 1 rfl rfl 206 rfl ?_
                refine vv_getI dX11_statement_206 0 gf_X11_statement_66 ob_m0 rfl rfl 209 rfl ?_
                refine vv_iast dX11_statement_209 ob_m6 rfl 210 rfl hf (fun σ91 hf => ?_)
                refine vv_aload_n dX11_statement_210 1 rfl rfl 211 rfl ?_
                refine vv_dup dX11_statement_211 rfl 212 rfl ?_
                refine vv_getI dX11_statement_212 0 gf_X11_statement_66 ob_m0 rfl rfl 215 rfl ?_
                refine vv_iconst dX11_statement_215 1 rfl 216 rfl ?_
                refine vv_iadd dX11_statement_216 217 rfl ?_
                refine vv_putI dX11_statement_217 0 pf_X11_statement_66 ob_m0 rfl rfl (ob_fit_int _) 220 rfl hf (fun σ92 hf => ?_)
                refine vv_iconst dX11_statement_220 1 rfl 221 rfl ?_
                exact vv_ireti rfl dX11_statement_221 hf
              · refine vv_iconst dX11_statement_126 0 rfl 127 rfl ?_
                exact vv_ireti rfl dX11_statement_127 hf
      · refine vv_iconst dX11_statement_81 1 rfl 82 rfl ?_
        exact vv_ireti rfl dX11_statement_82 hf
    · refine vv_iconst dX11_statement_75 (-1) rfl 76 rfl ?_
      exact vv_ireti rfl dX11_statement_76 hf
  · refine vv_iconst dX11_statement_55 (-1) rfl 56 rfl ?_
    exact vv_ireti rfl dX11_statement_56 hf
set_option maxRecDepth 100000 in
set_option maxHeartbeats 4000000 in
theorem j_X11_statement_49 {g : ob_GT} {ad : Nat → Nat} {r : Int32} {σ' : ob_St} {σ : ob_St} {v1 : Int32} (hf : J_X11_statement_49 σ v1 = some (r, σ')) : ob_V g (ob_M ad) mi_X11_statement (some (.int r)) σ' σ 49 [(0, .ref (ad 0)), (1, .int v1)] [] := by
  refine vv_iconst dX11_statement_49 (-1) rfl 50 rfl ?_
  exact j_X11_statement_50 hf
set_option maxRecDepth 100000 in
set_option maxHeartbeats 4000000 in
theorem c_X11_statement {g : ob_GT} {ad : Nat → Nat} {r : Int32} {σ' : ob_St} {σ : ob_St} {p1 : Int32} (hf : f_X11_statement σ p1 = some (r, σ')) : ob_CT g (ob_M ad) mi_X11_statement [.ref (ad 0), .int p1] σ (some (.int r)) σ' := by
  refine ob_ct (by decide +kernel) rfl (Nat.le_of_ble_eq_true rfl) ?_
  show ob_V g (ob_M ad) mi_X11_statement (some (.int r)) σ' σ 0 [(0, .ref (ad 0)), (1, .int p1)] []
  refine vv_aload_n dX11_statement_0 0 rfl rfl 1 rfl ?_
  refine vv_bipush dX11_statement_1 100 rfl 3 rfl ?_
  refine vv_callV [.int 100] [] (fun _ _ h => c_X11_is h) (ob_rec ob_m0 rfl rfl) cv_X11_statement_80 rfl (Nat.le_of_ble_eq_true rfl) 6 rfl dX11_statement_3 rfl hf (fun r1 σ2 hf => ?_)
  refine vv_if_eq dX11_statement_6 222 9 rfl rfl hf (fun hf => ?_) (fun hf => ?_)
  · refine vv_aload_n dX11_statement_222 0 rfl rfl 223 rfl ?_
    refine vv_bipush dX11_statement_223 98 rfl 225 rfl ?_
    refine vv_callV [.int 98] [] (fun _ _ h => c_X11_is h) (ob_rec ob_m0 rfl rfl) cv_X11_statement_80 rfl (Nat.le_of_ble_eq_true rfl) 228 rfl dX11_statement_225 rfl hf (fun r3 σ4 hf => ?_)
    refine vv_if_eq dX11_statement_228 335 231 rfl rfl hf (fun hf => ?_) (fun hf => ?_)
    · refine vv_aload_n dX11_statement_335 0 rfl rfl 336 rfl ?_
      refine vv_bipush dX11_statement_336 99 rfl 338 rfl ?_
      refine vv_callV [.int 99] [] (fun _ _ h => c_X11_is h) (ob_rec ob_m0 rfl rfl) cv_X11_statement_80 rfl (Nat.le_of_ble_eq_true rfl) 341 rfl dX11_statement_338 rfl hf (fun r5 σ6 hf => ?_)
      refine vv_if_eq dX11_statement_341 390 344 rfl rfl hf (fun hf => ?_) (fun hf => ?_)
      · refine vv_aload_n dX11_statement_390 0 rfl rfl 391 rfl ?_
        refine vv_bipush dX11_statement_391 104 rfl 393 rfl ?_
        refine vv_callV [.int 104] [] (fun _ _ h => c_X11_is h) (ob_rec ob_m0 rfl rfl) cv_X11_statement_80 rfl (Nat.le_of_ble_eq_true rfl) 396 rfl dX11_statement_393 rfl hf (fun r7 σ8 hf => ?_)
        refine vv_if_eq dX11_statement_396 441 399 rfl rfl hf (fun hf => ?_) (fun hf => ?_)
        · refine vv_aload_n dX11_statement_441 0 rfl rfl 442 rfl ?_
          refine vv_bipush dX11_statement_442 111 rfl 444 rfl ?_
          refine vv_callV [.int 111] [] (fun _ _ h => c_X11_is h) (ob_rec ob_m0 rfl rfl) cv_X11_statement_80 rfl (Nat.le_of_ble_eq_true rfl) 447 rfl dX11_statement_444 rfl hf (fun r9 σ10 hf => ?_)
          refine vv_if_eq dX11_statement_447 500 450 rfl rfl hf (fun hf => ?_) (fun hf => ?_)
          · refine vv_aload_n dX11_statement_500 0 rfl rfl 501 rfl ?_
            refine vv_bipush dX11_statement_501 120 rfl 503 rfl ?_
            refine vv_callV [.int 120] [] (fun _ _ h => c_X11_is h) (ob_rec ob_m0 rfl rfl) cv_X11_statement_80 rfl (Nat.le_of_ble_eq_true rfl) 506 rfl dX11_statement_503 rfl hf (fun r11 σ12 hf => ?_)
            refine vv_if_eq dX11_statement_506 517 509 rfl rfl hf (fun hf => ?_) (fun hf => ?_)
            · refine vv_iconst dX11_statement_517 (-1) rfl 518 rfl ?_
              exact vv_ireti rfl dX11_statement_518 hf
            · refine vv_aload_n dX11_statement_509 0 rfl rfl 510 rfl ?_
              refine vv_iconst dX11_statement_510 2 rfl 511 rfl ?_
              refine vv_callV [.int 2] [] (fun _ _ h => c_X11_digits h) (ob_rec ob_m0 rfl rfl) cv_X11_statement_91 rfl (Nat.le_of_ble_eq_true rfl) 514 rfl dX11_statement_511 rfl hf (fun r13 σ14 hf => ?_)
              refine vv_if_ne dX11_statement_514 519 517 rfl rfl hf (fun hf => ?_) (fun hf => ?_)
              · refine vv_iload_n dX11_statement_519 1 rfl rfl 520 rfl ?_
                refine vv_if_ne dX11_statement_520 525 523 rfl rfl hf (fun hf => ?_) (fun hf => ?_)
                · refine vv_aload_n dX11_statement_525 0 rfl rfl 526 rfl ?_
                  refine vv_aload_n dX11_statement_526 0 rfl rfl 527 rfl ?_
                  refine vv_getR dX11_statement_527 12 gf_X11_statement_37 ob_m0 rfl rfl 530 rfl ?_
                  refine vv_iconst dX11_statement_530 0 rfl 531 rfl ?_
                  refine vv_iald dX11_statement_531 ob_m10 rfl 532 rfl hf (fun v_15 hf => ?_)
                  refine vv_callV [.int v_15] [] (fun _ _ h => c_X11_isDish h) (ob_rec ob_m0 rfl rfl) cv_X11_statement_97 rfl (Nat.le_of_ble_eq_true rfl) 535 rfl dX11_statement_532 rfl hf (fun r16 σ17 hf => ?_)
                  refine vv_if_eq dX11_statement_535 566 538 rfl rfl hf (fun hf => ?_) (fun hf => ?_)
                  · refine vv_iconst dX11_statement_566 0 rfl 567 rfl ?_
                    exact vv_ireti rfl dX11_statement_567 hf
                  · refine vv_aload_n dX11_statement_538 0 rfl rfl 539 rfl ?_
                    refine vv_aload_n dX11_statement_539 0 rfl rfl 540 rfl ?_
                    refine vv_getR dX11_statement_540 12 gf_X11_statement_37 ob_m0 rfl rfl 543 rfl ?_
                    refine vv_iconst dX11_statement_543 1 rfl 544 rfl ?_
                    refine vv_iald dX11_statement_544 ob_m10 rfl 545 rfl hf (fun v_18 hf => ?_)
                    refine vv_callV [.int v_18] [] (fun _ _ h => c_X11_isDish h) (ob_rec ob_m0 rfl rfl) cv_X11_statement_97 rfl (Nat.le_of_ble_eq_true rfl) 548 rfl dX11_statement_545 rfl hf (fun r19 σ20 hf => ?_)
                    refine vv_if_eq dX11_statement_548 566 551 rfl rfl hf (fun hf => ?_) (fun hf => ?_)
                    · refine vv_iconst dX11_statement_566 0 rfl 567 rfl ?_
                      exact vv_ireti rfl dX11_statement_567 hf
                    · refine vv_aload_n dX11_statement_551 0 rfl rfl 552 rfl ?_
                      refine vv_getR dX11_statement_552 12 gf_X11_statement_37 ob_m0 rfl rfl 555 rfl ?_
                      refine vv_iconst dX11_statement_555 0 rfl 556 rfl ?_
                      refine vv_iald dX11_statement_556 ob_m10 rfl 557 rfl hf (fun v_21 hf => ?_)
                      refine vv_aload_n dX11_statement_557 0 rfl rfl 558 rfl ?_
                      refine vv_getR dX11_statement_558 12 gf_X11_statement_37 ob_m0 rfl rfl 561 rfl ?_
                      refine vv_iconst dX11_statement_561 1 rfl 562 rfl ?_
                      refine vv_iald dX11_statement_562 ob_m10 rfl 563 rfl hf (fun v_22 hf => ?_)
                      refine vv_icmp_ne dX11_statement_563 568 566 rfl rfl hf (fun hf => ?_) (fun hf => ?_)
                      · refine vv_aload_n dX11_statement_568 0 rfl rfl 569 rfl ?_
                        refine vv_aload_n dX11_statement_569 0 rfl rfl 570 rfl ?_
                        refine vv_aload_n dX11_statement_570 0 rfl rfl 571 rfl ?_
                        refine vv_getR dX11_statement_571 12 gf_X11_statement_37 ob_m0 rfl rfl 574 rfl ?_
                        refine vv_iconst dX11_statement_574 0 rfl 575 rfl ?_
                        refine vv_iald dX11_statement_575 ob_m10 rfl 576 rfl hf (fun v_23 hf => ?_)
                        refine vv_callV [.int v_23] [.ref (ad 0)] (fun _ _ h => c_X11_placeOf h) (ob_rec ob_m0 rfl rfl) cv_X11_statement_100 rfl (Nat.le_of_ble_eq_true rfl) 579 rfl dX11_statement_576 rfl hf (fun r24 σ25 hf => ?_)
                        refine vv_aload_n dX11_statement_579 0 rfl rfl 580 rfl ?_
                        refine vv_aload_n dX11_statement_580 0 rfl rfl 581 rfl ?_
                        refine vv_getR dX11_statement_581 12 gf_X11_statement_37 ob_m0 rfl rfl 584 rfl ?_
                        refine vv_iconst dX11_statement_584 1 rfl 585 rfl ?_
                        refine vv_iald dX11_statement_585 ob_m10 rfl 586 rfl hf (fun v_26 hf => ?_)
                        refine vv_callV [.int v_26] [.int r24, .ref (ad 0)] (fun _ _ h => c_X11_placeOf h) (ob_rec ob_m0 rfl rfl) cv_X11_statement_100 rfl (Nat.le_of_ble_eq_true rfl) 589 rfl dX11_statement_586 rfl hf (fun r27 σ28 hf => ?_)
                        refine vv_callVu [.int r24, .int r27] [] (fun _ _ h => c_X11_swap h) (ob_rec ob_m0 rfl rfl) cv_X11_statement_103 rfl (Nat.le_of_ble_eq_true rfl) 592 rfl dX11_statement_589 rfl hf (fun _ σ30 hf => ?_)
                        refine vv_iconst dX11_statement_592 1 rfl 593 rfl ?_
                        exact vv_ireti rfl dX11_statement_593 hf
                      · refine vv_iconst dX11_statement_566 0 rfl 567 rfl ?_
                        exact vv_ireti rfl dX11_statement_567 hf
                · refine vv_iconst dX11_statement_523 1 rfl 524 rfl ?_
                  exact vv_ireti rfl dX11_statement_524 hf
              · refine vv_iconst dX11_statement_517 (-1) rfl 518 rfl ?_
                exact vv_ireti rfl dX11_statement_518 hf
          · refine vv_aload_n dX11_statement_450 0 rfl rfl 451 rfl ?_
            refine vv_iconst dX11_statement_451 3 rfl 452 rfl ?_
            refine vv_callV [.int 3] [] (fun _ _ h => c_X11_digits h) (ob_rec ob_m0 rfl rfl) cv_X11_statement_91 rfl (Nat.le_of_ble_eq_true rfl) 455 rfl dX11_statement_452 rfl hf (fun r31 σ32 hf => ?_)
            refine vv_if_ne dX11_statement_455 460 458 rfl rfl hf (fun hf => ?_) (fun hf => ?_)
            · refine vv_iload_n dX11_statement_460 1 rfl rfl 461 rfl ?_
              refine vv_if_ne dX11_statement_461 466 464 rfl rfl hf (fun hf => ?_) (fun hf => ?_)
              · refine vv_bipush dX11_statement_466 100 rfl 468 rfl ?_
                refine vv_aload_n dX11_statement_468 0 rfl rfl 469 rfl ?_
                refine vv_getR dX11_statement_469 12 gf_X11_statement_37 ob_m0 rfl rfl 472 rfl ?_
                refine vv_iconst dX11_statement_472 0 rfl 473 rfl ?_
                refine vv_iald dX11_statement_473 ob_m10 rfl 474 rfl hf (fun v_33 hf => ?_)
                refine vv_imul dX11_statement_474 475 rfl ?_
                refine vv_aload_n dX11_statement_475 0 rfl rfl 476 rfl ?_
                refine vv_iconst dX11_statement_476 1 rfl 477 rfl ?_
                refine vv_callV [.int 1] [.int (100 * v_33)] (fun _ _ h => c_X11_two h) (ob_rec ob_m0 rfl rfl) cv_X11_statement_94 rfl (Nat.le_of_ble_eq_true rfl) 480 rfl dX11_statement_477 rfl hf (fun r34 σ35 hf => ?_)
                refine vv_iadd dX11_statement_480 481 rfl ?_
                refine vv_nm hf (fun v_36 hf => ?_)
                refine vv_istore_n dX11_statement_481 [(2, .int v_36), (0, .ref (ad 0)), (1, .int p1)] rfl (Nat.le_of_ble_eq_true rfl) rfl 482 rfl ?_
                refine vv_iload_n dX11_statement_482 0 rfl rfl 483 rfl ?_
                refine vv_sipush dX11_statement_483 400 rfl 486 rfl ?_
                refine vv_icmp_le dX11_statement_486 491 489 rfl rfl hf (fun hf => ?_) (fun hf => ?_)
                · refine vv_aload_n dX11_statement_491 1 rfl rfl 492 rfl ?_
                  refine vv_getR dX11_statement_492 7 gf_X11_statement_28 ob_m0 rfl rfl 495 rfl ?_
                  refine vv_iconst dX11_statement_495 5 rfl 496 rfl ?_
                  refine vv_iload_n dX11_statement_496 0 rfl rfl 497 rfl ?_
                  refine vv_iast dX11_statement_497 ob_m7 rfl 498 rfl hf (fun σ37 hf => ?_)
                  refine vv_iconst dX11_statement_498 1 rfl 499 rfl ?_
                  exact vv_ireti rfl dX11_statement_499 hf
                · refine vv_iconst dX11_statement_489 0 rfl 490 rfl ?_
                  exact vv_ireti rfl dX11_statement_490 hf
              · refine vv_iconst dX11_statement_464 1 rfl 465 rfl ?_
                exact vv_ireti rfl dX11_statement_465 hf
            · refine vv_iconst dX11_statement_458 (-1) rfl 459 rfl ?_
              exact vv_ireti rfl dX11_statement_459 hf
        · refine vv_aload_n dX11_statement_399 0 rfl rfl 400 rfl ?_
          refine vv_iconst dX11_statement_400 1 rfl 401 rfl ?_
          refine vv_callV [.int 1] [] (fun _ _ h => c_X11_digits h) (ob_rec ob_m0 rfl rfl) cv_X11_statement_91 rfl (Nat.le_of_ble_eq_true rfl) 404 rfl dX11_statement_401 rfl hf (fun r38 σ39 hf => ?_)
          refine vv_if_ne dX11_statement_404 409 407 rfl rfl hf (fun hf => ?_) (fun hf => ?_)
          · refine vv_iload_n dX11_statement_409 1 rfl rfl 410 rfl ?_
            refine vv_if_ne dX11_statement_410 415 413 rfl rfl hf (fun hf => ?_) (fun hf => ?_)
            · refine vv_aload_n dX11_statement_415 0 rfl rfl 416 rfl ?_
              refine vv_getR dX11_statement_416 12 gf_X11_statement_37 ob_m0 rfl rfl 419 rfl ?_
              refine vv_iconst dX11_statement_419 0 rfl 420 rfl ?_
              refine vv_iald dX11_statement_420 ob_m10 rfl 421 rfl hf (fun v_40 hf => ?_)
              refine vv_iconst dX11_statement_421 2 rfl 422 rfl ?_
              refine vv_icmp_le dX11_statement_422 427 425 rfl rfl hf (fun hf => ?_) (fun hf => ?_)
              · refine vv_aload_n dX11_statement_427 0 rfl rfl 428 rfl ?_
                refine vv_getR dX11_statement_428 7 gf_X11_statement_28 ob_m0 rfl rfl 431 rfl ?_
                refine vv_iconst dX11_statement_431 4 rfl 432 rfl ?_
                refine vv_aload_n dX11_statement_432 0 rfl rfl 433 rfl ?_
                refine vv_getR dX11_statement_433 12 gf_X11_statement_37 ob_m0 rfl rfl 436 rfl ?_
                refine vv_iconst dX11_statement_436 0 rfl 437 rfl ?_
                refine vv_iald dX11_statement_437 ob_m10 rfl 438 rfl hf (fun v_41 hf => ?_)
                refine vv_iast dX11_statement_438 ob_m7 rfl 439 rfl hf (fun σ42 hf => ?_)
                refine vv_iconst dX11_statement_439 1 rfl 440 rfl ?_
                exact vv_ireti rfl dX11_statement_440 hf
              · refine vv_iconst dX11_statement_425 0 rfl 426 rfl ?_
                exact vv_ireti rfl dX11_statement_426 hf
            · refine vv_iconst dX11_statement_413 1 rfl 414 rfl ?_
              exact vv_ireti rfl dX11_statement_414 hf
          · refine vv_iconst dX11_statement_407 (-1) rfl 408 rfl ?_
            exact vv_ireti rfl dX11_statement_408 hf
      · refine vv_aload_n dX11_statement_344 0 rfl rfl 345 rfl ?_
        refine vv_iconst dX11_statement_345 3 rfl 346 rfl ?_
        refine vv_callV [.int 3] [] (fun _ _ h => c_X11_digits h) (ob_rec ob_m0 rfl rfl) cv_X11_statement_91 rfl (Nat.le_of_ble_eq_true rfl) 349 rfl dX11_statement_346 rfl hf (fun r43 σ44 hf => ?_)
        refine vv_if_ne dX11_statement_349 354 352 rfl rfl hf (fun hf => ?_) (fun hf => ?_)
        · refine vv_iload_n dX11_statement_354 1 rfl rfl 355 rfl ?_
          refine vv_if_ne dX11_statement_355 360 358 rfl rfl hf (fun hf => ?_) (fun hf => ?_)
          · refine vv_aload_n dX11_statement_360 0 rfl rfl 361 rfl ?_
            refine vv_getR dX11_statement_361 12 gf_X11_statement_37 ob_m0 rfl rfl 364 rfl ?_
            refine vv_iconst dX11_statement_364 0 rfl 365 rfl ?_
            refine vv_iald dX11_statement_365 ob_m10 rfl 366 rfl hf (fun v_45 hf => ?_)
            refine vv_iconst dX11_statement_366 4 rfl 367 rfl ?_
            refine vv_icmp_le dX11_statement_367 372 370 rfl rfl hf (fun hf => ?_) (fun hf => ?_)
            · refine vv_aload_n dX11_statement_372 0 rfl rfl 373 rfl ?_
              refine vv_getR dX11_statement_373 8 gf_X11_statement_31 ob_m0 rfl rfl 376 rfl ?_
              refine vv_aload_n dX11_statement_376 0 rfl rfl 377 rfl ?_
              refine vv_getR dX11_statement_377 12 gf_X11_statement_37 ob_m0 rfl rfl 380 rfl ?_
              refine vv_iconst dX11_statement_380 0 rfl 381 rfl ?_
              refine vv_iald dX11_statement_381 ob_m10 rfl 382 rfl hf (fun v_46 hf => ?_)
              refine vv_aload_n dX11_statement_382 0 rfl rfl 383 rfl ?_
              refine vv_iconst dX11_statement_383 1 rfl 384 rfl ?_
              refine vv_callV [.int 1] [.int v_46, .ref (ad 8)] (fun _ _ h => c_X11_two h) (ob_rec ob_m0 rfl rfl) cv_X11_statement_94 rfl (Nat.le_of_ble_eq_true rfl) 387 rfl dX11_statement_384 rfl hf (fun r47 σ48 hf => ?_)
              refine vv_iast dX11_statement_387 ob_m8 rfl 388 rfl hf (fun σ49 hf => ?_)
              refine vv_iconst dX11_statement_388 1 rfl 389 rfl ?_
              exact vv_ireti rfl dX11_statement_389 hf
            · refine vv_iconst dX11_statement_370 0 rfl 371 rfl ?_
              exact vv_ireti rfl dX11_statement_371 hf
          · refine vv_iconst dX11_statement_358 1 rfl 359 rfl ?_
            exact vv_ireti rfl dX11_statement_359 hf
        · refine vv_iconst dX11_statement_352 (-1) rfl 353 rfl ?_
          exact vv_ireti rfl dX11_statement_353 hf
    · refine vv_aload_n dX11_statement_231 0 rfl rfl 232 rfl ?_
      refine vv_bipush dX11_statement_232 7 rfl 234 rfl ?_
      refine vv_callV [.int 7] [] (fun _ _ h => c_X11_digits h) (ob_rec ob_m0 rfl rfl) cv_X11_statement_91 rfl (Nat.le_of_ble_eq_true rfl) 237 rfl dX11_statement_234 rfl hf (fun r50 σ51 hf => ?_)
      refine vv_if_ne dX11_statement_237 242 240 rfl rfl hf (fun hf => ?_) (fun hf => ?_)
      · refine vv_iload_n dX11_statement_242 1 rfl rfl 243 rfl ?_
        refine vv_if_ne dX11_statement_243 248 246 rfl rfl hf (fun hf => ?_) (fun hf => ?_)
        · refine vv_aload_n dX11_statement_248 0 rfl rfl 249 rfl ?_
          refine vv_iconst dX11_statement_249 0 rfl 250 rfl ?_
          refine vv_callV [.int 0] [] (fun _ _ h => c_X11_two h) (ob_rec ob_m0 rfl rfl) cv_X11_statement_94 rfl (Nat.le_of_ble_eq_true rfl) 253 rfl dX11_statement_250 rfl hf (fun r52 σ53 hf => ?_)
          refine vv_iconst dX11_statement_253 1 rfl 254 rfl ?_
          refine vv_bipush dX11_statement_254 11 rfl 256 rfl ?_
          refine vv_callS [.int r52, .int 1, .int 11] [] (fun _ _ h => c_X11_within h) cs_X11_statement_70 rfl (Nat.le_of_ble_eq_true rfl) 259 rfl dX11_statement_256 rfl hf (fun r54 σ55 hf => ?_)
          refine vv_if_eq dX11_statement_259 286 262 rfl rfl hf (fun hf => ?_) (fun hf => ?_)
          · refine vv_iconst dX11_statement_286 0 rfl 287 rfl ?_
            exact vv_ireti rfl dX11_statement_287 hf
          · refine vv_aload_n dX11_statement_262 0 rfl rfl 263 rfl ?_
            refine vv_iconst dX11_statement_263 3 rfl 264 rfl ?_
            refine vv_callV [.int 3] [] (fun _ _ h => c_X11_two h) (ob_rec ob_m0 rfl rfl) cv_X11_statement_94 rfl (Nat.le_of_ble_eq_true rfl) 267 rfl dX11_statement_264 rfl hf (fun r56 σ57 hf => ?_)
            refine vv_bipush dX11_statement_267 40 rfl 269 rfl ?_
            refine vv_icmp_gt dX11_statement_269 286 272 rfl rfl hf (fun hf => ?_) (fun hf => ?_)
            · refine vv_iconst dX11_statement_286 0 rfl 287 rfl ?_
              exact vv_ireti rfl dX11_statement_287 hf
            · refine vv_aload_n dX11_statement_272 0 rfl rfl 273 rfl ?_
              refine vv_iconst dX11_statement_273 5 rfl 274 rfl ?_
              refine vv_callV [.int 5] [] (fun _ _ h => c_X11_two h) (ob_rec ob_m0 rfl rfl) cv_X11_statement_94 rfl (Nat.le_of_ble_eq_true rfl) 277 rfl dX11_statement_274 rfl hf (fun r58 σ59 hf => ?_)
              refine vv_iconst dX11_statement_277 1 rfl 278 rfl ?_
              refine vv_bipush dX11_statement_278 20 rfl 280 rfl ?_
              refine vv_callS [.int r58, .int 1, .int 20] [] (fun _ _ h => c_X11_within h) cs_X11_statement_70 rfl (Nat.le_of_ble_eq_true rfl) 283 rfl dX11_statement_280 rfl hf (fun r60 σ61 hf => ?_)
              refine vv_if_ne dX11_statement_283 288 286 rfl rfl hf (fun hf => ?_) (fun hf => ?_)
              · refine vv_aload_n dX11_statement_288 0 rfl rfl 289 rfl ?_
                refine vv_getR dX11_statement_289 7 gf_X11_statement_28 ob_m0 rfl rfl 292 rfl ?_
                refine vv_iconst dX11_statement_292 0 rfl 293 rfl ?_
                refine vv_aload_n dX11_statement_293 0 rfl rfl 294 rfl ?_
                refine vv_iconst dX11_statement_294 0 rfl 295 rfl ?_
                refine vv_callV [.int 0] [.int 0, .ref (ad 7)] (fun _ _ h => c_X11_two h) (ob_rec ob_m0 rfl rfl) cv_X11_statement_94 rfl (Nat.le_of_ble_eq_true rfl) 298 rfl dX11_statement_295 rfl hf (fun r62 σ63 hf => ?_)
                refine vv_iast dX11_statement_298 ob_m7 rfl 299 rfl hf (fun σ64 hf => ?_)
                refine vv_aload_n dX11_statement_299 0 rfl rfl 300 rfl ?_
                refine vv_getR dX11_statement_300 7 gf_X11_statement_28 ob_m0 rfl rfl 303 rfl ?_
                refine vv_iconst dX11_statement_303 1 rfl 304 rfl ?_
                refine vv_aload_n dX11_statement_304 0 rfl rfl 305 rfl ?_
                refine vv_getR dX11_statement_305 12 gf_X11_statement_37 ob_m0 rfl rfl 308 rfl ?_
                refine vv_iconst dX11_statement_308 2 rfl 309 rfl ?_
                refine vv_iald dX11_statement_309 ob_m10 rfl 310 rfl hf (fun v_65 hf => ?_)
                refine vv_iast dX11_statement_310 ob_m7 rfl 311 rfl hf (fun σ66 hf => ?_)
                refine vv_aload_n dX11_statement_311 0 rfl rfl 312 rfl ?_
                refine vv_getR dX11_statement_312 7 gf_X11_statement_28 ob_m0 rfl rfl 315 rfl ?_
                refine vv_iconst dX11_statement_315 2 rfl 316 rfl ?_
                refine vv_aload_n dX11_statement_316 0 rfl rfl 317 rfl ?_
                refine vv_iconst dX11_statement_317 3 rfl 318 rfl ?_
                refine vv_callV [.int 3] [.int 2, .ref (ad 7)] (fun _ _ h => c_X11_two h) (ob_rec ob_m0 rfl rfl) cv_X11_statement_94 rfl (Nat.le_of_ble_eq_true rfl) 321 rfl dX11_statement_318 rfl hf (fun r67 σ68 hf => ?_)
                refine vv_iast dX11_statement_321 ob_m7 rfl 322 rfl hf (fun σ69 hf => ?_)
                refine vv_aload_n dX11_statement_322 0 rfl rfl 323 rfl ?_
                refine vv_getR dX11_statement_323 7 gf_X11_statement_28 ob_m0 rfl rfl 326 rfl ?_
                refine vv_iconst dX11_statement_326 3 rfl 327 rfl ?_
                refine vv_aload_n dX11_statement_327 0 rfl rfl 328 rfl ?_
                refine vv_iconst dX11_statement_328 5 rfl 329 rfl ?_
                refine vv_callV [.int 5] [.int 3, .ref (ad 7)] (fun _ _ h => c_X11_two h) (ob_rec ob_m0 rfl rfl) cv_X11_statement_94 rfl (Nat.le_of_ble_eq_true rfl) 332 rfl dX11_statement_329 rfl hf (fun r70 σ71 hf => ?_)
                refine vv_iast dX11_statement_332 ob_m7 rfl 333 rfl hf (fun σ72 hf => ?_)
                refine vv_iconst dX11_statement_333 1 rfl 334 rfl ?_
                exact vv_ireti rfl dX11_statement_334 hf
              · refine vv_iconst dX11_statement_286 0 rfl 287 rfl ?_
                exact vv_ireti rfl dX11_statement_287 hf
        · refine vv_iconst dX11_statement_246 1 rfl 247 rfl ?_
          exact vv_ireti rfl dX11_statement_247 hf
      · refine vv_iconst dX11_statement_240 (-1) rfl 241 rfl ?_
        exact vv_ireti rfl dX11_statement_241 hf
  · refine vv_aload_n dX11_statement_9 0 rfl rfl 10 rfl ?_
    refine vv_getI dX11_statement_10 11 gf_X11_statement_77 ob_m0 rfl rfl 13 rfl ?_
    refine vv_aload_n dX11_statement_13 0 rfl rfl 14 rfl ?_
    refine vv_getI dX11_statement_14 9 gf_X11_statement_74 ob_m0 rfl rfl 17 rfl ?_
    refine vv_icmp_ge dX11_statement_17 49 20 rfl rfl hf (fun hf => ?_) (fun hf => ?_)
    · exact j_X11_statement_49 hf
    · refine vv_aload_n dX11_statement_20 0 rfl rfl 21 rfl ?_
      refine vv_getR dX11_statement_21 10 gf_X11_statement_34 ob_m0 rfl rfl 24 rfl ?_
      refine vv_aload_n dX11_statement_24 0 rfl rfl 25 rfl ?_
      refine vv_getI dX11_statement_25 11 gf_X11_statement_77 ob_m0 rfl rfl 28 rfl ?_
      refine vv_iald dX11_statement_28 ob_m9 rfl 29 rfl hf (fun v_93 hf => ?_)
      refine vv_if_le dX11_statement_29 49 32 rfl rfl hf (fun hf => ?_) (fun hf => ?_)
      · exact j_X11_statement_49 hf
      · refine vv_ldcS dX11_statement_32 6 "dslkga" (fun _ h => h.2.1.2.2.2) 34 rfl ?_
        refine vv_aload_n dX11_statement_34 0 rfl rfl 35 rfl ?_
        refine vv_getR dX11_statement_35 10 gf_X11_statement_34 ob_m0 rfl rfl 38 rfl ?_
        refine vv_aload_n dX11_statement_38 0 rfl rfl 39 rfl ?_
        refine vv_getI dX11_statement_39 11 gf_X11_statement_77 ob_m0 rfl rfl 42 rfl ?_
        refine vv_iald dX11_statement_42 ob_m9 rfl 43 rfl hf (fun v_94 hf => ?_)
        have hi_r95 := ob_tgI hf
        refine vv_callV [.int v_94] [] (fun _ _ h => c_J0_indexOf_0f7a4 hi_r95 (ob_tgE h)) (ob_recS hi_r95) cv_X11_statement_86 rfl (Nat.le_of_ble_eq_true rfl) 46 rfl dX11_statement_43 rfl hf (fun r95 σ96 hf => ?_)
        refine vv_goto dX11_statement_46 50 rfl ?_
        exact j_X11_statement_50 hf
abbrev mi_X11_again : ob_MI := (yX11_again, ob_ws yX11_again cX11_again 3 none, cX11_again, 3, none, { frames := 0, cells := 0, slots := 0, locals := 0 })
theorem pf_X11_again_66 : ob_PF mi_X11_again 66 11 0 .int := ⟨RX11, TX11, 24, tyX11, rfl, by decide, fun x h => List.mem_cons_of_mem _ (uw_X11 x h), List.mem_cons_of_mem _ tw_758, tyX11_ok, nmX11, rfl, by decide +kernel⟩
theorem gf_X11_again_31 : ob_GF mi_X11_again 31 11 8 := ⟨RX11, TX11, 24, rfl, by decide, fun x h => List.mem_cons_of_mem _ (uw_X11 x h), List.mem_cons_of_mem _ tw_766⟩
theorem gf_X11_again_7 : ob_GF mi_X11_again 7 11 1 := ⟨RX11, TX11, 24, rfl, by decide, fun x h => List.mem_cons_of_mem _ (uw_X11 x h), List.mem_cons_of_mem _ tw_759⟩
theorem gf_X11_again_13 : ob_GF mi_X11_again 13 11 2 := ⟨RX11, TX11, 24, rfl, by decide, fun x h => List.mem_cons_of_mem _ (uw_X11 x h), List.mem_cons_of_mem _ tw_760⟩
theorem gf_X11_again_16 : ob_GF mi_X11_again 16 11 3 := ⟨RX11, TX11, 24, rfl, by decide, fun x h => List.mem_cons_of_mem _ (uw_X11 x h), List.mem_cons_of_mem _ tw_761⟩
theorem gf_X11_again_19 : ob_GF mi_X11_again 19 11 4 := ⟨RX11, TX11, 24, rfl, by decide, fun x h => List.mem_cons_of_mem _ (uw_X11 x h), List.mem_cons_of_mem _ tw_762⟩
theorem gf_X11_again_22 : ob_GF mi_X11_again 22 11 5 := ⟨RX11, TX11, 24, rfl, by decide, fun x h => List.mem_cons_of_mem _ (uw_X11 x h), List.mem_cons_of_mem _ tw_763⟩
theorem gf_X11_again_25 : ob_GF mi_X11_again 25 11 6 := ⟨RX11, TX11, 24, rfl, by decide, fun x h => List.mem_cons_of_mem _ (uw_X11 x h), List.mem_cons_of_mem _ tw_764⟩
theorem gf_X11_again_28 : ob_GF mi_X11_again 28 11 7 := ⟨RX11, TX11, 24, rfl, by decide, fun x h => List.mem_cons_of_mem _ (uw_X11 x h), List.mem_cons_of_mem _ tw_765⟩
noncomputable def L_X11_again_97 (a : Nat) : Nat → ob_St → Int32 → Option (Unit × ob_St)
  | 0, _, _ => none
  | n + 1, σ, v2 =>
    if (5 : Int32) ≤ v2 then
      ob_ld σ a 48 47 fun v_1 =>
      ob_pf σ 0 0 v_1 fun σ2 =>
      some ((), σ2)
    else
      ob_ld σ a 48 (42 + v2) fun v_3 =>
      ob_sd σ 8 5 v2 v_3 fun σ4 =>
      L_X11_again_97 a n σ4 (v2 + 1)
noncomputable def L_X11_again_2 (a : Nat) : Nat → ob_St → Int32 → Option (Unit × ob_St)
  | 0, _, _ => none
  | n + 1, σ, v2 =>
    if (6 : Int32) ≤ v2 then
      L_X11_again_97 a 1000 σ 0
    else
      ob_ld σ a 48 v2 fun v_5 =>
      ob_sd σ 1 6 v2 v_5 fun σ6 =>
      ob_ld σ6 a 48 (6 + v2) fun v_7 =>
      ob_sd σ6 2 6 v2 v_7 fun σ8 =>
      ob_ld σ8 a 48 (12 + v2) fun v_9 =>
      ob_sd σ8 3 6 v2 v_9 fun σ10 =>
      ob_ld σ10 a 48 (18 + v2) fun v_11 =>
      ob_sd σ10 4 6 v2 v_11 fun σ12 =>
      ob_ld σ12 a 48 (24 + v2) fun v_13 =>
      ob_sd σ12 5 6 v2 v_13 fun σ14 =>
      ob_ld σ14 a 48 (30 + v2) fun v_15 =>
      ob_sd σ14 6 6 v2 v_15 fun σ16 =>
      ob_ld σ16 a 48 (36 + v2) fun v_17 =>
      ob_sd σ16 7 6 v2 v_17 fun σ18 =>
      L_X11_again_2 a n σ18 (v2 + 1)
noncomputable def f_X11_again (a : Nat) (σ : ob_St) : Option (Unit × ob_St) :=
  L_X11_again_2 a 1000 σ 0
set_option maxRecDepth 100000 in
set_option maxHeartbeats 4000000 in
theorem l_X11_again_97 {g : ob_GT} {ad : Nat → Nat} {a : Nat} (ha : a < 18 ∧ ob_msh a = .inl 48) {r : Unit} {σ' : ob_St} : ∀ (n : Nat) {σ : ob_St} {v2 : Int32}, L_X11_again_97 a n σ v2 = some (r, σ') → ob_V g (ob_M ad) mi_X11_again none σ' σ 97 [(0, .ref (ad 0)), (1, .ref (ad a)), (2, .int v2)] [] := by
  intro n
  induction n with
  | zero => intro σ v2 hf; exact absurd hf (fun h => by cases h)
  | succ n ih =>
    intro σ v2 hf
    refine vv_iload_n dX11_again_97 2 rfl rfl 98 rfl ?_
    refine vv_iconst dX11_again_98 5 rfl 99 rfl ?_
    refine vv_icmp_ge dX11_again_99 120 102 rfl rfl hf (fun hf => ?_) (fun hf => ?_)
    · refine vv_aload_n dX11_again_120 0 rfl rfl 121 rfl ?_
      refine vv_aload_n dX11_again_121 1 rfl rfl 122 rfl ?_
      refine vv_bipush dX11_again_122 47 rfl 124 rfl ?_
      refine vv_iald dX11_again_124 ha.1 ha.2 125 rfl hf (fun v_1 hf => ?_)
      refine vv_putI dX11_again_125 0 pf_X11_again_66 ob_m0 rfl rfl (ob_fit_int _) 128 rfl hf (fun σ2 hf => ?_)
      exact vv_ret rfl dX11_again_128 hf
    · refine vv_aload_n dX11_again_102 0 rfl rfl 103 rfl ?_
      refine vv_getR dX11_again_103 8 gf_X11_again_31 ob_m0 rfl rfl 106 rfl ?_
      refine vv_iload_n dX11_again_106 2 rfl rfl 107 rfl ?_
      refine vv_aload_n dX11_again_107 1 rfl rfl 108 rfl ?_
      refine vv_bipush dX11_again_108 42 rfl 110 rfl ?_
      refine vv_iload_n dX11_again_110 2 rfl rfl 111 rfl ?_
      refine vv_iadd dX11_again_111 112 rfl ?_
      refine vv_iald dX11_again_112 ha.1 ha.2 113 rfl hf (fun v_3 hf => ?_)
      refine vv_iast dX11_again_113 ob_m8 rfl 114 rfl hf (fun σ4 hf => ?_)
      refine vv_iinc dX11_again_114 (v2 + 1) 2 [(2, .int (v2 + 1)), (0, .ref (ad 0)), (1, .ref (ad a))] rfl rfl (Nat.le_of_ble_eq_true rfl) rfl 117 rfl ?_
      refine vv_goto dX11_again_117 97 rfl ?_
      refine vv_sub [1, 2, 0] [(0, .ref (ad 0)), (1, .ref (ad a)), (2, .int (v2 + 1))] rfl ?_
      exact ih hf
set_option maxRecDepth 100000 in
set_option maxHeartbeats 4000000 in
theorem l_X11_again_2 {g : ob_GT} {ad : Nat → Nat} {a : Nat} (ha : a < 18 ∧ ob_msh a = .inl 48) {r : Unit} {σ' : ob_St} : ∀ (n : Nat) {σ : ob_St} {v2 : Int32}, L_X11_again_2 a n σ v2 = some (r, σ') → ob_V g (ob_M ad) mi_X11_again none σ' σ 2 [(0, .ref (ad 0)), (1, .ref (ad a)), (2, .int v2)] [] := by
  intro n
  induction n with
  | zero => intro σ v2 hf; exact absurd hf (fun h => by cases h)
  | succ n ih =>
    intro σ v2 hf
    refine vv_iload_n dX11_again_2 2 rfl rfl 3 rfl ?_
    refine vv_bipush dX11_again_3 6 rfl 5 rfl ?_
    refine vv_icmp_ge dX11_again_5 95 8 rfl rfl hf (fun hf => ?_) (fun hf => ?_)
    · refine vv_iconst dX11_again_95 0 rfl 96 rfl ?_
      refine vv_istore_n dX11_again_96 [(2, .int 0), (0, .ref (ad 0)), (1, .ref (ad a))] rfl (Nat.le_of_ble_eq_true rfl) rfl 97 rfl ?_
      refine vv_sub [1, 2, 0] [(0, .ref (ad 0)), (1, .ref (ad a)), (2, .int 0)] rfl ?_
      exact l_X11_again_97 ha 1000 hf
    · refine vv_aload_n dX11_again_8 0 rfl rfl 9 rfl ?_
      refine vv_getR dX11_again_9 1 gf_X11_again_7 ob_m0 rfl rfl 12 rfl ?_
      refine vv_iload_n dX11_again_12 2 rfl rfl 13 rfl ?_
      refine vv_aload_n dX11_again_13 1 rfl rfl 14 rfl ?_
      refine vv_iload_n dX11_again_14 2 rfl rfl 15 rfl ?_
      refine vv_iald dX11_again_15 ha.1 ha.2 16 rfl hf (fun v_5 hf => ?_)
      refine vv_iast dX11_again_16 ob_m1 rfl 17 rfl hf (fun σ6 hf => ?_)
      refine vv_aload_n dX11_again_17 0 rfl rfl 18 rfl ?_
      refine vv_getR dX11_again_18 2 gf_X11_again_13 ob_m0 rfl rfl 21 rfl ?_
      refine vv_iload_n dX11_again_21 2 rfl rfl 22 rfl ?_
      refine vv_aload_n dX11_again_22 1 rfl rfl 23 rfl ?_
      refine vv_bipush dX11_again_23 6 rfl 25 rfl ?_
      refine vv_iload_n dX11_again_25 2 rfl rfl 26 rfl ?_
      refine vv_iadd dX11_again_26 27 rfl ?_
      refine vv_iald dX11_again_27 ha.1 ha.2 28 rfl hf (fun v_7 hf => ?_)
      refine vv_iast dX11_again_28 ob_m2 rfl 29 rfl hf (fun σ8 hf => ?_)
      refine vv_aload_n dX11_again_29 0 rfl rfl 30 rfl ?_
      refine vv_getR dX11_again_30 3 gf_X11_again_16 ob_m0 rfl rfl 33 rfl ?_
      refine vv_iload_n dX11_again_33 2 rfl rfl 34 rfl ?_
      refine vv_aload_n dX11_again_34 1 rfl rfl 35 rfl ?_
      refine vv_bipush dX11_again_35 12 rfl 37 rfl ?_
      refine vv_iload_n dX11_again_37 2 rfl rfl 38 rfl ?_
      refine vv_iadd dX11_again_38 39 rfl ?_
      refine vv_iald dX11_again_39 ha.1 ha.2 40 rfl hf (fun v_9 hf => ?_)
      refine vv_iast dX11_again_40 ob_m3 rfl 41 rfl hf (fun σ10 hf => ?_)
      refine vv_aload_n dX11_again_41 0 rfl rfl 42 rfl ?_
      refine vv_getR dX11_again_42 4 gf_X11_again_19 ob_m0 rfl rfl 45 rfl ?_
      refine vv_iload_n dX11_again_45 2 rfl rfl 46 rfl ?_
      refine vv_aload_n dX11_again_46 1 rfl rfl 47 rfl ?_
      refine vv_bipush dX11_again_47 18 rfl 49 rfl ?_
      refine vv_iload_n dX11_again_49 2 rfl rfl 50 rfl ?_
      refine vv_iadd dX11_again_50 51 rfl ?_
      refine vv_iald dX11_again_51 ha.1 ha.2 52 rfl hf (fun v_11 hf => ?_)
      refine vv_iast dX11_again_52 ob_m4 rfl 53 rfl hf (fun σ12 hf => ?_)
      refine vv_aload_n dX11_again_53 0 rfl rfl 54 rfl ?_
      refine vv_getR dX11_again_54 5 gf_X11_again_22 ob_m0 rfl rfl 57 rfl ?_
      refine vv_iload_n dX11_again_57 2 rfl rfl 58 rfl ?_
      refine vv_aload_n dX11_again_58 1 rfl rfl 59 rfl ?_
      refine vv_bipush dX11_again_59 24 rfl 61 rfl ?_
      refine vv_iload_n dX11_again_61 2 rfl rfl 62 rfl ?_
      refine vv_iadd dX11_again_62 63 rfl ?_
      refine vv_iald dX11_again_63 ha.1 ha.2 64 rfl hf (fun v_13 hf => ?_)
      refine vv_iast dX11_again_64 ob_m5 rfl 65 rfl hf (fun σ14 hf => ?_)
      refine vv_aload_n dX11_again_65 0 rfl rfl 66 rfl ?_
      refine vv_getR dX11_again_66 6 gf_X11_again_25 ob_m0 rfl rfl 69 rfl ?_
      refine vv_iload_n dX11_again_69 2 rfl rfl 70 rfl ?_
      refine vv_aload_n dX11_again_70 1 rfl rfl 71 rfl ?_
      refine vv_bipush dX11_again_71 30 rfl 73 rfl ?_
      refine vv_iload_n dX11_again_73 2 rfl rfl 74 rfl ?_
      refine vv_iadd dX11_again_74 75 rfl ?_
      refine vv_iald dX11_again_75 ha.1 ha.2 76 rfl hf (fun v_15 hf => ?_)
      refine vv_iast dX11_again_76 ob_m6 rfl 77 rfl hf (fun σ16 hf => ?_)
      refine vv_aload_n dX11_again_77 0 rfl rfl 78 rfl ?_
      refine vv_getR dX11_again_78 7 gf_X11_again_28 ob_m0 rfl rfl 81 rfl ?_
      refine vv_iload_n dX11_again_81 2 rfl rfl 82 rfl ?_
      refine vv_aload_n dX11_again_82 1 rfl rfl 83 rfl ?_
      refine vv_bipush dX11_again_83 36 rfl 85 rfl ?_
      refine vv_iload_n dX11_again_85 2 rfl rfl 86 rfl ?_
      refine vv_iadd dX11_again_86 87 rfl ?_
      refine vv_iald dX11_again_87 ha.1 ha.2 88 rfl hf (fun v_17 hf => ?_)
      refine vv_iast dX11_again_88 ob_m7 rfl 89 rfl hf (fun σ18 hf => ?_)
      refine vv_iinc dX11_again_89 (v2 + 1) 2 [(2, .int (v2 + 1)), (0, .ref (ad 0)), (1, .ref (ad a))] rfl rfl (Nat.le_of_ble_eq_true rfl) rfl 92 rfl ?_
      refine vv_goto dX11_again_92 2 rfl ?_
      refine vv_sub [1, 2, 0] [(0, .ref (ad 0)), (1, .ref (ad a)), (2, .int (v2 + 1))] rfl ?_
      exact ih hf
set_option maxRecDepth 100000 in
set_option maxHeartbeats 4000000 in
theorem c_X11_again {g : ob_GT} {ad : Nat → Nat} {a : Nat} (ha : a < 18 ∧ ob_msh a = .inl 48) {r : Unit} {σ' : ob_St} {σ : ob_St} (hf : f_X11_again a σ = some (r, σ')) : ob_CT g (ob_M ad) mi_X11_again [.ref (ad 0), .ref (ad a)] σ none σ' := by
  refine ob_ct (by decide +kernel) rfl (Nat.le_of_ble_eq_true rfl) ?_
  show ob_V g (ob_M ad) mi_X11_again none σ' σ 0 [(0, .ref (ad 0)), (1, .ref (ad a))] []
  refine vv_iconst dX11_again_0 0 rfl 1 rfl ?_
  refine vv_istore_n dX11_again_1 [(2, .int 0), (0, .ref (ad 0)), (1, .ref (ad a))] rfl (Nat.le_of_ble_eq_true rfl) rfl 2 rfl ?_
  refine vv_sub [1, 2, 0] [(0, .ref (ad 0)), (1, .ref (ad a)), (2, .int 0)] rfl ?_
  exact l_X11_again_2 ha 1000 hf
abbrev mi_X11_keep : ob_MI := (yX11_keep, ob_ws yX11_keep cX11_keep 3 none, cX11_keep, 3, none, { frames := 0, cells := 0, slots := 0, locals := 0 })
theorem gf_X11_keep_66 : ob_GF mi_X11_keep 66 11 0 := ⟨RX11, TX11, 24, rfl, by decide, fun x h => List.mem_cons_of_mem _ (uw_X11 x h), List.mem_cons_of_mem _ tw_758⟩
theorem gf_X11_keep_31 : ob_GF mi_X11_keep 31 11 8 := ⟨RX11, TX11, 24, rfl, by decide, fun x h => List.mem_cons_of_mem _ (uw_X11 x h), List.mem_cons_of_mem _ tw_766⟩
theorem gf_X11_keep_7 : ob_GF mi_X11_keep 7 11 1 := ⟨RX11, TX11, 24, rfl, by decide, fun x h => List.mem_cons_of_mem _ (uw_X11 x h), List.mem_cons_of_mem _ tw_759⟩
theorem gf_X11_keep_13 : ob_GF mi_X11_keep 13 11 2 := ⟨RX11, TX11, 24, rfl, by decide, fun x h => List.mem_cons_of_mem _ (uw_X11 x h), List.mem_cons_of_mem _ tw_760⟩
theorem gf_X11_keep_16 : ob_GF mi_X11_keep 16 11 3 := ⟨RX11, TX11, 24, rfl, by decide, fun x h => List.mem_cons_of_mem _ (uw_X11 x h), List.mem_cons_of_mem _ tw_761⟩
theorem gf_X11_keep_19 : ob_GF mi_X11_keep 19 11 4 := ⟨RX11, TX11, 24, rfl, by decide, fun x h => List.mem_cons_of_mem _ (uw_X11 x h), List.mem_cons_of_mem _ tw_762⟩
theorem gf_X11_keep_22 : ob_GF mi_X11_keep 22 11 5 := ⟨RX11, TX11, 24, rfl, by decide, fun x h => List.mem_cons_of_mem _ (uw_X11 x h), List.mem_cons_of_mem _ tw_763⟩
theorem gf_X11_keep_25 : ob_GF mi_X11_keep 25 11 6 := ⟨RX11, TX11, 24, rfl, by decide, fun x h => List.mem_cons_of_mem _ (uw_X11 x h), List.mem_cons_of_mem _ tw_764⟩
theorem gf_X11_keep_28 : ob_GF mi_X11_keep 28 11 7 := ⟨RX11, TX11, 24, rfl, by decide, fun x h => List.mem_cons_of_mem _ (uw_X11 x h), List.mem_cons_of_mem _ tw_765⟩
noncomputable def L_X11_keep_97 (a : Nat) : Nat → ob_St → Int32 → Option (Unit × ob_St)
  | 0, _, _ => none
  | n + 1, σ, v2 =>
    if (5 : Int32) ≤ v2 then
      ob_sd σ a 48 47 (σ 0 0) fun σ1 =>
      some ((), σ1)
    else
      ob_ld σ 8 5 v2 fun v_2 =>
      ob_sd σ a 48 (42 + v2) v_2 fun σ3 =>
      L_X11_keep_97 a n σ3 (v2 + 1)
noncomputable def L_X11_keep_2 (a : Nat) : Nat → ob_St → Int32 → Option (Unit × ob_St)
  | 0, _, _ => none
  | n + 1, σ, v2 =>
    if (6 : Int32) ≤ v2 then
      L_X11_keep_97 a 1000 σ 0
    else
      ob_ld σ 1 6 v2 fun v_4 =>
      ob_sd σ a 48 v2 v_4 fun σ5 =>
      ob_ld σ5 2 6 v2 fun v_6 =>
      ob_sd σ5 a 48 (6 + v2) v_6 fun σ7 =>
      ob_ld σ7 3 6 v2 fun v_8 =>
      ob_sd σ7 a 48 (12 + v2) v_8 fun σ9 =>
      ob_ld σ9 4 6 v2 fun v_10 =>
      ob_sd σ9 a 48 (18 + v2) v_10 fun σ11 =>
      ob_ld σ11 5 6 v2 fun v_12 =>
      ob_sd σ11 a 48 (24 + v2) v_12 fun σ13 =>
      ob_ld σ13 6 6 v2 fun v_14 =>
      ob_sd σ13 a 48 (30 + v2) v_14 fun σ15 =>
      ob_ld σ15 7 6 v2 fun v_16 =>
      ob_sd σ15 a 48 (36 + v2) v_16 fun σ17 =>
      L_X11_keep_2 a n σ17 (v2 + 1)
noncomputable def f_X11_keep (a : Nat) (σ : ob_St) : Option (Unit × ob_St) :=
  L_X11_keep_2 a 1000 σ 0
set_option maxRecDepth 100000 in
set_option maxHeartbeats 4000000 in
theorem l_X11_keep_97 {g : ob_GT} {ad : Nat → Nat} {a : Nat} (ha : a < 18 ∧ ob_msh a = .inl 48) {r : Unit} {σ' : ob_St} : ∀ (n : Nat) {σ : ob_St} {v2 : Int32}, L_X11_keep_97 a n σ v2 = some (r, σ') → ob_V g (ob_M ad) mi_X11_keep none σ' σ 97 [(0, .ref (ad 0)), (1, .ref (ad a)), (2, .int v2)] [] := by
  intro n
  induction n with
  | zero => intro σ v2 hf; exact absurd hf (fun h => by cases h)
  | succ n ih =>
    intro σ v2 hf
    refine vv_iload_n dX11_keep_97 2 rfl rfl 98 rfl ?_
    refine vv_iconst dX11_keep_98 5 rfl 99 rfl ?_
    refine vv_icmp_ge dX11_keep_99 120 102 rfl rfl hf (fun hf => ?_) (fun hf => ?_)
    · refine vv_aload_n dX11_keep_120 1 rfl rfl 121 rfl ?_
      refine vv_bipush dX11_keep_121 47 rfl 123 rfl ?_
      refine vv_aload_n dX11_keep_123 0 rfl rfl 124 rfl ?_
      refine vv_getI dX11_keep_124 0 gf_X11_keep_66 ob_m0 rfl rfl 127 rfl ?_
      refine vv_iast dX11_keep_127 ha.1 ha.2 128 rfl hf (fun σ1 hf => ?_)
      exact vv_ret rfl dX11_keep_128 hf
    · refine vv_aload_n dX11_keep_102 1 rfl rfl 103 rfl ?_
      refine vv_bipush dX11_keep_103 42 rfl 105 rfl ?_
      refine vv_iload_n dX11_keep_105 2 rfl rfl 106 rfl ?_
      refine vv_iadd dX11_keep_106 107 rfl ?_
      refine vv_aload_n dX11_keep_107 0 rfl rfl 108 rfl ?_
      refine vv_getR dX11_keep_108 8 gf_X11_keep_31 ob_m0 rfl rfl 111 rfl ?_
      refine vv_iload_n dX11_keep_111 2 rfl rfl 112 rfl ?_
      refine vv_iald dX11_keep_112 ob_m8 rfl 113 rfl hf (fun v_2 hf => ?_)
      refine vv_iast dX11_keep_113 ha.1 ha.2 114 rfl hf (fun σ3 hf => ?_)
      refine vv_iinc dX11_keep_114 (v2 + 1) 2 [(2, .int (v2 + 1)), (0, .ref (ad 0)), (1, .ref (ad a))] rfl rfl (Nat.le_of_ble_eq_true rfl) rfl 117 rfl ?_
      refine vv_goto dX11_keep_117 97 rfl ?_
      refine vv_sub [1, 2, 0] [(0, .ref (ad 0)), (1, .ref (ad a)), (2, .int (v2 + 1))] rfl ?_
      exact ih hf
set_option maxRecDepth 100000 in
set_option maxHeartbeats 4000000 in
theorem l_X11_keep_2 {g : ob_GT} {ad : Nat → Nat} {a : Nat} (ha : a < 18 ∧ ob_msh a = .inl 48) {r : Unit} {σ' : ob_St} : ∀ (n : Nat) {σ : ob_St} {v2 : Int32}, L_X11_keep_2 a n σ v2 = some (r, σ') → ob_V g (ob_M ad) mi_X11_keep none σ' σ 2 [(0, .ref (ad 0)), (1, .ref (ad a)), (2, .int v2)] [] := by
  intro n
  induction n with
  | zero => intro σ v2 hf; exact absurd hf (fun h => by cases h)
  | succ n ih =>
    intro σ v2 hf
    refine vv_iload_n dX11_keep_2 2 rfl rfl 3 rfl ?_
    refine vv_bipush dX11_keep_3 6 rfl 5 rfl ?_
    refine vv_icmp_ge dX11_keep_5 95 8 rfl rfl hf (fun hf => ?_) (fun hf => ?_)
    · refine vv_iconst dX11_keep_95 0 rfl 96 rfl ?_
      refine vv_istore_n dX11_keep_96 [(2, .int 0), (0, .ref (ad 0)), (1, .ref (ad a))] rfl (Nat.le_of_ble_eq_true rfl) rfl 97 rfl ?_
      refine vv_sub [1, 2, 0] [(0, .ref (ad 0)), (1, .ref (ad a)), (2, .int 0)] rfl ?_
      exact l_X11_keep_97 ha 1000 hf
    · refine vv_aload_n dX11_keep_8 1 rfl rfl 9 rfl ?_
      refine vv_iload_n dX11_keep_9 2 rfl rfl 10 rfl ?_
      refine vv_aload_n dX11_keep_10 0 rfl rfl 11 rfl ?_
      refine vv_getR dX11_keep_11 1 gf_X11_keep_7 ob_m0 rfl rfl 14 rfl ?_
      refine vv_iload_n dX11_keep_14 2 rfl rfl 15 rfl ?_
      refine vv_iald dX11_keep_15 ob_m1 rfl 16 rfl hf (fun v_4 hf => ?_)
      refine vv_iast dX11_keep_16 ha.1 ha.2 17 rfl hf (fun σ5 hf => ?_)
      refine vv_aload_n dX11_keep_17 1 rfl rfl 18 rfl ?_
      refine vv_bipush dX11_keep_18 6 rfl 20 rfl ?_
      refine vv_iload_n dX11_keep_20 2 rfl rfl 21 rfl ?_
      refine vv_iadd dX11_keep_21 22 rfl ?_
      refine vv_aload_n dX11_keep_22 0 rfl rfl 23 rfl ?_
      refine vv_getR dX11_keep_23 2 gf_X11_keep_13 ob_m0 rfl rfl 26 rfl ?_
      refine vv_iload_n dX11_keep_26 2 rfl rfl 27 rfl ?_
      refine vv_iald dX11_keep_27 ob_m2 rfl 28 rfl hf (fun v_6 hf => ?_)
      refine vv_iast dX11_keep_28 ha.1 ha.2 29 rfl hf (fun σ7 hf => ?_)
      refine vv_aload_n dX11_keep_29 1 rfl rfl 30 rfl ?_
      refine vv_bipush dX11_keep_30 12 rfl 32 rfl ?_
      refine vv_iload_n dX11_keep_32 2 rfl rfl 33 rfl ?_
      refine vv_iadd dX11_keep_33 34 rfl ?_
      refine vv_aload_n dX11_keep_34 0 rfl rfl 35 rfl ?_
      refine vv_getR dX11_keep_35 3 gf_X11_keep_16 ob_m0 rfl rfl 38 rfl ?_
      refine vv_iload_n dX11_keep_38 2 rfl rfl 39 rfl ?_
      refine vv_iald dX11_keep_39 ob_m3 rfl 40 rfl hf (fun v_8 hf => ?_)
      refine vv_iast dX11_keep_40 ha.1 ha.2 41 rfl hf (fun σ9 hf => ?_)
      refine vv_aload_n dX11_keep_41 1 rfl rfl 42 rfl ?_
      refine vv_bipush dX11_keep_42 18 rfl 44 rfl ?_
      refine vv_iload_n dX11_keep_44 2 rfl rfl 45 rfl ?_
      refine vv_iadd dX11_keep_45 46 rfl ?_
      refine vv_aload_n dX11_keep_46 0 rfl rfl 47 rfl ?_
      refine vv_getR dX11_keep_47 4 gf_X11_keep_19 ob_m0 rfl rfl 50 rfl ?_
      refine vv_iload_n dX11_keep_50 2 rfl rfl 51 rfl ?_
      refine vv_iald dX11_keep_51 ob_m4 rfl 52 rfl hf (fun v_10 hf => ?_)
      refine vv_iast dX11_keep_52 ha.1 ha.2 53 rfl hf (fun σ11 hf => ?_)
      refine vv_aload_n dX11_keep_53 1 rfl rfl 54 rfl ?_
      refine vv_bipush dX11_keep_54 24 rfl 56 rfl ?_
      refine vv_iload_n dX11_keep_56 2 rfl rfl 57 rfl ?_
      refine vv_iadd dX11_keep_57 58 rfl ?_
      refine vv_aload_n dX11_keep_58 0 rfl rfl 59 rfl ?_
      refine vv_getR dX11_keep_59 5 gf_X11_keep_22 ob_m0 rfl rfl 62 rfl ?_
      refine vv_iload_n dX11_keep_62 2 rfl rfl 63 rfl ?_
      refine vv_iald dX11_keep_63 ob_m5 rfl 64 rfl hf (fun v_12 hf => ?_)
      refine vv_iast dX11_keep_64 ha.1 ha.2 65 rfl hf (fun σ13 hf => ?_)
      refine vv_aload_n dX11_keep_65 1 rfl rfl 66 rfl ?_
      refine vv_bipush dX11_keep_66 30 rfl 68 rfl ?_
      refine vv_iload_n dX11_keep_68 2 rfl rfl 69 rfl ?_
      refine vv_iadd dX11_keep_69 70 rfl ?_
      refine vv_aload_n dX11_keep_70 0 rfl rfl 71 rfl ?_
      refine vv_getR dX11_keep_71 6 gf_X11_keep_25 ob_m0 rfl rfl 74 rfl ?_
      refine vv_iload_n dX11_keep_74 2 rfl rfl 75 rfl ?_
      refine vv_iald dX11_keep_75 ob_m6 rfl 76 rfl hf (fun v_14 hf => ?_)
      refine vv_iast dX11_keep_76 ha.1 ha.2 77 rfl hf (fun σ15 hf => ?_)
      refine vv_aload_n dX11_keep_77 1 rfl rfl 78 rfl ?_
      refine vv_bipush dX11_keep_78 36 rfl 80 rfl ?_
      refine vv_iload_n dX11_keep_80 2 rfl rfl 81 rfl ?_
      refine vv_iadd dX11_keep_81 82 rfl ?_
      refine vv_aload_n dX11_keep_82 0 rfl rfl 83 rfl ?_
      refine vv_getR dX11_keep_83 7 gf_X11_keep_28 ob_m0 rfl rfl 86 rfl ?_
      refine vv_iload_n dX11_keep_86 2 rfl rfl 87 rfl ?_
      refine vv_iald dX11_keep_87 ob_m7 rfl 88 rfl hf (fun v_16 hf => ?_)
      refine vv_iast dX11_keep_88 ha.1 ha.2 89 rfl hf (fun σ17 hf => ?_)
      refine vv_iinc dX11_keep_89 (v2 + 1) 2 [(2, .int (v2 + 1)), (0, .ref (ad 0)), (1, .ref (ad a))] rfl rfl (Nat.le_of_ble_eq_true rfl) rfl 92 rfl ?_
      refine vv_goto dX11_keep_92 2 rfl ?_
      refine vv_sub [1, 2, 0] [(0, .ref (ad 0)), (1, .ref (ad a)), (2, .int (v2 + 1))] rfl ?_
      exact ih hf
set_option maxRecDepth 100000 in
set_option maxHeartbeats 4000000 in
theorem c_X11_keep {g : ob_GT} {ad : Nat → Nat} {a : Nat} (ha : a < 18 ∧ ob_msh a = .inl 48) {r : Unit} {σ' : ob_St} {σ : ob_St} (hf : f_X11_keep a σ = some (r, σ')) : ob_CT g (ob_M ad) mi_X11_keep [.ref (ad 0), .ref (ad a)] σ none σ' := by
  refine ob_ct (by decide +kernel) rfl (Nat.le_of_ble_eq_true rfl) ?_
  show ob_V g (ob_M ad) mi_X11_keep none σ' σ 0 [(0, .ref (ad 0)), (1, .ref (ad a))] []
  refine vv_iconst dX11_keep_0 0 rfl 1 rfl ?_
  refine vv_istore_n dX11_keep_1 [(2, .int 0), (0, .ref (ad 0)), (1, .ref (ad a))] rfl (Nat.le_of_ble_eq_true rfl) rfl 2 rfl ?_
  refine vv_sub [1, 2, 0] [(0, .ref (ad 0)), (1, .ref (ad a)), (2, .int 0)] rfl ?_
  exact l_X11_keep_2 ha 1000 hf
abbrev mi_X11_kitchen : ob_MI := (yX11_kitchen, ob_ws yX11_kitchen cX11_kitchen 4 (some .int), cX11_kitchen, 4, (some .int), { frames := 5, cells := 0, slots := 0, locals := 113 })
theorem pf_X11_kitchen_77 : ob_PF mi_X11_kitchen 77 11 11 .int := ⟨RX11, TX11, 24, tyX11, rfl, by decide, fun x h => List.mem_cons_of_mem _ (uw_X11 x h), List.mem_cons_of_mem _ tw_769, tyX11_ok, nmX11, rfl, by decide +kernel⟩
theorem gf_X11_kitchen_49 : ob_GF mi_X11_kitchen 49 11 18 := ⟨RX11, TX11, 24, rfl, by decide, fun x h => List.mem_cons_of_mem _ (uw_X11 x h), List.mem_cons_of_mem _ tw_776⟩
theorem cv_X11_kitchen_111 : ob_CV mi_X11_kitchen mi_X11_keep 111 RX11 1 := ob_cvI rfl rfl tw_876 tw_878 tw_26 tw_59 tw_879 ⟨rfl, rfl⟩ ⟨rfl, by decide +kernel, by decide +kernel, by decide +kernel⟩ ⟨Nat.le_of_ble_eq_true rfl, Nat.le_of_ble_eq_true rfl⟩
theorem gf_X11_kitchen_77 : ob_GF mi_X11_kitchen 77 11 11 := ⟨RX11, TX11, 24, rfl, by decide, fun x h => List.mem_cons_of_mem _ (uw_X11 x h), List.mem_cons_of_mem _ tw_769⟩
theorem gf_X11_kitchen_74 : ob_GF mi_X11_kitchen 74 11 9 := ⟨RX11, TX11, 24, rfl, by decide, fun x h => List.mem_cons_of_mem _ (uw_X11 x h), List.mem_cons_of_mem _ tw_767⟩
theorem pf_X11_kitchen_74 : ob_PF mi_X11_kitchen 74 11 9 .int := ⟨RX11, TX11, 24, tyX11, rfl, by decide, fun x h => List.mem_cons_of_mem _ (uw_X11 x h), List.mem_cons_of_mem _ tw_767, tyX11_ok, nmX11, rfl, by decide +kernel⟩
theorem cv_X11_kitchen_107 : ob_CV mi_X11_kitchen mi_X11_statement 107 RX11 1 := ob_cvI rfl rfl tw_843 tw_845 tw_19 tw_59 tw_846 ⟨rfl, rfl⟩ ⟨rfl, by decide +kernel, by decide +kernel, by decide +kernel⟩ ⟨Nat.le_of_ble_eq_true rfl, Nat.le_of_ble_eq_true rfl⟩
theorem cv_X11_kitchen_80 : ob_CV mi_X11_kitchen mi_X11_is 80 RX11 1 := ob_cvI rfl rfl tw_847 tw_849 tw_20 tw_59 tw_850 ⟨rfl, rfl⟩ ⟨rfl, by decide +kernel, by decide +kernel, by decide +kernel⟩ ⟨Nat.le_of_ble_eq_true rfl, Nat.le_of_ble_eq_true rfl⟩
theorem cv_X11_kitchen_115 : ob_CV mi_X11_kitchen mi_X11_again 115 RX11 1 := ob_cvI rfl rfl tw_880 tw_882 tw_27 tw_59 tw_883 ⟨rfl, rfl⟩ ⟨rfl, by decide +kernel, by decide +kernel, by decide +kernel⟩ ⟨Nat.le_of_ble_eq_true rfl, Nat.le_of_ble_eq_true rfl⟩
noncomputable def L_X11_kitchen_86 : Nat → ob_St → Int32 → Option (Int32 × ob_St)
  | 0, _, _ => none
  | n + 1, σ, v2 =>
    if (σ 0 9) ≤ (σ 0 11) then
      ob_pf σ 0 9 0 fun σ5 =>
      some (v2, σ5)
    else
      ob_nm (σ 0 11) fun v_6 =>
      ob_bd (f_X11_statement σ 1) fun r7 σ8 =>
      if r7 = 0 then
        ob_bd (f_X11_again 14 σ8) fun _ σ12 =>
        ob_pf σ12 0 9 0 fun σ13 =>
        some (((-2000) - v_6), σ13)
      else
        ob_bd (f_X11_is σ8 59) fun r9 σ10 =>
        L_X11_kitchen_86 n σ10 (v2 + 1)
noncomputable def J_X11_kitchen_53_7 (rec : ob_St → Int32 → Option (Int32 × ob_St)) (σ : ob_St) (v1 : Int32) : Option (Int32 × ob_St) :=
  if v1 = 0 then
    ob_pf σ 0 9 0 fun σ14 =>
    some (((-1000) - (σ14 0 11)), σ14)
  else
    ob_bd (f_X11_keep 14 σ) fun _ σ3 =>
    ob_pf σ3 0 11 0 fun σ4 =>
    L_X11_kitchen_86 1000 σ4 0
noncomputable def J_X11_kitchen_34_7 (rec : ob_St → Int32 → Option (Int32 × ob_St)) (σ : ob_St) (w0 : Int32) : Option (Int32 × ob_St) :=
  if w0 = 0 then
    rec σ w0
  else
    if (σ 0 11) = (σ 0 9) then
      J_X11_kitchen_53_7 rec σ w0
    else
      rec σ w0
noncomputable def J_X11_kitchen_33_7 (rec : ob_St → Int32 → Option (Int32 × ob_St)) (σ : ob_St) : Option (Int32 × ob_St) :=
  J_X11_kitchen_34_7 rec σ 0
noncomputable def L_X11_kitchen_7 : Nat → ob_St → Int32 → Option (Int32 × ob_St)
  | 0, _, _ => none
  | n + 1, σ, v1 =>
    if v1 = 0 then
      J_X11_kitchen_53_7 (fun σ v1 => L_X11_kitchen_7 n σ v1) σ v1
    else
      ob_bd (f_X11_statement σ 0) fun r15 σ16 =>
      if r15 = 1 then
        ob_bd (f_X11_is σ16 59) fun r17 σ18 =>
        if r17 = 0 then
          J_X11_kitchen_33_7 (fun σ v1 => L_X11_kitchen_7 n σ v1) σ18
        else
          J_X11_kitchen_34_7 (fun σ v1 => L_X11_kitchen_7 n σ v1) σ18 1
      else
        J_X11_kitchen_33_7 (fun σ v1 => L_X11_kitchen_7 n σ v1) σ16
noncomputable def f_X11_kitchen (σ : ob_St) : Option (Int32 × ob_St) :=
  ob_pf σ 0 11 0 fun σ1 =>
  L_X11_kitchen_7 1000 σ1 1
set_option maxRecDepth 100000 in
set_option maxHeartbeats 4000000 in
theorem l_X11_kitchen_86 {g : ob_GT} {ad : Nat → Nat} {r : Int32} {σ' : ob_St} : ∀ (n : Nat) {σ : ob_St} {v2 : Int32}, L_X11_kitchen_86 n σ v2 = some (r, σ') → ob_V g (ob_M ad) mi_X11_kitchen (some (.int r)) σ' σ 86 [(0, .ref (ad 0)), (2, .int v2)] [] := by
  intro n
  induction n with
  | zero => intro σ v2 hf; exact absurd hf (fun h => by cases h)
  | succ n ih =>
    intro σ v2 hf
    refine vv_aload_n dX11_kitchen_86 0 rfl rfl 87 rfl ?_
    refine vv_getI dX11_kitchen_87 11 gf_X11_kitchen_77 ob_m0 rfl rfl 90 rfl ?_
    refine vv_aload_n dX11_kitchen_90 0 rfl rfl 91 rfl ?_
    refine vv_getI dX11_kitchen_91 9 gf_X11_kitchen_74 ob_m0 rfl rfl 94 rfl ?_
    refine vv_icmp_ge dX11_kitchen_94 142 97 rfl rfl hf (fun hf => ?_) (fun hf => ?_)
    · refine vv_aload_n dX11_kitchen_142 0 rfl rfl 143 rfl ?_
      refine vv_iconst dX11_kitchen_143 0 rfl 144 rfl ?_
      refine vv_putI dX11_kitchen_144 9 pf_X11_kitchen_74 ob_m0 rfl rfl (ob_fit_int _) 147 rfl hf (fun σ5 hf => ?_)
      refine vv_iload_n dX11_kitchen_147 1 rfl rfl 148 rfl ?_
      exact vv_ireti rfl dX11_kitchen_148 hf
    · refine vv_aload_n dX11_kitchen_97 0 rfl rfl 98 rfl ?_
      refine vv_getI dX11_kitchen_98 11 gf_X11_kitchen_77 ob_m0 rfl rfl 101 rfl ?_
      refine vv_nm hf (fun v_6 hf => ?_)
      refine vv_istore_n dX11_kitchen_101 [(3, .int v_6), (0, .ref (ad 0)), (2, .int v2)] rfl (Nat.le_of_ble_eq_true rfl) rfl 102 rfl ?_
      refine vv_aload_n dX11_kitchen_102 1 rfl rfl 103 rfl ?_
      refine vv_iconst dX11_kitchen_103 1 rfl 104 rfl ?_
      refine vv_callV [.int 1] [] (fun _ _ h => c_X11_statement h) (ob_rec ob_m0 rfl rfl) cv_X11_kitchen_107 rfl (Nat.le_of_ble_eq_true rfl) 107 rfl dX11_kitchen_104 rfl hf (fun r7 σ8 hf => ?_)
      refine vv_if_ne dX11_kitchen_107 129 110 rfl rfl hf (fun hf => ?_) (fun hf => ?_)
      · refine vv_aload_n dX11_kitchen_129 1 rfl rfl 130 rfl ?_
        refine vv_bipush dX11_kitchen_130 59 rfl 132 rfl ?_
        refine vv_callV [.int 59] [] (fun _ _ h => c_X11_is h) (ob_rec ob_m0 rfl rfl) cv_X11_kitchen_80 rfl (Nat.le_of_ble_eq_true rfl) 135 rfl dX11_kitchen_132 rfl hf (fun r9 σ10 hf => ?_)
        refine vv_pop dX11_kitchen_135 rfl 136 rfl ?_
        refine vv_iinc dX11_kitchen_136 (v2 + 1) 2 [(2, .int (v2 + 1)), (3, .int v_6), (0, .ref (ad 0))] rfl rfl (Nat.le_of_ble_eq_true rfl) rfl 139 rfl ?_
        refine vv_goto dX11_kitchen_139 86 rfl ?_
        refine vv_sub [2, 0] [(0, .ref (ad 0)), (2, .int (v2 + 1))] rfl ?_
        exact ih hf
      · refine vv_aload_n dX11_kitchen_110 1 rfl rfl 111 rfl ?_
        refine vv_aload_n dX11_kitchen_111 1 rfl rfl 112 rfl ?_
        refine vv_getR dX11_kitchen_112 18 gf_X11_kitchen_49 ob_m0 rfl rfl 115 rfl ?_
        refine vv_callVu [.ref (ad 14)] [] (fun _ _ h => c_X11_again ⟨ob_m14, rfl⟩ h) (ob_rec ob_m0 rfl rfl) cv_X11_kitchen_115 rfl (Nat.le_of_ble_eq_true rfl) 118 rfl dX11_kitchen_115 rfl hf (fun _ σ12 hf => ?_)
        refine vv_aload_n dX11_kitchen_118 1 rfl rfl 119 rfl ?_
        refine vv_iconst dX11_kitchen_119 0 rfl 120 rfl ?_
        refine vv_putI dX11_kitchen_120 9 pf_X11_kitchen_74 ob_m0 rfl rfl (ob_fit_int _) 123 rfl hf (fun σ13 hf => ?_)
        refine vv_sipush dX11_kitchen_123 (-2000) rfl 126 rfl ?_
        refine vv_iload_n dX11_kitchen_126 0 rfl rfl 127 rfl ?_
        refine vv_isub dX11_kitchen_127 128 rfl ?_
        exact vv_ireti rfl dX11_kitchen_128 hf
set_option maxRecDepth 100000 in
set_option maxHeartbeats 4000000 in
theorem j_X11_kitchen_53_7 {g : ob_GT} {ad : Nat → Nat} {r : Int32} {σ' : ob_St} {σ : ob_St} {v1 : Int32} {rec : ob_St → Int32 → Option (Int32 × ob_St)} (hrec : ∀ {σ : ob_St} {v1 : Int32}, rec σ v1 = some (r, σ') → ob_V g (ob_M ad) mi_X11_kitchen (some (.int r)) σ' σ 7 [(0, .ref (ad 0)), (1, .int v1)] []) (hf : J_X11_kitchen_53_7 rec σ v1 = some (r, σ')) : ob_V g (ob_M ad) mi_X11_kitchen (some (.int r)) σ' σ 53 [(0, .ref (ad 0)), (1, .int v1)] [] := by
  refine vv_iload_n dX11_kitchen_53 1 rfl rfl 54 rfl ?_
  refine vv_if_ne dX11_kitchen_54 71 57 rfl rfl hf (fun hf => ?_) (fun hf => ?_)
  · refine vv_aload_n dX11_kitchen_71 0 rfl rfl 72 rfl ?_
    refine vv_aload_n dX11_kitchen_72 0 rfl rfl 73 rfl ?_
    refine vv_getR dX11_kitchen_73 18 gf_X11_kitchen_49 ob_m0 rfl rfl 76 rfl ?_
    refine vv_callVu [.ref (ad 14)] [] (fun _ _ h => c_X11_keep ⟨ob_m14, rfl⟩ h) (ob_rec ob_m0 rfl rfl) cv_X11_kitchen_111 rfl (Nat.le_of_ble_eq_true rfl) 79 rfl dX11_kitchen_76 rfl hf (fun _ σ3 hf => ?_)
    refine vv_aload_n dX11_kitchen_79 0 rfl rfl 80 rfl ?_
    refine vv_iconst dX11_kitchen_80 0 rfl 81 rfl ?_
    refine vv_putI dX11_kitchen_81 11 pf_X11_kitchen_77 ob_m0 rfl rfl (ob_fit_int _) 84 rfl hf (fun σ4 hf => ?_)
    refine vv_iconst dX11_kitchen_84 0 rfl 85 rfl ?_
    refine vv_istore_n dX11_kitchen_85 [(2, .int 0), (0, .ref (ad 0)), (1, .int v1)] rfl (Nat.le_of_ble_eq_true rfl) rfl 86 rfl ?_
    refine vv_sub [1, 0] [(0, .ref (ad 0)), (2, .int 0)] rfl ?_
    exact l_X11_kitchen_86 1000 hf
  · refine vv_aload_n dX11_kitchen_57 0 rfl rfl 58 rfl ?_
    refine vv_iconst dX11_kitchen_58 0 rfl 59 rfl ?_
    refine vv_putI dX11_kitchen_59 9 pf_X11_kitchen_74 ob_m0 rfl rfl (ob_fit_int _) 62 rfl hf (fun σ14 hf => ?_)
    refine vv_sipush dX11_kitchen_62 (-1000) rfl 65 rfl ?_
    refine vv_aload_n dX11_kitchen_65 0 rfl rfl 66 rfl ?_
    refine vv_getI dX11_kitchen_66 11 gf_X11_kitchen_77 ob_m0 rfl rfl 69 rfl ?_
    refine vv_isub dX11_kitchen_69 70 rfl ?_
    exact vv_ireti rfl dX11_kitchen_70 hf
set_option maxRecDepth 100000 in
set_option maxHeartbeats 4000000 in
theorem j_X11_kitchen_34_7 {g : ob_GT} {ad : Nat → Nat} {r : Int32} {σ' : ob_St} {σ : ob_St} {w0 : Int32} {rec : ob_St → Int32 → Option (Int32 × ob_St)} (hrec : ∀ {σ : ob_St} {v1 : Int32}, rec σ v1 = some (r, σ') → ob_V g (ob_M ad) mi_X11_kitchen (some (.int r)) σ' σ 7 [(0, .ref (ad 0)), (1, .int v1)] []) (hf : J_X11_kitchen_34_7 rec σ w0 = some (r, σ')) : ob_V g (ob_M ad) mi_X11_kitchen (some (.int r)) σ' σ 34 [(0, .ref (ad 0))] [.int w0] := by
  refine vv_istore_n dX11_kitchen_34 [(1, .int w0), (0, .ref (ad 0))] rfl (Nat.le_of_ble_eq_true rfl) rfl 35 rfl ?_
  refine vv_iload_n dX11_kitchen_35 0 rfl rfl 36 rfl ?_
  refine vv_if_eq dX11_kitchen_36 7 39 rfl rfl hf (fun hf => ?_) (fun hf => ?_)
  · refine vv_sub [1, 0] [(0, .ref (ad 0)), (1, .int w0)] rfl ?_
    exact hrec hf
  · refine vv_aload_n dX11_kitchen_39 1 rfl rfl 40 rfl ?_
    refine vv_getI dX11_kitchen_40 11 gf_X11_kitchen_77 ob_m0 rfl rfl 43 rfl ?_
    refine vv_aload_n dX11_kitchen_43 1 rfl rfl 44 rfl ?_
    refine vv_getI dX11_kitchen_44 9 gf_X11_kitchen_74 ob_m0 rfl rfl 47 rfl ?_
    refine vv_icmp_ne dX11_kitchen_47 7 50 rfl rfl hf (fun hf => ?_) (fun hf => ?_)
    · refine vv_sub [1, 0] [(0, .ref (ad 0)), (1, .int w0)] rfl ?_
      exact hrec hf
    · refine vv_goto dX11_kitchen_50 53 rfl ?_
      refine vv_sub [1, 0] [(0, .ref (ad 0)), (1, .int w0)] rfl ?_
      exact j_X11_kitchen_53_7 hrec hf
set_option maxRecDepth 100000 in
set_option maxHeartbeats 4000000 in
theorem j_X11_kitchen_33_7 {g : ob_GT} {ad : Nat → Nat} {r : Int32} {σ' : ob_St} {σ : ob_St} {rec : ob_St → Int32 → Option (Int32 × ob_St)} (hrec : ∀ {σ : ob_St} {v1 : Int32}, rec σ v1 = some (r, σ') → ob_V g (ob_M ad) mi_X11_kitchen (some (.int r)) σ' σ 7 [(0, .ref (ad 0)), (1, .int v1)] []) (hf : J_X11_kitchen_33_7 rec σ = some (r, σ')) : ob_V g (ob_M ad) mi_X11_kitchen (some (.int r)) σ' σ 33 [(0, .ref (ad 0))] [] := by
  refine vv_iconst dX11_kitchen_33 0 rfl 34 rfl ?_
  exact j_X11_kitchen_34_7 hrec hf
set_option maxRecDepth 100000 in
set_option maxHeartbeats 4000000 in
theorem l_X11_kitchen_7 {g : ob_GT} {ad : Nat → Nat} {r : Int32} {σ' : ob_St} : ∀ (n : Nat) {σ : ob_St} {v1 : Int32}, L_X11_kitchen_7 n σ v1 = some (r, σ') → ob_V g (ob_M ad) mi_X11_kitchen (some (.int r)) σ' σ 7 [(0, .ref (ad 0)), (1, .int v1)] [] := by
  intro n
  induction n with
  | zero => intro σ v1 hf; exact absurd hf (fun h => by cases h)
  | succ n ih =>
    intro σ v1 hf
    refine vv_iload_n dX11_kitchen_7 1 rfl rfl 8 rfl ?_
    refine vv_if_eq dX11_kitchen_8 53 11 rfl rfl hf (fun hf => ?_) (fun hf => ?_)
    · exact j_X11_kitchen_53_7 ih hf
    · refine vv_aload_n dX11_kitchen_11 0 rfl rfl 12 rfl ?_
      refine vv_iconst dX11_kitchen_12 0 rfl 13 rfl ?_
      refine vv_callV [.int 0] [] (fun _ _ h => c_X11_statement h) (ob_rec ob_m0 rfl rfl) cv_X11_kitchen_107 rfl (Nat.le_of_ble_eq_true rfl) 16 rfl dX11_kitchen_13 rfl hf (fun r15 σ16 hf => ?_)
      refine vv_iconst dX11_kitchen_16 1 rfl 17 rfl ?_
      refine vv_icmp_ne dX11_kitchen_17 33 20 rfl rfl hf (fun hf => ?_) (fun hf => ?_)
      · refine vv_sub [0] [(0, .ref (ad 0))] rfl ?_
        exact j_X11_kitchen_33_7 ih hf
      · refine vv_aload_n dX11_kitchen_20 0 rfl rfl 21 rfl ?_
        refine vv_bipush dX11_kitchen_21 59 rfl 23 rfl ?_
        refine vv_callV [.int 59] [] (fun _ _ h => c_X11_is h) (ob_rec ob_m0 rfl rfl) cv_X11_kitchen_80 rfl (Nat.le_of_ble_eq_true rfl) 26 rfl dX11_kitchen_23 rfl hf (fun r17 σ18 hf => ?_)
        refine vv_if_eq dX11_kitchen_26 33 29 rfl rfl hf (fun hf => ?_) (fun hf => ?_)
        · refine vv_sub [0] [(0, .ref (ad 0))] rfl ?_
          exact j_X11_kitchen_33_7 ih hf
        · refine vv_iconst dX11_kitchen_29 1 rfl 30 rfl ?_
          refine vv_goto dX11_kitchen_30 34 rfl ?_
          refine vv_sub [0] [(0, .ref (ad 0))] rfl ?_
          exact j_X11_kitchen_34_7 ih hf
set_option maxRecDepth 100000 in
set_option maxHeartbeats 4000000 in
theorem c_X11_kitchen {g : ob_GT} {ad : Nat → Nat} {r : Int32} {σ' : ob_St} {σ : ob_St} (hf : f_X11_kitchen σ = some (r, σ')) : ob_CT g (ob_M ad) mi_X11_kitchen [.ref (ad 0)] σ (some (.int r)) σ' := by
  refine ob_ct (by decide +kernel) rfl (Nat.le_of_ble_eq_true rfl) ?_
  show ob_V g (ob_M ad) mi_X11_kitchen (some (.int r)) σ' σ 0 [(0, .ref (ad 0))] []
  refine vv_aload_n dX11_kitchen_0 0 rfl rfl 1 rfl ?_
  refine vv_iconst dX11_kitchen_1 0 rfl 2 rfl ?_
  refine vv_putI dX11_kitchen_2 11 pf_X11_kitchen_77 ob_m0 rfl rfl (ob_fit_int _) 5 rfl hf (fun σ1 hf => ?_)
  refine vv_iconst dX11_kitchen_5 1 rfl 6 rfl ?_
  refine vv_istore_n dX11_kitchen_6 [(1, .int 1), (0, .ref (ad 0))] rfl (Nat.le_of_ble_eq_true rfl) rfl 7 rfl ?_
  refine vv_sub [1, 0] [(0, .ref (ad 0)), (1, .int 1)] rfl ?_
  exact l_X11_kitchen_7 1000 hf
abbrev mi_X11_dish : ob_MI := (yX11_dish, ob_ws yX11_dish cX11_dish 3 (some .int), cX11_dish, 3, (some .int), { frames := 2, cells := 0, slots := 0, locals := 43 })
theorem cv_X11_dish_97 : ob_CV mi_X11_dish mi_X11_isDish 97 RX11 1 := ob_cvI rfl rfl tw_864 tw_866 tw_23 tw_59 tw_867 ⟨rfl, rfl⟩ ⟨rfl, by decide +kernel, by decide +kernel, by decide +kernel⟩ ⟨Nat.le_of_ble_eq_true rfl, Nat.le_of_ble_eq_true rfl⟩
theorem gf_X11_dish_7 : ob_GF mi_X11_dish 7 11 1 := ⟨RX11, TX11, 24, rfl, by decide, fun x h => List.mem_cons_of_mem _ (uw_X11 x h), List.mem_cons_of_mem _ tw_759⟩
theorem gf_X11_dish_13 : ob_GF mi_X11_dish 13 11 2 := ⟨RX11, TX11, 24, rfl, by decide, fun x h => List.mem_cons_of_mem _ (uw_X11 x h), List.mem_cons_of_mem _ tw_760⟩
theorem gf_X11_dish_16 : ob_GF mi_X11_dish 16 11 3 := ⟨RX11, TX11, 24, rfl, by decide, fun x h => List.mem_cons_of_mem _ (uw_X11 x h), List.mem_cons_of_mem _ tw_761⟩
theorem gf_X11_dish_19 : ob_GF mi_X11_dish 19 11 4 := ⟨RX11, TX11, 24, rfl, by decide, fun x h => List.mem_cons_of_mem _ (uw_X11 x h), List.mem_cons_of_mem _ tw_762⟩
theorem gf_X11_dish_22 : ob_GF mi_X11_dish 22 11 5 := ⟨RX11, TX11, 24, rfl, by decide, fun x h => List.mem_cons_of_mem _ (uw_X11 x h), List.mem_cons_of_mem _ tw_763⟩
theorem cv_X11_dish_100 : ob_CV mi_X11_dish mi_X11_placeOf 100 RX11 1 := ob_cvI rfl rfl tw_868 tw_870 tw_24 tw_59 tw_871 ⟨rfl, rfl⟩ ⟨rfl, by decide +kernel, by decide +kernel, by decide +kernel⟩ ⟨Nat.le_of_ble_eq_true rfl, Nat.le_of_ble_eq_true rfl⟩
theorem cv_X11_dish_62 : ob_CV mi_X11_dish mi_X11_no 62 RX11 1 := ob_cvI rfl rfl tw_835 tw_837 tw_18 tw_59 tw_838 ⟨rfl, rfl⟩ ⟨rfl, by decide +kernel, by decide +kernel, by decide +kernel⟩ ⟨Nat.le_of_ble_eq_true rfl, Nat.le_of_ble_eq_true rfl⟩
noncomputable def f_X11_dish (σ : ob_St) (p1 : Int32) (p2 : Int32) : Option (Int32 × ob_St) :=
  ob_bd (f_X11_isDish σ p1) fun r1 σ2 =>
  if r1 = 0 then
    ob_bd (f_X11_no σ2 (-1)) fun r12 σ13 =>
    some (r12, σ13)
  else
    if p2 = 0 then
      ob_ld σ2 1 6 p1 fun v_3 =>
      some (v_3, σ2)
    else
    if p2 = 1 then
      ob_ld σ2 2 6 p1 fun v_4 =>
      some (v_4, σ2)
    else
    if p2 = 2 then
      ob_ld σ2 3 6 p1 fun v_5 =>
      some (v_5, σ2)
    else
    if p2 = 3 then
      ob_ld σ2 4 6 p1 fun v_6 =>
      some (v_6, σ2)
    else
    if p2 = 4 then
      ob_ld σ2 5 6 p1 fun v_7 =>
      some (v_7, σ2)
    else
    if p2 = 5 then
      ob_bd (f_X11_placeOf σ2 p1) fun r8 σ9 =>
      some (r8, σ9)
    else
      ob_bd (f_X11_no σ2 (-2)) fun r10 σ11 =>
      some (r10, σ11)
set_option maxRecDepth 100000 in
set_option maxHeartbeats 4000000 in
theorem c_X11_dish {g : ob_GT} {ad : Nat → Nat} {r : Int32} {σ' : ob_St} {σ : ob_St} {p1 : Int32} {p2 : Int32} (hf : f_X11_dish σ p1 p2 = some (r, σ')) : ob_CT g (ob_M ad) mi_X11_dish [.ref (ad 0), .int p1, .int p2] σ (some (.int r)) σ' := by
  refine ob_ct (by decide +kernel) rfl (Nat.le_of_ble_eq_true rfl) ?_
  show ob_V g (ob_M ad) mi_X11_dish (some (.int r)) σ' σ 0 [(0, .ref (ad 0)), (1, .int p1), (2, .int p2)] []
  refine vv_aload_n dX11_dish_0 0 rfl rfl 1 rfl ?_
  refine vv_iload_n dX11_dish_1 1 rfl rfl 2 rfl ?_
  refine vv_callV [.int p1] [] (fun _ _ h => c_X11_isDish h) (ob_rec ob_m0 rfl rfl) cv_X11_dish_97 rfl (Nat.le_of_ble_eq_true rfl) 5 rfl dX11_dish_2 rfl hf (fun r1 σ2 hf => ?_)
  refine vv_if_ne dX11_dish_5 14 8 rfl rfl hf (fun hf => ?_) (fun hf => ?_)
  · refine vv_iload_n dX11_dish_14 2 rfl rfl 15 rfl ?_
    refine vv_case 0 hf (fun hf => ?_) (fun nh0 hf => ?_)
    · refine vv_tabIn dX11_dish_15 52 (by decide) (by decide) rfl rfl ?_
      refine vv_aload_n dX11_dish_52 0 rfl rfl 53 rfl ?_
      refine vv_getR dX11_dish_53 1 gf_X11_dish_7 ob_m0 rfl rfl 56 rfl ?_
      refine vv_iload_n dX11_dish_56 1 rfl rfl 57 rfl ?_
      refine vv_iald dX11_dish_57 ob_m1 rfl 58 rfl hf (fun v_3 hf => ?_)
      exact vv_ireti rfl dX11_dish_58 hf
    refine vv_case 1 hf (fun hf => ?_) (fun nh1 hf => ?_)
    · refine vv_tabIn dX11_dish_15 59 (by decide) (by decide) rfl rfl ?_
      refine vv_aload_n dX11_dish_59 0 rfl rfl 60 rfl ?_
      refine vv_getR dX11_dish_60 2 gf_X11_dish_13 ob_m0 rfl rfl 63 rfl ?_
      refine vv_iload_n dX11_dish_63 1 rfl rfl 64 rfl ?_
      refine vv_iald dX11_dish_64 ob_m2 rfl 65 rfl hf (fun v_4 hf => ?_)
      exact vv_ireti rfl dX11_dish_65 hf
    refine vv_case 2 hf (fun hf => ?_) (fun nh2 hf => ?_)
    · refine vv_tabIn dX11_dish_15 66 (by decide) (by decide) rfl rfl ?_
      refine vv_aload_n dX11_dish_66 0 rfl rfl 67 rfl ?_
      refine vv_getR dX11_dish_67 3 gf_X11_dish_16 ob_m0 rfl rfl 70 rfl ?_
      refine vv_iload_n dX11_dish_70 1 rfl rfl 71 rfl ?_
      refine vv_iald dX11_dish_71 ob_m3 rfl 72 rfl hf (fun v_5 hf => ?_)
      exact vv_ireti rfl dX11_dish_72 hf
    refine vv_case 3 hf (fun hf => ?_) (fun nh3 hf => ?_)
    · refine vv_tabIn dX11_dish_15 73 (by decide) (by decide) rfl rfl ?_
      refine vv_aload_n dX11_dish_73 0 rfl rfl 74 rfl ?_
      refine vv_getR dX11_dish_74 4 gf_X11_dish_19 ob_m0 rfl rfl 77 rfl ?_
      refine vv_iload_n dX11_dish_77 1 rfl rfl 78 rfl ?_
      refine vv_iald dX11_dish_78 ob_m4 rfl 79 rfl hf (fun v_6 hf => ?_)
      exact vv_ireti rfl dX11_dish_79 hf
    refine vv_case 4 hf (fun hf => ?_) (fun nh4 hf => ?_)
    · refine vv_tabIn dX11_dish_15 80 (by decide) (by decide) rfl rfl ?_
      refine vv_aload_n dX11_dish_80 0 rfl rfl 81 rfl ?_
      refine vv_getR dX11_dish_81 5 gf_X11_dish_22 ob_m0 rfl rfl 84 rfl ?_
      refine vv_iload_n dX11_dish_84 1 rfl rfl 85 rfl ?_
      refine vv_iald dX11_dish_85 ob_m5 rfl 86 rfl hf (fun v_7 hf => ?_)
      exact vv_ireti rfl dX11_dish_86 hf
    refine vv_case 5 hf (fun hf => ?_) (fun nh5 hf => ?_)
    · refine vv_tabIn dX11_dish_15 87 (by decide) (by decide) rfl rfl ?_
      refine vv_aload_n dX11_dish_87 0 rfl rfl 88 rfl ?_
      refine vv_iload_n dX11_dish_88 1 rfl rfl 89 rfl ?_
      refine vv_callV [.int p1] [] (fun _ _ h => c_X11_placeOf h) (ob_rec ob_m0 rfl rfl) cv_X11_dish_100 rfl (Nat.le_of_ble_eq_true rfl) 92 rfl dX11_dish_89 rfl hf (fun r8 σ9 hf => ?_)
      exact vv_ireti rfl dX11_dish_92 hf
    refine vv_tabOut dX11_dish_15 93 (by have z0 := ob_neI nh0 (a := 0) rfl; have z1 := ob_neI nh1 (a := 1) rfl; have z2 := ob_neI nh2 (a := 2) rfl; have z3 := ob_neI nh3 (a := 3) rfl; have z4 := ob_neI nh4 (a := 4) rfl; have z5 := ob_neI nh5 (a := 5) rfl; omega) rfl ?_
    refine vv_aload_n dX11_dish_93 0 rfl rfl 94 rfl ?_
    refine vv_bipush dX11_dish_94 (-2) rfl 96 rfl ?_
    refine vv_callV [.int (-2)] [] (fun _ _ h => c_X11_no h) (ob_rec ob_m0 rfl rfl) cv_X11_dish_62 rfl (Nat.le_of_ble_eq_true rfl) 99 rfl dX11_dish_96 rfl hf (fun r10 σ11 hf => ?_)
    exact vv_ireti rfl dX11_dish_99 hf
  · refine vv_aload_n dX11_dish_8 0 rfl rfl 9 rfl ?_
    refine vv_iconst dX11_dish_9 (-1) rfl 10 rfl ?_
    refine vv_callV [.int (-1)] [] (fun _ _ h => c_X11_no h) (ob_rec ob_m0 rfl rfl) cv_X11_dish_62 rfl (Nat.le_of_ble_eq_true rfl) 13 rfl dX11_dish_10 rfl hf (fun r12 σ13 hf => ?_)
    exact vv_ireti rfl dX11_dish_13 hf
abbrev mi_X11_place : ob_MI := (yX11_place, ob_ws yX11_place cX11_place 2 (some .int), cX11_place, 2, (some .int), { frames := 2, cells := 0, slots := 0, locals := 43 })
theorem cv_X11_place_97 : ob_CV mi_X11_place mi_X11_isDish 97 RX11 1 := ob_cvI rfl rfl tw_864 tw_866 tw_23 tw_59 tw_867 ⟨rfl, rfl⟩ ⟨rfl, by decide +kernel, by decide +kernel, by decide +kernel⟩ ⟨Nat.le_of_ble_eq_true rfl, Nat.le_of_ble_eq_true rfl⟩
theorem cv_X11_place_62 : ob_CV mi_X11_place mi_X11_no 62 RX11 1 := ob_cvI rfl rfl tw_835 tw_837 tw_18 tw_59 tw_838 ⟨rfl, rfl⟩ ⟨rfl, by decide +kernel, by decide +kernel, by decide +kernel⟩ ⟨Nat.le_of_ble_eq_true rfl, Nat.le_of_ble_eq_true rfl⟩
theorem gf_X11_place_25 : ob_GF mi_X11_place 25 11 6 := ⟨RX11, TX11, 24, rfl, by decide, fun x h => List.mem_cons_of_mem _ (uw_X11 x h), List.mem_cons_of_mem _ tw_764⟩
noncomputable def f_X11_place (σ : ob_St) (p1 : Int32) : Option (Int32 × ob_St) :=
  ob_bd (f_X11_isDish σ p1) fun r1 σ2 =>
  if r1 = 0 then
    ob_bd (f_X11_no σ2 (-1)) fun r3 σ4 =>
    some (r3, σ4)
  else
    ob_ld σ2 6 6 p1 fun v_5 =>
    some (v_5, σ2)
set_option maxRecDepth 100000 in
set_option maxHeartbeats 4000000 in
theorem c_X11_place {g : ob_GT} {ad : Nat → Nat} {r : Int32} {σ' : ob_St} {σ : ob_St} {p1 : Int32} (hf : f_X11_place σ p1 = some (r, σ')) : ob_CT g (ob_M ad) mi_X11_place [.ref (ad 0), .int p1] σ (some (.int r)) σ' := by
  refine ob_ct (by decide +kernel) rfl (Nat.le_of_ble_eq_true rfl) ?_
  show ob_V g (ob_M ad) mi_X11_place (some (.int r)) σ' σ 0 [(0, .ref (ad 0)), (1, .int p1)] []
  refine vv_aload_n dX11_place_0 0 rfl rfl 1 rfl ?_
  refine vv_iload_n dX11_place_1 1 rfl rfl 2 rfl ?_
  refine vv_callV [.int p1] [] (fun _ _ h => c_X11_isDish h) (ob_rec ob_m0 rfl rfl) cv_X11_place_97 rfl (Nat.le_of_ble_eq_true rfl) 5 rfl dX11_place_2 rfl hf (fun r1 σ2 hf => ?_)
  refine vv_if_eq dX11_place_5 17 8 rfl rfl hf (fun hf => ?_) (fun hf => ?_)
  · refine vv_aload_n dX11_place_17 0 rfl rfl 18 rfl ?_
    refine vv_iconst dX11_place_18 (-1) rfl 19 rfl ?_
    refine vv_callV [.int (-1)] [] (fun _ _ h => c_X11_no h) (ob_rec ob_m0 rfl rfl) cv_X11_place_62 rfl (Nat.le_of_ble_eq_true rfl) 22 rfl dX11_place_19 rfl hf (fun r3 σ4 hf => ?_)
    exact vv_ireti rfl dX11_place_22 hf
  · refine vv_aload_n dX11_place_8 0 rfl rfl 9 rfl ?_
    refine vv_getR dX11_place_9 6 gf_X11_place_25 ob_m0 rfl rfl 12 rfl ?_
    refine vv_iload_n dX11_place_12 1 rfl rfl 13 rfl ?_
    refine vv_iald dX11_place_13 ob_m6 rfl 14 rfl hf (fun v_5 hf => ?_)
    refine vv_goto dX11_place_14 22 rfl ?_
    exact vv_ireti rfl dX11_place_22 hf
abbrev mi_X11_change : ob_MI := (yX11_change, ob_ws yX11_change cX11_change 3 (some .int), cX11_change, 3, (some .int), { frames := 2, cells := 0, slots := 0, locals := 43 })
theorem cv_X11_change_97 : ob_CV mi_X11_change mi_X11_isDish 97 RX11 1 := ob_cvI rfl rfl tw_864 tw_866 tw_23 tw_59 tw_867 ⟨rfl, rfl⟩ ⟨rfl, by decide +kernel, by decide +kernel, by decide +kernel⟩ ⟨Nat.le_of_ble_eq_true rfl, Nat.le_of_ble_eq_true rfl⟩
theorem cv_X11_change_62 : ob_CV mi_X11_change mi_X11_no 62 RX11 1 := ob_cvI rfl rfl tw_835 tw_837 tw_18 tw_59 tw_838 ⟨rfl, rfl⟩ ⟨rfl, by decide +kernel, by decide +kernel, by decide +kernel⟩ ⟨Nat.le_of_ble_eq_true rfl, Nat.le_of_ble_eq_true rfl⟩
theorem cv_X11_change_100 : ob_CV mi_X11_change mi_X11_placeOf 100 RX11 1 := ob_cvI rfl rfl tw_868 tw_870 tw_24 tw_59 tw_871 ⟨rfl, rfl⟩ ⟨rfl, by decide +kernel, by decide +kernel, by decide +kernel⟩ ⟨Nat.le_of_ble_eq_true rfl, Nat.le_of_ble_eq_true rfl⟩
theorem cv_X11_change_103 : ob_CV mi_X11_change mi_X11_swap 103 RX11 2 := ob_cvI rfl rfl tw_872 tw_874 tw_25 tw_59 tw_875 ⟨rfl, rfl⟩ ⟨rfl, by decide +kernel, by decide +kernel, by decide +kernel⟩ ⟨Nat.le_of_ble_eq_true rfl, Nat.le_of_ble_eq_true rfl⟩
noncomputable def f_X11_change (σ : ob_St) (p1 : Int32) (p2 : Int32) : Option (Int32 × ob_St) :=
  ob_bd (f_X11_isDish σ p1) fun r1 σ2 =>
  if r1 = 0 then
    ob_bd (f_X11_no σ2 (-1)) fun r3 σ4 =>
    some (r3, σ4)
  else
    ob_bd (f_X11_isDish σ2 p2) fun r5 σ6 =>
    if r5 = 0 then
      ob_bd (f_X11_no σ6 (-1)) fun r7 σ8 =>
      some (r7, σ8)
    else
      if p1 = p2 then
        ob_bd (f_X11_no σ6 (-1)) fun r17 σ18 =>
        some (r17, σ18)
      else
        ob_bd (f_X11_placeOf σ6 p1) fun r9 σ10 =>
        ob_bd (f_X11_placeOf σ10 p2) fun r11 σ12 =>
        ob_bd (f_X11_swap σ12 r9 r11) fun _ σ14 =>
        ob_bd (f_X11_placeOf σ14 p1) fun r15 σ16 =>
        some (r15, σ16)
set_option maxRecDepth 100000 in
set_option maxHeartbeats 4000000 in
theorem c_X11_change {g : ob_GT} {ad : Nat → Nat} {r : Int32} {σ' : ob_St} {σ : ob_St} {p1 : Int32} {p2 : Int32} (hf : f_X11_change σ p1 p2 = some (r, σ')) : ob_CT g (ob_M ad) mi_X11_change [.ref (ad 0), .int p1, .int p2] σ (some (.int r)) σ' := by
  refine ob_ct (by decide +kernel) rfl (Nat.le_of_ble_eq_true rfl) ?_
  show ob_V g (ob_M ad) mi_X11_change (some (.int r)) σ' σ 0 [(0, .ref (ad 0)), (1, .int p1), (2, .int p2)] []
  refine vv_aload_n dX11_change_0 0 rfl rfl 1 rfl ?_
  refine vv_iload_n dX11_change_1 1 rfl rfl 2 rfl ?_
  refine vv_callV [.int p1] [] (fun _ _ h => c_X11_isDish h) (ob_rec ob_m0 rfl rfl) cv_X11_change_97 rfl (Nat.le_of_ble_eq_true rfl) 5 rfl dX11_change_2 rfl hf (fun r1 σ2 hf => ?_)
  refine vv_if_eq dX11_change_5 21 8 rfl rfl hf (fun hf => ?_) (fun hf => ?_)
  · refine vv_aload_n dX11_change_21 0 rfl rfl 22 rfl ?_
    refine vv_iconst dX11_change_22 (-1) rfl 23 rfl ?_
    refine vv_callV [.int (-1)] [] (fun _ _ h => c_X11_no h) (ob_rec ob_m0 rfl rfl) cv_X11_change_62 rfl (Nat.le_of_ble_eq_true rfl) 26 rfl dX11_change_23 rfl hf (fun r3 σ4 hf => ?_)
    exact vv_ireti rfl dX11_change_26 hf
  · refine vv_aload_n dX11_change_8 0 rfl rfl 9 rfl ?_
    refine vv_iload_n dX11_change_9 2 rfl rfl 10 rfl ?_
    refine vv_callV [.int p2] [] (fun _ _ h => c_X11_isDish h) (ob_rec ob_m0 rfl rfl) cv_X11_change_97 rfl (Nat.le_of_ble_eq_true rfl) 13 rfl dX11_change_10 rfl hf (fun r5 σ6 hf => ?_)
    refine vv_if_eq dX11_change_13 21 16 rfl rfl hf (fun hf => ?_) (fun hf => ?_)
    · refine vv_aload_n dX11_change_21 0 rfl rfl 22 rfl ?_
      refine vv_iconst dX11_change_22 (-1) rfl 23 rfl ?_
      refine vv_callV [.int (-1)] [] (fun _ _ h => c_X11_no h) (ob_rec ob_m0 rfl rfl) cv_X11_change_62 rfl (Nat.le_of_ble_eq_true rfl) 26 rfl dX11_change_23 rfl hf (fun r7 σ8 hf => ?_)
      exact vv_ireti rfl dX11_change_26 hf
    · refine vv_iload_n dX11_change_16 1 rfl rfl 17 rfl ?_
      refine vv_iload_n dX11_change_17 2 rfl rfl 18 rfl ?_
      refine vv_icmp_ne dX11_change_18 27 21 rfl rfl hf (fun hf => ?_) (fun hf => ?_)
      · refine vv_aload_n dX11_change_27 0 rfl rfl 28 rfl ?_
        refine vv_aload_n dX11_change_28 0 rfl rfl 29 rfl ?_
        refine vv_iload_n dX11_change_29 1 rfl rfl 30 rfl ?_
        refine vv_callV [.int p1] [.ref (ad 0)] (fun _ _ h => c_X11_placeOf h) (ob_rec ob_m0 rfl rfl) cv_X11_change_100 rfl (Nat.le_of_ble_eq_true rfl) 33 rfl dX11_change_30 rfl hf (fun r9 σ10 hf => ?_)
        refine vv_aload_n dX11_change_33 0 rfl rfl 34 rfl ?_
        refine vv_iload_n dX11_change_34 2 rfl rfl 35 rfl ?_
        refine vv_callV [.int p2] [.int r9, .ref (ad 0)] (fun _ _ h => c_X11_placeOf h) (ob_rec ob_m0 rfl rfl) cv_X11_change_100 rfl (Nat.le_of_ble_eq_true rfl) 38 rfl dX11_change_35 rfl hf (fun r11 σ12 hf => ?_)
        refine vv_callVu [.int r9, .int r11] [] (fun _ _ h => c_X11_swap h) (ob_rec ob_m0 rfl rfl) cv_X11_change_103 rfl (Nat.le_of_ble_eq_true rfl) 41 rfl dX11_change_38 rfl hf (fun _ σ14 hf => ?_)
        refine vv_aload_n dX11_change_41 0 rfl rfl 42 rfl ?_
        refine vv_iload_n dX11_change_42 1 rfl rfl 43 rfl ?_
        refine vv_callV [.int p1] [] (fun _ _ h => c_X11_placeOf h) (ob_rec ob_m0 rfl rfl) cv_X11_change_100 rfl (Nat.le_of_ble_eq_true rfl) 46 rfl dX11_change_43 rfl hf (fun r15 σ16 hf => ?_)
        exact vv_ireti rfl dX11_change_46 hf
      · refine vv_aload_n dX11_change_21 0 rfl rfl 22 rfl ?_
        refine vv_iconst dX11_change_22 (-1) rfl 23 rfl ?_
        refine vv_callV [.int (-1)] [] (fun _ _ h => c_X11_no h) (ob_rec ob_m0 rfl rfl) cv_X11_change_62 rfl (Nat.le_of_ble_eq_true rfl) 26 rfl dX11_change_23 rfl hf (fun r17 σ18 hf => ?_)
        exact vv_ireti rfl dX11_change_26 hf
abbrev mi_X11_heat : ob_MI := (yX11_heat, ob_ws yX11_heat cX11_heat 4 (some .int), cX11_heat, 4, (some .int), { frames := 2, cells := 0, slots := 0, locals := 43 })
theorem cv_X11_heat_97 : ob_CV mi_X11_heat mi_X11_isDish 97 RX11 1 := ob_cvI rfl rfl tw_864 tw_866 tw_23 tw_59 tw_867 ⟨rfl, rfl⟩ ⟨rfl, by decide +kernel, by decide +kernel, by decide +kernel⟩ ⟨Nat.le_of_ble_eq_true rfl, Nat.le_of_ble_eq_true rfl⟩
theorem gf_X11_heat_16 : ob_GF mi_X11_heat 16 11 3 := ⟨RX11, TX11, 24, rfl, by decide, fun x h => List.mem_cons_of_mem _ (uw_X11 x h), List.mem_cons_of_mem _ tw_761⟩
theorem cv_X11_heat_62 : ob_CV mi_X11_heat mi_X11_no 62 RX11 1 := ob_cvI rfl rfl tw_835 tw_837 tw_18 tw_59 tw_838 ⟨rfl, rfl⟩ ⟨rfl, by decide +kernel, by decide +kernel, by decide +kernel⟩ ⟨Nat.le_of_ble_eq_true rfl, Nat.le_of_ble_eq_true rfl⟩
noncomputable def f_X11_heat (σ : ob_St) (p1 : Int32) (p2 : Int32) : Option (Int32 × ob_St) :=
  ob_bd (f_X11_isDish σ p1) fun r1 σ2 =>
  if r1 = 0 then
    ob_bd (f_X11_no σ2 (-1)) fun r9 σ10 =>
    some (r9, σ10)
  else
    if (0 : Int32) ≤ p2 then
      if p2 ≤ 99 then
        ob_ld σ2 3 6 p1 fun v_3 =>
        ob_sd σ2 3 6 p1 p2 fun σ4 =>
        some (v_3, σ4)
      else
        ob_bd (f_X11_no σ2 (-6)) fun r5 σ6 =>
        some (r5, σ6)
    else
      ob_bd (f_X11_no σ2 (-4)) fun r7 σ8 =>
      some (r7, σ8)
set_option maxRecDepth 100000 in
set_option maxHeartbeats 4000000 in
theorem c_X11_heat {g : ob_GT} {ad : Nat → Nat} {r : Int32} {σ' : ob_St} {σ : ob_St} {p1 : Int32} {p2 : Int32} (hf : f_X11_heat σ p1 p2 = some (r, σ')) : ob_CT g (ob_M ad) mi_X11_heat [.ref (ad 0), .int p1, .int p2] σ (some (.int r)) σ' := by
  refine ob_ct (by decide +kernel) rfl (Nat.le_of_ble_eq_true rfl) ?_
  show ob_V g (ob_M ad) mi_X11_heat (some (.int r)) σ' σ 0 [(0, .ref (ad 0)), (1, .int p1), (2, .int p2)] []
  refine vv_aload_n dX11_heat_0 0 rfl rfl 1 rfl ?_
  refine vv_iload_n dX11_heat_1 1 rfl rfl 2 rfl ?_
  refine vv_callV [.int p1] [] (fun _ _ h => c_X11_isDish h) (ob_rec ob_m0 rfl rfl) cv_X11_heat_97 rfl (Nat.le_of_ble_eq_true rfl) 5 rfl dX11_heat_2 rfl hf (fun r1 σ2 hf => ?_)
  refine vv_if_ne dX11_heat_5 14 8 rfl rfl hf (fun hf => ?_) (fun hf => ?_)
  · refine vv_iload_n dX11_heat_14 2 rfl rfl 15 rfl ?_
    refine vv_if_ge dX11_heat_15 25 18 rfl rfl hf (fun hf => ?_) (fun hf => ?_)
    · refine vv_iload_n dX11_heat_25 2 rfl rfl 26 rfl ?_
      refine vv_bipush dX11_heat_26 99 rfl 28 rfl ?_
      refine vv_icmp_le dX11_heat_28 38 31 rfl rfl hf (fun hf => ?_) (fun hf => ?_)
      · refine vv_aload_n dX11_heat_38 0 rfl rfl 39 rfl ?_
        refine vv_getR dX11_heat_39 3 gf_X11_heat_16 ob_m0 rfl rfl 42 rfl ?_
        refine vv_iload_n dX11_heat_42 1 rfl rfl 43 rfl ?_
        refine vv_iald dX11_heat_43 ob_m3 rfl 44 rfl hf (fun v_3 hf => ?_)
        refine vv_istore_n dX11_heat_44 [(3, .int v_3), (0, .ref (ad 0)), (1, .int p1), (2, .int p2)] rfl (Nat.le_of_ble_eq_true rfl) rfl 45 rfl ?_
        refine vv_aload_n dX11_heat_45 1 rfl rfl 46 rfl ?_
        refine vv_getR dX11_heat_46 3 gf_X11_heat_16 ob_m0 rfl rfl 49 rfl ?_
        refine vv_iload_n dX11_heat_49 2 rfl rfl 50 rfl ?_
        refine vv_iload_n dX11_heat_50 3 rfl rfl 51 rfl ?_
        refine vv_iast dX11_heat_51 ob_m3 rfl 52 rfl hf (fun σ4 hf => ?_)
        refine vv_iload_n dX11_heat_52 0 rfl rfl 53 rfl ?_
        exact vv_ireti rfl dX11_heat_53 hf
      · refine vv_aload_n dX11_heat_31 0 rfl rfl 32 rfl ?_
        refine vv_bipush dX11_heat_32 (-6) rfl 34 rfl ?_
        refine vv_callV [.int (-6)] [] (fun _ _ h => c_X11_no h) (ob_rec ob_m0 rfl rfl) cv_X11_heat_62 rfl (Nat.le_of_ble_eq_true rfl) 37 rfl dX11_heat_34 rfl hf (fun r5 σ6 hf => ?_)
        exact vv_ireti rfl dX11_heat_37 hf
    · refine vv_aload_n dX11_heat_18 0 rfl rfl 19 rfl ?_
      refine vv_bipush dX11_heat_19 (-4) rfl 21 rfl ?_
      refine vv_callV [.int (-4)] [] (fun _ _ h => c_X11_no h) (ob_rec ob_m0 rfl rfl) cv_X11_heat_62 rfl (Nat.le_of_ble_eq_true rfl) 24 rfl dX11_heat_21 rfl hf (fun r7 σ8 hf => ?_)
      exact vv_ireti rfl dX11_heat_24 hf
  · refine vv_aload_n dX11_heat_8 0 rfl rfl 9 rfl ?_
    refine vv_iconst dX11_heat_9 (-1) rfl 10 rfl ?_
    refine vv_callV [.int (-1)] [] (fun _ _ h => c_X11_no h) (ob_rec ob_m0 rfl rfl) cv_X11_heat_62 rfl (Nat.le_of_ble_eq_true rfl) 13 rfl dX11_heat_10 rfl hf (fun r9 σ10 hf => ?_)
    exact vv_ireti rfl dX11_heat_13 hf
abbrev mi_X11_begins : ob_MI := (yX11_begins, ob_ws yX11_begins cX11_begins 4 (some .int), cX11_begins, 4, (some .int), { frames := 1, cells := 0, slots := 0, locals := 22 })
theorem cs_X11_begins_70 : ob_CS mi_X11_begins mi_X11_within 70 3 := ob_csI rfl rfl tw_857 tw_858 tw_59 tw_859 ⟨rfl, rfl⟩ ⟨by decide +kernel, by decide +kernel, by decide +kernel⟩ ⟨Nat.le_of_ble_eq_true rfl, Nat.le_of_ble_eq_true rfl⟩
theorem gf_X11_begins_31 : ob_GF mi_X11_begins 31 11 8 := ⟨RX11, TX11, 24, rfl, by decide, fun x h => List.mem_cons_of_mem _ (uw_X11 x h), List.mem_cons_of_mem _ tw_766⟩
theorem cv_X11_begins_62 : ob_CV mi_X11_begins mi_X11_no 62 RX11 1 := ob_cvI rfl rfl tw_835 tw_837 tw_18 tw_59 tw_838 ⟨rfl, rfl⟩ ⟨rfl, by decide +kernel, by decide +kernel, by decide +kernel⟩ ⟨Nat.le_of_ble_eq_true rfl, Nat.le_of_ble_eq_true rfl⟩
noncomputable def f_X11_begins (σ : ob_St) (p1 : Int32) (p2 : Int32) : Option (Int32 × ob_St) :=
  ob_bd (f_X11_within σ p1 0 4) fun r1 σ2 =>
  if r1 = 0 then
    ob_bd (f_X11_no σ2 (-1)) fun r9 σ10 =>
    some (r9, σ10)
  else
    if (0 : Int32) ≤ p2 then
      if p2 ≤ 99 then
        ob_ld σ2 8 5 p1 fun v_3 =>
        ob_sd σ2 8 5 p1 p2 fun σ4 =>
        some (v_3, σ4)
      else
        ob_bd (f_X11_no σ2 (-6)) fun r5 σ6 =>
        some (r5, σ6)
    else
      ob_bd (f_X11_no σ2 (-4)) fun r7 σ8 =>
      some (r7, σ8)
set_option maxRecDepth 100000 in
set_option maxHeartbeats 4000000 in
theorem c_X11_begins {g : ob_GT} {ad : Nat → Nat} {r : Int32} {σ' : ob_St} {σ : ob_St} {p1 : Int32} {p2 : Int32} (hf : f_X11_begins σ p1 p2 = some (r, σ')) : ob_CT g (ob_M ad) mi_X11_begins [.ref (ad 0), .int p1, .int p2] σ (some (.int r)) σ' := by
  refine ob_ct (by decide +kernel) rfl (Nat.le_of_ble_eq_true rfl) ?_
  show ob_V g (ob_M ad) mi_X11_begins (some (.int r)) σ' σ 0 [(0, .ref (ad 0)), (1, .int p1), (2, .int p2)] []
  refine vv_iload_n dX11_begins_0 1 rfl rfl 1 rfl ?_
  refine vv_iconst dX11_begins_1 0 rfl 2 rfl ?_
  refine vv_iconst dX11_begins_2 4 rfl 3 rfl ?_
  refine vv_callS [.int p1, .int 0, .int 4] [] (fun _ _ h => c_X11_within h) cs_X11_begins_70 rfl (Nat.le_of_ble_eq_true rfl) 6 rfl dX11_begins_3 rfl hf (fun r1 σ2 hf => ?_)
  refine vv_if_ne dX11_begins_6 15 9 rfl rfl hf (fun hf => ?_) (fun hf => ?_)
  · refine vv_iload_n dX11_begins_15 2 rfl rfl 16 rfl ?_
    refine vv_if_ge dX11_begins_16 26 19 rfl rfl hf (fun hf => ?_) (fun hf => ?_)
    · refine vv_iload_n dX11_begins_26 2 rfl rfl 27 rfl ?_
      refine vv_bipush dX11_begins_27 99 rfl 29 rfl ?_
      refine vv_icmp_le dX11_begins_29 39 32 rfl rfl hf (fun hf => ?_) (fun hf => ?_)
      · refine vv_aload_n dX11_begins_39 0 rfl rfl 40 rfl ?_
        refine vv_getR dX11_begins_40 8 gf_X11_begins_31 ob_m0 rfl rfl 43 rfl ?_
        refine vv_iload_n dX11_begins_43 1 rfl rfl 44 rfl ?_
        refine vv_iald dX11_begins_44 ob_m8 rfl 45 rfl hf (fun v_3 hf => ?_)
        refine vv_istore_n dX11_begins_45 [(3, .int v_3), (0, .ref (ad 0)), (1, .int p1), (2, .int p2)] rfl (Nat.le_of_ble_eq_true rfl) rfl 46 rfl ?_
        refine vv_aload_n dX11_begins_46 1 rfl rfl 47 rfl ?_
        refine vv_getR dX11_begins_47 8 gf_X11_begins_31 ob_m0 rfl rfl 50 rfl ?_
        refine vv_iload_n dX11_begins_50 2 rfl rfl 51 rfl ?_
        refine vv_iload_n dX11_begins_51 3 rfl rfl 52 rfl ?_
        refine vv_iast dX11_begins_52 ob_m8 rfl 53 rfl hf (fun σ4 hf => ?_)
        refine vv_iload_n dX11_begins_53 0 rfl rfl 54 rfl ?_
        exact vv_ireti rfl dX11_begins_54 hf
      · refine vv_aload_n dX11_begins_32 0 rfl rfl 33 rfl ?_
        refine vv_bipush dX11_begins_33 (-6) rfl 35 rfl ?_
        refine vv_callV [.int (-6)] [] (fun _ _ h => c_X11_no h) (ob_rec ob_m0 rfl rfl) cv_X11_begins_62 rfl (Nat.le_of_ble_eq_true rfl) 38 rfl dX11_begins_35 rfl hf (fun r5 σ6 hf => ?_)
        exact vv_ireti rfl dX11_begins_38 hf
    · refine vv_aload_n dX11_begins_19 0 rfl rfl 20 rfl ?_
      refine vv_bipush dX11_begins_20 (-4) rfl 22 rfl ?_
      refine vv_callV [.int (-4)] [] (fun _ _ h => c_X11_no h) (ob_rec ob_m0 rfl rfl) cv_X11_begins_62 rfl (Nat.le_of_ble_eq_true rfl) 25 rfl dX11_begins_22 rfl hf (fun r7 σ8 hf => ?_)
      exact vv_ireti rfl dX11_begins_25 hf
  · refine vv_aload_n dX11_begins_9 0 rfl rfl 10 rfl ?_
    refine vv_iconst dX11_begins_10 (-1) rfl 11 rfl ?_
    refine vv_callV [.int (-1)] [] (fun _ _ h => c_X11_no h) (ob_rec ob_m0 rfl rfl) cv_X11_begins_62 rfl (Nat.le_of_ble_eq_true rfl) 14 rfl dX11_begins_11 rfl hf (fun r9 σ10 hf => ?_)
    exact vv_ireti rfl dX11_begins_14 hf
abbrev mi_X11_set : ob_MI := (yX11_set, ob_ws yX11_set cX11_set 4 (some .int), cX11_set, 4, (some .int), { frames := 1, cells := 0, slots := 0, locals := 22 })
theorem cs_X11_set_70 : ob_CS mi_X11_set mi_X11_within 70 3 := ob_csI rfl rfl tw_857 tw_858 tw_59 tw_859 ⟨rfl, rfl⟩ ⟨by decide +kernel, by decide +kernel, by decide +kernel⟩ ⟨Nat.le_of_ble_eq_true rfl, Nat.le_of_ble_eq_true rfl⟩
theorem cs_X11_set_118 : ob_CS mi_X11_set mi_X11_leastOf 118 1 := ob_csI rfl rfl tw_908 tw_909 tw_59 tw_910 ⟨rfl, rfl⟩ ⟨by decide +kernel, by decide +kernel, by decide +kernel⟩ ⟨Nat.le_of_ble_eq_true rfl, Nat.le_of_ble_eq_true rfl⟩
theorem cs_X11_set_121 : ob_CS mi_X11_set mi_X11_mostOf 121 1 := ob_csI rfl rfl tw_911 tw_912 tw_59 tw_913 ⟨rfl, rfl⟩ ⟨by decide +kernel, by decide +kernel, by decide +kernel⟩ ⟨Nat.le_of_ble_eq_true rfl, Nat.le_of_ble_eq_true rfl⟩
theorem gf_X11_set_28 : ob_GF mi_X11_set 28 11 7 := ⟨RX11, TX11, 24, rfl, by decide, fun x h => List.mem_cons_of_mem _ (uw_X11 x h), List.mem_cons_of_mem _ tw_765⟩
theorem cv_X11_set_62 : ob_CV mi_X11_set mi_X11_no 62 RX11 1 := ob_cvI rfl rfl tw_835 tw_837 tw_18 tw_59 tw_838 ⟨rfl, rfl⟩ ⟨rfl, by decide +kernel, by decide +kernel, by decide +kernel⟩ ⟨Nat.le_of_ble_eq_true rfl, Nat.le_of_ble_eq_true rfl⟩
noncomputable def f_X11_set (σ : ob_St) (p1 : Int32) (p2 : Int32) : Option (Int32 × ob_St) :=
  ob_bd (f_X11_within σ p1 0 5) fun r1 σ2 =>
  if r1 = 0 then
    ob_bd (f_X11_no σ2 (-2)) fun r13 σ14 =>
    some (r13, σ14)
  else
    ob_bd (f_X11_leastOf σ2 p1) fun r3 σ4 =>
    if r3 ≤ p2 then
      ob_bd (f_X11_mostOf σ4 p1) fun r5 σ6 =>
      if p2 ≤ r5 then
        ob_ld σ6 7 6 p1 fun v_7 =>
        ob_sd σ6 7 6 p1 p2 fun σ8 =>
        some (v_7, σ8)
      else
        ob_bd (f_X11_no σ6 (-6)) fun r9 σ10 =>
        some (r9, σ10)
    else
      ob_bd (f_X11_no σ4 (-4)) fun r11 σ12 =>
      some (r11, σ12)
set_option maxRecDepth 100000 in
set_option maxHeartbeats 4000000 in
theorem c_X11_set {g : ob_GT} {ad : Nat → Nat} {r : Int32} {σ' : ob_St} {σ : ob_St} {p1 : Int32} {p2 : Int32} (hf : f_X11_set σ p1 p2 = some (r, σ')) : ob_CT g (ob_M ad) mi_X11_set [.ref (ad 0), .int p1, .int p2] σ (some (.int r)) σ' := by
  refine ob_ct (by decide +kernel) rfl (Nat.le_of_ble_eq_true rfl) ?_
  show ob_V g (ob_M ad) mi_X11_set (some (.int r)) σ' σ 0 [(0, .ref (ad 0)), (1, .int p1), (2, .int p2)] []
  refine vv_iload_n dX11_set_0 1 rfl rfl 1 rfl ?_
  refine vv_iconst dX11_set_1 0 rfl 2 rfl ?_
  refine vv_iconst dX11_set_2 5 rfl 3 rfl ?_
  refine vv_callS [.int p1, .int 0, .int 5] [] (fun _ _ h => c_X11_within h) cs_X11_set_70 rfl (Nat.le_of_ble_eq_true rfl) 6 rfl dX11_set_3 rfl hf (fun r1 σ2 hf => ?_)
  refine vv_if_ne dX11_set_6 16 9 rfl rfl hf (fun hf => ?_) (fun hf => ?_)
  · refine vv_iload_n dX11_set_16 2 rfl rfl 17 rfl ?_
    refine vv_iload_n dX11_set_17 1 rfl rfl 18 rfl ?_
    refine vv_callS [.int p1] [.int p2] (fun _ _ h => c_X11_leastOf h) cs_X11_set_118 rfl (Nat.le_of_ble_eq_true rfl) 21 rfl dX11_set_18 rfl hf (fun r3 σ4 hf => ?_)
    refine vv_icmp_ge dX11_set_21 31 24 rfl rfl hf (fun hf => ?_) (fun hf => ?_)
    · refine vv_iload_n dX11_set_31 2 rfl rfl 32 rfl ?_
      refine vv_iload_n dX11_set_32 1 rfl rfl 33 rfl ?_
      refine vv_callS [.int p1] [.int p2] (fun _ _ h => c_X11_mostOf h) cs_X11_set_121 rfl (Nat.le_of_ble_eq_true rfl) 36 rfl dX11_set_33 rfl hf (fun r5 σ6 hf => ?_)
      refine vv_icmp_le dX11_set_36 46 39 rfl rfl hf (fun hf => ?_) (fun hf => ?_)
      · refine vv_aload_n dX11_set_46 0 rfl rfl 47 rfl ?_
        refine vv_getR dX11_set_47 7 gf_X11_set_28 ob_m0 rfl rfl 50 rfl ?_
        refine vv_iload_n dX11_set_50 1 rfl rfl 51 rfl ?_
        refine vv_iald dX11_set_51 ob_m7 rfl 52 rfl hf (fun v_7 hf => ?_)
        refine vv_istore_n dX11_set_52 [(3, .int v_7), (0, .ref (ad 0)), (1, .int p1), (2, .int p2)] rfl (Nat.le_of_ble_eq_true rfl) rfl 53 rfl ?_
        refine vv_aload_n dX11_set_53 1 rfl rfl 54 rfl ?_
        refine vv_getR dX11_set_54 7 gf_X11_set_28 ob_m0 rfl rfl 57 rfl ?_
        refine vv_iload_n dX11_set_57 2 rfl rfl 58 rfl ?_
        refine vv_iload_n dX11_set_58 3 rfl rfl 59 rfl ?_
        refine vv_iast dX11_set_59 ob_m7 rfl 60 rfl hf (fun σ8 hf => ?_)
        refine vv_iload_n dX11_set_60 0 rfl rfl 61 rfl ?_
        exact vv_ireti rfl dX11_set_61 hf
      · refine vv_aload_n dX11_set_39 0 rfl rfl 40 rfl ?_
        refine vv_bipush dX11_set_40 (-6) rfl 42 rfl ?_
        refine vv_callV [.int (-6)] [] (fun _ _ h => c_X11_no h) (ob_rec ob_m0 rfl rfl) cv_X11_set_62 rfl (Nat.le_of_ble_eq_true rfl) 45 rfl dX11_set_42 rfl hf (fun r9 σ10 hf => ?_)
        exact vv_ireti rfl dX11_set_45 hf
    · refine vv_aload_n dX11_set_24 0 rfl rfl 25 rfl ?_
      refine vv_bipush dX11_set_25 (-4) rfl 27 rfl ?_
      refine vv_callV [.int (-4)] [] (fun _ _ h => c_X11_no h) (ob_rec ob_m0 rfl rfl) cv_X11_set_62 rfl (Nat.le_of_ble_eq_true rfl) 30 rfl dX11_set_27 rfl hf (fun r11 σ12 hf => ?_)
      exact vv_ireti rfl dX11_set_30 hf
  · refine vv_aload_n dX11_set_9 0 rfl rfl 10 rfl ?_
    refine vv_bipush dX11_set_10 (-2) rfl 12 rfl ?_
    refine vv_callV [.int (-2)] [] (fun _ _ h => c_X11_no h) (ob_rec ob_m0 rfl rfl) cv_X11_set_62 rfl (Nat.le_of_ble_eq_true rfl) 15 rfl dX11_set_12 rfl hf (fun r13 σ14 hf => ?_)
    exact vv_ireti rfl dX11_set_15 hf
abbrev mi_X11_seconds : ob_MI := (yX11_seconds, ob_ws yX11_seconds cX11_seconds 2 (some .int), cX11_seconds, 2, (some .int), { frames := 1, cells := 0, slots := 0, locals := 21 })
theorem gf_X11_seconds_28 : ob_GF mi_X11_seconds 28 11 7 := ⟨RX11, TX11, 24, rfl, by decide, fun x h => List.mem_cons_of_mem _ (uw_X11 x h), List.mem_cons_of_mem _ tw_765⟩
theorem mm_X11_seconds_124 : ob_mm mi_X11_seconds 124 Lib.Math.abs.name (.code Lib.Math.abs.name Lib.Math.abs.code 1 (some .int)) := ⟨List.mem_cons_of_mem _ tw_922, List.mem_cons_of_mem _ tw_520, List.mem_cons_of_mem _ tw_64, List.mem_cons_of_mem _ tw_521⟩
theorem mm_X11_seconds_129 : ob_mm mi_X11_seconds 129 Lib.Math.max.name (.code Lib.Math.max.name Lib.Math.max.code 2 (some .int)) := ⟨List.mem_cons_of_mem _ tw_923, List.mem_cons_of_mem _ tw_384, List.mem_cons_of_mem _ tw_64, List.mem_cons_of_mem _ tw_385⟩
noncomputable def f_X11_seconds (σ : ob_St) (p1 : Int32) : Option (Int32 × ob_St) :=
  ob_ld σ 7 6 3 fun v_1 =>
  ob_ld σ 7 6 2 fun v_2 =>
  ob_ld σ 7 6 4 fun v_3 =>
  some ((v_1 * (ob_max 1 ((1 + ((ob_abs (p1 - v_2)) / 4)) - v_3))), σ)
set_option maxRecDepth 100000 in
set_option maxHeartbeats 4000000 in
theorem c_X11_seconds {g : ob_GT} {ad : Nat → Nat} {r : Int32} {σ' : ob_St} {σ : ob_St} {p1 : Int32} (hf : f_X11_seconds σ p1 = some (r, σ')) : ob_CT g (ob_M ad) mi_X11_seconds [.ref (ad 0), .int p1] σ (some (.int r)) σ' := by
  refine ob_ct (by decide +kernel) rfl (Nat.le_of_ble_eq_true rfl) ?_
  show ob_V g (ob_M ad) mi_X11_seconds (some (.int r)) σ' σ 0 [(0, .ref (ad 0)), (1, .int p1)] []
  refine vv_aload_n dX11_seconds_0 0 rfl rfl 1 rfl ?_
  refine vv_getR dX11_seconds_1 7 gf_X11_seconds_28 ob_m0 rfl rfl 4 rfl ?_
  refine vv_iconst dX11_seconds_4 3 rfl 5 rfl ?_
  refine vv_iald dX11_seconds_5 ob_m7 rfl 6 rfl hf (fun v_1 hf => ?_)
  refine vv_iconst dX11_seconds_6 1 rfl 7 rfl ?_
  refine vv_iconst dX11_seconds_7 1 rfl 8 rfl ?_
  refine vv_iload_n dX11_seconds_8 1 rfl rfl 9 rfl ?_
  refine vv_aload_n dX11_seconds_9 0 rfl rfl 10 rfl ?_
  refine vv_getR dX11_seconds_10 7 gf_X11_seconds_28 ob_m0 rfl rfl 13 rfl ?_
  refine vv_iconst dX11_seconds_13 2 rfl 14 rfl ?_
  refine vv_iald dX11_seconds_14 ob_m7 rfl 15 rfl hf (fun v_2 hf => ?_)
  refine vv_isub dX11_seconds_15 16 rfl ?_
  refine vv_abs dX11_seconds_16 mm_X11_seconds_124 (Nat.le_of_ble_eq_true rfl) (Nat.le_of_ble_eq_true rfl) 19 rfl ?_
  refine vv_iconst dX11_seconds_19 4 rfl 20 rfl ?_
  refine vv_idiv dX11_seconds_20 (by decide) 21 rfl ?_
  refine vv_iadd dX11_seconds_21 22 rfl ?_
  refine vv_aload_n dX11_seconds_22 0 rfl rfl 23 rfl ?_
  refine vv_getR dX11_seconds_23 7 gf_X11_seconds_28 ob_m0 rfl rfl 26 rfl ?_
  refine vv_iconst dX11_seconds_26 4 rfl 27 rfl ?_
  refine vv_iald dX11_seconds_27 ob_m7 rfl 28 rfl hf (fun v_3 hf => ?_)
  refine vv_isub dX11_seconds_28 29 rfl ?_
  refine vv_max dX11_seconds_29 mm_X11_seconds_129 (Nat.le_of_ble_eq_true rfl) (Nat.le_of_ble_eq_true rfl) 32 rfl ?_
  refine vv_imul dX11_seconds_32 33 rfl ?_
  exact vv_ireti rfl dX11_seconds_33 hf
abbrev mi_X11_goes : ob_MI := (yX11_goes, ob_ws yX11_goes cX11_goes 2 (some .int), cX11_goes, 2, (some .int), { frames := 2, cells := 0, slots := 0, locals := 42 })
theorem cv_X11_goes_133 : ob_CV mi_X11_goes mi_X11_seconds 133 RX11 1 := ob_cvI rfl rfl tw_918 tw_920 tw_28 tw_59 tw_921 ⟨rfl, rfl⟩ ⟨rfl, by decide +kernel, by decide +kernel, by decide +kernel⟩ ⟨Nat.le_of_ble_eq_true rfl, Nat.le_of_ble_eq_true rfl⟩
theorem cv_X11_goes_62 : ob_CV mi_X11_goes mi_X11_no 62 RX11 1 := ob_cvI rfl rfl tw_835 tw_837 tw_18 tw_59 tw_838 ⟨rfl, rfl⟩ ⟨rfl, by decide +kernel, by decide +kernel, by decide +kernel⟩ ⟨Nat.le_of_ble_eq_true rfl, Nat.le_of_ble_eq_true rfl⟩
noncomputable def f_X11_goes (σ : ob_St) (p1 : Int32) : Option (Int32 × ob_St) :=
  if (0 : Int32) ≤ p1 then
    if p1 ≤ 99 then
      ob_bd (f_X11_seconds σ p1) fun r1 σ2 =>
      some (r1, σ2)
    else
      ob_bd (f_X11_no σ (-6)) fun r3 σ4 =>
      some (r3, σ4)
  else
    ob_bd (f_X11_no σ (-4)) fun r5 σ6 =>
    some (r5, σ6)
set_option maxRecDepth 100000 in
set_option maxHeartbeats 4000000 in
theorem c_X11_goes {g : ob_GT} {ad : Nat → Nat} {r : Int32} {σ' : ob_St} {σ : ob_St} {p1 : Int32} (hf : f_X11_goes σ p1 = some (r, σ')) : ob_CT g (ob_M ad) mi_X11_goes [.ref (ad 0), .int p1] σ (some (.int r)) σ' := by
  refine ob_ct (by decide +kernel) rfl (Nat.le_of_ble_eq_true rfl) ?_
  show ob_V g (ob_M ad) mi_X11_goes (some (.int r)) σ' σ 0 [(0, .ref (ad 0)), (1, .int p1)] []
  refine vv_iload_n dX11_goes_0 1 rfl rfl 1 rfl ?_
  refine vv_if_ge dX11_goes_1 11 4 rfl rfl hf (fun hf => ?_) (fun hf => ?_)
  · refine vv_iload_n dX11_goes_11 1 rfl rfl 12 rfl ?_
    refine vv_bipush dX11_goes_12 99 rfl 14 rfl ?_
    refine vv_icmp_le dX11_goes_14 26 17 rfl rfl hf (fun hf => ?_) (fun hf => ?_)
    · refine vv_aload_n dX11_goes_26 0 rfl rfl 27 rfl ?_
      refine vv_iload_n dX11_goes_27 1 rfl rfl 28 rfl ?_
      refine vv_callV [.int p1] [] (fun _ _ h => c_X11_seconds h) (ob_rec ob_m0 rfl rfl) cv_X11_goes_133 rfl (Nat.le_of_ble_eq_true rfl) 31 rfl dX11_goes_28 rfl hf (fun r1 σ2 hf => ?_)
      exact vv_ireti rfl dX11_goes_31 hf
    · refine vv_aload_n dX11_goes_17 0 rfl rfl 18 rfl ?_
      refine vv_bipush dX11_goes_18 (-6) rfl 20 rfl ?_
      refine vv_callV [.int (-6)] [] (fun _ _ h => c_X11_no h) (ob_rec ob_m0 rfl rfl) cv_X11_goes_62 rfl (Nat.le_of_ble_eq_true rfl) 23 rfl dX11_goes_20 rfl hf (fun r3 σ4 hf => ?_)
      refine vv_goto dX11_goes_23 31 rfl ?_
      exact vv_ireti rfl dX11_goes_31 hf
  · refine vv_aload_n dX11_goes_4 0 rfl rfl 5 rfl ?_
    refine vv_bipush dX11_goes_5 (-4) rfl 7 rfl ?_
    refine vv_callV [.int (-4)] [] (fun _ _ h => c_X11_no h) (ob_rec ob_m0 rfl rfl) cv_X11_goes_62 rfl (Nat.le_of_ble_eq_true rfl) 10 rfl dX11_goes_7 rfl hf (fun r5 σ6 hf => ?_)
    exact vv_ireti rfl dX11_goes_10 hf
abbrev mi_X11_run : ob_MI := (yX11_run, ob_ws yX11_run cX11_run 9 none, cX11_run, 9, none, { frames := 2, cells := 0, slots := 0, locals := 42 })
theorem pf_X11_run_136 : ob_PF mi_X11_run 136 11 21 .int := ⟨RX11, TX11, 24, tyX11, rfl, by decide, fun x h => List.mem_cons_of_mem _ (uw_X11 x h), List.mem_cons_of_mem _ tw_779, tyX11_ok, nmX11, rfl, by decide +kernel⟩
theorem gf_X11_run_28 : ob_GF mi_X11_run 28 11 7 := ⟨RX11, TX11, 24, rfl, by decide, fun x h => List.mem_cons_of_mem _ (uw_X11 x h), List.mem_cons_of_mem _ tw_765⟩
theorem pf_X11_run_139 : ob_PF mi_X11_run 139 11 22 .int := ⟨RX11, TX11, 24, tyX11, rfl, by decide, fun x h => List.mem_cons_of_mem _ (uw_X11 x h), List.mem_cons_of_mem _ tw_780, tyX11_ok, nmX11, rfl, by decide +kernel⟩
theorem gf_X11_run_66 : ob_GF mi_X11_run 66 11 0 := ⟨RX11, TX11, 24, rfl, by decide, fun x h => List.mem_cons_of_mem _ (uw_X11 x h), List.mem_cons_of_mem _ tw_758⟩
theorem gf_X11_run_25 : ob_GF mi_X11_run 25 11 6 := ⟨RX11, TX11, 24, rfl, by decide, fun x h => List.mem_cons_of_mem _ (uw_X11 x h), List.mem_cons_of_mem _ tw_764⟩
theorem gf_X11_run_19 : ob_GF mi_X11_run 19 11 4 := ⟨RX11, TX11, 24, rfl, by decide, fun x h => List.mem_cons_of_mem _ (uw_X11 x h), List.mem_cons_of_mem _ tw_762⟩
theorem gf_X11_run_13 : ob_GF mi_X11_run 13 11 2 := ⟨RX11, TX11, 24, rfl, by decide, fun x h => List.mem_cons_of_mem _ (uw_X11 x h), List.mem_cons_of_mem _ tw_760⟩
theorem gf_X11_run_55 : ob_GF mi_X11_run 55 11 20 := ⟨RX11, TX11, 24, rfl, by decide, fun x h => List.mem_cons_of_mem _ (uw_X11 x h), List.mem_cons_of_mem _ tw_778⟩
theorem gf_X11_run_136 : ob_GF mi_X11_run 136 11 21 := ⟨RX11, TX11, 24, rfl, by decide, fun x h => List.mem_cons_of_mem _ (uw_X11 x h), List.mem_cons_of_mem _ tw_779⟩
theorem gf_X11_run_7 : ob_GF mi_X11_run 7 11 1 := ⟨RX11, TX11, 24, rfl, by decide, fun x h => List.mem_cons_of_mem _ (uw_X11 x h), List.mem_cons_of_mem _ tw_759⟩
theorem gf_X11_run_52 : ob_GF mi_X11_run 52 11 19 := ⟨RX11, TX11, 24, rfl, by decide, fun x h => List.mem_cons_of_mem _ (uw_X11 x h), List.mem_cons_of_mem _ tw_777⟩
theorem gf_X11_run_139 : ob_GF mi_X11_run 139 11 22 := ⟨RX11, TX11, 24, rfl, by decide, fun x h => List.mem_cons_of_mem _ (uw_X11 x h), List.mem_cons_of_mem _ tw_780⟩
theorem cv_X11_run_133 : ob_CV mi_X11_run mi_X11_seconds 133 RX11 1 := ob_cvI rfl rfl tw_918 tw_920 tw_28 tw_59 tw_921 ⟨rfl, rfl⟩ ⟨rfl, by decide +kernel, by decide +kernel, by decide +kernel⟩ ⟨Nat.le_of_ble_eq_true rfl, Nat.le_of_ble_eq_true rfl⟩
noncomputable def J_X11_run_188_90 (rec : ob_St → Int32 → Int32 → Int32 → Int32 → Int32 → Int32 → Option ((Int32 × Int32) × ob_St)) (σ : ob_St) (v1 : Int32) (v2 : Int32) (v3 : Int32) (v4 : Int32) (v5 : Int32) (v7 : Int32) (w0 : Int32) : Option ((Int32 × Int32) × ob_St) :=
  if w0 = 0 then
    ob_ld σ 4 6 v7 fun v_7 =>
    ob_nm (v4 + v_7) fun v_8 =>
    ob_ld σ 2 6 v7 fun v_9 =>
    ob_nm (v3 + v_9) fun v_10 =>
    ob_sd σ 16 6 v7 (σ 0 21) fun σ11 =>
    ob_ld σ11 1 6 v7 fun v_12 =>
    if v_12 = 5 then
      rec σ11 v1 (v2 + 1) v_10 v_8 v5 1
    else
      rec σ11 v1 (v2 + 1) v_10 v_8 v5 0
  else
    rec σ v1 v2 v3 v4 v5 w0
noncomputable def J_X11_run_187_90 (rec : ob_St → Int32 → Int32 → Int32 → Int32 → Int32 → Int32 → Option ((Int32 × Int32) × ob_St)) (σ : ob_St) (v1 : Int32) (v2 : Int32) (v3 : Int32) (v4 : Int32) (v5 : Int32) (v7 : Int32) : Option ((Int32 × Int32) × ob_St) :=
  J_X11_run_188_90 rec σ v1 v2 v3 v4 v5 v7 0
noncomputable def J_X11_run_183_90 (rec : ob_St → Int32 → Int32 → Int32 → Int32 → Int32 → Int32 → Option ((Int32 × Int32) × ob_St)) (σ : ob_St) (v1 : Int32) (v2 : Int32) (v3 : Int32) (v4 : Int32) (v5 : Int32) (v7 : Int32) : Option ((Int32 × Int32) × ob_St) :=
  J_X11_run_188_90 rec σ v1 v2 v3 v4 v5 v7 1
noncomputable def L_X11_run_90 : Nat → ob_St → Int32 → Int32 → Int32 → Int32 → Int32 → Int32 → Option ((Int32 × Int32) × ob_St)
  | 0, _, _, _, _, _, _, _ => none
  | n + 1, σ, v1, v2, v3, v4, v5, v6 =>
    if (σ 0 0) ≤ v2 then
      some ((v2, v3), σ)
    else
      if v6 = 0 then
        ob_ld σ 6 6 v2 fun v_6 =>
        if v_6 = v1 then
          ob_ld σ 7 6 5 fun v_16 =>
          ob_sd σ 15 6 v_6 (v_16 + 60) fun σ17 =>
          ob_sd σ17 16 6 v_6 (-9) fun σ18 =>
          L_X11_run_90 n σ18 v1 (v2 + 1) v3 v4 v5 v6
        else
          if v4 ≤ 0 then
            J_X11_run_187_90 (fun σ v1 v2 v3 v4 v5 v6 => L_X11_run_90 n σ v1 v2 v3 v4 v5 v6) σ v1 v2 v3 v4 v5 v_6
          else
            ob_ld σ 4 6 v_6 fun v_13 =>
            ob_ld σ 7 6 0 fun v_14 =>
            if v_14 < (v4 + v_13) then
              J_X11_run_183_90 (fun σ v1 v2 v3 v4 v5 v6 => L_X11_run_90 n σ v1 v2 v3 v4 v5 v6) σ v1 v2 v3 v4 v5 v_6
            else
              ob_ld σ 1 6 v_6 fun v_15 =>
              if v_15 = 5 then
                J_X11_run_183_90 (fun σ v1 v2 v3 v4 v5 v6 => L_X11_run_90 n σ v1 v2 v3 v4 v5 v6) σ v1 v2 v3 v4 v5 v_6
              else
                J_X11_run_187_90 (fun σ v1 v2 v3 v4 v5 v6 => L_X11_run_90 n σ v1 v2 v3 v4 v5 v6) σ v1 v2 v3 v4 v5 v_6
      else
        some ((v2, v3), σ)
noncomputable def L_X11_run_271 : Nat → ob_St → Int32 → Int32 → Int32 → Int32 → Option (Unit × ob_St)
  | 0, _, _, _, _, _ => none
  | n + 1, σ, v1, v2, v7, v8 =>
    if v2 ≤ v8 then
      some ((), σ)
    else
      ob_ld σ 6 6 v8 fun v_24 =>
      if v_24 = v1 then
        L_X11_run_271 n σ v1 v2 v7 (v8 + 1)
      else
        ob_ld σ 6 6 v8 fun v_25 =>
        ob_sd σ 15 6 v_25 v7 fun σ26 =>
        L_X11_run_271 n σ26 v1 v2 v7 (v8 + 1)
noncomputable def J_X11_run_255_17 (rec : ob_St → Int32 → Int32 → Option (Unit × ob_St)) (σ : ob_St) (v1 : Int32) (v2 : Int32) (v3 : Int32) (v5 : Int32) : Option (Unit × ob_St) :=
  ob_bd (f_X11_seconds σ v3) fun r21 σ22 =>
  ob_nm ((σ 0 22) + r21) fun v_23 =>
  ob_bd (L_X11_run_271 1000 σ22 v1 v2 v_23 v5) fun q27 σ28 =>
  ob_ld σ28 7 6 1 fun v_29 =>
  ob_bd (f_X11_seconds σ28 v_29) fun r30 σ31 =>
  ob_pf σ31 0 22 (v_23 + r30) fun σ32 =>
  ob_pf σ32 0 21 ((σ32 0 21) + 1) fun σ33 =>
  rec σ33 v1 v2
noncomputable def L_X11_run_17 : Nat → ob_St → Int32 → Int32 → Option (Unit × ob_St)
  | 0, _, _, _ => none
  | n + 1, σ, v1, v2 =>
    if (σ 0 0) ≤ v2 then
      some ((), σ)
    else
      ob_ld σ 6 6 v2 fun v_4 =>
      if v_4 = v1 then
        ob_ld σ 6 6 v2 fun v_34 =>
        ob_ld σ 7 6 5 fun v_35 =>
        ob_sd σ 15 6 v_34 (v_35 + 60) fun σ36 =>
        ob_ld σ36 6 6 v2 fun v_37 =>
        ob_sd σ36 16 6 v_37 (-9) fun σ38 =>
        L_X11_run_17 n σ38 v1 (v2 + 1)
      else
        ob_ld σ 7 6 1 fun v_5 =>
        ob_bd (L_X11_run_90 1000 σ v1 v2 v_5 0 v2 0) fun q19 σ20 =>
        J_X11_run_255_17 (fun σ v1 v2 => L_X11_run_17 n σ v1 v2) σ20 v1 q19.1 q19.2 v2
noncomputable def f_X11_run (σ : ob_St) (p1 : Int32) : Option (Unit × ob_St) :=
  ob_pf σ 0 21 0 fun σ1 =>
  ob_ld σ1 7 6 5 fun v_2 =>
  ob_pf σ1 0 22 v_2 fun σ3 =>
  L_X11_run_17 1000 σ3 p1 0
set_option maxRecDepth 100000 in
set_option maxHeartbeats 4000000 in
theorem j_X11_run_188_90 {g : ob_GT} {ad : Nat → Nat} {ov : Option Value} {σ' σq : ob_St} {q : (Int32 × Int32)} {σ : ob_St} {v1 : Int32} {v2 : Int32} {v3 : Int32} {v4 : Int32} {v5 : Int32} {v7 : Int32} {w0 : Int32} {rec : ob_St → Int32 → Int32 → Int32 → Int32 → Int32 → Int32 → Option ((Int32 × Int32) × ob_St)} (hrec : ∀ {σ : ob_St} {v1 : Int32} {v2 : Int32} {v3 : Int32} {v4 : Int32} {v5 : Int32} {v6 : Int32}, rec σ v1 v2 v3 v4 v5 v6 = some (q, σq) → ob_V g (ob_M ad) mi_X11_run ov σ' σq 255 [(0, .ref (ad 0)), (1, .int v1), (2, .int q.1), (3, .int q.2), (5, .int v5)] [] → ob_V g (ob_M ad) mi_X11_run ov σ' σ 90 [(0, .ref (ad 0)), (1, .int v1), (2, .int v2), (3, .int v3), (4, .int v4), (5, .int v5), (6, .int v6)] []) (kk : ob_V g (ob_M ad) mi_X11_run ov σ' σq 255 [(0, .ref (ad 0)), (1, .int v1), (2, .int q.1), (3, .int q.2), (5, .int v5)] []) (hf : J_X11_run_188_90 rec σ v1 v2 v3 v4 v5 v7 w0 = some (q, σq)) : ob_V g (ob_M ad) mi_X11_run ov σ' σ 188 [(0, .ref (ad 0)), (1, .int v1), (2, .int v2), (3, .int v3), (4, .int v4), (5, .int v5), (7, .int v7)] [.int w0] := by
  refine vv_istore dX11_run_188 [(6, .int w0), (0, .ref (ad 0)), (1, .int v1), (2, .int v2), (3, .int v3), (4, .int v4), (5, .int v5), (7, .int v7)] (Nat.le_of_ble_eq_true rfl) rfl 190 rfl ?_
  refine vv_iload dX11_run_190 0 rfl 192 rfl ?_
  refine vv_if_eq dX11_run_192 198 195 rfl rfl hf (fun hf => ?_) (fun hf => ?_)
  · refine vv_iload dX11_run_198 5 rfl 200 rfl ?_
    refine vv_aload_n dX11_run_200 1 rfl rfl 201 rfl ?_
    refine vv_getR dX11_run_201 4 gf_X11_run_19 ob_m0 rfl rfl 204 rfl ?_
    refine vv_iload dX11_run_204 7 rfl 206 rfl ?_
    refine vv_iald dX11_run_206 ob_m4 rfl 207 rfl hf (fun v_7 hf => ?_)
    refine vv_iadd dX11_run_207 208 rfl ?_
    refine vv_nm hf (fun v_8 hf => ?_)
    refine vv_istore dX11_run_208 [(4, .int v_8), (6, .int w0), (0, .ref (ad 0)), (1, .int v1), (2, .int v2), (3, .int v3), (5, .int v5), (7, .int v7)] (Nat.le_of_ble_eq_true rfl) rfl 210 rfl ?_
    refine vv_iload_n dX11_run_210 5 rfl rfl 211 rfl ?_
    refine vv_aload_n dX11_run_211 2 rfl rfl 212 rfl ?_
    refine vv_getR dX11_run_212 2 gf_X11_run_13 ob_m0 rfl rfl 215 rfl ?_
    refine vv_iload dX11_run_215 7 rfl 217 rfl ?_
    refine vv_iald dX11_run_217 ob_m2 rfl 218 rfl hf (fun v_9 hf => ?_)
    refine vv_iadd dX11_run_218 219 rfl ?_
    refine vv_nm hf (fun v_10 hf => ?_)
    refine vv_istore_n dX11_run_219 [(3, .int v_10), (4, .int v_8), (6, .int w0), (0, .ref (ad 0)), (1, .int v1), (2, .int v2), (5, .int v5), (7, .int v7)] rfl (Nat.le_of_ble_eq_true rfl) rfl 220 rfl ?_
    refine vv_aload_n dX11_run_220 3 rfl rfl 221 rfl ?_
    refine vv_getR dX11_run_221 20 gf_X11_run_55 ob_m0 rfl rfl 224 rfl ?_
    refine vv_iload dX11_run_224 7 rfl 226 rfl ?_
    refine vv_aload_n dX11_run_226 3 rfl rfl 227 rfl ?_
    refine vv_getI dX11_run_227 21 gf_X11_run_136 ob_m0 rfl rfl 230 rfl ?_
    refine vv_iast dX11_run_230 ob_m16 rfl 231 rfl hf (fun σ11 hf => ?_)
    refine vv_aload_n dX11_run_231 3 rfl rfl 232 rfl ?_
    refine vv_getR dX11_run_232 1 gf_X11_run_7 ob_m0 rfl rfl 235 rfl ?_
    refine vv_iload dX11_run_235 7 rfl 237 rfl ?_
    refine vv_iald dX11_run_237 ob_m1 rfl 238 rfl hf (fun v_12 hf => ?_)
    refine vv_iconst dX11_run_238 5 rfl 239 rfl ?_
    refine vv_icmp_ne dX11_run_239 246 242 rfl rfl hf (fun hf => ?_) (fun hf => ?_)
    · refine vv_iconst dX11_run_246 0 rfl 247 rfl ?_
      refine vv_istore dX11_run_247 [(6, .int 0), (3, .int v_10), (4, .int v_8), (0, .ref (ad 0)), (1, .int v1), (2, .int v2), (5, .int v5), (7, .int v7)] (Nat.le_of_ble_eq_true rfl) rfl 249 rfl ?_
      refine vv_iinc dX11_run_249 (v2 + 1) 5 [(2, .int (v2 + 1)), (6, .int 0), (3, .int v_10), (4, .int v_8), (0, .ref (ad 0)), (1, .int v1), (5, .int v5), (7, .int v7)] rfl rfl (Nat.le_of_ble_eq_true rfl) rfl 252 rfl ?_
      refine vv_goto dX11_run_252 90 rfl ?_
      refine vv_sub [4, 5, 0, 2, 3, 6, 1] [(0, .ref (ad 0)), (1, .int v1), (2, .int (v2 + 1)), (3, .int v_10), (4, .int v_8), (5, .int v5), (6, .int 0)] rfl ?_
      exact hrec hf kk
    · refine vv_iconst dX11_run_242 1 rfl 243 rfl ?_
      refine vv_goto dX11_run_243 247 rfl ?_
      refine vv_istore dX11_run_247 [(6, .int 1), (3, .int v_10), (4, .int v_8), (0, .ref (ad 0)), (1, .int v1), (2, .int v2), (5, .int v5), (7, .int v7)] (Nat.le_of_ble_eq_true rfl) rfl 249 rfl ?_
      refine vv_iinc dX11_run_249 (v2 + 1) 5 [(2, .int (v2 + 1)), (6, .int 1), (3, .int v_10), (4, .int v_8), (0, .ref (ad 0)), (1, .int v1), (5, .int v5), (7, .int v7)] rfl rfl (Nat.le_of_ble_eq_true rfl) rfl 252 rfl ?_
      refine vv_goto dX11_run_252 90 rfl ?_
      refine vv_sub [4, 5, 0, 2, 3, 6, 1] [(0, .ref (ad 0)), (1, .int v1), (2, .int (v2 + 1)), (3, .int v_10), (4, .int v_8), (5, .int v5), (6, .int 1)] rfl ?_
      exact hrec hf kk
  · refine vv_goto dX11_run_195 90 rfl ?_
    refine vv_sub [1, 2, 3, 4, 5, 6, 0] [(0, .ref (ad 0)), (1, .int v1), (2, .int v2), (3, .int v3), (4, .int v4), (5, .int v5), (6, .int w0)] rfl ?_
    exact hrec hf kk
set_option maxRecDepth 100000 in
set_option maxHeartbeats 4000000 in
theorem j_X11_run_187_90 {g : ob_GT} {ad : Nat → Nat} {ov : Option Value} {σ' σq : ob_St} {q : (Int32 × Int32)} {σ : ob_St} {v1 : Int32} {v2 : Int32} {v3 : Int32} {v4 : Int32} {v5 : Int32} {v7 : Int32} {rec : ob_St → Int32 → Int32 → Int32 → Int32 → Int32 → Int32 → Option ((Int32 × Int32) × ob_St)} (hrec : ∀ {σ : ob_St} {v1 : Int32} {v2 : Int32} {v3 : Int32} {v4 : Int32} {v5 : Int32} {v6 : Int32}, rec σ v1 v2 v3 v4 v5 v6 = some (q, σq) → ob_V g (ob_M ad) mi_X11_run ov σ' σq 255 [(0, .ref (ad 0)), (1, .int v1), (2, .int q.1), (3, .int q.2), (5, .int v5)] [] → ob_V g (ob_M ad) mi_X11_run ov σ' σ 90 [(0, .ref (ad 0)), (1, .int v1), (2, .int v2), (3, .int v3), (4, .int v4), (5, .int v5), (6, .int v6)] []) (kk : ob_V g (ob_M ad) mi_X11_run ov σ' σq 255 [(0, .ref (ad 0)), (1, .int v1), (2, .int q.1), (3, .int q.2), (5, .int v5)] []) (hf : J_X11_run_187_90 rec σ v1 v2 v3 v4 v5 v7 = some (q, σq)) : ob_V g (ob_M ad) mi_X11_run ov σ' σ 187 [(0, .ref (ad 0)), (1, .int v1), (2, .int v2), (3, .int v3), (4, .int v4), (5, .int v5), (7, .int v7)] [] := by
  refine vv_iconst dX11_run_187 0 rfl 188 rfl ?_
  exact j_X11_run_188_90 hrec kk hf
set_option maxRecDepth 100000 in
set_option maxHeartbeats 4000000 in
theorem j_X11_run_183_90 {g : ob_GT} {ad : Nat → Nat} {ov : Option Value} {σ' σq : ob_St} {q : (Int32 × Int32)} {σ : ob_St} {v1 : Int32} {v2 : Int32} {v3 : Int32} {v4 : Int32} {v5 : Int32} {v7 : Int32} {rec : ob_St → Int32 → Int32 → Int32 → Int32 → Int32 → Int32 → Option ((Int32 × Int32) × ob_St)} (hrec : ∀ {σ : ob_St} {v1 : Int32} {v2 : Int32} {v3 : Int32} {v4 : Int32} {v5 : Int32} {v6 : Int32}, rec σ v1 v2 v3 v4 v5 v6 = some (q, σq) → ob_V g (ob_M ad) mi_X11_run ov σ' σq 255 [(0, .ref (ad 0)), (1, .int v1), (2, .int q.1), (3, .int q.2), (5, .int v5)] [] → ob_V g (ob_M ad) mi_X11_run ov σ' σ 90 [(0, .ref (ad 0)), (1, .int v1), (2, .int v2), (3, .int v3), (4, .int v4), (5, .int v5), (6, .int v6)] []) (kk : ob_V g (ob_M ad) mi_X11_run ov σ' σq 255 [(0, .ref (ad 0)), (1, .int v1), (2, .int q.1), (3, .int q.2), (5, .int v5)] []) (hf : J_X11_run_183_90 rec σ v1 v2 v3 v4 v5 v7 = some (q, σq)) : ob_V g (ob_M ad) mi_X11_run ov σ' σ 183 [(0, .ref (ad 0)), (1, .int v1), (2, .int v2), (3, .int v3), (4, .int v4), (5, .int v5), (7, .int v7)] [] := by
  refine vv_iconst dX11_run_183 1 rfl 184 rfl ?_
  refine vv_goto dX11_run_184 188 rfl ?_
  exact j_X11_run_188_90 hrec kk hf
set_option maxRecDepth 100000 in
set_option maxHeartbeats 4000000 in
theorem l_X11_run_90 {g : ob_GT} {ad : Nat → Nat} {ov : Option Value} {σ' σq : ob_St} {q : (Int32 × Int32)} : ∀ (n : Nat) {σ : ob_St} {v1 : Int32} {v2 : Int32} {v3 : Int32} {v4 : Int32} {v5 : Int32} {v6 : Int32}, L_X11_run_90 n σ v1 v2 v3 v4 v5 v6 = some (q, σq) → ob_V g (ob_M ad) mi_X11_run ov σ' σq 255 [(0, .ref (ad 0)), (1, .int v1), (2, .int q.1), (3, .int q.2), (5, .int v5)] [] → ob_V g (ob_M ad) mi_X11_run ov σ' σ 90 [(0, .ref (ad 0)), (1, .int v1), (2, .int v2), (3, .int v3), (4, .int v4), (5, .int v5), (6, .int v6)] [] := by
  intro n
  induction n with
  | zero => intro σ v1 v2 v3 v4 v5 v6 hf kk; exact absurd hf (fun h => by cases h)
  | succ n ih =>
    intro σ v1 v2 v3 v4 v5 v6 hf kk
    refine vv_iload_n dX11_run_90 2 rfl rfl 91 rfl ?_
    refine vv_aload_n dX11_run_91 0 rfl rfl 92 rfl ?_
    refine vv_getI dX11_run_92 0 gf_X11_run_66 ob_m0 rfl rfl 95 rfl ?_
    refine vv_icmp_ge dX11_run_95 255 98 rfl rfl hf (fun hf => ?_) (fun hf => ?_)
    · refine vv_sub [0, 1, 2, 3, 5] [(0, .ref (ad 0)), (1, .int v1), (2, .int v2), (3, .int v3), (5, .int v5)] rfl ?_
      obtain ⟨rfl, rfl⟩ := Prod.mk.inj (Option.some.inj hf)
      exact kk
    · refine vv_iload dX11_run_98 6 rfl 100 rfl ?_
      refine vv_if_ne dX11_run_100 255 103 rfl rfl hf (fun hf => ?_) (fun hf => ?_)
      · refine vv_sub [0, 1, 2, 3, 5] [(0, .ref (ad 0)), (1, .int v1), (2, .int v2), (3, .int v3), (5, .int v5)] rfl ?_
        obtain ⟨rfl, rfl⟩ := Prod.mk.inj (Option.some.inj hf)
        exact kk
      · refine vv_aload_n dX11_run_103 0 rfl rfl 104 rfl ?_
        refine vv_getR dX11_run_104 6 gf_X11_run_25 ob_m0 rfl rfl 107 rfl ?_
        refine vv_iload_n dX11_run_107 2 rfl rfl 108 rfl ?_
        refine vv_iald dX11_run_108 ob_m6 rfl 109 rfl hf (fun v_6 hf => ?_)
        refine vv_istore dX11_run_109 [(7, .int v_6), (0, .ref (ad 0)), (1, .int v1), (2, .int v2), (3, .int v3), (4, .int v4), (5, .int v5), (6, .int v6)] (Nat.le_of_ble_eq_true rfl) rfl 111 rfl ?_
        refine vv_iload dX11_run_111 0 rfl 113 rfl ?_
        refine vv_iload_n dX11_run_113 2 rfl rfl 114 rfl ?_
        refine vv_icmp_ne dX11_run_114 148 117 rfl rfl hf (fun hf => ?_) (fun hf => ?_)
        · refine vv_iload dX11_run_148 5 rfl 150 rfl ?_
          refine vv_if_le dX11_run_150 187 153 rfl rfl hf (fun hf => ?_) (fun hf => ?_)
          · refine vv_sub [1, 2, 3, 4, 5, 6, 0] [(0, .ref (ad 0)), (1, .int v1), (2, .int v2), (3, .int v3), (4, .int v4), (5, .int v5), (7, .int v_6)] rfl ?_
            exact j_X11_run_187_90 ih kk hf
          · refine vv_iload dX11_run_153 5 rfl 155 rfl ?_
            refine vv_aload_n dX11_run_155 1 rfl rfl 156 rfl ?_
            refine vv_getR dX11_run_156 4 gf_X11_run_19 ob_m0 rfl rfl 159 rfl ?_
            refine vv_iload dX11_run_159 0 rfl 161 rfl ?_
            refine vv_iald dX11_run_161 ob_m4 rfl 162 rfl hf (fun v_13 hf => ?_)
            refine vv_iadd dX11_run_162 163 rfl ?_
            refine vv_aload_n dX11_run_163 1 rfl rfl 164 rfl ?_
            refine vv_getR dX11_run_164 7 gf_X11_run_28 ob_m0 rfl rfl 167 rfl ?_
            refine vv_iconst dX11_run_167 0 rfl 168 rfl ?_
            refine vv_iald dX11_run_168 ob_m7 rfl 169 rfl hf (fun v_14 hf => ?_)
            refine vv_icmp_gt dX11_run_169 183 172 rfl rfl hf (fun hf => ?_) (fun hf => ?_)
            · refine vv_sub [1, 2, 3, 4, 5, 6, 0] [(0, .ref (ad 0)), (1, .int v1), (2, .int v2), (3, .int v3), (4, .int v4), (5, .int v5), (7, .int v_6)] rfl ?_
              exact j_X11_run_183_90 ih kk hf
            · refine vv_aload_n dX11_run_172 1 rfl rfl 173 rfl ?_
              refine vv_getR dX11_run_173 1 gf_X11_run_7 ob_m0 rfl rfl 176 rfl ?_
              refine vv_iload dX11_run_176 0 rfl 178 rfl ?_
              refine vv_iald dX11_run_178 ob_m1 rfl 179 rfl hf (fun v_15 hf => ?_)
              refine vv_iconst dX11_run_179 5 rfl 180 rfl ?_
              refine vv_icmp_ne dX11_run_180 187 183 rfl rfl hf (fun hf => ?_) (fun hf => ?_)
              · refine vv_sub [1, 2, 3, 4, 5, 6, 0] [(0, .ref (ad 0)), (1, .int v1), (2, .int v2), (3, .int v3), (4, .int v4), (5, .int v5), (7, .int v_6)] rfl ?_
                exact j_X11_run_187_90 ih kk hf
              · refine vv_sub [1, 2, 3, 4, 5, 6, 0] [(0, .ref (ad 0)), (1, .int v1), (2, .int v2), (3, .int v3), (4, .int v4), (5, .int v5), (7, .int v_6)] rfl ?_
                exact j_X11_run_183_90 ih kk hf
        · refine vv_aload_n dX11_run_117 1 rfl rfl 118 rfl ?_
          refine vv_getR dX11_run_118 19 gf_X11_run_52 ob_m0 rfl rfl 121 rfl ?_
          refine vv_iload dX11_run_121 0 rfl 123 rfl ?_
          refine vv_aload_n dX11_run_123 1 rfl rfl 124 rfl ?_
          refine vv_getR dX11_run_124 7 gf_X11_run_28 ob_m0 rfl rfl 127 rfl ?_
          refine vv_iconst dX11_run_127 5 rfl 128 rfl ?_
          refine vv_iald dX11_run_128 ob_m7 rfl 129 rfl hf (fun v_16 hf => ?_)
          refine vv_bipush dX11_run_129 60 rfl 131 rfl ?_
          refine vv_iadd dX11_run_131 132 rfl ?_
          refine vv_iast dX11_run_132 ob_m15 rfl 133 rfl hf (fun σ17 hf => ?_)
          refine vv_aload_n dX11_run_133 1 rfl rfl 134 rfl ?_
          refine vv_getR dX11_run_134 20 gf_X11_run_55 ob_m0 rfl rfl 137 rfl ?_
          refine vv_iload dX11_run_137 0 rfl 139 rfl ?_
          refine vv_bipush dX11_run_139 (-9) rfl 141 rfl ?_
          refine vv_iast dX11_run_141 ob_m16 rfl 142 rfl hf (fun σ18 hf => ?_)
          refine vv_iinc dX11_run_142 (v2 + 1) 3 [(2, .int (v2 + 1)), (7, .int v_6), (0, .ref (ad 0)), (1, .int v1), (3, .int v3), (4, .int v4), (5, .int v5), (6, .int v6)] rfl rfl (Nat.le_of_ble_eq_true rfl) rfl 145 rfl ?_
          refine vv_goto dX11_run_145 90 rfl ?_
          refine vv_sub [2, 3, 0, 4, 5, 6, 7] [(0, .ref (ad 0)), (1, .int v1), (2, .int (v2 + 1)), (3, .int v3), (4, .int v4), (5, .int v5), (6, .int v6)] rfl ?_
          exact ih hf kk
set_option maxRecDepth 100000 in
set_option maxHeartbeats 4000000 in
theorem l_X11_run_271 {g : ob_GT} {ad : Nat → Nat} {ov : Option Value} {σ' σq : ob_St} {q : Unit} : ∀ (n : Nat) {σ : ob_St} {v1 : Int32} {v2 : Int32} {v7 : Int32} {v8 : Int32}, L_X11_run_271 n σ v1 v2 v7 v8 = some (q, σq) → ob_V g (ob_M ad) mi_X11_run ov σ' σq 308 [(0, .ref (ad 0)), (1, .int v1), (2, .int v2), (7, .int v7)] [] → ob_V g (ob_M ad) mi_X11_run ov σ' σ 271 [(0, .ref (ad 0)), (1, .int v1), (2, .int v2), (7, .int v7), (8, .int v8)] [] := by
  intro n
  induction n with
  | zero => intro σ v1 v2 v7 v8 hf kk; exact absurd hf (fun h => by cases h)
  | succ n ih =>
    intro σ v1 v2 v7 v8 hf kk
    refine vv_iload dX11_run_271 4 rfl 273 rfl ?_
    refine vv_iload_n dX11_run_273 2 rfl rfl 274 rfl ?_
    refine vv_icmp_ge dX11_run_274 308 277 rfl rfl hf (fun hf => ?_) (fun hf => ?_)
    · refine vv_sub [0, 1, 2, 3] [(0, .ref (ad 0)), (1, .int v1), (2, .int v2), (7, .int v7)] rfl ?_
      obtain ⟨rfl, rfl⟩ := Prod.mk.inj (Option.some.inj hf)
      exact kk
    · refine vv_aload_n dX11_run_277 0 rfl rfl 278 rfl ?_
      refine vv_getR dX11_run_278 6 gf_X11_run_25 ob_m0 rfl rfl 281 rfl ?_
      refine vv_iload dX11_run_281 4 rfl 283 rfl ?_
      refine vv_iald dX11_run_283 ob_m6 rfl 284 rfl hf (fun v_24 hf => ?_)
      refine vv_iload_n dX11_run_284 1 rfl rfl 285 rfl ?_
      refine vv_icmp_eq dX11_run_285 302 288 rfl rfl hf (fun hf => ?_) (fun hf => ?_)
      · refine vv_iinc dX11_run_302 (v8 + 1) 4 [(8, .int (v8 + 1)), (0, .ref (ad 0)), (1, .int v1), (2, .int v2), (7, .int v7)] rfl rfl (Nat.le_of_ble_eq_true rfl) rfl 305 rfl ?_
        refine vv_goto dX11_run_305 271 rfl ?_
        refine vv_sub [1, 2, 3, 4, 0] [(0, .ref (ad 0)), (1, .int v1), (2, .int v2), (7, .int v7), (8, .int (v8 + 1))] rfl ?_
        exact ih hf kk
      · refine vv_aload_n dX11_run_288 0 rfl rfl 289 rfl ?_
        refine vv_getR dX11_run_289 19 gf_X11_run_52 ob_m0 rfl rfl 292 rfl ?_
        refine vv_aload_n dX11_run_292 0 rfl rfl 293 rfl ?_
        refine vv_getR dX11_run_293 6 gf_X11_run_25 ob_m0 rfl rfl 296 rfl ?_
        refine vv_iload dX11_run_296 4 rfl 298 rfl ?_
        refine vv_iald dX11_run_298 ob_m6 rfl 299 rfl hf (fun v_25 hf => ?_)
        refine vv_iload dX11_run_299 3 rfl 301 rfl ?_
        refine vv_iast dX11_run_301 ob_m15 rfl 302 rfl hf (fun σ26 hf => ?_)
        refine vv_iinc dX11_run_302 (v8 + 1) 4 [(8, .int (v8 + 1)), (0, .ref (ad 0)), (1, .int v1), (2, .int v2), (7, .int v7)] rfl rfl (Nat.le_of_ble_eq_true rfl) rfl 305 rfl ?_
        refine vv_goto dX11_run_305 271 rfl ?_
        refine vv_sub [1, 2, 3, 4, 0] [(0, .ref (ad 0)), (1, .int v1), (2, .int v2), (7, .int v7), (8, .int (v8 + 1))] rfl ?_
        exact ih hf kk
set_option maxRecDepth 100000 in
set_option maxHeartbeats 4000000 in
theorem j_X11_run_255_17 {g : ob_GT} {ad : Nat → Nat} {r : Unit} {σ' : ob_St} {σ : ob_St} {v1 : Int32} {v2 : Int32} {v3 : Int32} {v5 : Int32} {rec : ob_St → Int32 → Int32 → Option (Unit × ob_St)} (hrec : ∀ {σ : ob_St} {v1 : Int32} {v2 : Int32}, rec σ v1 v2 = some (r, σ') → ob_V g (ob_M ad) mi_X11_run none σ' σ 17 [(0, .ref (ad 0)), (1, .int v1), (2, .int v2)] []) (hf : J_X11_run_255_17 rec σ v1 v2 v3 v5 = some (r, σ')) : ob_V g (ob_M ad) mi_X11_run none σ' σ 255 [(0, .ref (ad 0)), (1, .int v1), (2, .int v2), (3, .int v3), (5, .int v5)] [] := by
  refine vv_aload_n dX11_run_255 0 rfl rfl 256 rfl ?_
  refine vv_getI dX11_run_256 22 gf_X11_run_139 ob_m0 rfl rfl 259 rfl ?_
  refine vv_aload_n dX11_run_259 0 rfl rfl 260 rfl ?_
  refine vv_iload_n dX11_run_260 3 rfl rfl 261 rfl ?_
  refine vv_callV [.int v3] [.int (σ 0 22)] (fun _ _ h => c_X11_seconds h) (ob_rec ob_m0 rfl rfl) cv_X11_run_133 rfl (Nat.le_of_ble_eq_true rfl) 264 rfl dX11_run_261 rfl hf (fun r21 σ22 hf => ?_)
  refine vv_iadd dX11_run_264 265 rfl ?_
  refine vv_nm hf (fun v_23 hf => ?_)
  refine vv_istore dX11_run_265 [(7, .int v_23), (0, .ref (ad 0)), (1, .int v1), (2, .int v2), (3, .int v3), (5, .int v5)] (Nat.le_of_ble_eq_true rfl) rfl 267 rfl ?_
  refine vv_iload dX11_run_267 5 rfl 269 rfl ?_
  refine vv_istore dX11_run_269 [(8, .int v5), (7, .int v_23), (0, .ref (ad 0)), (1, .int v1), (2, .int v2), (3, .int v3), (5, .int v5)] (Nat.le_of_ble_eq_true rfl) rfl 271 rfl ?_
  refine vv_sub [2, 3, 4, 1, 0] [(0, .ref (ad 0)), (1, .int v1), (2, .int v2), (7, .int v_23), (8, .int v5)] rfl ?_
  obtain ⟨q27, σ28, hL, hf⟩ := ob_bdE hf
  refine l_X11_run_271 1000 hL ?_
  refine vv_aload_n dX11_run_308 0 rfl rfl 309 rfl ?_
  refine vv_iload dX11_run_309 3 rfl 311 rfl ?_
  refine vv_aload_n dX11_run_311 0 rfl rfl 312 rfl ?_
  refine vv_aload_n dX11_run_312 0 rfl rfl 313 rfl ?_
  refine vv_getR dX11_run_313 7 gf_X11_run_28 ob_m0 rfl rfl 316 rfl ?_
  refine vv_iconst dX11_run_316 1 rfl 317 rfl ?_
  refine vv_iald dX11_run_317 ob_m7 rfl 318 rfl hf (fun v_29 hf => ?_)
  refine vv_callV [.int v_29] [.int v_23, .ref (ad 0)] (fun _ _ h => c_X11_seconds h) (ob_rec ob_m0 rfl rfl) cv_X11_run_133 rfl (Nat.le_of_ble_eq_true rfl) 321 rfl dX11_run_318 rfl hf (fun r30 σ31 hf => ?_)
  refine vv_iadd dX11_run_321 322 rfl ?_
  refine vv_putI dX11_run_322 22 pf_X11_run_139 ob_m0 rfl rfl (ob_fit_int _) 325 rfl hf (fun σ32 hf => ?_)
  refine vv_aload_n dX11_run_325 0 rfl rfl 326 rfl ?_
  refine vv_dup dX11_run_326 rfl 327 rfl ?_
  refine vv_getI dX11_run_327 21 gf_X11_run_136 ob_m0 rfl rfl 330 rfl ?_
  refine vv_iconst dX11_run_330 1 rfl 331 rfl ?_
  refine vv_iadd dX11_run_331 332 rfl ?_
  refine vv_putI dX11_run_332 21 pf_X11_run_136 ob_m0 rfl rfl (ob_fit_int _) 335 rfl hf (fun σ33 hf => ?_)
  refine vv_goto dX11_run_335 17 rfl ?_
  refine vv_sub [0, 1, 2] [(0, .ref (ad 0)), (1, .int v1), (2, .int v2)] rfl ?_
  exact hrec hf
set_option maxRecDepth 100000 in
set_option maxHeartbeats 4000000 in
theorem l_X11_run_17 {g : ob_GT} {ad : Nat → Nat} {r : Unit} {σ' : ob_St} : ∀ (n : Nat) {σ : ob_St} {v1 : Int32} {v2 : Int32}, L_X11_run_17 n σ v1 v2 = some (r, σ') → ob_V g (ob_M ad) mi_X11_run none σ' σ 17 [(0, .ref (ad 0)), (1, .int v1), (2, .int v2)] [] := by
  intro n
  induction n with
  | zero => intro σ v1 v2 hf; exact absurd hf (fun h => by cases h)
  | succ n ih =>
    intro σ v1 v2 hf
    refine vv_iload_n dX11_run_17 2 rfl rfl 18 rfl ?_
    refine vv_aload_n dX11_run_18 0 rfl rfl 19 rfl ?_
    refine vv_getI dX11_run_19 0 gf_X11_run_66 ob_m0 rfl rfl 22 rfl ?_
    refine vv_icmp_ge dX11_run_22 338 25 rfl rfl hf (fun hf => ?_) (fun hf => ?_)
    · exact vv_ret rfl dX11_run_338 hf
    · refine vv_aload_n dX11_run_25 0 rfl rfl 26 rfl ?_
      refine vv_getR dX11_run_26 6 gf_X11_run_25 ob_m0 rfl rfl 29 rfl ?_
      refine vv_iload_n dX11_run_29 2 rfl rfl 30 rfl ?_
      refine vv_iald dX11_run_30 ob_m6 rfl 31 rfl hf (fun v_4 hf => ?_)
      refine vv_iload_n dX11_run_31 1 rfl rfl 32 rfl ?_
      refine vv_icmp_ne dX11_run_32 74 35 rfl rfl hf (fun hf => ?_) (fun hf => ?_)
      · refine vv_aload_n dX11_run_74 0 rfl rfl 75 rfl ?_
        refine vv_getR dX11_run_75 7 gf_X11_run_28 ob_m0 rfl rfl 78 rfl ?_
        refine vv_iconst dX11_run_78 1 rfl 79 rfl ?_
        refine vv_iald dX11_run_79 ob_m7 rfl 80 rfl hf (fun v_5 hf => ?_)
        refine vv_istore_n dX11_run_80 [(3, .int v_5), (0, .ref (ad 0)), (1, .int v1), (2, .int v2)] rfl (Nat.le_of_ble_eq_true rfl) rfl 81 rfl ?_
        refine vv_iconst dX11_run_81 0 rfl 82 rfl ?_
        refine vv_istore dX11_run_82 [(4, .int 0), (3, .int v_5), (0, .ref (ad 0)), (1, .int v1), (2, .int v2)] (Nat.le_of_ble_eq_true rfl) rfl 84 rfl ?_
        refine vv_iload_n dX11_run_84 4 rfl rfl 85 rfl ?_
        refine vv_istore dX11_run_85 [(5, .int v2), (4, .int 0), (3, .int v_5), (0, .ref (ad 0)), (1, .int v1), (2, .int v2)] (Nat.le_of_ble_eq_true rfl) rfl 87 rfl ?_
        refine vv_iconst dX11_run_87 0 rfl 88 rfl ?_
        refine vv_istore dX11_run_88 [(6, .int 0), (5, .int v2), (4, .int 0), (3, .int v_5), (0, .ref (ad 0)), (1, .int v1), (2, .int v2)] (Nat.le_of_ble_eq_true rfl) rfl 90 rfl ?_
        refine vv_sub [4, 5, 6, 3, 2, 1, 0] [(0, .ref (ad 0)), (1, .int v1), (2, .int v2), (3, .int v_5), (4, .int 0), (5, .int v2), (6, .int 0)] rfl ?_
        obtain ⟨q19, σ20, hL, hf⟩ := ob_bdE hf
        refine l_X11_run_90 1000 hL ?_
        exact j_X11_run_255_17 ih hf
      · refine vv_aload_n dX11_run_35 0 rfl rfl 36 rfl ?_
        refine vv_getR dX11_run_36 19 gf_X11_run_52 ob_m0 rfl rfl 39 rfl ?_
        refine vv_aload_n dX11_run_39 0 rfl rfl 40 rfl ?_
        refine vv_getR dX11_run_40 6 gf_X11_run_25 ob_m0 rfl rfl 43 rfl ?_
        refine vv_iload_n dX11_run_43 2 rfl rfl 44 rfl ?_
        refine vv_iald dX11_run_44 ob_m6 rfl 45 rfl hf (fun v_34 hf => ?_)
        refine vv_aload_n dX11_run_45 0 rfl rfl 46 rfl ?_
        refine vv_getR dX11_run_46 7 gf_X11_run_28 ob_m0 rfl rfl 49 rfl ?_
        refine vv_iconst dX11_run_49 5 rfl 50 rfl ?_
        refine vv_iald dX11_run_50 ob_m7 rfl 51 rfl hf (fun v_35 hf => ?_)
        refine vv_bipush dX11_run_51 60 rfl 53 rfl ?_
        refine vv_iadd dX11_run_53 54 rfl ?_
        refine vv_iast dX11_run_54 ob_m15 rfl 55 rfl hf (fun σ36 hf => ?_)
        refine vv_aload_n dX11_run_55 0 rfl rfl 56 rfl ?_
        refine vv_getR dX11_run_56 20 gf_X11_run_55 ob_m0 rfl rfl 59 rfl ?_
        refine vv_aload_n dX11_run_59 0 rfl rfl 60 rfl ?_
        refine vv_getR dX11_run_60 6 gf_X11_run_25 ob_m0 rfl rfl 63 rfl ?_
        refine vv_iload_n dX11_run_63 2 rfl rfl 64 rfl ?_
        refine vv_iald dX11_run_64 ob_m6 rfl 65 rfl hf (fun v_37 hf => ?_)
        refine vv_bipush dX11_run_65 (-9) rfl 67 rfl ?_
        refine vv_iast dX11_run_67 ob_m16 rfl 68 rfl hf (fun σ38 hf => ?_)
        refine vv_iinc dX11_run_68 (v2 + 1) 2 [(2, .int (v2 + 1)), (0, .ref (ad 0)), (1, .int v1)] rfl rfl (Nat.le_of_ble_eq_true rfl) rfl 71 rfl ?_
        refine vv_goto dX11_run_71 17 rfl ?_
        refine vv_sub [1, 2, 0] [(0, .ref (ad 0)), (1, .int v1), (2, .int (v2 + 1))] rfl ?_
        exact ih hf
set_option maxRecDepth 100000 in
set_option maxHeartbeats 4000000 in
theorem c_X11_run {g : ob_GT} {ad : Nat → Nat} {r : Unit} {σ' : ob_St} {σ : ob_St} {p1 : Int32} (hf : f_X11_run σ p1 = some (r, σ')) : ob_CT g (ob_M ad) mi_X11_run [.ref (ad 0), .int p1] σ none σ' := by
  refine ob_ct (by decide +kernel) rfl (Nat.le_of_ble_eq_true rfl) ?_
  show ob_V g (ob_M ad) mi_X11_run none σ' σ 0 [(0, .ref (ad 0)), (1, .int p1)] []
  refine vv_aload_n dX11_run_0 0 rfl rfl 1 rfl ?_
  refine vv_iconst dX11_run_1 0 rfl 2 rfl ?_
  refine vv_putI dX11_run_2 21 pf_X11_run_136 ob_m0 rfl rfl (ob_fit_int _) 5 rfl hf (fun σ1 hf => ?_)
  refine vv_aload_n dX11_run_5 0 rfl rfl 6 rfl ?_
  refine vv_aload_n dX11_run_6 0 rfl rfl 7 rfl ?_
  refine vv_getR dX11_run_7 7 gf_X11_run_28 ob_m0 rfl rfl 10 rfl ?_
  refine vv_iconst dX11_run_10 5 rfl 11 rfl ?_
  refine vv_iald dX11_run_11 ob_m7 rfl 12 rfl hf (fun v_2 hf => ?_)
  refine vv_putI dX11_run_12 22 pf_X11_run_139 ob_m0 rfl rfl (ob_fit_int _) 15 rfl hf (fun σ3 hf => ?_)
  refine vv_iconst dX11_run_15 0 rfl 16 rfl ?_
  refine vv_istore_n dX11_run_16 [(2, .int 0), (0, .ref (ad 0)), (1, .int p1)] rfl (Nat.le_of_ble_eq_true rfl) rfl 17 rfl ?_
  refine vv_sub [1, 2, 0] [(0, .ref (ad 0)), (1, .int p1), (2, .int 0)] rfl ?_
  exact l_X11_run_17 1000 hf
abbrev mi_X11_begin : ob_MI := (yX11_begin, ob_ws yX11_begin cX11_begin 2 (some .int), cX11_begin, 2, (some .int), { frames := 0, cells := 0, slots := 0, locals := 0 })
theorem gf_X11_begin_31 : ob_GF mi_X11_begin 31 11 8 := ⟨RX11, TX11, 24, rfl, by decide, fun x h => List.mem_cons_of_mem _ (uw_X11 x h), List.mem_cons_of_mem _ tw_766⟩
noncomputable def f_X11_begin (σ : ob_St) (p1 : Int32) : Option (Int32 × ob_St) :=
  ob_ld σ 8 5 p1 fun v_1 =>
  some (((100 * p1) + v_1), σ)
set_option maxRecDepth 100000 in
set_option maxHeartbeats 4000000 in
theorem c_X11_begin {g : ob_GT} {ad : Nat → Nat} {r : Int32} {σ' : ob_St} {σ : ob_St} {p1 : Int32} (hf : f_X11_begin σ p1 = some (r, σ')) : ob_CT g (ob_M ad) mi_X11_begin [.ref (ad 0), .int p1] σ (some (.int r)) σ' := by
  refine ob_ct (by decide +kernel) rfl (Nat.le_of_ble_eq_true rfl) ?_
  show ob_V g (ob_M ad) mi_X11_begin (some (.int r)) σ' σ 0 [(0, .ref (ad 0)), (1, .int p1)] []
  refine vv_bipush dX11_begin_0 100 rfl 2 rfl ?_
  refine vv_iload_n dX11_begin_2 1 rfl rfl 3 rfl ?_
  refine vv_imul dX11_begin_3 4 rfl ?_
  refine vv_aload_n dX11_begin_4 0 rfl rfl 5 rfl ?_
  refine vv_getR dX11_begin_5 8 gf_X11_begin_31 ob_m0 rfl rfl 8 rfl ?_
  refine vv_iload_n dX11_begin_8 1 rfl rfl 9 rfl ?_
  refine vv_iald dX11_begin_9 ob_m8 rfl 10 rfl hf (fun v_1 hf => ?_)
  refine vv_iadd dX11_begin_10 11 rfl ?_
  exact vv_ireti rfl dX11_begin_11 hf
abbrev mi_X11_servedOf : ob_MI := (yX11_servedOf, ob_ws yX11_servedOf cX11_servedOf 2 (some .int), cX11_servedOf, 2, (some .int), { frames := 1, cells := 0, slots := 0, locals := 21 })
theorem gf_X11_servedOf_52 : ob_GF mi_X11_servedOf 52 11 19 := ⟨RX11, TX11, 24, rfl, by decide, fun x h => List.mem_cons_of_mem _ (uw_X11 x h), List.mem_cons_of_mem _ tw_777⟩
theorem gf_X11_servedOf_22 : ob_GF mi_X11_servedOf 22 11 5 := ⟨RX11, TX11, 24, rfl, by decide, fun x h => List.mem_cons_of_mem _ (uw_X11 x h), List.mem_cons_of_mem _ tw_763⟩
theorem cv_X11_servedOf_142 : ob_CV mi_X11_servedOf mi_X11_begin 142 RX11 1 := ob_cvI rfl rfl tw_945 tw_947 tw_33 tw_59 tw_948 ⟨rfl, rfl⟩ ⟨rfl, by decide +kernel, by decide +kernel, by decide +kernel⟩ ⟨Nat.le_of_ble_eq_true rfl, Nat.le_of_ble_eq_true rfl⟩
theorem mm_X11_servedOf_129 : ob_mm mi_X11_servedOf 129 Lib.Math.max.name (.code Lib.Math.max.name Lib.Math.max.code 2 (some .int)) := ⟨List.mem_cons_of_mem _ tw_923, List.mem_cons_of_mem _ tw_384, List.mem_cons_of_mem _ tw_64, List.mem_cons_of_mem _ tw_385⟩
noncomputable def f_X11_servedOf (σ : ob_St) (p1 : Int32) : Option (Int32 × ob_St) :=
  ob_ld σ 15 6 p1 fun v_1 =>
  ob_ld σ 5 6 p1 fun v_2 =>
  ob_bd (f_X11_begin σ v_2) fun r3 σ4 =>
  some ((ob_max v_1 r3), σ4)
set_option maxRecDepth 100000 in
set_option maxHeartbeats 4000000 in
theorem c_X11_servedOf {g : ob_GT} {ad : Nat → Nat} {r : Int32} {σ' : ob_St} {σ : ob_St} {p1 : Int32} (hf : f_X11_servedOf σ p1 = some (r, σ')) : ob_CT g (ob_M ad) mi_X11_servedOf [.ref (ad 0), .int p1] σ (some (.int r)) σ' := by
  refine ob_ct (by decide +kernel) rfl (Nat.le_of_ble_eq_true rfl) ?_
  show ob_V g (ob_M ad) mi_X11_servedOf (some (.int r)) σ' σ 0 [(0, .ref (ad 0)), (1, .int p1)] []
  refine vv_aload_n dX11_servedOf_0 0 rfl rfl 1 rfl ?_
  refine vv_getR dX11_servedOf_1 19 gf_X11_servedOf_52 ob_m0 rfl rfl 4 rfl ?_
  refine vv_iload_n dX11_servedOf_4 1 rfl rfl 5 rfl ?_
  refine vv_iald dX11_servedOf_5 ob_m15 rfl 6 rfl hf (fun v_1 hf => ?_)
  refine vv_aload_n dX11_servedOf_6 0 rfl rfl 7 rfl ?_
  refine vv_aload_n dX11_servedOf_7 0 rfl rfl 8 rfl ?_
  refine vv_getR dX11_servedOf_8 5 gf_X11_servedOf_22 ob_m0 rfl rfl 11 rfl ?_
  refine vv_iload_n dX11_servedOf_11 1 rfl rfl 12 rfl ?_
  refine vv_iald dX11_servedOf_12 ob_m5 rfl 13 rfl hf (fun v_2 hf => ?_)
  refine vv_callV [.int v_2] [.int v_1] (fun _ _ h => c_X11_begin h) (ob_rec ob_m0 rfl rfl) cv_X11_servedOf_142 rfl (Nat.le_of_ble_eq_true rfl) 16 rfl dX11_servedOf_13 rfl hf (fun r3 σ4 hf => ?_)
  refine vv_max dX11_servedOf_16 mm_X11_servedOf_129 (Nat.le_of_ble_eq_true rfl) (Nat.le_of_ble_eq_true rfl) 19 rfl ?_
  exact vv_ireti rfl dX11_servedOf_19 hf
abbrev mi_X11_cools : ob_MI := (yX11_cools, ob_ws yX11_cools cX11_cools 3 (some .int), cX11_cools, 3, (some .int), { frames := 0, cells := 0, slots := 0, locals := 0 })
theorem gf_X11_cools_7 : ob_GF mi_X11_cools 7 11 1 := ⟨RX11, TX11, 24, rfl, by decide, fun x h => List.mem_cons_of_mem _ (uw_X11 x h), List.mem_cons_of_mem _ tw_759⟩
noncomputable def J_X11_cools_36 (σ : ob_St) (v2 : Int32) : Option (Int32 × ob_St) :=
  some (((v2 / 10) / 2), σ)
noncomputable def f_X11_cools (σ : ob_St) (p1 : Int32) (p2 : Int32) : Option (Int32 × ob_St) :=
  ob_ld σ 1 6 p1 fun v_1 =>
  if v_1 = 2 then
    J_X11_cools_36 σ p2
  else
  if v_1 = 3 then
    some (0, σ)
  else
  if v_1 = 4 then
    J_X11_cools_36 σ p2
  else
  if v_1 = 5 then
    some (((p2 / 10) + 1), σ)
  else
    some ((p2 / 10), σ)
set_option maxRecDepth 100000 in
set_option maxHeartbeats 4000000 in
theorem j_X11_cools_36 {g : ob_GT} {ad : Nat → Nat} {r : Int32} {σ' : ob_St} {σ : ob_St} {v2 : Int32} (hf : J_X11_cools_36 σ v2 = some (r, σ')) : ob_V g (ob_M ad) mi_X11_cools (some (.int r)) σ' σ 36 [(2, .int v2)] [] := by
  refine vv_iload_n dX11_cools_36 0 rfl rfl 37 rfl ?_
  refine vv_bipush dX11_cools_37 10 rfl 39 rfl ?_
  refine vv_idiv dX11_cools_39 (by decide) 40 rfl ?_
  refine vv_iconst dX11_cools_40 2 rfl 41 rfl ?_
  refine vv_idiv dX11_cools_41 (by decide) 42 rfl ?_
  exact vv_ireti rfl dX11_cools_42 hf
set_option maxRecDepth 100000 in
set_option maxHeartbeats 4000000 in
theorem c_X11_cools {g : ob_GT} {ad : Nat → Nat} {r : Int32} {σ' : ob_St} {σ : ob_St} {p1 : Int32} {p2 : Int32} (hf : f_X11_cools σ p1 p2 = some (r, σ')) : ob_CT g (ob_M ad) mi_X11_cools [.ref (ad 0), .int p1, .int p2] σ (some (.int r)) σ' := by
  refine ob_ct (by decide +kernel) rfl (Nat.le_of_ble_eq_true rfl) ?_
  show ob_V g (ob_M ad) mi_X11_cools (some (.int r)) σ' σ 0 [(0, .ref (ad 0)), (1, .int p1), (2, .int p2)] []
  refine vv_aload_n dX11_cools_0 0 rfl rfl 1 rfl ?_
  refine vv_getR dX11_cools_1 1 gf_X11_cools_7 ob_m0 rfl rfl 4 rfl ?_
  refine vv_iload_n dX11_cools_4 1 rfl rfl 5 rfl ?_
  refine vv_iald dX11_cools_5 ob_m1 rfl 6 rfl hf (fun v_1 hf => ?_)
  refine vv_case 2 hf (fun hf => ?_) (fun nh0 hf => ?_)
  · refine vv_tabIn dX11_cools_6 36 (by decide) (by decide) rfl rfl ?_
    refine vv_sub [2] [(2, .int p2)] rfl ?_
    exact j_X11_cools_36 hf
  refine vv_case 3 hf (fun hf => ?_) (fun nh1 hf => ?_)
  · refine vv_tabIn dX11_cools_6 43 (by decide) (by decide) rfl rfl ?_
    refine vv_iconst dX11_cools_43 0 rfl 44 rfl ?_
    exact vv_ireti rfl dX11_cools_44 hf
  refine vv_case 4 hf (fun hf => ?_) (fun nh2 hf => ?_)
  · refine vv_tabIn dX11_cools_6 36 (by decide) (by decide) rfl rfl ?_
    refine vv_sub [2] [(2, .int p2)] rfl ?_
    exact j_X11_cools_36 hf
  refine vv_case 5 hf (fun hf => ?_) (fun nh3 hf => ?_)
  · refine vv_tabIn dX11_cools_6 45 (by decide) (by decide) rfl rfl ?_
    refine vv_iload_n dX11_cools_45 2 rfl rfl 46 rfl ?_
    refine vv_bipush dX11_cools_46 10 rfl 48 rfl ?_
    refine vv_idiv dX11_cools_48 (by decide) 49 rfl ?_
    refine vv_iconst dX11_cools_49 1 rfl 50 rfl ?_
    refine vv_iadd dX11_cools_50 51 rfl ?_
    exact vv_ireti rfl dX11_cools_51 hf
  refine vv_tabOut dX11_cools_6 52 (by have z0 := ob_neI nh0 (a := 2) rfl; have z1 := ob_neI nh1 (a := 3) rfl; have z2 := ob_neI nh2 (a := 4) rfl; have z3 := ob_neI nh3 (a := 5) rfl; omega) rfl ?_
  refine vv_iload_n dX11_cools_52 2 rfl rfl 53 rfl ?_
  refine vv_bipush dX11_cools_53 10 rfl 55 rfl ?_
  refine vv_idiv dX11_cools_55 (by decide) 56 rfl ?_
  exact vv_ireti rfl dX11_cools_56 hf
abbrev mi_X11_slops : ob_MI := (yX11_slops, ob_ws yX11_slops cX11_slops 2 (some .int), cX11_slops, 2, (some .int), { frames := 0, cells := 0, slots := 0, locals := 0 })
theorem gf_X11_slops_7 : ob_GF mi_X11_slops 7 11 1 := ⟨RX11, TX11, 24, rfl, by decide, fun x h => List.mem_cons_of_mem _ (uw_X11 x h), List.mem_cons_of_mem _ tw_759⟩
theorem gf_X11_slops_28 : ob_GF mi_X11_slops 28 11 7 := ⟨RX11, TX11, 24, rfl, by decide, fun x h => List.mem_cons_of_mem _ (uw_X11 x h), List.mem_cons_of_mem _ tw_765⟩
noncomputable def f_X11_slops (σ : ob_St) (p1 : Int32) : Option (Int32 × ob_St) :=
  ob_ld σ 1 6 p1 fun v_1 =>
  if v_1 = 1 then
    ob_ld σ 7 6 4 fun v_2 =>
    some ((4 * v_2), σ)
  else
  if v_1 = 4 then
    ob_ld σ 7 6 4 fun v_3 =>
    some (((4 * v_3) + 1), σ)
  else
    some (0, σ)
set_option maxRecDepth 100000 in
set_option maxHeartbeats 4000000 in
theorem c_X11_slops {g : ob_GT} {ad : Nat → Nat} {r : Int32} {σ' : ob_St} {σ : ob_St} {p1 : Int32} (hf : f_X11_slops σ p1 = some (r, σ')) : ob_CT g (ob_M ad) mi_X11_slops [.ref (ad 0), .int p1] σ (some (.int r)) σ' := by
  refine ob_ct (by decide +kernel) rfl (Nat.le_of_ble_eq_true rfl) ?_
  show ob_V g (ob_M ad) mi_X11_slops (some (.int r)) σ' σ 0 [(0, .ref (ad 0)), (1, .int p1)] []
  refine vv_aload_n dX11_slops_0 0 rfl rfl 1 rfl ?_
  refine vv_getR dX11_slops_1 1 gf_X11_slops_7 ob_m0 rfl rfl 4 rfl ?_
  refine vv_iload_n dX11_slops_4 1 rfl rfl 5 rfl ?_
  refine vv_iald dX11_slops_5 ob_m1 rfl 6 rfl hf (fun v_1 hf => ?_)
  refine vv_case 1 hf (fun hf => ?_) (fun nh0 hf => ?_)
  · refine vv_look dX11_slops_6 32 (by decide) rfl rfl ?_
    refine vv_iconst dX11_slops_32 4 rfl 33 rfl ?_
    refine vv_aload_n dX11_slops_33 0 rfl rfl 34 rfl ?_
    refine vv_getR dX11_slops_34 7 gf_X11_slops_28 ob_m0 rfl rfl 37 rfl ?_
    refine vv_iconst dX11_slops_37 4 rfl 38 rfl ?_
    refine vv_iald dX11_slops_38 ob_m7 rfl 39 rfl hf (fun v_2 hf => ?_)
    refine vv_imul dX11_slops_39 40 rfl ?_
    exact vv_ireti rfl dX11_slops_40 hf
  refine vv_case 4 hf (fun hf => ?_) (fun nh1 hf => ?_)
  · refine vv_look dX11_slops_6 41 (by decide) rfl rfl ?_
    refine vv_iconst dX11_slops_41 4 rfl 42 rfl ?_
    refine vv_aload_n dX11_slops_42 0 rfl rfl 43 rfl ?_
    refine vv_getR dX11_slops_43 7 gf_X11_slops_28 ob_m0 rfl rfl 46 rfl ?_
    refine vv_iconst dX11_slops_46 4 rfl 47 rfl ?_
    refine vv_iald dX11_slops_47 ob_m7 rfl 48 rfl hf (fun v_3 hf => ?_)
    refine vv_imul dX11_slops_48 49 rfl ?_
    refine vv_iconst dX11_slops_49 1 rfl 50 rfl ?_
    refine vv_iadd dX11_slops_50 51 rfl ?_
    exact vv_ireti rfl dX11_slops_51 hf
  refine vv_look dX11_slops_6 52 (by decide) (off := 46) (by show Op.lookupswitch.offset [(1, 26), (4, 35)] 46 _ = 46; rw [lv_osw (a := 1) nh0 rfl, lv_osw (a := 4) nh1 rfl]; rfl) rfl ?_
  refine vv_iconst dX11_slops_52 0 rfl 53 rfl ?_
  exact vv_ireti rfl dX11_slops_53 hf
abbrev mi_X11_warmOf : ob_MI := (yX11_warmOf, ob_ws yX11_warmOf cX11_warmOf 2 (some .int), cX11_warmOf, 2, (some .int), { frames := 2, cells := 0, slots := 0, locals := 42 })
theorem gf_X11_warmOf_16 : ob_GF mi_X11_warmOf 16 11 3 := ⟨RX11, TX11, 24, rfl, by decide, fun x h => List.mem_cons_of_mem _ (uw_X11 x h), List.mem_cons_of_mem _ tw_761⟩
theorem cv_X11_warmOf_145 : ob_CV mi_X11_warmOf mi_X11_servedOf 145 RX11 1 := ob_cvI rfl rfl tw_953 tw_955 tw_35 tw_59 tw_956 ⟨rfl, rfl⟩ ⟨rfl, by decide +kernel, by decide +kernel, by decide +kernel⟩ ⟨Nat.le_of_ble_eq_true rfl, Nat.le_of_ble_eq_true rfl⟩
theorem cv_X11_warmOf_148 : ob_CV mi_X11_warmOf mi_X11_cools 148 RX11 2 := ob_cvI rfl rfl tw_957 tw_959 tw_36 tw_59 tw_960 ⟨rfl, rfl⟩ ⟨rfl, by decide +kernel, by decide +kernel, by decide +kernel⟩ ⟨Nat.le_of_ble_eq_true rfl, Nat.le_of_ble_eq_true rfl⟩
theorem mm_X11_warmOf_129 : ob_mm mi_X11_warmOf 129 Lib.Math.max.name (.code Lib.Math.max.name Lib.Math.max.code 2 (some .int)) := ⟨List.mem_cons_of_mem _ tw_923, List.mem_cons_of_mem _ tw_384, List.mem_cons_of_mem _ tw_64, List.mem_cons_of_mem _ tw_385⟩
noncomputable def f_X11_warmOf (σ : ob_St) (p1 : Int32) : Option (Int32 × ob_St) :=
  ob_ld σ 3 6 p1 fun v_1 =>
  ob_bd (f_X11_servedOf σ p1) fun r2 σ3 =>
  ob_bd (f_X11_cools σ3 p1 r2) fun r4 σ5 =>
  some ((ob_max 0 (v_1 - r4)), σ5)
set_option maxRecDepth 100000 in
set_option maxHeartbeats 4000000 in
theorem c_X11_warmOf {g : ob_GT} {ad : Nat → Nat} {r : Int32} {σ' : ob_St} {σ : ob_St} {p1 : Int32} (hf : f_X11_warmOf σ p1 = some (r, σ')) : ob_CT g (ob_M ad) mi_X11_warmOf [.ref (ad 0), .int p1] σ (some (.int r)) σ' := by
  refine ob_ct (by decide +kernel) rfl (Nat.le_of_ble_eq_true rfl) ?_
  show ob_V g (ob_M ad) mi_X11_warmOf (some (.int r)) σ' σ 0 [(0, .ref (ad 0)), (1, .int p1)] []
  refine vv_iconst dX11_warmOf_0 0 rfl 1 rfl ?_
  refine vv_aload_n dX11_warmOf_1 0 rfl rfl 2 rfl ?_
  refine vv_getR dX11_warmOf_2 3 gf_X11_warmOf_16 ob_m0 rfl rfl 5 rfl ?_
  refine vv_iload_n dX11_warmOf_5 1 rfl rfl 6 rfl ?_
  refine vv_iald dX11_warmOf_6 ob_m3 rfl 7 rfl hf (fun v_1 hf => ?_)
  refine vv_aload_n dX11_warmOf_7 0 rfl rfl 8 rfl ?_
  refine vv_iload_n dX11_warmOf_8 1 rfl rfl 9 rfl ?_
  refine vv_aload_n dX11_warmOf_9 0 rfl rfl 10 rfl ?_
  refine vv_iload_n dX11_warmOf_10 1 rfl rfl 11 rfl ?_
  refine vv_callV [.int p1] [.int p1, .ref (ad 0), .int v_1, .int 0] (fun _ _ h => c_X11_servedOf h) (ob_rec ob_m0 rfl rfl) cv_X11_warmOf_145 rfl (Nat.le_of_ble_eq_true rfl) 14 rfl dX11_warmOf_11 rfl hf (fun r2 σ3 hf => ?_)
  refine vv_callV [.int p1, .int r2] [.int v_1, .int 0] (fun _ _ h => c_X11_cools h) (ob_rec ob_m0 rfl rfl) cv_X11_warmOf_148 rfl (Nat.le_of_ble_eq_true rfl) 17 rfl dX11_warmOf_14 rfl hf (fun r4 σ5 hf => ?_)
  refine vv_isub dX11_warmOf_17 18 rfl ?_
  refine vv_max dX11_warmOf_18 mm_X11_warmOf_129 (Nat.le_of_ble_eq_true rfl) (Nat.le_of_ble_eq_true rfl) 21 rfl ?_
  exact vv_ireti rfl dX11_warmOf_21 hf
abbrev mi_X11_lateOf : ob_MI := (yX11_lateOf, ob_ws yX11_lateOf cX11_lateOf 2 (some .int), cX11_lateOf, 2, (some .int), { frames := 1, cells := 0, slots := 0, locals := 21 })
theorem gf_X11_lateOf_52 : ob_GF mi_X11_lateOf 52 11 19 := ⟨RX11, TX11, 24, rfl, by decide, fun x h => List.mem_cons_of_mem _ (uw_X11 x h), List.mem_cons_of_mem _ tw_777⟩
theorem gf_X11_lateOf_22 : ob_GF mi_X11_lateOf 22 11 5 := ⟨RX11, TX11, 24, rfl, by decide, fun x h => List.mem_cons_of_mem _ (uw_X11 x h), List.mem_cons_of_mem _ tw_763⟩
theorem cv_X11_lateOf_142 : ob_CV mi_X11_lateOf mi_X11_begin 142 RX11 1 := ob_cvI rfl rfl tw_945 tw_947 tw_33 tw_59 tw_948 ⟨rfl, rfl⟩ ⟨rfl, by decide +kernel, by decide +kernel, by decide +kernel⟩ ⟨Nat.le_of_ble_eq_true rfl, Nat.le_of_ble_eq_true rfl⟩
theorem mm_X11_lateOf_129 : ob_mm mi_X11_lateOf 129 Lib.Math.max.name (.code Lib.Math.max.name Lib.Math.max.code 2 (some .int)) := ⟨List.mem_cons_of_mem _ tw_923, List.mem_cons_of_mem _ tw_384, List.mem_cons_of_mem _ tw_64, List.mem_cons_of_mem _ tw_385⟩
noncomputable def f_X11_lateOf (σ : ob_St) (p1 : Int32) : Option (Int32 × ob_St) :=
  ob_ld σ 15 6 p1 fun v_1 =>
  ob_ld σ 5 6 p1 fun v_2 =>
  ob_bd (f_X11_begin σ v_2) fun r3 σ4 =>
  some ((ob_max 0 (v_1 - r3)), σ4)
set_option maxRecDepth 100000 in
set_option maxHeartbeats 4000000 in
theorem c_X11_lateOf {g : ob_GT} {ad : Nat → Nat} {r : Int32} {σ' : ob_St} {σ : ob_St} {p1 : Int32} (hf : f_X11_lateOf σ p1 = some (r, σ')) : ob_CT g (ob_M ad) mi_X11_lateOf [.ref (ad 0), .int p1] σ (some (.int r)) σ' := by
  refine ob_ct (by decide +kernel) rfl (Nat.le_of_ble_eq_true rfl) ?_
  show ob_V g (ob_M ad) mi_X11_lateOf (some (.int r)) σ' σ 0 [(0, .ref (ad 0)), (1, .int p1)] []
  refine vv_iconst dX11_lateOf_0 0 rfl 1 rfl ?_
  refine vv_aload_n dX11_lateOf_1 0 rfl rfl 2 rfl ?_
  refine vv_getR dX11_lateOf_2 19 gf_X11_lateOf_52 ob_m0 rfl rfl 5 rfl ?_
  refine vv_iload_n dX11_lateOf_5 1 rfl rfl 6 rfl ?_
  refine vv_iald dX11_lateOf_6 ob_m15 rfl 7 rfl hf (fun v_1 hf => ?_)
  refine vv_aload_n dX11_lateOf_7 0 rfl rfl 8 rfl ?_
  refine vv_aload_n dX11_lateOf_8 0 rfl rfl 9 rfl ?_
  refine vv_getR dX11_lateOf_9 5 gf_X11_lateOf_22 ob_m0 rfl rfl 12 rfl ?_
  refine vv_iload_n dX11_lateOf_12 1 rfl rfl 13 rfl ?_
  refine vv_iald dX11_lateOf_13 ob_m5 rfl 14 rfl hf (fun v_2 hf => ?_)
  refine vv_callV [.int v_2] [.int v_1, .int 0] (fun _ _ h => c_X11_begin h) (ob_rec ob_m0 rfl rfl) cv_X11_lateOf_142 rfl (Nat.le_of_ble_eq_true rfl) 17 rfl dX11_lateOf_14 rfl hf (fun r3 σ4 hf => ?_)
  refine vv_isub dX11_lateOf_17 18 rfl ?_
  refine vv_max dX11_lateOf_18 mm_X11_lateOf_129 (Nat.le_of_ble_eq_true rfl) (Nat.le_of_ble_eq_true rfl) 21 rfl ?_
  exact vv_ireti rfl dX11_lateOf_21 hf
abbrev mi_X11_stoodOf : ob_MI := (yX11_stoodOf, ob_ws yX11_stoodOf cX11_stoodOf 2 (some .int), cX11_stoodOf, 2, (some .int), { frames := 2, cells := 0, slots := 0, locals := 42 })
theorem cv_X11_stoodOf_145 : ob_CV mi_X11_stoodOf mi_X11_servedOf 145 RX11 1 := ob_cvI rfl rfl tw_953 tw_955 tw_35 tw_59 tw_956 ⟨rfl, rfl⟩ ⟨rfl, by decide +kernel, by decide +kernel, by decide +kernel⟩ ⟨Nat.le_of_ble_eq_true rfl, Nat.le_of_ble_eq_true rfl⟩
theorem gf_X11_stoodOf_52 : ob_GF mi_X11_stoodOf 52 11 19 := ⟨RX11, TX11, 24, rfl, by decide, fun x h => List.mem_cons_of_mem _ (uw_X11 x h), List.mem_cons_of_mem _ tw_777⟩
noncomputable def f_X11_stoodOf (σ : ob_St) (p1 : Int32) : Option (Int32 × ob_St) :=
  ob_bd (f_X11_servedOf σ p1) fun r1 σ2 =>
  ob_ld σ2 15 6 p1 fun v_3 =>
  some ((r1 - v_3), σ2)
set_option maxRecDepth 100000 in
set_option maxHeartbeats 4000000 in
theorem c_X11_stoodOf {g : ob_GT} {ad : Nat → Nat} {r : Int32} {σ' : ob_St} {σ : ob_St} {p1 : Int32} (hf : f_X11_stoodOf σ p1 = some (r, σ')) : ob_CT g (ob_M ad) mi_X11_stoodOf [.ref (ad 0), .int p1] σ (some (.int r)) σ' := by
  refine ob_ct (by decide +kernel) rfl (Nat.le_of_ble_eq_true rfl) ?_
  show ob_V g (ob_M ad) mi_X11_stoodOf (some (.int r)) σ' σ 0 [(0, .ref (ad 0)), (1, .int p1)] []
  refine vv_aload_n dX11_stoodOf_0 0 rfl rfl 1 rfl ?_
  refine vv_iload_n dX11_stoodOf_1 1 rfl rfl 2 rfl ?_
  refine vv_callV [.int p1] [] (fun _ _ h => c_X11_servedOf h) (ob_rec ob_m0 rfl rfl) cv_X11_stoodOf_145 rfl (Nat.le_of_ble_eq_true rfl) 5 rfl dX11_stoodOf_2 rfl hf (fun r1 σ2 hf => ?_)
  refine vv_aload_n dX11_stoodOf_5 0 rfl rfl 6 rfl ?_
  refine vv_getR dX11_stoodOf_6 19 gf_X11_stoodOf_52 ob_m0 rfl rfl 9 rfl ?_
  refine vv_iload_n dX11_stoodOf_9 1 rfl rfl 10 rfl ?_
  refine vv_iald dX11_stoodOf_10 ob_m15 rfl 11 rfl hf (fun v_3 hf => ?_)
  refine vv_isub dX11_stoodOf_11 12 rfl ?_
  exact vv_ireti rfl dX11_stoodOf_12 hf
abbrev mi_X11_totalOf : ob_MI := (yX11_totalOf, ob_ws yX11_totalOf cX11_totalOf 4 (some .int), cX11_totalOf, 4, (some .int), { frames := 3, cells := 0, slots := 0, locals := 63 })
theorem gf_X11_totalOf_66 : ob_GF mi_X11_totalOf 66 11 0 := ⟨RX11, TX11, 24, rfl, by decide, fun x h => List.mem_cons_of_mem _ (uw_X11 x h), List.mem_cons_of_mem _ tw_758⟩
theorem gf_X11_totalOf_136 : ob_GF mi_X11_totalOf 136 11 21 := ⟨RX11, TX11, 24, rfl, by decide, fun x h => List.mem_cons_of_mem _ (uw_X11 x h), List.mem_cons_of_mem _ tw_779⟩
theorem gf_X11_totalOf_139 : ob_GF mi_X11_totalOf 139 11 22 := ⟨RX11, TX11, 24, rfl, by decide, fun x h => List.mem_cons_of_mem _ (uw_X11 x h), List.mem_cons_of_mem _ tw_780⟩
theorem cv_X11_totalOf_151 : ob_CV mi_X11_totalOf mi_X11_lateOf 151 RX11 1 := ob_cvI rfl rfl tw_941 tw_943 tw_32 tw_59 tw_944 ⟨rfl, rfl⟩ ⟨rfl, by decide +kernel, by decide +kernel, by decide +kernel⟩ ⟨Nat.le_of_ble_eq_true rfl, Nat.le_of_ble_eq_true rfl⟩
theorem mm_X11_totalOf_129 : ob_mm mi_X11_totalOf 129 Lib.Math.max.name (.code Lib.Math.max.name Lib.Math.max.code 2 (some .int)) := ⟨List.mem_cons_of_mem _ tw_923, List.mem_cons_of_mem _ tw_384, List.mem_cons_of_mem _ tw_64, List.mem_cons_of_mem _ tw_385⟩
theorem cv_X11_totalOf_154 : ob_CV mi_X11_totalOf mi_X11_warmOf 154 RX11 1 := ob_cvI rfl rfl tw_949 tw_951 tw_34 tw_59 tw_952 ⟨rfl, rfl⟩ ⟨rfl, by decide +kernel, by decide +kernel, by decide +kernel⟩ ⟨Nat.le_of_ble_eq_true rfl, Nat.le_of_ble_eq_true rfl⟩
theorem cv_X11_totalOf_157 : ob_CV mi_X11_totalOf mi_X11_slops 157 RX11 1 := ob_cvI rfl rfl tw_961 tw_963 tw_37 tw_59 tw_964 ⟨rfl, rfl⟩ ⟨rfl, by decide +kernel, by decide +kernel, by decide +kernel⟩ ⟨Nat.le_of_ble_eq_true rfl, Nat.le_of_ble_eq_true rfl⟩
theorem cv_X11_totalOf_160 : ob_CV mi_X11_totalOf mi_X11_stoodOf 160 RX11 1 := ob_cvI rfl rfl tw_965 tw_967 tw_38 tw_59 tw_968 ⟨rfl, rfl⟩ ⟨rfl, by decide +kernel, by decide +kernel, by decide +kernel⟩ ⟨Nat.le_of_ble_eq_true rfl, Nat.le_of_ble_eq_true rfl⟩
noncomputable def L_X11_totalOf_4 : Nat → ob_St → Int32 → Int32 → Int32 → Option (Int32 × ob_St)
  | 0, _, _, _, _ => none
  | n + 1, σ, v1, v2, v3 =>
    if (σ 0 0) ≤ v3 then
      if v1 = 5 then
        some ((σ 0 22), σ)
      else
        if v1 = 6 then
          some ((σ 0 21), σ)
        else
          some (v2, σ)
    else
      if v1 = 0 then
        ob_bd (f_X11_lateOf σ v3) fun r1 σ2 =>
        ob_nm (v2 + r1) fun v_3 =>
        L_X11_totalOf_4 n σ2 v1 v_3 (v3 + 1)
      else
      if v1 = 1 then
        ob_bd (f_X11_lateOf σ v3) fun r4 σ5 =>
        ob_nm (ob_max v2 r4) fun v_6 =>
        L_X11_totalOf_4 n σ5 v1 v_6 (v3 + 1)
      else
      if v1 = 2 then
        ob_bd (f_X11_warmOf σ v3) fun r7 σ8 =>
        ob_nm (v2 + r7) fun v_9 =>
        L_X11_totalOf_4 n σ8 v1 v_9 (v3 + 1)
      else
      if v1 = 3 then
        ob_bd (f_X11_slops σ v3) fun r10 σ11 =>
        ob_nm (v2 + r10) fun v_12 =>
        L_X11_totalOf_4 n σ11 v1 v_12 (v3 + 1)
      else
      if v1 = 4 then
        ob_bd (f_X11_stoodOf σ v3) fun r13 σ14 =>
        ob_nm (v2 + r13) fun v_15 =>
        L_X11_totalOf_4 n σ14 v1 v_15 (v3 + 1)
      else
      if v1 = 5 then
        L_X11_totalOf_4 n σ v1 v2 (v3 + 1)
      else
      if v1 = 6 then
        L_X11_totalOf_4 n σ v1 v2 (v3 + 1)
      else
      if v1 = 7 then
        ob_bd (f_X11_warmOf σ v3) fun r16 σ17 =>
        ob_bd (f_X11_lateOf σ17 v3) fun r18 σ19 =>
        ob_bd (f_X11_slops σ19 v3) fun r20 σ21 =>
        ob_nm (v2 + ((r16 - r18) - (5 * r20))) fun v_22 =>
        L_X11_totalOf_4 n σ21 v1 v_22 (v3 + 1)
      else
        L_X11_totalOf_4 n σ v1 v2 (v3 + 1)
noncomputable def f_X11_totalOf (σ : ob_St) (p1 : Int32) : Option (Int32 × ob_St) :=
  L_X11_totalOf_4 1000 σ p1 0 0
set_option maxRecDepth 100000 in
set_option maxHeartbeats 4000000 in
theorem l_X11_totalOf_4 {g : ob_GT} {ad : Nat → Nat} {r : Int32} {σ' : ob_St} : ∀ (n : Nat) {σ : ob_St} {v1 : Int32} {v2 : Int32} {v3 : Int32}, L_X11_totalOf_4 n σ v1 v2 v3 = some (r, σ') → ob_V g (ob_M ad) mi_X11_totalOf (some (.int r)) σ' σ 4 [(0, .ref (ad 0)), (1, .int v1), (2, .int v2), (3, .int v3)] [] := by
  intro n
  induction n with
  | zero => intro σ v1 v2 v3 hf; exact absurd hf (fun h => by cases h)
  | succ n ih =>
    intro σ v1 v2 v3 hf
    refine vv_iload_n dX11_totalOf_4 3 rfl rfl 5 rfl ?_
    refine vv_aload_n dX11_totalOf_5 0 rfl rfl 6 rfl ?_
    refine vv_getI dX11_totalOf_6 0 gf_X11_totalOf_66 ob_m0 rfl rfl 9 rfl ?_
    refine vv_icmp_ge dX11_totalOf_9 148 12 rfl rfl hf (fun hf => ?_) (fun hf => ?_)
    · refine vv_iload_n dX11_totalOf_148 1 rfl rfl 149 rfl ?_
      refine vv_iconst dX11_totalOf_149 5 rfl 150 rfl ?_
      refine vv_icmp_ne dX11_totalOf_150 160 153 rfl rfl hf (fun hf => ?_) (fun hf => ?_)
      · refine vv_iload_n dX11_totalOf_160 1 rfl rfl 161 rfl ?_
        refine vv_bipush dX11_totalOf_161 6 rfl 163 rfl ?_
        refine vv_icmp_ne dX11_totalOf_163 173 166 rfl rfl hf (fun hf => ?_) (fun hf => ?_)
        · refine vv_iload_n dX11_totalOf_173 2 rfl rfl 174 rfl ?_
          exact vv_ireti rfl dX11_totalOf_174 hf
        · refine vv_aload_n dX11_totalOf_166 0 rfl rfl 167 rfl ?_
          refine vv_getI dX11_totalOf_167 21 gf_X11_totalOf_136 ob_m0 rfl rfl 170 rfl ?_
          refine vv_goto dX11_totalOf_170 174 rfl ?_
          exact vv_ireti rfl dX11_totalOf_174 hf
      · refine vv_aload_n dX11_totalOf_153 0 rfl rfl 154 rfl ?_
        refine vv_getI dX11_totalOf_154 22 gf_X11_totalOf_139 ob_m0 rfl rfl 157 rfl ?_
        refine vv_goto dX11_totalOf_157 174 rfl ?_
        exact vv_ireti rfl dX11_totalOf_174 hf
    · refine vv_iload_n dX11_totalOf_12 1 rfl rfl 13 rfl ?_
      refine vv_case 0 hf (fun hf => ?_) (fun nh0 hf => ?_)
      · refine vv_tabIn dX11_totalOf_13 60 (by decide) (by decide) rfl rfl ?_
        refine vv_iload_n dX11_totalOf_60 2 rfl rfl 61 rfl ?_
        refine vv_aload_n dX11_totalOf_61 0 rfl rfl 62 rfl ?_
        refine vv_iload_n dX11_totalOf_62 3 rfl rfl 63 rfl ?_
        refine vv_callV [.int v3] [.int v2] (fun _ _ h => c_X11_lateOf h) (ob_rec ob_m0 rfl rfl) cv_X11_totalOf_151 rfl (Nat.le_of_ble_eq_true rfl) 66 rfl dX11_totalOf_63 rfl hf (fun r1 σ2 hf => ?_)
        refine vv_iadd dX11_totalOf_66 67 rfl ?_
        refine vv_nm hf (fun v_3 hf => ?_)
        refine vv_istore_n dX11_totalOf_67 [(2, .int v_3), (0, .ref (ad 0)), (1, .int v1), (3, .int v3)] rfl (Nat.le_of_ble_eq_true rfl) rfl 68 rfl ?_
        refine vv_goto dX11_totalOf_68 142 rfl ?_
        refine vv_iinc dX11_totalOf_142 (v3 + 1) 3 [(3, .int (v3 + 1)), (2, .int v_3), (0, .ref (ad 0)), (1, .int v1)] rfl rfl (Nat.le_of_ble_eq_true rfl) rfl 145 rfl ?_
        refine vv_goto dX11_totalOf_145 4 rfl ?_
        refine vv_sub [2, 3, 1, 0] [(0, .ref (ad 0)), (1, .int v1), (2, .int v_3), (3, .int (v3 + 1))] rfl ?_
        exact ih hf
      refine vv_case 1 hf (fun hf => ?_) (fun nh1 hf => ?_)
      · refine vv_tabIn dX11_totalOf_13 71 (by decide) (by decide) rfl rfl ?_
        refine vv_iload_n dX11_totalOf_71 2 rfl rfl 72 rfl ?_
        refine vv_aload_n dX11_totalOf_72 0 rfl rfl 73 rfl ?_
        refine vv_iload_n dX11_totalOf_73 3 rfl rfl 74 rfl ?_
        refine vv_callV [.int v3] [.int v2] (fun _ _ h => c_X11_lateOf h) (ob_rec ob_m0 rfl rfl) cv_X11_totalOf_151 rfl (Nat.le_of_ble_eq_true rfl) 77 rfl dX11_totalOf_74 rfl hf (fun r4 σ5 hf => ?_)
        refine vv_max dX11_totalOf_77 mm_X11_totalOf_129 (Nat.le_of_ble_eq_true rfl) (Nat.le_of_ble_eq_true rfl) 80 rfl ?_
        refine vv_nm hf (fun v_6 hf => ?_)
        refine vv_istore_n dX11_totalOf_80 [(2, .int v_6), (0, .ref (ad 0)), (1, .int v1), (3, .int v3)] rfl (Nat.le_of_ble_eq_true rfl) rfl 81 rfl ?_
        refine vv_goto dX11_totalOf_81 142 rfl ?_
        refine vv_iinc dX11_totalOf_142 (v3 + 1) 3 [(3, .int (v3 + 1)), (2, .int v_6), (0, .ref (ad 0)), (1, .int v1)] rfl rfl (Nat.le_of_ble_eq_true rfl) rfl 145 rfl ?_
        refine vv_goto dX11_totalOf_145 4 rfl ?_
        refine vv_sub [2, 3, 1, 0] [(0, .ref (ad 0)), (1, .int v1), (2, .int v_6), (3, .int (v3 + 1))] rfl ?_
        exact ih hf
      refine vv_case 2 hf (fun hf => ?_) (fun nh2 hf => ?_)
      · refine vv_tabIn dX11_totalOf_13 84 (by decide) (by decide) rfl rfl ?_
        refine vv_iload_n dX11_totalOf_84 2 rfl rfl 85 rfl ?_
        refine vv_aload_n dX11_totalOf_85 0 rfl rfl 86 rfl ?_
        refine vv_iload_n dX11_totalOf_86 3 rfl rfl 87 rfl ?_
        refine vv_callV [.int v3] [.int v2] (fun _ _ h => c_X11_warmOf h) (ob_rec ob_m0 rfl rfl) cv_X11_totalOf_154 rfl (Nat.le_of_ble_eq_true rfl) 90 rfl dX11_totalOf_87 rfl hf (fun r7 σ8 hf => ?_)
        refine vv_iadd dX11_totalOf_90 91 rfl ?_
        refine vv_nm hf (fun v_9 hf => ?_)
        refine vv_istore_n dX11_totalOf_91 [(2, .int v_9), (0, .ref (ad 0)), (1, .int v1), (3, .int v3)] rfl (Nat.le_of_ble_eq_true rfl) rfl 92 rfl ?_
        refine vv_goto dX11_totalOf_92 142 rfl ?_
        refine vv_iinc dX11_totalOf_142 (v3 + 1) 3 [(3, .int (v3 + 1)), (2, .int v_9), (0, .ref (ad 0)), (1, .int v1)] rfl rfl (Nat.le_of_ble_eq_true rfl) rfl 145 rfl ?_
        refine vv_goto dX11_totalOf_145 4 rfl ?_
        refine vv_sub [2, 3, 1, 0] [(0, .ref (ad 0)), (1, .int v1), (2, .int v_9), (3, .int (v3 + 1))] rfl ?_
        exact ih hf
      refine vv_case 3 hf (fun hf => ?_) (fun nh3 hf => ?_)
      · refine vv_tabIn dX11_totalOf_13 95 (by decide) (by decide) rfl rfl ?_
        refine vv_iload_n dX11_totalOf_95 2 rfl rfl 96 rfl ?_
        refine vv_aload_n dX11_totalOf_96 0 rfl rfl 97 rfl ?_
        refine vv_iload_n dX11_totalOf_97 3 rfl rfl 98 rfl ?_
        refine vv_callV [.int v3] [.int v2] (fun _ _ h => c_X11_slops h) (ob_rec ob_m0 rfl rfl) cv_X11_totalOf_157 rfl (Nat.le_of_ble_eq_true rfl) 101 rfl dX11_totalOf_98 rfl hf (fun r10 σ11 hf => ?_)
        refine vv_iadd dX11_totalOf_101 102 rfl ?_
        refine vv_nm hf (fun v_12 hf => ?_)
        refine vv_istore_n dX11_totalOf_102 [(2, .int v_12), (0, .ref (ad 0)), (1, .int v1), (3, .int v3)] rfl (Nat.le_of_ble_eq_true rfl) rfl 103 rfl ?_
        refine vv_goto dX11_totalOf_103 142 rfl ?_
        refine vv_iinc dX11_totalOf_142 (v3 + 1) 3 [(3, .int (v3 + 1)), (2, .int v_12), (0, .ref (ad 0)), (1, .int v1)] rfl rfl (Nat.le_of_ble_eq_true rfl) rfl 145 rfl ?_
        refine vv_goto dX11_totalOf_145 4 rfl ?_
        refine vv_sub [2, 3, 1, 0] [(0, .ref (ad 0)), (1, .int v1), (2, .int v_12), (3, .int (v3 + 1))] rfl ?_
        exact ih hf
      refine vv_case 4 hf (fun hf => ?_) (fun nh4 hf => ?_)
      · refine vv_tabIn dX11_totalOf_13 106 (by decide) (by decide) rfl rfl ?_
        refine vv_iload_n dX11_totalOf_106 2 rfl rfl 107 rfl ?_
        refine vv_aload_n dX11_totalOf_107 0 rfl rfl 108 rfl ?_
        refine vv_iload_n dX11_totalOf_108 3 rfl rfl 109 rfl ?_
        refine vv_callV [.int v3] [.int v2] (fun _ _ h => c_X11_stoodOf h) (ob_rec ob_m0 rfl rfl) cv_X11_totalOf_160 rfl (Nat.le_of_ble_eq_true rfl) 112 rfl dX11_totalOf_109 rfl hf (fun r13 σ14 hf => ?_)
        refine vv_iadd dX11_totalOf_112 113 rfl ?_
        refine vv_nm hf (fun v_15 hf => ?_)
        refine vv_istore_n dX11_totalOf_113 [(2, .int v_15), (0, .ref (ad 0)), (1, .int v1), (3, .int v3)] rfl (Nat.le_of_ble_eq_true rfl) rfl 114 rfl ?_
        refine vv_goto dX11_totalOf_114 142 rfl ?_
        refine vv_iinc dX11_totalOf_142 (v3 + 1) 3 [(3, .int (v3 + 1)), (2, .int v_15), (0, .ref (ad 0)), (1, .int v1)] rfl rfl (Nat.le_of_ble_eq_true rfl) rfl 145 rfl ?_
        refine vv_goto dX11_totalOf_145 4 rfl ?_
        refine vv_sub [2, 3, 1, 0] [(0, .ref (ad 0)), (1, .int v1), (2, .int v_15), (3, .int (v3 + 1))] rfl ?_
        exact ih hf
      refine vv_case 5 hf (fun hf => ?_) (fun nh5 hf => ?_)
      · refine vv_tabIn dX11_totalOf_13 142 (by decide) (by decide) rfl rfl ?_
        refine vv_iinc dX11_totalOf_142 (v3 + 1) 3 [(3, .int (v3 + 1)), (0, .ref (ad 0)), (1, .int v1), (2, .int v2)] rfl rfl (Nat.le_of_ble_eq_true rfl) rfl 145 rfl ?_
        refine vv_goto dX11_totalOf_145 4 rfl ?_
        refine vv_sub [1, 2, 3, 0] [(0, .ref (ad 0)), (1, .int v1), (2, .int v2), (3, .int (v3 + 1))] rfl ?_
        exact ih hf
      refine vv_case 6 hf (fun hf => ?_) (fun nh6 hf => ?_)
      · refine vv_tabIn dX11_totalOf_13 142 (by decide) (by decide) rfl rfl ?_
        refine vv_iinc dX11_totalOf_142 (v3 + 1) 3 [(3, .int (v3 + 1)), (0, .ref (ad 0)), (1, .int v1), (2, .int v2)] rfl rfl (Nat.le_of_ble_eq_true rfl) rfl 145 rfl ?_
        refine vv_goto dX11_totalOf_145 4 rfl ?_
        refine vv_sub [1, 2, 3, 0] [(0, .ref (ad 0)), (1, .int v1), (2, .int v2), (3, .int (v3 + 1))] rfl ?_
        exact ih hf
      refine vv_case 7 hf (fun hf => ?_) (fun nh7 hf => ?_)
      · refine vv_tabIn dX11_totalOf_13 117 (by decide) (by decide) rfl rfl ?_
        refine vv_iload_n dX11_totalOf_117 2 rfl rfl 118 rfl ?_
        refine vv_aload_n dX11_totalOf_118 0 rfl rfl 119 rfl ?_
        refine vv_iload_n dX11_totalOf_119 3 rfl rfl 120 rfl ?_
        refine vv_callV [.int v3] [.int v2] (fun _ _ h => c_X11_warmOf h) (ob_rec ob_m0 rfl rfl) cv_X11_totalOf_154 rfl (Nat.le_of_ble_eq_true rfl) 123 rfl dX11_totalOf_120 rfl hf (fun r16 σ17 hf => ?_)
        refine vv_aload_n dX11_totalOf_123 0 rfl rfl 124 rfl ?_
        refine vv_iload_n dX11_totalOf_124 3 rfl rfl 125 rfl ?_
        refine vv_callV [.int v3] [.int r16, .int v2] (fun _ _ h => c_X11_lateOf h) (ob_rec ob_m0 rfl rfl) cv_X11_totalOf_151 rfl (Nat.le_of_ble_eq_true rfl) 128 rfl dX11_totalOf_125 rfl hf (fun r18 σ19 hf => ?_)
        refine vv_isub dX11_totalOf_128 129 rfl ?_
        refine vv_iconst dX11_totalOf_129 5 rfl 130 rfl ?_
        refine vv_aload_n dX11_totalOf_130 0 rfl rfl 131 rfl ?_
        refine vv_iload_n dX11_totalOf_131 3 rfl rfl 132 rfl ?_
        refine vv_callV [.int v3] [.int 5, .int (r16 - r18), .int v2] (fun _ _ h => c_X11_slops h) (ob_rec ob_m0 rfl rfl) cv_X11_totalOf_157 rfl (Nat.le_of_ble_eq_true rfl) 135 rfl dX11_totalOf_132 rfl hf (fun r20 σ21 hf => ?_)
        refine vv_imul dX11_totalOf_135 136 rfl ?_
        refine vv_isub dX11_totalOf_136 137 rfl ?_
        refine vv_iadd dX11_totalOf_137 138 rfl ?_
        refine vv_nm hf (fun v_22 hf => ?_)
        refine vv_istore_n dX11_totalOf_138 [(2, .int v_22), (0, .ref (ad 0)), (1, .int v1), (3, .int v3)] rfl (Nat.le_of_ble_eq_true rfl) rfl 139 rfl ?_
        refine vv_goto dX11_totalOf_139 142 rfl ?_
        refine vv_iinc dX11_totalOf_142 (v3 + 1) 3 [(3, .int (v3 + 1)), (2, .int v_22), (0, .ref (ad 0)), (1, .int v1)] rfl rfl (Nat.le_of_ble_eq_true rfl) rfl 145 rfl ?_
        refine vv_goto dX11_totalOf_145 4 rfl ?_
        refine vv_sub [2, 3, 1, 0] [(0, .ref (ad 0)), (1, .int v1), (2, .int v_22), (3, .int (v3 + 1))] rfl ?_
        exact ih hf
      refine vv_tabOut dX11_totalOf_13 142 (by have z0 := ob_neI nh0 (a := 0) rfl; have z1 := ob_neI nh1 (a := 1) rfl; have z2 := ob_neI nh2 (a := 2) rfl; have z3 := ob_neI nh3 (a := 3) rfl; have z4 := ob_neI nh4 (a := 4) rfl; have z5 := ob_neI nh5 (a := 5) rfl; have z6 := ob_neI nh6 (a := 6) rfl; have z7 := ob_neI nh7 (a := 7) rfl; omega) rfl ?_
      refine vv_iinc dX11_totalOf_142 (v3 + 1) 3 [(3, .int (v3 + 1)), (0, .ref (ad 0)), (1, .int v1), (2, .int v2)] rfl rfl (Nat.le_of_ble_eq_true rfl) rfl 145 rfl ?_
      refine vv_goto dX11_totalOf_145 4 rfl ?_
      refine vv_sub [1, 2, 3, 0] [(0, .ref (ad 0)), (1, .int v1), (2, .int v2), (3, .int (v3 + 1))] rfl ?_
      exact ih hf
set_option maxRecDepth 100000 in
set_option maxHeartbeats 4000000 in
theorem c_X11_totalOf {g : ob_GT} {ad : Nat → Nat} {r : Int32} {σ' : ob_St} {σ : ob_St} {p1 : Int32} (hf : f_X11_totalOf σ p1 = some (r, σ')) : ob_CT g (ob_M ad) mi_X11_totalOf [.ref (ad 0), .int p1] σ (some (.int r)) σ' := by
  refine ob_ct (by decide +kernel) rfl (Nat.le_of_ble_eq_true rfl) ?_
  show ob_V g (ob_M ad) mi_X11_totalOf (some (.int r)) σ' σ 0 [(0, .ref (ad 0)), (1, .int p1)] []
  refine vv_iconst dX11_totalOf_0 0 rfl 1 rfl ?_
  refine vv_istore_n dX11_totalOf_1 [(2, .int 0), (0, .ref (ad 0)), (1, .int p1)] rfl (Nat.le_of_ble_eq_true rfl) rfl 2 rfl ?_
  refine vv_iconst dX11_totalOf_2 0 rfl 3 rfl ?_
  refine vv_istore_n dX11_totalOf_3 [(3, .int 0), (2, .int 0), (0, .ref (ad 0)), (1, .int p1)] rfl (Nat.le_of_ble_eq_true rfl) rfl 4 rfl ?_
  refine vv_sub [2, 3, 1, 0] [(0, .ref (ad 0)), (1, .int p1), (2, .int 0), (3, .int 0)] rfl ?_
  exact l_X11_totalOf_4 1000 hf
abbrev mi_X11_worth : ob_MI := (yX11_worth, ob_ws yX11_worth cX11_worth 1 (some .int), cX11_worth, 1, (some .int), { frames := 4, cells := 0, slots := 0, locals := 86 })
theorem cv_X11_worth_163 : ob_CV mi_X11_worth mi_X11_run 163 RX11 1 := ob_cvI rfl rfl tw_933 tw_935 tw_30 tw_59 tw_936 ⟨rfl, rfl⟩ ⟨rfl, by decide +kernel, by decide +kernel, by decide +kernel⟩ ⟨Nat.le_of_ble_eq_true rfl, Nat.le_of_ble_eq_true rfl⟩
theorem cv_X11_worth_167 : ob_CV mi_X11_worth mi_X11_totalOf 167 RX11 1 := ob_cvI rfl rfl tw_937 tw_939 tw_31 tw_59 tw_940 ⟨rfl, rfl⟩ ⟨rfl, by decide +kernel, by decide +kernel, by decide +kernel⟩ ⟨Nat.le_of_ble_eq_true rfl, Nat.le_of_ble_eq_true rfl⟩
noncomputable def f_X11_worth (σ : ob_St) : Option (Int32 × ob_St) :=
  ob_bd (f_X11_run σ (-9)) fun _ σ2 =>
  ob_bd (f_X11_totalOf σ2 7) fun r3 σ4 =>
  some (r3, σ4)
set_option maxRecDepth 100000 in
set_option maxHeartbeats 4000000 in
theorem c_X11_worth {g : ob_GT} {ad : Nat → Nat} {r : Int32} {σ' : ob_St} {σ : ob_St} (hf : f_X11_worth σ = some (r, σ')) : ob_CT g (ob_M ad) mi_X11_worth [.ref (ad 0)] σ (some (.int r)) σ' := by
  refine ob_ct (by decide +kernel) rfl (Nat.le_of_ble_eq_true rfl) ?_
  show ob_V g (ob_M ad) mi_X11_worth (some (.int r)) σ' σ 0 [(0, .ref (ad 0))] []
  refine vv_aload_n dX11_worth_0 0 rfl rfl 1 rfl ?_
  refine vv_bipush dX11_worth_1 (-9) rfl 3 rfl ?_
  refine vv_callVu [.int (-9)] [] (fun _ _ h => c_X11_run h) (ob_rec ob_m0 rfl rfl) cv_X11_worth_163 rfl (Nat.le_of_ble_eq_true rfl) 6 rfl dX11_worth_3 rfl hf (fun _ σ2 hf => ?_)
  refine vv_aload_n dX11_worth_6 0 rfl rfl 7 rfl ?_
  refine vv_bipush dX11_worth_7 7 rfl 9 rfl ?_
  refine vv_callV [.int 7] [] (fun _ _ h => c_X11_totalOf h) (ob_rec ob_m0 rfl rfl) cv_X11_worth_167 rfl (Nat.le_of_ble_eq_true rfl) 12 rfl dX11_worth_9 rfl hf (fun r3 σ4 hf => ?_)
  exact vv_ireti rfl dX11_worth_12 hf
abbrev mi_X11_total : ob_MI := (yX11_total, ob_ws yX11_total cX11_total 2 (some .int), cX11_total, 2, (some .int), { frames := 4, cells := 0, slots := 0, locals := 86 })
theorem cs_X11_total_70 : ob_CS mi_X11_total mi_X11_within 70 3 := ob_csI rfl rfl tw_857 tw_858 tw_59 tw_859 ⟨rfl, rfl⟩ ⟨by decide +kernel, by decide +kernel, by decide +kernel⟩ ⟨Nat.le_of_ble_eq_true rfl, Nat.le_of_ble_eq_true rfl⟩
theorem cv_X11_total_163 : ob_CV mi_X11_total mi_X11_run 163 RX11 1 := ob_cvI rfl rfl tw_933 tw_935 tw_30 tw_59 tw_936 ⟨rfl, rfl⟩ ⟨rfl, by decide +kernel, by decide +kernel, by decide +kernel⟩ ⟨Nat.le_of_ble_eq_true rfl, Nat.le_of_ble_eq_true rfl⟩
theorem cv_X11_total_167 : ob_CV mi_X11_total mi_X11_totalOf 167 RX11 1 := ob_cvI rfl rfl tw_937 tw_939 tw_31 tw_59 tw_940 ⟨rfl, rfl⟩ ⟨rfl, by decide +kernel, by decide +kernel, by decide +kernel⟩ ⟨Nat.le_of_ble_eq_true rfl, Nat.le_of_ble_eq_true rfl⟩
theorem cv_X11_total_170 : ob_CV mi_X11_total mi_X11_noMuch 170 RX11 1 := ob_cvI rfl rfl tw_928 tw_930 tw_29 tw_59 tw_931 ⟨rfl, rfl⟩ ⟨rfl, by decide +kernel, by decide +kernel, by decide +kernel⟩ ⟨Nat.le_of_ble_eq_true rfl, Nat.le_of_ble_eq_true rfl⟩
noncomputable def f_X11_total (σ : ob_St) (p1 : Int32) : Option (Int32 × ob_St) :=
  ob_bd (f_X11_within σ p1 0 7) fun r1 σ2 =>
  if r1 = 0 then
    ob_bd (f_X11_noMuch σ2 (-2)) fun r7 σ8 =>
    some (r7, σ8)
  else
    ob_bd (f_X11_run σ2 (-9)) fun _ σ4 =>
    ob_bd (f_X11_totalOf σ4 p1) fun r5 σ6 =>
    some (r5, σ6)
set_option maxRecDepth 100000 in
set_option maxHeartbeats 4000000 in
theorem c_X11_total {g : ob_GT} {ad : Nat → Nat} {r : Int32} {σ' : ob_St} {σ : ob_St} {p1 : Int32} (hf : f_X11_total σ p1 = some (r, σ')) : ob_CT g (ob_M ad) mi_X11_total [.ref (ad 0), .int p1] σ (some (.int r)) σ' := by
  refine ob_ct (by decide +kernel) rfl (Nat.le_of_ble_eq_true rfl) ?_
  show ob_V g (ob_M ad) mi_X11_total (some (.int r)) σ' σ 0 [(0, .ref (ad 0)), (1, .int p1)] []
  refine vv_iload_n dX11_total_0 1 rfl rfl 1 rfl ?_
  refine vv_iconst dX11_total_1 0 rfl 2 rfl ?_
  refine vv_bipush dX11_total_2 7 rfl 4 rfl ?_
  refine vv_callS [.int p1, .int 0, .int 7] [] (fun _ _ h => c_X11_within h) cs_X11_total_70 rfl (Nat.le_of_ble_eq_true rfl) 7 rfl dX11_total_4 rfl hf (fun r1 σ2 hf => ?_)
  refine vv_if_ne dX11_total_7 17 10 rfl rfl hf (fun hf => ?_) (fun hf => ?_)
  · refine vv_aload_n dX11_total_17 0 rfl rfl 18 rfl ?_
    refine vv_bipush dX11_total_18 (-9) rfl 20 rfl ?_
    refine vv_callVu [.int (-9)] [] (fun _ _ h => c_X11_run h) (ob_rec ob_m0 rfl rfl) cv_X11_total_163 rfl (Nat.le_of_ble_eq_true rfl) 23 rfl dX11_total_20 rfl hf (fun _ σ4 hf => ?_)
    refine vv_aload_n dX11_total_23 0 rfl rfl 24 rfl ?_
    refine vv_iload_n dX11_total_24 1 rfl rfl 25 rfl ?_
    refine vv_callV [.int p1] [] (fun _ _ h => c_X11_totalOf h) (ob_rec ob_m0 rfl rfl) cv_X11_total_167 rfl (Nat.le_of_ble_eq_true rfl) 28 rfl dX11_total_25 rfl hf (fun r5 σ6 hf => ?_)
    exact vv_ireti rfl dX11_total_28 hf
  · refine vv_aload_n dX11_total_10 0 rfl rfl 11 rfl ?_
    refine vv_bipush dX11_total_11 (-2) rfl 13 rfl ?_
    refine vv_callV [.int (-2)] [] (fun _ _ h => c_X11_noMuch h) (ob_rec ob_m0 rfl rfl) cv_X11_total_170 rfl (Nat.le_of_ble_eq_true rfl) 16 rfl dX11_total_13 rfl hf (fun r7 σ8 hf => ?_)
    exact vv_ireti rfl dX11_total_16 hf
abbrev mi_X11_of : ob_MI := (yX11_of, ob_ws yX11_of cX11_of 3 (some .int), cX11_of, 3, (some .int), { frames := 3, cells := 0, slots := 0, locals := 70 })
theorem cv_X11_of_97 : ob_CV mi_X11_of mi_X11_isDish 97 RX11 1 := ob_cvI rfl rfl tw_864 tw_866 tw_23 tw_59 tw_867 ⟨rfl, rfl⟩ ⟨rfl, by decide +kernel, by decide +kernel, by decide +kernel⟩ ⟨Nat.le_of_ble_eq_true rfl, Nat.le_of_ble_eq_true rfl⟩
theorem cv_X11_of_163 : ob_CV mi_X11_of mi_X11_run 163 RX11 1 := ob_cvI rfl rfl tw_933 tw_935 tw_30 tw_59 tw_936 ⟨rfl, rfl⟩ ⟨rfl, by decide +kernel, by decide +kernel, by decide +kernel⟩ ⟨Nat.le_of_ble_eq_true rfl, Nat.le_of_ble_eq_true rfl⟩
theorem gf_X11_of_52 : ob_GF mi_X11_of 52 11 19 := ⟨RX11, TX11, 24, rfl, by decide, fun x h => List.mem_cons_of_mem _ (uw_X11 x h), List.mem_cons_of_mem _ tw_777⟩
theorem cv_X11_of_145 : ob_CV mi_X11_of mi_X11_servedOf 145 RX11 1 := ob_cvI rfl rfl tw_953 tw_955 tw_35 tw_59 tw_956 ⟨rfl, rfl⟩ ⟨rfl, by decide +kernel, by decide +kernel, by decide +kernel⟩ ⟨Nat.le_of_ble_eq_true rfl, Nat.le_of_ble_eq_true rfl⟩
theorem cv_X11_of_154 : ob_CV mi_X11_of mi_X11_warmOf 154 RX11 1 := ob_cvI rfl rfl tw_949 tw_951 tw_34 tw_59 tw_952 ⟨rfl, rfl⟩ ⟨rfl, by decide +kernel, by decide +kernel, by decide +kernel⟩ ⟨Nat.le_of_ble_eq_true rfl, Nat.le_of_ble_eq_true rfl⟩
theorem cv_X11_of_151 : ob_CV mi_X11_of mi_X11_lateOf 151 RX11 1 := ob_cvI rfl rfl tw_941 tw_943 tw_32 tw_59 tw_944 ⟨rfl, rfl⟩ ⟨rfl, by decide +kernel, by decide +kernel, by decide +kernel⟩ ⟨Nat.le_of_ble_eq_true rfl, Nat.le_of_ble_eq_true rfl⟩
theorem gf_X11_of_55 : ob_GF mi_X11_of 55 11 20 := ⟨RX11, TX11, 24, rfl, by decide, fun x h => List.mem_cons_of_mem _ (uw_X11 x h), List.mem_cons_of_mem _ tw_778⟩
theorem cv_X11_of_160 : ob_CV mi_X11_of mi_X11_stoodOf 160 RX11 1 := ob_cvI rfl rfl tw_965 tw_967 tw_38 tw_59 tw_968 ⟨rfl, rfl⟩ ⟨rfl, by decide +kernel, by decide +kernel, by decide +kernel⟩ ⟨Nat.le_of_ble_eq_true rfl, Nat.le_of_ble_eq_true rfl⟩
theorem cv_X11_of_157 : ob_CV mi_X11_of mi_X11_slops 157 RX11 1 := ob_cvI rfl rfl tw_961 tw_963 tw_37 tw_59 tw_964 ⟨rfl, rfl⟩ ⟨rfl, by decide +kernel, by decide +kernel, by decide +kernel⟩ ⟨Nat.le_of_ble_eq_true rfl, Nat.le_of_ble_eq_true rfl⟩
theorem cv_X11_of_62 : ob_CV mi_X11_of mi_X11_no 62 RX11 1 := ob_cvI rfl rfl tw_835 tw_837 tw_18 tw_59 tw_838 ⟨rfl, rfl⟩ ⟨rfl, by decide +kernel, by decide +kernel, by decide +kernel⟩ ⟨Nat.le_of_ble_eq_true rfl, Nat.le_of_ble_eq_true rfl⟩
noncomputable def f_X11_of (σ : ob_St) (p1 : Int32) (p2 : Int32) : Option (Int32 × ob_St) :=
  ob_bd (f_X11_isDish σ p1) fun r1 σ2 =>
  if r1 = 0 then
    ob_bd (f_X11_no σ2 (-1)) fun r19 σ20 =>
    some (r19, σ20)
  else
    ob_bd (f_X11_run σ2 (-9)) fun _ σ4 =>
    if p2 = 0 then
      ob_ld σ4 15 6 p1 fun v_5 =>
      some (v_5, σ4)
    else
    if p2 = 1 then
      ob_bd (f_X11_servedOf σ4 p1) fun r6 σ7 =>
      some (r6, σ7)
    else
    if p2 = 2 then
      ob_bd (f_X11_warmOf σ4 p1) fun r8 σ9 =>
      some (r8, σ9)
    else
    if p2 = 3 then
      ob_bd (f_X11_lateOf σ4 p1) fun r10 σ11 =>
      some (r10, σ11)
    else
    if p2 = 4 then
      ob_ld σ4 16 6 p1 fun v_12 =>
      some (v_12, σ4)
    else
    if p2 = 5 then
      ob_bd (f_X11_stoodOf σ4 p1) fun r13 σ14 =>
      some (r13, σ14)
    else
    if p2 = 6 then
      ob_bd (f_X11_slops σ4 p1) fun r15 σ16 =>
      some (r15, σ16)
    else
      ob_bd (f_X11_no σ4 (-2)) fun r17 σ18 =>
      some (r17, σ18)
set_option maxRecDepth 100000 in
set_option maxHeartbeats 4000000 in
theorem c_X11_of {g : ob_GT} {ad : Nat → Nat} {r : Int32} {σ' : ob_St} {σ : ob_St} {p1 : Int32} {p2 : Int32} (hf : f_X11_of σ p1 p2 = some (r, σ')) : ob_CT g (ob_M ad) mi_X11_of [.ref (ad 0), .int p1, .int p2] σ (some (.int r)) σ' := by
  refine ob_ct (by decide +kernel) rfl (Nat.le_of_ble_eq_true rfl) ?_
  show ob_V g (ob_M ad) mi_X11_of (some (.int r)) σ' σ 0 [(0, .ref (ad 0)), (1, .int p1), (2, .int p2)] []
  refine vv_aload_n dX11_of_0 0 rfl rfl 1 rfl ?_
  refine vv_iload_n dX11_of_1 1 rfl rfl 2 rfl ?_
  refine vv_callV [.int p1] [] (fun _ _ h => c_X11_isDish h) (ob_rec ob_m0 rfl rfl) cv_X11_of_97 rfl (Nat.le_of_ble_eq_true rfl) 5 rfl dX11_of_2 rfl hf (fun r1 σ2 hf => ?_)
  refine vv_if_ne dX11_of_5 14 8 rfl rfl hf (fun hf => ?_) (fun hf => ?_)
  · refine vv_aload_n dX11_of_14 0 rfl rfl 15 rfl ?_
    refine vv_bipush dX11_of_15 (-9) rfl 17 rfl ?_
    refine vv_callVu [.int (-9)] [] (fun _ _ h => c_X11_run h) (ob_rec ob_m0 rfl rfl) cv_X11_of_163 rfl (Nat.le_of_ble_eq_true rfl) 20 rfl dX11_of_17 rfl hf (fun _ σ4 hf => ?_)
    refine vv_iload_n dX11_of_20 2 rfl rfl 21 rfl ?_
    refine vv_case 0 hf (fun hf => ?_) (fun nh0 hf => ?_)
    · refine vv_tabIn dX11_of_21 64 (by decide) (by decide) rfl rfl ?_
      refine vv_aload_n dX11_of_64 0 rfl rfl 65 rfl ?_
      refine vv_getR dX11_of_65 19 gf_X11_of_52 ob_m0 rfl rfl 68 rfl ?_
      refine vv_iload_n dX11_of_68 1 rfl rfl 69 rfl ?_
      refine vv_iald dX11_of_69 ob_m15 rfl 70 rfl hf (fun v_5 hf => ?_)
      exact vv_ireti rfl dX11_of_70 hf
    refine vv_case 1 hf (fun hf => ?_) (fun nh1 hf => ?_)
    · refine vv_tabIn dX11_of_21 71 (by decide) (by decide) rfl rfl ?_
      refine vv_aload_n dX11_of_71 0 rfl rfl 72 rfl ?_
      refine vv_iload_n dX11_of_72 1 rfl rfl 73 rfl ?_
      refine vv_callV [.int p1] [] (fun _ _ h => c_X11_servedOf h) (ob_rec ob_m0 rfl rfl) cv_X11_of_145 rfl (Nat.le_of_ble_eq_true rfl) 76 rfl dX11_of_73 rfl hf (fun r6 σ7 hf => ?_)
      exact vv_ireti rfl dX11_of_76 hf
    refine vv_case 2 hf (fun hf => ?_) (fun nh2 hf => ?_)
    · refine vv_tabIn dX11_of_21 77 (by decide) (by decide) rfl rfl ?_
      refine vv_aload_n dX11_of_77 0 rfl rfl 78 rfl ?_
      refine vv_iload_n dX11_of_78 1 rfl rfl 79 rfl ?_
      refine vv_callV [.int p1] [] (fun _ _ h => c_X11_warmOf h) (ob_rec ob_m0 rfl rfl) cv_X11_of_154 rfl (Nat.le_of_ble_eq_true rfl) 82 rfl dX11_of_79 rfl hf (fun r8 σ9 hf => ?_)
      exact vv_ireti rfl dX11_of_82 hf
    refine vv_case 3 hf (fun hf => ?_) (fun nh3 hf => ?_)
    · refine vv_tabIn dX11_of_21 83 (by decide) (by decide) rfl rfl ?_
      refine vv_aload_n dX11_of_83 0 rfl rfl 84 rfl ?_
      refine vv_iload_n dX11_of_84 1 rfl rfl 85 rfl ?_
      refine vv_callV [.int p1] [] (fun _ _ h => c_X11_lateOf h) (ob_rec ob_m0 rfl rfl) cv_X11_of_151 rfl (Nat.le_of_ble_eq_true rfl) 88 rfl dX11_of_85 rfl hf (fun r10 σ11 hf => ?_)
      exact vv_ireti rfl dX11_of_88 hf
    refine vv_case 4 hf (fun hf => ?_) (fun nh4 hf => ?_)
    · refine vv_tabIn dX11_of_21 89 (by decide) (by decide) rfl rfl ?_
      refine vv_aload_n dX11_of_89 0 rfl rfl 90 rfl ?_
      refine vv_getR dX11_of_90 20 gf_X11_of_55 ob_m0 rfl rfl 93 rfl ?_
      refine vv_iload_n dX11_of_93 1 rfl rfl 94 rfl ?_
      refine vv_iald dX11_of_94 ob_m16 rfl 95 rfl hf (fun v_12 hf => ?_)
      exact vv_ireti rfl dX11_of_95 hf
    refine vv_case 5 hf (fun hf => ?_) (fun nh5 hf => ?_)
    · refine vv_tabIn dX11_of_21 96 (by decide) (by decide) rfl rfl ?_
      refine vv_aload_n dX11_of_96 0 rfl rfl 97 rfl ?_
      refine vv_iload_n dX11_of_97 1 rfl rfl 98 rfl ?_
      refine vv_callV [.int p1] [] (fun _ _ h => c_X11_stoodOf h) (ob_rec ob_m0 rfl rfl) cv_X11_of_160 rfl (Nat.le_of_ble_eq_true rfl) 101 rfl dX11_of_98 rfl hf (fun r13 σ14 hf => ?_)
      exact vv_ireti rfl dX11_of_101 hf
    refine vv_case 6 hf (fun hf => ?_) (fun nh6 hf => ?_)
    · refine vv_tabIn dX11_of_21 102 (by decide) (by decide) rfl rfl ?_
      refine vv_aload_n dX11_of_102 0 rfl rfl 103 rfl ?_
      refine vv_iload_n dX11_of_103 1 rfl rfl 104 rfl ?_
      refine vv_callV [.int p1] [] (fun _ _ h => c_X11_slops h) (ob_rec ob_m0 rfl rfl) cv_X11_of_157 rfl (Nat.le_of_ble_eq_true rfl) 107 rfl dX11_of_104 rfl hf (fun r15 σ16 hf => ?_)
      exact vv_ireti rfl dX11_of_107 hf
    refine vv_tabOut dX11_of_21 108 (by have z0 := ob_neI nh0 (a := 0) rfl; have z1 := ob_neI nh1 (a := 1) rfl; have z2 := ob_neI nh2 (a := 2) rfl; have z3 := ob_neI nh3 (a := 3) rfl; have z4 := ob_neI nh4 (a := 4) rfl; have z5 := ob_neI nh5 (a := 5) rfl; have z6 := ob_neI nh6 (a := 6) rfl; omega) rfl ?_
    refine vv_aload_n dX11_of_108 0 rfl rfl 109 rfl ?_
    refine vv_bipush dX11_of_109 (-2) rfl 111 rfl ?_
    refine vv_callV [.int (-2)] [] (fun _ _ h => c_X11_no h) (ob_rec ob_m0 rfl rfl) cv_X11_of_62 rfl (Nat.le_of_ble_eq_true rfl) 114 rfl dX11_of_111 rfl hf (fun r17 σ18 hf => ?_)
    exact vv_ireti rfl dX11_of_114 hf
  · refine vv_aload_n dX11_of_8 0 rfl rfl 9 rfl ?_
    refine vv_iconst dX11_of_9 (-1) rfl 10 rfl ?_
    refine vv_callV [.int (-1)] [] (fun _ _ h => c_X11_no h) (ob_rec ob_m0 rfl rfl) cv_X11_of_62 rfl (Nat.le_of_ble_eq_true rfl) 13 rfl dX11_of_10 rfl hf (fun r19 σ20 hf => ?_)
    exact vv_ireti rfl dX11_of_13 hf
abbrev mi_X11_next : ob_MI := (yX11_next, ob_ws yX11_next cX11_next 5 (some .boolean), cX11_next, 5, (some .boolean), { frames := 1, cells := 0, slots := 0, locals := 23 })
theorem gf_X11_next_66 : ob_GF mi_X11_next 66 11 0 := ⟨RX11, TX11, 24, rfl, by decide, fun x h => List.mem_cons_of_mem _ (uw_X11 x h), List.mem_cons_of_mem _ tw_758⟩
theorem gf_X11_next_25 : ob_GF mi_X11_next 25 11 6 := ⟨RX11, TX11, 24, rfl, by decide, fun x h => List.mem_cons_of_mem _ (uw_X11 x h), List.mem_cons_of_mem _ tw_764⟩
theorem cv_X11_next_103 : ob_CV mi_X11_next mi_X11_swap 103 RX11 2 := ob_cvI rfl rfl tw_872 tw_874 tw_25 tw_59 tw_875 ⟨rfl, rfl⟩ ⟨rfl, by decide +kernel, by decide +kernel, by decide +kernel⟩ ⟨Nat.le_of_ble_eq_true rfl, Nat.le_of_ble_eq_true rfl⟩
noncomputable def L_X11_next_86 : Nat → ob_St → Int32 → Int32 → Option (Int32 × ob_St)
  | 0, _, _, _ => none
  | n + 1, σ, v3, v4 =>
    if v4 ≤ v3 then
      ob_rb 1 σ
    else
      ob_bd (f_X11_swap σ v3 v4) fun _ σ10 =>
      L_X11_next_86 n σ10 (v3 + 1) (v4 + (-1))
noncomputable def L_X11_next_47 : Nat → ob_St → Int32 → Int32 → Option (Int32 × ob_St)
  | 0, _, _, _ => none
  | n + 1, σ, v1, v2 =>
    ob_ld σ 6 6 v2 fun v_3 =>
    ob_ld σ 6 6 v1 fun v_4 =>
    if v_4 ≤ v_3 then
      ob_bd (f_X11_swap σ v1 v2) fun _ σ6 =>
      ob_nm (v1 + 1) fun v_7 =>
      ob_nm ((σ6 0 0) - 1) fun v_8 =>
      L_X11_next_86 1000 σ6 v_7 v_8
    else
      L_X11_next_47 n σ v1 (v2 + (-1))
noncomputable def J_X11_next_34_7 (rec : ob_St → Int32 → Option (Int32 × ob_St)) (σ : ob_St) (v1 : Int32) : Option (Int32 × ob_St) :=
  if (0 : Int32) ≤ v1 then
    ob_nm ((σ 0 0) - 1) fun v_2 =>
    L_X11_next_47 1000 σ v1 v_2
  else
    ob_rb 0 σ
noncomputable def L_X11_next_7 : Nat → ob_St → Int32 → Option (Int32 × ob_St)
  | 0, _, _ => none
  | n + 1, σ, v1 =>
    if v1 < 0 then
      J_X11_next_34_7 (fun σ v1 => L_X11_next_7 n σ v1) σ v1
    else
      ob_ld σ 6 6 v1 fun v_11 =>
      ob_ld σ 6 6 (v1 + 1) fun v_12 =>
      if v_11 ≤ v_12 then
        J_X11_next_34_7 (fun σ v1 => L_X11_next_7 n σ v1) σ v1
      else
        L_X11_next_7 n σ (v1 + (-1))
noncomputable def f_X11_next (σ : ob_St) : Option (Int32 × ob_St) :=
  ob_nm ((σ 0 0) - 2) fun v_1 =>
  L_X11_next_7 1000 σ v_1
set_option maxRecDepth 100000 in
set_option maxHeartbeats 4000000 in
theorem l_X11_next_86 {g : ob_GT} {ad : Nat → Nat} {r : Int32} {σ' : ob_St} : ∀ (n : Nat) {σ : ob_St} {v3 : Int32} {v4 : Int32}, L_X11_next_86 n σ v3 v4 = some (r, σ') → ob_V g (ob_M ad) mi_X11_next (some (.int r)) σ' σ 86 [(0, .ref (ad 0)), (3, .int v3), (4, .int v4)] [] := by
  intro n
  induction n with
  | zero => intro σ v3 v4 hf; exact absurd hf (fun h => by cases h)
  | succ n ih =>
    intro σ v3 v4 hf
    refine vv_iload_n dX11_next_86 1 rfl rfl 87 rfl ?_
    refine vv_iload dX11_next_87 2 rfl 89 rfl ?_
    refine vv_icmp_ge dX11_next_89 108 92 rfl rfl hf (fun hf => ?_) (fun hf => ?_)
    · refine vv_iconst dX11_next_108 1 rfl 109 rfl ?_
      exact vv_iretz rfl dX11_next_109 hf
    · refine vv_aload_n dX11_next_92 0 rfl rfl 93 rfl ?_
      refine vv_iload_n dX11_next_93 1 rfl rfl 94 rfl ?_
      refine vv_iload dX11_next_94 2 rfl 96 rfl ?_
      refine vv_callVu [.int v3, .int v4] [] (fun _ _ h => c_X11_swap h) (ob_rec ob_m0 rfl rfl) cv_X11_next_103 rfl (Nat.le_of_ble_eq_true rfl) 99 rfl dX11_next_96 rfl hf (fun _ σ10 hf => ?_)
      refine vv_iinc dX11_next_99 (v3 + 1) 1 [(3, .int (v3 + 1)), (0, .ref (ad 0)), (4, .int v4)] rfl rfl (Nat.le_of_ble_eq_true rfl) rfl 102 rfl ?_
      refine vv_iinc dX11_next_102 (v4 + (-1)) 2 [(4, .int (v4 + (-1))), (3, .int (v3 + 1)), (0, .ref (ad 0))] rfl rfl (Nat.le_of_ble_eq_true rfl) rfl 105 rfl ?_
      refine vv_goto dX11_next_105 86 rfl ?_
      refine vv_sub [2, 1, 0] [(0, .ref (ad 0)), (3, .int (v3 + 1)), (4, .int (v4 + (-1)))] rfl ?_
      exact ih hf
set_option maxRecDepth 100000 in
set_option maxHeartbeats 4000000 in
theorem l_X11_next_47 {g : ob_GT} {ad : Nat → Nat} {r : Int32} {σ' : ob_St} : ∀ (n : Nat) {σ : ob_St} {v1 : Int32} {v2 : Int32}, L_X11_next_47 n σ v1 v2 = some (r, σ') → ob_V g (ob_M ad) mi_X11_next (some (.int r)) σ' σ 47 [(0, .ref (ad 0)), (1, .int v1), (2, .int v2)] [] := by
  intro n
  induction n with
  | zero => intro σ v1 v2 hf; exact absurd hf (fun h => by cases h)
  | succ n ih =>
    intro σ v1 v2 hf
    refine vv_aload_n dX11_next_47 0 rfl rfl 48 rfl ?_
    refine vv_getR dX11_next_48 6 gf_X11_next_25 ob_m0 rfl rfl 51 rfl ?_
    refine vv_iload_n dX11_next_51 2 rfl rfl 52 rfl ?_
    refine vv_iald dX11_next_52 ob_m6 rfl 53 rfl hf (fun v_3 hf => ?_)
    refine vv_aload_n dX11_next_53 0 rfl rfl 54 rfl ?_
    refine vv_getR dX11_next_54 6 gf_X11_next_25 ob_m0 rfl rfl 57 rfl ?_
    refine vv_iload_n dX11_next_57 1 rfl rfl 58 rfl ?_
    refine vv_iald dX11_next_58 ob_m6 rfl 59 rfl hf (fun v_4 hf => ?_)
    refine vv_icmp_ge dX11_next_59 68 62 rfl rfl hf (fun hf => ?_) (fun hf => ?_)
    · refine vv_aload_n dX11_next_68 0 rfl rfl 69 rfl ?_
      refine vv_iload_n dX11_next_69 1 rfl rfl 70 rfl ?_
      refine vv_iload_n dX11_next_70 2 rfl rfl 71 rfl ?_
      refine vv_callVu [.int v1, .int v2] [] (fun _ _ h => c_X11_swap h) (ob_rec ob_m0 rfl rfl) cv_X11_next_103 rfl (Nat.le_of_ble_eq_true rfl) 74 rfl dX11_next_71 rfl hf (fun _ σ6 hf => ?_)
      refine vv_iload_n dX11_next_74 1 rfl rfl 75 rfl ?_
      refine vv_iconst dX11_next_75 1 rfl 76 rfl ?_
      refine vv_iadd dX11_next_76 77 rfl ?_
      refine vv_nm hf (fun v_7 hf => ?_)
      refine vv_istore_n dX11_next_77 [(3, .int v_7), (0, .ref (ad 0)), (1, .int v1), (2, .int v2)] rfl (Nat.le_of_ble_eq_true rfl) rfl 78 rfl ?_
      refine vv_aload_n dX11_next_78 1 rfl rfl 79 rfl ?_
      refine vv_getI dX11_next_79 0 gf_X11_next_66 ob_m0 rfl rfl 82 rfl ?_
      refine vv_iconst dX11_next_82 1 rfl 83 rfl ?_
      refine vv_isub dX11_next_83 84 rfl ?_
      refine vv_nm hf (fun v_8 hf => ?_)
      refine vv_istore dX11_next_84 [(4, .int v_8), (3, .int v_7), (0, .ref (ad 0)), (1, .int v1), (2, .int v2)] (Nat.le_of_ble_eq_true rfl) rfl 86 rfl ?_
      refine vv_sub [2, 1, 0] [(0, .ref (ad 0)), (3, .int v_7), (4, .int v_8)] rfl ?_
      exact l_X11_next_86 1000 hf
    · refine vv_iinc dX11_next_62 (v2 + (-1)) 2 [(2, .int (v2 + (-1))), (0, .ref (ad 0)), (1, .int v1)] rfl rfl (Nat.le_of_ble_eq_true rfl) rfl 65 rfl ?_
      refine vv_goto dX11_next_65 47 rfl ?_
      refine vv_sub [1, 2, 0] [(0, .ref (ad 0)), (1, .int v1), (2, .int (v2 + (-1)))] rfl ?_
      exact ih hf
set_option maxRecDepth 100000 in
set_option maxHeartbeats 4000000 in
theorem j_X11_next_34_7 {g : ob_GT} {ad : Nat → Nat} {r : Int32} {σ' : ob_St} {σ : ob_St} {v1 : Int32} {rec : ob_St → Int32 → Option (Int32 × ob_St)} (hrec : ∀ {σ : ob_St} {v1 : Int32}, rec σ v1 = some (r, σ') → ob_V g (ob_M ad) mi_X11_next (some (.int r)) σ' σ 7 [(0, .ref (ad 0)), (1, .int v1)] []) (hf : J_X11_next_34_7 rec σ v1 = some (r, σ')) : ob_V g (ob_M ad) mi_X11_next (some (.int r)) σ' σ 34 [(0, .ref (ad 0)), (1, .int v1)] [] := by
  refine vv_iload_n dX11_next_34 1 rfl rfl 35 rfl ?_
  refine vv_if_ge dX11_next_35 40 38 rfl rfl hf (fun hf => ?_) (fun hf => ?_)
  · refine vv_aload_n dX11_next_40 0 rfl rfl 41 rfl ?_
    refine vv_getI dX11_next_41 0 gf_X11_next_66 ob_m0 rfl rfl 44 rfl ?_
    refine vv_iconst dX11_next_44 1 rfl 45 rfl ?_
    refine vv_isub dX11_next_45 46 rfl ?_
    refine vv_nm hf (fun v_2 hf => ?_)
    refine vv_istore_n dX11_next_46 [(2, .int v_2), (0, .ref (ad 0)), (1, .int v1)] rfl (Nat.le_of_ble_eq_true rfl) rfl 47 rfl ?_
    refine vv_sub [1, 2, 0] [(0, .ref (ad 0)), (1, .int v1), (2, .int v_2)] rfl ?_
    exact l_X11_next_47 1000 hf
  · refine vv_iconst dX11_next_38 0 rfl 39 rfl ?_
    exact vv_iretz rfl dX11_next_39 hf
set_option maxRecDepth 100000 in
set_option maxHeartbeats 4000000 in
theorem l_X11_next_7 {g : ob_GT} {ad : Nat → Nat} {r : Int32} {σ' : ob_St} : ∀ (n : Nat) {σ : ob_St} {v1 : Int32}, L_X11_next_7 n σ v1 = some (r, σ') → ob_V g (ob_M ad) mi_X11_next (some (.int r)) σ' σ 7 [(0, .ref (ad 0)), (1, .int v1)] [] := by
  intro n
  induction n with
  | zero => intro σ v1 hf; exact absurd hf (fun h => by cases h)
  | succ n ih =>
    intro σ v1 hf
    refine vv_iload_n dX11_next_7 1 rfl rfl 8 rfl ?_
    refine vv_if_lt dX11_next_8 34 11 rfl rfl hf (fun hf => ?_) (fun hf => ?_)
    · exact j_X11_next_34_7 ih hf
    · refine vv_aload_n dX11_next_11 0 rfl rfl 12 rfl ?_
      refine vv_getR dX11_next_12 6 gf_X11_next_25 ob_m0 rfl rfl 15 rfl ?_
      refine vv_iload_n dX11_next_15 1 rfl rfl 16 rfl ?_
      refine vv_iald dX11_next_16 ob_m6 rfl 17 rfl hf (fun v_11 hf => ?_)
      refine vv_aload_n dX11_next_17 0 rfl rfl 18 rfl ?_
      refine vv_getR dX11_next_18 6 gf_X11_next_25 ob_m0 rfl rfl 21 rfl ?_
      refine vv_iload_n dX11_next_21 1 rfl rfl 22 rfl ?_
      refine vv_iconst dX11_next_22 1 rfl 23 rfl ?_
      refine vv_iadd dX11_next_23 24 rfl ?_
      refine vv_iald dX11_next_24 ob_m6 rfl 25 rfl hf (fun v_12 hf => ?_)
      refine vv_icmp_le dX11_next_25 34 28 rfl rfl hf (fun hf => ?_) (fun hf => ?_)
      · exact j_X11_next_34_7 ih hf
      · refine vv_iinc dX11_next_28 (v1 + (-1)) 1 [(1, .int (v1 + (-1))), (0, .ref (ad 0))] rfl rfl (Nat.le_of_ble_eq_true rfl) rfl 31 rfl ?_
        refine vv_goto dX11_next_31 7 rfl ?_
        refine vv_sub [1, 0] [(0, .ref (ad 0)), (1, .int (v1 + (-1)))] rfl ?_
        exact ih hf
set_option maxRecDepth 100000 in
set_option maxHeartbeats 4000000 in
theorem c_X11_next {g : ob_GT} {ad : Nat → Nat} {r : Int32} {σ' : ob_St} {σ : ob_St} (hf : f_X11_next σ = some (r, σ')) : ob_CT g (ob_M ad) mi_X11_next [.ref (ad 0)] σ (some (.int r)) σ' := by
  refine ob_ct (by decide +kernel) rfl (Nat.le_of_ble_eq_true rfl) ?_
  show ob_V g (ob_M ad) mi_X11_next (some (.int r)) σ' σ 0 [(0, .ref (ad 0))] []
  refine vv_aload_n dX11_next_0 0 rfl rfl 1 rfl ?_
  refine vv_getI dX11_next_1 0 gf_X11_next_66 ob_m0 rfl rfl 4 rfl ?_
  refine vv_iconst dX11_next_4 2 rfl 5 rfl ?_
  refine vv_isub dX11_next_5 6 rfl ?_
  refine vv_nm hf (fun v_1 hf => ?_)
  refine vv_istore_n dX11_next_6 [(1, .int v_1), (0, .ref (ad 0))] rfl (Nat.le_of_ble_eq_true rfl) rfl 7 rfl ?_
  refine vv_sub [1, 0] [(0, .ref (ad 0)), (1, .int v_1)] rfl ?_
  exact l_X11_next_7 1000 hf
abbrev mi_X11_begin_ : ob_MI := (yX11_begin_, ob_ws yX11_begin_ cX11_begin_ 2 none, cX11_begin_, 2, none, { frames := 0, cells := 0, slots := 0, locals := 0 })
theorem gf_X11_begin__66 : ob_GF mi_X11_begin_ 66 11 0 := ⟨RX11, TX11, 24, rfl, by decide, fun x h => List.mem_cons_of_mem _ (uw_X11 x h), List.mem_cons_of_mem _ tw_758⟩
theorem gf_X11_begin__25 : ob_GF mi_X11_begin_ 25 11 6 := ⟨RX11, TX11, 24, rfl, by decide, fun x h => List.mem_cons_of_mem _ (uw_X11 x h), List.mem_cons_of_mem _ tw_764⟩
noncomputable def L_X11_begin__2 : Nat → ob_St → Int32 → Option (Unit × ob_St)
  | 0, _, _ => none
  | n + 1, σ, v1 =>
    if (σ 0 0) ≤ v1 then
      some ((), σ)
    else
      ob_sd σ 6 6 v1 v1 fun σ1 =>
      L_X11_begin__2 n σ1 (v1 + 1)
noncomputable def f_X11_begin_ (σ : ob_St) : Option (Unit × ob_St) :=
  L_X11_begin__2 1000 σ 0
set_option maxRecDepth 100000 in
set_option maxHeartbeats 4000000 in
theorem l_X11_begin__2 {g : ob_GT} {ad : Nat → Nat} {r : Unit} {σ' : ob_St} : ∀ (n : Nat) {σ : ob_St} {v1 : Int32}, L_X11_begin__2 n σ v1 = some (r, σ') → ob_V g (ob_M ad) mi_X11_begin_ none σ' σ 2 [(0, .ref (ad 0)), (1, .int v1)] [] := by
  intro n
  induction n with
  | zero => intro σ v1 hf; exact absurd hf (fun h => by cases h)
  | succ n ih =>
    intro σ v1 hf
    refine vv_iload_n dX11_begin__2 1 rfl rfl 3 rfl ?_
    refine vv_aload_n dX11_begin__3 0 rfl rfl 4 rfl ?_
    refine vv_getI dX11_begin__4 0 gf_X11_begin__66 ob_m0 rfl rfl 7 rfl ?_
    refine vv_icmp_ge dX11_begin__7 23 10 rfl rfl hf (fun hf => ?_) (fun hf => ?_)
    · exact vv_ret rfl dX11_begin__23 hf
    · refine vv_aload_n dX11_begin__10 0 rfl rfl 11 rfl ?_
      refine vv_getR dX11_begin__11 6 gf_X11_begin__25 ob_m0 rfl rfl 14 rfl ?_
      refine vv_iload_n dX11_begin__14 1 rfl rfl 15 rfl ?_
      refine vv_iload_n dX11_begin__15 1 rfl rfl 16 rfl ?_
      refine vv_iast dX11_begin__16 ob_m6 rfl 17 rfl hf (fun σ1 hf => ?_)
      refine vv_iinc dX11_begin__17 (v1 + 1) 1 [(1, .int (v1 + 1)), (0, .ref (ad 0))] rfl rfl (Nat.le_of_ble_eq_true rfl) rfl 20 rfl ?_
      refine vv_goto dX11_begin__20 2 rfl ?_
      refine vv_sub [1, 0] [(0, .ref (ad 0)), (1, .int (v1 + 1))] rfl ?_
      exact ih hf
set_option maxRecDepth 100000 in
set_option maxHeartbeats 4000000 in
theorem c_X11_begin_ {g : ob_GT} {ad : Nat → Nat} {r : Unit} {σ' : ob_St} {σ : ob_St} (hf : f_X11_begin_ σ = some (r, σ')) : ob_CT g (ob_M ad) mi_X11_begin_ [.ref (ad 0)] σ none σ' := by
  refine ob_ct (by decide +kernel) rfl (Nat.le_of_ble_eq_true rfl) ?_
  show ob_V g (ob_M ad) mi_X11_begin_ none σ' σ 0 [(0, .ref (ad 0))] []
  refine vv_iconst dX11_begin__0 0 rfl 1 rfl ?_
  refine vv_istore_n dX11_begin__1 [(1, .int 0), (0, .ref (ad 0))] rfl (Nat.le_of_ble_eq_true rfl) rfl 2 rfl ?_
  refine vv_sub [1, 0] [(0, .ref (ad 0)), (1, .int 0)] rfl ?_
  exact l_X11_begin__2 1000 hf
abbrev mi_X11_bestOf : ob_MI := (yX11_bestOf, ob_ws yX11_bestOf cX11_bestOf 7 (some .int), cX11_bestOf, 7, (some .int), { frames := 4, cells := 0, slots := 0, locals := 86 })
theorem gf_X11_bestOf_49 : ob_GF mi_X11_bestOf 49 11 18 := ⟨RX11, TX11, 24, rfl, by decide, fun x h => List.mem_cons_of_mem _ (uw_X11 x h), List.mem_cons_of_mem _ tw_776⟩
theorem cv_X11_bestOf_111 : ob_CV mi_X11_bestOf mi_X11_keep 111 RX11 1 := ob_cvI rfl rfl tw_876 tw_878 tw_26 tw_59 tw_879 ⟨rfl, rfl⟩ ⟨rfl, by decide +kernel, by decide +kernel, by decide +kernel⟩ ⟨Nat.le_of_ble_eq_true rfl, Nat.le_of_ble_eq_true rfl⟩
theorem cv_X11_bestOf_173 : ob_CV mi_X11_bestOf mi_X11_begin_ 173 RX11 0 := ob_cvI rfl rfl tw_981 tw_983 tw_40 tw_59 tw_984 ⟨rfl, rfl⟩ ⟨rfl, by decide +kernel, by decide +kernel, by decide +kernel⟩ ⟨Nat.le_of_ble_eq_true rfl, Nat.le_of_ble_eq_true rfl⟩
theorem cv_X11_bestOf_115 : ob_CV mi_X11_bestOf mi_X11_again 115 RX11 1 := ob_cvI rfl rfl tw_880 tw_882 tw_27 tw_59 tw_883 ⟨rfl, rfl⟩ ⟨rfl, by decide +kernel, by decide +kernel, by decide +kernel⟩ ⟨Nat.le_of_ble_eq_true rfl, Nat.le_of_ble_eq_true rfl⟩
theorem cv_X11_bestOf_163 : ob_CV mi_X11_bestOf mi_X11_run 163 RX11 1 := ob_cvI rfl rfl tw_933 tw_935 tw_30 tw_59 tw_936 ⟨rfl, rfl⟩ ⟨rfl, by decide +kernel, by decide +kernel, by decide +kernel⟩ ⟨Nat.le_of_ble_eq_true rfl, Nat.le_of_ble_eq_true rfl⟩
theorem cv_X11_bestOf_167 : ob_CV mi_X11_bestOf mi_X11_totalOf 167 RX11 1 := ob_cvI rfl rfl tw_937 tw_939 tw_31 tw_59 tw_940 ⟨rfl, rfl⟩ ⟨rfl, by decide +kernel, by decide +kernel, by decide +kernel⟩ ⟨Nat.le_of_ble_eq_true rfl, Nat.le_of_ble_eq_true rfl⟩
theorem gf_X11_bestOf_66 : ob_GF mi_X11_bestOf 66 11 0 := ⟨RX11, TX11, 24, rfl, by decide, fun x h => List.mem_cons_of_mem _ (uw_X11 x h), List.mem_cons_of_mem _ tw_758⟩
theorem gf_X11_bestOf_58 : ob_GF mi_X11_bestOf 58 11 23 := ⟨RX11, TX11, 24, rfl, by decide, fun x h => List.mem_cons_of_mem _ (uw_X11 x h), List.mem_cons_of_mem _ tw_781⟩
theorem gf_X11_bestOf_25 : ob_GF mi_X11_bestOf 25 11 6 := ⟨RX11, TX11, 24, rfl, by decide, fun x h => List.mem_cons_of_mem _ (uw_X11 x h), List.mem_cons_of_mem _ tw_764⟩
theorem cv_X11_bestOf_175 : ob_CV mi_X11_bestOf mi_X11_next 175 RX11 0 := ob_cvI rfl rfl tw_985 tw_987 tw_41 tw_59 tw_988 ⟨rfl, rfl⟩ ⟨rfl, by decide +kernel, by decide +kernel, by decide +kernel⟩ ⟨Nat.le_of_ble_eq_true rfl, Nat.le_of_ble_eq_true rfl⟩
noncomputable def L_X11_bestOf_75 : Nat → ob_St → Int32 → Int32 → Int32 → Int32 → Option (Unit × ob_St)
  | 0, _, _, _, _, _ => none
  | n + 1, σ, v1, v2, v3, v6 =>
    if (σ 0 0) ≤ v6 then
      some ((), σ)
    else
      ob_ld σ 6 6 v6 fun v_11 =>
      ob_sd σ 17 6 v6 v_11 fun σ12 =>
      L_X11_bestOf_75 n σ12 v1 v2 v3 (v6 + 1)
noncomputable def J_X11_bestOf_104_19 (rec : ob_St → Int32 → Int32 → Int32 → Int32 → Option (Int32 × ob_St)) (σ : ob_St) (v1 : Int32) (v2 : Int32) (v3 : Int32) : Option (Int32 × ob_St) :=
  ob_bd (f_X11_next σ) fun r15 σ16 =>
  rec σ16 v1 v2 v3 r15
noncomputable def J_X11_bestOf_67_19 (rec : ob_St → Int32 → Int32 → Int32 → Int32 → Option (Int32 × ob_St)) (σ : ob_St) (v1 : Int32) (v5 : Int32) : Option (Int32 × ob_St) :=
  ob_bd (L_X11_bestOf_75 1000 σ v1 1 v5 0) fun q13 σ14 =>
  J_X11_bestOf_104_19 rec σ14 v1 1 v5
noncomputable def J_X11_bestOf_52_19 (rec : ob_St → Int32 → Int32 → Int32 → Int32 → Option (Int32 × ob_St)) (σ : ob_St) (v1 : Int32) (v2 : Int32) (v3 : Int32) (v5 : Int32) : Option (Int32 × ob_St) :=
  if v5 ≤ v3 then
    J_X11_bestOf_104_19 rec σ v1 v2 v3
  else
    J_X11_bestOf_67_19 rec σ v1 v5
noncomputable def L_X11_bestOf_19 : Nat → ob_St → Int32 → Int32 → Int32 → Int32 → Option (Int32 × ob_St)
  | 0, _, _, _, _, _ => none
  | n + 1, σ, v1, v2, v3, v4 =>
    if v4 = 0 then
      ob_bd (f_X11_again 14 σ) fun _ σ6 =>
      some (v3, σ6)
    else
      ob_bd (f_X11_run σ (-9)) fun _ σ8 =>
      ob_bd (f_X11_totalOf σ8 v1) fun r9 σ10 =>
      if v2 = 0 then
        J_X11_bestOf_67_19 (fun σ v1 v2 v3 v4 => L_X11_bestOf_19 n σ v1 v2 v3 v4) σ10 v1 r9
      else
        if v1 = 2 then
          J_X11_bestOf_52_19 (fun σ v1 v2 v3 v4 => L_X11_bestOf_19 n σ v1 v2 v3 v4) σ10 v1 v2 v3 r9
        else
          if v1 = 7 then
            J_X11_bestOf_52_19 (fun σ v1 v2 v3 v4 => L_X11_bestOf_19 n σ v1 v2 v3 v4) σ10 v1 v2 v3 r9
          else
            if v3 ≤ r9 then
              J_X11_bestOf_104_19 (fun σ v1 v2 v3 v4 => L_X11_bestOf_19 n σ v1 v2 v3 v4) σ10 v1 v2 v3
            else
              J_X11_bestOf_67_19 (fun σ v1 v2 v3 v4 => L_X11_bestOf_19 n σ v1 v2 v3 v4) σ10 v1 r9
noncomputable def f_X11_bestOf (σ : ob_St) (p1 : Int32) : Option (Int32 × ob_St) :=
  ob_bd (f_X11_keep 14 σ) fun _ σ2 =>
  ob_bd (f_X11_begin_ σ2) fun _ σ4 =>
  L_X11_bestOf_19 1000 σ4 p1 0 0 1
set_option maxRecDepth 100000 in
set_option maxHeartbeats 4000000 in
theorem l_X11_bestOf_75 {g : ob_GT} {ad : Nat → Nat} {ov : Option Value} {σ' σq : ob_St} {q : Unit} : ∀ (n : Nat) {σ : ob_St} {v1 : Int32} {v2 : Int32} {v3 : Int32} {v6 : Int32}, L_X11_bestOf_75 n σ v1 v2 v3 v6 = some (q, σq) → ob_V g (ob_M ad) mi_X11_bestOf ov σ' σq 104 [(0, .ref (ad 0)), (1, .int v1), (2, .int v2), (3, .int v3)] [] → ob_V g (ob_M ad) mi_X11_bestOf ov σ' σ 75 [(0, .ref (ad 0)), (1, .int v1), (2, .int v2), (3, .int v3), (6, .int v6)] [] := by
  intro n
  induction n with
  | zero => intro σ v1 v2 v3 v6 hf kk; exact absurd hf (fun h => by cases h)
  | succ n ih =>
    intro σ v1 v2 v3 v6 hf kk
    refine vv_iload dX11_bestOf_75 4 rfl 77 rfl ?_
    refine vv_aload_n dX11_bestOf_77 0 rfl rfl 78 rfl ?_
    refine vv_getI dX11_bestOf_78 0 gf_X11_bestOf_66 ob_m0 rfl rfl 81 rfl ?_
    refine vv_icmp_ge dX11_bestOf_81 104 84 rfl rfl hf (fun hf => ?_) (fun hf => ?_)
    · refine vv_sub [0, 1, 2, 3] [(0, .ref (ad 0)), (1, .int v1), (2, .int v2), (3, .int v3)] rfl ?_
      obtain ⟨rfl, rfl⟩ := Prod.mk.inj (Option.some.inj hf)
      exact kk
    · refine vv_aload_n dX11_bestOf_84 0 rfl rfl 85 rfl ?_
      refine vv_getR dX11_bestOf_85 23 gf_X11_bestOf_58 ob_m0 rfl rfl 88 rfl ?_
      refine vv_iload dX11_bestOf_88 4 rfl 90 rfl ?_
      refine vv_aload_n dX11_bestOf_90 0 rfl rfl 91 rfl ?_
      refine vv_getR dX11_bestOf_91 6 gf_X11_bestOf_25 ob_m0 rfl rfl 94 rfl ?_
      refine vv_iload dX11_bestOf_94 4 rfl 96 rfl ?_
      refine vv_iald dX11_bestOf_96 ob_m6 rfl 97 rfl hf (fun v_11 hf => ?_)
      refine vv_iast dX11_bestOf_97 ob_m17 rfl 98 rfl hf (fun σ12 hf => ?_)
      refine vv_iinc dX11_bestOf_98 (v6 + 1) 4 [(6, .int (v6 + 1)), (0, .ref (ad 0)), (1, .int v1), (2, .int v2), (3, .int v3)] rfl rfl (Nat.le_of_ble_eq_true rfl) rfl 101 rfl ?_
      refine vv_goto dX11_bestOf_101 75 rfl ?_
      refine vv_sub [1, 2, 3, 4, 0] [(0, .ref (ad 0)), (1, .int v1), (2, .int v2), (3, .int v3), (6, .int (v6 + 1))] rfl ?_
      exact ih hf kk
set_option maxRecDepth 100000 in
set_option maxHeartbeats 4000000 in
theorem j_X11_bestOf_104_19 {g : ob_GT} {ad : Nat → Nat} {r : Int32} {σ' : ob_St} {σ : ob_St} {v1 : Int32} {v2 : Int32} {v3 : Int32} {rec : ob_St → Int32 → Int32 → Int32 → Int32 → Option (Int32 × ob_St)} (hrec : ∀ {σ : ob_St} {v1 : Int32} {v2 : Int32} {v3 : Int32} {v4 : Int32}, rec σ v1 v2 v3 v4 = some (r, σ') → ob_V g (ob_M ad) mi_X11_bestOf (some (.int r)) σ' σ 19 [(0, .ref (ad 0)), (1, .int v1), (2, .int v2), (3, .int v3), (4, .int v4)] []) (hf : J_X11_bestOf_104_19 rec σ v1 v2 v3 = some (r, σ')) : ob_V g (ob_M ad) mi_X11_bestOf (some (.int r)) σ' σ 104 [(0, .ref (ad 0)), (1, .int v1), (2, .int v2), (3, .int v3)] [] := by
  refine vv_aload_n dX11_bestOf_104 0 rfl rfl 105 rfl ?_
  refine vv_callV [] [] (fun _ _ h => c_X11_next h) (ob_rec ob_m0 rfl rfl) cv_X11_bestOf_175 rfl (Nat.le_of_ble_eq_true rfl) 108 rfl dX11_bestOf_105 rfl hf (fun r15 σ16 hf => ?_)
  refine vv_istore dX11_bestOf_108 [(4, .int r15), (0, .ref (ad 0)), (1, .int v1), (2, .int v2), (3, .int v3)] (Nat.le_of_ble_eq_true rfl) rfl 110 rfl ?_
  refine vv_goto dX11_bestOf_110 19 rfl ?_
  refine vv_sub [1, 2, 3, 4, 0] [(0, .ref (ad 0)), (1, .int v1), (2, .int v2), (3, .int v3), (4, .int r15)] rfl ?_
  exact hrec hf
set_option maxRecDepth 100000 in
set_option maxHeartbeats 4000000 in
theorem j_X11_bestOf_67_19 {g : ob_GT} {ad : Nat → Nat} {r : Int32} {σ' : ob_St} {σ : ob_St} {v1 : Int32} {v5 : Int32} {rec : ob_St → Int32 → Int32 → Int32 → Int32 → Option (Int32 × ob_St)} (hrec : ∀ {σ : ob_St} {v1 : Int32} {v2 : Int32} {v3 : Int32} {v4 : Int32}, rec σ v1 v2 v3 v4 = some (r, σ') → ob_V g (ob_M ad) mi_X11_bestOf (some (.int r)) σ' σ 19 [(0, .ref (ad 0)), (1, .int v1), (2, .int v2), (3, .int v3), (4, .int v4)] []) (hf : J_X11_bestOf_67_19 rec σ v1 v5 = some (r, σ')) : ob_V g (ob_M ad) mi_X11_bestOf (some (.int r)) σ' σ 67 [(0, .ref (ad 0)), (1, .int v1), (5, .int v5)] [] := by
  refine vv_iconst dX11_bestOf_67 1 rfl 68 rfl ?_
  refine vv_istore_n dX11_bestOf_68 [(2, .int 1), (0, .ref (ad 0)), (1, .int v1), (5, .int v5)] rfl (Nat.le_of_ble_eq_true rfl) rfl 69 rfl ?_
  refine vv_iload dX11_bestOf_69 3 rfl 71 rfl ?_
  refine vv_istore_n dX11_bestOf_71 [(3, .int v5), (2, .int 1), (0, .ref (ad 0)), (1, .int v1), (5, .int v5)] rfl (Nat.le_of_ble_eq_true rfl) rfl 72 rfl ?_
  refine vv_iconst dX11_bestOf_72 0 rfl 73 rfl ?_
  refine vv_istore dX11_bestOf_73 [(6, .int 0), (3, .int v5), (2, .int 1), (0, .ref (ad 0)), (1, .int v1), (5, .int v5)] (Nat.le_of_ble_eq_true rfl) rfl 75 rfl ?_
  refine vv_sub [3, 4, 2, 1, 0] [(0, .ref (ad 0)), (1, .int v1), (2, .int 1), (3, .int v5), (6, .int 0)] rfl ?_
  obtain ⟨q13, σ14, hL, hf⟩ := ob_bdE hf
  refine l_X11_bestOf_75 1000 hL ?_
  exact j_X11_bestOf_104_19 hrec hf
set_option maxRecDepth 100000 in
set_option maxHeartbeats 4000000 in
theorem j_X11_bestOf_52_19 {g : ob_GT} {ad : Nat → Nat} {r : Int32} {σ' : ob_St} {σ : ob_St} {v1 : Int32} {v2 : Int32} {v3 : Int32} {v5 : Int32} {rec : ob_St → Int32 → Int32 → Int32 → Int32 → Option (Int32 × ob_St)} (hrec : ∀ {σ : ob_St} {v1 : Int32} {v2 : Int32} {v3 : Int32} {v4 : Int32}, rec σ v1 v2 v3 v4 = some (r, σ') → ob_V g (ob_M ad) mi_X11_bestOf (some (.int r)) σ' σ 19 [(0, .ref (ad 0)), (1, .int v1), (2, .int v2), (3, .int v3), (4, .int v4)] []) (hf : J_X11_bestOf_52_19 rec σ v1 v2 v3 v5 = some (r, σ')) : ob_V g (ob_M ad) mi_X11_bestOf (some (.int r)) σ' σ 52 [(0, .ref (ad 0)), (1, .int v1), (2, .int v2), (3, .int v3), (5, .int v5)] [] := by
  refine vv_iload dX11_bestOf_52 4 rfl 54 rfl ?_
  refine vv_iload_n dX11_bestOf_54 3 rfl rfl 55 rfl ?_
  refine vv_icmp_le dX11_bestOf_55 104 58 rfl rfl hf (fun hf => ?_) (fun hf => ?_)
  · refine vv_sub [0, 1, 2, 3] [(0, .ref (ad 0)), (1, .int v1), (2, .int v2), (3, .int v3)] rfl ?_
    exact j_X11_bestOf_104_19 hrec hf
  · refine vv_goto dX11_bestOf_58 67 rfl ?_
    refine vv_sub [0, 1, 4] [(0, .ref (ad 0)), (1, .int v1), (5, .int v5)] rfl ?_
    exact j_X11_bestOf_67_19 hrec hf
set_option maxRecDepth 100000 in
set_option maxHeartbeats 4000000 in
theorem l_X11_bestOf_19 {g : ob_GT} {ad : Nat → Nat} {r : Int32} {σ' : ob_St} : ∀ (n : Nat) {σ : ob_St} {v1 : Int32} {v2 : Int32} {v3 : Int32} {v4 : Int32}, L_X11_bestOf_19 n σ v1 v2 v3 v4 = some (r, σ') → ob_V g (ob_M ad) mi_X11_bestOf (some (.int r)) σ' σ 19 [(0, .ref (ad 0)), (1, .int v1), (2, .int v2), (3, .int v3), (4, .int v4)] [] := by
  intro n
  induction n with
  | zero => intro σ v1 v2 v3 v4 hf; exact absurd hf (fun h => by cases h)
  | succ n ih =>
    intro σ v1 v2 v3 v4 hf
    refine vv_iload dX11_bestOf_19 4 rfl 21 rfl ?_
    refine vv_if_eq dX11_bestOf_21 113 24 rfl rfl hf (fun hf => ?_) (fun hf => ?_)
    · refine vv_aload_n dX11_bestOf_113 0 rfl rfl 114 rfl ?_
      refine vv_aload_n dX11_bestOf_114 0 rfl rfl 115 rfl ?_
      refine vv_getR dX11_bestOf_115 18 gf_X11_bestOf_49 ob_m0 rfl rfl 118 rfl ?_
      refine vv_callVu [.ref (ad 14)] [] (fun _ _ h => c_X11_again ⟨ob_m14, rfl⟩ h) (ob_rec ob_m0 rfl rfl) cv_X11_bestOf_115 rfl (Nat.le_of_ble_eq_true rfl) 121 rfl dX11_bestOf_118 rfl hf (fun _ σ6 hf => ?_)
      refine vv_iload_n dX11_bestOf_121 3 rfl rfl 122 rfl ?_
      exact vv_ireti rfl dX11_bestOf_122 hf
    · refine vv_aload_n dX11_bestOf_24 0 rfl rfl 25 rfl ?_
      refine vv_bipush dX11_bestOf_25 (-9) rfl 27 rfl ?_
      refine vv_callVu [.int (-9)] [] (fun _ _ h => c_X11_run h) (ob_rec ob_m0 rfl rfl) cv_X11_bestOf_163 rfl (Nat.le_of_ble_eq_true rfl) 30 rfl dX11_bestOf_27 rfl hf (fun _ σ8 hf => ?_)
      refine vv_aload_n dX11_bestOf_30 0 rfl rfl 31 rfl ?_
      refine vv_iload_n dX11_bestOf_31 1 rfl rfl 32 rfl ?_
      refine vv_callV [.int v1] [] (fun _ _ h => c_X11_totalOf h) (ob_rec ob_m0 rfl rfl) cv_X11_bestOf_167 rfl (Nat.le_of_ble_eq_true rfl) 35 rfl dX11_bestOf_32 rfl hf (fun r9 σ10 hf => ?_)
      refine vv_istore dX11_bestOf_35 [(5, .int r9), (0, .ref (ad 0)), (1, .int v1), (2, .int v2), (3, .int v3), (4, .int v4)] (Nat.le_of_ble_eq_true rfl) rfl 37 rfl ?_
      refine vv_iload_n dX11_bestOf_37 3 rfl rfl 38 rfl ?_
      refine vv_if_eq dX11_bestOf_38 67 41 rfl rfl hf (fun hf => ?_) (fun hf => ?_)
      · refine vv_sub [1, 2, 0] [(0, .ref (ad 0)), (1, .int v1), (5, .int r9)] rfl ?_
        exact j_X11_bestOf_67_19 ih hf
      · refine vv_iload_n dX11_bestOf_41 2 rfl rfl 42 rfl ?_
        refine vv_iconst dX11_bestOf_42 2 rfl 43 rfl ?_
        refine vv_icmp_eq dX11_bestOf_43 52 46 rfl rfl hf (fun hf => ?_) (fun hf => ?_)
        · refine vv_sub [1, 2, 3, 4, 0] [(0, .ref (ad 0)), (1, .int v1), (2, .int v2), (3, .int v3), (5, .int r9)] rfl ?_
          exact j_X11_bestOf_52_19 ih hf
        · refine vv_iload_n dX11_bestOf_46 2 rfl rfl 47 rfl ?_
          refine vv_bipush dX11_bestOf_47 7 rfl 49 rfl ?_
          refine vv_icmp_ne dX11_bestOf_49 61 52 rfl rfl hf (fun hf => ?_) (fun hf => ?_)
          · refine vv_iload dX11_bestOf_61 0 rfl 63 rfl ?_
            refine vv_iload_n dX11_bestOf_63 4 rfl rfl 64 rfl ?_
            refine vv_icmp_ge dX11_bestOf_64 104 67 rfl rfl hf (fun hf => ?_) (fun hf => ?_)
            · refine vv_sub [1, 2, 3, 4] [(0, .ref (ad 0)), (1, .int v1), (2, .int v2), (3, .int v3)] rfl ?_
              exact j_X11_bestOf_104_19 ih hf
            · refine vv_sub [1, 2, 0] [(0, .ref (ad 0)), (1, .int v1), (5, .int r9)] rfl ?_
              exact j_X11_bestOf_67_19 ih hf
          · refine vv_sub [1, 2, 3, 4, 0] [(0, .ref (ad 0)), (1, .int v1), (2, .int v2), (3, .int v3), (5, .int r9)] rfl ?_
            exact j_X11_bestOf_52_19 ih hf
set_option maxRecDepth 100000 in
set_option maxHeartbeats 4000000 in
theorem c_X11_bestOf {g : ob_GT} {ad : Nat → Nat} {r : Int32} {σ' : ob_St} {σ : ob_St} {p1 : Int32} (hf : f_X11_bestOf σ p1 = some (r, σ')) : ob_CT g (ob_M ad) mi_X11_bestOf [.ref (ad 0), .int p1] σ (some (.int r)) σ' := by
  refine ob_ct (by decide +kernel) rfl (Nat.le_of_ble_eq_true rfl) ?_
  show ob_V g (ob_M ad) mi_X11_bestOf (some (.int r)) σ' σ 0 [(0, .ref (ad 0)), (1, .int p1)] []
  refine vv_aload_n dX11_bestOf_0 0 rfl rfl 1 rfl ?_
  refine vv_aload_n dX11_bestOf_1 0 rfl rfl 2 rfl ?_
  refine vv_getR dX11_bestOf_2 18 gf_X11_bestOf_49 ob_m0 rfl rfl 5 rfl ?_
  refine vv_callVu [.ref (ad 14)] [] (fun _ _ h => c_X11_keep ⟨ob_m14, rfl⟩ h) (ob_rec ob_m0 rfl rfl) cv_X11_bestOf_111 rfl (Nat.le_of_ble_eq_true rfl) 8 rfl dX11_bestOf_5 rfl hf (fun _ σ2 hf => ?_)
  refine vv_aload_n dX11_bestOf_8 0 rfl rfl 9 rfl ?_
  refine vv_callVu [] [] (fun _ _ h => c_X11_begin_ h) (ob_rec ob_m0 rfl rfl) cv_X11_bestOf_173 rfl (Nat.le_of_ble_eq_true rfl) 12 rfl dX11_bestOf_9 rfl hf (fun _ σ4 hf => ?_)
  refine vv_iconst dX11_bestOf_12 0 rfl 13 rfl ?_
  refine vv_istore_n dX11_bestOf_13 [(2, .int 0), (0, .ref (ad 0)), (1, .int p1)] rfl (Nat.le_of_ble_eq_true rfl) rfl 14 rfl ?_
  refine vv_iconst dX11_bestOf_14 0 rfl 15 rfl ?_
  refine vv_istore_n dX11_bestOf_15 [(3, .int 0), (2, .int 0), (0, .ref (ad 0)), (1, .int p1)] rfl (Nat.le_of_ble_eq_true rfl) rfl 16 rfl ?_
  refine vv_iconst dX11_bestOf_16 1 rfl 17 rfl ?_
  refine vv_istore dX11_bestOf_17 [(4, .int 1), (3, .int 0), (2, .int 0), (0, .ref (ad 0)), (1, .int p1)] (Nat.le_of_ble_eq_true rfl) rfl 19 rfl ?_
  refine vv_sub [3, 4, 2, 1, 0] [(0, .ref (ad 0)), (1, .int p1), (2, .int 0), (3, .int 0), (4, .int 1)] rfl ?_
  exact l_X11_bestOf_19 1000 hf
abbrev mi_X11_best : ob_MI := (yX11_best, ob_ws yX11_best cX11_best 2 (some .int), cX11_best, 2, (some .int), { frames := 5, cells := 0, slots := 0, locals := 112 })
theorem cs_X11_best_70 : ob_CS mi_X11_best mi_X11_within 70 3 := ob_csI rfl rfl tw_857 tw_858 tw_59 tw_859 ⟨rfl, rfl⟩ ⟨by decide +kernel, by decide +kernel, by decide +kernel⟩ ⟨Nat.le_of_ble_eq_true rfl, Nat.le_of_ble_eq_true rfl⟩
theorem cv_X11_best_170 : ob_CV mi_X11_best mi_X11_noMuch 170 RX11 1 := ob_cvI rfl rfl tw_928 tw_930 tw_29 tw_59 tw_931 ⟨rfl, rfl⟩ ⟨rfl, by decide +kernel, by decide +kernel, by decide +kernel⟩ ⟨Nat.le_of_ble_eq_true rfl, Nat.le_of_ble_eq_true rfl⟩
theorem cv_X11_best_179 : ob_CV mi_X11_best mi_X11_bestOf 179 RX11 1 := ob_cvI rfl rfl tw_977 tw_979 tw_39 tw_59 tw_980 ⟨rfl, rfl⟩ ⟨rfl, by decide +kernel, by decide +kernel, by decide +kernel⟩ ⟨Nat.le_of_ble_eq_true rfl, Nat.le_of_ble_eq_true rfl⟩
noncomputable def f_X11_best (σ : ob_St) (p1 : Int32) : Option (Int32 × ob_St) :=
  ob_bd (f_X11_within σ p1 0 7) fun r1 σ2 =>
  if r1 = 0 then
    ob_bd (f_X11_noMuch σ2 (-2)) fun r3 σ4 =>
    some (r3, σ4)
  else
    ob_bd (f_X11_bestOf σ2 p1) fun r5 σ6 =>
    some (r5, σ6)
set_option maxRecDepth 100000 in
set_option maxHeartbeats 4000000 in
theorem c_X11_best {g : ob_GT} {ad : Nat → Nat} {r : Int32} {σ' : ob_St} {σ : ob_St} {p1 : Int32} (hf : f_X11_best σ p1 = some (r, σ')) : ob_CT g (ob_M ad) mi_X11_best [.ref (ad 0), .int p1] σ (some (.int r)) σ' := by
  refine ob_ct (by decide +kernel) rfl (Nat.le_of_ble_eq_true rfl) ?_
  show ob_V g (ob_M ad) mi_X11_best (some (.int r)) σ' σ 0 [(0, .ref (ad 0)), (1, .int p1)] []
  refine vv_iload_n dX11_best_0 1 rfl rfl 1 rfl ?_
  refine vv_iconst dX11_best_1 0 rfl 2 rfl ?_
  refine vv_bipush dX11_best_2 7 rfl 4 rfl ?_
  refine vv_callS [.int p1, .int 0, .int 7] [] (fun _ _ h => c_X11_within h) cs_X11_best_70 rfl (Nat.le_of_ble_eq_true rfl) 7 rfl dX11_best_4 rfl hf (fun r1 σ2 hf => ?_)
  refine vv_if_eq dX11_best_7 18 10 rfl rfl hf (fun hf => ?_) (fun hf => ?_)
  · refine vv_aload_n dX11_best_18 0 rfl rfl 19 rfl ?_
    refine vv_bipush dX11_best_19 (-2) rfl 21 rfl ?_
    refine vv_callV [.int (-2)] [] (fun _ _ h => c_X11_noMuch h) (ob_rec ob_m0 rfl rfl) cv_X11_best_170 rfl (Nat.le_of_ble_eq_true rfl) 24 rfl dX11_best_21 rfl hf (fun r3 σ4 hf => ?_)
    exact vv_ireti rfl dX11_best_24 hf
  · refine vv_aload_n dX11_best_10 0 rfl rfl 11 rfl ?_
    refine vv_iload_n dX11_best_11 1 rfl rfl 12 rfl ?_
    refine vv_callV [.int p1] [] (fun _ _ h => c_X11_bestOf h) (ob_rec ob_m0 rfl rfl) cv_X11_best_179 rfl (Nat.le_of_ble_eq_true rfl) 15 rfl dX11_best_12 rfl hf (fun r5 σ6 hf => ?_)
    refine vv_goto dX11_best_15 24 rfl ?_
    exact vv_ireti rfl dX11_best_24 hf
abbrev mi_X11_bestAt : ob_MI := (yX11_bestAt, ob_ws yX11_bestAt cX11_bestAt 3 (some .int), cX11_bestAt, 3, (some .int), { frames := 5, cells := 0, slots := 0, locals := 112 })
theorem cs_X11_bestAt_70 : ob_CS mi_X11_bestAt mi_X11_within 70 3 := ob_csI rfl rfl tw_857 tw_858 tw_59 tw_859 ⟨rfl, rfl⟩ ⟨by decide +kernel, by decide +kernel, by decide +kernel⟩ ⟨Nat.le_of_ble_eq_true rfl, Nat.le_of_ble_eq_true rfl⟩
theorem cv_X11_bestAt_97 : ob_CV mi_X11_bestAt mi_X11_isDish 97 RX11 1 := ob_cvI rfl rfl tw_864 tw_866 tw_23 tw_59 tw_867 ⟨rfl, rfl⟩ ⟨rfl, by decide +kernel, by decide +kernel, by decide +kernel⟩ ⟨Nat.le_of_ble_eq_true rfl, Nat.le_of_ble_eq_true rfl⟩
theorem cv_X11_bestAt_179 : ob_CV mi_X11_bestAt mi_X11_bestOf 179 RX11 1 := ob_cvI rfl rfl tw_977 tw_979 tw_39 tw_59 tw_980 ⟨rfl, rfl⟩ ⟨rfl, by decide +kernel, by decide +kernel, by decide +kernel⟩ ⟨Nat.le_of_ble_eq_true rfl, Nat.le_of_ble_eq_true rfl⟩
theorem gf_X11_bestAt_58 : ob_GF mi_X11_bestAt 58 11 23 := ⟨RX11, TX11, 24, rfl, by decide, fun x h => List.mem_cons_of_mem _ (uw_X11 x h), List.mem_cons_of_mem _ tw_781⟩
theorem cv_X11_bestAt_62 : ob_CV mi_X11_bestAt mi_X11_no 62 RX11 1 := ob_cvI rfl rfl tw_835 tw_837 tw_18 tw_59 tw_838 ⟨rfl, rfl⟩ ⟨rfl, by decide +kernel, by decide +kernel, by decide +kernel⟩ ⟨Nat.le_of_ble_eq_true rfl, Nat.le_of_ble_eq_true rfl⟩
noncomputable def f_X11_bestAt (σ : ob_St) (p1 : Int32) (p2 : Int32) : Option (Int32 × ob_St) :=
  ob_bd (f_X11_within σ p1 0 7) fun r1 σ2 =>
  if r1 = 0 then
    ob_bd (f_X11_no σ2 (-2)) fun r10 σ11 =>
    some (r10, σ11)
  else
    ob_bd (f_X11_isDish σ2 p2) fun r3 σ4 =>
    if r3 = 0 then
      ob_bd (f_X11_no σ4 (-1)) fun r8 σ9 =>
      some (r8, σ9)
    else
      ob_bd (f_X11_bestOf σ4 p1) fun r5 σ6 =>
      ob_ld σ6 17 6 p2 fun v_7 =>
      some (v_7, σ6)
set_option maxRecDepth 100000 in
set_option maxHeartbeats 4000000 in
theorem c_X11_bestAt {g : ob_GT} {ad : Nat → Nat} {r : Int32} {σ' : ob_St} {σ : ob_St} {p1 : Int32} {p2 : Int32} (hf : f_X11_bestAt σ p1 p2 = some (r, σ')) : ob_CT g (ob_M ad) mi_X11_bestAt [.ref (ad 0), .int p1, .int p2] σ (some (.int r)) σ' := by
  refine ob_ct (by decide +kernel) rfl (Nat.le_of_ble_eq_true rfl) ?_
  show ob_V g (ob_M ad) mi_X11_bestAt (some (.int r)) σ' σ 0 [(0, .ref (ad 0)), (1, .int p1), (2, .int p2)] []
  refine vv_iload_n dX11_bestAt_0 1 rfl rfl 1 rfl ?_
  refine vv_iconst dX11_bestAt_1 0 rfl 2 rfl ?_
  refine vv_bipush dX11_bestAt_2 7 rfl 4 rfl ?_
  refine vv_callS [.int p1, .int 0, .int 7] [] (fun _ _ h => c_X11_within h) cs_X11_bestAt_70 rfl (Nat.le_of_ble_eq_true rfl) 7 rfl dX11_bestAt_4 rfl hf (fun r1 σ2 hf => ?_)
  refine vv_if_ne dX11_bestAt_7 17 10 rfl rfl hf (fun hf => ?_) (fun hf => ?_)
  · refine vv_aload_n dX11_bestAt_17 0 rfl rfl 18 rfl ?_
    refine vv_iload_n dX11_bestAt_18 2 rfl rfl 19 rfl ?_
    refine vv_callV [.int p2] [] (fun _ _ h => c_X11_isDish h) (ob_rec ob_m0 rfl rfl) cv_X11_bestAt_97 rfl (Nat.le_of_ble_eq_true rfl) 22 rfl dX11_bestAt_19 rfl hf (fun r3 σ4 hf => ?_)
    refine vv_if_ne dX11_bestAt_22 31 25 rfl rfl hf (fun hf => ?_) (fun hf => ?_)
    · refine vv_aload_n dX11_bestAt_31 0 rfl rfl 32 rfl ?_
      refine vv_iload_n dX11_bestAt_32 1 rfl rfl 33 rfl ?_
      refine vv_callV [.int p1] [] (fun _ _ h => c_X11_bestOf h) (ob_rec ob_m0 rfl rfl) cv_X11_bestAt_179 rfl (Nat.le_of_ble_eq_true rfl) 36 rfl dX11_bestAt_33 rfl hf (fun r5 σ6 hf => ?_)
      refine vv_pop dX11_bestAt_36 rfl 37 rfl ?_
      refine vv_aload_n dX11_bestAt_37 0 rfl rfl 38 rfl ?_
      refine vv_getR dX11_bestAt_38 23 gf_X11_bestAt_58 ob_m0 rfl rfl 41 rfl ?_
      refine vv_iload_n dX11_bestAt_41 2 rfl rfl 42 rfl ?_
      refine vv_iald dX11_bestAt_42 ob_m17 rfl 43 rfl hf (fun v_7 hf => ?_)
      exact vv_ireti rfl dX11_bestAt_43 hf
    · refine vv_aload_n dX11_bestAt_25 0 rfl rfl 26 rfl ?_
      refine vv_iconst dX11_bestAt_26 (-1) rfl 27 rfl ?_
      refine vv_callV [.int (-1)] [] (fun _ _ h => c_X11_no h) (ob_rec ob_m0 rfl rfl) cv_X11_bestAt_62 rfl (Nat.le_of_ble_eq_true rfl) 30 rfl dX11_bestAt_27 rfl hf (fun r8 σ9 hf => ?_)
      exact vv_ireti rfl dX11_bestAt_30 hf
  · refine vv_aload_n dX11_bestAt_10 0 rfl rfl 11 rfl ?_
    refine vv_bipush dX11_bestAt_11 (-2) rfl 13 rfl ?_
    refine vv_callV [.int (-2)] [] (fun _ _ h => c_X11_no h) (ob_rec ob_m0 rfl rfl) cv_X11_bestAt_62 rfl (Nat.le_of_ble_eq_true rfl) 16 rfl dX11_bestAt_13 rfl hf (fun r10 σ11 hf => ?_)
    exact vv_ireti rfl dX11_bestAt_16 hf
abbrev mi_X11_bestSet : ob_MI := (yX11_bestSet, ob_ws yX11_bestSet cX11_bestSet 7 (some .int), cX11_bestSet, 7, (some .int), { frames := 5, cells := 0, slots := 0, locals := 106 })
theorem gf_X11_bestSet_28 : ob_GF mi_X11_bestSet 28 11 7 := ⟨RX11, TX11, 24, rfl, by decide, fun x h => List.mem_cons_of_mem _ (uw_X11 x h), List.mem_cons_of_mem _ tw_765⟩
theorem cs_X11_bestSet_118 : ob_CS mi_X11_bestSet mi_X11_leastOf 118 1 := ob_csI rfl rfl tw_908 tw_909 tw_59 tw_910 ⟨rfl, rfl⟩ ⟨by decide +kernel, by decide +kernel, by decide +kernel⟩ ⟨Nat.le_of_ble_eq_true rfl, Nat.le_of_ble_eq_true rfl⟩
theorem cv_X11_bestSet_182 : ob_CV mi_X11_bestSet mi_X11_worth 182 RX11 0 := ob_cvI rfl rfl tw_997 tw_999 tw_42 tw_59 tw_1000 ⟨rfl, rfl⟩ ⟨rfl, by decide +kernel, by decide +kernel, by decide +kernel⟩ ⟨Nat.le_of_ble_eq_true rfl, Nat.le_of_ble_eq_true rfl⟩
theorem cs_X11_bestSet_121 : ob_CS mi_X11_bestSet mi_X11_mostOf 121 1 := ob_csI rfl rfl tw_911 tw_912 tw_59 tw_913 ⟨rfl, rfl⟩ ⟨by decide +kernel, by decide +kernel, by decide +kernel⟩ ⟨Nat.le_of_ble_eq_true rfl, Nat.le_of_ble_eq_true rfl⟩
theorem cv_X11_bestSet_62 : ob_CV mi_X11_bestSet mi_X11_no 62 RX11 1 := ob_cvI rfl rfl tw_835 tw_837 tw_18 tw_59 tw_838 ⟨rfl, rfl⟩ ⟨rfl, by decide +kernel, by decide +kernel, by decide +kernel⟩ ⟨Nat.le_of_ble_eq_true rfl, Nat.le_of_ble_eq_true rfl⟩
noncomputable def J_X11_bestSet_94_54 (rec : ob_St → Int32 → Int32 → Int32 → Int32 → Int32 → Option (Int32 × ob_St)) (σ : ob_St) (v1 : Int32) (v2 : Int32) (v3 : Int32) (v4 : Int32) (v5 : Int32) : Option (Int32 × ob_St) :=
  if v1 = 5 then
    ob_nm (v5 + 10) fun v_14 =>
    rec σ v1 v2 v3 v4 v_14
  else
    ob_nm (v5 + 1) fun v_13 =>
    rec σ v1 v2 v3 v4 v_13
noncomputable def L_X11_bestSet_54 : Nat → ob_St → Int32 → Int32 → Int32 → Int32 → Int32 → Option (Int32 × ob_St)
  | 0, _, _, _, _, _, _ => none
  | n + 1, σ, v1, v2, v3, v4, v5 =>
    ob_bd (f_X11_mostOf σ v1) fun r7 σ8 =>
    if r7 < v5 then
      ob_sd σ8 7 6 v1 v2 fun σ9 =>
      some (v3, σ9)
    else
      ob_sd σ8 7 6 v1 v5 fun σ10 =>
      ob_bd (f_X11_worth σ10) fun r11 σ12 =>
      if v4 < r11 then
        J_X11_bestSet_94_54 (fun σ v1 v2 v3 v4 v5 => L_X11_bestSet_54 n σ v1 v2 v3 v4 v5) σ12 v1 v2 v5 r11 v5
      else
        J_X11_bestSet_94_54 (fun σ v1 v2 v3 v4 v5 => L_X11_bestSet_54 n σ v1 v2 v3 v4 v5) σ12 v1 v2 v3 v4 v5
noncomputable def J_X11_bestSet_26 (σ : ob_St) (v1 : Int32) : Option (Int32 × ob_St) :=
  ob_ld σ 7 6 v1 fun v_1 =>
  ob_bd (f_X11_leastOf σ v1) fun r2 σ3 =>
  ob_sd σ3 7 6 v1 r2 fun σ4 =>
  ob_bd (f_X11_worth σ4) fun r5 σ6 =>
  L_X11_bestSet_54 1000 σ6 v1 v_1 r2 r5 r2
noncomputable def f_X11_bestSet (σ : ob_St) (p1 : Int32) : Option (Int32 × ob_St) :=
  if p1 = 0 then
    J_X11_bestSet_26 σ p1
  else
    if p1 = 2 then
      J_X11_bestSet_26 σ p1
    else
      if p1 = 4 then
        J_X11_bestSet_26 σ p1
      else
        if p1 = 5 then
          J_X11_bestSet_26 σ p1
        else
          ob_bd (f_X11_no σ (-2)) fun r15 σ16 =>
          some (r15, σ16)
set_option maxRecDepth 100000 in
set_option maxHeartbeats 4000000 in
theorem j_X11_bestSet_94_54 {g : ob_GT} {ad : Nat → Nat} {r : Int32} {σ' : ob_St} {σ : ob_St} {v1 : Int32} {v2 : Int32} {v3 : Int32} {v4 : Int32} {v5 : Int32} {rec : ob_St → Int32 → Int32 → Int32 → Int32 → Int32 → Option (Int32 × ob_St)} (hrec : ∀ {σ : ob_St} {v1 : Int32} {v2 : Int32} {v3 : Int32} {v4 : Int32} {v5 : Int32}, rec σ v1 v2 v3 v4 v5 = some (r, σ') → ob_V g (ob_M ad) mi_X11_bestSet (some (.int r)) σ' σ 54 [(0, .ref (ad 0)), (1, .int v1), (2, .int v2), (3, .int v3), (4, .int v4), (5, .int v5)] []) (hf : J_X11_bestSet_94_54 rec σ v1 v2 v3 v4 v5 = some (r, σ')) : ob_V g (ob_M ad) mi_X11_bestSet (some (.int r)) σ' σ 94 [(0, .ref (ad 0)), (1, .int v1), (2, .int v2), (3, .int v3), (4, .int v4), (5, .int v5)] [] := by
  refine vv_iload dX11_bestSet_94 5 rfl 96 rfl ?_
  refine vv_iload_n dX11_bestSet_96 1 rfl rfl 97 rfl ?_
  refine vv_iconst dX11_bestSet_97 5 rfl 98 rfl ?_
  refine vv_icmp_ne dX11_bestSet_98 106 101 rfl rfl hf (fun hf => ?_) (fun hf => ?_)
  · refine vv_iconst dX11_bestSet_106 1 rfl 107 rfl ?_
    refine vv_iadd dX11_bestSet_107 108 rfl ?_
    refine vv_nm hf (fun v_13 hf => ?_)
    refine vv_istore dX11_bestSet_108 [(5, .int v_13), (0, .ref (ad 0)), (1, .int v1), (2, .int v2), (3, .int v3), (4, .int v4)] (Nat.le_of_ble_eq_true rfl) rfl 110 rfl ?_
    refine vv_goto dX11_bestSet_110 54 rfl ?_
    refine vv_sub [1, 2, 3, 4, 5, 0] [(0, .ref (ad 0)), (1, .int v1), (2, .int v2), (3, .int v3), (4, .int v4), (5, .int v_13)] rfl ?_
    exact hrec hf
  · refine vv_bipush dX11_bestSet_101 10 rfl 103 rfl ?_
    refine vv_goto dX11_bestSet_103 107 rfl ?_
    refine vv_iadd dX11_bestSet_107 108 rfl ?_
    refine vv_nm hf (fun v_14 hf => ?_)
    refine vv_istore dX11_bestSet_108 [(5, .int v_14), (0, .ref (ad 0)), (1, .int v1), (2, .int v2), (3, .int v3), (4, .int v4)] (Nat.le_of_ble_eq_true rfl) rfl 110 rfl ?_
    refine vv_goto dX11_bestSet_110 54 rfl ?_
    refine vv_sub [1, 2, 3, 4, 5, 0] [(0, .ref (ad 0)), (1, .int v1), (2, .int v2), (3, .int v3), (4, .int v4), (5, .int v_14)] rfl ?_
    exact hrec hf
set_option maxRecDepth 100000 in
set_option maxHeartbeats 4000000 in
theorem l_X11_bestSet_54 {g : ob_GT} {ad : Nat → Nat} {r : Int32} {σ' : ob_St} : ∀ (n : Nat) {σ : ob_St} {v1 : Int32} {v2 : Int32} {v3 : Int32} {v4 : Int32} {v5 : Int32}, L_X11_bestSet_54 n σ v1 v2 v3 v4 v5 = some (r, σ') → ob_V g (ob_M ad) mi_X11_bestSet (some (.int r)) σ' σ 54 [(0, .ref (ad 0)), (1, .int v1), (2, .int v2), (3, .int v3), (4, .int v4), (5, .int v5)] [] := by
  intro n
  induction n with
  | zero => intro σ v1 v2 v3 v4 v5 hf; exact absurd hf (fun h => by cases h)
  | succ n ih =>
    intro σ v1 v2 v3 v4 v5 hf
    refine vv_iload dX11_bestSet_54 5 rfl 56 rfl ?_
    refine vv_iload_n dX11_bestSet_56 1 rfl rfl 57 rfl ?_
    refine vv_callS [.int v1] [.int v5] (fun _ _ h => c_X11_mostOf h) cs_X11_bestSet_121 rfl (Nat.le_of_ble_eq_true rfl) 60 rfl dX11_bestSet_57 rfl hf (fun r7 σ8 hf => ?_)
    refine vv_icmp_gt dX11_bestSet_60 113 63 rfl rfl hf (fun hf => ?_) (fun hf => ?_)
    · refine vv_aload_n dX11_bestSet_113 0 rfl rfl 114 rfl ?_
      refine vv_getR dX11_bestSet_114 7 gf_X11_bestSet_28 ob_m0 rfl rfl 117 rfl ?_
      refine vv_iload_n dX11_bestSet_117 1 rfl rfl 118 rfl ?_
      refine vv_iload_n dX11_bestSet_118 2 rfl rfl 119 rfl ?_
      refine vv_iast dX11_bestSet_119 ob_m7 rfl 120 rfl hf (fun σ9 hf => ?_)
      refine vv_iload_n dX11_bestSet_120 3 rfl rfl 121 rfl ?_
      exact vv_ireti rfl dX11_bestSet_121 hf
    · refine vv_aload_n dX11_bestSet_63 0 rfl rfl 64 rfl ?_
      refine vv_getR dX11_bestSet_64 7 gf_X11_bestSet_28 ob_m0 rfl rfl 67 rfl ?_
      refine vv_iload_n dX11_bestSet_67 1 rfl rfl 68 rfl ?_
      refine vv_iload dX11_bestSet_68 5 rfl 70 rfl ?_
      refine vv_iast dX11_bestSet_70 ob_m7 rfl 71 rfl hf (fun σ10 hf => ?_)
      refine vv_aload_n dX11_bestSet_71 0 rfl rfl 72 rfl ?_
      refine vv_callV [] [] (fun _ _ h => c_X11_worth h) (ob_rec ob_m0 rfl rfl) cv_X11_bestSet_182 rfl (Nat.le_of_ble_eq_true rfl) 75 rfl dX11_bestSet_72 rfl hf (fun r11 σ12 hf => ?_)
      refine vv_istore dX11_bestSet_75 [(6, .int r11), (0, .ref (ad 0)), (1, .int v1), (2, .int v2), (3, .int v3), (4, .int v4), (5, .int v5)] (Nat.le_of_ble_eq_true rfl) rfl 77 rfl ?_
      refine vv_iload dX11_bestSet_77 0 rfl 79 rfl ?_
      refine vv_iload dX11_bestSet_79 5 rfl 81 rfl ?_
      refine vv_icmp_gt dX11_bestSet_81 87 84 rfl rfl hf (fun hf => ?_) (fun hf => ?_)
      · refine vv_iload dX11_bestSet_87 0 rfl 89 rfl ?_
        refine vv_istore dX11_bestSet_89 [(4, .int r11), (6, .int r11), (0, .ref (ad 0)), (1, .int v1), (2, .int v2), (3, .int v3), (5, .int v5)] (Nat.le_of_ble_eq_true rfl) rfl 91 rfl ?_
        refine vv_iload dX11_bestSet_91 6 rfl 93 rfl ?_
        refine vv_istore_n dX11_bestSet_93 [(3, .int v5), (4, .int r11), (6, .int r11), (0, .ref (ad 0)), (1, .int v1), (2, .int v2), (5, .int v5)] rfl (Nat.le_of_ble_eq_true rfl) rfl 94 rfl ?_
        refine vv_sub [3, 4, 5, 0, 1, 6] [(0, .ref (ad 0)), (1, .int v1), (2, .int v2), (3, .int v5), (4, .int r11), (5, .int v5)] rfl ?_
        exact j_X11_bestSet_94_54 ih hf
      · refine vv_goto dX11_bestSet_84 94 rfl ?_
        refine vv_sub [1, 2, 3, 4, 5, 6] [(0, .ref (ad 0)), (1, .int v1), (2, .int v2), (3, .int v3), (4, .int v4), (5, .int v5)] rfl ?_
        exact j_X11_bestSet_94_54 ih hf
set_option maxRecDepth 100000 in
set_option maxHeartbeats 4000000 in
theorem j_X11_bestSet_26 {g : ob_GT} {ad : Nat → Nat} {r : Int32} {σ' : ob_St} {σ : ob_St} {v1 : Int32} (hf : J_X11_bestSet_26 σ v1 = some (r, σ')) : ob_V g (ob_M ad) mi_X11_bestSet (some (.int r)) σ' σ 26 [(0, .ref (ad 0)), (1, .int v1)] [] := by
  refine vv_aload_n dX11_bestSet_26 0 rfl rfl 27 rfl ?_
  refine vv_getR dX11_bestSet_27 7 gf_X11_bestSet_28 ob_m0 rfl rfl 30 rfl ?_
  refine vv_iload_n dX11_bestSet_30 1 rfl rfl 31 rfl ?_
  refine vv_iald dX11_bestSet_31 ob_m7 rfl 32 rfl hf (fun v_1 hf => ?_)
  refine vv_istore_n dX11_bestSet_32 [(2, .int v_1), (0, .ref (ad 0)), (1, .int v1)] rfl (Nat.le_of_ble_eq_true rfl) rfl 33 rfl ?_
  refine vv_iload_n dX11_bestSet_33 2 rfl rfl 34 rfl ?_
  refine vv_callS [.int v1] [] (fun _ _ h => c_X11_leastOf h) cs_X11_bestSet_118 rfl (Nat.le_of_ble_eq_true rfl) 37 rfl dX11_bestSet_34 rfl hf (fun r2 σ3 hf => ?_)
  refine vv_istore_n dX11_bestSet_37 [(3, .int r2), (2, .int v_1), (0, .ref (ad 0)), (1, .int v1)] rfl (Nat.le_of_ble_eq_true rfl) rfl 38 rfl ?_
  refine vv_aload_n dX11_bestSet_38 2 rfl rfl 39 rfl ?_
  refine vv_getR dX11_bestSet_39 7 gf_X11_bestSet_28 ob_m0 rfl rfl 42 rfl ?_
  refine vv_iload_n dX11_bestSet_42 3 rfl rfl 43 rfl ?_
  refine vv_iload_n dX11_bestSet_43 0 rfl rfl 44 rfl ?_
  refine vv_iast dX11_bestSet_44 ob_m7 rfl 45 rfl hf (fun σ4 hf => ?_)
  refine vv_aload_n dX11_bestSet_45 2 rfl rfl 46 rfl ?_
  refine vv_callV [] [] (fun _ _ h => c_X11_worth h) (ob_rec ob_m0 rfl rfl) cv_X11_bestSet_182 rfl (Nat.le_of_ble_eq_true rfl) 49 rfl dX11_bestSet_46 rfl hf (fun r5 σ6 hf => ?_)
  refine vv_istore dX11_bestSet_49 [(4, .int r5), (3, .int r2), (2, .int v_1), (0, .ref (ad 0)), (1, .int v1)] (Nat.le_of_ble_eq_true rfl) rfl 51 rfl ?_
  refine vv_iload_n dX11_bestSet_51 1 rfl rfl 52 rfl ?_
  refine vv_istore dX11_bestSet_52 [(5, .int r2), (4, .int r5), (3, .int r2), (2, .int v_1), (0, .ref (ad 0)), (1, .int v1)] (Nat.le_of_ble_eq_true rfl) rfl 54 rfl ?_
  refine vv_sub [4, 5, 3, 2, 1, 0] [(0, .ref (ad 0)), (1, .int v1), (2, .int v_1), (3, .int r2), (4, .int r5), (5, .int r2)] rfl ?_
  exact l_X11_bestSet_54 1000 hf
set_option maxRecDepth 100000 in
set_option maxHeartbeats 4000000 in
theorem c_X11_bestSet {g : ob_GT} {ad : Nat → Nat} {r : Int32} {σ' : ob_St} {σ : ob_St} {p1 : Int32} (hf : f_X11_bestSet σ p1 = some (r, σ')) : ob_CT g (ob_M ad) mi_X11_bestSet [.ref (ad 0), .int p1] σ (some (.int r)) σ' := by
  refine ob_ct (by decide +kernel) rfl (Nat.le_of_ble_eq_true rfl) ?_
  show ob_V g (ob_M ad) mi_X11_bestSet (some (.int r)) σ' σ 0 [(0, .ref (ad 0)), (1, .int p1)] []
  refine vv_iload_n dX11_bestSet_0 1 rfl rfl 1 rfl ?_
  refine vv_if_eq dX11_bestSet_1 26 4 rfl rfl hf (fun hf => ?_) (fun hf => ?_)
  · exact j_X11_bestSet_26 hf
  · refine vv_iload_n dX11_bestSet_4 1 rfl rfl 5 rfl ?_
    refine vv_iconst dX11_bestSet_5 2 rfl 6 rfl ?_
    refine vv_icmp_eq dX11_bestSet_6 26 9 rfl rfl hf (fun hf => ?_) (fun hf => ?_)
    · exact j_X11_bestSet_26 hf
    · refine vv_iload_n dX11_bestSet_9 1 rfl rfl 10 rfl ?_
      refine vv_iconst dX11_bestSet_10 4 rfl 11 rfl ?_
      refine vv_icmp_eq dX11_bestSet_11 26 14 rfl rfl hf (fun hf => ?_) (fun hf => ?_)
      · exact j_X11_bestSet_26 hf
      · refine vv_iload_n dX11_bestSet_14 1 rfl rfl 15 rfl ?_
        refine vv_iconst dX11_bestSet_15 5 rfl 16 rfl ?_
        refine vv_icmp_eq dX11_bestSet_16 26 19 rfl rfl hf (fun hf => ?_) (fun hf => ?_)
        · exact j_X11_bestSet_26 hf
        · refine vv_aload_n dX11_bestSet_19 0 rfl rfl 20 rfl ?_
          refine vv_bipush dX11_bestSet_20 (-2) rfl 22 rfl ?_
          refine vv_callV [.int (-2)] [] (fun _ _ h => c_X11_no h) (ob_rec ob_m0 rfl rfl) cv_X11_bestSet_62 rfl (Nat.le_of_ble_eq_true rfl) 25 rfl dX11_bestSet_22 rfl hf (fun r15 σ16 hf => ?_)
          exact vv_ireti rfl dX11_bestSet_25 hf
abbrev mi_X11_more : ob_MI := (yX11_more, ob_ws yX11_more cX11_more 6 (some .int), cX11_more, 6, (some .int), { frames := 5, cells := 0, slots := 0, locals := 106 })
theorem cv_X11_more_182 : ob_CV mi_X11_more mi_X11_worth 182 RX11 0 := ob_cvI rfl rfl tw_997 tw_999 tw_42 tw_59 tw_1000 ⟨rfl, rfl⟩ ⟨rfl, by decide +kernel, by decide +kernel, by decide +kernel⟩ ⟨Nat.le_of_ble_eq_true rfl, Nat.le_of_ble_eq_true rfl⟩
theorem gf_X11_more_28 : ob_GF mi_X11_more 28 11 7 := ⟨RX11, TX11, 24, rfl, by decide, fun x h => List.mem_cons_of_mem _ (uw_X11 x h), List.mem_cons_of_mem _ tw_765⟩
noncomputable def f_X11_more (σ : ob_St) (p1 : Int32) (p2 : Int32) : Option (Int32 × ob_St) :=
  ob_bd (f_X11_worth σ) fun r1 σ2 =>
  ob_ld σ2 7 6 p1 fun v_3 =>
  ob_sd σ2 7 6 p1 p2 fun σ4 =>
  ob_bd (f_X11_worth σ4) fun r5 σ6 =>
  ob_sd σ6 7 6 p1 v_3 fun σ7 =>
  some ((r5 - r1), σ7)
set_option maxRecDepth 100000 in
set_option maxHeartbeats 4000000 in
theorem c_X11_more {g : ob_GT} {ad : Nat → Nat} {r : Int32} {σ' : ob_St} {σ : ob_St} {p1 : Int32} {p2 : Int32} (hf : f_X11_more σ p1 p2 = some (r, σ')) : ob_CT g (ob_M ad) mi_X11_more [.ref (ad 0), .int p1, .int p2] σ (some (.int r)) σ' := by
  refine ob_ct (by decide +kernel) rfl (Nat.le_of_ble_eq_true rfl) ?_
  show ob_V g (ob_M ad) mi_X11_more (some (.int r)) σ' σ 0 [(0, .ref (ad 0)), (1, .int p1), (2, .int p2)] []
  refine vv_aload_n dX11_more_0 0 rfl rfl 1 rfl ?_
  refine vv_callV [] [] (fun _ _ h => c_X11_worth h) (ob_rec ob_m0 rfl rfl) cv_X11_more_182 rfl (Nat.le_of_ble_eq_true rfl) 4 rfl dX11_more_1 rfl hf (fun r1 σ2 hf => ?_)
  refine vv_istore_n dX11_more_4 [(3, .int r1), (0, .ref (ad 0)), (1, .int p1), (2, .int p2)] rfl (Nat.le_of_ble_eq_true rfl) rfl 5 rfl ?_
  refine vv_aload_n dX11_more_5 1 rfl rfl 6 rfl ?_
  refine vv_getR dX11_more_6 7 gf_X11_more_28 ob_m0 rfl rfl 9 rfl ?_
  refine vv_iload_n dX11_more_9 2 rfl rfl 10 rfl ?_
  refine vv_iald dX11_more_10 ob_m7 rfl 11 rfl hf (fun v_3 hf => ?_)
  refine vv_istore dX11_more_11 [(4, .int v_3), (3, .int r1), (0, .ref (ad 0)), (1, .int p1), (2, .int p2)] (Nat.le_of_ble_eq_true rfl) rfl 13 rfl ?_
  refine vv_aload_n dX11_more_13 2 rfl rfl 14 rfl ?_
  refine vv_getR dX11_more_14 7 gf_X11_more_28 ob_m0 rfl rfl 17 rfl ?_
  refine vv_iload_n dX11_more_17 3 rfl rfl 18 rfl ?_
  refine vv_iload_n dX11_more_18 4 rfl rfl 19 rfl ?_
  refine vv_iast dX11_more_19 ob_m7 rfl 20 rfl hf (fun σ4 hf => ?_)
  refine vv_aload_n dX11_more_20 2 rfl rfl 21 rfl ?_
  refine vv_callV [] [] (fun _ _ h => c_X11_worth h) (ob_rec ob_m0 rfl rfl) cv_X11_more_182 rfl (Nat.le_of_ble_eq_true rfl) 24 rfl dX11_more_21 rfl hf (fun r5 σ6 hf => ?_)
  refine vv_istore dX11_more_24 [(5, .int r5), (4, .int v_3), (3, .int r1), (0, .ref (ad 0)), (1, .int p1), (2, .int p2)] (Nat.le_of_ble_eq_true rfl) rfl 26 rfl ?_
  refine vv_aload_n dX11_more_26 3 rfl rfl 27 rfl ?_
  refine vv_getR dX11_more_27 7 gf_X11_more_28 ob_m0 rfl rfl 30 rfl ?_
  refine vv_iload_n dX11_more_30 4 rfl rfl 31 rfl ?_
  refine vv_iload dX11_more_31 1 rfl 33 rfl ?_
  refine vv_iast dX11_more_33 ob_m7 rfl 34 rfl hf (fun σ7 hf => ?_)
  refine vv_iload dX11_more_34 0 rfl 36 rfl ?_
  refine vv_iload_n dX11_more_36 2 rfl rfl 37 rfl ?_
  refine vv_isub dX11_more_37 38 rfl ?_
  exact vv_ireti rfl dX11_more_38 hf
abbrev mi_X11_roomMore : ob_MI := (yX11_roomMore, ob_ws yX11_roomMore cX11_roomMore 1 (some .int), cX11_roomMore, 1, (some .int), { frames := 6, cells := 0, slots := 0, locals := 131 })
theorem gf_X11_roomMore_28 : ob_GF mi_X11_roomMore 28 11 7 := ⟨RX11, TX11, 24, rfl, by decide, fun x h => List.mem_cons_of_mem _ (uw_X11 x h), List.mem_cons_of_mem _ tw_765⟩
theorem cv_X11_roomMore_186 : ob_CV mi_X11_roomMore mi_X11_more 186 RX11 2 := ob_cvI rfl rfl tw_1005 tw_1007 tw_43 tw_59 tw_1008 ⟨rfl, rfl⟩ ⟨rfl, by decide +kernel, by decide +kernel, by decide +kernel⟩ ⟨Nat.le_of_ble_eq_true rfl, Nat.le_of_ble_eq_true rfl⟩
theorem cv_X11_roomMore_170 : ob_CV mi_X11_roomMore mi_X11_noMuch 170 RX11 1 := ob_cvI rfl rfl tw_928 tw_930 tw_29 tw_59 tw_931 ⟨rfl, rfl⟩ ⟨rfl, by decide +kernel, by decide +kernel, by decide +kernel⟩ ⟨Nat.le_of_ble_eq_true rfl, Nat.le_of_ble_eq_true rfl⟩
noncomputable def f_X11_roomMore (σ : ob_St) : Option (Int32 × ob_St) :=
  ob_ld σ 7 6 0 fun v_1 =>
  if v_1 = 11 then
    ob_bd (f_X11_noMuch σ (-3)) fun r5 σ6 =>
    some (r5, σ6)
  else
    ob_ld σ 7 6 0 fun v_2 =>
    ob_bd (f_X11_more σ 0 (v_2 + 1)) fun r3 σ4 =>
    some (r3, σ4)
set_option maxRecDepth 100000 in
set_option maxHeartbeats 4000000 in
theorem c_X11_roomMore {g : ob_GT} {ad : Nat → Nat} {r : Int32} {σ' : ob_St} {σ : ob_St} (hf : f_X11_roomMore σ = some (r, σ')) : ob_CT g (ob_M ad) mi_X11_roomMore [.ref (ad 0)] σ (some (.int r)) σ' := by
  refine ob_ct (by decide +kernel) rfl (Nat.le_of_ble_eq_true rfl) ?_
  show ob_V g (ob_M ad) mi_X11_roomMore (some (.int r)) σ' σ 0 [(0, .ref (ad 0))] []
  refine vv_aload_n dX11_roomMore_0 0 rfl rfl 1 rfl ?_
  refine vv_getR dX11_roomMore_1 7 gf_X11_roomMore_28 ob_m0 rfl rfl 4 rfl ?_
  refine vv_iconst dX11_roomMore_4 0 rfl 5 rfl ?_
  refine vv_iald dX11_roomMore_5 ob_m7 rfl 6 rfl hf (fun v_1 hf => ?_)
  refine vv_bipush dX11_roomMore_6 11 rfl 8 rfl ?_
  refine vv_icmp_ne dX11_roomMore_8 20 11 rfl rfl hf (fun hf => ?_) (fun hf => ?_)
  · refine vv_aload_n dX11_roomMore_20 0 rfl rfl 21 rfl ?_
    refine vv_iconst dX11_roomMore_21 0 rfl 22 rfl ?_
    refine vv_aload_n dX11_roomMore_22 0 rfl rfl 23 rfl ?_
    refine vv_getR dX11_roomMore_23 7 gf_X11_roomMore_28 ob_m0 rfl rfl 26 rfl ?_
    refine vv_iconst dX11_roomMore_26 0 rfl 27 rfl ?_
    refine vv_iald dX11_roomMore_27 ob_m7 rfl 28 rfl hf (fun v_2 hf => ?_)
    refine vv_iconst dX11_roomMore_28 1 rfl 29 rfl ?_
    refine vv_iadd dX11_roomMore_29 30 rfl ?_
    refine vv_callV [.int 0, .int (v_2 + 1)] [] (fun _ _ h => c_X11_more h) (ob_rec ob_m0 rfl rfl) cv_X11_roomMore_186 rfl (Nat.le_of_ble_eq_true rfl) 33 rfl dX11_roomMore_30 rfl hf (fun r3 σ4 hf => ?_)
    exact vv_ireti rfl dX11_roomMore_33 hf
  · refine vv_aload_n dX11_roomMore_11 0 rfl rfl 12 rfl ?_
    refine vv_bipush dX11_roomMore_12 (-3) rfl 14 rfl ?_
    refine vv_callV [.int (-3)] [] (fun _ _ h => c_X11_noMuch h) (ob_rec ob_m0 rfl rfl) cv_X11_roomMore_170 rfl (Nat.le_of_ble_eq_true rfl) 17 rfl dX11_roomMore_14 rfl hf (fun r5 σ6 hf => ?_)
    refine vv_goto dX11_roomMore_17 33 rfl ?_
    exact vv_ireti rfl dX11_roomMore_33 hf
abbrev mi_X11_twoPull : ob_MI := (yX11_twoPull, ob_ws yX11_twoPull cX11_twoPull 1 (some .int), cX11_twoPull, 1, (some .int), { frames := 6, cells := 0, slots := 0, locals := 131 })
theorem gf_X11_twoPull_28 : ob_GF mi_X11_twoPull 28 11 7 := ⟨RX11, TX11, 24, rfl, by decide, fun x h => List.mem_cons_of_mem _ (uw_X11 x h), List.mem_cons_of_mem _ tw_765⟩
theorem cv_X11_twoPull_186 : ob_CV mi_X11_twoPull mi_X11_more 186 RX11 2 := ob_cvI rfl rfl tw_1005 tw_1007 tw_43 tw_59 tw_1008 ⟨rfl, rfl⟩ ⟨rfl, by decide +kernel, by decide +kernel, by decide +kernel⟩ ⟨Nat.le_of_ble_eq_true rfl, Nat.le_of_ble_eq_true rfl⟩
noncomputable def f_X11_twoPull (σ : ob_St) : Option (Int32 × ob_St) :=
  ob_ld σ 7 6 3 fun v_1 =>
  ob_bd (f_X11_more σ 3 ((v_1 + 1) / 2)) fun r2 σ3 =>
  some (r2, σ3)
set_option maxRecDepth 100000 in
set_option maxHeartbeats 4000000 in
theorem c_X11_twoPull {g : ob_GT} {ad : Nat → Nat} {r : Int32} {σ' : ob_St} {σ : ob_St} (hf : f_X11_twoPull σ = some (r, σ')) : ob_CT g (ob_M ad) mi_X11_twoPull [.ref (ad 0)] σ (some (.int r)) σ' := by
  refine ob_ct (by decide +kernel) rfl (Nat.le_of_ble_eq_true rfl) ?_
  show ob_V g (ob_M ad) mi_X11_twoPull (some (.int r)) σ' σ 0 [(0, .ref (ad 0))] []
  refine vv_aload_n dX11_twoPull_0 0 rfl rfl 1 rfl ?_
  refine vv_iconst dX11_twoPull_1 3 rfl 2 rfl ?_
  refine vv_aload_n dX11_twoPull_2 0 rfl rfl 3 rfl ?_
  refine vv_getR dX11_twoPull_3 7 gf_X11_twoPull_28 ob_m0 rfl rfl 6 rfl ?_
  refine vv_iconst dX11_twoPull_6 3 rfl 7 rfl ?_
  refine vv_iald dX11_twoPull_7 ob_m7 rfl 8 rfl hf (fun v_1 hf => ?_)
  refine vv_iconst dX11_twoPull_8 1 rfl 9 rfl ?_
  refine vv_iadd dX11_twoPull_9 10 rfl ?_
  refine vv_iconst dX11_twoPull_10 2 rfl 11 rfl ?_
  refine vv_idiv dX11_twoPull_11 (by decide) 12 rfl ?_
  refine vv_callV [.int 3, .int ((v_1 + 1) / 2)] [] (fun _ _ h => c_X11_more h) (ob_rec ob_m0 rfl rfl) cv_X11_twoPull_186 rfl (Nat.le_of_ble_eq_true rfl) 15 rfl dX11_twoPull_12 rfl hf (fun r2 σ3 hf => ?_)
  exact vv_ireti rfl dX11_twoPull_15 hf
abbrev mi_X11_stairs : ob_MI := (yX11_stairs, ob_ws yX11_stairs cX11_stairs 7 (some .int), cX11_stairs, 7, (some .int), { frames := 5, cells := 0, slots := 0, locals := 106 })
theorem cs_X11_stairs_70 : ob_CS mi_X11_stairs mi_X11_within 70 3 := ob_csI rfl rfl tw_857 tw_858 tw_59 tw_859 ⟨rfl, rfl⟩ ⟨by decide +kernel, by decide +kernel, by decide +kernel⟩ ⟨Nat.le_of_ble_eq_true rfl, Nat.le_of_ble_eq_true rfl⟩
theorem cv_X11_stairs_182 : ob_CV mi_X11_stairs mi_X11_worth 182 RX11 0 := ob_cvI rfl rfl tw_997 tw_999 tw_42 tw_59 tw_1000 ⟨rfl, rfl⟩ ⟨rfl, by decide +kernel, by decide +kernel, by decide +kernel⟩ ⟨Nat.le_of_ble_eq_true rfl, Nat.le_of_ble_eq_true rfl⟩
theorem gf_X11_stairs_66 : ob_GF mi_X11_stairs 66 11 0 := ⟨RX11, TX11, 24, rfl, by decide, fun x h => List.mem_cons_of_mem _ (uw_X11 x h), List.mem_cons_of_mem _ tw_758⟩
theorem cv_X11_stairs_163 : ob_CV mi_X11_stairs mi_X11_run 163 RX11 1 := ob_cvI rfl rfl tw_933 tw_935 tw_30 tw_59 tw_936 ⟨rfl, rfl⟩ ⟨rfl, by decide +kernel, by decide +kernel, by decide +kernel⟩ ⟨Nat.le_of_ble_eq_true rfl, Nat.le_of_ble_eq_true rfl⟩
theorem cv_X11_stairs_167 : ob_CV mi_X11_stairs mi_X11_totalOf 167 RX11 1 := ob_cvI rfl rfl tw_937 tw_939 tw_31 tw_59 tw_940 ⟨rfl, rfl⟩ ⟨rfl, by decide +kernel, by decide +kernel, by decide +kernel⟩ ⟨Nat.le_of_ble_eq_true rfl, Nat.le_of_ble_eq_true rfl⟩
theorem cv_X11_stairs_170 : ob_CV mi_X11_stairs mi_X11_noMuch 170 RX11 1 := ob_cvI rfl rfl tw_928 tw_930 tw_29 tw_59 tw_931 ⟨rfl, rfl⟩ ⟨rfl, by decide +kernel, by decide +kernel, by decide +kernel⟩ ⟨Nat.le_of_ble_eq_true rfl, Nat.le_of_ble_eq_true rfl⟩
noncomputable def L_X11_stairs_30 : Nat → ob_St → Int32 → Int32 → Int32 → Int32 → Int32 → Option (Int32 × ob_St)
  | 0, _, _, _, _, _, _ => none
  | n + 1, σ, v1, v2, v3, v4, v5 =>
    if (σ 0 0) ≤ v5 then
      if v1 = 0 then
        some (v3, σ)
      else
        some (v4, σ)
    else
      ob_bd (f_X11_run σ v5) fun _ σ6 =>
      ob_bd (f_X11_totalOf σ6 7) fun r7 σ8 =>
      ob_nm ((r7 - 10) - v2) fun v_9 =>
      if v4 < v_9 then
        L_X11_stairs_30 n σ8 v1 v2 v5 v_9 (v5 + 1)
      else
        L_X11_stairs_30 n σ8 v1 v2 v3 v4 (v5 + 1)
noncomputable def f_X11_stairs (σ : ob_St) (p1 : Int32) : Option (Int32 × ob_St) :=
  ob_bd (f_X11_within σ p1 0 1) fun r1 σ2 =>
  if r1 = 0 then
    ob_bd (f_X11_noMuch σ2 (-2)) fun r10 σ11 =>
    some (r10, σ11)
  else
    ob_bd (f_X11_worth σ2) fun r3 σ4 =>
    L_X11_stairs_30 1000 σ4 p1 r3 (-9) 0 0
set_option maxRecDepth 100000 in
set_option maxHeartbeats 4000000 in
theorem l_X11_stairs_30 {g : ob_GT} {ad : Nat → Nat} {r : Int32} {σ' : ob_St} : ∀ (n : Nat) {σ : ob_St} {v1 : Int32} {v2 : Int32} {v3 : Int32} {v4 : Int32} {v5 : Int32}, L_X11_stairs_30 n σ v1 v2 v3 v4 v5 = some (r, σ') → ob_V g (ob_M ad) mi_X11_stairs (some (.int r)) σ' σ 30 [(0, .ref (ad 0)), (1, .int v1), (2, .int v2), (3, .int v3), (4, .int v4), (5, .int v5)] [] := by
  intro n
  induction n with
  | zero => intro σ v1 v2 v3 v4 v5 hf; exact absurd hf (fun h => by cases h)
  | succ n ih =>
    intro σ v1 v2 v3 v4 v5 hf
    refine vv_iload dX11_stairs_30 5 rfl 32 rfl ?_
    refine vv_aload_n dX11_stairs_32 0 rfl rfl 33 rfl ?_
    refine vv_getI dX11_stairs_33 0 gf_X11_stairs_66 ob_m0 rfl rfl 36 rfl ?_
    refine vv_icmp_ge dX11_stairs_36 81 39 rfl rfl hf (fun hf => ?_) (fun hf => ?_)
    · refine vv_iload_n dX11_stairs_81 1 rfl rfl 82 rfl ?_
      refine vv_if_ne dX11_stairs_82 89 85 rfl rfl hf (fun hf => ?_) (fun hf => ?_)
      · refine vv_iload dX11_stairs_89 4 rfl 91 rfl ?_
        exact vv_ireti rfl dX11_stairs_91 hf
      · refine vv_iload_n dX11_stairs_85 3 rfl rfl 86 rfl ?_
        refine vv_goto dX11_stairs_86 91 rfl ?_
        exact vv_ireti rfl dX11_stairs_91 hf
    · refine vv_aload_n dX11_stairs_39 0 rfl rfl 40 rfl ?_
      refine vv_iload dX11_stairs_40 5 rfl 42 rfl ?_
      refine vv_callVu [.int v5] [] (fun _ _ h => c_X11_run h) (ob_rec ob_m0 rfl rfl) cv_X11_stairs_163 rfl (Nat.le_of_ble_eq_true rfl) 45 rfl dX11_stairs_42 rfl hf (fun _ σ6 hf => ?_)
      refine vv_aload_n dX11_stairs_45 0 rfl rfl 46 rfl ?_
      refine vv_bipush dX11_stairs_46 7 rfl 48 rfl ?_
      refine vv_callV [.int 7] [] (fun _ _ h => c_X11_totalOf h) (ob_rec ob_m0 rfl rfl) cv_X11_stairs_167 rfl (Nat.le_of_ble_eq_true rfl) 51 rfl dX11_stairs_48 rfl hf (fun r7 σ8 hf => ?_)
      refine vv_bipush dX11_stairs_51 10 rfl 53 rfl ?_
      refine vv_isub dX11_stairs_53 54 rfl ?_
      refine vv_iload_n dX11_stairs_54 2 rfl rfl 55 rfl ?_
      refine vv_isub dX11_stairs_55 56 rfl ?_
      refine vv_nm hf (fun v_9 hf => ?_)
      refine vv_istore dX11_stairs_56 [(6, .int v_9), (0, .ref (ad 0)), (1, .int v1), (2, .int v2), (3, .int v3), (4, .int v4), (5, .int v5)] (Nat.le_of_ble_eq_true rfl) rfl 58 rfl ?_
      refine vv_iload dX11_stairs_58 0 rfl 60 rfl ?_
      refine vv_iload dX11_stairs_60 5 rfl 62 rfl ?_
      refine vv_icmp_gt dX11_stairs_62 68 65 rfl rfl hf (fun hf => ?_) (fun hf => ?_)
      · refine vv_iload dX11_stairs_68 0 rfl 70 rfl ?_
        refine vv_istore dX11_stairs_70 [(4, .int v_9), (6, .int v_9), (0, .ref (ad 0)), (1, .int v1), (2, .int v2), (3, .int v3), (5, .int v5)] (Nat.le_of_ble_eq_true rfl) rfl 72 rfl ?_
        refine vv_iload dX11_stairs_72 6 rfl 74 rfl ?_
        refine vv_istore_n dX11_stairs_74 [(3, .int v5), (4, .int v_9), (6, .int v_9), (0, .ref (ad 0)), (1, .int v1), (2, .int v2), (5, .int v5)] rfl (Nat.le_of_ble_eq_true rfl) rfl 75 rfl ?_
        refine vv_iinc dX11_stairs_75 (v5 + 1) 6 [(5, .int (v5 + 1)), (3, .int v5), (4, .int v_9), (6, .int v_9), (0, .ref (ad 0)), (1, .int v1), (2, .int v2)] rfl rfl (Nat.le_of_ble_eq_true rfl) rfl 78 rfl ?_
        refine vv_goto dX11_stairs_78 30 rfl ?_
        refine vv_sub [4, 5, 6, 1, 2, 0] [(0, .ref (ad 0)), (1, .int v1), (2, .int v2), (3, .int v5), (4, .int v_9), (5, .int (v5 + 1))] rfl ?_
        exact ih hf
      · refine vv_goto dX11_stairs_65 75 rfl ?_
        refine vv_iinc dX11_stairs_75 (v5 + 1) 6 [(5, .int (v5 + 1)), (6, .int v_9), (0, .ref (ad 0)), (1, .int v1), (2, .int v2), (3, .int v3), (4, .int v4)] rfl rfl (Nat.le_of_ble_eq_true rfl) rfl 78 rfl ?_
        refine vv_goto dX11_stairs_78 30 rfl ?_
        refine vv_sub [2, 3, 4, 5, 6, 0] [(0, .ref (ad 0)), (1, .int v1), (2, .int v2), (3, .int v3), (4, .int v4), (5, .int (v5 + 1))] rfl ?_
        exact ih hf
set_option maxRecDepth 100000 in
set_option maxHeartbeats 4000000 in
theorem c_X11_stairs {g : ob_GT} {ad : Nat → Nat} {r : Int32} {σ' : ob_St} {σ : ob_St} {p1 : Int32} (hf : f_X11_stairs σ p1 = some (r, σ')) : ob_CT g (ob_M ad) mi_X11_stairs [.ref (ad 0), .int p1] σ (some (.int r)) σ' := by
  refine ob_ct (by decide +kernel) rfl (Nat.le_of_ble_eq_true rfl) ?_
  show ob_V g (ob_M ad) mi_X11_stairs (some (.int r)) σ' σ 0 [(0, .ref (ad 0)), (1, .int p1)] []
  refine vv_iload_n dX11_stairs_0 1 rfl rfl 1 rfl ?_
  refine vv_iconst dX11_stairs_1 0 rfl 2 rfl ?_
  refine vv_iconst dX11_stairs_2 1 rfl 3 rfl ?_
  refine vv_callS [.int p1, .int 0, .int 1] [] (fun _ _ h => c_X11_within h) cs_X11_stairs_70 rfl (Nat.le_of_ble_eq_true rfl) 6 rfl dX11_stairs_3 rfl hf (fun r1 σ2 hf => ?_)
  refine vv_if_ne dX11_stairs_6 16 9 rfl rfl hf (fun hf => ?_) (fun hf => ?_)
  · refine vv_aload_n dX11_stairs_16 0 rfl rfl 17 rfl ?_
    refine vv_callV [] [] (fun _ _ h => c_X11_worth h) (ob_rec ob_m0 rfl rfl) cv_X11_stairs_182 rfl (Nat.le_of_ble_eq_true rfl) 20 rfl dX11_stairs_17 rfl hf (fun r3 σ4 hf => ?_)
    refine vv_istore_n dX11_stairs_20 [(2, .int r3), (0, .ref (ad 0)), (1, .int p1)] rfl (Nat.le_of_ble_eq_true rfl) rfl 21 rfl ?_
    refine vv_bipush dX11_stairs_21 (-9) rfl 23 rfl ?_
    refine vv_istore_n dX11_stairs_23 [(3, .int (-9)), (2, .int r3), (0, .ref (ad 0)), (1, .int p1)] rfl (Nat.le_of_ble_eq_true rfl) rfl 24 rfl ?_
    refine vv_iconst dX11_stairs_24 0 rfl 25 rfl ?_
    refine vv_istore dX11_stairs_25 [(4, .int 0), (3, .int (-9)), (2, .int r3), (0, .ref (ad 0)), (1, .int p1)] (Nat.le_of_ble_eq_true rfl) rfl 27 rfl ?_
    refine vv_iconst dX11_stairs_27 0 rfl 28 rfl ?_
    refine vv_istore dX11_stairs_28 [(5, .int 0), (4, .int 0), (3, .int (-9)), (2, .int r3), (0, .ref (ad 0)), (1, .int p1)] (Nat.le_of_ble_eq_true rfl) rfl 30 rfl ?_
    refine vv_sub [4, 5, 3, 2, 1, 0] [(0, .ref (ad 0)), (1, .int p1), (2, .int r3), (3, .int (-9)), (4, .int 0), (5, .int 0)] rfl ?_
    exact l_X11_stairs_30 1000 hf
  · refine vv_aload_n dX11_stairs_9 0 rfl rfl 10 rfl ?_
    refine vv_bipush dX11_stairs_10 (-2) rfl 12 rfl ?_
    refine vv_callV [.int (-2)] [] (fun _ _ h => c_X11_noMuch h) (ob_rec ob_m0 rfl rfl) cv_X11_stairs_170 rfl (Nat.le_of_ble_eq_true rfl) 15 rfl dX11_stairs_12 rfl hf (fun r10 σ11 hf => ?_)
    exact vv_ireti rfl dX11_stairs_15 hf
abbrev mi_X11_forgotten : ob_MI := (yX11_forgotten, ob_ws yX11_forgotten cX11_forgotten 4 (some .int), cX11_forgotten, 4, (some .int), { frames := 5, cells := 0, slots := 0, locals := 106 })
theorem cv_X11_forgotten_97 : ob_CV mi_X11_forgotten mi_X11_isDish 97 RX11 1 := ob_cvI rfl rfl tw_864 tw_866 tw_23 tw_59 tw_867 ⟨rfl, rfl⟩ ⟨rfl, by decide +kernel, by decide +kernel, by decide +kernel⟩ ⟨Nat.le_of_ble_eq_true rfl, Nat.le_of_ble_eq_true rfl⟩
theorem cv_X11_forgotten_182 : ob_CV mi_X11_forgotten mi_X11_worth 182 RX11 0 := ob_cvI rfl rfl tw_997 tw_999 tw_42 tw_59 tw_1000 ⟨rfl, rfl⟩ ⟨rfl, by decide +kernel, by decide +kernel, by decide +kernel⟩ ⟨Nat.le_of_ble_eq_true rfl, Nat.le_of_ble_eq_true rfl⟩
theorem gf_X11_forgotten_49 : ob_GF mi_X11_forgotten 49 11 18 := ⟨RX11, TX11, 24, rfl, by decide, fun x h => List.mem_cons_of_mem _ (uw_X11 x h), List.mem_cons_of_mem _ tw_776⟩
theorem cv_X11_forgotten_111 : ob_CV mi_X11_forgotten mi_X11_keep 111 RX11 1 := ob_cvI rfl rfl tw_876 tw_878 tw_26 tw_59 tw_879 ⟨rfl, rfl⟩ ⟨rfl, by decide +kernel, by decide +kernel, by decide +kernel⟩ ⟨Nat.le_of_ble_eq_true rfl, Nat.le_of_ble_eq_true rfl⟩
theorem cv_X11_forgotten_100 : ob_CV mi_X11_forgotten mi_X11_placeOf 100 RX11 1 := ob_cvI rfl rfl tw_868 tw_870 tw_24 tw_59 tw_871 ⟨rfl, rfl⟩ ⟨rfl, by decide +kernel, by decide +kernel, by decide +kernel⟩ ⟨Nat.le_of_ble_eq_true rfl, Nat.le_of_ble_eq_true rfl⟩
theorem gf_X11_forgotten_66 : ob_GF mi_X11_forgotten 66 11 0 := ⟨RX11, TX11, 24, rfl, by decide, fun x h => List.mem_cons_of_mem _ (uw_X11 x h), List.mem_cons_of_mem _ tw_758⟩
theorem cv_X11_forgotten_115 : ob_CV mi_X11_forgotten mi_X11_again 115 RX11 1 := ob_cvI rfl rfl tw_880 tw_882 tw_27 tw_59 tw_883 ⟨rfl, rfl⟩ ⟨rfl, by decide +kernel, by decide +kernel, by decide +kernel⟩ ⟨Nat.le_of_ble_eq_true rfl, Nat.le_of_ble_eq_true rfl⟩
theorem cv_X11_forgotten_103 : ob_CV mi_X11_forgotten mi_X11_swap 103 RX11 2 := ob_cvI rfl rfl tw_872 tw_874 tw_25 tw_59 tw_875 ⟨rfl, rfl⟩ ⟨rfl, by decide +kernel, by decide +kernel, by decide +kernel⟩ ⟨Nat.le_of_ble_eq_true rfl, Nat.le_of_ble_eq_true rfl⟩
theorem cv_X11_forgotten_170 : ob_CV mi_X11_forgotten mi_X11_noMuch 170 RX11 1 := ob_cvI rfl rfl tw_928 tw_930 tw_29 tw_59 tw_931 ⟨rfl, rfl⟩ ⟨rfl, by decide +kernel, by decide +kernel, by decide +kernel⟩ ⟨Nat.le_of_ble_eq_true rfl, Nat.le_of_ble_eq_true rfl⟩
noncomputable def L_X11_forgotten_33 : Nat → ob_St → Int32 → Int32 → Option (Int32 × ob_St)
  | 0, _, _, _ => none
  | n + 1, σ, v2, v3 =>
    if ((σ 0 0) - 1) ≤ v3 then
      ob_bd (f_X11_worth σ) fun r9 σ10 =>
      ob_bd (f_X11_again 14 σ10) fun _ σ12 =>
      some ((v2 - r9), σ12)
    else
      ob_bd (f_X11_swap σ v3 (v3 + 1)) fun _ σ14 =>
      L_X11_forgotten_33 n σ14 v2 (v3 + 1)
noncomputable def f_X11_forgotten (σ : ob_St) (p1 : Int32) : Option (Int32 × ob_St) :=
  ob_bd (f_X11_isDish σ p1) fun r1 σ2 =>
  if r1 = 0 then
    ob_bd (f_X11_noMuch σ2 (-1)) fun r15 σ16 =>
    some (r15, σ16)
  else
    ob_bd (f_X11_worth σ2) fun r3 σ4 =>
    ob_bd (f_X11_keep 14 σ4) fun _ σ6 =>
    ob_bd (f_X11_placeOf σ6 p1) fun r7 σ8 =>
    L_X11_forgotten_33 1000 σ8 r3 r7
set_option maxRecDepth 100000 in
set_option maxHeartbeats 4000000 in
theorem l_X11_forgotten_33 {g : ob_GT} {ad : Nat → Nat} {r : Int32} {σ' : ob_St} : ∀ (n : Nat) {σ : ob_St} {v2 : Int32} {v3 : Int32}, L_X11_forgotten_33 n σ v2 v3 = some (r, σ') → ob_V g (ob_M ad) mi_X11_forgotten (some (.int r)) σ' σ 33 [(0, .ref (ad 0)), (2, .int v2), (3, .int v3)] [] := by
  intro n
  induction n with
  | zero => intro σ v2 v3 hf; exact absurd hf (fun h => by cases h)
  | succ n ih =>
    intro σ v2 v3 hf
    refine vv_iload_n dX11_forgotten_33 2 rfl rfl 34 rfl ?_
    refine vv_aload_n dX11_forgotten_34 0 rfl rfl 35 rfl ?_
    refine vv_getI dX11_forgotten_35 0 gf_X11_forgotten_66 ob_m0 rfl rfl 38 rfl ?_
    refine vv_iconst dX11_forgotten_38 1 rfl 39 rfl ?_
    refine vv_isub dX11_forgotten_39 40 rfl ?_
    refine vv_icmp_ge dX11_forgotten_40 57 43 rfl rfl hf (fun hf => ?_) (fun hf => ?_)
    · refine vv_aload_n dX11_forgotten_57 0 rfl rfl 58 rfl ?_
      refine vv_callV [] [] (fun _ _ h => c_X11_worth h) (ob_rec ob_m0 rfl rfl) cv_X11_forgotten_182 rfl (Nat.le_of_ble_eq_true rfl) 61 rfl dX11_forgotten_58 rfl hf (fun r9 σ10 hf => ?_)
      refine vv_istore_n dX11_forgotten_61 [(3, .int r9), (0, .ref (ad 0)), (2, .int v2)] rfl (Nat.le_of_ble_eq_true rfl) rfl 62 rfl ?_
      refine vv_aload_n dX11_forgotten_62 1 rfl rfl 63 rfl ?_
      refine vv_aload_n dX11_forgotten_63 1 rfl rfl 64 rfl ?_
      refine vv_getR dX11_forgotten_64 18 gf_X11_forgotten_49 ob_m0 rfl rfl 67 rfl ?_
      refine vv_callVu [.ref (ad 14)] [] (fun _ _ h => c_X11_again ⟨ob_m14, rfl⟩ h) (ob_rec ob_m0 rfl rfl) cv_X11_forgotten_115 rfl (Nat.le_of_ble_eq_true rfl) 70 rfl dX11_forgotten_67 rfl hf (fun _ σ12 hf => ?_)
      refine vv_iload_n dX11_forgotten_70 2 rfl rfl 71 rfl ?_
      refine vv_iload_n dX11_forgotten_71 0 rfl rfl 72 rfl ?_
      refine vv_isub dX11_forgotten_72 73 rfl ?_
      exact vv_ireti rfl dX11_forgotten_73 hf
    · refine vv_aload_n dX11_forgotten_43 0 rfl rfl 44 rfl ?_
      refine vv_iload_n dX11_forgotten_44 2 rfl rfl 45 rfl ?_
      refine vv_iload_n dX11_forgotten_45 2 rfl rfl 46 rfl ?_
      refine vv_iconst dX11_forgotten_46 1 rfl 47 rfl ?_
      refine vv_iadd dX11_forgotten_47 48 rfl ?_
      refine vv_callVu [.int v3, .int (v3 + 1)] [] (fun _ _ h => c_X11_swap h) (ob_rec ob_m0 rfl rfl) cv_X11_forgotten_103 rfl (Nat.le_of_ble_eq_true rfl) 51 rfl dX11_forgotten_48 rfl hf (fun _ σ14 hf => ?_)
      refine vv_iinc dX11_forgotten_51 (v3 + 1) 2 [(3, .int (v3 + 1)), (0, .ref (ad 0)), (2, .int v2)] rfl rfl (Nat.le_of_ble_eq_true rfl) rfl 54 rfl ?_
      refine vv_goto dX11_forgotten_54 33 rfl ?_
      refine vv_sub [1, 2, 0] [(0, .ref (ad 0)), (2, .int v2), (3, .int (v3 + 1))] rfl ?_
      exact ih hf
set_option maxRecDepth 100000 in
set_option maxHeartbeats 4000000 in
theorem c_X11_forgotten {g : ob_GT} {ad : Nat → Nat} {r : Int32} {σ' : ob_St} {σ : ob_St} {p1 : Int32} (hf : f_X11_forgotten σ p1 = some (r, σ')) : ob_CT g (ob_M ad) mi_X11_forgotten [.ref (ad 0), .int p1] σ (some (.int r)) σ' := by
  refine ob_ct (by decide +kernel) rfl (Nat.le_of_ble_eq_true rfl) ?_
  show ob_V g (ob_M ad) mi_X11_forgotten (some (.int r)) σ' σ 0 [(0, .ref (ad 0)), (1, .int p1)] []
  refine vv_aload_n dX11_forgotten_0 0 rfl rfl 1 rfl ?_
  refine vv_iload_n dX11_forgotten_1 1 rfl rfl 2 rfl ?_
  refine vv_callV [.int p1] [] (fun _ _ h => c_X11_isDish h) (ob_rec ob_m0 rfl rfl) cv_X11_forgotten_97 rfl (Nat.le_of_ble_eq_true rfl) 5 rfl dX11_forgotten_2 rfl hf (fun r1 σ2 hf => ?_)
  refine vv_if_ne dX11_forgotten_5 14 8 rfl rfl hf (fun hf => ?_) (fun hf => ?_)
  · refine vv_aload_n dX11_forgotten_14 0 rfl rfl 15 rfl ?_
    refine vv_callV [] [] (fun _ _ h => c_X11_worth h) (ob_rec ob_m0 rfl rfl) cv_X11_forgotten_182 rfl (Nat.le_of_ble_eq_true rfl) 18 rfl dX11_forgotten_15 rfl hf (fun r3 σ4 hf => ?_)
    refine vv_istore_n dX11_forgotten_18 [(2, .int r3), (0, .ref (ad 0)), (1, .int p1)] rfl (Nat.le_of_ble_eq_true rfl) rfl 19 rfl ?_
    refine vv_aload_n dX11_forgotten_19 1 rfl rfl 20 rfl ?_
    refine vv_aload_n dX11_forgotten_20 1 rfl rfl 21 rfl ?_
    refine vv_getR dX11_forgotten_21 18 gf_X11_forgotten_49 ob_m0 rfl rfl 24 rfl ?_
    refine vv_callVu [.ref (ad 14)] [] (fun _ _ h => c_X11_keep ⟨ob_m14, rfl⟩ h) (ob_rec ob_m0 rfl rfl) cv_X11_forgotten_111 rfl (Nat.le_of_ble_eq_true rfl) 27 rfl dX11_forgotten_24 rfl hf (fun _ σ6 hf => ?_)
    refine vv_aload_n dX11_forgotten_27 1 rfl rfl 28 rfl ?_
    refine vv_iload_n dX11_forgotten_28 2 rfl rfl 29 rfl ?_
    refine vv_callV [.int p1] [] (fun _ _ h => c_X11_placeOf h) (ob_rec ob_m0 rfl rfl) cv_X11_forgotten_100 rfl (Nat.le_of_ble_eq_true rfl) 32 rfl dX11_forgotten_29 rfl hf (fun r7 σ8 hf => ?_)
    refine vv_istore_n dX11_forgotten_32 [(3, .int r7), (2, .int r3), (0, .ref (ad 0)), (1, .int p1)] rfl (Nat.le_of_ble_eq_true rfl) rfl 33 rfl ?_
    refine vv_sub [2, 1, 0] [(0, .ref (ad 0)), (2, .int r3), (3, .int r7)] rfl ?_
    exact l_X11_forgotten_33 1000 hf
  · refine vv_aload_n dX11_forgotten_8 0 rfl rfl 9 rfl ?_
    refine vv_iconst dX11_forgotten_9 (-1) rfl 10 rfl ?_
    refine vv_callV [.int (-1)] [] (fun _ _ h => c_X11_noMuch h) (ob_rec ob_m0 rfl rfl) cv_X11_forgotten_170 rfl (Nat.le_of_ble_eq_true rfl) 13 rfl dX11_forgotten_10 rfl hf (fun r15 σ16 hf => ?_)
    exact vv_ireti rfl dX11_forgotten_13 hf
abbrev mi_X11_isHalved : ob_MI := (yX11_isHalved, ob_ws yX11_isHalved cX11_isHalved 4 (some .boolean), cX11_isHalved, 4, (some .boolean), { frames := 0, cells := 0, slots := 0, locals := 0 })
theorem gf_X11_isHalved_66 : ob_GF mi_X11_isHalved 66 11 0 := ⟨RX11, TX11, 24, rfl, by decide, fun x h => List.mem_cons_of_mem _ (uw_X11 x h), List.mem_cons_of_mem _ tw_758⟩
theorem gf_X11_isHalved_22 : ob_GF mi_X11_isHalved 22 11 5 := ⟨RX11, TX11, 24, rfl, by decide, fun x h => List.mem_cons_of_mem _ (uw_X11 x h), List.mem_cons_of_mem _ tw_763⟩
theorem gf_X11_isHalved_55 : ob_GF mi_X11_isHalved 55 11 20 := ⟨RX11, TX11, 24, rfl, by decide, fun x h => List.mem_cons_of_mem _ (uw_X11 x h), List.mem_cons_of_mem _ tw_778⟩
noncomputable def J_X11_isHalved_39_5 (rec : ob_St → Int32 → Int32 → Int32 → Option (Int32 × ob_St)) (σ : ob_St) (v1 : Int32) (v2 : Int32) (v3 : Int32) : Option (Int32 × ob_St) :=
  ob_ld σ 16 6 v3 fun v_2 =>
  if v_2 = v2 then
    rec σ v1 v2 (v3 + 1)
  else
    ob_rb 1 σ
noncomputable def L_X11_isHalved_5 : Nat → ob_St → Int32 → Int32 → Int32 → Option (Int32 × ob_St)
  | 0, _, _, _, _ => none
  | n + 1, σ, v1, v2, v3 =>
    if (σ 0 0) ≤ v3 then
      ob_rb 0 σ
    else
      ob_ld σ 5 6 v3 fun v_1 =>
      if v_1 = v1 then
        if v2 = (-9) then
          ob_ld σ 16 6 v3 fun v_3 =>
          J_X11_isHalved_39_5 (fun σ v1 v2 v3 => L_X11_isHalved_5 n σ v1 v2 v3) σ v1 v_3 v3
        else
          J_X11_isHalved_39_5 (fun σ v1 v2 v3 => L_X11_isHalved_5 n σ v1 v2 v3) σ v1 v2 v3
      else
        L_X11_isHalved_5 n σ v1 v2 (v3 + 1)
noncomputable def f_X11_isHalved (σ : ob_St) (p1 : Int32) : Option (Int32 × ob_St) :=
  L_X11_isHalved_5 1000 σ p1 (-9) 0
set_option maxRecDepth 100000 in
set_option maxHeartbeats 4000000 in
theorem j_X11_isHalved_39_5 {g : ob_GT} {ad : Nat → Nat} {r : Int32} {σ' : ob_St} {σ : ob_St} {v1 : Int32} {v2 : Int32} {v3 : Int32} {rec : ob_St → Int32 → Int32 → Int32 → Option (Int32 × ob_St)} (hrec : ∀ {σ : ob_St} {v1 : Int32} {v2 : Int32} {v3 : Int32}, rec σ v1 v2 v3 = some (r, σ') → ob_V g (ob_M ad) mi_X11_isHalved (some (.int r)) σ' σ 5 [(0, .ref (ad 0)), (1, .int v1), (2, .int v2), (3, .int v3)] []) (hf : J_X11_isHalved_39_5 rec σ v1 v2 v3 = some (r, σ')) : ob_V g (ob_M ad) mi_X11_isHalved (some (.int r)) σ' σ 39 [(0, .ref (ad 0)), (1, .int v1), (2, .int v2), (3, .int v3)] [] := by
  refine vv_aload_n dX11_isHalved_39 0 rfl rfl 40 rfl ?_
  refine vv_getR dX11_isHalved_40 20 gf_X11_isHalved_55 ob_m0 rfl rfl 43 rfl ?_
  refine vv_iload_n dX11_isHalved_43 3 rfl rfl 44 rfl ?_
  refine vv_iald dX11_isHalved_44 ob_m16 rfl 45 rfl hf (fun v_2 hf => ?_)
  refine vv_iload_n dX11_isHalved_45 2 rfl rfl 46 rfl ?_
  refine vv_icmp_eq dX11_isHalved_46 51 49 rfl rfl hf (fun hf => ?_) (fun hf => ?_)
  · refine vv_iinc dX11_isHalved_51 (v3 + 1) 3 [(3, .int (v3 + 1)), (0, .ref (ad 0)), (1, .int v1), (2, .int v2)] rfl rfl (Nat.le_of_ble_eq_true rfl) rfl 54 rfl ?_
    refine vv_goto dX11_isHalved_54 5 rfl ?_
    refine vv_sub [1, 2, 3, 0] [(0, .ref (ad 0)), (1, .int v1), (2, .int v2), (3, .int (v3 + 1))] rfl ?_
    exact hrec hf
  · refine vv_iconst dX11_isHalved_49 1 rfl 50 rfl ?_
    exact vv_iretz rfl dX11_isHalved_50 hf
set_option maxRecDepth 100000 in
set_option maxHeartbeats 4000000 in
theorem l_X11_isHalved_5 {g : ob_GT} {ad : Nat → Nat} {r : Int32} {σ' : ob_St} : ∀ (n : Nat) {σ : ob_St} {v1 : Int32} {v2 : Int32} {v3 : Int32}, L_X11_isHalved_5 n σ v1 v2 v3 = some (r, σ') → ob_V g (ob_M ad) mi_X11_isHalved (some (.int r)) σ' σ 5 [(0, .ref (ad 0)), (1, .int v1), (2, .int v2), (3, .int v3)] [] := by
  intro n
  induction n with
  | zero => intro σ v1 v2 v3 hf; exact absurd hf (fun h => by cases h)
  | succ n ih =>
    intro σ v1 v2 v3 hf
    refine vv_iload_n dX11_isHalved_5 3 rfl rfl 6 rfl ?_
    refine vv_aload_n dX11_isHalved_6 0 rfl rfl 7 rfl ?_
    refine vv_getI dX11_isHalved_7 0 gf_X11_isHalved_66 ob_m0 rfl rfl 10 rfl ?_
    refine vv_icmp_ge dX11_isHalved_10 57 13 rfl rfl hf (fun hf => ?_) (fun hf => ?_)
    · refine vv_iconst dX11_isHalved_57 0 rfl 58 rfl ?_
      exact vv_iretz rfl dX11_isHalved_58 hf
    · refine vv_aload_n dX11_isHalved_13 0 rfl rfl 14 rfl ?_
      refine vv_getR dX11_isHalved_14 5 gf_X11_isHalved_22 ob_m0 rfl rfl 17 rfl ?_
      refine vv_iload_n dX11_isHalved_17 3 rfl rfl 18 rfl ?_
      refine vv_iald dX11_isHalved_18 ob_m5 rfl 19 rfl hf (fun v_1 hf => ?_)
      refine vv_iload_n dX11_isHalved_19 1 rfl rfl 20 rfl ?_
      refine vv_icmp_eq dX11_isHalved_20 26 23 rfl rfl hf (fun hf => ?_) (fun hf => ?_)
      · refine vv_iload_n dX11_isHalved_26 2 rfl rfl 27 rfl ?_
        refine vv_bipush dX11_isHalved_27 (-9) rfl 29 rfl ?_
        refine vv_icmp_ne dX11_isHalved_29 39 32 rfl rfl hf (fun hf => ?_) (fun hf => ?_)
        · exact j_X11_isHalved_39_5 ih hf
        · refine vv_aload_n dX11_isHalved_32 0 rfl rfl 33 rfl ?_
          refine vv_getR dX11_isHalved_33 20 gf_X11_isHalved_55 ob_m0 rfl rfl 36 rfl ?_
          refine vv_iload_n dX11_isHalved_36 3 rfl rfl 37 rfl ?_
          refine vv_iald dX11_isHalved_37 ob_m16 rfl 38 rfl hf (fun v_3 hf => ?_)
          refine vv_istore_n dX11_isHalved_38 [(2, .int v_3), (0, .ref (ad 0)), (1, .int v1), (3, .int v3)] rfl (Nat.le_of_ble_eq_true rfl) rfl 39 rfl ?_
          refine vv_sub [1, 2, 0, 3] [(0, .ref (ad 0)), (1, .int v1), (2, .int v_3), (3, .int v3)] rfl ?_
          exact j_X11_isHalved_39_5 ih hf
      · refine vv_goto dX11_isHalved_23 51 rfl ?_
        refine vv_iinc dX11_isHalved_51 (v3 + 1) 3 [(3, .int (v3 + 1)), (0, .ref (ad 0)), (1, .int v1), (2, .int v2)] rfl rfl (Nat.le_of_ble_eq_true rfl) rfl 54 rfl ?_
        refine vv_goto dX11_isHalved_54 5 rfl ?_
        refine vv_sub [1, 2, 3, 0] [(0, .ref (ad 0)), (1, .int v1), (2, .int v2), (3, .int (v3 + 1))] rfl ?_
        exact ih hf
set_option maxRecDepth 100000 in
set_option maxHeartbeats 4000000 in
theorem c_X11_isHalved {g : ob_GT} {ad : Nat → Nat} {r : Int32} {σ' : ob_St} {σ : ob_St} {p1 : Int32} (hf : f_X11_isHalved σ p1 = some (r, σ')) : ob_CT g (ob_M ad) mi_X11_isHalved [.ref (ad 0), .int p1] σ (some (.int r)) σ' := by
  refine ob_ct (by decide +kernel) rfl (Nat.le_of_ble_eq_true rfl) ?_
  show ob_V g (ob_M ad) mi_X11_isHalved (some (.int r)) σ' σ 0 [(0, .ref (ad 0)), (1, .int p1)] []
  refine vv_bipush dX11_isHalved_0 (-9) rfl 2 rfl ?_
  refine vv_istore_n dX11_isHalved_2 [(2, .int (-9)), (0, .ref (ad 0)), (1, .int p1)] rfl (Nat.le_of_ble_eq_true rfl) rfl 3 rfl ?_
  refine vv_iconst dX11_isHalved_3 0 rfl 4 rfl ?_
  refine vv_istore_n dX11_isHalved_4 [(3, .int 0), (2, .int (-9)), (0, .ref (ad 0)), (1, .int p1)] rfl (Nat.le_of_ble_eq_true rfl) rfl 5 rfl ?_
  refine vv_sub [2, 3, 1, 0] [(0, .ref (ad 0)), (1, .int p1), (2, .int (-9)), (3, .int 0)] rfl ?_
  exact l_X11_isHalved_5 1000 hf
abbrev mi_X11_halved : ob_MI := (yX11_halved, ob_ws yX11_halved cX11_halved 4 (some .int), cX11_halved, 4, (some .int), { frames := 3, cells := 0, slots := 0, locals := 70 })
theorem cv_X11_halved_163 : ob_CV mi_X11_halved mi_X11_run 163 RX11 1 := ob_cvI rfl rfl tw_933 tw_935 tw_30 tw_59 tw_936 ⟨rfl, rfl⟩ ⟨rfl, by decide +kernel, by decide +kernel, by decide +kernel⟩ ⟨Nat.le_of_ble_eq_true rfl, Nat.le_of_ble_eq_true rfl⟩
theorem cv_X11_halved_189 : ob_CV mi_X11_halved mi_X11_isHalved 189 RX11 1 := ob_cvI rfl rfl tw_1025 tw_1027 tw_44 tw_59 tw_1028 ⟨rfl, rfl⟩ ⟨rfl, by decide +kernel, by decide +kernel, by decide +kernel⟩ ⟨Nat.le_of_ble_eq_true rfl, Nat.le_of_ble_eq_true rfl⟩
theorem cv_X11_halved_62 : ob_CV mi_X11_halved mi_X11_no 62 RX11 1 := ob_cvI rfl rfl tw_835 tw_837 tw_18 tw_59 tw_838 ⟨rfl, rfl⟩ ⟨rfl, by decide +kernel, by decide +kernel, by decide +kernel⟩ ⟨Nat.le_of_ble_eq_true rfl, Nat.le_of_ble_eq_true rfl⟩
noncomputable def J_X11_halved_47_33 (rec : ob_St → Int32 → Int32 → Int32 → Option (Int32 × ob_St)) (σ : ob_St) (v1 : Int32) (v2 : Int32) (v3 : Int32) : Option (Int32 × ob_St) :=
  ob_bd (f_X11_isHalved σ v3) fun r3 σ4 =>
  if r3 = 0 then
    rec σ4 v1 v2 (v3 + 1)
  else
    rec σ4 v1 (v2 + 1) (v3 + 1)
noncomputable def L_X11_halved_33 : Nat → ob_St → Int32 → Int32 → Int32 → Option (Int32 × ob_St)
  | 0, _, _, _, _ => none
  | n + 1, σ, v1, v2, v3 =>
    if (5 : Int32) ≤ v3 then
      some (v2, σ)
    else
      if v1 < 0 then
        J_X11_halved_47_33 (fun σ v1 v2 v3 => L_X11_halved_33 n σ v1 v2 v3) σ v1 v2 v3
      else
        if v3 = v1 then
          J_X11_halved_47_33 (fun σ v1 v2 v3 => L_X11_halved_33 n σ v1 v2 v3) σ v1 v2 v3
        else
          L_X11_halved_33 n σ v1 v2 (v3 + 1)
noncomputable def f_X11_halved (σ : ob_St) (p1 : Int32) : Option (Int32 × ob_St) :=
  if ((-1) : Int32) ≤ p1 then
    if p1 ≤ 4 then
      ob_bd (f_X11_run σ (-9)) fun _ σ2 =>
      L_X11_halved_33 1000 σ2 p1 0 0
    else
      ob_bd (f_X11_no σ (-1)) fun r5 σ6 =>
      some (r5, σ6)
  else
    ob_bd (f_X11_no σ (-4)) fun r7 σ8 =>
    some (r7, σ8)
set_option maxRecDepth 100000 in
set_option maxHeartbeats 4000000 in
theorem j_X11_halved_47_33 {g : ob_GT} {ad : Nat → Nat} {r : Int32} {σ' : ob_St} {σ : ob_St} {v1 : Int32} {v2 : Int32} {v3 : Int32} {rec : ob_St → Int32 → Int32 → Int32 → Option (Int32 × ob_St)} (hrec : ∀ {σ : ob_St} {v1 : Int32} {v2 : Int32} {v3 : Int32}, rec σ v1 v2 v3 = some (r, σ') → ob_V g (ob_M ad) mi_X11_halved (some (.int r)) σ' σ 33 [(0, .ref (ad 0)), (1, .int v1), (2, .int v2), (3, .int v3)] []) (hf : J_X11_halved_47_33 rec σ v1 v2 v3 = some (r, σ')) : ob_V g (ob_M ad) mi_X11_halved (some (.int r)) σ' σ 47 [(0, .ref (ad 0)), (1, .int v1), (2, .int v2), (3, .int v3)] [] := by
  refine vv_aload_n dX11_halved_47 0 rfl rfl 48 rfl ?_
  refine vv_iload_n dX11_halved_48 3 rfl rfl 49 rfl ?_
  refine vv_callV [.int v3] [] (fun _ _ h => c_X11_isHalved h) (ob_rec ob_m0 rfl rfl) cv_X11_halved_189 rfl (Nat.le_of_ble_eq_true rfl) 52 rfl dX11_halved_49 rfl hf (fun r3 σ4 hf => ?_)
  refine vv_if_eq dX11_halved_52 58 55 rfl rfl hf (fun hf => ?_) (fun hf => ?_)
  · refine vv_iinc dX11_halved_58 (v3 + 1) 3 [(3, .int (v3 + 1)), (0, .ref (ad 0)), (1, .int v1), (2, .int v2)] rfl rfl (Nat.le_of_ble_eq_true rfl) rfl 61 rfl ?_
    refine vv_goto dX11_halved_61 33 rfl ?_
    refine vv_sub [1, 2, 3, 0] [(0, .ref (ad 0)), (1, .int v1), (2, .int v2), (3, .int (v3 + 1))] rfl ?_
    exact hrec hf
  · refine vv_iinc dX11_halved_55 (v2 + 1) 2 [(2, .int (v2 + 1)), (0, .ref (ad 0)), (1, .int v1), (3, .int v3)] rfl rfl (Nat.le_of_ble_eq_true rfl) rfl 58 rfl ?_
    refine vv_iinc dX11_halved_58 (v3 + 1) 3 [(3, .int (v3 + 1)), (2, .int (v2 + 1)), (0, .ref (ad 0)), (1, .int v1)] rfl rfl (Nat.le_of_ble_eq_true rfl) rfl 61 rfl ?_
    refine vv_goto dX11_halved_61 33 rfl ?_
    refine vv_sub [2, 3, 1, 0] [(0, .ref (ad 0)), (1, .int v1), (2, .int (v2 + 1)), (3, .int (v3 + 1))] rfl ?_
    exact hrec hf
set_option maxRecDepth 100000 in
set_option maxHeartbeats 4000000 in
theorem l_X11_halved_33 {g : ob_GT} {ad : Nat → Nat} {r : Int32} {σ' : ob_St} : ∀ (n : Nat) {σ : ob_St} {v1 : Int32} {v2 : Int32} {v3 : Int32}, L_X11_halved_33 n σ v1 v2 v3 = some (r, σ') → ob_V g (ob_M ad) mi_X11_halved (some (.int r)) σ' σ 33 [(0, .ref (ad 0)), (1, .int v1), (2, .int v2), (3, .int v3)] [] := by
  intro n
  induction n with
  | zero => intro σ v1 v2 v3 hf; exact absurd hf (fun h => by cases h)
  | succ n ih =>
    intro σ v1 v2 v3 hf
    refine vv_iload_n dX11_halved_33 3 rfl rfl 34 rfl ?_
    refine vv_iconst dX11_halved_34 5 rfl 35 rfl ?_
    refine vv_icmp_ge dX11_halved_35 64 38 rfl rfl hf (fun hf => ?_) (fun hf => ?_)
    · refine vv_iload_n dX11_halved_64 2 rfl rfl 65 rfl ?_
      exact vv_ireti rfl dX11_halved_65 hf
    · refine vv_iload_n dX11_halved_38 1 rfl rfl 39 rfl ?_
      refine vv_if_lt dX11_halved_39 47 42 rfl rfl hf (fun hf => ?_) (fun hf => ?_)
      · exact j_X11_halved_47_33 ih hf
      · refine vv_iload_n dX11_halved_42 3 rfl rfl 43 rfl ?_
        refine vv_iload_n dX11_halved_43 1 rfl rfl 44 rfl ?_
        refine vv_icmp_ne dX11_halved_44 58 47 rfl rfl hf (fun hf => ?_) (fun hf => ?_)
        · refine vv_iinc dX11_halved_58 (v3 + 1) 3 [(3, .int (v3 + 1)), (0, .ref (ad 0)), (1, .int v1), (2, .int v2)] rfl rfl (Nat.le_of_ble_eq_true rfl) rfl 61 rfl ?_
          refine vv_goto dX11_halved_61 33 rfl ?_
          refine vv_sub [1, 2, 3, 0] [(0, .ref (ad 0)), (1, .int v1), (2, .int v2), (3, .int (v3 + 1))] rfl ?_
          exact ih hf
        · exact j_X11_halved_47_33 ih hf
set_option maxRecDepth 100000 in
set_option maxHeartbeats 4000000 in
theorem c_X11_halved {g : ob_GT} {ad : Nat → Nat} {r : Int32} {σ' : ob_St} {σ : ob_St} {p1 : Int32} (hf : f_X11_halved σ p1 = some (r, σ')) : ob_CT g (ob_M ad) mi_X11_halved [.ref (ad 0), .int p1] σ (some (.int r)) σ' := by
  refine ob_ct (by decide +kernel) rfl (Nat.le_of_ble_eq_true rfl) ?_
  show ob_V g (ob_M ad) mi_X11_halved (some (.int r)) σ' σ 0 [(0, .ref (ad 0)), (1, .int p1)] []
  refine vv_iload_n dX11_halved_0 1 rfl rfl 1 rfl ?_
  refine vv_iconst dX11_halved_1 (-1) rfl 2 rfl ?_
  refine vv_icmp_ge dX11_halved_2 12 5 rfl rfl hf (fun hf => ?_) (fun hf => ?_)
  · refine vv_iload_n dX11_halved_12 1 rfl rfl 13 rfl ?_
    refine vv_iconst dX11_halved_13 4 rfl 14 rfl ?_
    refine vv_icmp_le dX11_halved_14 23 17 rfl rfl hf (fun hf => ?_) (fun hf => ?_)
    · refine vv_aload_n dX11_halved_23 0 rfl rfl 24 rfl ?_
      refine vv_bipush dX11_halved_24 (-9) rfl 26 rfl ?_
      refine vv_callVu [.int (-9)] [] (fun _ _ h => c_X11_run h) (ob_rec ob_m0 rfl rfl) cv_X11_halved_163 rfl (Nat.le_of_ble_eq_true rfl) 29 rfl dX11_halved_26 rfl hf (fun _ σ2 hf => ?_)
      refine vv_iconst dX11_halved_29 0 rfl 30 rfl ?_
      refine vv_istore_n dX11_halved_30 [(2, .int 0), (0, .ref (ad 0)), (1, .int p1)] rfl (Nat.le_of_ble_eq_true rfl) rfl 31 rfl ?_
      refine vv_iconst dX11_halved_31 0 rfl 32 rfl ?_
      refine vv_istore_n dX11_halved_32 [(3, .int 0), (2, .int 0), (0, .ref (ad 0)), (1, .int p1)] rfl (Nat.le_of_ble_eq_true rfl) rfl 33 rfl ?_
      refine vv_sub [2, 3, 1, 0] [(0, .ref (ad 0)), (1, .int p1), (2, .int 0), (3, .int 0)] rfl ?_
      exact l_X11_halved_33 1000 hf
    · refine vv_aload_n dX11_halved_17 0 rfl rfl 18 rfl ?_
      refine vv_iconst dX11_halved_18 (-1) rfl 19 rfl ?_
      refine vv_callV [.int (-1)] [] (fun _ _ h => c_X11_no h) (ob_rec ob_m0 rfl rfl) cv_X11_halved_62 rfl (Nat.le_of_ble_eq_true rfl) 22 rfl dX11_halved_19 rfl hf (fun r5 σ6 hf => ?_)
      exact vv_ireti rfl dX11_halved_22 hf
  · refine vv_aload_n dX11_halved_5 0 rfl rfl 6 rfl ?_
    refine vv_bipush dX11_halved_6 (-4) rfl 8 rfl ?_
    refine vv_callV [.int (-4)] [] (fun _ _ h => c_X11_no h) (ob_rec ob_m0 rfl rfl) cv_X11_halved_62 rfl (Nat.le_of_ble_eq_true rfl) 11 rfl dX11_halved_8 rfl hf (fun r7 σ8 hf => ?_)
    exact vv_ireti rfl dX11_halved_11 hf
abbrev mi_X11_heard : ob_MI := (yX11_heard, ob_ws yX11_heard cX11_heard 4 (some .int), cX11_heard, 4, (some .int), { frames := 1, cells := 0, slots := 0, locals := 21 })
theorem cv_X11_heard_142 : ob_CV mi_X11_heard mi_X11_begin 142 RX11 1 := ob_cvI rfl rfl tw_945 tw_947 tw_33 tw_59 tw_948 ⟨rfl, rfl⟩ ⟨rfl, by decide +kernel, by decide +kernel, by decide +kernel⟩ ⟨Nat.le_of_ble_eq_true rfl, Nat.le_of_ble_eq_true rfl⟩
theorem cv_X11_heard_62 : ob_CV mi_X11_heard mi_X11_no 62 RX11 1 := ob_cvI rfl rfl tw_835 tw_837 tw_18 tw_59 tw_838 ⟨rfl, rfl⟩ ⟨rfl, by decide +kernel, by decide +kernel, by decide +kernel⟩ ⟨Nat.le_of_ble_eq_true rfl, Nat.le_of_ble_eq_true rfl⟩
noncomputable def L_X11_heard_30 : Nat → ob_St → Int32 → Int32 → Int32 → Option (Int32 × ob_St)
  | 0, _, _, _, _ => none
  | n + 1, σ, v1, v2, v3 =>
    if (5 : Int32) ≤ v3 then
      some (v2, σ)
    else
      ob_bd (f_X11_begin σ v3) fun r1 σ2 =>
      if v1 < r1 then
        L_X11_heard_30 n σ2 v1 v2 (v3 + 1)
      else
        L_X11_heard_30 n σ2 v1 v3 (v3 + 1)
noncomputable def f_X11_heard (σ : ob_St) (p1 : Int32) : Option (Int32 × ob_St) :=
  if (0 : Int32) ≤ p1 then
    if p1 ≤ 999 then
      L_X11_heard_30 1000 σ p1 (-9) 0
    else
      ob_bd (f_X11_no σ (-6)) fun r3 σ4 =>
      some (r3, σ4)
  else
    ob_bd (f_X11_no σ (-4)) fun r5 σ6 =>
    some (r5, σ6)
set_option maxRecDepth 100000 in
set_option maxHeartbeats 4000000 in
theorem l_X11_heard_30 {g : ob_GT} {ad : Nat → Nat} {r : Int32} {σ' : ob_St} : ∀ (n : Nat) {σ : ob_St} {v1 : Int32} {v2 : Int32} {v3 : Int32}, L_X11_heard_30 n σ v1 v2 v3 = some (r, σ') → ob_V g (ob_M ad) mi_X11_heard (some (.int r)) σ' σ 30 [(0, .ref (ad 0)), (1, .int v1), (2, .int v2), (3, .int v3)] [] := by
  intro n
  induction n with
  | zero => intro σ v1 v2 v3 hf; exact absurd hf (fun h => by cases h)
  | succ n ih =>
    intro σ v1 v2 v3 hf
    refine vv_iload_n dX11_heard_30 3 rfl rfl 31 rfl ?_
    refine vv_iconst dX11_heard_31 5 rfl 32 rfl ?_
    refine vv_icmp_ge dX11_heard_32 52 35 rfl rfl hf (fun hf => ?_) (fun hf => ?_)
    · refine vv_iload_n dX11_heard_52 2 rfl rfl 53 rfl ?_
      exact vv_ireti rfl dX11_heard_53 hf
    · refine vv_aload_n dX11_heard_35 0 rfl rfl 36 rfl ?_
      refine vv_iload_n dX11_heard_36 3 rfl rfl 37 rfl ?_
      refine vv_callV [.int v3] [] (fun _ _ h => c_X11_begin h) (ob_rec ob_m0 rfl rfl) cv_X11_heard_142 rfl (Nat.le_of_ble_eq_true rfl) 40 rfl dX11_heard_37 rfl hf (fun r1 σ2 hf => ?_)
      refine vv_iload_n dX11_heard_40 1 rfl rfl 41 rfl ?_
      refine vv_icmp_gt dX11_heard_41 46 44 rfl rfl hf (fun hf => ?_) (fun hf => ?_)
      · refine vv_iinc dX11_heard_46 (v3 + 1) 3 [(3, .int (v3 + 1)), (0, .ref (ad 0)), (1, .int v1), (2, .int v2)] rfl rfl (Nat.le_of_ble_eq_true rfl) rfl 49 rfl ?_
        refine vv_goto dX11_heard_49 30 rfl ?_
        refine vv_sub [1, 2, 3, 0] [(0, .ref (ad 0)), (1, .int v1), (2, .int v2), (3, .int (v3 + 1))] rfl ?_
        exact ih hf
      · refine vv_iload_n dX11_heard_44 3 rfl rfl 45 rfl ?_
        refine vv_istore_n dX11_heard_45 [(2, .int v3), (0, .ref (ad 0)), (1, .int v1), (3, .int v3)] rfl (Nat.le_of_ble_eq_true rfl) rfl 46 rfl ?_
        refine vv_iinc dX11_heard_46 (v3 + 1) 3 [(3, .int (v3 + 1)), (2, .int v3), (0, .ref (ad 0)), (1, .int v1)] rfl rfl (Nat.le_of_ble_eq_true rfl) rfl 49 rfl ?_
        refine vv_goto dX11_heard_49 30 rfl ?_
        refine vv_sub [2, 3, 1, 0] [(0, .ref (ad 0)), (1, .int v1), (2, .int v3), (3, .int (v3 + 1))] rfl ?_
        exact ih hf
set_option maxRecDepth 100000 in
set_option maxHeartbeats 4000000 in
theorem c_X11_heard {g : ob_GT} {ad : Nat → Nat} {r : Int32} {σ' : ob_St} {σ : ob_St} {p1 : Int32} (hf : f_X11_heard σ p1 = some (r, σ')) : ob_CT g (ob_M ad) mi_X11_heard [.ref (ad 0), .int p1] σ (some (.int r)) σ' := by
  refine ob_ct (by decide +kernel) rfl (Nat.le_of_ble_eq_true rfl) ?_
  show ob_V g (ob_M ad) mi_X11_heard (some (.int r)) σ' σ 0 [(0, .ref (ad 0)), (1, .int p1)] []
  refine vv_iload_n dX11_heard_0 1 rfl rfl 1 rfl ?_
  refine vv_if_ge dX11_heard_1 11 4 rfl rfl hf (fun hf => ?_) (fun hf => ?_)
  · refine vv_iload_n dX11_heard_11 1 rfl rfl 12 rfl ?_
    refine vv_sipush dX11_heard_12 999 rfl 15 rfl ?_
    refine vv_icmp_le dX11_heard_15 25 18 rfl rfl hf (fun hf => ?_) (fun hf => ?_)
    · refine vv_bipush dX11_heard_25 (-9) rfl 27 rfl ?_
      refine vv_istore_n dX11_heard_27 [(2, .int (-9)), (0, .ref (ad 0)), (1, .int p1)] rfl (Nat.le_of_ble_eq_true rfl) rfl 28 rfl ?_
      refine vv_iconst dX11_heard_28 0 rfl 29 rfl ?_
      refine vv_istore_n dX11_heard_29 [(3, .int 0), (2, .int (-9)), (0, .ref (ad 0)), (1, .int p1)] rfl (Nat.le_of_ble_eq_true rfl) rfl 30 rfl ?_
      refine vv_sub [2, 3, 1, 0] [(0, .ref (ad 0)), (1, .int p1), (2, .int (-9)), (3, .int 0)] rfl ?_
      exact l_X11_heard_30 1000 hf
    · refine vv_aload_n dX11_heard_18 0 rfl rfl 19 rfl ?_
      refine vv_bipush dX11_heard_19 (-6) rfl 21 rfl ?_
      refine vv_callV [.int (-6)] [] (fun _ _ h => c_X11_no h) (ob_rec ob_m0 rfl rfl) cv_X11_heard_62 rfl (Nat.le_of_ble_eq_true rfl) 24 rfl dX11_heard_21 rfl hf (fun r3 σ4 hf => ?_)
      exact vv_ireti rfl dX11_heard_24 hf
  · refine vv_aload_n dX11_heard_4 0 rfl rfl 5 rfl ?_
    refine vv_bipush dX11_heard_5 (-4) rfl 7 rfl ?_
    refine vv_callV [.int (-4)] [] (fun _ _ h => c_X11_no h) (ob_rec ob_m0 rfl rfl) cv_X11_heard_62 rfl (Nat.le_of_ble_eq_true rfl) 10 rfl dX11_heard_7 rfl hf (fun r5 σ6 hf => ?_)
    exact vv_ireti rfl dX11_heard_10 hf
abbrev mi_X11_waits : ob_MI := (yX11_waits, ob_ws yX11_waits cX11_waits 4 (some .int), cX11_waits, 4, (some .int), { frames := 3, cells := 0, slots := 0, locals := 70 })
theorem cv_X11_waits_163 : ob_CV mi_X11_waits mi_X11_run 163 RX11 1 := ob_cvI rfl rfl tw_933 tw_935 tw_30 tw_59 tw_936 ⟨rfl, rfl⟩ ⟨rfl, by decide +kernel, by decide +kernel, by decide +kernel⟩ ⟨Nat.le_of_ble_eq_true rfl, Nat.le_of_ble_eq_true rfl⟩
theorem gf_X11_waits_66 : ob_GF mi_X11_waits 66 11 0 := ⟨RX11, TX11, 24, rfl, by decide, fun x h => List.mem_cons_of_mem _ (uw_X11 x h), List.mem_cons_of_mem _ tw_758⟩
theorem gf_X11_waits_52 : ob_GF mi_X11_waits 52 11 19 := ⟨RX11, TX11, 24, rfl, by decide, fun x h => List.mem_cons_of_mem _ (uw_X11 x h), List.mem_cons_of_mem _ tw_777⟩
theorem gf_X11_waits_22 : ob_GF mi_X11_waits 22 11 5 := ⟨RX11, TX11, 24, rfl, by decide, fun x h => List.mem_cons_of_mem _ (uw_X11 x h), List.mem_cons_of_mem _ tw_763⟩
theorem cv_X11_waits_142 : ob_CV mi_X11_waits mi_X11_begin 142 RX11 1 := ob_cvI rfl rfl tw_945 tw_947 tw_33 tw_59 tw_948 ⟨rfl, rfl⟩ ⟨rfl, by decide +kernel, by decide +kernel, by decide +kernel⟩ ⟨Nat.le_of_ble_eq_true rfl, Nat.le_of_ble_eq_true rfl⟩
theorem cv_X11_waits_62 : ob_CV mi_X11_waits mi_X11_no 62 RX11 1 := ob_cvI rfl rfl tw_835 tw_837 tw_18 tw_59 tw_838 ⟨rfl, rfl⟩ ⟨rfl, by decide +kernel, by decide +kernel, by decide +kernel⟩ ⟨Nat.le_of_ble_eq_true rfl, Nat.le_of_ble_eq_true rfl⟩
noncomputable def L_X11_waits_35 : Nat → ob_St → Int32 → Int32 → Int32 → Option (Int32 × ob_St)
  | 0, _, _, _, _ => none
  | n + 1, σ, v1, v2, v3 =>
    if (σ 0 0) ≤ v3 then
      some (v2, σ)
    else
      ob_ld σ 15 6 v3 fun v_3 =>
      if v_3 ≤ v1 then
        L_X11_waits_35 n σ v1 v2 (v3 + 1)
      else
        ob_ld σ 5 6 v3 fun v_4 =>
        ob_bd (f_X11_begin σ v_4) fun r5 σ6 =>
        if v1 < r5 then
          L_X11_waits_35 n σ6 v1 v2 (v3 + 1)
        else
          ob_nm (v2 ||| (1 <<< (v3 &&& 31))) fun v_7 =>
          L_X11_waits_35 n σ6 v1 v_7 (v3 + 1)
noncomputable def f_X11_waits (σ : ob_St) (p1 : Int32) : Option (Int32 × ob_St) :=
  if (0 : Int32) ≤ p1 then
    if p1 ≤ 999 then
      ob_bd (f_X11_run σ (-9)) fun _ σ2 =>
      L_X11_waits_35 1000 σ2 p1 0 0
    else
      ob_bd (f_X11_no σ (-6)) fun r8 σ9 =>
      some (r8, σ9)
  else
    ob_bd (f_X11_no σ (-4)) fun r10 σ11 =>
    some (r10, σ11)
set_option maxRecDepth 100000 in
set_option maxHeartbeats 4000000 in
theorem l_X11_waits_35 {g : ob_GT} {ad : Nat → Nat} {r : Int32} {σ' : ob_St} : ∀ (n : Nat) {σ : ob_St} {v1 : Int32} {v2 : Int32} {v3 : Int32}, L_X11_waits_35 n σ v1 v2 v3 = some (r, σ') → ob_V g (ob_M ad) mi_X11_waits (some (.int r)) σ' σ 35 [(0, .ref (ad 0)), (1, .int v1), (2, .int v2), (3, .int v3)] [] := by
  intro n
  induction n with
  | zero => intro σ v1 v2 v3 hf; exact absurd hf (fun h => by cases h)
  | succ n ih =>
    intro σ v1 v2 v3 hf
    refine vv_iload_n dX11_waits_35 3 rfl rfl 36 rfl ?_
    refine vv_aload_n dX11_waits_36 0 rfl rfl 37 rfl ?_
    refine vv_getI dX11_waits_37 0 gf_X11_waits_66 ob_m0 rfl rfl 40 rfl ?_
    refine vv_icmp_ge dX11_waits_40 79 43 rfl rfl hf (fun hf => ?_) (fun hf => ?_)
    · refine vv_iload_n dX11_waits_79 2 rfl rfl 80 rfl ?_
      exact vv_ireti rfl dX11_waits_80 hf
    · refine vv_aload_n dX11_waits_43 0 rfl rfl 44 rfl ?_
      refine vv_getR dX11_waits_44 19 gf_X11_waits_52 ob_m0 rfl rfl 47 rfl ?_
      refine vv_iload_n dX11_waits_47 3 rfl rfl 48 rfl ?_
      refine vv_iald dX11_waits_48 ob_m15 rfl 49 rfl hf (fun v_3 hf => ?_)
      refine vv_iload_n dX11_waits_49 1 rfl rfl 50 rfl ?_
      refine vv_icmp_le dX11_waits_50 73 53 rfl rfl hf (fun hf => ?_) (fun hf => ?_)
      · refine vv_iinc dX11_waits_73 (v3 + 1) 3 [(3, .int (v3 + 1)), (0, .ref (ad 0)), (1, .int v1), (2, .int v2)] rfl rfl (Nat.le_of_ble_eq_true rfl) rfl 76 rfl ?_
        refine vv_goto dX11_waits_76 35 rfl ?_
        refine vv_sub [1, 2, 3, 0] [(0, .ref (ad 0)), (1, .int v1), (2, .int v2), (3, .int (v3 + 1))] rfl ?_
        exact ih hf
      · refine vv_aload_n dX11_waits_53 0 rfl rfl 54 rfl ?_
        refine vv_aload_n dX11_waits_54 0 rfl rfl 55 rfl ?_
        refine vv_getR dX11_waits_55 5 gf_X11_waits_22 ob_m0 rfl rfl 58 rfl ?_
        refine vv_iload_n dX11_waits_58 3 rfl rfl 59 rfl ?_
        refine vv_iald dX11_waits_59 ob_m5 rfl 60 rfl hf (fun v_4 hf => ?_)
        refine vv_callV [.int v_4] [] (fun _ _ h => c_X11_begin h) (ob_rec ob_m0 rfl rfl) cv_X11_waits_142 rfl (Nat.le_of_ble_eq_true rfl) 63 rfl dX11_waits_60 rfl hf (fun r5 σ6 hf => ?_)
        refine vv_iload_n dX11_waits_63 1 rfl rfl 64 rfl ?_
        refine vv_icmp_gt dX11_waits_64 73 67 rfl rfl hf (fun hf => ?_) (fun hf => ?_)
        · refine vv_iinc dX11_waits_73 (v3 + 1) 3 [(3, .int (v3 + 1)), (0, .ref (ad 0)), (1, .int v1), (2, .int v2)] rfl rfl (Nat.le_of_ble_eq_true rfl) rfl 76 rfl ?_
          refine vv_goto dX11_waits_76 35 rfl ?_
          refine vv_sub [1, 2, 3, 0] [(0, .ref (ad 0)), (1, .int v1), (2, .int v2), (3, .int (v3 + 1))] rfl ?_
          exact ih hf
        · refine vv_iload_n dX11_waits_67 2 rfl rfl 68 rfl ?_
          refine vv_iconst dX11_waits_68 1 rfl 69 rfl ?_
          refine vv_iload_n dX11_waits_69 3 rfl rfl 70 rfl ?_
          refine vv_ishl dX11_waits_70 71 rfl ?_
          refine vv_ior dX11_waits_71 72 rfl ?_
          refine vv_nm hf (fun v_7 hf => ?_)
          refine vv_istore_n dX11_waits_72 [(2, .int v_7), (0, .ref (ad 0)), (1, .int v1), (3, .int v3)] rfl (Nat.le_of_ble_eq_true rfl) rfl 73 rfl ?_
          refine vv_iinc dX11_waits_73 (v3 + 1) 3 [(3, .int (v3 + 1)), (2, .int v_7), (0, .ref (ad 0)), (1, .int v1)] rfl rfl (Nat.le_of_ble_eq_true rfl) rfl 76 rfl ?_
          refine vv_goto dX11_waits_76 35 rfl ?_
          refine vv_sub [2, 3, 1, 0] [(0, .ref (ad 0)), (1, .int v1), (2, .int v_7), (3, .int (v3 + 1))] rfl ?_
          exact ih hf
set_option maxRecDepth 100000 in
set_option maxHeartbeats 4000000 in
theorem c_X11_waits {g : ob_GT} {ad : Nat → Nat} {r : Int32} {σ' : ob_St} {σ : ob_St} {p1 : Int32} (hf : f_X11_waits σ p1 = some (r, σ')) : ob_CT g (ob_M ad) mi_X11_waits [.ref (ad 0), .int p1] σ (some (.int r)) σ' := by
  refine ob_ct (by decide +kernel) rfl (Nat.le_of_ble_eq_true rfl) ?_
  show ob_V g (ob_M ad) mi_X11_waits (some (.int r)) σ' σ 0 [(0, .ref (ad 0)), (1, .int p1)] []
  refine vv_iload_n dX11_waits_0 1 rfl rfl 1 rfl ?_
  refine vv_if_ge dX11_waits_1 11 4 rfl rfl hf (fun hf => ?_) (fun hf => ?_)
  · refine vv_iload_n dX11_waits_11 1 rfl rfl 12 rfl ?_
    refine vv_sipush dX11_waits_12 999 rfl 15 rfl ?_
    refine vv_icmp_le dX11_waits_15 25 18 rfl rfl hf (fun hf => ?_) (fun hf => ?_)
    · refine vv_aload_n dX11_waits_25 0 rfl rfl 26 rfl ?_
      refine vv_bipush dX11_waits_26 (-9) rfl 28 rfl ?_
      refine vv_callVu [.int (-9)] [] (fun _ _ h => c_X11_run h) (ob_rec ob_m0 rfl rfl) cv_X11_waits_163 rfl (Nat.le_of_ble_eq_true rfl) 31 rfl dX11_waits_28 rfl hf (fun _ σ2 hf => ?_)
      refine vv_iconst dX11_waits_31 0 rfl 32 rfl ?_
      refine vv_istore_n dX11_waits_32 [(2, .int 0), (0, .ref (ad 0)), (1, .int p1)] rfl (Nat.le_of_ble_eq_true rfl) rfl 33 rfl ?_
      refine vv_iconst dX11_waits_33 0 rfl 34 rfl ?_
      refine vv_istore_n dX11_waits_34 [(3, .int 0), (2, .int 0), (0, .ref (ad 0)), (1, .int p1)] rfl (Nat.le_of_ble_eq_true rfl) rfl 35 rfl ?_
      refine vv_sub [2, 3, 1, 0] [(0, .ref (ad 0)), (1, .int p1), (2, .int 0), (3, .int 0)] rfl ?_
      exact l_X11_waits_35 1000 hf
    · refine vv_aload_n dX11_waits_18 0 rfl rfl 19 rfl ?_
      refine vv_bipush dX11_waits_19 (-6) rfl 21 rfl ?_
      refine vv_callV [.int (-6)] [] (fun _ _ h => c_X11_no h) (ob_rec ob_m0 rfl rfl) cv_X11_waits_62 rfl (Nat.le_of_ble_eq_true rfl) 24 rfl dX11_waits_21 rfl hf (fun r8 σ9 hf => ?_)
      exact vv_ireti rfl dX11_waits_24 hf
  · refine vv_aload_n dX11_waits_4 0 rfl rfl 5 rfl ?_
    refine vv_bipush dX11_waits_5 (-4) rfl 7 rfl ?_
    refine vv_callV [.int (-4)] [] (fun _ _ h => c_X11_no h) (ob_rec ob_m0 rfl rfl) cv_X11_waits_62 rfl (Nat.le_of_ble_eq_true rfl) 10 rfl dX11_waits_7 rfl hf (fun r10 σ11 hf => ?_)
    exact vv_ireti rfl dX11_waits_10 hf
abbrev mi_X11_stands : ob_MI := (yX11_stands, ob_ws yX11_stands cX11_stands 4 (some .int), cX11_stands, 4, (some .int), { frames := 3, cells := 0, slots := 0, locals := 70 })
theorem cv_X11_stands_163 : ob_CV mi_X11_stands mi_X11_run 163 RX11 1 := ob_cvI rfl rfl tw_933 tw_935 tw_30 tw_59 tw_936 ⟨rfl, rfl⟩ ⟨rfl, by decide +kernel, by decide +kernel, by decide +kernel⟩ ⟨Nat.le_of_ble_eq_true rfl, Nat.le_of_ble_eq_true rfl⟩
theorem gf_X11_stands_66 : ob_GF mi_X11_stands 66 11 0 := ⟨RX11, TX11, 24, rfl, by decide, fun x h => List.mem_cons_of_mem _ (uw_X11 x h), List.mem_cons_of_mem _ tw_758⟩
theorem gf_X11_stands_22 : ob_GF mi_X11_stands 22 11 5 := ⟨RX11, TX11, 24, rfl, by decide, fun x h => List.mem_cons_of_mem _ (uw_X11 x h), List.mem_cons_of_mem _ tw_763⟩
theorem cv_X11_stands_151 : ob_CV mi_X11_stands mi_X11_lateOf 151 RX11 1 := ob_cvI rfl rfl tw_941 tw_943 tw_32 tw_59 tw_944 ⟨rfl, rfl⟩ ⟨rfl, by decide +kernel, by decide +kernel, by decide +kernel⟩ ⟨Nat.le_of_ble_eq_true rfl, Nat.le_of_ble_eq_true rfl⟩
theorem cv_X11_stands_160 : ob_CV mi_X11_stands mi_X11_stoodOf 160 RX11 1 := ob_cvI rfl rfl tw_965 tw_967 tw_38 tw_59 tw_968 ⟨rfl, rfl⟩ ⟨rfl, by decide +kernel, by decide +kernel, by decide +kernel⟩ ⟨Nat.le_of_ble_eq_true rfl, Nat.le_of_ble_eq_true rfl⟩
noncomputable def L_X11_stands_10 : Nat → ob_St → Int32 → Int32 → Int32 → Option (Int32 × ob_St)
  | 0, _, _, _, _ => none
  | n + 1, σ, v1, v2, v3 =>
    if (σ 0 0) ≤ v3 then
      some (v2, σ)
    else
      ob_ld σ 5 6 v3 fun v_3 =>
      if v_3 = v1 then
        ob_bd (f_X11_lateOf σ v3) fun r4 σ5 =>
        if r4 ≤ 0 then
          ob_bd (f_X11_stoodOf σ5 v3) fun r6 σ7 =>
          ob_nm (v2 + r6) fun v_8 =>
          L_X11_stands_10 n σ7 v1 v_8 (v3 + 1)
        else
          some ((-9), σ5)
      else
        L_X11_stands_10 n σ v1 v2 (v3 + 1)
noncomputable def f_X11_stands (σ : ob_St) (p1 : Int32) : Option (Int32 × ob_St) :=
  ob_bd (f_X11_run σ (-9)) fun _ σ2 =>
  L_X11_stands_10 1000 σ2 p1 0 0
set_option maxRecDepth 100000 in
set_option maxHeartbeats 4000000 in
theorem l_X11_stands_10 {g : ob_GT} {ad : Nat → Nat} {r : Int32} {σ' : ob_St} : ∀ (n : Nat) {σ : ob_St} {v1 : Int32} {v2 : Int32} {v3 : Int32}, L_X11_stands_10 n σ v1 v2 v3 = some (r, σ') → ob_V g (ob_M ad) mi_X11_stands (some (.int r)) σ' σ 10 [(0, .ref (ad 0)), (1, .int v1), (2, .int v2), (3, .int v3)] [] := by
  intro n
  induction n with
  | zero => intro σ v1 v2 v3 hf; exact absurd hf (fun h => by cases h)
  | succ n ih =>
    intro σ v1 v2 v3 hf
    refine vv_iload_n dX11_stands_10 3 rfl rfl 11 rfl ?_
    refine vv_aload_n dX11_stands_11 0 rfl rfl 12 rfl ?_
    refine vv_getI dX11_stands_12 0 gf_X11_stands_66 ob_m0 rfl rfl 15 rfl ?_
    refine vv_icmp_ge dX11_stands_15 56 18 rfl rfl hf (fun hf => ?_) (fun hf => ?_)
    · refine vv_iload_n dX11_stands_56 2 rfl rfl 57 rfl ?_
      exact vv_ireti rfl dX11_stands_57 hf
    · refine vv_aload_n dX11_stands_18 0 rfl rfl 19 rfl ?_
      refine vv_getR dX11_stands_19 5 gf_X11_stands_22 ob_m0 rfl rfl 22 rfl ?_
      refine vv_iload_n dX11_stands_22 3 rfl rfl 23 rfl ?_
      refine vv_iald dX11_stands_23 ob_m5 rfl 24 rfl hf (fun v_3 hf => ?_)
      refine vv_iload_n dX11_stands_24 1 rfl rfl 25 rfl ?_
      refine vv_icmp_eq dX11_stands_25 31 28 rfl rfl hf (fun hf => ?_) (fun hf => ?_)
      · refine vv_aload_n dX11_stands_31 0 rfl rfl 32 rfl ?_
        refine vv_iload_n dX11_stands_32 3 rfl rfl 33 rfl ?_
        refine vv_callV [.int v3] [] (fun _ _ h => c_X11_lateOf h) (ob_rec ob_m0 rfl rfl) cv_X11_stands_151 rfl (Nat.le_of_ble_eq_true rfl) 36 rfl dX11_stands_33 rfl hf (fun r4 σ5 hf => ?_)
        refine vv_if_le dX11_stands_36 42 39 rfl rfl hf (fun hf => ?_) (fun hf => ?_)
        · refine vv_iload_n dX11_stands_42 2 rfl rfl 43 rfl ?_
          refine vv_aload_n dX11_stands_43 0 rfl rfl 44 rfl ?_
          refine vv_iload_n dX11_stands_44 3 rfl rfl 45 rfl ?_
          refine vv_callV [.int v3] [.int v2] (fun _ _ h => c_X11_stoodOf h) (ob_rec ob_m0 rfl rfl) cv_X11_stands_160 rfl (Nat.le_of_ble_eq_true rfl) 48 rfl dX11_stands_45 rfl hf (fun r6 σ7 hf => ?_)
          refine vv_iadd dX11_stands_48 49 rfl ?_
          refine vv_nm hf (fun v_8 hf => ?_)
          refine vv_istore_n dX11_stands_49 [(2, .int v_8), (0, .ref (ad 0)), (1, .int v1), (3, .int v3)] rfl (Nat.le_of_ble_eq_true rfl) rfl 50 rfl ?_
          refine vv_iinc dX11_stands_50 (v3 + 1) 3 [(3, .int (v3 + 1)), (2, .int v_8), (0, .ref (ad 0)), (1, .int v1)] rfl rfl (Nat.le_of_ble_eq_true rfl) rfl 53 rfl ?_
          refine vv_goto dX11_stands_53 10 rfl ?_
          refine vv_sub [2, 3, 1, 0] [(0, .ref (ad 0)), (1, .int v1), (2, .int v_8), (3, .int (v3 + 1))] rfl ?_
          exact ih hf
        · refine vv_bipush dX11_stands_39 (-9) rfl 41 rfl ?_
          exact vv_ireti rfl dX11_stands_41 hf
      · refine vv_goto dX11_stands_28 50 rfl ?_
        refine vv_iinc dX11_stands_50 (v3 + 1) 3 [(3, .int (v3 + 1)), (0, .ref (ad 0)), (1, .int v1), (2, .int v2)] rfl rfl (Nat.le_of_ble_eq_true rfl) rfl 53 rfl ?_
        refine vv_goto dX11_stands_53 10 rfl ?_
        refine vv_sub [1, 2, 3, 0] [(0, .ref (ad 0)), (1, .int v1), (2, .int v2), (3, .int (v3 + 1))] rfl ?_
        exact ih hf
set_option maxRecDepth 100000 in
set_option maxHeartbeats 4000000 in
theorem c_X11_stands {g : ob_GT} {ad : Nat → Nat} {r : Int32} {σ' : ob_St} {σ : ob_St} {p1 : Int32} (hf : f_X11_stands σ p1 = some (r, σ')) : ob_CT g (ob_M ad) mi_X11_stands [.ref (ad 0), .int p1] σ (some (.int r)) σ' := by
  refine ob_ct (by decide +kernel) rfl (Nat.le_of_ble_eq_true rfl) ?_
  show ob_V g (ob_M ad) mi_X11_stands (some (.int r)) σ' σ 0 [(0, .ref (ad 0)), (1, .int p1)] []
  refine vv_aload_n dX11_stands_0 0 rfl rfl 1 rfl ?_
  refine vv_bipush dX11_stands_1 (-9) rfl 3 rfl ?_
  refine vv_callVu [.int (-9)] [] (fun _ _ h => c_X11_run h) (ob_rec ob_m0 rfl rfl) cv_X11_stands_163 rfl (Nat.le_of_ble_eq_true rfl) 6 rfl dX11_stands_3 rfl hf (fun _ σ2 hf => ?_)
  refine vv_iconst dX11_stands_6 0 rfl 7 rfl ?_
  refine vv_istore_n dX11_stands_7 [(2, .int 0), (0, .ref (ad 0)), (1, .int p1)] rfl (Nat.le_of_ble_eq_true rfl) rfl 8 rfl ?_
  refine vv_iconst dX11_stands_8 0 rfl 9 rfl ?_
  refine vv_istore_n dX11_stands_9 [(3, .int 0), (2, .int 0), (0, .ref (ad 0)), (1, .int p1)] rfl (Nat.le_of_ble_eq_true rfl) rfl 10 rfl ?_
  refine vv_sub [2, 3, 1, 0] [(0, .ref (ad 0)), (1, .int p1), (2, .int 0), (3, .int 0)] rfl ?_
  exact l_X11_stands_10 1000 hf
abbrev mi_X11_send : ob_MI := (yX11_send, ob_ws yX11_send cX11_send 8 (some .int), cX11_send, 8, (some .int), { frames := 4, cells := 0, slots := 0, locals := 93 })
theorem cs_X11_send_70 : ob_CS mi_X11_send mi_X11_within 70 3 := ob_csI rfl rfl tw_857 tw_858 tw_59 tw_859 ⟨rfl, rfl⟩ ⟨by decide +kernel, by decide +kernel, by decide +kernel⟩ ⟨Nat.le_of_ble_eq_true rfl, Nat.le_of_ble_eq_true rfl⟩
theorem gf_X11_send_66 : ob_GF mi_X11_send 66 11 0 := ⟨RX11, TX11, 24, rfl, by decide, fun x h => List.mem_cons_of_mem _ (uw_X11 x h), List.mem_cons_of_mem _ tw_758⟩
theorem gf_X11_send_28 : ob_GF mi_X11_send 28 11 7 := ⟨RX11, TX11, 24, rfl, by decide, fun x h => List.mem_cons_of_mem _ (uw_X11 x h), List.mem_cons_of_mem _ tw_765⟩
theorem cv_X11_send_192 : ob_CV mi_X11_send mi_X11_stands 192 RX11 1 := ob_cvI rfl rfl tw_1041 tw_1043 tw_45 tw_59 tw_1044 ⟨rfl, rfl⟩ ⟨rfl, by decide +kernel, by decide +kernel, by decide +kernel⟩ ⟨Nat.le_of_ble_eq_true rfl, Nat.le_of_ble_eq_true rfl⟩
theorem cv_X11_send_62 : ob_CV mi_X11_send mi_X11_no 62 RX11 1 := ob_cvI rfl rfl tw_835 tw_837 tw_18 tw_59 tw_838 ⟨rfl, rfl⟩ ⟨rfl, by decide +kernel, by decide +kernel, by decide +kernel⟩ ⟨Nat.le_of_ble_eq_true rfl, Nat.le_of_ble_eq_true rfl⟩
theorem gf_X11_send_22 : ob_GF mi_X11_send 22 11 5 := ⟨RX11, TX11, 24, rfl, by decide, fun x h => List.mem_cons_of_mem _ (uw_X11 x h), List.mem_cons_of_mem _ tw_763⟩
noncomputable def J_X11_send_120_73 (rec : ob_St → Int32 → Int32 → Int32 → Int32 → Int32 → Option (Int32 × ob_St)) (σ : ob_St) (v1 : Int32) (v3 : Int32) (v6 : Int32) (v7 : Int32) : Option (Int32 × ob_St) :=
  rec σ v1 v3 v6 v7 (v6 + 1)
noncomputable def L_X11_send_73 : Nat → ob_St → Int32 → Int32 → Int32 → Int32 → Int32 → Option (Int32 × ob_St)
  | 0, _, _, _, _, _, _ => none
  | n + 1, σ, v1, v3, v4, v5, v6 =>
    if (400 : Int32) < v6 then
      ob_sd σ 7 6 5 v3 fun σ4 =>
      some (v4, σ4)
    else
      ob_sd σ 7 6 5 v6 fun σ5 =>
      ob_bd (f_X11_stands σ5 v1) fun r6 σ7 =>
      if r6 = (-9) then
        L_X11_send_73 n σ7 v1 v3 v4 v5 (v6 + 1)
      else
        if v4 = (-9) then
          J_X11_send_120_73 (fun σ v1 v3 v4 v5 v6 => L_X11_send_73 n σ v1 v3 v4 v5 v6) σ7 v1 v3 v6 r6
        else
          if r6 < v5 then
            J_X11_send_120_73 (fun σ v1 v3 v4 v5 v6 => L_X11_send_73 n σ v1 v3 v4 v5 v6) σ7 v1 v3 v6 r6
          else
            L_X11_send_73 n σ7 v1 v3 v4 v5 (v6 + 1)
noncomputable def L_X11_send_19 : Nat → ob_St → Int32 → Int32 → Int32 → Option (Int32 × ob_St)
  | 0, _, _, _, _ => none
  | n + 1, σ, v1, v2, v3 =>
    if (σ 0 0) ≤ v3 then
      if v2 = 0 then
        ob_bd (f_X11_no σ (-3)) fun r8 σ9 =>
        some (r8, σ9)
      else
        ob_ld σ 7 6 5 fun v_3 =>
        L_X11_send_73 1000 σ v1 v_3 (-9) 0 0
    else
      ob_ld σ 5 6 v3 fun v_10 =>
      if v_10 = v1 then
        L_X11_send_19 n σ v1 1 (v3 + 1)
      else
        L_X11_send_19 n σ v1 v2 (v3 + 1)
noncomputable def f_X11_send (σ : ob_St) (p1 : Int32) : Option (Int32 × ob_St) :=
  ob_bd (f_X11_within σ p1 0 4) fun r1 σ2 =>
  if r1 = 0 then
    ob_bd (f_X11_no σ2 (-1)) fun r11 σ12 =>
    some (r11, σ12)
  else
    L_X11_send_19 1000 σ2 p1 0 0
set_option maxRecDepth 100000 in
set_option maxHeartbeats 4000000 in
theorem j_X11_send_120_73 {g : ob_GT} {ad : Nat → Nat} {r : Int32} {σ' : ob_St} {σ : ob_St} {v1 : Int32} {v3 : Int32} {v6 : Int32} {v7 : Int32} {rec : ob_St → Int32 → Int32 → Int32 → Int32 → Int32 → Option (Int32 × ob_St)} (hrec : ∀ {σ : ob_St} {v1 : Int32} {v3 : Int32} {v4 : Int32} {v5 : Int32} {v6 : Int32}, rec σ v1 v3 v4 v5 v6 = some (r, σ') → ob_V g (ob_M ad) mi_X11_send (some (.int r)) σ' σ 73 [(0, .ref (ad 0)), (1, .int v1), (3, .int v3), (4, .int v4), (5, .int v5), (6, .int v6)] []) (hf : J_X11_send_120_73 rec σ v1 v3 v6 v7 = some (r, σ')) : ob_V g (ob_M ad) mi_X11_send (some (.int r)) σ' σ 120 [(0, .ref (ad 0)), (1, .int v1), (3, .int v3), (6, .int v6), (7, .int v7)] [] := by
  refine vv_iload dX11_send_120 4 rfl 122 rfl ?_
  refine vv_istore dX11_send_122 [(5, .int v7), (0, .ref (ad 0)), (1, .int v1), (3, .int v3), (6, .int v6), (7, .int v7)] (Nat.le_of_ble_eq_true rfl) rfl 124 rfl ?_
  refine vv_iload dX11_send_124 4 rfl 126 rfl ?_
  refine vv_istore dX11_send_126 [(4, .int v6), (5, .int v7), (0, .ref (ad 0)), (1, .int v1), (3, .int v3), (6, .int v6), (7, .int v7)] (Nat.le_of_ble_eq_true rfl) rfl 128 rfl ?_
  refine vv_iinc dX11_send_128 (v6 + 1) 5 [(6, .int (v6 + 1)), (4, .int v6), (5, .int v7), (0, .ref (ad 0)), (1, .int v1), (3, .int v3), (7, .int v7)] rfl rfl (Nat.le_of_ble_eq_true rfl) rfl 131 rfl ?_
  refine vv_goto dX11_send_131 73 rfl ?_
  refine vv_sub [3, 4, 5, 1, 2, 0] [(0, .ref (ad 0)), (1, .int v1), (3, .int v3), (4, .int v6), (5, .int v7), (6, .int (v6 + 1))] rfl ?_
  exact hrec hf
set_option maxRecDepth 100000 in
set_option maxHeartbeats 4000000 in
theorem l_X11_send_73 {g : ob_GT} {ad : Nat → Nat} {r : Int32} {σ' : ob_St} : ∀ (n : Nat) {σ : ob_St} {v1 : Int32} {v3 : Int32} {v4 : Int32} {v5 : Int32} {v6 : Int32}, L_X11_send_73 n σ v1 v3 v4 v5 v6 = some (r, σ') → ob_V g (ob_M ad) mi_X11_send (some (.int r)) σ' σ 73 [(0, .ref (ad 0)), (1, .int v1), (3, .int v3), (4, .int v4), (5, .int v5), (6, .int v6)] [] := by
  intro n
  induction n with
  | zero => intro σ v1 v3 v4 v5 v6 hf; exact absurd hf (fun h => by cases h)
  | succ n ih =>
    intro σ v1 v3 v4 v5 v6 hf
    refine vv_iload dX11_send_73 5 rfl 75 rfl ?_
    refine vv_sipush dX11_send_75 400 rfl 78 rfl ?_
    refine vv_icmp_gt dX11_send_78 134 81 rfl rfl hf (fun hf => ?_) (fun hf => ?_)
    · refine vv_aload_n dX11_send_134 0 rfl rfl 135 rfl ?_
      refine vv_getR dX11_send_135 7 gf_X11_send_28 ob_m0 rfl rfl 138 rfl ?_
      refine vv_iconst dX11_send_138 5 rfl 139 rfl ?_
      refine vv_iload_n dX11_send_139 2 rfl rfl 140 rfl ?_
      refine vv_iast dX11_send_140 ob_m7 rfl 141 rfl hf (fun σ4 hf => ?_)
      refine vv_iload dX11_send_141 3 rfl 143 rfl ?_
      exact vv_ireti rfl dX11_send_143 hf
    · refine vv_aload_n dX11_send_81 0 rfl rfl 82 rfl ?_
      refine vv_getR dX11_send_82 7 gf_X11_send_28 ob_m0 rfl rfl 85 rfl ?_
      refine vv_iconst dX11_send_85 5 rfl 86 rfl ?_
      refine vv_iload dX11_send_86 5 rfl 88 rfl ?_
      refine vv_iast dX11_send_88 ob_m7 rfl 89 rfl hf (fun σ5 hf => ?_)
      refine vv_aload_n dX11_send_89 0 rfl rfl 90 rfl ?_
      refine vv_iload_n dX11_send_90 1 rfl rfl 91 rfl ?_
      refine vv_callV [.int v1] [] (fun _ _ h => c_X11_stands h) (ob_rec ob_m0 rfl rfl) cv_X11_send_192 rfl (Nat.le_of_ble_eq_true rfl) 94 rfl dX11_send_91 rfl hf (fun r6 σ7 hf => ?_)
      refine vv_istore dX11_send_94 [(7, .int r6), (0, .ref (ad 0)), (1, .int v1), (3, .int v3), (4, .int v4), (5, .int v5), (6, .int v6)] (Nat.le_of_ble_eq_true rfl) rfl 96 rfl ?_
      refine vv_iload dX11_send_96 0 rfl 98 rfl ?_
      refine vv_bipush dX11_send_98 (-9) rfl 100 rfl ?_
      refine vv_icmp_eq dX11_send_100 128 103 rfl rfl hf (fun hf => ?_) (fun hf => ?_)
      · refine vv_iinc dX11_send_128 (v6 + 1) 6 [(6, .int (v6 + 1)), (7, .int r6), (0, .ref (ad 0)), (1, .int v1), (3, .int v3), (4, .int v4), (5, .int v5)] rfl rfl (Nat.le_of_ble_eq_true rfl) rfl 131 rfl ?_
        refine vv_goto dX11_send_131 73 rfl ?_
        refine vv_sub [2, 3, 4, 5, 6, 0] [(0, .ref (ad 0)), (1, .int v1), (3, .int v3), (4, .int v4), (5, .int v5), (6, .int (v6 + 1))] rfl ?_
        exact ih hf
      · refine vv_iload dX11_send_103 4 rfl 105 rfl ?_
        refine vv_bipush dX11_send_105 (-9) rfl 107 rfl ?_
        refine vv_icmp_eq dX11_send_107 120 110 rfl rfl hf (fun hf => ?_) (fun hf => ?_)
        · refine vv_sub [1, 2, 3, 6, 0] [(0, .ref (ad 0)), (1, .int v1), (3, .int v3), (6, .int v6), (7, .int r6)] rfl ?_
          exact j_X11_send_120_73 ih hf
        · refine vv_iload dX11_send_110 0 rfl 112 rfl ?_
          refine vv_iload dX11_send_112 5 rfl 114 rfl ?_
          refine vv_icmp_lt dX11_send_114 120 117 rfl rfl hf (fun hf => ?_) (fun hf => ?_)
          · refine vv_sub [1, 2, 3, 6, 0] [(0, .ref (ad 0)), (1, .int v1), (3, .int v3), (6, .int v6), (7, .int r6)] rfl ?_
            exact j_X11_send_120_73 ih hf
          · refine vv_goto dX11_send_117 128 rfl ?_
            refine vv_iinc dX11_send_128 (v6 + 1) 6 [(6, .int (v6 + 1)), (7, .int r6), (0, .ref (ad 0)), (1, .int v1), (3, .int v3), (4, .int v4), (5, .int v5)] rfl rfl (Nat.le_of_ble_eq_true rfl) rfl 131 rfl ?_
            refine vv_goto dX11_send_131 73 rfl ?_
            refine vv_sub [2, 3, 4, 5, 6, 0] [(0, .ref (ad 0)), (1, .int v1), (3, .int v3), (4, .int v4), (5, .int v5), (6, .int (v6 + 1))] rfl ?_
            exact ih hf
set_option maxRecDepth 100000 in
set_option maxHeartbeats 4000000 in
theorem l_X11_send_19 {g : ob_GT} {ad : Nat → Nat} {r : Int32} {σ' : ob_St} : ∀ (n : Nat) {σ : ob_St} {v1 : Int32} {v2 : Int32} {v3 : Int32}, L_X11_send_19 n σ v1 v2 v3 = some (r, σ') → ob_V g (ob_M ad) mi_X11_send (some (.int r)) σ' σ 19 [(0, .ref (ad 0)), (1, .int v1), (2, .int v2), (3, .int v3)] [] := by
  intro n
  induction n with
  | zero => intro σ v1 v2 v3 hf; exact absurd hf (fun h => by cases h)
  | succ n ih =>
    intro σ v1 v2 v3 hf
    refine vv_iload_n dX11_send_19 3 rfl rfl 20 rfl ?_
    refine vv_aload_n dX11_send_20 0 rfl rfl 21 rfl ?_
    refine vv_getI dX11_send_21 0 gf_X11_send_66 ob_m0 rfl rfl 24 rfl ?_
    refine vv_icmp_ge dX11_send_24 45 27 rfl rfl hf (fun hf => ?_) (fun hf => ?_)
    · refine vv_iload_n dX11_send_45 2 rfl rfl 46 rfl ?_
      refine vv_if_ne dX11_send_46 56 49 rfl rfl hf (fun hf => ?_) (fun hf => ?_)
      · refine vv_aload_n dX11_send_56 0 rfl rfl 57 rfl ?_
        refine vv_getR dX11_send_57 7 gf_X11_send_28 ob_m0 rfl rfl 60 rfl ?_
        refine vv_iconst dX11_send_60 5 rfl 61 rfl ?_
        refine vv_iald dX11_send_61 ob_m7 rfl 62 rfl hf (fun v_3 hf => ?_)
        refine vv_istore_n dX11_send_62 [(3, .int v_3), (0, .ref (ad 0)), (1, .int v1), (2, .int v2)] rfl (Nat.le_of_ble_eq_true rfl) rfl 63 rfl ?_
        refine vv_bipush dX11_send_63 (-9) rfl 65 rfl ?_
        refine vv_istore dX11_send_65 [(4, .int (-9)), (3, .int v_3), (0, .ref (ad 0)), (1, .int v1), (2, .int v2)] (Nat.le_of_ble_eq_true rfl) rfl 67 rfl ?_
        refine vv_iconst dX11_send_67 0 rfl 68 rfl ?_
        refine vv_istore dX11_send_68 [(5, .int 0), (4, .int (-9)), (3, .int v_3), (0, .ref (ad 0)), (1, .int v1), (2, .int v2)] (Nat.le_of_ble_eq_true rfl) rfl 70 rfl ?_
        refine vv_iconst dX11_send_70 0 rfl 71 rfl ?_
        refine vv_istore dX11_send_71 [(6, .int 0), (5, .int 0), (4, .int (-9)), (3, .int v_3), (0, .ref (ad 0)), (1, .int v1), (2, .int v2)] (Nat.le_of_ble_eq_true rfl) rfl 73 rfl ?_
        refine vv_sub [4, 5, 3, 2, 1, 0] [(0, .ref (ad 0)), (1, .int v1), (3, .int v_3), (4, .int (-9)), (5, .int 0), (6, .int 0)] rfl ?_
        exact l_X11_send_73 1000 hf
      · refine vv_aload_n dX11_send_49 0 rfl rfl 50 rfl ?_
        refine vv_bipush dX11_send_50 (-3) rfl 52 rfl ?_
        refine vv_callV [.int (-3)] [] (fun _ _ h => c_X11_no h) (ob_rec ob_m0 rfl rfl) cv_X11_send_62 rfl (Nat.le_of_ble_eq_true rfl) 55 rfl dX11_send_52 rfl hf (fun r8 σ9 hf => ?_)
        exact vv_ireti rfl dX11_send_55 hf
    · refine vv_aload_n dX11_send_27 0 rfl rfl 28 rfl ?_
      refine vv_getR dX11_send_28 5 gf_X11_send_22 ob_m0 rfl rfl 31 rfl ?_
      refine vv_iload_n dX11_send_31 3 rfl rfl 32 rfl ?_
      refine vv_iald dX11_send_32 ob_m5 rfl 33 rfl hf (fun v_10 hf => ?_)
      refine vv_iload_n dX11_send_33 1 rfl rfl 34 rfl ?_
      refine vv_icmp_ne dX11_send_34 39 37 rfl rfl hf (fun hf => ?_) (fun hf => ?_)
      · refine vv_iinc dX11_send_39 (v3 + 1) 3 [(3, .int (v3 + 1)), (0, .ref (ad 0)), (1, .int v1), (2, .int v2)] rfl rfl (Nat.le_of_ble_eq_true rfl) rfl 42 rfl ?_
        refine vv_goto dX11_send_42 19 rfl ?_
        refine vv_sub [1, 2, 3, 0] [(0, .ref (ad 0)), (1, .int v1), (2, .int v2), (3, .int (v3 + 1))] rfl ?_
        exact ih hf
      · refine vv_iconst dX11_send_37 1 rfl 38 rfl ?_
        refine vv_istore_n dX11_send_38 [(2, .int 1), (0, .ref (ad 0)), (1, .int v1), (3, .int v3)] rfl (Nat.le_of_ble_eq_true rfl) rfl 39 rfl ?_
        refine vv_iinc dX11_send_39 (v3 + 1) 3 [(3, .int (v3 + 1)), (2, .int 1), (0, .ref (ad 0)), (1, .int v1)] rfl rfl (Nat.le_of_ble_eq_true rfl) rfl 42 rfl ?_
        refine vv_goto dX11_send_42 19 rfl ?_
        refine vv_sub [2, 3, 1, 0] [(0, .ref (ad 0)), (1, .int v1), (2, .int 1), (3, .int (v3 + 1))] rfl ?_
        exact ih hf
set_option maxRecDepth 100000 in
set_option maxHeartbeats 4000000 in
theorem c_X11_send {g : ob_GT} {ad : Nat → Nat} {r : Int32} {σ' : ob_St} {σ : ob_St} {p1 : Int32} (hf : f_X11_send σ p1 = some (r, σ')) : ob_CT g (ob_M ad) mi_X11_send [.ref (ad 0), .int p1] σ (some (.int r)) σ' := by
  refine ob_ct (by decide +kernel) rfl (Nat.le_of_ble_eq_true rfl) ?_
  show ob_V g (ob_M ad) mi_X11_send (some (.int r)) σ' σ 0 [(0, .ref (ad 0)), (1, .int p1)] []
  refine vv_iload_n dX11_send_0 1 rfl rfl 1 rfl ?_
  refine vv_iconst dX11_send_1 0 rfl 2 rfl ?_
  refine vv_iconst dX11_send_2 4 rfl 3 rfl ?_
  refine vv_callS [.int p1, .int 0, .int 4] [] (fun _ _ h => c_X11_within h) cs_X11_send_70 rfl (Nat.le_of_ble_eq_true rfl) 6 rfl dX11_send_3 rfl hf (fun r1 σ2 hf => ?_)
  refine vv_if_ne dX11_send_6 15 9 rfl rfl hf (fun hf => ?_) (fun hf => ?_)
  · refine vv_iconst dX11_send_15 0 rfl 16 rfl ?_
    refine vv_istore_n dX11_send_16 [(2, .int 0), (0, .ref (ad 0)), (1, .int p1)] rfl (Nat.le_of_ble_eq_true rfl) rfl 17 rfl ?_
    refine vv_iconst dX11_send_17 0 rfl 18 rfl ?_
    refine vv_istore_n dX11_send_18 [(3, .int 0), (2, .int 0), (0, .ref (ad 0)), (1, .int p1)] rfl (Nat.le_of_ble_eq_true rfl) rfl 19 rfl ?_
    refine vv_sub [2, 3, 1, 0] [(0, .ref (ad 0)), (1, .int p1), (2, .int 0), (3, .int 0)] rfl ?_
    exact l_X11_send_19 1000 hf
  · refine vv_aload_n dX11_send_9 0 rfl rfl 10 rfl ?_
    refine vv_iconst dX11_send_10 (-1) rfl 11 rfl ?_
    refine vv_callV [.int (-1)] [] (fun _ _ h => c_X11_no h) (ob_rec ob_m0 rfl rfl) cv_X11_send_62 rfl (Nat.le_of_ble_eq_true rfl) 14 rfl dX11_send_11 rfl hf (fun r11 σ12 hf => ?_)
    exact vv_ireti rfl dX11_send_14 hf
abbrev mi_X11_row : ob_MI := (yX11_row, ob_ws yX11_row cX11_row 2 (some .int), cX11_row, 2, (some .int), { frames := 1, cells := 0, slots := 0, locals := 21 })
theorem cv_X11_row_62 : ob_CV mi_X11_row mi_X11_no 62 RX11 1 := ob_cvI rfl rfl tw_835 tw_837 tw_18 tw_59 tw_838 ⟨rfl, rfl⟩ ⟨rfl, by decide +kernel, by decide +kernel, by decide +kernel⟩ ⟨Nat.le_of_ble_eq_true rfl, Nat.le_of_ble_eq_true rfl⟩
theorem gf_X11_row_195 : ob_GF mi_X11_row 195 11 13 := ⟨RX11, TX11, 24, rfl, by decide, fun x h => List.mem_cons_of_mem _ (uw_X11 x h), List.mem_cons_of_mem _ tw_771⟩
theorem gf_X11_row_40 : ob_GF mi_X11_row 40 11 14 := ⟨RX11, TX11, 24, rfl, by decide, fun x h => List.mem_cons_of_mem _ (uw_X11 x h), List.mem_cons_of_mem _ tw_772⟩
theorem pf_X11_row_195 : ob_PF mi_X11_row 195 11 13 .int := ⟨RX11, TX11, 24, tyX11, rfl, by decide, fun x h => List.mem_cons_of_mem _ (uw_X11 x h), List.mem_cons_of_mem _ tw_771, tyX11_ok, nmX11, rfl, by decide +kernel⟩
noncomputable def f_X11_row (σ : ob_St) (p1 : Int32) : Option (Int32 × ob_St) :=
  if (0 : Int32) ≤ p1 then
    if (99 : Int32) < p1 then
      ob_bd (f_X11_no σ (-6)) fun r1 σ2 =>
      some (r1, σ2)
    else
      if (σ 0 13) = 12 then
        ob_bd (f_X11_no σ (-6)) fun r5 σ6 =>
        some (r5, σ6)
      else
        ob_pf σ 0 13 ((σ 0 13) + 1) fun σ3 =>
        ob_sd σ3 11 12 (σ 0 13) p1 fun σ4 =>
        some ((σ4 0 13), σ4)
  else
    ob_bd (f_X11_no σ (-4)) fun r7 σ8 =>
    some (r7, σ8)
set_option maxRecDepth 100000 in
set_option maxHeartbeats 4000000 in
theorem c_X11_row {g : ob_GT} {ad : Nat → Nat} {r : Int32} {σ' : ob_St} {σ : ob_St} {p1 : Int32} (hf : f_X11_row σ p1 = some (r, σ')) : ob_CT g (ob_M ad) mi_X11_row [.ref (ad 0), .int p1] σ (some (.int r)) σ' := by
  refine ob_ct (by decide +kernel) rfl (Nat.le_of_ble_eq_true rfl) ?_
  show ob_V g (ob_M ad) mi_X11_row (some (.int r)) σ' σ 0 [(0, .ref (ad 0)), (1, .int p1)] []
  refine vv_iload_n dX11_row_0 1 rfl rfl 1 rfl ?_
  refine vv_if_ge dX11_row_1 11 4 rfl rfl hf (fun hf => ?_) (fun hf => ?_)
  · refine vv_iload_n dX11_row_11 1 rfl rfl 12 rfl ?_
    refine vv_bipush dX11_row_12 99 rfl 14 rfl ?_
    refine vv_icmp_gt dX11_row_14 26 17 rfl rfl hf (fun hf => ?_) (fun hf => ?_)
    · refine vv_aload_n dX11_row_26 0 rfl rfl 27 rfl ?_
      refine vv_bipush dX11_row_27 (-6) rfl 29 rfl ?_
      refine vv_callV [.int (-6)] [] (fun _ _ h => c_X11_no h) (ob_rec ob_m0 rfl rfl) cv_X11_row_62 rfl (Nat.le_of_ble_eq_true rfl) 32 rfl dX11_row_29 rfl hf (fun r1 σ2 hf => ?_)
      exact vv_ireti rfl dX11_row_32 hf
    · refine vv_aload_n dX11_row_17 0 rfl rfl 18 rfl ?_
      refine vv_getI dX11_row_18 13 gf_X11_row_195 ob_m0 rfl rfl 21 rfl ?_
      refine vv_bipush dX11_row_21 12 rfl 23 rfl ?_
      refine vv_icmp_ne dX11_row_23 33 26 rfl rfl hf (fun hf => ?_) (fun hf => ?_)
      · refine vv_aload_n dX11_row_33 0 rfl rfl 34 rfl ?_
        refine vv_getR dX11_row_34 14 gf_X11_row_40 ob_m0 rfl rfl 37 rfl ?_
        refine vv_aload_n dX11_row_37 0 rfl rfl 38 rfl ?_
        refine vv_dup dX11_row_38 rfl 39 rfl ?_
        refine vv_getI dX11_row_39 13 gf_X11_row_195 ob_m0 rfl rfl 42 rfl ?_
        refine vv_dup_x1 dX11_row_42 rfl rfl 43 rfl ?_
        refine vv_iconst dX11_row_43 1 rfl 44 rfl ?_
        refine vv_iadd dX11_row_44 45 rfl ?_
        refine vv_putI dX11_row_45 13 pf_X11_row_195 ob_m0 rfl rfl (ob_fit_int _) 48 rfl hf (fun σ3 hf => ?_)
        refine vv_iload_n dX11_row_48 1 rfl rfl 49 rfl ?_
        refine vv_iast dX11_row_49 ob_m11 rfl 50 rfl hf (fun σ4 hf => ?_)
        refine vv_aload_n dX11_row_50 0 rfl rfl 51 rfl ?_
        refine vv_getI dX11_row_51 13 gf_X11_row_195 ob_m0 rfl rfl 54 rfl ?_
        exact vv_ireti rfl dX11_row_54 hf
      · refine vv_aload_n dX11_row_26 0 rfl rfl 27 rfl ?_
        refine vv_bipush dX11_row_27 (-6) rfl 29 rfl ?_
        refine vv_callV [.int (-6)] [] (fun _ _ h => c_X11_no h) (ob_rec ob_m0 rfl rfl) cv_X11_row_62 rfl (Nat.le_of_ble_eq_true rfl) 32 rfl dX11_row_29 rfl hf (fun r5 σ6 hf => ?_)
        exact vv_ireti rfl dX11_row_32 hf
  · refine vv_aload_n dX11_row_4 0 rfl rfl 5 rfl ?_
    refine vv_bipush dX11_row_5 (-4) rfl 7 rfl ?_
    refine vv_callV [.int (-4)] [] (fun _ _ h => c_X11_no h) (ob_rec ob_m0 rfl rfl) cv_X11_row_62 rfl (Nat.le_of_ble_eq_true rfl) 10 rfl dX11_row_7 rfl hf (fun r7 σ8 hf => ?_)
    exact vv_ireti rfl dX11_row_10 hf
abbrev mi_X11_wrong : ob_MI := (yX11_wrong, ob_ws yX11_wrong cX11_wrong 2 (some .int), cX11_wrong, 2, (some .int), { frames := 3, cells := 0, slots := 0, locals := 70 })
theorem cv_X11_wrong_163 : ob_CV mi_X11_wrong mi_X11_run 163 RX11 1 := ob_cvI rfl rfl tw_933 tw_935 tw_30 tw_59 tw_936 ⟨rfl, rfl⟩ ⟨rfl, by decide +kernel, by decide +kernel, by decide +kernel⟩ ⟨Nat.le_of_ble_eq_true rfl, Nat.le_of_ble_eq_true rfl⟩
theorem gf_X11_wrong_195 : ob_GF mi_X11_wrong 195 11 13 := ⟨RX11, TX11, 24, rfl, by decide, fun x h => List.mem_cons_of_mem _ (uw_X11 x h), List.mem_cons_of_mem _ tw_771⟩
theorem gf_X11_wrong_66 : ob_GF mi_X11_wrong 66 11 0 := ⟨RX11, TX11, 24, rfl, by decide, fun x h => List.mem_cons_of_mem _ (uw_X11 x h), List.mem_cons_of_mem _ tw_758⟩
theorem gf_X11_wrong_55 : ob_GF mi_X11_wrong 55 11 20 := ⟨RX11, TX11, 24, rfl, by decide, fun x h => List.mem_cons_of_mem _ (uw_X11 x h), List.mem_cons_of_mem _ tw_778⟩
theorem gf_X11_wrong_25 : ob_GF mi_X11_wrong 25 11 6 := ⟨RX11, TX11, 24, rfl, by decide, fun x h => List.mem_cons_of_mem _ (uw_X11 x h), List.mem_cons_of_mem _ tw_764⟩
theorem gf_X11_wrong_40 : ob_GF mi_X11_wrong 40 11 14 := ⟨RX11, TX11, 24, rfl, by decide, fun x h => List.mem_cons_of_mem _ (uw_X11 x h), List.mem_cons_of_mem _ tw_772⟩
noncomputable def L_X11_wrong_8 : Nat → ob_St → Int32 → Option (Int32 × ob_St)
  | 0, _, _ => none
  | n + 1, σ, v1 =>
    if (σ 0 13) ≤ v1 then
      some ((-9), σ)
    else
      if (σ 0 0) ≤ v1 then
        some (v1, σ)
      else
        ob_ld σ 6 6 v1 fun v_3 =>
        ob_ld σ 16 6 v_3 fun v_4 =>
        ob_ld σ 11 12 v1 fun v_5 =>
        if v_4 = v_5 then
          L_X11_wrong_8 n σ (v1 + 1)
        else
          some (v1, σ)
noncomputable def f_X11_wrong (σ : ob_St) : Option (Int32 × ob_St) :=
  ob_bd (f_X11_run σ (-9)) fun _ σ2 =>
  L_X11_wrong_8 1000 σ2 0
set_option maxRecDepth 100000 in
set_option maxHeartbeats 4000000 in
theorem l_X11_wrong_8 {g : ob_GT} {ad : Nat → Nat} {r : Int32} {σ' : ob_St} : ∀ (n : Nat) {σ : ob_St} {v1 : Int32}, L_X11_wrong_8 n σ v1 = some (r, σ') → ob_V g (ob_M ad) mi_X11_wrong (some (.int r)) σ' σ 8 [(0, .ref (ad 0)), (1, .int v1)] [] := by
  intro n
  induction n with
  | zero => intro σ v1 hf; exact absurd hf (fun h => by cases h)
  | succ n ih =>
    intro σ v1 hf
    refine vv_iload_n dX11_wrong_8 1 rfl rfl 9 rfl ?_
    refine vv_aload_n dX11_wrong_9 0 rfl rfl 10 rfl ?_
    refine vv_getI dX11_wrong_10 13 gf_X11_wrong_195 ob_m0 rfl rfl 13 rfl ?_
    refine vv_icmp_ge dX11_wrong_13 52 16 rfl rfl hf (fun hf => ?_) (fun hf => ?_)
    · refine vv_bipush dX11_wrong_52 (-9) rfl 54 rfl ?_
      exact vv_ireti rfl dX11_wrong_54 hf
    · refine vv_iload_n dX11_wrong_16 1 rfl rfl 17 rfl ?_
      refine vv_aload_n dX11_wrong_17 0 rfl rfl 18 rfl ?_
      refine vv_getI dX11_wrong_18 0 gf_X11_wrong_66 ob_m0 rfl rfl 21 rfl ?_
      refine vv_icmp_ge dX11_wrong_21 44 24 rfl rfl hf (fun hf => ?_) (fun hf => ?_)
      · refine vv_iload_n dX11_wrong_44 1 rfl rfl 45 rfl ?_
        exact vv_ireti rfl dX11_wrong_45 hf
      · refine vv_aload_n dX11_wrong_24 0 rfl rfl 25 rfl ?_
        refine vv_getR dX11_wrong_25 20 gf_X11_wrong_55 ob_m0 rfl rfl 28 rfl ?_
        refine vv_aload_n dX11_wrong_28 0 rfl rfl 29 rfl ?_
        refine vv_getR dX11_wrong_29 6 gf_X11_wrong_25 ob_m0 rfl rfl 32 rfl ?_
        refine vv_iload_n dX11_wrong_32 1 rfl rfl 33 rfl ?_
        refine vv_iald dX11_wrong_33 ob_m6 rfl 34 rfl hf (fun v_3 hf => ?_)
        refine vv_iald dX11_wrong_34 ob_m16 rfl 35 rfl hf (fun v_4 hf => ?_)
        refine vv_aload_n dX11_wrong_35 0 rfl rfl 36 rfl ?_
        refine vv_getR dX11_wrong_36 14 gf_X11_wrong_40 ob_m0 rfl rfl 39 rfl ?_
        refine vv_iload_n dX11_wrong_39 1 rfl rfl 40 rfl ?_
        refine vv_iald dX11_wrong_40 ob_m11 rfl 41 rfl hf (fun v_5 hf => ?_)
        refine vv_icmp_eq dX11_wrong_41 46 44 rfl rfl hf (fun hf => ?_) (fun hf => ?_)
        · refine vv_iinc dX11_wrong_46 (v1 + 1) 1 [(1, .int (v1 + 1)), (0, .ref (ad 0))] rfl rfl (Nat.le_of_ble_eq_true rfl) rfl 49 rfl ?_
          refine vv_goto dX11_wrong_49 8 rfl ?_
          refine vv_sub [1, 0] [(0, .ref (ad 0)), (1, .int (v1 + 1))] rfl ?_
          exact ih hf
        · refine vv_iload_n dX11_wrong_44 1 rfl rfl 45 rfl ?_
          exact vv_ireti rfl dX11_wrong_45 hf
set_option maxRecDepth 100000 in
set_option maxHeartbeats 4000000 in
theorem c_X11_wrong {g : ob_GT} {ad : Nat → Nat} {r : Int32} {σ' : ob_St} {σ : ob_St} (hf : f_X11_wrong σ = some (r, σ')) : ob_CT g (ob_M ad) mi_X11_wrong [.ref (ad 0)] σ (some (.int r)) σ' := by
  refine ob_ct (by decide +kernel) rfl (Nat.le_of_ble_eq_true rfl) ?_
  show ob_V g (ob_M ad) mi_X11_wrong (some (.int r)) σ' σ 0 [(0, .ref (ad 0))] []
  refine vv_aload_n dX11_wrong_0 0 rfl rfl 1 rfl ?_
  refine vv_bipush dX11_wrong_1 (-9) rfl 3 rfl ?_
  refine vv_callVu [.int (-9)] [] (fun _ _ h => c_X11_run h) (ob_rec ob_m0 rfl rfl) cv_X11_wrong_163 rfl (Nat.le_of_ble_eq_true rfl) 6 rfl dX11_wrong_3 rfl hf (fun _ σ2 hf => ?_)
  refine vv_iconst dX11_wrong_6 0 rfl 7 rfl ?_
  refine vv_istore_n dX11_wrong_7 [(1, .int 0), (0, .ref (ad 0))] rfl (Nat.le_of_ble_eq_true rfl) rfl 8 rfl ?_
  refine vv_sub [1, 0] [(0, .ref (ad 0)), (1, .int 0)] rfl ?_
  exact l_X11_wrong_8 1000 hf
abbrev mi_X11_fits : ob_MI := (yX11_fits, ob_ws yX11_fits cX11_fits 5 (some .int), cX11_fits, 5, (some .int), { frames := 4, cells := 0, slots := 0, locals := 91 })
theorem gf_X11_fits_66 : ob_GF mi_X11_fits 66 11 0 := ⟨RX11, TX11, 24, rfl, by decide, fun x h => List.mem_cons_of_mem _ (uw_X11 x h), List.mem_cons_of_mem _ tw_758⟩
theorem gf_X11_fits_49 : ob_GF mi_X11_fits 49 11 18 := ⟨RX11, TX11, 24, rfl, by decide, fun x h => List.mem_cons_of_mem _ (uw_X11 x h), List.mem_cons_of_mem _ tw_776⟩
theorem cv_X11_fits_111 : ob_CV mi_X11_fits mi_X11_keep 111 RX11 1 := ob_cvI rfl rfl tw_876 tw_878 tw_26 tw_59 tw_879 ⟨rfl, rfl⟩ ⟨rfl, by decide +kernel, by decide +kernel, by decide +kernel⟩ ⟨Nat.le_of_ble_eq_true rfl, Nat.le_of_ble_eq_true rfl⟩
theorem cv_X11_fits_173 : ob_CV mi_X11_fits mi_X11_begin_ 173 RX11 0 := ob_cvI rfl rfl tw_981 tw_983 tw_40 tw_59 tw_984 ⟨rfl, rfl⟩ ⟨rfl, by decide +kernel, by decide +kernel, by decide +kernel⟩ ⟨Nat.le_of_ble_eq_true rfl, Nat.le_of_ble_eq_true rfl⟩
theorem cv_X11_fits_115 : ob_CV mi_X11_fits mi_X11_again 115 RX11 1 := ob_cvI rfl rfl tw_880 tw_882 tw_27 tw_59 tw_883 ⟨rfl, rfl⟩ ⟨rfl, by decide +kernel, by decide +kernel, by decide +kernel⟩ ⟨Nat.le_of_ble_eq_true rfl, Nat.le_of_ble_eq_true rfl⟩
theorem gf_X11_fits_58 : ob_GF mi_X11_fits 58 11 23 := ⟨RX11, TX11, 24, rfl, by decide, fun x h => List.mem_cons_of_mem _ (uw_X11 x h), List.mem_cons_of_mem _ tw_781⟩
theorem cv_X11_fits_198 : ob_CV mi_X11_fits mi_X11_wrong 198 RX11 0 := ob_cvI rfl rfl tw_1053 tw_1055 tw_46 tw_59 tw_1056 ⟨rfl, rfl⟩ ⟨rfl, by decide +kernel, by decide +kernel, by decide +kernel⟩ ⟨Nat.le_of_ble_eq_true rfl, Nat.le_of_ble_eq_true rfl⟩
theorem cv_X11_fits_175 : ob_CV mi_X11_fits mi_X11_next 175 RX11 0 := ob_cvI rfl rfl tw_985 tw_987 tw_41 tw_59 tw_988 ⟨rfl, rfl⟩ ⟨rfl, by decide +kernel, by decide +kernel, by decide +kernel⟩ ⟨Nat.le_of_ble_eq_true rfl, Nat.le_of_ble_eq_true rfl⟩
theorem gf_X11_fits_25 : ob_GF mi_X11_fits 25 11 6 := ⟨RX11, TX11, 24, rfl, by decide, fun x h => List.mem_cons_of_mem _ (uw_X11 x h), List.mem_cons_of_mem _ tw_764⟩
theorem cv_X11_fits_62 : ob_CV mi_X11_fits mi_X11_no 62 RX11 1 := ob_cvI rfl rfl tw_835 tw_837 tw_18 tw_59 tw_838 ⟨rfl, rfl⟩ ⟨rfl, by decide +kernel, by decide +kernel, by decide +kernel⟩ ⟨Nat.le_of_ble_eq_true rfl, Nat.le_of_ble_eq_true rfl⟩
noncomputable def J_X11_fits_94_42 (rec : ob_St → Int32 → Int32 → Int32 → Option (Int32 × ob_St)) (σ : ob_St) (v1 : Int32) (v2 : Int32) : Option (Int32 × ob_St) :=
  ob_bd (f_X11_next σ) fun r10 σ11 =>
  rec σ11 v1 v2 r10
noncomputable def J_X11_fits_91_42 (rec : ob_St → Int32 → Int32 → Int32 → Option (Int32 × ob_St)) (σ : ob_St) (v1 : Int32) (v2 : Int32) : Option (Int32 × ob_St) :=
  J_X11_fits_94_42 rec σ v1 (v2 + 1)
noncomputable def L_X11_fits_62 : Nat → ob_St → Int32 → Int32 → Int32 → Option (Unit × ob_St)
  | 0, _, _, _, _ => none
  | n + 1, σ, v1, v2, v4 =>
    if (σ 0 0) ≤ v4 then
      some ((), σ)
    else
      ob_ld σ 6 6 v4 fun v_12 =>
      ob_sd σ 17 6 v4 v_12 fun σ13 =>
      L_X11_fits_62 n σ13 v1 v2 (v4 + 1)
noncomputable def L_X11_fits_42 : Nat → ob_St → Int32 → Int32 → Int32 → Option (Int32 × ob_St)
  | 0, _, _, _, _ => none
  | n + 1, σ, v1, v2, v3 =>
    if v3 = 0 then
      ob_bd (f_X11_again 14 σ) fun _ σ6 =>
      if (0 : Int32) ≤ v1 then
        if v2 = 0 then
          some ((-9), σ6)
        else
          ob_ld σ6 17 6 v1 fun v_7 =>
          some (v_7, σ6)
      else
        some (v2, σ6)
    else
      ob_bd (f_X11_wrong σ) fun r8 σ9 =>
      if r8 = (-9) then
        if v2 = 0 then
          ob_bd (L_X11_fits_62 1000 σ9 v1 v2 0) fun q14 σ15 =>
          J_X11_fits_91_42 (fun σ v1 v2 v3 => L_X11_fits_42 n σ v1 v2 v3) σ15 v1 v2
        else
          J_X11_fits_91_42 (fun σ v1 v2 v3 => L_X11_fits_42 n σ v1 v2 v3) σ9 v1 v2
      else
        J_X11_fits_94_42 (fun σ v1 v2 v3 => L_X11_fits_42 n σ v1 v2 v3) σ9 v1 v2
noncomputable def f_X11_fits (σ : ob_St) (p1 : Int32) : Option (Int32 × ob_St) :=
  if ((-1) : Int32) ≤ p1 then
    if p1 < (σ 0 0) then
      ob_bd (f_X11_keep 14 σ) fun _ σ2 =>
      ob_bd (f_X11_begin_ σ2) fun _ σ4 =>
      L_X11_fits_42 1000 σ4 p1 0 1
    else
      ob_bd (f_X11_no σ (-1)) fun r16 σ17 =>
      some (r16, σ17)
  else
    ob_bd (f_X11_no σ (-4)) fun r18 σ19 =>
    some (r18, σ19)
set_option maxRecDepth 100000 in
set_option maxHeartbeats 4000000 in
theorem j_X11_fits_94_42 {g : ob_GT} {ad : Nat → Nat} {r : Int32} {σ' : ob_St} {σ : ob_St} {v1 : Int32} {v2 : Int32} {rec : ob_St → Int32 → Int32 → Int32 → Option (Int32 × ob_St)} (hrec : ∀ {σ : ob_St} {v1 : Int32} {v2 : Int32} {v3 : Int32}, rec σ v1 v2 v3 = some (r, σ') → ob_V g (ob_M ad) mi_X11_fits (some (.int r)) σ' σ 42 [(0, .ref (ad 0)), (1, .int v1), (2, .int v2), (3, .int v3)] []) (hf : J_X11_fits_94_42 rec σ v1 v2 = some (r, σ')) : ob_V g (ob_M ad) mi_X11_fits (some (.int r)) σ' σ 94 [(0, .ref (ad 0)), (1, .int v1), (2, .int v2)] [] := by
  refine vv_aload_n dX11_fits_94 0 rfl rfl 95 rfl ?_
  refine vv_callV [] [] (fun _ _ h => c_X11_next h) (ob_rec ob_m0 rfl rfl) cv_X11_fits_175 rfl (Nat.le_of_ble_eq_true rfl) 98 rfl dX11_fits_95 rfl hf (fun r10 σ11 hf => ?_)
  refine vv_istore_n dX11_fits_98 [(3, .int r10), (0, .ref (ad 0)), (1, .int v1), (2, .int v2)] rfl (Nat.le_of_ble_eq_true rfl) rfl 99 rfl ?_
  refine vv_goto dX11_fits_99 42 rfl ?_
  refine vv_sub [1, 2, 3, 0] [(0, .ref (ad 0)), (1, .int v1), (2, .int v2), (3, .int r10)] rfl ?_
  exact hrec hf
set_option maxRecDepth 100000 in
set_option maxHeartbeats 4000000 in
theorem j_X11_fits_91_42 {g : ob_GT} {ad : Nat → Nat} {r : Int32} {σ' : ob_St} {σ : ob_St} {v1 : Int32} {v2 : Int32} {rec : ob_St → Int32 → Int32 → Int32 → Option (Int32 × ob_St)} (hrec : ∀ {σ : ob_St} {v1 : Int32} {v2 : Int32} {v3 : Int32}, rec σ v1 v2 v3 = some (r, σ') → ob_V g (ob_M ad) mi_X11_fits (some (.int r)) σ' σ 42 [(0, .ref (ad 0)), (1, .int v1), (2, .int v2), (3, .int v3)] []) (hf : J_X11_fits_91_42 rec σ v1 v2 = some (r, σ')) : ob_V g (ob_M ad) mi_X11_fits (some (.int r)) σ' σ 91 [(0, .ref (ad 0)), (1, .int v1), (2, .int v2)] [] := by
  refine vv_iinc dX11_fits_91 (v2 + 1) 2 [(2, .int (v2 + 1)), (0, .ref (ad 0)), (1, .int v1)] rfl rfl (Nat.le_of_ble_eq_true rfl) rfl 94 rfl ?_
  refine vv_sub [1, 2, 0] [(0, .ref (ad 0)), (1, .int v1), (2, .int (v2 + 1))] rfl ?_
  exact j_X11_fits_94_42 hrec hf
set_option maxRecDepth 100000 in
set_option maxHeartbeats 4000000 in
theorem l_X11_fits_62 {g : ob_GT} {ad : Nat → Nat} {ov : Option Value} {σ' σq : ob_St} {q : Unit} : ∀ (n : Nat) {σ : ob_St} {v1 : Int32} {v2 : Int32} {v4 : Int32}, L_X11_fits_62 n σ v1 v2 v4 = some (q, σq) → ob_V g (ob_M ad) mi_X11_fits ov σ' σq 91 [(0, .ref (ad 0)), (1, .int v1), (2, .int v2)] [] → ob_V g (ob_M ad) mi_X11_fits ov σ' σ 62 [(0, .ref (ad 0)), (1, .int v1), (2, .int v2), (4, .int v4)] [] := by
  intro n
  induction n with
  | zero => intro σ v1 v2 v4 hf kk; exact absurd hf (fun h => by cases h)
  | succ n ih =>
    intro σ v1 v2 v4 hf kk
    refine vv_iload dX11_fits_62 3 rfl 64 rfl ?_
    refine vv_aload_n dX11_fits_64 0 rfl rfl 65 rfl ?_
    refine vv_getI dX11_fits_65 0 gf_X11_fits_66 ob_m0 rfl rfl 68 rfl ?_
    refine vv_icmp_ge dX11_fits_68 91 71 rfl rfl hf (fun hf => ?_) (fun hf => ?_)
    · refine vv_sub [0, 1, 2] [(0, .ref (ad 0)), (1, .int v1), (2, .int v2)] rfl ?_
      obtain ⟨rfl, rfl⟩ := Prod.mk.inj (Option.some.inj hf)
      exact kk
    · refine vv_aload_n dX11_fits_71 0 rfl rfl 72 rfl ?_
      refine vv_getR dX11_fits_72 23 gf_X11_fits_58 ob_m0 rfl rfl 75 rfl ?_
      refine vv_iload dX11_fits_75 3 rfl 77 rfl ?_
      refine vv_aload_n dX11_fits_77 0 rfl rfl 78 rfl ?_
      refine vv_getR dX11_fits_78 6 gf_X11_fits_25 ob_m0 rfl rfl 81 rfl ?_
      refine vv_iload dX11_fits_81 3 rfl 83 rfl ?_
      refine vv_iald dX11_fits_83 ob_m6 rfl 84 rfl hf (fun v_12 hf => ?_)
      refine vv_iast dX11_fits_84 ob_m17 rfl 85 rfl hf (fun σ13 hf => ?_)
      refine vv_iinc dX11_fits_85 (v4 + 1) 3 [(4, .int (v4 + 1)), (0, .ref (ad 0)), (1, .int v1), (2, .int v2)] rfl rfl (Nat.le_of_ble_eq_true rfl) rfl 88 rfl ?_
      refine vv_goto dX11_fits_88 62 rfl ?_
      refine vv_sub [1, 2, 3, 0] [(0, .ref (ad 0)), (1, .int v1), (2, .int v2), (4, .int (v4 + 1))] rfl ?_
      exact ih hf kk
set_option maxRecDepth 100000 in
set_option maxHeartbeats 4000000 in
theorem l_X11_fits_42 {g : ob_GT} {ad : Nat → Nat} {r : Int32} {σ' : ob_St} : ∀ (n : Nat) {σ : ob_St} {v1 : Int32} {v2 : Int32} {v3 : Int32}, L_X11_fits_42 n σ v1 v2 v3 = some (r, σ') → ob_V g (ob_M ad) mi_X11_fits (some (.int r)) σ' σ 42 [(0, .ref (ad 0)), (1, .int v1), (2, .int v2), (3, .int v3)] [] := by
  intro n
  induction n with
  | zero => intro σ v1 v2 v3 hf; exact absurd hf (fun h => by cases h)
  | succ n ih =>
    intro σ v1 v2 v3 hf
    refine vv_iload_n dX11_fits_42 3 rfl rfl 43 rfl ?_
    refine vv_if_eq dX11_fits_43 102 46 rfl rfl hf (fun hf => ?_) (fun hf => ?_)
    · refine vv_aload_n dX11_fits_102 0 rfl rfl 103 rfl ?_
      refine vv_aload_n dX11_fits_103 0 rfl rfl 104 rfl ?_
      refine vv_getR dX11_fits_104 18 gf_X11_fits_49 ob_m0 rfl rfl 107 rfl ?_
      refine vv_callVu [.ref (ad 14)] [] (fun _ _ h => c_X11_again ⟨ob_m14, rfl⟩ h) (ob_rec ob_m0 rfl rfl) cv_X11_fits_115 rfl (Nat.le_of_ble_eq_true rfl) 110 rfl dX11_fits_107 rfl hf (fun _ σ6 hf => ?_)
      refine vv_iload_n dX11_fits_110 1 rfl rfl 111 rfl ?_
      refine vv_if_ge dX11_fits_111 118 114 rfl rfl hf (fun hf => ?_) (fun hf => ?_)
      · refine vv_iload_n dX11_fits_118 2 rfl rfl 119 rfl ?_
        refine vv_if_ne dX11_fits_119 127 122 rfl rfl hf (fun hf => ?_) (fun hf => ?_)
        · refine vv_aload_n dX11_fits_127 0 rfl rfl 128 rfl ?_
          refine vv_getR dX11_fits_128 23 gf_X11_fits_58 ob_m0 rfl rfl 131 rfl ?_
          refine vv_iload_n dX11_fits_131 1 rfl rfl 132 rfl ?_
          refine vv_iald dX11_fits_132 ob_m17 rfl 133 rfl hf (fun v_7 hf => ?_)
          exact vv_ireti rfl dX11_fits_133 hf
        · refine vv_bipush dX11_fits_122 (-9) rfl 124 rfl ?_
          refine vv_goto dX11_fits_124 133 rfl ?_
          exact vv_ireti rfl dX11_fits_133 hf
      · refine vv_iload_n dX11_fits_114 2 rfl rfl 115 rfl ?_
        refine vv_goto dX11_fits_115 133 rfl ?_
        exact vv_ireti rfl dX11_fits_133 hf
    · refine vv_aload_n dX11_fits_46 0 rfl rfl 47 rfl ?_
      refine vv_callV [] [] (fun _ _ h => c_X11_wrong h) (ob_rec ob_m0 rfl rfl) cv_X11_fits_198 rfl (Nat.le_of_ble_eq_true rfl) 50 rfl dX11_fits_47 rfl hf (fun r8 σ9 hf => ?_)
      refine vv_bipush dX11_fits_50 (-9) rfl 52 rfl ?_
      refine vv_icmp_ne dX11_fits_52 94 55 rfl rfl hf (fun hf => ?_) (fun hf => ?_)
      · refine vv_sub [0, 1, 2] [(0, .ref (ad 0)), (1, .int v1), (2, .int v2)] rfl ?_
        exact j_X11_fits_94_42 ih hf
      · refine vv_iload_n dX11_fits_55 2 rfl rfl 56 rfl ?_
        refine vv_if_ne dX11_fits_56 91 59 rfl rfl hf (fun hf => ?_) (fun hf => ?_)
        · refine vv_sub [0, 1, 2] [(0, .ref (ad 0)), (1, .int v1), (2, .int v2)] rfl ?_
          exact j_X11_fits_91_42 ih hf
        · refine vv_iconst dX11_fits_59 0 rfl 60 rfl ?_
          refine vv_istore dX11_fits_60 [(4, .int 0), (0, .ref (ad 0)), (1, .int v1), (2, .int v2), (3, .int v3)] (Nat.le_of_ble_eq_true rfl) rfl 62 rfl ?_
          refine vv_sub [1, 2, 3, 0] [(0, .ref (ad 0)), (1, .int v1), (2, .int v2), (4, .int 0)] rfl ?_
          obtain ⟨q14, σ15, hL, hf⟩ := ob_bdE hf
          refine l_X11_fits_62 1000 hL ?_
          exact j_X11_fits_91_42 ih hf
set_option maxRecDepth 100000 in
set_option maxHeartbeats 4000000 in
theorem c_X11_fits {g : ob_GT} {ad : Nat → Nat} {r : Int32} {σ' : ob_St} {σ : ob_St} {p1 : Int32} (hf : f_X11_fits σ p1 = some (r, σ')) : ob_CT g (ob_M ad) mi_X11_fits [.ref (ad 0), .int p1] σ (some (.int r)) σ' := by
  refine ob_ct (by decide +kernel) rfl (Nat.le_of_ble_eq_true rfl) ?_
  show ob_V g (ob_M ad) mi_X11_fits (some (.int r)) σ' σ 0 [(0, .ref (ad 0)), (1, .int p1)] []
  refine vv_iload_n dX11_fits_0 1 rfl rfl 1 rfl ?_
  refine vv_iconst dX11_fits_1 (-1) rfl 2 rfl ?_
  refine vv_icmp_ge dX11_fits_2 12 5 rfl rfl hf (fun hf => ?_) (fun hf => ?_)
  · refine vv_iload_n dX11_fits_12 1 rfl rfl 13 rfl ?_
    refine vv_aload_n dX11_fits_13 0 rfl rfl 14 rfl ?_
    refine vv_getI dX11_fits_14 0 gf_X11_fits_66 ob_m0 rfl rfl 17 rfl ?_
    refine vv_icmp_lt dX11_fits_17 26 20 rfl rfl hf (fun hf => ?_) (fun hf => ?_)
    · refine vv_aload_n dX11_fits_26 0 rfl rfl 27 rfl ?_
      refine vv_aload_n dX11_fits_27 0 rfl rfl 28 rfl ?_
      refine vv_getR dX11_fits_28 18 gf_X11_fits_49 ob_m0 rfl rfl 31 rfl ?_
      refine vv_callVu [.ref (ad 14)] [] (fun _ _ h => c_X11_keep ⟨ob_m14, rfl⟩ h) (ob_rec ob_m0 rfl rfl) cv_X11_fits_111 rfl (Nat.le_of_ble_eq_true rfl) 34 rfl dX11_fits_31 rfl hf (fun _ σ2 hf => ?_)
      refine vv_aload_n dX11_fits_34 0 rfl rfl 35 rfl ?_
      refine vv_callVu [] [] (fun _ _ h => c_X11_begin_ h) (ob_rec ob_m0 rfl rfl) cv_X11_fits_173 rfl (Nat.le_of_ble_eq_true rfl) 38 rfl dX11_fits_35 rfl hf (fun _ σ4 hf => ?_)
      refine vv_iconst dX11_fits_38 0 rfl 39 rfl ?_
      refine vv_istore_n dX11_fits_39 [(2, .int 0), (0, .ref (ad 0)), (1, .int p1)] rfl (Nat.le_of_ble_eq_true rfl) rfl 40 rfl ?_
      refine vv_iconst dX11_fits_40 1 rfl 41 rfl ?_
      refine vv_istore_n dX11_fits_41 [(3, .int 1), (2, .int 0), (0, .ref (ad 0)), (1, .int p1)] rfl (Nat.le_of_ble_eq_true rfl) rfl 42 rfl ?_
      refine vv_sub [2, 3, 1, 0] [(0, .ref (ad 0)), (1, .int p1), (2, .int 0), (3, .int 1)] rfl ?_
      exact l_X11_fits_42 1000 hf
    · refine vv_aload_n dX11_fits_20 0 rfl rfl 21 rfl ?_
      refine vv_iconst dX11_fits_21 (-1) rfl 22 rfl ?_
      refine vv_callV [.int (-1)] [] (fun _ _ h => c_X11_no h) (ob_rec ob_m0 rfl rfl) cv_X11_fits_62 rfl (Nat.le_of_ble_eq_true rfl) 25 rfl dX11_fits_22 rfl hf (fun r16 σ17 hf => ?_)
      exact vv_ireti rfl dX11_fits_25 hf
  · refine vv_aload_n dX11_fits_5 0 rfl rfl 6 rfl ?_
    refine vv_bipush dX11_fits_6 (-4) rfl 8 rfl ?_
    refine vv_callV [.int (-4)] [] (fun _ _ h => c_X11_no h) (ob_rec ob_m0 rfl rfl) cv_X11_fits_62 rfl (Nat.le_of_ble_eq_true rfl) 11 rfl dX11_fits_8 rfl hf (fun r18 σ19 hf => ?_)
    exact vv_ireti rfl dX11_fits_11 hf
abbrev mi_X11_judge : ob_MI := (yX11_judge, ob_ws yX11_judge cX11_judge 2 (some .int), cX11_judge, 2, (some .int), { frames := 4, cells := 0, slots := 0, locals := 91 })
theorem cv_X11_judge_198 : ob_CV mi_X11_judge mi_X11_wrong 198 RX11 0 := ob_cvI rfl rfl tw_1053 tw_1055 tw_46 tw_59 tw_1056 ⟨rfl, rfl⟩ ⟨rfl, by decide +kernel, by decide +kernel, by decide +kernel⟩ ⟨Nat.le_of_ble_eq_true rfl, Nat.le_of_ble_eq_true rfl⟩
theorem pf_X11_judge_195 : ob_PF mi_X11_judge 195 11 13 .int := ⟨RX11, TX11, 24, tyX11, rfl, by decide, fun x h => List.mem_cons_of_mem _ (uw_X11 x h), List.mem_cons_of_mem _ tw_771, tyX11_ok, nmX11, rfl, by decide +kernel⟩
noncomputable def f_X11_judge (σ : ob_St) : Option (Int32 × ob_St) :=
  ob_bd (f_X11_wrong σ) fun r1 σ2 =>
  ob_pf σ2 0 13 0 fun σ3 =>
  some (r1, σ3)
set_option maxRecDepth 100000 in
set_option maxHeartbeats 4000000 in
theorem c_X11_judge {g : ob_GT} {ad : Nat → Nat} {r : Int32} {σ' : ob_St} {σ : ob_St} (hf : f_X11_judge σ = some (r, σ')) : ob_CT g (ob_M ad) mi_X11_judge [.ref (ad 0)] σ (some (.int r)) σ' := by
  refine ob_ct (by decide +kernel) rfl (Nat.le_of_ble_eq_true rfl) ?_
  show ob_V g (ob_M ad) mi_X11_judge (some (.int r)) σ' σ 0 [(0, .ref (ad 0))] []
  refine vv_aload_n dX11_judge_0 0 rfl rfl 1 rfl ?_
  refine vv_callV [] [] (fun _ _ h => c_X11_wrong h) (ob_rec ob_m0 rfl rfl) cv_X11_judge_198 rfl (Nat.le_of_ble_eq_true rfl) 4 rfl dX11_judge_1 rfl hf (fun r1 σ2 hf => ?_)
  refine vv_istore_n dX11_judge_4 [(1, .int r1), (0, .ref (ad 0))] rfl (Nat.le_of_ble_eq_true rfl) rfl 5 rfl ?_
  refine vv_aload_n dX11_judge_5 1 rfl rfl 6 rfl ?_
  refine vv_iconst dX11_judge_6 0 rfl 7 rfl ?_
  refine vv_putI dX11_judge_7 13 pf_X11_judge_195 ob_m0 rfl rfl (ob_fit_int _) 10 rfl hf (fun σ3 hf => ?_)
  refine vv_iload_n dX11_judge_10 0 rfl rfl 11 rfl ?_
  exact vv_ireti rfl dX11_judge_11 hf
abbrev mi_X11_lots : ob_MI := (yX11_lots, ob_ws yX11_lots cX11_lots 7 (some .int), cX11_lots, 7, (some .int), { frames := 4, cells := 0, slots := 0, locals := 86 })
theorem gf_X11_lots_49 : ob_GF mi_X11_lots 49 11 18 := ⟨RX11, TX11, 24, rfl, by decide, fun x h => List.mem_cons_of_mem _ (uw_X11 x h), List.mem_cons_of_mem _ tw_776⟩
theorem cv_X11_lots_111 : ob_CV mi_X11_lots mi_X11_keep 111 RX11 1 := ob_cvI rfl rfl tw_876 tw_878 tw_26 tw_59 tw_879 ⟨rfl, rfl⟩ ⟨rfl, by decide +kernel, by decide +kernel, by decide +kernel⟩ ⟨Nat.le_of_ble_eq_true rfl, Nat.le_of_ble_eq_true rfl⟩
theorem cv_X11_lots_115 : ob_CV mi_X11_lots mi_X11_again 115 RX11 1 := ob_cvI rfl rfl tw_880 tw_882 tw_27 tw_59 tw_883 ⟨rfl, rfl⟩ ⟨rfl, by decide +kernel, by decide +kernel, by decide +kernel⟩ ⟨Nat.le_of_ble_eq_true rfl, Nat.le_of_ble_eq_true rfl⟩
theorem gf_X11_lots_31 : ob_GF mi_X11_lots 31 11 8 := ⟨RX11, TX11, 24, rfl, by decide, fun x h => List.mem_cons_of_mem _ (uw_X11 x h), List.mem_cons_of_mem _ tw_766⟩
theorem cv_X11_lots_163 : ob_CV mi_X11_lots mi_X11_run 163 RX11 1 := ob_cvI rfl rfl tw_933 tw_935 tw_30 tw_59 tw_936 ⟨rfl, rfl⟩ ⟨rfl, by decide +kernel, by decide +kernel, by decide +kernel⟩ ⟨Nat.le_of_ble_eq_true rfl, Nat.le_of_ble_eq_true rfl⟩
theorem cv_X11_lots_167 : ob_CV mi_X11_lots mi_X11_totalOf 167 RX11 1 := ob_cvI rfl rfl tw_937 tw_939 tw_31 tw_59 tw_940 ⟨rfl, rfl⟩ ⟨rfl, by decide +kernel, by decide +kernel, by decide +kernel⟩ ⟨Nat.le_of_ble_eq_true rfl, Nat.le_of_ble_eq_true rfl⟩
theorem cv_X11_lots_62 : ob_CV mi_X11_lots mi_X11_no 62 RX11 1 := ob_cvI rfl rfl tw_835 tw_837 tw_18 tw_59 tw_838 ⟨rfl, rfl⟩ ⟨rfl, by decide +kernel, by decide +kernel, by decide +kernel⟩ ⟨Nat.le_of_ble_eq_true rfl, Nat.le_of_ble_eq_true rfl⟩
noncomputable def L_X11_lots_50 : Nat → ob_St → Int32 → Int32 → Int32 → Int32 → Int32 → Option (Int32 × ob_St)
  | 0, _, _, _, _, _, _ => none
  | n + 1, σ, v1, v3, v4, v5, v6 =>
    if (5 : Int32) ≤ v6 then
      some (v3, σ)
    else
      ob_nm ((v3 * 1664525) + 1013904223) fun v_5 =>
      ob_sd σ 8 5 v6 (ob_rem ((v_5 &&& 2147483647) / 256) 100) fun σ6 =>
      L_X11_lots_50 n σ6 v1 v_5 v4 v5 (v6 + 1)
noncomputable def L_X11_lots_41 : Nat → ob_St → Int32 → Int32 → Int32 → Int32 → Option (Int32 × ob_St)
  | 0, _, _, _, _, _ => none
  | n + 1, σ, v1, v3, v4, v5 =>
    if v1 ≤ v5 then
      ob_bd (f_X11_again 14 σ) fun _ σ4 =>
      some (v4, σ4)
    else
      ob_bd (L_X11_lots_50 1000 σ v1 v3 v4 v5 0) fun q7 σ8 =>
      ob_bd (f_X11_run σ8 (-9)) fun _ σ10 =>
      ob_bd (f_X11_totalOf σ10 0) fun r11 σ12 =>
      ob_nm (v4 + r11) fun v_13 =>
      L_X11_lots_41 n σ12 v1 q7 v_13 (v5 + 1)
noncomputable def f_X11_lots (σ : ob_St) (p1 : Int32) (p2 : Int32) : Option (Int32 × ob_St) :=
  if (1 : Int32) ≤ p1 then
    if p1 ≤ 20 then
      ob_bd (f_X11_keep 14 σ) fun _ σ2 =>
      L_X11_lots_41 1000 σ2 p1 p2 0 0
    else
      ob_bd (f_X11_no σ (-6)) fun r14 σ15 =>
      some (r14, σ15)
  else
    ob_bd (f_X11_no σ (-4)) fun r16 σ17 =>
    some (r16, σ17)
set_option maxRecDepth 100000 in
set_option maxHeartbeats 4000000 in
theorem l_X11_lots_50 {g : ob_GT} {ad : Nat → Nat} {ov : Option Value} {σ' σq : ob_St} {q : Int32} : ∀ (n : Nat) {σ : ob_St} {v1 : Int32} {v3 : Int32} {v4 : Int32} {v5 : Int32} {v6 : Int32}, L_X11_lots_50 n σ v1 v3 v4 v5 v6 = some (q, σq) → ob_V g (ob_M ad) mi_X11_lots ov σ' σq 88 [(0, .ref (ad 0)), (1, .int v1), (3, .int q), (4, .int v4), (5, .int v5)] [] → ob_V g (ob_M ad) mi_X11_lots ov σ' σ 50 [(0, .ref (ad 0)), (1, .int v1), (3, .int v3), (4, .int v4), (5, .int v5), (6, .int v6)] [] := by
  intro n
  induction n with
  | zero => intro σ v1 v3 v4 v5 v6 hf kk; exact absurd hf (fun h => by cases h)
  | succ n ih =>
    intro σ v1 v3 v4 v5 v6 hf kk
    refine vv_iload dX11_lots_50 5 rfl 52 rfl ?_
    refine vv_iconst dX11_lots_52 5 rfl 53 rfl ?_
    refine vv_icmp_ge dX11_lots_53 88 56 rfl rfl hf (fun hf => ?_) (fun hf => ?_)
    · refine vv_sub [0, 1, 2, 3, 4] [(0, .ref (ad 0)), (1, .int v1), (3, .int v3), (4, .int v4), (5, .int v5)] rfl ?_
      obtain ⟨rfl, rfl⟩ := Prod.mk.inj (Option.some.inj hf)
      exact kk
    · refine vv_iload_n dX11_lots_56 2 rfl rfl 57 rfl ?_
      refine vv_ldc dX11_lots_57 1664525 (List.mem_cons_of_mem _ tw_1065) 59 rfl ?_
      refine vv_imul dX11_lots_59 60 rfl ?_
      refine vv_ldc dX11_lots_60 1013904223 (List.mem_cons_of_mem _ tw_1066) 62 rfl ?_
      refine vv_iadd dX11_lots_62 63 rfl ?_
      refine vv_nm hf (fun v_5 hf => ?_)
      refine vv_istore_n dX11_lots_63 [(3, .int v_5), (0, .ref (ad 0)), (1, .int v1), (4, .int v4), (5, .int v5), (6, .int v6)] rfl (Nat.le_of_ble_eq_true rfl) rfl 64 rfl ?_
      refine vv_aload_n dX11_lots_64 1 rfl rfl 65 rfl ?_
      refine vv_getR dX11_lots_65 8 gf_X11_lots_31 ob_m0 rfl rfl 68 rfl ?_
      refine vv_iload dX11_lots_68 5 rfl 70 rfl ?_
      refine vv_iload_n dX11_lots_70 0 rfl rfl 71 rfl ?_
      refine vv_ldc dX11_lots_71 2147483647 (List.mem_cons_of_mem _ tw_1067) 73 rfl ?_
      refine vv_iand dX11_lots_73 74 rfl ?_
      refine vv_sipush dX11_lots_74 256 rfl 77 rfl ?_
      refine vv_idiv dX11_lots_77 (by decide) 78 rfl ?_
      refine vv_bipush dX11_lots_78 100 rfl 80 rfl ?_
      refine vv_irem dX11_lots_80 (by decide) 81 rfl ?_
      refine vv_iast dX11_lots_81 ob_m8 rfl 82 rfl hf (fun σ6 hf => ?_)
      refine vv_iinc dX11_lots_82 (v6 + 1) 5 [(6, .int (v6 + 1)), (3, .int v_5), (0, .ref (ad 0)), (1, .int v1), (4, .int v4), (5, .int v5)] rfl rfl (Nat.le_of_ble_eq_true rfl) rfl 85 rfl ?_
      refine vv_goto dX11_lots_85 50 rfl ?_
      refine vv_sub [2, 3, 1, 4, 5, 0] [(0, .ref (ad 0)), (1, .int v1), (3, .int v_5), (4, .int v4), (5, .int v5), (6, .int (v6 + 1))] rfl ?_
      exact ih hf kk
set_option maxRecDepth 100000 in
set_option maxHeartbeats 4000000 in
theorem l_X11_lots_41 {g : ob_GT} {ad : Nat → Nat} {r : Int32} {σ' : ob_St} : ∀ (n : Nat) {σ : ob_St} {v1 : Int32} {v3 : Int32} {v4 : Int32} {v5 : Int32}, L_X11_lots_41 n σ v1 v3 v4 v5 = some (r, σ') → ob_V g (ob_M ad) mi_X11_lots (some (.int r)) σ' σ 41 [(0, .ref (ad 0)), (1, .int v1), (3, .int v3), (4, .int v4), (5, .int v5)] [] := by
  intro n
  induction n with
  | zero => intro σ v1 v3 v4 v5 hf; exact absurd hf (fun h => by cases h)
  | succ n ih =>
    intro σ v1 v3 v4 v5 hf
    refine vv_iload dX11_lots_41 4 rfl 43 rfl ?_
    refine vv_iload_n dX11_lots_43 1 rfl rfl 44 rfl ?_
    refine vv_icmp_ge dX11_lots_44 110 47 rfl rfl hf (fun hf => ?_) (fun hf => ?_)
    · refine vv_aload_n dX11_lots_110 0 rfl rfl 111 rfl ?_
      refine vv_aload_n dX11_lots_111 0 rfl rfl 112 rfl ?_
      refine vv_getR dX11_lots_112 18 gf_X11_lots_49 ob_m0 rfl rfl 115 rfl ?_
      refine vv_callVu [.ref (ad 14)] [] (fun _ _ h => c_X11_again ⟨ob_m14, rfl⟩ h) (ob_rec ob_m0 rfl rfl) cv_X11_lots_115 rfl (Nat.le_of_ble_eq_true rfl) 118 rfl dX11_lots_115 rfl hf (fun _ σ4 hf => ?_)
      refine vv_iload dX11_lots_118 3 rfl 120 rfl ?_
      exact vv_ireti rfl dX11_lots_120 hf
    · refine vv_iconst dX11_lots_47 0 rfl 48 rfl ?_
      refine vv_istore dX11_lots_48 [(6, .int 0), (0, .ref (ad 0)), (1, .int v1), (3, .int v3), (4, .int v4), (5, .int v5)] (Nat.le_of_ble_eq_true rfl) rfl 50 rfl ?_
      refine vv_sub [1, 2, 3, 4, 5, 0] [(0, .ref (ad 0)), (1, .int v1), (3, .int v3), (4, .int v4), (5, .int v5), (6, .int 0)] rfl ?_
      obtain ⟨q7, σ8, hL, hf⟩ := ob_bdE hf
      refine l_X11_lots_50 1000 hL ?_
      refine vv_aload_n dX11_lots_88 0 rfl rfl 89 rfl ?_
      refine vv_bipush dX11_lots_89 (-9) rfl 91 rfl ?_
      refine vv_callVu [.int (-9)] [] (fun _ _ h => c_X11_run h) (ob_rec ob_m0 rfl rfl) cv_X11_lots_163 rfl (Nat.le_of_ble_eq_true rfl) 94 rfl dX11_lots_91 rfl hf (fun _ σ10 hf => ?_)
      refine vv_iload dX11_lots_94 3 rfl 96 rfl ?_
      refine vv_aload_n dX11_lots_96 0 rfl rfl 97 rfl ?_
      refine vv_iconst dX11_lots_97 0 rfl 98 rfl ?_
      refine vv_callV [.int 0] [.int v4] (fun _ _ h => c_X11_totalOf h) (ob_rec ob_m0 rfl rfl) cv_X11_lots_167 rfl (Nat.le_of_ble_eq_true rfl) 101 rfl dX11_lots_98 rfl hf (fun r11 σ12 hf => ?_)
      refine vv_iadd dX11_lots_101 102 rfl ?_
      refine vv_nm hf (fun v_13 hf => ?_)
      refine vv_istore dX11_lots_102 [(4, .int v_13), (0, .ref (ad 0)), (1, .int v1), (3, .int q7), (5, .int v5)] (Nat.le_of_ble_eq_true rfl) rfl 104 rfl ?_
      refine vv_iinc dX11_lots_104 (v5 + 1) 4 [(5, .int (v5 + 1)), (4, .int v_13), (0, .ref (ad 0)), (1, .int v1), (3, .int q7)] rfl rfl (Nat.le_of_ble_eq_true rfl) rfl 107 rfl ?_
      refine vv_goto dX11_lots_107 41 rfl ?_
      refine vv_sub [2, 3, 4, 1, 0] [(0, .ref (ad 0)), (1, .int v1), (3, .int q7), (4, .int v_13), (5, .int (v5 + 1))] rfl ?_
      exact ih hf
set_option maxRecDepth 100000 in
set_option maxHeartbeats 4000000 in
theorem c_X11_lots {g : ob_GT} {ad : Nat → Nat} {r : Int32} {σ' : ob_St} {σ : ob_St} {p1 : Int32} {p2 : Int32} (hf : f_X11_lots σ p1 p2 = some (r, σ')) : ob_CT g (ob_M ad) mi_X11_lots [.ref (ad 0), .int p1, .int p2] σ (some (.int r)) σ' := by
  refine ob_ct (by decide +kernel) rfl (Nat.le_of_ble_eq_true rfl) ?_
  show ob_V g (ob_M ad) mi_X11_lots (some (.int r)) σ' σ 0 [(0, .ref (ad 0)), (1, .int p1), (2, .int p2)] []
  refine vv_iload_n dX11_lots_0 1 rfl rfl 1 rfl ?_
  refine vv_iconst dX11_lots_1 1 rfl 2 rfl ?_
  refine vv_icmp_ge dX11_lots_2 12 5 rfl rfl hf (fun hf => ?_) (fun hf => ?_)
  · refine vv_iload_n dX11_lots_12 1 rfl rfl 13 rfl ?_
    refine vv_bipush dX11_lots_13 20 rfl 15 rfl ?_
    refine vv_icmp_le dX11_lots_15 25 18 rfl rfl hf (fun hf => ?_) (fun hf => ?_)
    · refine vv_aload_n dX11_lots_25 0 rfl rfl 26 rfl ?_
      refine vv_aload_n dX11_lots_26 0 rfl rfl 27 rfl ?_
      refine vv_getR dX11_lots_27 18 gf_X11_lots_49 ob_m0 rfl rfl 30 rfl ?_
      refine vv_callVu [.ref (ad 14)] [] (fun _ _ h => c_X11_keep ⟨ob_m14, rfl⟩ h) (ob_rec ob_m0 rfl rfl) cv_X11_lots_111 rfl (Nat.le_of_ble_eq_true rfl) 33 rfl dX11_lots_30 rfl hf (fun _ σ2 hf => ?_)
      refine vv_iload_n dX11_lots_33 2 rfl rfl 34 rfl ?_
      refine vv_istore_n dX11_lots_34 [(3, .int p2), (0, .ref (ad 0)), (1, .int p1), (2, .int p2)] rfl (Nat.le_of_ble_eq_true rfl) rfl 35 rfl ?_
      refine vv_iconst dX11_lots_35 0 rfl 36 rfl ?_
      refine vv_istore dX11_lots_36 [(4, .int 0), (3, .int p2), (0, .ref (ad 0)), (1, .int p1), (2, .int p2)] (Nat.le_of_ble_eq_true rfl) rfl 38 rfl ?_
      refine vv_iconst dX11_lots_38 0 rfl 39 rfl ?_
      refine vv_istore dX11_lots_39 [(5, .int 0), (4, .int 0), (3, .int p2), (0, .ref (ad 0)), (1, .int p1), (2, .int p2)] (Nat.le_of_ble_eq_true rfl) rfl 41 rfl ?_
      refine vv_sub [3, 4, 2, 1, 0] [(0, .ref (ad 0)), (1, .int p1), (3, .int p2), (4, .int 0), (5, .int 0)] rfl ?_
      exact l_X11_lots_41 1000 hf
    · refine vv_aload_n dX11_lots_18 0 rfl rfl 19 rfl ?_
      refine vv_bipush dX11_lots_19 (-6) rfl 21 rfl ?_
      refine vv_callV [.int (-6)] [] (fun _ _ h => c_X11_no h) (ob_rec ob_m0 rfl rfl) cv_X11_lots_62 rfl (Nat.le_of_ble_eq_true rfl) 24 rfl dX11_lots_21 rfl hf (fun r14 σ15 hf => ?_)
      exact vv_ireti rfl dX11_lots_24 hf
  · refine vv_aload_n dX11_lots_5 0 rfl rfl 6 rfl ?_
    refine vv_bipush dX11_lots_6 (-4) rfl 8 rfl ?_
    refine vv_callV [.int (-4)] [] (fun _ _ h => c_X11_no h) (ob_rec ob_m0 rfl rfl) cv_X11_lots_62 rfl (Nat.le_of_ble_eq_true rfl) 11 rfl dX11_lots_8 rfl hf (fun r16 σ17 hf => ?_)
    exact vv_ireti rfl dX11_lots_11 hf
abbrev mi_X11_image : ob_MI := (yX11_image, ob_ws yX11_image cX11_image 1 (some .int), cX11_image, 1, (some .int), { frames := 1, cells := 0, slots := 0, locals := 22 })
theorem pf_X11_image_204 : ob_PF mi_X11_image 204 11 16 .boolean := ⟨RX11, TX11, 24, tyX11, rfl, by decide, fun x h => List.mem_cons_of_mem _ (uw_X11 x h), List.mem_cons_of_mem _ tw_774, tyX11_ok, nmX11, rfl, by decide +kernel⟩
theorem gf_X11_image_46 : ob_GF mi_X11_image 46 11 17 := ⟨RX11, TX11, 24, rfl, by decide, fun x h => List.mem_cons_of_mem _ (uw_X11 x h), List.mem_cons_of_mem _ tw_775⟩
theorem cv_X11_image_111 : ob_CV mi_X11_image mi_X11_keep 111 RX11 1 := ob_cvI rfl rfl tw_876 tw_878 tw_26 tw_59 tw_879 ⟨rfl, rfl⟩ ⟨rfl, by decide +kernel, by decide +kernel, by decide +kernel⟩ ⟨Nat.le_of_ble_eq_true rfl, Nat.le_of_ble_eq_true rfl⟩
theorem gf_X11_image_66 : ob_GF mi_X11_image 66 11 0 := ⟨RX11, TX11, 24, rfl, by decide, fun x h => List.mem_cons_of_mem _ (uw_X11 x h), List.mem_cons_of_mem _ tw_758⟩
noncomputable def f_X11_image (σ : ob_St) : Option (Int32 × ob_St) :=
  ob_pf σ 0 16 1 fun σ1 =>
  ob_bd (f_X11_keep 13 σ1) fun _ σ3 =>
  some ((σ3 0 0), σ3)
set_option maxRecDepth 100000 in
set_option maxHeartbeats 4000000 in
theorem c_X11_image {g : ob_GT} {ad : Nat → Nat} {r : Int32} {σ' : ob_St} {σ : ob_St} (hf : f_X11_image σ = some (r, σ')) : ob_CT g (ob_M ad) mi_X11_image [.ref (ad 0)] σ (some (.int r)) σ' := by
  refine ob_ct (by decide +kernel) rfl (Nat.le_of_ble_eq_true rfl) ?_
  show ob_V g (ob_M ad) mi_X11_image (some (.int r)) σ' σ 0 [(0, .ref (ad 0))] []
  refine vv_aload_n dX11_image_0 0 rfl rfl 1 rfl ?_
  refine vv_iconst dX11_image_1 1 rfl 2 rfl ?_
  refine vv_putI dX11_image_2 16 pf_X11_image_204 ob_m0 rfl rfl ⟨rfl, rfl⟩ 5 rfl hf (fun σ1 hf => ?_)
  refine vv_aload_n dX11_image_5 0 rfl rfl 6 rfl ?_
  refine vv_aload_n dX11_image_6 0 rfl rfl 7 rfl ?_
  refine vv_getR dX11_image_7 17 gf_X11_image_46 ob_m0 rfl rfl 10 rfl ?_
  refine vv_callVu [.ref (ad 13)] [] (fun _ _ h => c_X11_keep ⟨ob_m13, rfl⟩ h) (ob_rec ob_m0 rfl rfl) cv_X11_image_111 rfl (Nat.le_of_ble_eq_true rfl) 13 rfl dX11_image_10 rfl hf (fun _ σ3 hf => ?_)
  refine vv_aload_n dX11_image_13 0 rfl rfl 14 rfl ?_
  refine vv_getI dX11_image_14 0 gf_X11_image_66 ob_m0 rfl rfl 17 rfl ?_
  exact vv_ireti rfl dX11_image_17 hf
abbrev mi_X11_on : ob_MI := (yX11_on, ob_ws yX11_on cX11_on 1 (some .int), cX11_on, 1, (some .int), { frames := 1, cells := 0, slots := 0, locals := 22 })
theorem gf_X11_on_204 : ob_GF mi_X11_on 204 11 16 := ⟨RX11, TX11, 24, rfl, by decide, fun x h => List.mem_cons_of_mem _ (uw_X11 x h), List.mem_cons_of_mem _ tw_774⟩
theorem gf_X11_on_46 : ob_GF mi_X11_on 46 11 17 := ⟨RX11, TX11, 24, rfl, by decide, fun x h => List.mem_cons_of_mem _ (uw_X11 x h), List.mem_cons_of_mem _ tw_775⟩
theorem cv_X11_on_115 : ob_CV mi_X11_on mi_X11_again 115 RX11 1 := ob_cvI rfl rfl tw_880 tw_882 tw_27 tw_59 tw_883 ⟨rfl, rfl⟩ ⟨rfl, by decide +kernel, by decide +kernel, by decide +kernel⟩ ⟨Nat.le_of_ble_eq_true rfl, Nat.le_of_ble_eq_true rfl⟩
theorem gf_X11_on_66 : ob_GF mi_X11_on 66 11 0 := ⟨RX11, TX11, 24, rfl, by decide, fun x h => List.mem_cons_of_mem _ (uw_X11 x h), List.mem_cons_of_mem _ tw_758⟩
theorem cv_X11_on_62 : ob_CV mi_X11_on mi_X11_no 62 RX11 1 := ob_cvI rfl rfl tw_835 tw_837 tw_18 tw_59 tw_838 ⟨rfl, rfl⟩ ⟨rfl, by decide +kernel, by decide +kernel, by decide +kernel⟩ ⟨Nat.le_of_ble_eq_true rfl, Nat.le_of_ble_eq_true rfl⟩
noncomputable def f_X11_on (σ : ob_St) : Option (Int32 × ob_St) :=
  if (σ 0 16) = 0 then
    ob_bd (f_X11_no σ (-3)) fun r3 σ4 =>
    some (r3, σ4)
  else
    ob_bd (f_X11_again 13 σ) fun _ σ2 =>
    some ((σ2 0 0), σ2)
set_option maxRecDepth 100000 in
set_option maxHeartbeats 4000000 in
theorem c_X11_on {g : ob_GT} {ad : Nat → Nat} {r : Int32} {σ' : ob_St} {σ : ob_St} (hf : f_X11_on σ = some (r, σ')) : ob_CT g (ob_M ad) mi_X11_on [.ref (ad 0)] σ (some (.int r)) σ' := by
  refine ob_ct (by decide +kernel) rfl (Nat.le_of_ble_eq_true rfl) ?_
  show ob_V g (ob_M ad) mi_X11_on (some (.int r)) σ' σ 0 [(0, .ref (ad 0))] []
  refine vv_aload_n dX11_on_0 0 rfl rfl 1 rfl ?_
  refine vv_getI dX11_on_1 16 gf_X11_on_204 ob_m0 rfl rfl 4 rfl ?_
  refine vv_if_ne dX11_on_4 14 7 rfl rfl hf (fun hf => ?_) (fun hf => ?_)
  · refine vv_aload_n dX11_on_14 0 rfl rfl 15 rfl ?_
    refine vv_aload_n dX11_on_15 0 rfl rfl 16 rfl ?_
    refine vv_getR dX11_on_16 17 gf_X11_on_46 ob_m0 rfl rfl 19 rfl ?_
    refine vv_callVu [.ref (ad 13)] [] (fun _ _ h => c_X11_again ⟨ob_m13, rfl⟩ h) (ob_rec ob_m0 rfl rfl) cv_X11_on_115 rfl (Nat.le_of_ble_eq_true rfl) 22 rfl dX11_on_19 rfl hf (fun _ σ2 hf => ?_)
    refine vv_aload_n dX11_on_22 0 rfl rfl 23 rfl ?_
    refine vv_getI dX11_on_23 0 gf_X11_on_66 ob_m0 rfl rfl 26 rfl ?_
    exact vv_ireti rfl dX11_on_26 hf
  · refine vv_aload_n dX11_on_7 0 rfl rfl 8 rfl ?_
    refine vv_bipush dX11_on_8 (-3) rfl 10 rfl ?_
    refine vv_callV [.int (-3)] [] (fun _ _ h => c_X11_no h) (ob_rec ob_m0 rfl rfl) cv_X11_on_62 rfl (Nat.le_of_ble_eq_true rfl) 13 rfl dX11_on_10 rfl hf (fun r3 σ4 hf => ?_)
    exact vv_ireti rfl dX11_on_13 hf
abbrev mi_X11_count : ob_MI := (yX11_count, ob_ws yX11_count cX11_count 4 (some .int), cX11_count, 4, (some .int), { frames := 1, cells := 0, slots := 0, locals := 22 })
theorem gf_X11_count_66 : ob_GF mi_X11_count 66 11 0 := ⟨RX11, TX11, 24, rfl, by decide, fun x h => List.mem_cons_of_mem _ (uw_X11 x h), List.mem_cons_of_mem _ tw_758⟩
theorem gf_X11_count_13 : ob_GF mi_X11_count 13 11 2 := ⟨RX11, TX11, 24, rfl, by decide, fun x h => List.mem_cons_of_mem _ (uw_X11 x h), List.mem_cons_of_mem _ tw_760⟩
theorem gf_X11_count_19 : ob_GF mi_X11_count 19 11 4 := ⟨RX11, TX11, 24, rfl, by decide, fun x h => List.mem_cons_of_mem _ (uw_X11 x h), List.mem_cons_of_mem _ tw_762⟩
theorem gf_X11_count_28 : ob_GF mi_X11_count 28 11 7 := ⟨RX11, TX11, 24, rfl, by decide, fun x h => List.mem_cons_of_mem _ (uw_X11 x h), List.mem_cons_of_mem _ tw_765⟩
theorem gf_X11_count_195 : ob_GF mi_X11_count 195 11 13 := ⟨RX11, TX11, 24, rfl, by decide, fun x h => List.mem_cons_of_mem _ (uw_X11 x h), List.mem_cons_of_mem _ tw_771⟩
theorem gf_X11_count_74 : ob_GF mi_X11_count 74 11 9 := ⟨RX11, TX11, 24, rfl, by decide, fun x h => List.mem_cons_of_mem _ (uw_X11 x h), List.mem_cons_of_mem _ tw_767⟩
theorem cs_X11_count_70 : ob_CS mi_X11_count mi_X11_within 70 3 := ob_csI rfl rfl tw_857 tw_858 tw_59 tw_859 ⟨rfl, rfl⟩ ⟨by decide +kernel, by decide +kernel, by decide +kernel⟩ ⟨Nat.le_of_ble_eq_true rfl, Nat.le_of_ble_eq_true rfl⟩
theorem gf_X11_count_43 : ob_GF mi_X11_count 43 11 15 := ⟨RX11, TX11, 24, rfl, by decide, fun x h => List.mem_cons_of_mem _ (uw_X11 x h), List.mem_cons_of_mem _ tw_773⟩
noncomputable def L_X11_count_63 : Nat → ob_St → Int32 → Int32 → Option (Int32 × ob_St)
  | 0, _, _, _ => none
  | n + 1, σ, v2, v3 =>
    if (σ 0 0) ≤ v3 then
      some (v2, σ)
    else
      ob_ld σ 2 6 v3 fun v_1 =>
      ob_nm (v2 + v_1) fun v_2 =>
      L_X11_count_63 n σ v_2 (v3 + 1)
noncomputable def L_X11_count_90 : Nat → ob_St → Int32 → Int32 → Option (Int32 × ob_St)
  | 0, _, _, _ => none
  | n + 1, σ, v2, v3 =>
    if (σ 0 0) ≤ v3 then
      some (v2, σ)
    else
      ob_ld σ 4 6 v3 fun v_3 =>
      ob_nm (v2 + v_3) fun v_4 =>
      L_X11_count_90 n σ v_4 (v3 + 1)
noncomputable def f_X11_count (σ : ob_St) (p1 : Int32) : Option (Int32 × ob_St) :=
  if p1 = 0 then
    some ((σ 0 0), σ)
  else
  if p1 = 1 then
    L_X11_count_63 1000 σ 0 0
  else
  if p1 = 2 then
    L_X11_count_90 1000 σ 0 0
  else
  if p1 = 3 then
    ob_ld σ 7 6 0 fun v_5 =>
    some (v_5, σ)
  else
  if p1 = 4 then
    ob_ld σ 7 6 2 fun v_6 =>
    some (v_6, σ)
  else
  if p1 = 5 then
    ob_ld σ 7 6 3 fun v_7 =>
    some (v_7, σ)
  else
  if p1 = 6 then
    ob_ld σ 7 6 4 fun v_8 =>
    some (v_8, σ)
  else
  if p1 = 7 then
    ob_ld σ 7 6 5 fun v_9 =>
    some (v_9, σ)
  else
  if p1 = 8 then
    some ((σ 0 13), σ)
  else
  if p1 = 9 then
    some ((σ 0 9), σ)
  else
    ob_bd (f_X11_within σ p1 11 16) fun r10 σ11 =>
    if r10 = 0 then
      some ((-9), σ11)
    else
      ob_ld σ11 12 7 (p1 - 10) fun v_12 =>
      some (v_12, σ11)
set_option maxRecDepth 100000 in
set_option maxHeartbeats 4000000 in
theorem l_X11_count_63 {g : ob_GT} {ad : Nat → Nat} {r : Int32} {σ' : ob_St} : ∀ (n : Nat) {σ : ob_St} {v2 : Int32} {v3 : Int32}, L_X11_count_63 n σ v2 v3 = some (r, σ') → ob_V g (ob_M ad) mi_X11_count (some (.int r)) σ' σ 63 [(0, .ref (ad 0)), (2, .int v2), (3, .int v3)] [] := by
  intro n
  induction n with
  | zero => intro σ v2 v3 hf; exact absurd hf (fun h => by cases h)
  | succ n ih =>
    intro σ v2 v3 hf
    refine vv_iload_n dX11_count_63 2 rfl rfl 64 rfl ?_
    refine vv_aload_n dX11_count_64 0 rfl rfl 65 rfl ?_
    refine vv_getI dX11_count_65 0 gf_X11_count_66 ob_m0 rfl rfl 68 rfl ?_
    refine vv_icmp_ge dX11_count_68 86 71 rfl rfl hf (fun hf => ?_) (fun hf => ?_)
    · refine vv_iload_n dX11_count_86 1 rfl rfl 87 rfl ?_
      exact vv_ireti rfl dX11_count_87 hf
    · refine vv_iload_n dX11_count_71 1 rfl rfl 72 rfl ?_
      refine vv_aload_n dX11_count_72 0 rfl rfl 73 rfl ?_
      refine vv_getR dX11_count_73 2 gf_X11_count_13 ob_m0 rfl rfl 76 rfl ?_
      refine vv_iload_n dX11_count_76 2 rfl rfl 77 rfl ?_
      refine vv_iald dX11_count_77 ob_m2 rfl 78 rfl hf (fun v_1 hf => ?_)
      refine vv_iadd dX11_count_78 79 rfl ?_
      refine vv_nm hf (fun v_2 hf => ?_)
      refine vv_istore_n dX11_count_79 [(2, .int v_2), (0, .ref (ad 0)), (3, .int v3)] rfl (Nat.le_of_ble_eq_true rfl) rfl 80 rfl ?_
      refine vv_iinc dX11_count_80 (v3 + 1) 2 [(3, .int (v3 + 1)), (2, .int v_2), (0, .ref (ad 0))] rfl rfl (Nat.le_of_ble_eq_true rfl) rfl 83 rfl ?_
      refine vv_goto dX11_count_83 63 rfl ?_
      refine vv_sub [2, 1, 0] [(0, .ref (ad 0)), (2, .int v_2), (3, .int (v3 + 1))] rfl ?_
      exact ih hf
set_option maxRecDepth 100000 in
set_option maxHeartbeats 4000000 in
theorem l_X11_count_90 {g : ob_GT} {ad : Nat → Nat} {r : Int32} {σ' : ob_St} : ∀ (n : Nat) {σ : ob_St} {v2 : Int32} {v3 : Int32}, L_X11_count_90 n σ v2 v3 = some (r, σ') → ob_V g (ob_M ad) mi_X11_count (some (.int r)) σ' σ 90 [(0, .ref (ad 0)), (2, .int v2), (3, .int v3)] [] := by
  intro n
  induction n with
  | zero => intro σ v2 v3 hf; exact absurd hf (fun h => by cases h)
  | succ n ih =>
    intro σ v2 v3 hf
    refine vv_iload_n dX11_count_90 2 rfl rfl 91 rfl ?_
    refine vv_aload_n dX11_count_91 0 rfl rfl 92 rfl ?_
    refine vv_getI dX11_count_92 0 gf_X11_count_66 ob_m0 rfl rfl 95 rfl ?_
    refine vv_icmp_ge dX11_count_95 113 98 rfl rfl hf (fun hf => ?_) (fun hf => ?_)
    · refine vv_iload_n dX11_count_113 1 rfl rfl 114 rfl ?_
      exact vv_ireti rfl dX11_count_114 hf
    · refine vv_iload_n dX11_count_98 1 rfl rfl 99 rfl ?_
      refine vv_aload_n dX11_count_99 0 rfl rfl 100 rfl ?_
      refine vv_getR dX11_count_100 4 gf_X11_count_19 ob_m0 rfl rfl 103 rfl ?_
      refine vv_iload_n dX11_count_103 2 rfl rfl 104 rfl ?_
      refine vv_iald dX11_count_104 ob_m4 rfl 105 rfl hf (fun v_3 hf => ?_)
      refine vv_iadd dX11_count_105 106 rfl ?_
      refine vv_nm hf (fun v_4 hf => ?_)
      refine vv_istore_n dX11_count_106 [(2, .int v_4), (0, .ref (ad 0)), (3, .int v3)] rfl (Nat.le_of_ble_eq_true rfl) rfl 107 rfl ?_
      refine vv_iinc dX11_count_107 (v3 + 1) 2 [(3, .int (v3 + 1)), (2, .int v_4), (0, .ref (ad 0))] rfl rfl (Nat.le_of_ble_eq_true rfl) rfl 110 rfl ?_
      refine vv_goto dX11_count_110 90 rfl ?_
      refine vv_sub [2, 1, 0] [(0, .ref (ad 0)), (2, .int v_4), (3, .int (v3 + 1))] rfl ?_
      exact ih hf
set_option maxRecDepth 100000 in
set_option maxHeartbeats 4000000 in
theorem c_X11_count {g : ob_GT} {ad : Nat → Nat} {r : Int32} {σ' : ob_St} {σ : ob_St} {p1 : Int32} (hf : f_X11_count σ p1 = some (r, σ')) : ob_CT g (ob_M ad) mi_X11_count [.ref (ad 0), .int p1] σ (some (.int r)) σ' := by
  refine ob_ct (by decide +kernel) rfl (Nat.le_of_ble_eq_true rfl) ?_
  show ob_V g (ob_M ad) mi_X11_count (some (.int r)) σ' σ 0 [(0, .ref (ad 0)), (1, .int p1)] []
  refine vv_iconst dX11_count_0 0 rfl 1 rfl ?_
  refine vv_istore_n dX11_count_1 [(2, .int 0), (0, .ref (ad 0)), (1, .int p1)] rfl (Nat.le_of_ble_eq_true rfl) rfl 2 rfl ?_
  refine vv_iload_n dX11_count_2 2 rfl rfl 3 rfl ?_
  refine vv_case 0 hf (fun hf => ?_) (fun nh0 hf => ?_)
  · refine vv_tabIn dX11_count_3 56 (by decide) (by decide) rfl rfl ?_
    refine vv_aload_n dX11_count_56 1 rfl rfl 57 rfl ?_
    refine vv_getI dX11_count_57 0 gf_X11_count_66 ob_m0 rfl rfl 60 rfl ?_
    exact vv_ireti rfl dX11_count_60 hf
  refine vv_case 1 hf (fun hf => ?_) (fun nh1 hf => ?_)
  · refine vv_tabIn dX11_count_3 61 (by decide) (by decide) rfl rfl ?_
    refine vv_iconst dX11_count_61 0 rfl 62 rfl ?_
    refine vv_istore_n dX11_count_62 [(3, .int 0), (2, .int 0), (0, .ref (ad 0)), (1, .int p1)] rfl (Nat.le_of_ble_eq_true rfl) rfl 63 rfl ?_
    refine vv_sub [2, 1, 0] [(0, .ref (ad 0)), (2, .int 0), (3, .int 0)] rfl ?_
    exact l_X11_count_63 1000 hf
  refine vv_case 2 hf (fun hf => ?_) (fun nh2 hf => ?_)
  · refine vv_tabIn dX11_count_3 88 (by decide) (by decide) rfl rfl ?_
    refine vv_iconst dX11_count_88 0 rfl 89 rfl ?_
    refine vv_istore_n dX11_count_89 [(3, .int 0), (2, .int 0), (0, .ref (ad 0)), (1, .int p1)] rfl (Nat.le_of_ble_eq_true rfl) rfl 90 rfl ?_
    refine vv_sub [2, 1, 0] [(0, .ref (ad 0)), (2, .int 0), (3, .int 0)] rfl ?_
    exact l_X11_count_90 1000 hf
  refine vv_case 3 hf (fun hf => ?_) (fun nh3 hf => ?_)
  · refine vv_tabIn dX11_count_3 115 (by decide) (by decide) rfl rfl ?_
    refine vv_aload_n dX11_count_115 1 rfl rfl 116 rfl ?_
    refine vv_getR dX11_count_116 7 gf_X11_count_28 ob_m0 rfl rfl 119 rfl ?_
    refine vv_iconst dX11_count_119 0 rfl 120 rfl ?_
    refine vv_iald dX11_count_120 ob_m7 rfl 121 rfl hf (fun v_5 hf => ?_)
    exact vv_ireti rfl dX11_count_121 hf
  refine vv_case 4 hf (fun hf => ?_) (fun nh4 hf => ?_)
  · refine vv_tabIn dX11_count_3 122 (by decide) (by decide) rfl rfl ?_
    refine vv_aload_n dX11_count_122 1 rfl rfl 123 rfl ?_
    refine vv_getR dX11_count_123 7 gf_X11_count_28 ob_m0 rfl rfl 126 rfl ?_
    refine vv_iconst dX11_count_126 2 rfl 127 rfl ?_
    refine vv_iald dX11_count_127 ob_m7 rfl 128 rfl hf (fun v_6 hf => ?_)
    exact vv_ireti rfl dX11_count_128 hf
  refine vv_case 5 hf (fun hf => ?_) (fun nh5 hf => ?_)
  · refine vv_tabIn dX11_count_3 129 (by decide) (by decide) rfl rfl ?_
    refine vv_aload_n dX11_count_129 1 rfl rfl 130 rfl ?_
    refine vv_getR dX11_count_130 7 gf_X11_count_28 ob_m0 rfl rfl 133 rfl ?_
    refine vv_iconst dX11_count_133 3 rfl 134 rfl ?_
    refine vv_iald dX11_count_134 ob_m7 rfl 135 rfl hf (fun v_7 hf => ?_)
    exact vv_ireti rfl dX11_count_135 hf
  refine vv_case 6 hf (fun hf => ?_) (fun nh6 hf => ?_)
  · refine vv_tabIn dX11_count_3 136 (by decide) (by decide) rfl rfl ?_
    refine vv_aload_n dX11_count_136 1 rfl rfl 137 rfl ?_
    refine vv_getR dX11_count_137 7 gf_X11_count_28 ob_m0 rfl rfl 140 rfl ?_
    refine vv_iconst dX11_count_140 4 rfl 141 rfl ?_
    refine vv_iald dX11_count_141 ob_m7 rfl 142 rfl hf (fun v_8 hf => ?_)
    exact vv_ireti rfl dX11_count_142 hf
  refine vv_case 7 hf (fun hf => ?_) (fun nh7 hf => ?_)
  · refine vv_tabIn dX11_count_3 143 (by decide) (by decide) rfl rfl ?_
    refine vv_aload_n dX11_count_143 1 rfl rfl 144 rfl ?_
    refine vv_getR dX11_count_144 7 gf_X11_count_28 ob_m0 rfl rfl 147 rfl ?_
    refine vv_iconst dX11_count_147 5 rfl 148 rfl ?_
    refine vv_iald dX11_count_148 ob_m7 rfl 149 rfl hf (fun v_9 hf => ?_)
    exact vv_ireti rfl dX11_count_149 hf
  refine vv_case 8 hf (fun hf => ?_) (fun nh8 hf => ?_)
  · refine vv_tabIn dX11_count_3 150 (by decide) (by decide) rfl rfl ?_
    refine vv_aload_n dX11_count_150 1 rfl rfl 151 rfl ?_
    refine vv_getI dX11_count_151 13 gf_X11_count_195 ob_m0 rfl rfl 154 rfl ?_
    exact vv_ireti rfl dX11_count_154 hf
  refine vv_case 9 hf (fun hf => ?_) (fun nh9 hf => ?_)
  · refine vv_tabIn dX11_count_3 155 (by decide) (by decide) rfl rfl ?_
    refine vv_aload_n dX11_count_155 1 rfl rfl 156 rfl ?_
    refine vv_getI dX11_count_156 9 gf_X11_count_74 ob_m0 rfl rfl 159 rfl ?_
    exact vv_ireti rfl dX11_count_159 hf
  refine vv_tabOut dX11_count_3 160 (by have z0 := ob_neI nh0 (a := 0) rfl; have z1 := ob_neI nh1 (a := 1) rfl; have z2 := ob_neI nh2 (a := 2) rfl; have z3 := ob_neI nh3 (a := 3) rfl; have z4 := ob_neI nh4 (a := 4) rfl; have z5 := ob_neI nh5 (a := 5) rfl; have z6 := ob_neI nh6 (a := 6) rfl; have z7 := ob_neI nh7 (a := 7) rfl; have z8 := ob_neI nh8 (a := 8) rfl; have z9 := ob_neI nh9 (a := 9) rfl; omega) rfl ?_
  refine vv_iload_n dX11_count_160 2 rfl rfl 161 rfl ?_
  refine vv_bipush dX11_count_161 11 rfl 163 rfl ?_
  refine vv_bipush dX11_count_163 16 rfl 165 rfl ?_
  refine vv_callS [.int p1, .int 11, .int 16] [] (fun _ _ h => c_X11_within h) cs_X11_count_70 rfl (Nat.le_of_ble_eq_true rfl) 168 rfl dX11_count_165 rfl hf (fun r10 σ11 hf => ?_)
  refine vv_if_eq dX11_count_168 183 171 rfl rfl hf (fun hf => ?_) (fun hf => ?_)
  · refine vv_bipush dX11_count_183 (-9) rfl 185 rfl ?_
    exact vv_ireti rfl dX11_count_185 hf
  · refine vv_aload_n dX11_count_171 1 rfl rfl 172 rfl ?_
    refine vv_getR dX11_count_172 15 gf_X11_count_43 ob_m0 rfl rfl 175 rfl ?_
    refine vv_iload_n dX11_count_175 2 rfl rfl 176 rfl ?_
    refine vv_bipush dX11_count_176 10 rfl 178 rfl ?_
    refine vv_isub dX11_count_178 179 rfl ?_
    refine vv_iald dX11_count_179 ob_m12 rfl 180 rfl hf (fun v_12 hf => ?_)
    refine vv_goto dX11_count_180 185 rfl ?_
    exact vv_ireti rfl dX11_count_185 hf
