theorem dX10_init_0 : decode cX10_init 0 = .ok (.aload_n 0, 1) := by decide +kernel
theorem dX10_init_1 : decode cX10_init 1 = .ok (.invokespecial 1, 3) := by decide +kernel
theorem dX10_init_4 : decode cX10_init 4 = .ok (.aload_n 0, 1) := by decide +kernel
theorem dX10_init_5 : decode cX10_init 5 = .ok (.new 7, 3) := by decide +kernel
theorem dX10_init_8 : decode cX10_init 8 = .ok (.dup, 1) := by decide +kernel
theorem dX10_init_9 : decode cX10_init 9 = .ok (.invokespecial 9, 3) := by decide +kernel
theorem dX10_init_12 : decode cX10_init 12 = .ok (.putfield 10, 3) := by decide +kernel
theorem dX10_init_15 : decode cX10_init 15 = .ok (.aload_n 0, 1) := by decide +kernel
theorem dX10_init_16 : decode cX10_init 16 = .ok (.new 7, 3) := by decide +kernel
theorem dX10_init_19 : decode cX10_init 19 = .ok (.dup, 1) := by decide +kernel
theorem dX10_init_20 : decode cX10_init 20 = .ok (.invokespecial 9, 3) := by decide +kernel
theorem dX10_init_23 : decode cX10_init 23 = .ok (.putfield 16, 3) := by decide +kernel
theorem dX10_init_26 : decode cX10_init 26 = .ok (.aload_n 0, 1) := by decide +kernel
theorem dX10_init_27 : decode cX10_init 27 = .ok (.new 7, 3) := by decide +kernel
theorem dX10_init_30 : decode cX10_init 30 = .ok (.dup, 1) := by decide +kernel
theorem dX10_init_31 : decode cX10_init 31 = .ok (.invokespecial 9, 3) := by decide +kernel
theorem dX10_init_34 : decode cX10_init 34 = .ok (.putfield 19, 3) := by decide +kernel
theorem dX10_init_37 : decode cX10_init 37 = .ok (.aload_n 0, 1) := by decide +kernel
theorem dX10_init_38 : decode cX10_init 38 = .ok (.new 22, 3) := by decide +kernel
theorem dX10_init_41 : decode cX10_init 41 = .ok (.dup, 1) := by decide +kernel
theorem dX10_init_42 : decode cX10_init 42 = .ok (.invokespecial 24, 3) := by decide +kernel
theorem dX10_init_45 : decode cX10_init 45 = .ok (.putfield 25, 3) := by decide +kernel
theorem dX10_init_48 : decode cX10_init 48 = .ok (.aload_n 0, 1) := by decide +kernel
theorem dX10_init_49 : decode cX10_init 49 = .ok (.new 29, 3) := by decide +kernel
theorem dX10_init_52 : decode cX10_init 52 = .ok (.dup, 1) := by decide +kernel
theorem dX10_init_53 : decode cX10_init 53 = .ok (.invokespecial 31, 3) := by decide +kernel
theorem dX10_init_56 : decode cX10_init 56 = .ok (.putfield 32, 3) := by decide +kernel
theorem dX10_init_59 : decode cX10_init 59 = .ok (.aload_n 0, 1) := by decide +kernel
theorem dX10_init_60 : decode cX10_init 60 = .ok (.new 36, 3) := by decide +kernel
theorem dX10_init_63 : decode cX10_init 63 = .ok (.dup, 1) := by decide +kernel
theorem dX10_init_64 : decode cX10_init 64 = .ok (.invokespecial 38, 3) := by decide +kernel
theorem dX10_init_67 : decode cX10_init 67 = .ok (.putfield 39, 3) := by decide +kernel
theorem dX10_init_70 : decode cX10_init 70 = .ok (.aload_n 0, 1) := by decide +kernel
theorem dX10_init_71 : decode cX10_init 71 = .ok (.bipush 6, 2) := by decide +kernel
theorem dX10_init_73 : decode cX10_init 73 = .ok (.newarray .int, 2) := by decide +kernel
theorem dX10_init_75 : decode cX10_init 75 = .ok (.putfield 43, 3) := by decide +kernel
theorem dX10_init_78 : decode cX10_init 78 = .ok (.aload_n 0, 1) := by decide +kernel
theorem dX10_init_79 : decode cX10_init 79 = .ok (.bipush 12, 2) := by decide +kernel
theorem dX10_init_81 : decode cX10_init 81 = .ok (.newarray .int, 2) := by decide +kernel
theorem dX10_init_83 : decode cX10_init 83 = .ok (.putfield 47, 3) := by decide +kernel
theorem dX10_init_86 : decode cX10_init 86 = .ok (.aload_n 0, 1) := by decide +kernel
theorem dX10_init_87 : decode cX10_init 87 = .ok (.bipush 6, 2) := by decide +kernel
theorem dX10_init_89 : decode cX10_init 89 = .ok (.newarray .int, 2) := by decide +kernel
theorem dX10_init_91 : decode cX10_init 91 = .ok (.putfield 50, 3) := by decide +kernel
theorem dX10_init_94 : decode cX10_init 94 = .ok (.return_, 1) := by decide +kernel
theorem dX10_letter_0 : decode cX10_letter 0 = .ok (.iload_n 1, 1) := by decide +kernel
theorem dX10_letter_1 : decode cX10_letter 1 = .ok (.ifCond .ge 10, 3) := by decide +kernel
theorem dX10_letter_4 : decode cX10_letter 4 = .ok (.aload_n 0, 1) := by decide +kernel
theorem dX10_letter_5 : decode cX10_letter 5 = .ok (.bipush (-4), 2) := by decide +kernel
theorem dX10_letter_7 : decode cX10_letter 7 = .ok (.invokevirtual 53, 3) := by decide +kernel
theorem dX10_letter_10 : decode cX10_letter 10 = .ok (.ireturn, 1) := by decide +kernel
theorem dX10_letter_11 : decode cX10_letter 11 = .ok (.iload_n 1, 1) := by decide +kernel
theorem dX10_letter_12 : decode cX10_letter 12 = .ok (.sipush 255, 3) := by decide +kernel
theorem dX10_letter_15 : decode cX10_letter 15 = .ok (.if_icmp .gt 15, 3) := by decide +kernel
theorem dX10_letter_18 : decode cX10_letter 18 = .ok (.aload_n 0, 1) := by decide +kernel
theorem dX10_letter_19 : decode cX10_letter 19 = .ok (.getfield 25, 3) := by decide +kernel
theorem dX10_letter_22 : decode cX10_letter 22 = .ok (.getfield 57, 3) := by decide +kernel
theorem dX10_letter_25 : decode cX10_letter 25 = .ok (.bipush 96, 2) := by decide +kernel
theorem dX10_letter_27 : decode cX10_letter 27 = .ok (.if_icmp .lt 10, 3) := by decide +kernel
theorem dX10_letter_30 : decode cX10_letter 30 = .ok (.aload_n 0, 1) := by decide +kernel
theorem dX10_letter_31 : decode cX10_letter 31 = .ok (.bipush (-6), 2) := by decide +kernel
theorem dX10_letter_33 : decode cX10_letter 33 = .ok (.invokevirtual 53, 3) := by decide +kernel
theorem dX10_letter_36 : decode cX10_letter 36 = .ok (.ireturn, 1) := by decide +kernel
theorem dX10_letter_37 : decode cX10_letter 37 = .ok (.aload_n 0, 1) := by decide +kernel
theorem dX10_letter_38 : decode cX10_letter 38 = .ok (.getfield 25, 3) := by decide +kernel
theorem dX10_letter_41 : decode cX10_letter 41 = .ok (.iload_n 1, 1) := by decide +kernel
theorem dX10_letter_42 : decode cX10_letter 42 = .ok (.invokevirtual 61, 3) := by decide +kernel
theorem dX10_letter_45 : decode cX10_letter 45 = .ok (.ireturn, 1) := by decide +kernel
theorem dX10_kitchen_0 : decode cX10_kitchen 0 = .ok (.aload_n 0, 1) := by decide +kernel
theorem dX10_kitchen_1 : decode cX10_kitchen 1 = .ok (.invokevirtual 64, 3) := by decide +kernel
theorem dX10_kitchen_4 : decode cX10_kitchen 4 = .ok (.istore_n 1, 1) := by decide +kernel
theorem dX10_kitchen_5 : decode cX10_kitchen 5 = .ok (.aload_n 0, 1) := by decide +kernel
theorem dX10_kitchen_6 : decode cX10_kitchen 6 = .ok (.getfield 25, 3) := by decide +kernel
theorem dX10_kitchen_9 : decode cX10_kitchen 9 = .ok (.iconst 0, 1) := by decide +kernel
theorem dX10_kitchen_10 : decode cX10_kitchen 10 = .ok (.putfield 57, 3) := by decide +kernel
theorem dX10_kitchen_13 : decode cX10_kitchen 13 = .ok (.iload_n 1, 1) := by decide +kernel
theorem dX10_kitchen_14 : decode cX10_kitchen 14 = .ok (.ireturn, 1) := by decide +kernel
theorem dX10_dish_0 : decode cX10_dish 0 = .ok (.aload_n 0, 1) := by decide +kernel
theorem dX10_dish_1 : decode cX10_dish 1 = .ok (.getfield 10, 3) := by decide +kernel
theorem dX10_dish_4 : decode cX10_dish 4 = .ok (.iload_n 1, 1) := by decide +kernel
theorem dX10_dish_5 : decode cX10_dish 5 = .ok (.invokevirtual 68, 3) := by decide +kernel
theorem dX10_dish_8 : decode cX10_dish 8 = .ok (.ifCond .ne 9, 3) := by decide +kernel
theorem dX10_dish_11 : decode cX10_dish 11 = .ok (.aload_n 0, 1) := by decide +kernel
theorem dX10_dish_12 : decode cX10_dish 12 = .ok (.iconst (-1), 1) := by decide +kernel
theorem dX10_dish_13 : decode cX10_dish 13 = .ok (.invokevirtual 53, 3) := by decide +kernel
theorem dX10_dish_16 : decode cX10_dish 16 = .ok (.ireturn, 1) := by decide +kernel
theorem dX10_dish_17 : decode cX10_dish 17 = .ok (.iload_n 2, 1) := by decide +kernel
theorem dX10_dish_18 : decode cX10_dish 18 = .ok (.tableswitch 97 0 5 #[38, 48, 58, 68, 78, 88], 38) := by decide +kernel
theorem dX10_dish_56 : decode cX10_dish 56 = .ok (.aload_n 0, 1) := by decide +kernel
theorem dX10_dish_57 : decode cX10_dish 57 = .ok (.getfield 10, 3) := by decide +kernel
theorem dX10_dish_60 : decode cX10_dish 60 = .ok (.getfield 72, 3) := by decide +kernel
theorem dX10_dish_63 : decode cX10_dish 63 = .ok (.iload_n 1, 1) := by decide +kernel
theorem dX10_dish_64 : decode cX10_dish 64 = .ok (.iaload, 1) := by decide +kernel
theorem dX10_dish_65 : decode cX10_dish 65 = .ok (.ireturn, 1) := by decide +kernel
theorem dX10_dish_66 : decode cX10_dish 66 = .ok (.aload_n 0, 1) := by decide +kernel
theorem dX10_dish_67 : decode cX10_dish 67 = .ok (.getfield 10, 3) := by decide +kernel
theorem dX10_dish_70 : decode cX10_dish 70 = .ok (.getfield 75, 3) := by decide +kernel
theorem dX10_dish_73 : decode cX10_dish 73 = .ok (.iload_n 1, 1) := by decide +kernel
theorem dX10_dish_74 : decode cX10_dish 74 = .ok (.iaload, 1) := by decide +kernel
theorem dX10_dish_75 : decode cX10_dish 75 = .ok (.ireturn, 1) := by decide +kernel
theorem dX10_dish_76 : decode cX10_dish 76 = .ok (.aload_n 0, 1) := by decide +kernel
theorem dX10_dish_77 : decode cX10_dish 77 = .ok (.getfield 10, 3) := by decide +kernel
theorem dX10_dish_80 : decode cX10_dish 80 = .ok (.getfield 78, 3) := by decide +kernel
theorem dX10_dish_83 : decode cX10_dish 83 = .ok (.iload_n 1, 1) := by decide +kernel
theorem dX10_dish_84 : decode cX10_dish 84 = .ok (.iaload, 1) := by decide +kernel
theorem dX10_dish_85 : decode cX10_dish 85 = .ok (.ireturn, 1) := by decide +kernel
theorem dX10_dish_86 : decode cX10_dish 86 = .ok (.aload_n 0, 1) := by decide +kernel
theorem dX10_dish_87 : decode cX10_dish 87 = .ok (.getfield 10, 3) := by decide +kernel
theorem dX10_dish_90 : decode cX10_dish 90 = .ok (.getfield 81, 3) := by decide +kernel
theorem dX10_dish_93 : decode cX10_dish 93 = .ok (.iload_n 1, 1) := by decide +kernel
theorem dX10_dish_94 : decode cX10_dish 94 = .ok (.iaload, 1) := by decide +kernel
theorem dX10_dish_95 : decode cX10_dish 95 = .ok (.ireturn, 1) := by decide +kernel
theorem dX10_dish_96 : decode cX10_dish 96 = .ok (.aload_n 0, 1) := by decide +kernel
theorem dX10_dish_97 : decode cX10_dish 97 = .ok (.getfield 10, 3) := by decide +kernel
theorem dX10_dish_100 : decode cX10_dish 100 = .ok (.getfield 84, 3) := by decide +kernel
theorem dX10_dish_103 : decode cX10_dish 103 = .ok (.iload_n 1, 1) := by decide +kernel
theorem dX10_dish_104 : decode cX10_dish 104 = .ok (.iaload, 1) := by decide +kernel
theorem dX10_dish_105 : decode cX10_dish 105 = .ok (.ireturn, 1) := by decide +kernel
theorem dX10_dish_106 : decode cX10_dish 106 = .ok (.aload_n 0, 1) := by decide +kernel
theorem dX10_dish_107 : decode cX10_dish 107 = .ok (.getfield 10, 3) := by decide +kernel
theorem dX10_dish_110 : decode cX10_dish 110 = .ok (.iload_n 1, 1) := by decide +kernel
theorem dX10_dish_111 : decode cX10_dish 111 = .ok (.invokevirtual 87, 3) := by decide +kernel
theorem dX10_dish_114 : decode cX10_dish 114 = .ok (.ireturn, 1) := by decide +kernel
theorem dX10_dish_115 : decode cX10_dish 115 = .ok (.aload_n 0, 1) := by decide +kernel
theorem dX10_dish_116 : decode cX10_dish 116 = .ok (.bipush (-2), 2) := by decide +kernel
theorem dX10_dish_118 : decode cX10_dish 118 = .ok (.invokevirtual 53, 3) := by decide +kernel
theorem dX10_dish_121 : decode cX10_dish 121 = .ok (.ireturn, 1) := by decide +kernel
theorem dX10_place_0 : decode cX10_place 0 = .ok (.aload_n 0, 1) := by decide +kernel
theorem dX10_place_1 : decode cX10_place 1 = .ok (.getfield 10, 3) := by decide +kernel
theorem dX10_place_4 : decode cX10_place 4 = .ok (.iload_n 1, 1) := by decide +kernel
theorem dX10_place_5 : decode cX10_place 5 = .ok (.invokevirtual 68, 3) := by decide +kernel
theorem dX10_place_8 : decode cX10_place 8 = .ok (.ifCond .ne 9, 3) := by decide +kernel
theorem dX10_place_11 : decode cX10_place 11 = .ok (.aload_n 0, 1) := by decide +kernel
theorem dX10_place_12 : decode cX10_place 12 = .ok (.iconst (-1), 1) := by decide +kernel
theorem dX10_place_13 : decode cX10_place 13 = .ok (.invokevirtual 53, 3) := by decide +kernel
theorem dX10_place_16 : decode cX10_place 16 = .ok (.ireturn, 1) := by decide +kernel
theorem dX10_place_17 : decode cX10_place 17 = .ok (.aload_n 0, 1) := by decide +kernel
theorem dX10_place_18 : decode cX10_place 18 = .ok (.getfield 10, 3) := by decide +kernel
theorem dX10_place_21 : decode cX10_place 21 = .ok (.getfield 90, 3) := by decide +kernel
theorem dX10_place_24 : decode cX10_place 24 = .ok (.iload_n 1, 1) := by decide +kernel
theorem dX10_place_25 : decode cX10_place 25 = .ok (.iaload, 1) := by decide +kernel
theorem dX10_place_26 : decode cX10_place 26 = .ok (.ireturn, 1) := by decide +kernel
theorem dX10_change_0 : decode cX10_change 0 = .ok (.aload_n 0, 1) := by decide +kernel
theorem dX10_change_1 : decode cX10_change 1 = .ok (.getfield 10, 3) := by decide +kernel
theorem dX10_change_4 : decode cX10_change 4 = .ok (.iload_n 1, 1) := by decide +kernel
theorem dX10_change_5 : decode cX10_change 5 = .ok (.iload_n 2, 1) := by decide +kernel
theorem dX10_change_6 : decode cX10_change 6 = .ok (.invokevirtual 93, 3) := by decide +kernel
theorem dX10_change_9 : decode cX10_change 9 = .ok (.ifCond .ne 9, 3) := by decide +kernel
theorem dX10_change_12 : decode cX10_change 12 = .ok (.aload_n 0, 1) := by decide +kernel
theorem dX10_change_13 : decode cX10_change 13 = .ok (.iconst (-1), 1) := by decide +kernel
theorem dX10_change_14 : decode cX10_change 14 = .ok (.invokevirtual 53, 3) := by decide +kernel
theorem dX10_change_17 : decode cX10_change 17 = .ok (.ireturn, 1) := by decide +kernel
theorem dX10_change_18 : decode cX10_change 18 = .ok (.aload_n 0, 1) := by decide +kernel
theorem dX10_change_19 : decode cX10_change 19 = .ok (.getfield 10, 3) := by decide +kernel
theorem dX10_change_22 : decode cX10_change 22 = .ok (.iload_n 1, 1) := by decide +kernel
theorem dX10_change_23 : decode cX10_change 23 = .ok (.invokevirtual 87, 3) := by decide +kernel
theorem dX10_change_26 : decode cX10_change 26 = .ok (.ireturn, 1) := by decide +kernel
theorem dX10_heat_0 : decode cX10_heat 0 = .ok (.aload_n 0, 1) := by decide +kernel
theorem dX10_heat_1 : decode cX10_heat 1 = .ok (.getfield 10, 3) := by decide +kernel
theorem dX10_heat_4 : decode cX10_heat 4 = .ok (.iload_n 1, 1) := by decide +kernel
theorem dX10_heat_5 : decode cX10_heat 5 = .ok (.invokevirtual 68, 3) := by decide +kernel
theorem dX10_heat_8 : decode cX10_heat 8 = .ok (.ifCond .ne 9, 3) := by decide +kernel
theorem dX10_heat_11 : decode cX10_heat 11 = .ok (.aload_n 0, 1) := by decide +kernel
theorem dX10_heat_12 : decode cX10_heat 12 = .ok (.iconst (-1), 1) := by decide +kernel
theorem dX10_heat_13 : decode cX10_heat 13 = .ok (.invokevirtual 53, 3) := by decide +kernel
theorem dX10_heat_16 : decode cX10_heat 16 = .ok (.ireturn, 1) := by decide +kernel
theorem dX10_heat_17 : decode cX10_heat 17 = .ok (.iload_n 2, 1) := by decide +kernel
theorem dX10_heat_18 : decode cX10_heat 18 = .ok (.ifCond .ge 10, 3) := by decide +kernel
theorem dX10_heat_21 : decode cX10_heat 21 = .ok (.aload_n 0, 1) := by decide +kernel
theorem dX10_heat_22 : decode cX10_heat 22 = .ok (.bipush (-4), 2) := by decide +kernel
theorem dX10_heat_24 : decode cX10_heat 24 = .ok (.invokevirtual 53, 3) := by decide +kernel
theorem dX10_heat_27 : decode cX10_heat 27 = .ok (.ireturn, 1) := by decide +kernel
theorem dX10_heat_28 : decode cX10_heat 28 = .ok (.iload_n 2, 1) := by decide +kernel
theorem dX10_heat_29 : decode cX10_heat 29 = .ok (.bipush 99, 2) := by decide +kernel
theorem dX10_heat_31 : decode cX10_heat 31 = .ok (.if_icmp .le 10, 3) := by decide +kernel
theorem dX10_heat_34 : decode cX10_heat 34 = .ok (.aload_n 0, 1) := by decide +kernel
theorem dX10_heat_35 : decode cX10_heat 35 = .ok (.bipush (-6), 2) := by decide +kernel
theorem dX10_heat_37 : decode cX10_heat 37 = .ok (.invokevirtual 53, 3) := by decide +kernel
theorem dX10_heat_40 : decode cX10_heat 40 = .ok (.ireturn, 1) := by decide +kernel
theorem dX10_heat_41 : decode cX10_heat 41 = .ok (.aload_n 0, 1) := by decide +kernel
theorem dX10_heat_42 : decode cX10_heat 42 = .ok (.getfield 10, 3) := by decide +kernel
theorem dX10_heat_45 : decode cX10_heat 45 = .ok (.getfield 78, 3) := by decide +kernel
theorem dX10_heat_48 : decode cX10_heat 48 = .ok (.iload_n 1, 1) := by decide +kernel
theorem dX10_heat_49 : decode cX10_heat 49 = .ok (.iaload, 1) := by decide +kernel
theorem dX10_heat_50 : decode cX10_heat 50 = .ok (.istore_n 3, 1) := by decide +kernel
theorem dX10_heat_51 : decode cX10_heat 51 = .ok (.aload_n 0, 1) := by decide +kernel
theorem dX10_heat_52 : decode cX10_heat 52 = .ok (.getfield 10, 3) := by decide +kernel
theorem dX10_heat_55 : decode cX10_heat 55 = .ok (.getfield 78, 3) := by decide +kernel
theorem dX10_heat_58 : decode cX10_heat 58 = .ok (.iload_n 1, 1) := by decide +kernel
theorem dX10_heat_59 : decode cX10_heat 59 = .ok (.iload_n 2, 1) := by decide +kernel
theorem dX10_heat_60 : decode cX10_heat 60 = .ok (.iastore, 1) := by decide +kernel
theorem dX10_heat_61 : decode cX10_heat 61 = .ok (.iload_n 3, 1) := by decide +kernel
theorem dX10_heat_62 : decode cX10_heat 62 = .ok (.ireturn, 1) := by decide +kernel
theorem dX10_begins_0 : decode cX10_begins 0 = .ok (.iload_n 1, 1) := by decide +kernel
theorem dX10_begins_1 : decode cX10_begins 1 = .ok (.invokestatic 97, 3) := by decide +kernel
theorem dX10_begins_4 : decode cX10_begins 4 = .ok (.ifCond .ne 9, 3) := by decide +kernel
theorem dX10_begins_7 : decode cX10_begins 7 = .ok (.aload_n 0, 1) := by decide +kernel
theorem dX10_begins_8 : decode cX10_begins 8 = .ok (.iconst (-1), 1) := by decide +kernel
theorem dX10_begins_9 : decode cX10_begins 9 = .ok (.invokevirtual 53, 3) := by decide +kernel
theorem dX10_begins_12 : decode cX10_begins 12 = .ok (.ireturn, 1) := by decide +kernel
theorem dX10_begins_13 : decode cX10_begins 13 = .ok (.iload_n 2, 1) := by decide +kernel
theorem dX10_begins_14 : decode cX10_begins 14 = .ok (.ifCond .ge 10, 3) := by decide +kernel
theorem dX10_begins_17 : decode cX10_begins 17 = .ok (.aload_n 0, 1) := by decide +kernel
theorem dX10_begins_18 : decode cX10_begins 18 = .ok (.bipush (-4), 2) := by decide +kernel
theorem dX10_begins_20 : decode cX10_begins 20 = .ok (.invokevirtual 53, 3) := by decide +kernel
theorem dX10_begins_23 : decode cX10_begins 23 = .ok (.ireturn, 1) := by decide +kernel
theorem dX10_begins_24 : decode cX10_begins 24 = .ok (.iload_n 2, 1) := by decide +kernel
theorem dX10_begins_25 : decode cX10_begins 25 = .ok (.bipush 99, 2) := by decide +kernel
theorem dX10_begins_27 : decode cX10_begins 27 = .ok (.if_icmp .le 10, 3) := by decide +kernel
theorem dX10_begins_30 : decode cX10_begins 30 = .ok (.aload_n 0, 1) := by decide +kernel
theorem dX10_begins_31 : decode cX10_begins 31 = .ok (.bipush (-6), 2) := by decide +kernel
theorem dX10_begins_33 : decode cX10_begins 33 = .ok (.invokevirtual 53, 3) := by decide +kernel
theorem dX10_begins_36 : decode cX10_begins 36 = .ok (.ireturn, 1) := by decide +kernel
theorem dX10_begins_37 : decode cX10_begins 37 = .ok (.aload_n 0, 1) := by decide +kernel
theorem dX10_begins_38 : decode cX10_begins 38 = .ok (.getfield 10, 3) := by decide +kernel
theorem dX10_begins_41 : decode cX10_begins 41 = .ok (.getfield 100, 3) := by decide +kernel
theorem dX10_begins_44 : decode cX10_begins 44 = .ok (.iload_n 1, 1) := by decide +kernel
theorem dX10_begins_45 : decode cX10_begins 45 = .ok (.iaload, 1) := by decide +kernel
theorem dX10_begins_46 : decode cX10_begins 46 = .ok (.istore_n 3, 1) := by decide +kernel
theorem dX10_begins_47 : decode cX10_begins 47 = .ok (.aload_n 0, 1) := by decide +kernel
theorem dX10_begins_48 : decode cX10_begins 48 = .ok (.getfield 10, 3) := by decide +kernel
theorem dX10_begins_51 : decode cX10_begins 51 = .ok (.getfield 100, 3) := by decide +kernel
theorem dX10_begins_54 : decode cX10_begins 54 = .ok (.iload_n 1, 1) := by decide +kernel
theorem dX10_begins_55 : decode cX10_begins 55 = .ok (.iload_n 2, 1) := by decide +kernel
theorem dX10_begins_56 : decode cX10_begins 56 = .ok (.iastore, 1) := by decide +kernel
theorem dX10_begins_57 : decode cX10_begins 57 = .ok (.iload_n 3, 1) := by decide +kernel
theorem dX10_begins_58 : decode cX10_begins 58 = .ok (.ireturn, 1) := by decide +kernel
theorem dX10_set_0 : decode cX10_set 0 = .ok (.iload_n 1, 1) := by decide +kernel
theorem dX10_set_1 : decode cX10_set 1 = .ok (.ifCond .lt 8, 3) := by decide +kernel
theorem dX10_set_4 : decode cX10_set 4 = .ok (.iload_n 1, 1) := by decide +kernel
theorem dX10_set_5 : decode cX10_set 5 = .ok (.iconst 5, 1) := by decide +kernel
theorem dX10_set_6 : decode cX10_set 6 = .ok (.if_icmp .le 10, 3) := by decide +kernel
theorem dX10_set_9 : decode cX10_set 9 = .ok (.aload_n 0, 1) := by decide +kernel
theorem dX10_set_10 : decode cX10_set 10 = .ok (.bipush (-2), 2) := by decide +kernel
theorem dX10_set_12 : decode cX10_set 12 = .ok (.invokevirtual 53, 3) := by decide +kernel
theorem dX10_set_15 : decode cX10_set 15 = .ok (.ireturn, 1) := by decide +kernel
theorem dX10_set_16 : decode cX10_set 16 = .ok (.iload_n 2, 1) := by decide +kernel
theorem dX10_set_17 : decode cX10_set 17 = .ok (.getstatic 101, 3) := by decide +kernel
theorem dX10_set_20 : decode cX10_set 20 = .ok (.iload_n 1, 1) := by decide +kernel
theorem dX10_set_21 : decode cX10_set 21 = .ok (.iaload, 1) := by decide +kernel
theorem dX10_set_22 : decode cX10_set 22 = .ok (.if_icmp .ge 10, 3) := by decide +kernel
theorem dX10_set_25 : decode cX10_set 25 = .ok (.aload_n 0, 1) := by decide +kernel
theorem dX10_set_26 : decode cX10_set 26 = .ok (.bipush (-4), 2) := by decide +kernel
theorem dX10_set_28 : decode cX10_set 28 = .ok (.invokevirtual 53, 3) := by decide +kernel
theorem dX10_set_31 : decode cX10_set 31 = .ok (.ireturn, 1) := by decide +kernel
theorem dX10_set_32 : decode cX10_set 32 = .ok (.iload_n 2, 1) := by decide +kernel
theorem dX10_set_33 : decode cX10_set 33 = .ok (.getstatic 104, 3) := by decide +kernel
theorem dX10_set_36 : decode cX10_set 36 = .ok (.iload_n 1, 1) := by decide +kernel
theorem dX10_set_37 : decode cX10_set 37 = .ok (.iaload, 1) := by decide +kernel
theorem dX10_set_38 : decode cX10_set 38 = .ok (.if_icmp .le 10, 3) := by decide +kernel
theorem dX10_set_41 : decode cX10_set 41 = .ok (.aload_n 0, 1) := by decide +kernel
theorem dX10_set_42 : decode cX10_set 42 = .ok (.bipush (-6), 2) := by decide +kernel
theorem dX10_set_44 : decode cX10_set 44 = .ok (.invokevirtual 53, 3) := by decide +kernel
theorem dX10_set_47 : decode cX10_set 47 = .ok (.ireturn, 1) := by decide +kernel
theorem dX10_set_48 : decode cX10_set 48 = .ok (.aload_n 0, 1) := by decide +kernel
theorem dX10_set_49 : decode cX10_set 49 = .ok (.getfield 10, 3) := by decide +kernel
theorem dX10_set_52 : decode cX10_set 52 = .ok (.getfield 107, 3) := by decide +kernel
theorem dX10_set_55 : decode cX10_set 55 = .ok (.iload_n 1, 1) := by decide +kernel
theorem dX10_set_56 : decode cX10_set 56 = .ok (.iaload, 1) := by decide +kernel
theorem dX10_set_57 : decode cX10_set 57 = .ok (.istore_n 3, 1) := by decide +kernel
theorem dX10_set_58 : decode cX10_set 58 = .ok (.aload_n 0, 1) := by decide +kernel
theorem dX10_set_59 : decode cX10_set 59 = .ok (.getfield 10, 3) := by decide +kernel
theorem dX10_set_62 : decode cX10_set 62 = .ok (.getfield 107, 3) := by decide +kernel
theorem dX10_set_65 : decode cX10_set 65 = .ok (.iload_n 1, 1) := by decide +kernel
theorem dX10_set_66 : decode cX10_set 66 = .ok (.iload_n 2, 1) := by decide +kernel
theorem dX10_set_67 : decode cX10_set 67 = .ok (.iastore, 1) := by decide +kernel
theorem dX10_set_68 : decode cX10_set 68 = .ok (.iload_n 3, 1) := by decide +kernel
theorem dX10_set_69 : decode cX10_set 69 = .ok (.ireturn, 1) := by decide +kernel
theorem dX10_goes_0 : decode cX10_goes 0 = .ok (.iload_n 1, 1) := by decide +kernel
theorem dX10_goes_1 : decode cX10_goes 1 = .ok (.ifCond .ge 10, 3) := by decide +kernel
theorem dX10_goes_4 : decode cX10_goes 4 = .ok (.aload_n 0, 1) := by decide +kernel
theorem dX10_goes_5 : decode cX10_goes 5 = .ok (.bipush (-4), 2) := by decide +kernel
theorem dX10_goes_7 : decode cX10_goes 7 = .ok (.invokevirtual 53, 3) := by decide +kernel
theorem dX10_goes_10 : decode cX10_goes 10 = .ok (.ireturn, 1) := by decide +kernel
theorem dX10_goes_11 : decode cX10_goes 11 = .ok (.iload_n 1, 1) := by decide +kernel
theorem dX10_goes_12 : decode cX10_goes 12 = .ok (.bipush 99, 2) := by decide +kernel
theorem dX10_goes_14 : decode cX10_goes 14 = .ok (.if_icmp .le 10, 3) := by decide +kernel
theorem dX10_goes_17 : decode cX10_goes 17 = .ok (.aload_n 0, 1) := by decide +kernel
theorem dX10_goes_18 : decode cX10_goes 18 = .ok (.bipush (-6), 2) := by decide +kernel
theorem dX10_goes_20 : decode cX10_goes 20 = .ok (.invokevirtual 53, 3) := by decide +kernel
theorem dX10_goes_23 : decode cX10_goes 23 = .ok (.ireturn, 1) := by decide +kernel
theorem dX10_goes_24 : decode cX10_goes 24 = .ok (.aload_n 0, 1) := by decide +kernel
theorem dX10_goes_25 : decode cX10_goes 25 = .ok (.getfield 10, 3) := by decide +kernel
theorem dX10_goes_28 : decode cX10_goes 28 = .ok (.iload_n 1, 1) := by decide +kernel
theorem dX10_goes_29 : decode cX10_goes 29 = .ok (.invokevirtual 110, 3) := by decide +kernel
theorem dX10_goes_32 : decode cX10_goes 32 = .ok (.ireturn, 1) := by decide +kernel
theorem dX10_total_0 : decode cX10_total 0 = .ok (.iload_n 1, 1) := by decide +kernel
theorem dX10_total_1 : decode cX10_total 1 = .ok (.invokestatic 113, 3) := by decide +kernel
theorem dX10_total_4 : decode cX10_total 4 = .ok (.ifCond .ne 10, 3) := by decide +kernel
theorem dX10_total_7 : decode cX10_total 7 = .ok (.aload_n 0, 1) := by decide +kernel
theorem dX10_total_8 : decode cX10_total 8 = .ok (.bipush (-2), 2) := by decide +kernel
theorem dX10_total_10 : decode cX10_total 10 = .ok (.invokevirtual 116, 3) := by decide +kernel
theorem dX10_total_13 : decode cX10_total 13 = .ok (.ireturn, 1) := by decide +kernel
theorem dX10_total_14 : decode cX10_total 14 = .ok (.aload_n 0, 1) := by decide +kernel
theorem dX10_total_15 : decode cX10_total 15 = .ok (.invokevirtual 119, 3) := by decide +kernel
theorem dX10_total_18 : decode cX10_total 18 = .ok (.aload_n 0, 1) := by decide +kernel
theorem dX10_total_19 : decode cX10_total 19 = .ok (.getfield 32, 3) := by decide +kernel
theorem dX10_total_22 : decode cX10_total 22 = .ok (.getfield 122, 3) := by decide +kernel
theorem dX10_total_25 : decode cX10_total 25 = .ok (.iload_n 1, 1) := by decide +kernel
theorem dX10_total_26 : decode cX10_total 26 = .ok (.iaload, 1) := by decide +kernel
theorem dX10_total_27 : decode cX10_total 27 = .ok (.ireturn, 1) := by decide +kernel
theorem dX10_of_0 : decode cX10_of 0 = .ok (.aload_n 0, 1) := by decide +kernel
theorem dX10_of_1 : decode cX10_of 1 = .ok (.getfield 10, 3) := by decide +kernel
theorem dX10_of_4 : decode cX10_of 4 = .ok (.iload_n 1, 1) := by decide +kernel
theorem dX10_of_5 : decode cX10_of 5 = .ok (.invokevirtual 68, 3) := by decide +kernel
theorem dX10_of_8 : decode cX10_of 8 = .ok (.ifCond .ne 9, 3) := by decide +kernel
theorem dX10_of_11 : decode cX10_of 11 = .ok (.aload_n 0, 1) := by decide +kernel
theorem dX10_of_12 : decode cX10_of 12 = .ok (.iconst (-1), 1) := by decide +kernel
theorem dX10_of_13 : decode cX10_of 13 = .ok (.invokevirtual 53, 3) := by decide +kernel
theorem dX10_of_16 : decode cX10_of 16 = .ok (.ireturn, 1) := by decide +kernel
theorem dX10_of_17 : decode cX10_of 17 = .ok (.aload_n 0, 1) := by decide +kernel
theorem dX10_of_18 : decode cX10_of 18 = .ok (.invokevirtual 119, 3) := by decide +kernel
theorem dX10_of_21 : decode cX10_of 21 = .ok (.iload_n 2, 1) := by decide +kernel
theorem dX10_of_22 : decode cX10_of 22 = .ok (.tableswitch 112 0 6 #[42, 52, 62, 72, 82, 92, 102], 42) := by decide +kernel
theorem dX10_of_64 : decode cX10_of 64 = .ok (.aload_n 0, 1) := by decide +kernel
theorem dX10_of_65 : decode cX10_of 65 = .ok (.getfield 32, 3) := by decide +kernel
theorem dX10_of_68 : decode cX10_of 68 = .ok (.getfield 125, 3) := by decide +kernel
theorem dX10_of_71 : decode cX10_of 71 = .ok (.iload_n 1, 1) := by decide +kernel
theorem dX10_of_72 : decode cX10_of 72 = .ok (.iaload, 1) := by decide +kernel
theorem dX10_of_73 : decode cX10_of 73 = .ok (.ireturn, 1) := by decide +kernel
theorem dX10_of_74 : decode cX10_of 74 = .ok (.aload_n 0, 1) := by decide +kernel
theorem dX10_of_75 : decode cX10_of 75 = .ok (.getfield 32, 3) := by decide +kernel
theorem dX10_of_78 : decode cX10_of 78 = .ok (.getfield 128, 3) := by decide +kernel
theorem dX10_of_81 : decode cX10_of 81 = .ok (.iload_n 1, 1) := by decide +kernel
theorem dX10_of_82 : decode cX10_of 82 = .ok (.iaload, 1) := by decide +kernel
theorem dX10_of_83 : decode cX10_of 83 = .ok (.ireturn, 1) := by decide +kernel
theorem dX10_of_84 : decode cX10_of 84 = .ok (.aload_n 0, 1) := by decide +kernel
theorem dX10_of_85 : decode cX10_of 85 = .ok (.getfield 32, 3) := by decide +kernel
theorem dX10_of_88 : decode cX10_of 88 = .ok (.getfield 131, 3) := by decide +kernel
theorem dX10_of_91 : decode cX10_of 91 = .ok (.iload_n 1, 1) := by decide +kernel
theorem dX10_of_92 : decode cX10_of 92 = .ok (.iaload, 1) := by decide +kernel
theorem dX10_of_93 : decode cX10_of 93 = .ok (.ireturn, 1) := by decide +kernel
theorem dX10_of_94 : decode cX10_of 94 = .ok (.aload_n 0, 1) := by decide +kernel
theorem dX10_of_95 : decode cX10_of 95 = .ok (.getfield 32, 3) := by decide +kernel
theorem dX10_of_98 : decode cX10_of 98 = .ok (.getfield 134, 3) := by decide +kernel
theorem dX10_of_101 : decode cX10_of 101 = .ok (.iload_n 1, 1) := by decide +kernel
theorem dX10_of_102 : decode cX10_of 102 = .ok (.iaload, 1) := by decide +kernel
theorem dX10_of_103 : decode cX10_of 103 = .ok (.ireturn, 1) := by decide +kernel
theorem dX10_of_104 : decode cX10_of 104 = .ok (.aload_n 0, 1) := by decide +kernel
theorem dX10_of_105 : decode cX10_of 105 = .ok (.getfield 32, 3) := by decide +kernel
theorem dX10_of_108 : decode cX10_of 108 = .ok (.getfield 137, 3) := by decide +kernel
theorem dX10_of_111 : decode cX10_of 111 = .ok (.iload_n 1, 1) := by decide +kernel
theorem dX10_of_112 : decode cX10_of 112 = .ok (.iaload, 1) := by decide +kernel
theorem dX10_of_113 : decode cX10_of 113 = .ok (.ireturn, 1) := by decide +kernel
theorem dX10_of_114 : decode cX10_of 114 = .ok (.aload_n 0, 1) := by decide +kernel
theorem dX10_of_115 : decode cX10_of 115 = .ok (.getfield 32, 3) := by decide +kernel
theorem dX10_of_118 : decode cX10_of 118 = .ok (.getfield 140, 3) := by decide +kernel
theorem dX10_of_121 : decode cX10_of 121 = .ok (.iload_n 1, 1) := by decide +kernel
theorem dX10_of_122 : decode cX10_of 122 = .ok (.iaload, 1) := by decide +kernel
theorem dX10_of_123 : decode cX10_of 123 = .ok (.ireturn, 1) := by decide +kernel
theorem dX10_of_124 : decode cX10_of 124 = .ok (.aload_n 0, 1) := by decide +kernel
theorem dX10_of_125 : decode cX10_of 125 = .ok (.getfield 32, 3) := by decide +kernel
theorem dX10_of_128 : decode cX10_of 128 = .ok (.getfield 143, 3) := by decide +kernel
theorem dX10_of_131 : decode cX10_of 131 = .ok (.iload_n 1, 1) := by decide +kernel
theorem dX10_of_132 : decode cX10_of 132 = .ok (.iaload, 1) := by decide +kernel
theorem dX10_of_133 : decode cX10_of 133 = .ok (.ireturn, 1) := by decide +kernel
theorem dX10_of_134 : decode cX10_of 134 = .ok (.aload_n 0, 1) := by decide +kernel
theorem dX10_of_135 : decode cX10_of 135 = .ok (.bipush (-2), 2) := by decide +kernel
theorem dX10_of_137 : decode cX10_of 137 = .ok (.invokevirtual 53, 3) := by decide +kernel
theorem dX10_of_140 : decode cX10_of 140 = .ok (.ireturn, 1) := by decide +kernel
theorem dX10_best_0 : decode cX10_best 0 = .ok (.iload_n 1, 1) := by decide +kernel
theorem dX10_best_1 : decode cX10_best 1 = .ok (.invokestatic 113, 3) := by decide +kernel
theorem dX10_best_4 : decode cX10_best 4 = .ok (.ifCond .ne 10, 3) := by decide +kernel
theorem dX10_best_7 : decode cX10_best 7 = .ok (.aload_n 0, 1) := by decide +kernel
theorem dX10_best_8 : decode cX10_best 8 = .ok (.bipush (-2), 2) := by decide +kernel
theorem dX10_best_10 : decode cX10_best 10 = .ok (.invokevirtual 116, 3) := by decide +kernel
theorem dX10_best_13 : decode cX10_best 13 = .ok (.ireturn, 1) := by decide +kernel
theorem dX10_best_14 : decode cX10_best 14 = .ok (.aload_n 0, 1) := by decide +kernel
theorem dX10_best_15 : decode cX10_best 15 = .ok (.iload_n 1, 1) := by decide +kernel
theorem dX10_best_16 : decode cX10_best 16 = .ok (.invokevirtual 146, 3) := by decide +kernel
theorem dX10_best_19 : decode cX10_best 19 = .ok (.ireturn, 1) := by decide +kernel
theorem dX10_bestAt_0 : decode cX10_bestAt 0 = .ok (.iload_n 1, 1) := by decide +kernel
theorem dX10_bestAt_1 : decode cX10_bestAt 1 = .ok (.invokestatic 113, 3) := by decide +kernel
theorem dX10_bestAt_4 : decode cX10_bestAt 4 = .ok (.ifCond .ne 10, 3) := by decide +kernel
theorem dX10_bestAt_7 : decode cX10_bestAt 7 = .ok (.aload_n 0, 1) := by decide +kernel
theorem dX10_bestAt_8 : decode cX10_bestAt 8 = .ok (.bipush (-2), 2) := by decide +kernel
theorem dX10_bestAt_10 : decode cX10_bestAt 10 = .ok (.invokevirtual 53, 3) := by decide +kernel
theorem dX10_bestAt_13 : decode cX10_bestAt 13 = .ok (.ireturn, 1) := by decide +kernel
theorem dX10_bestAt_14 : decode cX10_bestAt 14 = .ok (.aload_n 0, 1) := by decide +kernel
theorem dX10_bestAt_15 : decode cX10_bestAt 15 = .ok (.getfield 10, 3) := by decide +kernel
theorem dX10_bestAt_18 : decode cX10_bestAt 18 = .ok (.iload_n 2, 1) := by decide +kernel
theorem dX10_bestAt_19 : decode cX10_bestAt 19 = .ok (.invokevirtual 68, 3) := by decide +kernel
theorem dX10_bestAt_22 : decode cX10_bestAt 22 = .ok (.ifCond .ne 9, 3) := by decide +kernel
theorem dX10_bestAt_25 : decode cX10_bestAt 25 = .ok (.aload_n 0, 1) := by decide +kernel
theorem dX10_bestAt_26 : decode cX10_bestAt 26 = .ok (.iconst (-1), 1) := by decide +kernel
theorem dX10_bestAt_27 : decode cX10_bestAt 27 = .ok (.invokevirtual 53, 3) := by decide +kernel
theorem dX10_bestAt_30 : decode cX10_bestAt 30 = .ok (.ireturn, 1) := by decide +kernel
theorem dX10_bestAt_31 : decode cX10_bestAt 31 = .ok (.aload_n 0, 1) := by decide +kernel
theorem dX10_bestAt_32 : decode cX10_bestAt 32 = .ok (.iload_n 1, 1) := by decide +kernel
theorem dX10_bestAt_33 : decode cX10_bestAt 33 = .ok (.invokevirtual 146, 3) := by decide +kernel
theorem dX10_bestAt_36 : decode cX10_bestAt 36 = .ok (.pop, 1) := by decide +kernel
theorem dX10_bestAt_37 : decode cX10_bestAt 37 = .ok (.aload_n 0, 1) := by decide +kernel
theorem dX10_bestAt_38 : decode cX10_bestAt 38 = .ok (.getfield 43, 3) := by decide +kernel
theorem dX10_bestAt_41 : decode cX10_bestAt 41 = .ok (.iload_n 2, 1) := by decide +kernel
theorem dX10_bestAt_42 : decode cX10_bestAt 42 = .ok (.iaload, 1) := by decide +kernel
theorem dX10_bestAt_43 : decode cX10_bestAt 43 = .ok (.ireturn, 1) := by decide +kernel
theorem dX10_bestSet_0 : decode cX10_bestSet 0 = .ok (.iload_n 1, 1) := by decide +kernel
theorem dX10_bestSet_1 : decode cX10_bestSet 1 = .ok (.ifCond .eq 25, 3) := by decide +kernel
theorem dX10_bestSet_4 : decode cX10_bestSet 4 = .ok (.iload_n 1, 1) := by decide +kernel
theorem dX10_bestSet_5 : decode cX10_bestSet 5 = .ok (.iconst 2, 1) := by decide +kernel
theorem dX10_bestSet_6 : decode cX10_bestSet 6 = .ok (.if_icmp .eq 20, 3) := by decide +kernel
theorem dX10_bestSet_9 : decode cX10_bestSet 9 = .ok (.iload_n 1, 1) := by decide +kernel
theorem dX10_bestSet_10 : decode cX10_bestSet 10 = .ok (.iconst 4, 1) := by decide +kernel
theorem dX10_bestSet_11 : decode cX10_bestSet 11 = .ok (.if_icmp .eq 15, 3) := by decide +kernel
theorem dX10_bestSet_14 : decode cX10_bestSet 14 = .ok (.iload_n 1, 1) := by decide +kernel
theorem dX10_bestSet_15 : decode cX10_bestSet 15 = .ok (.iconst 5, 1) := by decide +kernel
theorem dX10_bestSet_16 : decode cX10_bestSet 16 = .ok (.if_icmp .eq 10, 3) := by decide +kernel
theorem dX10_bestSet_19 : decode cX10_bestSet 19 = .ok (.aload_n 0, 1) := by decide +kernel
theorem dX10_bestSet_20 : decode cX10_bestSet 20 = .ok (.bipush (-2), 2) := by decide +kernel
theorem dX10_bestSet_22 : decode cX10_bestSet 22 = .ok (.invokevirtual 53, 3) := by decide +kernel
theorem dX10_bestSet_25 : decode cX10_bestSet 25 = .ok (.ireturn, 1) := by decide +kernel
theorem dX10_bestSet_26 : decode cX10_bestSet 26 = .ok (.iload_n 1, 1) := by decide +kernel
theorem dX10_bestSet_27 : decode cX10_bestSet 27 = .ok (.iconst 5, 1) := by decide +kernel
theorem dX10_bestSet_28 : decode cX10_bestSet 28 = .ok (.if_icmp .ne 8, 3) := by decide +kernel
theorem dX10_bestSet_31 : decode cX10_bestSet 31 = .ok (.bipush 10, 2) := by decide +kernel
theorem dX10_bestSet_33 : decode cX10_bestSet 33 = .ok (.goto 4, 3) := by decide +kernel
theorem dX10_bestSet_36 : decode cX10_bestSet 36 = .ok (.iconst 1, 1) := by decide +kernel
theorem dX10_bestSet_37 : decode cX10_bestSet 37 = .ok (.istore_n 2, 1) := by decide +kernel
theorem dX10_bestSet_38 : decode cX10_bestSet 38 = .ok (.getstatic 101, 3) := by decide +kernel
theorem dX10_bestSet_41 : decode cX10_bestSet 41 = .ok (.iload_n 1, 1) := by decide +kernel
theorem dX10_bestSet_42 : decode cX10_bestSet 42 = .ok (.iaload, 1) := by decide +kernel
theorem dX10_bestSet_43 : decode cX10_bestSet 43 = .ok (.istore_n 3, 1) := by decide +kernel
theorem dX10_bestSet_44 : decode cX10_bestSet 44 = .ok (.aload_n 0, 1) := by decide +kernel
theorem dX10_bestSet_45 : decode cX10_bestSet 45 = .ok (.iload_n 1, 1) := by decide +kernel
theorem dX10_bestSet_46 : decode cX10_bestSet 46 = .ok (.iload_n 3, 1) := by decide +kernel
theorem dX10_bestSet_47 : decode cX10_bestSet 47 = .ok (.invokevirtual 149, 3) := by decide +kernel
theorem dX10_bestSet_50 : decode cX10_bestSet 50 = .ok (.istore 4, 2) := by decide +kernel
theorem dX10_bestSet_52 : decode cX10_bestSet 52 = .ok (.iload_n 3, 1) := by decide +kernel
theorem dX10_bestSet_53 : decode cX10_bestSet 53 = .ok (.iload_n 2, 1) := by decide +kernel
theorem dX10_bestSet_54 : decode cX10_bestSet 54 = .ok (.iadd, 1) := by decide +kernel
theorem dX10_bestSet_55 : decode cX10_bestSet 55 = .ok (.istore 5, 2) := by decide +kernel
theorem dX10_bestSet_57 : decode cX10_bestSet 57 = .ok (.iload 5, 2) := by decide +kernel
theorem dX10_bestSet_59 : decode cX10_bestSet 59 = .ok (.getstatic 104, 3) := by decide +kernel
theorem dX10_bestSet_62 : decode cX10_bestSet 62 = .ok (.iload_n 1, 1) := by decide +kernel
theorem dX10_bestSet_63 : decode cX10_bestSet 63 = .ok (.iaload, 1) := by decide +kernel
theorem dX10_bestSet_64 : decode cX10_bestSet 64 = .ok (.if_icmp .gt 35, 3) := by decide +kernel
theorem dX10_bestSet_67 : decode cX10_bestSet 67 = .ok (.aload_n 0, 1) := by decide +kernel
theorem dX10_bestSet_68 : decode cX10_bestSet 68 = .ok (.iload_n 1, 1) := by decide +kernel
theorem dX10_bestSet_69 : decode cX10_bestSet 69 = .ok (.iload 5, 2) := by decide +kernel
theorem dX10_bestSet_71 : decode cX10_bestSet 71 = .ok (.invokevirtual 149, 3) := by decide +kernel
theorem dX10_bestSet_74 : decode cX10_bestSet 74 = .ok (.istore 6, 2) := by decide +kernel
theorem dX10_bestSet_76 : decode cX10_bestSet 76 = .ok (.iload 6, 2) := by decide +kernel
theorem dX10_bestSet_78 : decode cX10_bestSet 78 = .ok (.iload 4, 2) := by decide +kernel
theorem dX10_bestSet_80 : decode cX10_bestSet 80 = .ok (.if_icmp .le 10, 3) := by decide +kernel
theorem dX10_bestSet_83 : decode cX10_bestSet 83 = .ok (.iload 6, 2) := by decide +kernel
theorem dX10_bestSet_85 : decode cX10_bestSet 85 = .ok (.istore 4, 2) := by decide +kernel
theorem dX10_bestSet_87 : decode cX10_bestSet 87 = .ok (.iload 5, 2) := by decide +kernel
theorem dX10_bestSet_89 : decode cX10_bestSet 89 = .ok (.istore_n 3, 1) := by decide +kernel
theorem dX10_bestSet_90 : decode cX10_bestSet 90 = .ok (.iload 5, 2) := by decide +kernel
theorem dX10_bestSet_92 : decode cX10_bestSet 92 = .ok (.iload_n 2, 1) := by decide +kernel
theorem dX10_bestSet_93 : decode cX10_bestSet 93 = .ok (.iadd, 1) := by decide +kernel
theorem dX10_bestSet_94 : decode cX10_bestSet 94 = .ok (.istore 5, 2) := by decide +kernel
theorem dX10_bestSet_96 : decode cX10_bestSet 96 = .ok (.goto (-39), 3) := by decide +kernel
theorem dX10_bestSet_99 : decode cX10_bestSet 99 = .ok (.iload_n 3, 1) := by decide +kernel
theorem dX10_bestSet_100 : decode cX10_bestSet 100 = .ok (.ireturn, 1) := by decide +kernel
theorem dX10_roomMore_0 : decode cX10_roomMore 0 = .ok (.aload_n 0, 1) := by decide +kernel
theorem dX10_roomMore_1 : decode cX10_roomMore 1 = .ok (.getfield 10, 3) := by decide +kernel
theorem dX10_roomMore_4 : decode cX10_roomMore 4 = .ok (.getfield 107, 3) := by decide +kernel
theorem dX10_roomMore_7 : decode cX10_roomMore 7 = .ok (.iconst 0, 1) := by decide +kernel
theorem dX10_roomMore_8 : decode cX10_roomMore 8 = .ok (.iaload, 1) := by decide +kernel
theorem dX10_roomMore_9 : decode cX10_roomMore 9 = .ok (.getstatic 104, 3) := by decide +kernel
theorem dX10_roomMore_12 : decode cX10_roomMore 12 = .ok (.iconst 0, 1) := by decide +kernel
theorem dX10_roomMore_13 : decode cX10_roomMore 13 = .ok (.iaload, 1) := by decide +kernel
theorem dX10_roomMore_14 : decode cX10_roomMore 14 = .ok (.if_icmp .lt 10, 3) := by decide +kernel
theorem dX10_roomMore_17 : decode cX10_roomMore 17 = .ok (.aload_n 0, 1) := by decide +kernel
theorem dX10_roomMore_18 : decode cX10_roomMore 18 = .ok (.bipush (-3), 2) := by decide +kernel
theorem dX10_roomMore_20 : decode cX10_roomMore 20 = .ok (.invokevirtual 116, 3) := by decide +kernel
theorem dX10_roomMore_23 : decode cX10_roomMore 23 = .ok (.ireturn, 1) := by decide +kernel
theorem dX10_roomMore_24 : decode cX10_roomMore 24 = .ok (.aload_n 0, 1) := by decide +kernel
theorem dX10_roomMore_25 : decode cX10_roomMore 25 = .ok (.iconst 0, 1) := by decide +kernel
theorem dX10_roomMore_26 : decode cX10_roomMore 26 = .ok (.aload_n 0, 1) := by decide +kernel
theorem dX10_roomMore_27 : decode cX10_roomMore 27 = .ok (.getfield 10, 3) := by decide +kernel
theorem dX10_roomMore_30 : decode cX10_roomMore 30 = .ok (.getfield 107, 3) := by decide +kernel
theorem dX10_roomMore_33 : decode cX10_roomMore 33 = .ok (.iconst 0, 1) := by decide +kernel
theorem dX10_roomMore_34 : decode cX10_roomMore 34 = .ok (.iaload, 1) := by decide +kernel
theorem dX10_roomMore_35 : decode cX10_roomMore 35 = .ok (.iconst 1, 1) := by decide +kernel
theorem dX10_roomMore_36 : decode cX10_roomMore 36 = .ok (.iadd, 1) := by decide +kernel
theorem dX10_roomMore_37 : decode cX10_roomMore 37 = .ok (.invokevirtual 149, 3) := by decide +kernel
theorem dX10_roomMore_40 : decode cX10_roomMore 40 = .ok (.aload_n 0, 1) := by decide +kernel
theorem dX10_roomMore_41 : decode cX10_roomMore 41 = .ok (.invokevirtual 153, 3) := by decide +kernel
theorem dX10_roomMore_44 : decode cX10_roomMore 44 = .ok (.isub, 1) := by decide +kernel
theorem dX10_roomMore_45 : decode cX10_roomMore 45 = .ok (.ireturn, 1) := by decide +kernel
theorem dX10_twoPull_0 : decode cX10_twoPull 0 = .ok (.aload_n 0, 1) := by decide +kernel
theorem dX10_twoPull_1 : decode cX10_twoPull 1 = .ok (.iconst 3, 1) := by decide +kernel
theorem dX10_twoPull_2 : decode cX10_twoPull 2 = .ok (.aload_n 0, 1) := by decide +kernel
theorem dX10_twoPull_3 : decode cX10_twoPull 3 = .ok (.getfield 10, 3) := by decide +kernel
theorem dX10_twoPull_6 : decode cX10_twoPull 6 = .ok (.getfield 107, 3) := by decide +kernel
theorem dX10_twoPull_9 : decode cX10_twoPull 9 = .ok (.iconst 3, 1) := by decide +kernel
theorem dX10_twoPull_10 : decode cX10_twoPull 10 = .ok (.iaload, 1) := by decide +kernel
theorem dX10_twoPull_11 : decode cX10_twoPull 11 = .ok (.iconst 1, 1) := by decide +kernel
theorem dX10_twoPull_12 : decode cX10_twoPull 12 = .ok (.iadd, 1) := by decide +kernel
theorem dX10_twoPull_13 : decode cX10_twoPull 13 = .ok (.iconst 2, 1) := by decide +kernel
theorem dX10_twoPull_14 : decode cX10_twoPull 14 = .ok (.idiv, 1) := by decide +kernel
theorem dX10_twoPull_15 : decode cX10_twoPull 15 = .ok (.invokevirtual 149, 3) := by decide +kernel
theorem dX10_twoPull_18 : decode cX10_twoPull 18 = .ok (.aload_n 0, 1) := by decide +kernel
theorem dX10_twoPull_19 : decode cX10_twoPull 19 = .ok (.invokevirtual 153, 3) := by decide +kernel
theorem dX10_twoPull_22 : decode cX10_twoPull 22 = .ok (.isub, 1) := by decide +kernel
theorem dX10_twoPull_23 : decode cX10_twoPull 23 = .ok (.ireturn, 1) := by decide +kernel
theorem dX10_stairs_0 : decode cX10_stairs 0 = .ok (.iload_n 1, 1) := by decide +kernel
theorem dX10_stairs_1 : decode cX10_stairs 1 = .ok (.ifCond .eq 15, 3) := by decide +kernel
theorem dX10_stairs_4 : decode cX10_stairs 4 = .ok (.iload_n 1, 1) := by decide +kernel
theorem dX10_stairs_5 : decode cX10_stairs 5 = .ok (.iconst 1, 1) := by decide +kernel
theorem dX10_stairs_6 : decode cX10_stairs 6 = .ok (.if_icmp .eq 10, 3) := by decide +kernel
theorem dX10_stairs_9 : decode cX10_stairs 9 = .ok (.aload_n 0, 1) := by decide +kernel
theorem dX10_stairs_10 : decode cX10_stairs 10 = .ok (.bipush (-2), 2) := by decide +kernel
theorem dX10_stairs_12 : decode cX10_stairs 12 = .ok (.invokevirtual 116, 3) := by decide +kernel
theorem dX10_stairs_15 : decode cX10_stairs 15 = .ok (.ireturn, 1) := by decide +kernel
theorem dX10_stairs_16 : decode cX10_stairs 16 = .ok (.aload_n 0, 1) := by decide +kernel
theorem dX10_stairs_17 : decode cX10_stairs 17 = .ok (.invokevirtual 153, 3) := by decide +kernel
theorem dX10_stairs_20 : decode cX10_stairs 20 = .ok (.istore_n 2, 1) := by decide +kernel
theorem dX10_stairs_21 : decode cX10_stairs 21 = .ok (.iload_n 2, 1) := by decide +kernel
theorem dX10_stairs_22 : decode cX10_stairs 22 = .ok (.istore_n 3, 1) := by decide +kernel
theorem dX10_stairs_23 : decode cX10_stairs 23 = .ok (.bipush (-9), 2) := by decide +kernel
theorem dX10_stairs_25 : decode cX10_stairs 25 = .ok (.istore 4, 2) := by decide +kernel
theorem dX10_stairs_27 : decode cX10_stairs 27 = .ok (.iconst 0, 1) := by decide +kernel
theorem dX10_stairs_28 : decode cX10_stairs 28 = .ok (.istore 5, 2) := by decide +kernel
theorem dX10_stairs_30 : decode cX10_stairs 30 = .ok (.iload 5, 2) := by decide +kernel
theorem dX10_stairs_32 : decode cX10_stairs 32 = .ok (.aload_n 0, 1) := by decide +kernel
theorem dX10_stairs_33 : decode cX10_stairs 33 = .ok (.getfield 10, 3) := by decide +kernel
theorem dX10_stairs_36 : decode cX10_stairs 36 = .ok (.getfield 156, 3) := by decide +kernel
theorem dX10_stairs_39 : decode cX10_stairs 39 = .ok (.if_icmp .ge 58, 3) := by decide +kernel
theorem dX10_stairs_42 : decode cX10_stairs 42 = .ok (.aload_n 0, 1) := by decide +kernel
theorem dX10_stairs_43 : decode cX10_stairs 43 = .ok (.getfield 32, 3) := by decide +kernel
theorem dX10_stairs_46 : decode cX10_stairs 46 = .ok (.aload_n 0, 1) := by decide +kernel
theorem dX10_stairs_47 : decode cX10_stairs 47 = .ok (.getfield 10, 3) := by decide +kernel
theorem dX10_stairs_50 : decode cX10_stairs 50 = .ok (.aload_n 0, 1) := by decide +kernel
theorem dX10_stairs_51 : decode cX10_stairs 51 = .ok (.getfield 10, 3) := by decide +kernel
theorem dX10_stairs_54 : decode cX10_stairs 54 = .ok (.getfield 90, 3) := by decide +kernel
theorem dX10_stairs_57 : decode cX10_stairs 57 = .ok (.iload 5, 2) := by decide +kernel
theorem dX10_stairs_59 : decode cX10_stairs 59 = .ok (.invokevirtual 159, 3) := by decide +kernel
theorem dX10_stairs_62 : decode cX10_stairs 62 = .ok (.aload_n 0, 1) := by decide +kernel
theorem dX10_stairs_63 : decode cX10_stairs 63 = .ok (.getfield 32, 3) := by decide +kernel
theorem dX10_stairs_66 : decode cX10_stairs 66 = .ok (.getfield 122, 3) := by decide +kernel
theorem dX10_stairs_69 : decode cX10_stairs 69 = .ok (.bipush 7, 2) := by decide +kernel
theorem dX10_stairs_71 : decode cX10_stairs 71 = .ok (.iaload, 1) := by decide +kernel
theorem dX10_stairs_72 : decode cX10_stairs 72 = .ok (.iload_n 3, 1) := by decide +kernel
theorem dX10_stairs_73 : decode cX10_stairs 73 = .ok (.if_icmp .le 18, 3) := by decide +kernel
theorem dX10_stairs_76 : decode cX10_stairs 76 = .ok (.aload_n 0, 1) := by decide +kernel
theorem dX10_stairs_77 : decode cX10_stairs 77 = .ok (.getfield 32, 3) := by decide +kernel
theorem dX10_stairs_80 : decode cX10_stairs 80 = .ok (.getfield 122, 3) := by decide +kernel
theorem dX10_stairs_83 : decode cX10_stairs 83 = .ok (.bipush 7, 2) := by decide +kernel
theorem dX10_stairs_85 : decode cX10_stairs 85 = .ok (.iaload, 1) := by decide +kernel
theorem dX10_stairs_86 : decode cX10_stairs 86 = .ok (.istore_n 3, 1) := by decide +kernel
theorem dX10_stairs_87 : decode cX10_stairs 87 = .ok (.iload 5, 2) := by decide +kernel
theorem dX10_stairs_89 : decode cX10_stairs 89 = .ok (.istore 4, 2) := by decide +kernel
theorem dX10_stairs_91 : decode cX10_stairs 91 = .ok (.iinc 5 1, 3) := by decide +kernel
theorem dX10_stairs_94 : decode cX10_stairs 94 = .ok (.goto (-64), 3) := by decide +kernel
theorem dX10_stairs_97 : decode cX10_stairs 97 = .ok (.iload_n 1, 1) := by decide +kernel
theorem dX10_stairs_98 : decode cX10_stairs 98 = .ok (.ifCond .ne 8, 3) := by decide +kernel
theorem dX10_stairs_101 : decode cX10_stairs 101 = .ok (.iload 4, 2) := by decide +kernel
theorem dX10_stairs_103 : decode cX10_stairs 103 = .ok (.goto 6, 3) := by decide +kernel
theorem dX10_stairs_106 : decode cX10_stairs 106 = .ok (.iload_n 3, 1) := by decide +kernel
theorem dX10_stairs_107 : decode cX10_stairs 107 = .ok (.iload_n 2, 1) := by decide +kernel
theorem dX10_stairs_108 : decode cX10_stairs 108 = .ok (.isub, 1) := by decide +kernel
theorem dX10_stairs_109 : decode cX10_stairs 109 = .ok (.ireturn, 1) := by decide +kernel
theorem dX10_forgotten_0 : decode cX10_forgotten 0 = .ok (.aload_n 0, 1) := by decide +kernel
theorem dX10_forgotten_1 : decode cX10_forgotten 1 = .ok (.getfield 10, 3) := by decide +kernel
theorem dX10_forgotten_4 : decode cX10_forgotten 4 = .ok (.iload_n 1, 1) := by decide +kernel
theorem dX10_forgotten_5 : decode cX10_forgotten 5 = .ok (.invokevirtual 68, 3) := by decide +kernel
theorem dX10_forgotten_8 : decode cX10_forgotten 8 = .ok (.ifCond .ne 9, 3) := by decide +kernel
theorem dX10_forgotten_11 : decode cX10_forgotten 11 = .ok (.aload_n 0, 1) := by decide +kernel
theorem dX10_forgotten_12 : decode cX10_forgotten 12 = .ok (.iconst (-1), 1) := by decide +kernel
theorem dX10_forgotten_13 : decode cX10_forgotten 13 = .ok (.invokevirtual 116, 3) := by decide +kernel
theorem dX10_forgotten_16 : decode cX10_forgotten 16 = .ok (.ireturn, 1) := by decide +kernel
theorem dX10_forgotten_17 : decode cX10_forgotten 17 = .ok (.aload_n 0, 1) := by decide +kernel
theorem dX10_forgotten_18 : decode cX10_forgotten 18 = .ok (.invokevirtual 153, 3) := by decide +kernel
theorem dX10_forgotten_21 : decode cX10_forgotten 21 = .ok (.istore_n 2, 1) := by decide +kernel
theorem dX10_forgotten_22 : decode cX10_forgotten 22 = .ok (.iconst 0, 1) := by decide +kernel
theorem dX10_forgotten_23 : decode cX10_forgotten 23 = .ok (.istore_n 3, 1) := by decide +kernel
theorem dX10_forgotten_24 : decode cX10_forgotten 24 = .ok (.iconst 0, 1) := by decide +kernel
theorem dX10_forgotten_25 : decode cX10_forgotten 25 = .ok (.istore 4, 2) := by decide +kernel
theorem dX10_forgotten_27 : decode cX10_forgotten 27 = .ok (.iload 4, 2) := by decide +kernel
theorem dX10_forgotten_29 : decode cX10_forgotten 29 = .ok (.aload_n 0, 1) := by decide +kernel
theorem dX10_forgotten_30 : decode cX10_forgotten 30 = .ok (.getfield 10, 3) := by decide +kernel
theorem dX10_forgotten_33 : decode cX10_forgotten 33 = .ok (.getfield 156, 3) := by decide +kernel
theorem dX10_forgotten_36 : decode cX10_forgotten 36 = .ok (.if_icmp .ge 42, 3) := by decide +kernel
theorem dX10_forgotten_39 : decode cX10_forgotten 39 = .ok (.aload_n 0, 1) := by decide +kernel
theorem dX10_forgotten_40 : decode cX10_forgotten 40 = .ok (.getfield 10, 3) := by decide +kernel
theorem dX10_forgotten_43 : decode cX10_forgotten 43 = .ok (.getfield 90, 3) := by decide +kernel
theorem dX10_forgotten_46 : decode cX10_forgotten 46 = .ok (.iload 4, 2) := by decide +kernel
theorem dX10_forgotten_48 : decode cX10_forgotten 48 = .ok (.iaload, 1) := by decide +kernel
theorem dX10_forgotten_49 : decode cX10_forgotten 49 = .ok (.iload_n 1, 1) := by decide +kernel
theorem dX10_forgotten_50 : decode cX10_forgotten 50 = .ok (.if_icmp .eq 22, 3) := by decide +kernel
theorem dX10_forgotten_53 : decode cX10_forgotten 53 = .ok (.aload_n 0, 1) := by decide +kernel
theorem dX10_forgotten_54 : decode cX10_forgotten 54 = .ok (.getfield 43, 3) := by decide +kernel
theorem dX10_forgotten_57 : decode cX10_forgotten 57 = .ok (.iload_n 3, 1) := by decide +kernel
theorem dX10_forgotten_58 : decode cX10_forgotten 58 = .ok (.aload_n 0, 1) := by decide +kernel
theorem dX10_forgotten_59 : decode cX10_forgotten 59 = .ok (.getfield 10, 3) := by decide +kernel
theorem dX10_forgotten_62 : decode cX10_forgotten 62 = .ok (.getfield 90, 3) := by decide +kernel
theorem dX10_forgotten_65 : decode cX10_forgotten 65 = .ok (.iload 4, 2) := by decide +kernel
theorem dX10_forgotten_67 : decode cX10_forgotten 67 = .ok (.iaload, 1) := by decide +kernel
theorem dX10_forgotten_68 : decode cX10_forgotten 68 = .ok (.iastore, 1) := by decide +kernel
theorem dX10_forgotten_69 : decode cX10_forgotten 69 = .ok (.iinc 3 1, 3) := by decide +kernel
theorem dX10_forgotten_72 : decode cX10_forgotten 72 = .ok (.iinc 4 1, 3) := by decide +kernel
theorem dX10_forgotten_75 : decode cX10_forgotten 75 = .ok (.goto (-48), 3) := by decide +kernel
theorem dX10_forgotten_78 : decode cX10_forgotten 78 = .ok (.aload_n 0, 1) := by decide +kernel
theorem dX10_forgotten_79 : decode cX10_forgotten 79 = .ok (.getfield 43, 3) := by decide +kernel
theorem dX10_forgotten_82 : decode cX10_forgotten 82 = .ok (.iload_n 3, 1) := by decide +kernel
theorem dX10_forgotten_83 : decode cX10_forgotten 83 = .ok (.iload_n 1, 1) := by decide +kernel
theorem dX10_forgotten_84 : decode cX10_forgotten 84 = .ok (.iastore, 1) := by decide +kernel
theorem dX10_forgotten_85 : decode cX10_forgotten 85 = .ok (.aload_n 0, 1) := by decide +kernel
theorem dX10_forgotten_86 : decode cX10_forgotten 86 = .ok (.getfield 32, 3) := by decide +kernel
theorem dX10_forgotten_89 : decode cX10_forgotten 89 = .ok (.aload_n 0, 1) := by decide +kernel
theorem dX10_forgotten_90 : decode cX10_forgotten 90 = .ok (.getfield 10, 3) := by decide +kernel
theorem dX10_forgotten_93 : decode cX10_forgotten 93 = .ok (.aload_n 0, 1) := by decide +kernel
theorem dX10_forgotten_94 : decode cX10_forgotten 94 = .ok (.getfield 43, 3) := by decide +kernel
theorem dX10_forgotten_97 : decode cX10_forgotten 97 = .ok (.iconst (-1), 1) := by decide +kernel
theorem dX10_forgotten_98 : decode cX10_forgotten 98 = .ok (.invokevirtual 159, 3) := by decide +kernel
theorem dX10_forgotten_101 : decode cX10_forgotten 101 = .ok (.iload_n 2, 1) := by decide +kernel
theorem dX10_forgotten_102 : decode cX10_forgotten 102 = .ok (.aload_n 0, 1) := by decide +kernel
theorem dX10_forgotten_103 : decode cX10_forgotten 103 = .ok (.getfield 32, 3) := by decide +kernel
theorem dX10_forgotten_106 : decode cX10_forgotten 106 = .ok (.getfield 122, 3) := by decide +kernel
theorem dX10_forgotten_109 : decode cX10_forgotten 109 = .ok (.bipush 7, 2) := by decide +kernel
theorem dX10_forgotten_111 : decode cX10_forgotten 111 = .ok (.iaload, 1) := by decide +kernel
theorem dX10_forgotten_112 : decode cX10_forgotten 112 = .ok (.isub, 1) := by decide +kernel
theorem dX10_forgotten_113 : decode cX10_forgotten 113 = .ok (.ireturn, 1) := by decide +kernel
theorem dX10_halved_0 : decode cX10_halved 0 = .ok (.iload_n 1, 1) := by decide +kernel
theorem dX10_halved_1 : decode cX10_halved 1 = .ok (.iconst (-1), 1) := by decide +kernel
theorem dX10_halved_2 : decode cX10_halved 2 = .ok (.if_icmp .ge 10, 3) := by decide +kernel
theorem dX10_halved_5 : decode cX10_halved 5 = .ok (.aload_n 0, 1) := by decide +kernel
theorem dX10_halved_6 : decode cX10_halved 6 = .ok (.bipush (-4), 2) := by decide +kernel
theorem dX10_halved_8 : decode cX10_halved 8 = .ok (.invokevirtual 53, 3) := by decide +kernel
theorem dX10_halved_11 : decode cX10_halved 11 = .ok (.ireturn, 1) := by decide +kernel
theorem dX10_halved_12 : decode cX10_halved 12 = .ok (.iload_n 1, 1) := by decide +kernel
theorem dX10_halved_13 : decode cX10_halved 13 = .ok (.iconst 5, 1) := by decide +kernel
theorem dX10_halved_14 : decode cX10_halved 14 = .ok (.if_icmp .lt 9, 3) := by decide +kernel
theorem dX10_halved_17 : decode cX10_halved 17 = .ok (.aload_n 0, 1) := by decide +kernel
theorem dX10_halved_18 : decode cX10_halved 18 = .ok (.iconst (-1), 1) := by decide +kernel
theorem dX10_halved_19 : decode cX10_halved 19 = .ok (.invokevirtual 53, 3) := by decide +kernel
theorem dX10_halved_22 : decode cX10_halved 22 = .ok (.ireturn, 1) := by decide +kernel
theorem dX10_halved_23 : decode cX10_halved 23 = .ok (.aload_n 0, 1) := by decide +kernel
theorem dX10_halved_24 : decode cX10_halved 24 = .ok (.invokevirtual 119, 3) := by decide +kernel
theorem dX10_halved_27 : decode cX10_halved 27 = .ok (.iload_n 1, 1) := by decide +kernel
theorem dX10_halved_28 : decode cX10_halved 28 = .ok (.ifCond .lt 24, 3) := by decide +kernel
theorem dX10_halved_31 : decode cX10_halved 31 = .ok (.aload_n 0, 1) := by decide +kernel
theorem dX10_halved_32 : decode cX10_halved 32 = .ok (.getfield 32, 3) := by decide +kernel
theorem dX10_halved_35 : decode cX10_halved 35 = .ok (.aload_n 0, 1) := by decide +kernel
theorem dX10_halved_36 : decode cX10_halved 36 = .ok (.getfield 10, 3) := by decide +kernel
theorem dX10_halved_39 : decode cX10_halved 39 = .ok (.iload_n 1, 1) := by decide +kernel
theorem dX10_halved_40 : decode cX10_halved 40 = .ok (.invokevirtual 163, 3) := by decide +kernel
theorem dX10_halved_43 : decode cX10_halved 43 = .ok (.ifCond .eq 7, 3) := by decide +kernel
theorem dX10_halved_46 : decode cX10_halved 46 = .ok (.iconst 1, 1) := by decide +kernel
theorem dX10_halved_47 : decode cX10_halved 47 = .ok (.goto 4, 3) := by decide +kernel
theorem dX10_halved_50 : decode cX10_halved 50 = .ok (.iconst 0, 1) := by decide +kernel
theorem dX10_halved_51 : decode cX10_halved 51 = .ok (.ireturn, 1) := by decide +kernel
theorem dX10_halved_52 : decode cX10_halved 52 = .ok (.iconst 0, 1) := by decide +kernel
theorem dX10_halved_53 : decode cX10_halved 53 = .ok (.istore_n 2, 1) := by decide +kernel
theorem dX10_halved_54 : decode cX10_halved 54 = .ok (.iconst 0, 1) := by decide +kernel
theorem dX10_halved_55 : decode cX10_halved 55 = .ok (.istore_n 3, 1) := by decide +kernel
theorem dX10_halved_56 : decode cX10_halved 56 = .ok (.iload_n 3, 1) := by decide +kernel
theorem dX10_halved_57 : decode cX10_halved 57 = .ok (.iconst 5, 1) := by decide +kernel
theorem dX10_halved_58 : decode cX10_halved 58 = .ok (.if_icmp .ge 27, 3) := by decide +kernel
theorem dX10_halved_61 : decode cX10_halved 61 = .ok (.aload_n 0, 1) := by decide +kernel
theorem dX10_halved_62 : decode cX10_halved 62 = .ok (.getfield 32, 3) := by decide +kernel
theorem dX10_halved_65 : decode cX10_halved 65 = .ok (.aload_n 0, 1) := by decide +kernel
theorem dX10_halved_66 : decode cX10_halved 66 = .ok (.getfield 10, 3) := by decide +kernel
theorem dX10_halved_69 : decode cX10_halved 69 = .ok (.iload_n 3, 1) := by decide +kernel
theorem dX10_halved_70 : decode cX10_halved 70 = .ok (.invokevirtual 163, 3) := by decide +kernel
theorem dX10_halved_73 : decode cX10_halved 73 = .ok (.ifCond .eq 6, 3) := by decide +kernel
theorem dX10_halved_76 : decode cX10_halved 76 = .ok (.iinc 2 1, 3) := by decide +kernel
theorem dX10_halved_79 : decode cX10_halved 79 = .ok (.iinc 3 1, 3) := by decide +kernel
theorem dX10_halved_82 : decode cX10_halved 82 = .ok (.goto (-26), 3) := by decide +kernel
theorem dX10_halved_85 : decode cX10_halved 85 = .ok (.iload_n 2, 1) := by decide +kernel
theorem dX10_halved_86 : decode cX10_halved 86 = .ok (.ireturn, 1) := by decide +kernel
theorem dX10_heard_0 : decode cX10_heard 0 = .ok (.iload_n 1, 1) := by decide +kernel
theorem dX10_heard_1 : decode cX10_heard 1 = .ok (.ifCond .ge 10, 3) := by decide +kernel
theorem dX10_heard_4 : decode cX10_heard 4 = .ok (.aload_n 0, 1) := by decide +kernel
theorem dX10_heard_5 : decode cX10_heard 5 = .ok (.bipush (-4), 2) := by decide +kernel
theorem dX10_heard_7 : decode cX10_heard 7 = .ok (.invokevirtual 53, 3) := by decide +kernel
theorem dX10_heard_10 : decode cX10_heard 10 = .ok (.ireturn, 1) := by decide +kernel
theorem dX10_heard_11 : decode cX10_heard 11 = .ok (.iload_n 1, 1) := by decide +kernel
theorem dX10_heard_12 : decode cX10_heard 12 = .ok (.sipush 999, 3) := by decide +kernel
theorem dX10_heard_15 : decode cX10_heard 15 = .ok (.if_icmp .le 10, 3) := by decide +kernel
theorem dX10_heard_18 : decode cX10_heard 18 = .ok (.aload_n 0, 1) := by decide +kernel
theorem dX10_heard_19 : decode cX10_heard 19 = .ok (.bipush (-6), 2) := by decide +kernel
theorem dX10_heard_21 : decode cX10_heard 21 = .ok (.invokevirtual 53, 3) := by decide +kernel
theorem dX10_heard_24 : decode cX10_heard 24 = .ok (.ireturn, 1) := by decide +kernel
theorem dX10_heard_25 : decode cX10_heard 25 = .ok (.iconst 4, 1) := by decide +kernel
theorem dX10_heard_26 : decode cX10_heard 26 = .ok (.istore_n 2, 1) := by decide +kernel
theorem dX10_heard_27 : decode cX10_heard 27 = .ok (.iload_n 2, 1) := by decide +kernel
theorem dX10_heard_28 : decode cX10_heard 28 = .ok (.ifCond .lt 23, 3) := by decide +kernel
theorem dX10_heard_31 : decode cX10_heard 31 = .ok (.aload_n 0, 1) := by decide +kernel
theorem dX10_heard_32 : decode cX10_heard 32 = .ok (.getfield 10, 3) := by decide +kernel
theorem dX10_heard_35 : decode cX10_heard 35 = .ok (.iload_n 2, 1) := by decide +kernel
theorem dX10_heard_36 : decode cX10_heard 36 = .ok (.invokevirtual 167, 3) := by decide +kernel
theorem dX10_heard_39 : decode cX10_heard 39 = .ok (.iload_n 1, 1) := by decide +kernel
theorem dX10_heard_40 : decode cX10_heard 40 = .ok (.if_icmp .gt 5, 3) := by decide +kernel
theorem dX10_heard_43 : decode cX10_heard 43 = .ok (.iload_n 2, 1) := by decide +kernel
theorem dX10_heard_44 : decode cX10_heard 44 = .ok (.ireturn, 1) := by decide +kernel
theorem dX10_heard_45 : decode cX10_heard 45 = .ok (.iinc 2 (-1), 3) := by decide +kernel
theorem dX10_heard_48 : decode cX10_heard 48 = .ok (.goto (-21), 3) := by decide +kernel
theorem dX10_heard_51 : decode cX10_heard 51 = .ok (.bipush (-9), 2) := by decide +kernel
theorem dX10_heard_53 : decode cX10_heard 53 = .ok (.ireturn, 1) := by decide +kernel
theorem dX10_waits_0 : decode cX10_waits 0 = .ok (.iload_n 1, 1) := by decide +kernel
theorem dX10_waits_1 : decode cX10_waits 1 = .ok (.ifCond .ge 10, 3) := by decide +kernel
theorem dX10_waits_4 : decode cX10_waits 4 = .ok (.aload_n 0, 1) := by decide +kernel
theorem dX10_waits_5 : decode cX10_waits 5 = .ok (.bipush (-4), 2) := by decide +kernel
theorem dX10_waits_7 : decode cX10_waits 7 = .ok (.invokevirtual 53, 3) := by decide +kernel
theorem dX10_waits_10 : decode cX10_waits 10 = .ok (.ireturn, 1) := by decide +kernel
theorem dX10_waits_11 : decode cX10_waits 11 = .ok (.iload_n 1, 1) := by decide +kernel
theorem dX10_waits_12 : decode cX10_waits 12 = .ok (.sipush 999, 3) := by decide +kernel
theorem dX10_waits_15 : decode cX10_waits 15 = .ok (.if_icmp .le 10, 3) := by decide +kernel
theorem dX10_waits_18 : decode cX10_waits 18 = .ok (.aload_n 0, 1) := by decide +kernel
theorem dX10_waits_19 : decode cX10_waits 19 = .ok (.bipush (-6), 2) := by decide +kernel
theorem dX10_waits_21 : decode cX10_waits 21 = .ok (.invokevirtual 53, 3) := by decide +kernel
theorem dX10_waits_24 : decode cX10_waits 24 = .ok (.ireturn, 1) := by decide +kernel
theorem dX10_waits_25 : decode cX10_waits 25 = .ok (.aload_n 0, 1) := by decide +kernel
theorem dX10_waits_26 : decode cX10_waits 26 = .ok (.invokevirtual 119, 3) := by decide +kernel
theorem dX10_waits_29 : decode cX10_waits 29 = .ok (.iconst 0, 1) := by decide +kernel
theorem dX10_waits_30 : decode cX10_waits 30 = .ok (.istore_n 2, 1) := by decide +kernel
theorem dX10_waits_31 : decode cX10_waits 31 = .ok (.iconst 0, 1) := by decide +kernel
theorem dX10_waits_32 : decode cX10_waits 32 = .ok (.istore_n 3, 1) := by decide +kernel
theorem dX10_waits_33 : decode cX10_waits 33 = .ok (.iload_n 3, 1) := by decide +kernel
theorem dX10_waits_34 : decode cX10_waits 34 = .ok (.aload_n 0, 1) := by decide +kernel
theorem dX10_waits_35 : decode cX10_waits 35 = .ok (.getfield 10, 3) := by decide +kernel
theorem dX10_waits_38 : decode cX10_waits 38 = .ok (.getfield 156, 3) := by decide +kernel
theorem dX10_waits_41 : decode cX10_waits 41 = .ok (.if_icmp .ge 48, 3) := by decide +kernel
theorem dX10_waits_44 : decode cX10_waits 44 = .ok (.aload_n 0, 1) := by decide +kernel
theorem dX10_waits_45 : decode cX10_waits 45 = .ok (.getfield 32, 3) := by decide +kernel
theorem dX10_waits_48 : decode cX10_waits 48 = .ok (.getfield 125, 3) := by decide +kernel
theorem dX10_waits_51 : decode cX10_waits 51 = .ok (.iload_n 3, 1) := by decide +kernel
theorem dX10_waits_52 : decode cX10_waits 52 = .ok (.iaload, 1) := by decide +kernel
theorem dX10_waits_53 : decode cX10_waits 53 = .ok (.iload_n 1, 1) := by decide +kernel
theorem dX10_waits_54 : decode cX10_waits 54 = .ok (.if_icmp .le 29, 3) := by decide +kernel
theorem dX10_waits_57 : decode cX10_waits 57 = .ok (.aload_n 0, 1) := by decide +kernel
theorem dX10_waits_58 : decode cX10_waits 58 = .ok (.getfield 10, 3) := by decide +kernel
theorem dX10_waits_61 : decode cX10_waits 61 = .ok (.aload_n 0, 1) := by decide +kernel
theorem dX10_waits_62 : decode cX10_waits 62 = .ok (.getfield 10, 3) := by decide +kernel
theorem dX10_waits_65 : decode cX10_waits 65 = .ok (.getfield 84, 3) := by decide +kernel
theorem dX10_waits_68 : decode cX10_waits 68 = .ok (.iload_n 3, 1) := by decide +kernel
theorem dX10_waits_69 : decode cX10_waits 69 = .ok (.iaload, 1) := by decide +kernel
theorem dX10_waits_70 : decode cX10_waits 70 = .ok (.invokevirtual 167, 3) := by decide +kernel
theorem dX10_waits_73 : decode cX10_waits 73 = .ok (.iload_n 1, 1) := by decide +kernel
theorem dX10_waits_74 : decode cX10_waits 74 = .ok (.if_icmp .gt 9, 3) := by decide +kernel
theorem dX10_waits_77 : decode cX10_waits 77 = .ok (.iload_n 2, 1) := by decide +kernel
theorem dX10_waits_78 : decode cX10_waits 78 = .ok (.iconst 1, 1) := by decide +kernel
theorem dX10_waits_79 : decode cX10_waits 79 = .ok (.iload_n 3, 1) := by decide +kernel
theorem dX10_waits_80 : decode cX10_waits 80 = .ok (.ishl, 1) := by decide +kernel
theorem dX10_waits_81 : decode cX10_waits 81 = .ok (.ior, 1) := by decide +kernel
theorem dX10_waits_82 : decode cX10_waits 82 = .ok (.istore_n 2, 1) := by decide +kernel
theorem dX10_waits_83 : decode cX10_waits 83 = .ok (.iinc 3 1, 3) := by decide +kernel
theorem dX10_waits_86 : decode cX10_waits 86 = .ok (.goto (-53), 3) := by decide +kernel
theorem dX10_waits_89 : decode cX10_waits 89 = .ok (.iload_n 2, 1) := by decide +kernel
theorem dX10_waits_90 : decode cX10_waits 90 = .ok (.ireturn, 1) := by decide +kernel
theorem dX10_send_0 : decode cX10_send 0 = .ok (.iload_n 1, 1) := by decide +kernel
theorem dX10_send_1 : decode cX10_send 1 = .ok (.invokestatic 97, 3) := by decide +kernel
theorem dX10_send_4 : decode cX10_send 4 = .ok (.ifCond .ne 9, 3) := by decide +kernel
theorem dX10_send_7 : decode cX10_send 7 = .ok (.aload_n 0, 1) := by decide +kernel
theorem dX10_send_8 : decode cX10_send 8 = .ok (.iconst (-1), 1) := by decide +kernel
theorem dX10_send_9 : decode cX10_send 9 = .ok (.invokevirtual 53, 3) := by decide +kernel
theorem dX10_send_12 : decode cX10_send 12 = .ok (.ireturn, 1) := by decide +kernel
theorem dX10_send_13 : decode cX10_send 13 = .ok (.aload_n 0, 1) := by decide +kernel
theorem dX10_send_14 : decode cX10_send 14 = .ok (.invokevirtual 119, 3) := by decide +kernel
theorem dX10_send_17 : decode cX10_send 17 = .ok (.bipush (-9), 2) := by decide +kernel
theorem dX10_send_19 : decode cX10_send 19 = .ok (.istore_n 2, 1) := by decide +kernel
theorem dX10_send_20 : decode cX10_send 20 = .ok (.iconst 0, 1) := by decide +kernel
theorem dX10_send_21 : decode cX10_send 21 = .ok (.istore_n 3, 1) := by decide +kernel
theorem dX10_send_22 : decode cX10_send 22 = .ok (.iload_n 3, 1) := by decide +kernel
theorem dX10_send_23 : decode cX10_send 23 = .ok (.aload_n 0, 1) := by decide +kernel
theorem dX10_send_24 : decode cX10_send 24 = .ok (.getfield 10, 3) := by decide +kernel
theorem dX10_send_27 : decode cX10_send 27 = .ok (.getfield 156, 3) := by decide +kernel
theorem dX10_send_30 : decode cX10_send 30 = .ok (.if_icmp .ge 36, 3) := by decide +kernel
theorem dX10_send_33 : decode cX10_send 33 = .ok (.aload_n 0, 1) := by decide +kernel
theorem dX10_send_34 : decode cX10_send 34 = .ok (.getfield 10, 3) := by decide +kernel
theorem dX10_send_37 : decode cX10_send 37 = .ok (.getfield 84, 3) := by decide +kernel
theorem dX10_send_40 : decode cX10_send 40 = .ok (.iload_n 3, 1) := by decide +kernel
theorem dX10_send_41 : decode cX10_send 41 = .ok (.iaload, 1) := by decide +kernel
theorem dX10_send_42 : decode cX10_send 42 = .ok (.iload_n 1, 1) := by decide +kernel
theorem dX10_send_43 : decode cX10_send 43 = .ok (.if_icmp .ne 17, 3) := by decide +kernel
theorem dX10_send_46 : decode cX10_send 46 = .ok (.iload_n 2, 1) := by decide +kernel
theorem dX10_send_47 : decode cX10_send 47 = .ok (.aload_n 0, 1) := by decide +kernel
theorem dX10_send_48 : decode cX10_send 48 = .ok (.getfield 32, 3) := by decide +kernel
theorem dX10_send_51 : decode cX10_send 51 = .ok (.getfield 125, 3) := by decide +kernel
theorem dX10_send_54 : decode cX10_send 54 = .ok (.iload_n 3, 1) := by decide +kernel
theorem dX10_send_55 : decode cX10_send 55 = .ok (.iaload, 1) := by decide +kernel
theorem dX10_send_56 : decode cX10_send 56 = .ok (.invokestatic 170, 3) := by decide +kernel
theorem dX10_send_59 : decode cX10_send 59 = .ok (.istore_n 2, 1) := by decide +kernel
theorem dX10_send_60 : decode cX10_send 60 = .ok (.iinc 3 1, 3) := by decide +kernel
theorem dX10_send_63 : decode cX10_send 63 = .ok (.goto (-41), 3) := by decide +kernel
theorem dX10_send_66 : decode cX10_send 66 = .ok (.iload_n 2, 1) := by decide +kernel
theorem dX10_send_67 : decode cX10_send 67 = .ok (.ifCond .ge 10, 3) := by decide +kernel
theorem dX10_send_70 : decode cX10_send 70 = .ok (.aload_n 0, 1) := by decide +kernel
theorem dX10_send_71 : decode cX10_send 71 = .ok (.bipush (-3), 2) := by decide +kernel
theorem dX10_send_73 : decode cX10_send 73 = .ok (.invokevirtual 53, 3) := by decide +kernel
theorem dX10_send_76 : decode cX10_send 76 = .ok (.ireturn, 1) := by decide +kernel
theorem dX10_send_77 : decode cX10_send 77 = .ok (.aload_n 0, 1) := by decide +kernel
theorem dX10_send_78 : decode cX10_send 78 = .ok (.getfield 10, 3) := by decide +kernel
theorem dX10_send_81 : decode cX10_send 81 = .ok (.iload_n 1, 1) := by decide +kernel
theorem dX10_send_82 : decode cX10_send 82 = .ok (.invokevirtual 167, 3) := by decide +kernel
theorem dX10_send_85 : decode cX10_send 85 = .ok (.iload_n 2, 1) := by decide +kernel
theorem dX10_send_86 : decode cX10_send 86 = .ok (.aload_n 0, 1) := by decide +kernel
theorem dX10_send_87 : decode cX10_send 87 = .ok (.getfield 10, 3) := by decide +kernel
theorem dX10_send_90 : decode cX10_send 90 = .ok (.getfield 107, 3) := by decide +kernel
theorem dX10_send_93 : decode cX10_send 93 = .ok (.iconst 5, 1) := by decide +kernel
theorem dX10_send_94 : decode cX10_send 94 = .ok (.iaload, 1) := by decide +kernel
theorem dX10_send_95 : decode cX10_send 95 = .ok (.isub, 1) := by decide +kernel
theorem dX10_send_96 : decode cX10_send 96 = .ok (.isub, 1) := by decide +kernel
theorem dX10_send_97 : decode cX10_send 97 = .ok (.istore_n 3, 1) := by decide +kernel
theorem dX10_send_98 : decode cX10_send 98 = .ok (.iload_n 3, 1) := by decide +kernel
theorem dX10_send_99 : decode cX10_send 99 = .ok (.ifCond .ge 8, 3) := by decide +kernel
theorem dX10_send_102 : decode cX10_send 102 = .ok (.bipush (-9), 2) := by decide +kernel
theorem dX10_send_104 : decode cX10_send 104 = .ok (.goto 12, 3) := by decide +kernel
theorem dX10_send_107 : decode cX10_send 107 = .ok (.iload_n 3, 1) := by decide +kernel
theorem dX10_send_108 : decode cX10_send 108 = .ok (.getstatic 104, 3) := by decide +kernel
theorem dX10_send_111 : decode cX10_send 111 = .ok (.iconst 5, 1) := by decide +kernel
theorem dX10_send_112 : decode cX10_send 112 = .ok (.iaload, 1) := by decide +kernel
theorem dX10_send_113 : decode cX10_send 113 = .ok (.invokestatic 175, 3) := by decide +kernel
theorem dX10_send_116 : decode cX10_send 116 = .ok (.ireturn, 1) := by decide +kernel
theorem dX10_row_0 : decode cX10_row 0 = .ok (.iload_n 1, 1) := by decide +kernel
theorem dX10_row_1 : decode cX10_row 1 = .ok (.ifCond .ge 10, 3) := by decide +kernel
theorem dX10_row_4 : decode cX10_row 4 = .ok (.aload_n 0, 1) := by decide +kernel
theorem dX10_row_5 : decode cX10_row 5 = .ok (.bipush (-4), 2) := by decide +kernel
theorem dX10_row_7 : decode cX10_row 7 = .ok (.invokevirtual 53, 3) := by decide +kernel
theorem dX10_row_10 : decode cX10_row 10 = .ok (.ireturn, 1) := by decide +kernel
theorem dX10_row_11 : decode cX10_row 11 = .ok (.iload_n 1, 1) := by decide +kernel
theorem dX10_row_12 : decode cX10_row 12 = .ok (.bipush 99, 2) := by decide +kernel
theorem dX10_row_14 : decode cX10_row 14 = .ok (.if_icmp .gt 12, 3) := by decide +kernel
theorem dX10_row_17 : decode cX10_row 17 = .ok (.aload_n 0, 1) := by decide +kernel
theorem dX10_row_18 : decode cX10_row 18 = .ok (.getfield 178, 3) := by decide +kernel
theorem dX10_row_21 : decode cX10_row 21 = .ok (.bipush 12, 2) := by decide +kernel
theorem dX10_row_23 : decode cX10_row 23 = .ok (.if_icmp .lt 10, 3) := by decide +kernel
theorem dX10_row_26 : decode cX10_row 26 = .ok (.aload_n 0, 1) := by decide +kernel
theorem dX10_row_27 : decode cX10_row 27 = .ok (.bipush (-6), 2) := by decide +kernel
theorem dX10_row_29 : decode cX10_row 29 = .ok (.invokevirtual 53, 3) := by decide +kernel
theorem dX10_row_32 : decode cX10_row 32 = .ok (.ireturn, 1) := by decide +kernel
theorem dX10_row_33 : decode cX10_row 33 = .ok (.aload_n 0, 1) := by decide +kernel
theorem dX10_row_34 : decode cX10_row 34 = .ok (.getfield 47, 3) := by decide +kernel
theorem dX10_row_37 : decode cX10_row 37 = .ok (.aload_n 0, 1) := by decide +kernel
theorem dX10_row_38 : decode cX10_row 38 = .ok (.getfield 178, 3) := by decide +kernel
theorem dX10_row_41 : decode cX10_row 41 = .ok (.iload_n 1, 1) := by decide +kernel
theorem dX10_row_42 : decode cX10_row 42 = .ok (.iastore, 1) := by decide +kernel
theorem dX10_row_43 : decode cX10_row 43 = .ok (.aload_n 0, 1) := by decide +kernel
theorem dX10_row_44 : decode cX10_row 44 = .ok (.dup, 1) := by decide +kernel
theorem dX10_row_45 : decode cX10_row 45 = .ok (.getfield 178, 3) := by decide +kernel
theorem dX10_row_48 : decode cX10_row 48 = .ok (.iconst 1, 1) := by decide +kernel
theorem dX10_row_49 : decode cX10_row 49 = .ok (.iadd, 1) := by decide +kernel
theorem dX10_row_50 : decode cX10_row 50 = .ok (.putfield 178, 3) := by decide +kernel
theorem dX10_row_53 : decode cX10_row 53 = .ok (.aload_n 0, 1) := by decide +kernel
theorem dX10_row_54 : decode cX10_row 54 = .ok (.getfield 178, 3) := by decide +kernel
theorem dX10_row_57 : decode cX10_row 57 = .ok (.ireturn, 1) := by decide +kernel
theorem dX10_fits_0 : decode cX10_fits 0 = .ok (.iload_n 1, 1) := by decide +kernel
theorem dX10_fits_1 : decode cX10_fits 1 = .ok (.iconst (-1), 1) := by decide +kernel
theorem dX10_fits_2 : decode cX10_fits 2 = .ok (.if_icmp .ge 10, 3) := by decide +kernel
theorem dX10_fits_5 : decode cX10_fits 5 = .ok (.aload_n 0, 1) := by decide +kernel
theorem dX10_fits_6 : decode cX10_fits 6 = .ok (.bipush (-4), 2) := by decide +kernel
theorem dX10_fits_8 : decode cX10_fits 8 = .ok (.invokevirtual 53, 3) := by decide +kernel
theorem dX10_fits_11 : decode cX10_fits 11 = .ok (.ireturn, 1) := by decide +kernel
theorem dX10_fits_12 : decode cX10_fits 12 = .ok (.iload_n 1, 1) := by decide +kernel
theorem dX10_fits_13 : decode cX10_fits 13 = .ok (.aload_n 0, 1) := by decide +kernel
theorem dX10_fits_14 : decode cX10_fits 14 = .ok (.getfield 10, 3) := by decide +kernel
theorem dX10_fits_17 : decode cX10_fits 17 = .ok (.getfield 156, 3) := by decide +kernel
theorem dX10_fits_20 : decode cX10_fits 20 = .ok (.if_icmp .lt 9, 3) := by decide +kernel
theorem dX10_fits_23 : decode cX10_fits 23 = .ok (.aload_n 0, 1) := by decide +kernel
theorem dX10_fits_24 : decode cX10_fits 24 = .ok (.iconst (-1), 1) := by decide +kernel
theorem dX10_fits_25 : decode cX10_fits 25 = .ok (.invokevirtual 53, 3) := by decide +kernel
theorem dX10_fits_28 : decode cX10_fits 28 = .ok (.ireturn, 1) := by decide +kernel
theorem dX10_fits_29 : decode cX10_fits 29 = .ok (.aload_n 0, 1) := by decide +kernel
theorem dX10_fits_30 : decode cX10_fits 30 = .ok (.invokevirtual 181, 3) := by decide +kernel
theorem dX10_fits_33 : decode cX10_fits 33 = .ok (.istore_n 2, 1) := by decide +kernel
theorem dX10_fits_34 : decode cX10_fits 34 = .ok (.iload_n 1, 1) := by decide +kernel
theorem dX10_fits_35 : decode cX10_fits 35 = .ok (.ifCond .ge 5, 3) := by decide +kernel
theorem dX10_fits_38 : decode cX10_fits 38 = .ok (.iload_n 2, 1) := by decide +kernel
theorem dX10_fits_39 : decode cX10_fits 39 = .ok (.ireturn, 1) := by decide +kernel
theorem dX10_fits_40 : decode cX10_fits 40 = .ok (.iload_n 2, 1) := by decide +kernel
theorem dX10_fits_41 : decode cX10_fits 41 = .ok (.ifCond .ne 8, 3) := by decide +kernel
theorem dX10_fits_44 : decode cX10_fits 44 = .ok (.bipush (-9), 2) := by decide +kernel
theorem dX10_fits_46 : decode cX10_fits 46 = .ok (.goto 9, 3) := by decide +kernel
theorem dX10_fits_49 : decode cX10_fits 49 = .ok (.aload_n 0, 1) := by decide +kernel
theorem dX10_fits_50 : decode cX10_fits 50 = .ok (.getfield 43, 3) := by decide +kernel
theorem dX10_fits_53 : decode cX10_fits 53 = .ok (.iload_n 1, 1) := by decide +kernel
theorem dX10_fits_54 : decode cX10_fits 54 = .ok (.iaload, 1) := by decide +kernel
theorem dX10_fits_55 : decode cX10_fits 55 = .ok (.ireturn, 1) := by decide +kernel
theorem dX10_judge_0 : decode cX10_judge 0 = .ok (.aload_n 0, 1) := by decide +kernel
theorem dX10_judge_1 : decode cX10_judge 1 = .ok (.aload_n 0, 1) := by decide +kernel
theorem dX10_judge_2 : decode cX10_judge 2 = .ok (.getfield 10, 3) := by decide +kernel
theorem dX10_judge_5 : decode cX10_judge 5 = .ok (.getfield 90, 3) := by decide +kernel
theorem dX10_judge_8 : decode cX10_judge 8 = .ok (.invokevirtual 184, 3) := by decide +kernel
theorem dX10_judge_11 : decode cX10_judge 11 = .ok (.istore_n 1, 1) := by decide +kernel
theorem dX10_judge_12 : decode cX10_judge 12 = .ok (.aload_n 0, 1) := by decide +kernel
theorem dX10_judge_13 : decode cX10_judge 13 = .ok (.iconst 0, 1) := by decide +kernel
theorem dX10_judge_14 : decode cX10_judge 14 = .ok (.putfield 178, 3) := by decide +kernel
theorem dX10_judge_17 : decode cX10_judge 17 = .ok (.iload_n 1, 1) := by decide +kernel
theorem dX10_judge_18 : decode cX10_judge 18 = .ok (.ireturn, 1) := by decide +kernel
theorem dX10_lots_0 : decode cX10_lots 0 = .ok (.iload_n 1, 1) := by decide +kernel
theorem dX10_lots_1 : decode cX10_lots 1 = .ok (.iconst 1, 1) := by decide +kernel
theorem dX10_lots_2 : decode cX10_lots 2 = .ok (.if_icmp .ge 10, 3) := by decide +kernel
theorem dX10_lots_5 : decode cX10_lots 5 = .ok (.aload_n 0, 1) := by decide +kernel
theorem dX10_lots_6 : decode cX10_lots 6 = .ok (.bipush (-4), 2) := by decide +kernel
theorem dX10_lots_8 : decode cX10_lots 8 = .ok (.invokevirtual 53, 3) := by decide +kernel
theorem dX10_lots_11 : decode cX10_lots 11 = .ok (.ireturn, 1) := by decide +kernel
theorem dX10_lots_12 : decode cX10_lots 12 = .ok (.iload_n 1, 1) := by decide +kernel
theorem dX10_lots_13 : decode cX10_lots 13 = .ok (.bipush 20, 2) := by decide +kernel
theorem dX10_lots_15 : decode cX10_lots 15 = .ok (.if_icmp .le 10, 3) := by decide +kernel
theorem dX10_lots_18 : decode cX10_lots 18 = .ok (.aload_n 0, 1) := by decide +kernel
theorem dX10_lots_19 : decode cX10_lots 19 = .ok (.bipush (-6), 2) := by decide +kernel
theorem dX10_lots_21 : decode cX10_lots 21 = .ok (.invokevirtual 53, 3) := by decide +kernel
theorem dX10_lots_24 : decode cX10_lots 24 = .ok (.ireturn, 1) := by decide +kernel
theorem dX10_lots_25 : decode cX10_lots 25 = .ok (.aload_n 0, 1) := by decide +kernel
theorem dX10_lots_26 : decode cX10_lots 26 = .ok (.getfield 16, 3) := by decide +kernel
theorem dX10_lots_29 : decode cX10_lots 29 = .ok (.aload_n 0, 1) := by decide +kernel
theorem dX10_lots_30 : decode cX10_lots 30 = .ok (.getfield 10, 3) := by decide +kernel
theorem dX10_lots_33 : decode cX10_lots 33 = .ok (.invokevirtual 188, 3) := by decide +kernel
theorem dX10_lots_36 : decode cX10_lots 36 = .ok (.iload_n 2, 1) := by decide +kernel
theorem dX10_lots_37 : decode cX10_lots 37 = .ok (.istore_n 3, 1) := by decide +kernel
theorem dX10_lots_38 : decode cX10_lots 38 = .ok (.iconst 0, 1) := by decide +kernel
theorem dX10_lots_39 : decode cX10_lots 39 = .ok (.istore 4, 2) := by decide +kernel
theorem dX10_lots_41 : decode cX10_lots 41 = .ok (.iconst 0, 1) := by decide +kernel
theorem dX10_lots_42 : decode cX10_lots 42 = .ok (.istore 5, 2) := by decide +kernel
theorem dX10_lots_44 : decode cX10_lots 44 = .ok (.iload 5, 2) := by decide +kernel
theorem dX10_lots_46 : decode cX10_lots 46 = .ok (.iload_n 1, 1) := by decide +kernel
theorem dX10_lots_47 : decode cX10_lots 47 = .ok (.if_icmp .ge 86, 3) := by decide +kernel
theorem dX10_lots_50 : decode cX10_lots 50 = .ok (.iconst 0, 1) := by decide +kernel
theorem dX10_lots_51 : decode cX10_lots 51 = .ok (.istore 6, 2) := by decide +kernel
theorem dX10_lots_53 : decode cX10_lots 53 = .ok (.iload 6, 2) := by decide +kernel
theorem dX10_lots_55 : decode cX10_lots 55 = .ok (.iconst 5, 1) := by decide +kernel
theorem dX10_lots_56 : decode cX10_lots 56 = .ok (.if_icmp .ge 38, 3) := by decide +kernel
theorem dX10_lots_59 : decode cX10_lots 59 = .ok (.iload_n 3, 1) := by decide +kernel
theorem dX10_lots_60 : decode cX10_lots 60 = .ok (.ldc 192, 2) := by decide +kernel
theorem dX10_lots_62 : decode cX10_lots 62 = .ok (.imul, 1) := by decide +kernel
theorem dX10_lots_63 : decode cX10_lots 63 = .ok (.ldc 193, 2) := by decide +kernel
theorem dX10_lots_65 : decode cX10_lots 65 = .ok (.iadd, 1) := by decide +kernel
theorem dX10_lots_66 : decode cX10_lots 66 = .ok (.istore_n 3, 1) := by decide +kernel
theorem dX10_lots_67 : decode cX10_lots 67 = .ok (.aload_n 0, 1) := by decide +kernel
theorem dX10_lots_68 : decode cX10_lots 68 = .ok (.getfield 16, 3) := by decide +kernel
theorem dX10_lots_71 : decode cX10_lots 71 = .ok (.getfield 100, 3) := by decide +kernel
theorem dX10_lots_74 : decode cX10_lots 74 = .ok (.iload 6, 2) := by decide +kernel
theorem dX10_lots_76 : decode cX10_lots 76 = .ok (.iload_n 3, 1) := by decide +kernel
theorem dX10_lots_77 : decode cX10_lots 77 = .ok (.ldc 194, 2) := by decide +kernel
theorem dX10_lots_79 : decode cX10_lots 79 = .ok (.iand, 1) := by decide +kernel
theorem dX10_lots_80 : decode cX10_lots 80 = .ok (.sipush 256, 3) := by decide +kernel
theorem dX10_lots_83 : decode cX10_lots 83 = .ok (.idiv, 1) := by decide +kernel
theorem dX10_lots_84 : decode cX10_lots 84 = .ok (.bipush 100, 2) := by decide +kernel
theorem dX10_lots_86 : decode cX10_lots 86 = .ok (.irem, 1) := by decide +kernel
theorem dX10_lots_87 : decode cX10_lots 87 = .ok (.iastore, 1) := by decide +kernel
theorem dX10_lots_88 : decode cX10_lots 88 = .ok (.iinc 6 1, 3) := by decide +kernel
theorem dX10_lots_91 : decode cX10_lots 91 = .ok (.goto (-38), 3) := by decide +kernel
theorem dX10_lots_94 : decode cX10_lots 94 = .ok (.aload_n 0, 1) := by decide +kernel
theorem dX10_lots_95 : decode cX10_lots 95 = .ok (.getfield 32, 3) := by decide +kernel
theorem dX10_lots_98 : decode cX10_lots 98 = .ok (.aload_n 0, 1) := by decide +kernel
theorem dX10_lots_99 : decode cX10_lots 99 = .ok (.getfield 16, 3) := by decide +kernel
theorem dX10_lots_102 : decode cX10_lots 102 = .ok (.aload_n 0, 1) := by decide +kernel
theorem dX10_lots_103 : decode cX10_lots 103 = .ok (.getfield 16, 3) := by decide +kernel
theorem dX10_lots_106 : decode cX10_lots 106 = .ok (.getfield 90, 3) := by decide +kernel
theorem dX10_lots_109 : decode cX10_lots 109 = .ok (.iconst (-1), 1) := by decide +kernel
theorem dX10_lots_110 : decode cX10_lots 110 = .ok (.invokevirtual 159, 3) := by decide +kernel
theorem dX10_lots_113 : decode cX10_lots 113 = .ok (.iload 4, 2) := by decide +kernel
theorem dX10_lots_115 : decode cX10_lots 115 = .ok (.aload_n 0, 1) := by decide +kernel
theorem dX10_lots_116 : decode cX10_lots 116 = .ok (.getfield 32, 3) := by decide +kernel
theorem dX10_lots_119 : decode cX10_lots 119 = .ok (.getfield 122, 3) := by decide +kernel
theorem dX10_lots_122 : decode cX10_lots 122 = .ok (.iconst 0, 1) := by decide +kernel
theorem dX10_lots_123 : decode cX10_lots 123 = .ok (.iaload, 1) := by decide +kernel
theorem dX10_lots_124 : decode cX10_lots 124 = .ok (.iadd, 1) := by decide +kernel
theorem dX10_lots_125 : decode cX10_lots 125 = .ok (.istore 4, 2) := by decide +kernel
theorem dX10_lots_127 : decode cX10_lots 127 = .ok (.iinc 5 1, 3) := by decide +kernel
theorem dX10_lots_130 : decode cX10_lots 130 = .ok (.goto (-86), 3) := by decide +kernel
theorem dX10_lots_133 : decode cX10_lots 133 = .ok (.iload 4, 2) := by decide +kernel
theorem dX10_lots_135 : decode cX10_lots 135 = .ok (.ireturn, 1) := by decide +kernel
theorem dX10_image_0 : decode cX10_image 0 = .ok (.aload_n 0, 1) := by decide +kernel
theorem dX10_image_1 : decode cX10_image 1 = .ok (.getfield 19, 3) := by decide +kernel
theorem dX10_image_4 : decode cX10_image 4 = .ok (.aload_n 0, 1) := by decide +kernel
theorem dX10_image_5 : decode cX10_image 5 = .ok (.getfield 10, 3) := by decide +kernel
theorem dX10_image_8 : decode cX10_image 8 = .ok (.invokevirtual 188, 3) := by decide +kernel
theorem dX10_image_11 : decode cX10_image 11 = .ok (.aload_n 0, 1) := by decide +kernel
theorem dX10_image_12 : decode cX10_image 12 = .ok (.iconst 1, 1) := by decide +kernel
theorem dX10_image_13 : decode cX10_image 13 = .ok (.putfield 195, 3) := by decide +kernel
theorem dX10_image_16 : decode cX10_image 16 = .ok (.aload_n 0, 1) := by decide +kernel
theorem dX10_image_17 : decode cX10_image 17 = .ok (.getfield 10, 3) := by decide +kernel
theorem dX10_image_20 : decode cX10_image 20 = .ok (.getfield 156, 3) := by decide +kernel
theorem dX10_image_23 : decode cX10_image 23 = .ok (.ireturn, 1) := by decide +kernel
theorem dX10_on_0 : decode cX10_on 0 = .ok (.aload_n 0, 1) := by decide +kernel
theorem dX10_on_1 : decode cX10_on 1 = .ok (.getfield 195, 3) := by decide +kernel
theorem dX10_on_4 : decode cX10_on 4 = .ok (.ifCond .ne 10, 3) := by decide +kernel
theorem dX10_on_7 : decode cX10_on 7 = .ok (.aload_n 0, 1) := by decide +kernel
theorem dX10_on_8 : decode cX10_on 8 = .ok (.bipush (-3), 2) := by decide +kernel
theorem dX10_on_10 : decode cX10_on 10 = .ok (.invokevirtual 53, 3) := by decide +kernel
theorem dX10_on_13 : decode cX10_on 13 = .ok (.ireturn, 1) := by decide +kernel
theorem dX10_on_14 : decode cX10_on 14 = .ok (.aload_n 0, 1) := by decide +kernel
theorem dX10_on_15 : decode cX10_on 15 = .ok (.getfield 10, 3) := by decide +kernel
theorem dX10_on_18 : decode cX10_on 18 = .ok (.aload_n 0, 1) := by decide +kernel
theorem dX10_on_19 : decode cX10_on 19 = .ok (.getfield 19, 3) := by decide +kernel
theorem dX10_on_22 : decode cX10_on 22 = .ok (.invokevirtual 188, 3) := by decide +kernel
theorem dX10_on_25 : decode cX10_on 25 = .ok (.aload_n 0, 1) := by decide +kernel
theorem dX10_on_26 : decode cX10_on 26 = .ok (.getfield 10, 3) := by decide +kernel
theorem dX10_on_29 : decode cX10_on 29 = .ok (.getfield 156, 3) := by decide +kernel
theorem dX10_on_32 : decode cX10_on 32 = .ok (.ireturn, 1) := by decide +kernel
theorem dX10_count_0 : decode cX10_count 0 = .ok (.iload_n 1, 1) := by decide +kernel
theorem dX10_count_1 : decode cX10_count 1 = .ok (.tableswitch 156 0 9 #[55, 63, 78, 93, 103, 113, 123, 133, 143, 148], 55) := by decide +kernel
theorem dX10_count_56 : decode cX10_count 56 = .ok (.aload_n 0, 1) := by decide +kernel
theorem dX10_count_57 : decode cX10_count 57 = .ok (.getfield 10, 3) := by decide +kernel
theorem dX10_count_60 : decode cX10_count 60 = .ok (.getfield 156, 3) := by decide +kernel
theorem dX10_count_63 : decode cX10_count 63 = .ok (.ireturn, 1) := by decide +kernel
theorem dX10_count_64 : decode cX10_count 64 = .ok (.aload_n 0, 1) := by decide +kernel
theorem dX10_count_65 : decode cX10_count 65 = .ok (.getfield 10, 3) := by decide +kernel
theorem dX10_count_68 : decode cX10_count 68 = .ok (.aload_n 0, 1) := by decide +kernel
theorem dX10_count_69 : decode cX10_count 69 = .ok (.getfield 10, 3) := by decide +kernel
theorem dX10_count_72 : decode cX10_count 72 = .ok (.getfield 75, 3) := by decide +kernel
theorem dX10_count_75 : decode cX10_count 75 = .ok (.invokevirtual 199, 3) := by decide +kernel
theorem dX10_count_78 : decode cX10_count 78 = .ok (.ireturn, 1) := by decide +kernel
theorem dX10_count_79 : decode cX10_count 79 = .ok (.aload_n 0, 1) := by decide +kernel
theorem dX10_count_80 : decode cX10_count 80 = .ok (.getfield 10, 3) := by decide +kernel
theorem dX10_count_83 : decode cX10_count 83 = .ok (.aload_n 0, 1) := by decide +kernel
theorem dX10_count_84 : decode cX10_count 84 = .ok (.getfield 10, 3) := by decide +kernel
theorem dX10_count_87 : decode cX10_count 87 = .ok (.getfield 81, 3) := by decide +kernel
theorem dX10_count_90 : decode cX10_count 90 = .ok (.invokevirtual 199, 3) := by decide +kernel
theorem dX10_count_93 : decode cX10_count 93 = .ok (.ireturn, 1) := by decide +kernel
theorem dX10_count_94 : decode cX10_count 94 = .ok (.aload_n 0, 1) := by decide +kernel
theorem dX10_count_95 : decode cX10_count 95 = .ok (.getfield 10, 3) := by decide +kernel
theorem dX10_count_98 : decode cX10_count 98 = .ok (.getfield 107, 3) := by decide +kernel
theorem dX10_count_101 : decode cX10_count 101 = .ok (.iconst 0, 1) := by decide +kernel
theorem dX10_count_102 : decode cX10_count 102 = .ok (.iaload, 1) := by decide +kernel
theorem dX10_count_103 : decode cX10_count 103 = .ok (.ireturn, 1) := by decide +kernel
theorem dX10_count_104 : decode cX10_count 104 = .ok (.aload_n 0, 1) := by decide +kernel
theorem dX10_count_105 : decode cX10_count 105 = .ok (.getfield 10, 3) := by decide +kernel
theorem dX10_count_108 : decode cX10_count 108 = .ok (.getfield 107, 3) := by decide +kernel
theorem dX10_count_111 : decode cX10_count 111 = .ok (.iconst 2, 1) := by decide +kernel
theorem dX10_count_112 : decode cX10_count 112 = .ok (.iaload, 1) := by decide +kernel
theorem dX10_count_113 : decode cX10_count 113 = .ok (.ireturn, 1) := by decide +kernel
theorem dX10_count_114 : decode cX10_count 114 = .ok (.aload_n 0, 1) := by decide +kernel
theorem dX10_count_115 : decode cX10_count 115 = .ok (.getfield 10, 3) := by decide +kernel
theorem dX10_count_118 : decode cX10_count 118 = .ok (.getfield 107, 3) := by decide +kernel
theorem dX10_count_121 : decode cX10_count 121 = .ok (.iconst 3, 1) := by decide +kernel
theorem dX10_count_122 : decode cX10_count 122 = .ok (.iaload, 1) := by decide +kernel
theorem dX10_count_123 : decode cX10_count 123 = .ok (.ireturn, 1) := by decide +kernel
theorem dX10_count_124 : decode cX10_count 124 = .ok (.aload_n 0, 1) := by decide +kernel
theorem dX10_count_125 : decode cX10_count 125 = .ok (.getfield 10, 3) := by decide +kernel
theorem dX10_count_128 : decode cX10_count 128 = .ok (.getfield 107, 3) := by decide +kernel
theorem dX10_count_131 : decode cX10_count 131 = .ok (.iconst 4, 1) := by decide +kernel
theorem dX10_count_132 : decode cX10_count 132 = .ok (.iaload, 1) := by decide +kernel
theorem dX10_count_133 : decode cX10_count 133 = .ok (.ireturn, 1) := by decide +kernel
theorem dX10_count_134 : decode cX10_count 134 = .ok (.aload_n 0, 1) := by decide +kernel
theorem dX10_count_135 : decode cX10_count 135 = .ok (.getfield 10, 3) := by decide +kernel
theorem dX10_count_138 : decode cX10_count 138 = .ok (.getfield 107, 3) := by decide +kernel
theorem dX10_count_141 : decode cX10_count 141 = .ok (.iconst 5, 1) := by decide +kernel
theorem dX10_count_142 : decode cX10_count 142 = .ok (.iaload, 1) := by decide +kernel
theorem dX10_count_143 : decode cX10_count 143 = .ok (.ireturn, 1) := by decide +kernel
theorem dX10_count_144 : decode cX10_count 144 = .ok (.aload_n 0, 1) := by decide +kernel
theorem dX10_count_145 : decode cX10_count 145 = .ok (.getfield 178, 3) := by decide +kernel
theorem dX10_count_148 : decode cX10_count 148 = .ok (.ireturn, 1) := by decide +kernel
theorem dX10_count_149 : decode cX10_count 149 = .ok (.aload_n 0, 1) := by decide +kernel
theorem dX10_count_150 : decode cX10_count 150 = .ok (.getfield 25, 3) := by decide +kernel
theorem dX10_count_153 : decode cX10_count 153 = .ok (.getfield 57, 3) := by decide +kernel
theorem dX10_count_156 : decode cX10_count 156 = .ok (.ireturn, 1) := by decide +kernel
theorem dX10_count_157 : decode cX10_count 157 = .ok (.iload_n 1, 1) := by decide +kernel
theorem dX10_count_158 : decode cX10_count 158 = .ok (.bipush 11, 2) := by decide +kernel
theorem dX10_count_160 : decode cX10_count 160 = .ok (.if_icmp .lt 21, 3) := by decide +kernel
theorem dX10_count_163 : decode cX10_count 163 = .ok (.iload_n 1, 1) := by decide +kernel
theorem dX10_count_164 : decode cX10_count 164 = .ok (.bipush 16, 2) := by decide +kernel
theorem dX10_count_166 : decode cX10_count 166 = .ok (.if_icmp .gt 15, 3) := by decide +kernel
theorem dX10_count_169 : decode cX10_count 169 = .ok (.aload_n 0, 1) := by decide +kernel
theorem dX10_count_170 : decode cX10_count 170 = .ok (.getfield 50, 3) := by decide +kernel
theorem dX10_count_173 : decode cX10_count 173 = .ok (.iload_n 1, 1) := by decide +kernel
theorem dX10_count_174 : decode cX10_count 174 = .ok (.bipush 11, 2) := by decide +kernel
theorem dX10_count_176 : decode cX10_count 176 = .ok (.isub, 1) := by decide +kernel
theorem dX10_count_177 : decode cX10_count 177 = .ok (.iaload, 1) := by decide +kernel
theorem dX10_count_178 : decode cX10_count 178 = .ok (.goto 5, 3) := by decide +kernel
theorem dX10_count_181 : decode cX10_count 181 = .ok (.bipush (-9), 2) := by decide +kernel
theorem dX10_count_183 : decode cX10_count 183 = .ok (.ireturn, 1) := by decide +kernel
theorem dX10_refuse_0 : decode cX10_refuse 0 = .ok (.iload_n 1, 1) := by decide +kernel
theorem dX10_refuse_1 : decode cX10_refuse 1 = .ok (.ineg, 1) := by decide +kernel
theorem dX10_refuse_2 : decode cX10_refuse 2 = .ok (.iconst 1, 1) := by decide +kernel
theorem dX10_refuse_3 : decode cX10_refuse 3 = .ok (.isub, 1) := by decide +kernel
theorem dX10_refuse_4 : decode cX10_refuse 4 = .ok (.istore_n 2, 1) := by decide +kernel
theorem dX10_refuse_5 : decode cX10_refuse 5 = .ok (.iload_n 2, 1) := by decide +kernel
theorem dX10_refuse_6 : decode cX10_refuse 6 = .ok (.ifCond .lt 19, 3) := by decide +kernel
theorem dX10_refuse_9 : decode cX10_refuse 9 = .ok (.iload_n 2, 1) := by decide +kernel
theorem dX10_refuse_10 : decode cX10_refuse 10 = .ok (.bipush 6, 2) := by decide +kernel
theorem dX10_refuse_12 : decode cX10_refuse 12 = .ok (.if_icmp .ge 13, 3) := by decide +kernel
theorem dX10_refuse_15 : decode cX10_refuse 15 = .ok (.aload_n 0, 1) := by decide +kernel
theorem dX10_refuse_16 : decode cX10_refuse 16 = .ok (.getfield 50, 3) := by decide +kernel
theorem dX10_refuse_19 : decode cX10_refuse 19 = .ok (.iload_n 2, 1) := by decide +kernel
theorem dX10_refuse_20 : decode cX10_refuse 20 = .ok (.dup2, 1) := by decide +kernel
theorem dX10_refuse_21 : decode cX10_refuse 21 = .ok (.iaload, 1) := by decide +kernel
theorem dX10_refuse_22 : decode cX10_refuse 22 = .ok (.iconst 1, 1) := by decide +kernel
theorem dX10_refuse_23 : decode cX10_refuse 23 = .ok (.iadd, 1) := by decide +kernel
theorem dX10_refuse_24 : decode cX10_refuse 24 = .ok (.iastore, 1) := by decide +kernel
theorem dX10_refuse_25 : decode cX10_refuse 25 = .ok (.iload_n 1, 1) := by decide +kernel
theorem dX10_refuse_26 : decode cX10_refuse 26 = .ok (.ireturn, 1) := by decide +kernel
theorem dX10_refuseAbove_0 : decode cX10_refuseAbove 0 = .ok (.ldc 202, 2) := by decide +kernel
theorem dX10_refuseAbove_2 : decode cX10_refuseAbove 2 = .ok (.aload_n 0, 1) := by decide +kernel
theorem dX10_refuseAbove_3 : decode cX10_refuseAbove 3 = .ok (.iload_n 1, 1) := by decide +kernel
theorem dX10_refuseAbove_4 : decode cX10_refuseAbove 4 = .ok (.invokevirtual 53, 3) := by decide +kernel
theorem dX10_refuseAbove_7 : decode cX10_refuseAbove 7 = .ok (.isub, 1) := by decide +kernel
theorem dX10_refuseAbove_8 : decode cX10_refuseAbove 8 = .ok (.ireturn, 1) := by decide +kernel
theorem dX10_isTotal_0 : decode cX10_isTotal 0 = .ok (.iload_n 0, 1) := by decide +kernel
theorem dX10_isTotal_1 : decode cX10_isTotal 1 = .ok (.ifCond .lt 13, 3) := by decide +kernel
theorem dX10_isTotal_4 : decode cX10_isTotal 4 = .ok (.iload_n 0, 1) := by decide +kernel
theorem dX10_isTotal_5 : decode cX10_isTotal 5 = .ok (.bipush 8, 2) := by decide +kernel
theorem dX10_isTotal_7 : decode cX10_isTotal 7 = .ok (.if_icmp .ge 7, 3) := by decide +kernel
theorem dX10_isTotal_10 : decode cX10_isTotal 10 = .ok (.iconst 1, 1) := by decide +kernel
theorem dX10_isTotal_11 : decode cX10_isTotal 11 = .ok (.goto 4, 3) := by decide +kernel
theorem dX10_isTotal_14 : decode cX10_isTotal 14 = .ok (.iconst 0, 1) := by decide +kernel
theorem dX10_isTotal_15 : decode cX10_isTotal 15 = .ok (.ireturn, 1) := by decide +kernel
theorem dX10_becomeKitchen_0 : decode cX10_becomeKitchen 0 = .ok (.aload_n 0, 1) := by decide +kernel
theorem dX10_becomeKitchen_1 : decode cX10_becomeKitchen 1 = .ok (.getfield 25, 3) := by decide +kernel
theorem dX10_becomeKitchen_4 : decode cX10_becomeKitchen 4 = .ok (.invokevirtual 203, 3) := by decide +kernel
theorem dX10_becomeKitchen_7 : decode cX10_becomeKitchen 7 = .ok (.istore_n 1, 1) := by decide +kernel
theorem dX10_becomeKitchen_8 : decode cX10_becomeKitchen 8 = .ok (.iload_n 1, 1) := by decide +kernel
theorem dX10_becomeKitchen_9 : decode cX10_becomeKitchen 9 = .ok (.ifCond .lt 9, 3) := by decide +kernel
theorem dX10_becomeKitchen_12 : decode cX10_becomeKitchen 12 = .ok (.sipush (-1000), 3) := by decide +kernel
theorem dX10_becomeKitchen_15 : decode cX10_becomeKitchen 15 = .ok (.iload_n 1, 1) := by decide +kernel
theorem dX10_becomeKitchen_16 : decode cX10_becomeKitchen 16 = .ok (.isub, 1) := by decide +kernel
theorem dX10_becomeKitchen_17 : decode cX10_becomeKitchen 17 = .ok (.ireturn, 1) := by decide +kernel
theorem dX10_becomeKitchen_18 : decode cX10_becomeKitchen 18 = .ok (.aload_n 0, 1) := by decide +kernel
theorem dX10_becomeKitchen_19 : decode cX10_becomeKitchen 19 = .ok (.getfield 16, 3) := by decide +kernel
theorem dX10_becomeKitchen_22 : decode cX10_becomeKitchen 22 = .ok (.aload_n 0, 1) := by decide +kernel
theorem dX10_becomeKitchen_23 : decode cX10_becomeKitchen 23 = .ok (.getfield 10, 3) := by decide +kernel
theorem dX10_becomeKitchen_26 : decode cX10_becomeKitchen 26 = .ok (.invokevirtual 188, 3) := by decide +kernel
theorem dX10_becomeKitchen_29 : decode cX10_becomeKitchen 29 = .ok (.iconst 0, 1) := by decide +kernel
theorem dX10_becomeKitchen_30 : decode cX10_becomeKitchen 30 = .ok (.istore_n 2, 1) := by decide +kernel
theorem dX10_becomeKitchen_31 : decode cX10_becomeKitchen 31 = .ok (.iconst 0, 1) := by decide +kernel
theorem dX10_becomeKitchen_32 : decode cX10_becomeKitchen 32 = .ok (.istore_n 3, 1) := by decide +kernel
theorem dX10_becomeKitchen_33 : decode cX10_becomeKitchen 33 = .ok (.iload_n 3, 1) := by decide +kernel
theorem dX10_becomeKitchen_34 : decode cX10_becomeKitchen 34 = .ok (.aload_n 0, 1) := by decide +kernel
theorem dX10_becomeKitchen_35 : decode cX10_becomeKitchen 35 = .ok (.getfield 25, 3) := by decide +kernel
theorem dX10_becomeKitchen_38 : decode cX10_becomeKitchen 38 = .ok (.getfield 57, 3) := by decide +kernel
theorem dX10_becomeKitchen_41 : decode cX10_becomeKitchen 41 = .ok (.if_icmp .ge 47, 3) := by decide +kernel
theorem dX10_becomeKitchen_44 : decode cX10_becomeKitchen 44 = .ok (.iload_n 2, 1) := by decide +kernel
theorem dX10_becomeKitchen_45 : decode cX10_becomeKitchen 45 = .ok (.bipush 96, 2) := by decide +kernel
theorem dX10_becomeKitchen_47 : decode cX10_becomeKitchen 47 = .ok (.if_icmp .ge 41, 3) := by decide +kernel
theorem dX10_becomeKitchen_50 : decode cX10_becomeKitchen 50 = .ok (.aload_n 0, 1) := by decide +kernel
theorem dX10_becomeKitchen_51 : decode cX10_becomeKitchen 51 = .ok (.getfield 25, 3) := by decide +kernel
theorem dX10_becomeKitchen_54 : decode cX10_becomeKitchen 54 = .ok (.aload_n 0, 1) := by decide +kernel
theorem dX10_becomeKitchen_55 : decode cX10_becomeKitchen 55 = .ok (.getfield 16, 3) := by decide +kernel
theorem dX10_becomeKitchen_58 : decode cX10_becomeKitchen 58 = .ok (.iload_n 3, 1) := by decide +kernel
theorem dX10_becomeKitchen_59 : decode cX10_becomeKitchen 59 = .ok (.invokevirtual 206, 3) := by decide +kernel
theorem dX10_becomeKitchen_62 : decode cX10_becomeKitchen 62 = .ok (.ifCond .ne 9, 3) := by decide +kernel
theorem dX10_becomeKitchen_65 : decode cX10_becomeKitchen 65 = .ok (.sipush (-2000), 3) := by decide +kernel
theorem dX10_becomeKitchen_68 : decode cX10_becomeKitchen 68 = .ok (.iload_n 3, 1) := by decide +kernel
theorem dX10_becomeKitchen_69 : decode cX10_becomeKitchen 69 = .ok (.isub, 1) := by decide +kernel
theorem dX10_becomeKitchen_70 : decode cX10_becomeKitchen 70 = .ok (.ireturn, 1) := by decide +kernel
theorem dX10_becomeKitchen_71 : decode cX10_becomeKitchen 71 = .ok (.iload_n 3, 1) := by decide +kernel
theorem dX10_becomeKitchen_72 : decode cX10_becomeKitchen 72 = .ok (.aload_n 0, 1) := by decide +kernel
theorem dX10_becomeKitchen_73 : decode cX10_becomeKitchen 73 = .ok (.getfield 25, 3) := by decide +kernel
theorem dX10_becomeKitchen_76 : decode cX10_becomeKitchen 76 = .ok (.iload_n 3, 1) := by decide +kernel
theorem dX10_becomeKitchen_77 : decode cX10_becomeKitchen 77 = .ok (.invokevirtual 209, 3) := by decide +kernel
theorem dX10_becomeKitchen_80 : decode cX10_becomeKitchen 80 = .ok (.iadd, 1) := by decide +kernel
theorem dX10_becomeKitchen_81 : decode cX10_becomeKitchen 81 = .ok (.istore_n 3, 1) := by decide +kernel
theorem dX10_becomeKitchen_82 : decode cX10_becomeKitchen 82 = .ok (.iinc 2 1, 3) := by decide +kernel
theorem dX10_becomeKitchen_85 : decode cX10_becomeKitchen 85 = .ok (.goto (-52), 3) := by decide +kernel
theorem dX10_becomeKitchen_88 : decode cX10_becomeKitchen 88 = .ok (.aload_n 0, 1) := by decide +kernel
theorem dX10_becomeKitchen_89 : decode cX10_becomeKitchen 89 = .ok (.getfield 10, 3) := by decide +kernel
theorem dX10_becomeKitchen_92 : decode cX10_becomeKitchen 92 = .ok (.aload_n 0, 1) := by decide +kernel
theorem dX10_becomeKitchen_93 : decode cX10_becomeKitchen 93 = .ok (.getfield 16, 3) := by decide +kernel
theorem dX10_becomeKitchen_96 : decode cX10_becomeKitchen 96 = .ok (.invokevirtual 188, 3) := by decide +kernel
theorem dX10_becomeKitchen_99 : decode cX10_becomeKitchen 99 = .ok (.iload_n 2, 1) := by decide +kernel
theorem dX10_becomeKitchen_100 : decode cX10_becomeKitchen 100 = .ok (.ireturn, 1) := by decide +kernel
theorem dX10_lookAtNow_0 : decode cX10_lookAtNow 0 = .ok (.aload_n 0, 1) := by decide +kernel
theorem dX10_lookAtNow_1 : decode cX10_lookAtNow 1 = .ok (.getfield 32, 3) := by decide +kernel
theorem dX10_lookAtNow_4 : decode cX10_lookAtNow 4 = .ok (.aload_n 0, 1) := by decide +kernel
theorem dX10_lookAtNow_5 : decode cX10_lookAtNow 5 = .ok (.getfield 10, 3) := by decide +kernel
theorem dX10_lookAtNow_8 : decode cX10_lookAtNow 8 = .ok (.aload_n 0, 1) := by decide +kernel
theorem dX10_lookAtNow_9 : decode cX10_lookAtNow 9 = .ok (.getfield 10, 3) := by decide +kernel
theorem dX10_lookAtNow_12 : decode cX10_lookAtNow 12 = .ok (.getfield 90, 3) := by decide +kernel
theorem dX10_lookAtNow_15 : decode cX10_lookAtNow 15 = .ok (.iconst (-1), 1) := by decide +kernel
theorem dX10_lookAtNow_16 : decode cX10_lookAtNow 16 = .ok (.invokevirtual 159, 3) := by decide +kernel
theorem dX10_lookAtNow_19 : decode cX10_lookAtNow 19 = .ok (.return_, 1) := by decide +kernel
theorem dX10_worthNow_0 : decode cX10_worthNow 0 = .ok (.aload_n 0, 1) := by decide +kernel
theorem dX10_worthNow_1 : decode cX10_worthNow 1 = .ok (.invokevirtual 119, 3) := by decide +kernel
theorem dX10_worthNow_4 : decode cX10_worthNow 4 = .ok (.aload_n 0, 1) := by decide +kernel
theorem dX10_worthNow_5 : decode cX10_worthNow 5 = .ok (.getfield 32, 3) := by decide +kernel
theorem dX10_worthNow_8 : decode cX10_worthNow 8 = .ok (.getfield 122, 3) := by decide +kernel
theorem dX10_worthNow_11 : decode cX10_worthNow 11 = .ok (.bipush 7, 2) := by decide +kernel
theorem dX10_worthNow_13 : decode cX10_worthNow 13 = .ok (.iaload, 1) := by decide +kernel
theorem dX10_worthNow_14 : decode cX10_worthNow 14 = .ok (.ireturn, 1) := by decide +kernel
theorem dX10_worthWith_0 : decode cX10_worthWith 0 = .ok (.aload_n 0, 1) := by decide +kernel
theorem dX10_worthWith_1 : decode cX10_worthWith 1 = .ok (.getfield 16, 3) := by decide +kernel
theorem dX10_worthWith_4 : decode cX10_worthWith 4 = .ok (.aload_n 0, 1) := by decide +kernel
theorem dX10_worthWith_5 : decode cX10_worthWith 5 = .ok (.getfield 10, 3) := by decide +kernel
theorem dX10_worthWith_8 : decode cX10_worthWith 8 = .ok (.invokevirtual 188, 3) := by decide +kernel
theorem dX10_worthWith_11 : decode cX10_worthWith 11 = .ok (.aload_n 0, 1) := by decide +kernel
theorem dX10_worthWith_12 : decode cX10_worthWith 12 = .ok (.getfield 16, 3) := by decide +kernel
theorem dX10_worthWith_15 : decode cX10_worthWith 15 = .ok (.getfield 107, 3) := by decide +kernel
theorem dX10_worthWith_18 : decode cX10_worthWith 18 = .ok (.iload_n 1, 1) := by decide +kernel
theorem dX10_worthWith_19 : decode cX10_worthWith 19 = .ok (.iload_n 2, 1) := by decide +kernel
theorem dX10_worthWith_20 : decode cX10_worthWith 20 = .ok (.iastore, 1) := by decide +kernel
theorem dX10_worthWith_21 : decode cX10_worthWith 21 = .ok (.aload_n 0, 1) := by decide +kernel
theorem dX10_worthWith_22 : decode cX10_worthWith 22 = .ok (.getfield 32, 3) := by decide +kernel
theorem dX10_worthWith_25 : decode cX10_worthWith 25 = .ok (.aload_n 0, 1) := by decide +kernel
theorem dX10_worthWith_26 : decode cX10_worthWith 26 = .ok (.getfield 16, 3) := by decide +kernel
theorem dX10_worthWith_29 : decode cX10_worthWith 29 = .ok (.aload_n 0, 1) := by decide +kernel
theorem dX10_worthWith_30 : decode cX10_worthWith 30 = .ok (.getfield 16, 3) := by decide +kernel
theorem dX10_worthWith_33 : decode cX10_worthWith 33 = .ok (.getfield 90, 3) := by decide +kernel
theorem dX10_worthWith_36 : decode cX10_worthWith 36 = .ok (.iconst (-1), 1) := by decide +kernel
theorem dX10_worthWith_37 : decode cX10_worthWith 37 = .ok (.invokevirtual 159, 3) := by decide +kernel
theorem dX10_worthWith_40 : decode cX10_worthWith 40 = .ok (.aload_n 0, 1) := by decide +kernel
theorem dX10_worthWith_41 : decode cX10_worthWith 41 = .ok (.getfield 32, 3) := by decide +kernel
theorem dX10_worthWith_44 : decode cX10_worthWith 44 = .ok (.getfield 122, 3) := by decide +kernel
theorem dX10_worthWith_47 : decode cX10_worthWith 47 = .ok (.bipush 7, 2) := by decide +kernel
theorem dX10_worthWith_49 : decode cX10_worthWith 49 = .ok (.iaload, 1) := by decide +kernel
theorem dX10_worthWith_50 : decode cX10_worthWith 50 = .ok (.ireturn, 1) := by decide +kernel
theorem dX10_findBest_0 : decode cX10_findBest 0 = .ok (.iload_n 1, 1) := by decide +kernel
theorem dX10_findBest_1 : decode cX10_findBest 1 = .ok (.iconst 2, 1) := by decide +kernel
theorem dX10_findBest_2 : decode cX10_findBest 2 = .ok (.if_icmp .eq 9, 3) := by decide +kernel
theorem dX10_findBest_5 : decode cX10_findBest 5 = .ok (.iload_n 1, 1) := by decide +kernel
theorem dX10_findBest_6 : decode cX10_findBest 6 = .ok (.bipush 7, 2) := by decide +kernel
theorem dX10_findBest_8 : decode cX10_findBest 8 = .ok (.if_icmp .ne 7, 3) := by decide +kernel
theorem dX10_findBest_11 : decode cX10_findBest 11 = .ok (.iconst 1, 1) := by decide +kernel
theorem dX10_findBest_12 : decode cX10_findBest 12 = .ok (.goto 4, 3) := by decide +kernel
theorem dX10_findBest_15 : decode cX10_findBest 15 = .ok (.iconst 0, 1) := by decide +kernel
theorem dX10_findBest_16 : decode cX10_findBest 16 = .ok (.istore_n 2, 1) := by decide +kernel
theorem dX10_findBest_17 : decode cX10_findBest 17 = .ok (.iconst 0, 1) := by decide +kernel
theorem dX10_findBest_18 : decode cX10_findBest 18 = .ok (.istore_n 3, 1) := by decide +kernel
theorem dX10_findBest_19 : decode cX10_findBest 19 = .ok (.iconst 1, 1) := by decide +kernel
theorem dX10_findBest_20 : decode cX10_findBest 20 = .ok (.istore 4, 2) := by decide +kernel
theorem dX10_findBest_22 : decode cX10_findBest 22 = .ok (.aload_n 0, 1) := by decide +kernel
theorem dX10_findBest_23 : decode cX10_findBest 23 = .ok (.getfield 39, 3) := by decide +kernel
theorem dX10_findBest_26 : decode cX10_findBest 26 = .ok (.aload_n 0, 1) := by decide +kernel
theorem dX10_findBest_27 : decode cX10_findBest 27 = .ok (.getfield 10, 3) := by decide +kernel
theorem dX10_findBest_30 : decode cX10_findBest 30 = .ok (.getfield 156, 3) := by decide +kernel
theorem dX10_findBest_33 : decode cX10_findBest 33 = .ok (.invokevirtual 212, 3) := by decide +kernel
theorem dX10_findBest_36 : decode cX10_findBest 36 = .ok (.iconst 0, 1) := by decide +kernel
theorem dX10_findBest_37 : decode cX10_findBest 37 = .ok (.istore 5, 2) := by decide +kernel
theorem dX10_findBest_39 : decode cX10_findBest 39 = .ok (.iload 5, 2) := by decide +kernel
theorem dX10_findBest_41 : decode cX10_findBest 41 = .ok (.sipush 720, 3) := by decide +kernel
theorem dX10_findBest_44 : decode cX10_findBest 44 = .ok (.if_icmp .ge 98, 3) := by decide +kernel
theorem dX10_findBest_47 : decode cX10_findBest 47 = .ok (.iload 4, 2) := by decide +kernel
theorem dX10_findBest_49 : decode cX10_findBest 49 = .ok (.ifCond .eq 93, 3) := by decide +kernel
theorem dX10_findBest_52 : decode cX10_findBest 52 = .ok (.aload_n 0, 1) := by decide +kernel
theorem dX10_findBest_53 : decode cX10_findBest 53 = .ok (.getfield 32, 3) := by decide +kernel
theorem dX10_findBest_56 : decode cX10_findBest 56 = .ok (.aload_n 0, 1) := by decide +kernel
theorem dX10_findBest_57 : decode cX10_findBest 57 = .ok (.getfield 10, 3) := by decide +kernel
theorem dX10_findBest_60 : decode cX10_findBest 60 = .ok (.aload_n 0, 1) := by decide +kernel
theorem dX10_findBest_61 : decode cX10_findBest 61 = .ok (.getfield 39, 3) := by decide +kernel
theorem dX10_findBest_64 : decode cX10_findBest 64 = .ok (.getfield 216, 3) := by decide +kernel
theorem dX10_findBest_67 : decode cX10_findBest 67 = .ok (.iconst (-1), 1) := by decide +kernel
theorem dX10_findBest_68 : decode cX10_findBest 68 = .ok (.invokevirtual 159, 3) := by decide +kernel
theorem dX10_findBest_71 : decode cX10_findBest 71 = .ok (.aload_n 0, 1) := by decide +kernel
theorem dX10_findBest_72 : decode cX10_findBest 72 = .ok (.getfield 32, 3) := by decide +kernel
theorem dX10_findBest_75 : decode cX10_findBest 75 = .ok (.getfield 122, 3) := by decide +kernel
theorem dX10_findBest_78 : decode cX10_findBest 78 = .ok (.iload_n 1, 1) := by decide +kernel
theorem dX10_findBest_79 : decode cX10_findBest 79 = .ok (.iaload, 1) := by decide +kernel
theorem dX10_findBest_80 : decode cX10_findBest 80 = .ok (.istore 6, 2) := by decide +kernel
theorem dX10_findBest_82 : decode cX10_findBest 82 = .ok (.iload 5, 2) := by decide +kernel
theorem dX10_findBest_84 : decode cX10_findBest 84 = .ok (.ifCond .eq 22, 3) := by decide +kernel
theorem dX10_findBest_87 : decode cX10_findBest 87 = .ok (.iload_n 2, 1) := by decide +kernel
theorem dX10_findBest_88 : decode cX10_findBest 88 = .ok (.ifCond .eq 12, 3) := by decide +kernel
theorem dX10_findBest_91 : decode cX10_findBest 91 = .ok (.iload 6, 2) := by decide +kernel
theorem dX10_findBest_93 : decode cX10_findBest 93 = .ok (.iload_n 3, 1) := by decide +kernel
theorem dX10_findBest_94 : decode cX10_findBest 94 = .ok (.if_icmp .le 33, 3) := by decide +kernel
theorem dX10_findBest_97 : decode cX10_findBest 97 = .ok (.goto 9, 3) := by decide +kernel
theorem dX10_findBest_100 : decode cX10_findBest 100 = .ok (.iload 6, 2) := by decide +kernel
theorem dX10_findBest_102 : decode cX10_findBest 102 = .ok (.iload_n 3, 1) := by decide +kernel
theorem dX10_findBest_103 : decode cX10_findBest 103 = .ok (.if_icmp .ge 24, 3) := by decide +kernel
theorem dX10_findBest_106 : decode cX10_findBest 106 = .ok (.iload 6, 2) := by decide +kernel
theorem dX10_findBest_108 : decode cX10_findBest 108 = .ok (.istore_n 3, 1) := by decide +kernel
theorem dX10_findBest_109 : decode cX10_findBest 109 = .ok (.aload_n 0, 1) := by decide +kernel
theorem dX10_findBest_110 : decode cX10_findBest 110 = .ok (.getfield 39, 3) := by decide +kernel
theorem dX10_findBest_113 : decode cX10_findBest 113 = .ok (.getfield 216, 3) := by decide +kernel
theorem dX10_findBest_116 : decode cX10_findBest 116 = .ok (.iconst 0, 1) := by decide +kernel
theorem dX10_findBest_117 : decode cX10_findBest 117 = .ok (.aload_n 0, 1) := by decide +kernel
theorem dX10_findBest_118 : decode cX10_findBest 118 = .ok (.getfield 43, 3) := by decide +kernel
theorem dX10_findBest_121 : decode cX10_findBest 121 = .ok (.iconst 0, 1) := by decide +kernel
theorem dX10_findBest_122 : decode cX10_findBest 122 = .ok (.bipush 6, 2) := by decide +kernel
theorem dX10_findBest_124 : decode cX10_findBest 124 = .ok (.invokestatic 219, 3) := by decide +kernel
theorem dX10_findBest_127 : decode cX10_findBest 127 = .ok (.aload_n 0, 1) := by decide +kernel
theorem dX10_findBest_128 : decode cX10_findBest 128 = .ok (.getfield 39, 3) := by decide +kernel
theorem dX10_findBest_131 : decode cX10_findBest 131 = .ok (.invokevirtual 225, 3) := by decide +kernel
theorem dX10_findBest_134 : decode cX10_findBest 134 = .ok (.istore 4, 2) := by decide +kernel
theorem dX10_findBest_136 : decode cX10_findBest 136 = .ok (.iinc 5 1, 3) := by decide +kernel
theorem dX10_findBest_139 : decode cX10_findBest 139 = .ok (.goto (-100), 3) := by decide +kernel
theorem dX10_findBest_142 : decode cX10_findBest 142 = .ok (.iload_n 3, 1) := by decide +kernel
theorem dX10_findBest_143 : decode cX10_findBest 143 = .ok (.ireturn, 1) := by decide +kernel
theorem dX10_findFitting_0 : decode cX10_findFitting 0 = .ok (.iconst 0, 1) := by decide +kernel
theorem dX10_findFitting_1 : decode cX10_findFitting 1 = .ok (.istore_n 1, 1) := by decide +kernel
theorem dX10_findFitting_2 : decode cX10_findFitting 2 = .ok (.iconst 1, 1) := by decide +kernel
theorem dX10_findFitting_3 : decode cX10_findFitting 3 = .ok (.istore_n 2, 1) := by decide +kernel
theorem dX10_findFitting_4 : decode cX10_findFitting 4 = .ok (.aload_n 0, 1) := by decide +kernel
theorem dX10_findFitting_5 : decode cX10_findFitting 5 = .ok (.getfield 39, 3) := by decide +kernel
theorem dX10_findFitting_8 : decode cX10_findFitting 8 = .ok (.aload_n 0, 1) := by decide +kernel
theorem dX10_findFitting_9 : decode cX10_findFitting 9 = .ok (.getfield 10, 3) := by decide +kernel
theorem dX10_findFitting_12 : decode cX10_findFitting 12 = .ok (.getfield 156, 3) := by decide +kernel
theorem dX10_findFitting_15 : decode cX10_findFitting 15 = .ok (.invokevirtual 212, 3) := by decide +kernel
theorem dX10_findFitting_18 : decode cX10_findFitting 18 = .ok (.iconst 0, 1) := by decide +kernel
theorem dX10_findFitting_19 : decode cX10_findFitting 19 = .ok (.istore_n 3, 1) := by decide +kernel
theorem dX10_findFitting_20 : decode cX10_findFitting 20 = .ok (.iload_n 3, 1) := by decide +kernel
theorem dX10_findFitting_21 : decode cX10_findFitting 21 = .ok (.sipush 720, 3) := by decide +kernel
theorem dX10_findFitting_24 : decode cX10_findFitting 24 = .ok (.if_icmp .ge 62, 3) := by decide +kernel
theorem dX10_findFitting_27 : decode cX10_findFitting 27 = .ok (.iload_n 2, 1) := by decide +kernel
theorem dX10_findFitting_28 : decode cX10_findFitting 28 = .ok (.ifCond .eq 58, 3) := by decide +kernel
theorem dX10_findFitting_31 : decode cX10_findFitting 31 = .ok (.aload_n 0, 1) := by decide +kernel
theorem dX10_findFitting_32 : decode cX10_findFitting 32 = .ok (.aload_n 0, 1) := by decide +kernel
theorem dX10_findFitting_33 : decode cX10_findFitting 33 = .ok (.getfield 39, 3) := by decide +kernel
theorem dX10_findFitting_36 : decode cX10_findFitting 36 = .ok (.getfield 216, 3) := by decide +kernel
theorem dX10_findFitting_39 : decode cX10_findFitting 39 = .ok (.invokevirtual 184, 3) := by decide +kernel
theorem dX10_findFitting_42 : decode cX10_findFitting 42 = .ok (.bipush (-9), 2) := by decide +kernel
theorem dX10_findFitting_44 : decode cX10_findFitting 44 = .ok (.if_icmp .ne 28, 3) := by decide +kernel
theorem dX10_findFitting_47 : decode cX10_findFitting 47 = .ok (.iload_n 1, 1) := by decide +kernel
theorem dX10_findFitting_48 : decode cX10_findFitting 48 = .ok (.ifCond .ne 21, 3) := by decide +kernel
theorem dX10_findFitting_51 : decode cX10_findFitting 51 = .ok (.aload_n 0, 1) := by decide +kernel
theorem dX10_findFitting_52 : decode cX10_findFitting 52 = .ok (.getfield 39, 3) := by decide +kernel
theorem dX10_findFitting_55 : decode cX10_findFitting 55 = .ok (.getfield 216, 3) := by decide +kernel
theorem dX10_findFitting_58 : decode cX10_findFitting 58 = .ok (.iconst 0, 1) := by decide +kernel
theorem dX10_findFitting_59 : decode cX10_findFitting 59 = .ok (.aload_n 0, 1) := by decide +kernel
theorem dX10_findFitting_60 : decode cX10_findFitting 60 = .ok (.getfield 43, 3) := by decide +kernel
theorem dX10_findFitting_63 : decode cX10_findFitting 63 = .ok (.iconst 0, 1) := by decide +kernel
theorem dX10_findFitting_64 : decode cX10_findFitting 64 = .ok (.bipush 6, 2) := by decide +kernel
theorem dX10_findFitting_66 : decode cX10_findFitting 66 = .ok (.invokestatic 219, 3) := by decide +kernel
theorem dX10_findFitting_69 : decode cX10_findFitting 69 = .ok (.iinc 1 1, 3) := by decide +kernel
theorem dX10_findFitting_72 : decode cX10_findFitting 72 = .ok (.aload_n 0, 1) := by decide +kernel
theorem dX10_findFitting_73 : decode cX10_findFitting 73 = .ok (.getfield 39, 3) := by decide +kernel
theorem dX10_findFitting_76 : decode cX10_findFitting 76 = .ok (.invokevirtual 225, 3) := by decide +kernel
theorem dX10_findFitting_79 : decode cX10_findFitting 79 = .ok (.istore_n 2, 1) := by decide +kernel
theorem dX10_findFitting_80 : decode cX10_findFitting 80 = .ok (.iinc 3 1, 3) := by decide +kernel
theorem dX10_findFitting_83 : decode cX10_findFitting 83 = .ok (.goto (-63), 3) := by decide +kernel
theorem dX10_findFitting_86 : decode cX10_findFitting 86 = .ok (.iload_n 1, 1) := by decide +kernel
theorem dX10_findFitting_87 : decode cX10_findFitting 87 = .ok (.ireturn, 1) := by decide +kernel
theorem dX10_firstNotSo_0 : decode cX10_firstNotSo 0 = .ok (.aload_n 0, 1) := by decide +kernel
theorem dX10_firstNotSo_1 : decode cX10_firstNotSo 1 = .ok (.getfield 32, 3) := by decide +kernel
theorem dX10_firstNotSo_4 : decode cX10_firstNotSo 4 = .ok (.aload_n 0, 1) := by decide +kernel
theorem dX10_firstNotSo_5 : decode cX10_firstNotSo 5 = .ok (.getfield 10, 3) := by decide +kernel
theorem dX10_firstNotSo_8 : decode cX10_firstNotSo 8 = .ok (.aload_n 1, 1) := by decide +kernel
theorem dX10_firstNotSo_9 : decode cX10_firstNotSo 9 = .ok (.iconst (-1), 1) := by decide +kernel
theorem dX10_firstNotSo_10 : decode cX10_firstNotSo 10 = .ok (.invokevirtual 159, 3) := by decide +kernel
theorem dX10_firstNotSo_13 : decode cX10_firstNotSo 13 = .ok (.iconst 0, 1) := by decide +kernel
theorem dX10_firstNotSo_14 : decode cX10_firstNotSo 14 = .ok (.istore_n 2, 1) := by decide +kernel
theorem dX10_firstNotSo_15 : decode cX10_firstNotSo 15 = .ok (.iload_n 2, 1) := by decide +kernel
theorem dX10_firstNotSo_16 : decode cX10_firstNotSo 16 = .ok (.aload_n 0, 1) := by decide +kernel
theorem dX10_firstNotSo_17 : decode cX10_firstNotSo 17 = .ok (.getfield 178, 3) := by decide +kernel
theorem dX10_firstNotSo_20 : decode cX10_firstNotSo 20 = .ok (.if_icmp .ge 42, 3) := by decide +kernel
theorem dX10_firstNotSo_23 : decode cX10_firstNotSo 23 = .ok (.iload_n 2, 1) := by decide +kernel
theorem dX10_firstNotSo_24 : decode cX10_firstNotSo 24 = .ok (.aload_n 0, 1) := by decide +kernel
theorem dX10_firstNotSo_25 : decode cX10_firstNotSo 25 = .ok (.getfield 10, 3) := by decide +kernel
theorem dX10_firstNotSo_28 : decode cX10_firstNotSo 28 = .ok (.getfield 156, 3) := by decide +kernel
theorem dX10_firstNotSo_31 : decode cX10_firstNotSo 31 = .ok (.if_icmp .ge 23, 3) := by decide +kernel
theorem dX10_firstNotSo_34 : decode cX10_firstNotSo 34 = .ok (.aload_n 0, 1) := by decide +kernel
theorem dX10_firstNotSo_35 : decode cX10_firstNotSo 35 = .ok (.getfield 32, 3) := by decide +kernel
theorem dX10_firstNotSo_38 : decode cX10_firstNotSo 38 = .ok (.getfield 137, 3) := by decide +kernel
theorem dX10_firstNotSo_41 : decode cX10_firstNotSo 41 = .ok (.aload_n 1, 1) := by decide +kernel
theorem dX10_firstNotSo_42 : decode cX10_firstNotSo 42 = .ok (.iload_n 2, 1) := by decide +kernel
theorem dX10_firstNotSo_43 : decode cX10_firstNotSo 43 = .ok (.iaload, 1) := by decide +kernel
theorem dX10_firstNotSo_44 : decode cX10_firstNotSo 44 = .ok (.iaload, 1) := by decide +kernel
theorem dX10_firstNotSo_45 : decode cX10_firstNotSo 45 = .ok (.aload_n 0, 1) := by decide +kernel
theorem dX10_firstNotSo_46 : decode cX10_firstNotSo 46 = .ok (.getfield 47, 3) := by decide +kernel
theorem dX10_firstNotSo_49 : decode cX10_firstNotSo 49 = .ok (.iload_n 2, 1) := by decide +kernel
theorem dX10_firstNotSo_50 : decode cX10_firstNotSo 50 = .ok (.iaload, 1) := by decide +kernel
theorem dX10_firstNotSo_51 : decode cX10_firstNotSo 51 = .ok (.if_icmp .eq 5, 3) := by decide +kernel
theorem dX10_firstNotSo_54 : decode cX10_firstNotSo 54 = .ok (.iload_n 2, 1) := by decide +kernel
theorem dX10_firstNotSo_55 : decode cX10_firstNotSo 55 = .ok (.ireturn, 1) := by decide +kernel
theorem dX10_firstNotSo_56 : decode cX10_firstNotSo 56 = .ok (.iinc 2 1, 3) := by decide +kernel
theorem dX10_firstNotSo_59 : decode cX10_firstNotSo 59 = .ok (.goto (-44), 3) := by decide +kernel
theorem dX10_firstNotSo_62 : decode cX10_firstNotSo 62 = .ok (.bipush (-9), 2) := by decide +kernel
theorem dX10_firstNotSo_64 : decode cX10_firstNotSo 64 = .ok (.ireturn, 1) := by decide +kernel
abbrev mi_X10_refuse : ob_MI := (yX10_refuse, ob_ws yX10_refuse cX10_refuse 3 (some .int), cX10_refuse, 3, (some .int), { frames := 0, cells := 0, slots := 0, locals := 0 })
theorem gf_X10_refuse_50 : ob_GF mi_X10_refuse 50 10 10 := ⟨RX10, TX10, 11, rfl, by decide, fun x h => List.mem_cons_of_mem _ (uw_X10 x h), List.mem_cons_of_mem _ tw_255⟩
noncomputable def f_X10_refuse (σ : ob_St) (p1 : Int32) : Option (Int32 × ob_St) :=
  ob_nm ((-p1) - 1) fun v_1 =>
  if v_1 < 0 then
    some (p1, σ)
  else
    if (6 : Int32) ≤ v_1 then
      some (p1, σ)
    else
      ob_ld σ 51 6 v_1 fun v_2 =>
      ob_sd σ 51 6 v_1 (v_2 + 1) fun σ3 =>
      some (p1, σ3)
set_option maxRecDepth 100000 in
set_option maxHeartbeats 4000000 in
theorem c_X10_refuse {g : ob_GT} {ad : Nat → Nat} {r : Int32} {σ' : ob_St} {σ : ob_St} {p1 : Int32} (hf : f_X10_refuse σ p1 = some (r, σ')) : ob_CT g (ob_X ad) mi_X10_refuse [.ref (ad 0), .int p1] σ (some (.int r)) σ' := by
  refine ob_ct (by decide +kernel) rfl (Nat.le_of_ble_eq_true rfl) ?_
  show ob_V g (ob_X ad) mi_X10_refuse (some (.int r)) σ' σ 0 [(0, .ref (ad 0)), (1, .int p1)] []
  refine vv_iload_n dX10_refuse_0 1 rfl rfl 1 rfl ?_
  refine vv_ineg dX10_refuse_1 2 rfl ?_
  refine vv_iconst dX10_refuse_2 1 rfl 3 rfl ?_
  refine vv_isub dX10_refuse_3 4 rfl ?_
  refine vv_nm hf (fun v_1 hf => ?_)
  refine vv_istore_n dX10_refuse_4 [(2, .int v_1), (0, .ref (ad 0)), (1, .int p1)] rfl (Nat.le_of_ble_eq_true rfl) rfl 5 rfl ?_
  refine vv_iload_n dX10_refuse_5 0 rfl rfl 6 rfl ?_
  refine vv_if_lt dX10_refuse_6 25 9 rfl rfl hf (fun hf => ?_) (fun hf => ?_)
  · refine vv_iload_n dX10_refuse_25 2 rfl rfl 26 rfl ?_
    exact vv_ireti rfl dX10_refuse_26 hf
  · refine vv_iload_n dX10_refuse_9 0 rfl rfl 10 rfl ?_
    refine vv_bipush dX10_refuse_10 6 rfl 12 rfl ?_
    refine vv_icmp_ge dX10_refuse_12 25 15 rfl rfl hf (fun hf => ?_) (fun hf => ?_)
    · refine vv_iload_n dX10_refuse_25 2 rfl rfl 26 rfl ?_
      exact vv_ireti rfl dX10_refuse_26 hf
    · refine vv_aload_n dX10_refuse_15 1 rfl rfl 16 rfl ?_
      refine vv_getR dX10_refuse_16 10 gf_X10_refuse_50 ob_l0 rfl rfl 19 rfl ?_
      refine vv_iload_n dX10_refuse_19 0 rfl rfl 20 rfl ?_
      refine vv_dup2 dX10_refuse_20 rfl rfl 21 rfl ?_
      refine vv_iald dX10_refuse_21 ob_l51 rfl 22 rfl hf (fun v_2 hf => ?_)
      refine vv_iconst dX10_refuse_22 1 rfl 23 rfl ?_
      refine vv_iadd dX10_refuse_23 24 rfl ?_
      refine vv_iast dX10_refuse_24 ob_l51 rfl 25 rfl hf (fun σ3 hf => ?_)
      refine vv_iload_n dX10_refuse_25 2 rfl rfl 26 rfl ?_
      exact vv_ireti rfl dX10_refuse_26 hf
abbrev mi_X10_refuseAbove : ob_MI := (yX10_refuseAbove, ob_ws yX10_refuseAbove cX10_refuseAbove 2 (some .int), cX10_refuseAbove, 2, (some .int), { frames := 1, cells := 0, slots := 0, locals := 22 })
theorem cv_X10_refuseAbove_53 : ob_CV mi_X10_refuseAbove mi_X10_refuse 53 RX10 1 := ob_cvI rfl rfl tw_283 tw_285 tw_0 tw_48 tw_286 ⟨rfl, rfl⟩ ⟨rfl, by decide +kernel, by decide +kernel, by decide +kernel⟩ ⟨Nat.le_of_ble_eq_true rfl, Nat.le_of_ble_eq_true rfl⟩
noncomputable def f_X10_refuseAbove (σ : ob_St) (p1 : Int32) : Option (Int32 × ob_St) :=
  ob_bd (f_X10_refuse σ p1) fun r1 σ2 =>
  some ((1000000000 - r1), σ2)
set_option maxRecDepth 100000 in
set_option maxHeartbeats 4000000 in
theorem c_X10_refuseAbove {g : ob_GT} {ad : Nat → Nat} {r : Int32} {σ' : ob_St} {σ : ob_St} {p1 : Int32} (hf : f_X10_refuseAbove σ p1 = some (r, σ')) : ob_CT g (ob_X ad) mi_X10_refuseAbove [.ref (ad 0), .int p1] σ (some (.int r)) σ' := by
  refine ob_ct (by decide +kernel) rfl (Nat.le_of_ble_eq_true rfl) ?_
  show ob_V g (ob_X ad) mi_X10_refuseAbove (some (.int r)) σ' σ 0 [(0, .ref (ad 0)), (1, .int p1)] []
  refine vv_ldc dX10_refuseAbove_0 1000000000 (List.mem_cons_of_mem _ tw_534) 2 rfl ?_
  refine vv_aload_n dX10_refuseAbove_2 0 rfl rfl 3 rfl ?_
  refine vv_iload_n dX10_refuseAbove_3 1 rfl rfl 4 rfl ?_
  refine vv_callV [.int p1] [.int 1000000000] (fun _ _ h => c_X10_refuse h) (ob_rec ob_l0 rfl rfl) cv_X10_refuseAbove_53 rfl (Nat.le_of_ble_eq_true rfl) 7 rfl dX10_refuseAbove_4 rfl hf (fun r1 σ2 hf => ?_)
  refine vv_isub dX10_refuseAbove_7 8 rfl ?_
  exact vv_ireti rfl dX10_refuseAbove_8 hf
abbrev mi_X10_isTotal : ob_MI := (yX10_isTotal, ob_ws yX10_isTotal cX10_isTotal 1 (some .boolean), cX10_isTotal, 1, (some .boolean), { frames := 0, cells := 0, slots := 0, locals := 0 })
noncomputable def f_X10_isTotal (σ : ob_St) (p0 : Int32) : Option (Int32 × ob_St) :=
  if p0 < 0 then
    ob_rb 0 σ
  else
    if (8 : Int32) ≤ p0 then
      ob_rb 0 σ
    else
      ob_rb 1 σ
set_option maxRecDepth 100000 in
set_option maxHeartbeats 4000000 in
theorem c_X10_isTotal {g : ob_GT} {ad : Nat → Nat} {r : Int32} {σ' : ob_St} {σ : ob_St} {p0 : Int32} (hf : f_X10_isTotal σ p0 = some (r, σ')) : ob_CT g (ob_X ad) mi_X10_isTotal [.int p0] σ (some (.int r)) σ' := by
  refine ob_ct (by decide +kernel) rfl (Nat.le_of_ble_eq_true rfl) ?_
  show ob_V g (ob_X ad) mi_X10_isTotal (some (.int r)) σ' σ 0 [(0, .int p0)] []
  refine vv_iload_n dX10_isTotal_0 0 rfl rfl 1 rfl ?_
  refine vv_if_lt dX10_isTotal_1 14 4 rfl rfl hf (fun hf => ?_) (fun hf => ?_)
  · refine vv_iconst dX10_isTotal_14 0 rfl 15 rfl ?_
    exact vv_iretz rfl dX10_isTotal_15 hf
  · refine vv_iload_n dX10_isTotal_4 0 rfl rfl 5 rfl ?_
    refine vv_bipush dX10_isTotal_5 8 rfl 7 rfl ?_
    refine vv_icmp_ge dX10_isTotal_7 14 10 rfl rfl hf (fun hf => ?_) (fun hf => ?_)
    · refine vv_iconst dX10_isTotal_14 0 rfl 15 rfl ?_
      exact vv_iretz rfl dX10_isTotal_15 hf
    · refine vv_iconst dX10_isTotal_10 1 rfl 11 rfl ?_
      refine vv_goto dX10_isTotal_11 15 rfl ?_
      exact vv_iretz rfl dX10_isTotal_15 hf
abbrev mi_X10_lookAtNow : ob_MI := (yX10_lookAtNow, ob_ws yX10_lookAtNow cX10_lookAtNow 1 none, cX10_lookAtNow, 1, none, { frames := 4, cells := 0, slots := 0, locals := 100 })
theorem gf_X10_lookAtNow_32 : ob_GF mi_X10_lookAtNow 32 10 5 := ⟨RX10, TX10, 11, rfl, by decide, fun x h => List.mem_cons_of_mem _ (uw_X10 x h), List.mem_cons_of_mem _ tw_250⟩
theorem gf_X10_lookAtNow_10 : ob_GF mi_X10_lookAtNow 10 10 0 := ⟨RX10, TX10, 11, rfl, by decide, fun x h => List.mem_cons_of_mem _ (uw_X10 x h), List.mem_cons_of_mem _ tw_245⟩
theorem gf_X10_lookAtNow_90 : ob_GF mi_X10_lookAtNow 90 3 6 := ⟨RX3, TX3, 9, rfl, by decide, fun x h => List.mem_cons_of_mem _ (uw_X3 x h), List.mem_cons_of_mem _ tw_100⟩
theorem cv_X10_lookAtNow_159 : ob_CV mi_X10_lookAtNow mi_X1_pass 159 RX1 3 := ob_cvI rfl rfl tw_539 tw_540 tw_541 tw_51 tw_542 ⟨rfl, rfl⟩ ⟨rfl, by decide +kernel, by decide +kernel, by decide +kernel⟩ ⟨Nat.le_of_ble_eq_true rfl, Nat.le_of_ble_eq_true rfl⟩
noncomputable def f_X10_lookAtNow (σ : ob_St) : Option (Unit × ob_St) :=
  ob_bd (f_X1_pass 1 7 σ (-1)) fun _ σ2 =>
  some ((), σ2)
set_option maxRecDepth 100000 in
set_option maxHeartbeats 4000000 in
theorem c_X10_lookAtNow {g : ob_GT} {ad : Nat → Nat} {r : Unit} {σ' : ob_St} {σ : ob_St} (hf : f_X10_lookAtNow σ = some (r, σ')) : ob_CT g (ob_X ad) mi_X10_lookAtNow [.ref (ad 0)] σ none σ' := by
  refine ob_ct (by decide +kernel) rfl (Nat.le_of_ble_eq_true rfl) ?_
  show ob_V g (ob_X ad) mi_X10_lookAtNow none σ' σ 0 [(0, .ref (ad 0))] []
  refine vv_aload_n dX10_lookAtNow_0 0 rfl rfl 1 rfl ?_
  refine vv_getR dX10_lookAtNow_1 5 gf_X10_lookAtNow_32 ob_l0 rfl rfl 4 rfl ?_
  refine vv_aload_n dX10_lookAtNow_4 0 rfl rfl 5 rfl ?_
  refine vv_getR dX10_lookAtNow_5 0 gf_X10_lookAtNow_10 ob_l0 rfl rfl 8 rfl ?_
  refine vv_aload_n dX10_lookAtNow_8 0 rfl rfl 9 rfl ?_
  refine vv_getR dX10_lookAtNow_9 0 gf_X10_lookAtNow_10 ob_l0 rfl rfl 12 rfl ?_
  refine vv_getR dX10_lookAtNow_12 6 gf_X10_lookAtNow_90 ob_l1 rfl rfl 15 rfl ?_
  refine vv_iconst dX10_lookAtNow_15 (-1) rfl 16 rfl ?_
  refine vv_callVu [.ref (ad 1), .ref (ad 7), .int (-1)] [] (fun _ _ h => c_X1_pass (Or.inl rfl) ⟨ob_l7, rfl⟩ h) (ob_rec ob_l30 rfl rfl) cv_X10_lookAtNow_159 rfl (Nat.le_of_ble_eq_true rfl) 19 rfl dX10_lookAtNow_16 rfl hf (fun _ σ2 hf => ?_)
  exact vv_ret rfl dX10_lookAtNow_19 hf
abbrev mi_X10_worthNow : ob_MI := (yX10_worthNow, ob_ws yX10_worthNow cX10_worthNow 1 (some .int), cX10_worthNow, 1, (some .int), { frames := 5, cells := 0, slots := 0, locals := 120 })
theorem cv_X10_worthNow_119 : ob_CV mi_X10_worthNow mi_X10_lookAtNow 119 RX10 0 := ob_cvI rfl rfl tw_535 tw_537 tw_5 tw_48 tw_538 ⟨rfl, rfl⟩ ⟨rfl, by decide +kernel, by decide +kernel, by decide +kernel⟩ ⟨Nat.le_of_ble_eq_true rfl, Nat.le_of_ble_eq_true rfl⟩
theorem gf_X10_worthNow_32 : ob_GF mi_X10_worthNow 32 10 5 := ⟨RX10, TX10, 11, rfl, by decide, fun x h => List.mem_cons_of_mem _ (uw_X10 x h), List.mem_cons_of_mem _ tw_250⟩
theorem gf_X10_worthNow_122 : ob_GF mi_X10_worthNow 122 1 10 := ⟨RX1, TX1, 11, rfl, by decide, fun x h => List.mem_cons_of_mem _ (uw_X1 x h), List.mem_cons_of_mem _ tw_207⟩
noncomputable def f_X10_worthNow (σ : ob_St) : Option (Int32 × ob_St) :=
  ob_bd (f_X10_lookAtNow σ) fun _ σ2 =>
  ob_ld σ2 46 8 7 fun v_3 =>
  some (v_3, σ2)
set_option maxRecDepth 100000 in
set_option maxHeartbeats 4000000 in
theorem c_X10_worthNow {g : ob_GT} {ad : Nat → Nat} {r : Int32} {σ' : ob_St} {σ : ob_St} (hf : f_X10_worthNow σ = some (r, σ')) : ob_CT g (ob_X ad) mi_X10_worthNow [.ref (ad 0)] σ (some (.int r)) σ' := by
  refine ob_ct (by decide +kernel) rfl (Nat.le_of_ble_eq_true rfl) ?_
  show ob_V g (ob_X ad) mi_X10_worthNow (some (.int r)) σ' σ 0 [(0, .ref (ad 0))] []
  refine vv_aload_n dX10_worthNow_0 0 rfl rfl 1 rfl ?_
  refine vv_callVu [] [] (fun _ _ h => c_X10_lookAtNow h) (ob_rec ob_l0 rfl rfl) cv_X10_worthNow_119 rfl (Nat.le_of_ble_eq_true rfl) 4 rfl dX10_worthNow_1 rfl hf (fun _ σ2 hf => ?_)
  refine vv_aload_n dX10_worthNow_4 0 rfl rfl 5 rfl ?_
  refine vv_getR dX10_worthNow_5 5 gf_X10_worthNow_32 ob_l0 rfl rfl 8 rfl ?_
  refine vv_getR dX10_worthNow_8 10 gf_X10_worthNow_122 ob_l30 rfl rfl 11 rfl ?_
  refine vv_bipush dX10_worthNow_11 7 rfl 13 rfl ?_
  refine vv_iald dX10_worthNow_13 ob_l46 rfl 14 rfl hf (fun v_3 hf => ?_)
  exact vv_ireti rfl dX10_worthNow_14 hf
abbrev mi_X10_worthWith : ob_MI := (yX10_worthWith, ob_ws yX10_worthWith cX10_worthWith 3 (some .int), cX10_worthWith, 3, (some .int), { frames := 4, cells := 0, slots := 0, locals := 100 })
theorem gf_X10_worthWith_16 : ob_GF mi_X10_worthWith 16 10 1 := ⟨RX10, TX10, 11, rfl, by decide, fun x h => List.mem_cons_of_mem _ (uw_X10 x h), List.mem_cons_of_mem _ tw_246⟩
theorem gf_X10_worthWith_10 : ob_GF mi_X10_worthWith 10 10 0 := ⟨RX10, TX10, 11, rfl, by decide, fun x h => List.mem_cons_of_mem _ (uw_X10 x h), List.mem_cons_of_mem _ tw_245⟩
theorem cv_X10_worthWith_188 : ob_CV mi_X10_worthWith mi_X3_takeOver 188 RX3 1 := ob_cvI rfl rfl tw_427 tw_428 tw_429 tw_49 tw_430 ⟨rfl, rfl⟩ ⟨rfl, by decide +kernel, by decide +kernel, by decide +kernel⟩ ⟨Nat.le_of_ble_eq_true rfl, Nat.le_of_ble_eq_true rfl⟩
theorem gf_X10_worthWith_107 : ob_GF mi_X10_worthWith 107 3 8 := ⟨RX3, TX3, 9, rfl, by decide, fun x h => List.mem_cons_of_mem _ (uw_X3 x h), List.mem_cons_of_mem _ tw_105⟩
theorem gf_X10_worthWith_32 : ob_GF mi_X10_worthWith 32 10 5 := ⟨RX10, TX10, 11, rfl, by decide, fun x h => List.mem_cons_of_mem _ (uw_X10 x h), List.mem_cons_of_mem _ tw_250⟩
theorem gf_X10_worthWith_90 : ob_GF mi_X10_worthWith 90 3 6 := ⟨RX3, TX3, 9, rfl, by decide, fun x h => List.mem_cons_of_mem _ (uw_X3 x h), List.mem_cons_of_mem _ tw_100⟩
theorem cv_X10_worthWith_159 : ob_CV mi_X10_worthWith mi_X1_pass 159 RX1 3 := ob_cvI rfl rfl tw_539 tw_540 tw_541 tw_51 tw_542 ⟨rfl, rfl⟩ ⟨rfl, by decide +kernel, by decide +kernel, by decide +kernel⟩ ⟨Nat.le_of_ble_eq_true rfl, Nat.le_of_ble_eq_true rfl⟩
theorem gf_X10_worthWith_122 : ob_GF mi_X10_worthWith 122 1 10 := ⟨RX1, TX1, 11, rfl, by decide, fun x h => List.mem_cons_of_mem _ (uw_X1 x h), List.mem_cons_of_mem _ tw_207⟩
noncomputable def f_X10_worthWith (σ : ob_St) (p1 : Int32) (p2 : Int32) : Option (Int32 × ob_St) :=
  ob_bd (f_X3_takeOver 10 1 σ) fun _ σ2 =>
  ob_sd σ2 18 6 p1 p2 fun σ3 =>
  ob_bd (f_X1_pass 10 16 σ3 (-1)) fun _ σ5 =>
  ob_ld σ5 46 8 7 fun v_6 =>
  some (v_6, σ5)
set_option maxRecDepth 100000 in
set_option maxHeartbeats 4000000 in
theorem c_X10_worthWith {g : ob_GT} {ad : Nat → Nat} {r : Int32} {σ' : ob_St} {σ : ob_St} {p1 : Int32} {p2 : Int32} (hf : f_X10_worthWith σ p1 p2 = some (r, σ')) : ob_CT g (ob_X ad) mi_X10_worthWith [.ref (ad 0), .int p1, .int p2] σ (some (.int r)) σ' := by
  refine ob_ct (by decide +kernel) rfl (Nat.le_of_ble_eq_true rfl) ?_
  show ob_V g (ob_X ad) mi_X10_worthWith (some (.int r)) σ' σ 0 [(0, .ref (ad 0)), (1, .int p1), (2, .int p2)] []
  refine vv_aload_n dX10_worthWith_0 0 rfl rfl 1 rfl ?_
  refine vv_getR dX10_worthWith_1 1 gf_X10_worthWith_16 ob_l0 rfl rfl 4 rfl ?_
  refine vv_aload_n dX10_worthWith_4 0 rfl rfl 5 rfl ?_
  refine vv_getR dX10_worthWith_5 0 gf_X10_worthWith_10 ob_l0 rfl rfl 8 rfl ?_
  refine vv_callVu [.ref (ad 1)] [] (fun _ _ h => c_X3_takeOver (Or.inr (Or.inl rfl)) (Or.inl rfl) h) (ob_rec ob_l10 rfl rfl) cv_X10_worthWith_188 rfl (Nat.le_of_ble_eq_true rfl) 11 rfl dX10_worthWith_8 rfl hf (fun _ σ2 hf => ?_)
  refine vv_aload_n dX10_worthWith_11 0 rfl rfl 12 rfl ?_
  refine vv_getR dX10_worthWith_12 1 gf_X10_worthWith_16 ob_l0 rfl rfl 15 rfl ?_
  refine vv_getR dX10_worthWith_15 8 gf_X10_worthWith_107 ob_l10 rfl rfl 18 rfl ?_
  refine vv_iload_n dX10_worthWith_18 1 rfl rfl 19 rfl ?_
  refine vv_iload_n dX10_worthWith_19 2 rfl rfl 20 rfl ?_
  refine vv_iast dX10_worthWith_20 ob_l18 rfl 21 rfl hf (fun σ3 hf => ?_)
  refine vv_aload_n dX10_worthWith_21 0 rfl rfl 22 rfl ?_
  refine vv_getR dX10_worthWith_22 5 gf_X10_worthWith_32 ob_l0 rfl rfl 25 rfl ?_
  refine vv_aload_n dX10_worthWith_25 0 rfl rfl 26 rfl ?_
  refine vv_getR dX10_worthWith_26 1 gf_X10_worthWith_16 ob_l0 rfl rfl 29 rfl ?_
  refine vv_aload_n dX10_worthWith_29 0 rfl rfl 30 rfl ?_
  refine vv_getR dX10_worthWith_30 1 gf_X10_worthWith_16 ob_l0 rfl rfl 33 rfl ?_
  refine vv_getR dX10_worthWith_33 6 gf_X10_worthWith_90 ob_l10 rfl rfl 36 rfl ?_
  refine vv_iconst dX10_worthWith_36 (-1) rfl 37 rfl ?_
  refine vv_callVu [.ref (ad 10), .ref (ad 16), .int (-1)] [] (fun _ _ h => c_X1_pass (Or.inr (Or.inl rfl)) ⟨ob_l16, rfl⟩ h) (ob_rec ob_l30 rfl rfl) cv_X10_worthWith_159 rfl (Nat.le_of_ble_eq_true rfl) 40 rfl dX10_worthWith_37 rfl hf (fun _ σ5 hf => ?_)
  refine vv_aload_n dX10_worthWith_40 0 rfl rfl 41 rfl ?_
  refine vv_getR dX10_worthWith_41 5 gf_X10_worthWith_32 ob_l0 rfl rfl 44 rfl ?_
  refine vv_getR dX10_worthWith_44 10 gf_X10_worthWith_122 ob_l30 rfl rfl 47 rfl ?_
  refine vv_bipush dX10_worthWith_47 7 rfl 49 rfl ?_
  refine vv_iald dX10_worthWith_49 ob_l46 rfl 50 rfl hf (fun v_6 hf => ?_)
  exact vv_ireti rfl dX10_worthWith_50 hf
abbrev mi_X10_firstNotSo : ob_MI := (yX10_firstNotSo, ob_ws yX10_firstNotSo cX10_firstNotSo 3 (some .int), cX10_firstNotSo, 3, (some .int), { frames := 4, cells := 0, slots := 0, locals := 100 })
theorem gf_X10_firstNotSo_32 : ob_GF mi_X10_firstNotSo 32 10 5 := ⟨RX10, TX10, 11, rfl, by decide, fun x h => List.mem_cons_of_mem _ (uw_X10 x h), List.mem_cons_of_mem _ tw_250⟩
theorem gf_X10_firstNotSo_10 : ob_GF mi_X10_firstNotSo 10 10 0 := ⟨RX10, TX10, 11, rfl, by decide, fun x h => List.mem_cons_of_mem _ (uw_X10 x h), List.mem_cons_of_mem _ tw_245⟩
theorem cv_X10_firstNotSo_159 : ob_CV mi_X10_firstNotSo mi_X1_pass 159 RX1 3 := ob_cvI rfl rfl tw_539 tw_540 tw_541 tw_51 tw_542 ⟨rfl, rfl⟩ ⟨rfl, by decide +kernel, by decide +kernel, by decide +kernel⟩ ⟨Nat.le_of_ble_eq_true rfl, Nat.le_of_ble_eq_true rfl⟩
theorem gf_X10_firstNotSo_178 : ob_GF mi_X10_firstNotSo 178 10 9 := ⟨RX10, TX10, 11, rfl, by decide, fun x h => List.mem_cons_of_mem _ (uw_X10 x h), List.mem_cons_of_mem _ tw_254⟩
theorem gf_X10_firstNotSo_156 : ob_GF mi_X10_firstNotSo 156 3 0 := ⟨RX3, TX3, 9, rfl, by decide, fun x h => List.mem_cons_of_mem _ (uw_X3 x h), List.mem_cons_of_mem _ tw_83⟩
theorem gf_X10_firstNotSo_137 : ob_GF mi_X10_firstNotSo 137 1 7 := ⟨RX1, TX1, 11, rfl, by decide, fun x h => List.mem_cons_of_mem _ (uw_X1 x h), List.mem_cons_of_mem _ tw_201⟩
theorem gf_X10_firstNotSo_47 : ob_GF mi_X10_firstNotSo 47 10 8 := ⟨RX10, TX10, 11, rfl, by decide, fun x h => List.mem_cons_of_mem _ (uw_X10 x h), List.mem_cons_of_mem _ tw_253⟩
noncomputable def L_X10_firstNotSo_15 (a : Nat) : Nat → ob_St → Int32 → Option (Int32 × ob_St)
  | 0, _, _ => none
  | n + 1, σ, v2 =>
    if (σ 0 9) ≤ v2 then
      some ((-9), σ)
    else
      if (σ 1 0) ≤ v2 then
        some (v2, σ)
      else
        ob_ld σ a 6 v2 fun v_3 =>
        ob_ld σ 43 6 v_3 fun v_4 =>
        ob_ld σ 50 12 v2 fun v_5 =>
        if v_4 = v_5 then
          L_X10_firstNotSo_15 a n σ (v2 + 1)
        else
          some (v2, σ)
noncomputable def f_X10_firstNotSo (a : Nat) (σ : ob_St) : Option (Int32 × ob_St) :=
  ob_bd (f_X1_pass 1 a σ (-1)) fun _ σ2 =>
  L_X10_firstNotSo_15 a 1000 σ2 0
set_option maxRecDepth 100000 in
set_option maxHeartbeats 4000000 in
theorem l_X10_firstNotSo_15 {g : ob_GT} {ad : Nat → Nat} {a : Nat} (ha : a < 52 ∧ ob_xsh a = .inl 6) {r : Int32} {σ' : ob_St} : ∀ (n : Nat) {σ : ob_St} {v2 : Int32}, L_X10_firstNotSo_15 a n σ v2 = some (r, σ') → ob_V g (ob_X ad) mi_X10_firstNotSo (some (.int r)) σ' σ 15 [(0, .ref (ad 0)), (1, .ref (ad a)), (2, .int v2)] [] := by
  intro n
  induction n with
  | zero => intro σ v2 hf; exact absurd hf (fun h => by cases h)
  | succ n ih =>
    intro σ v2 hf
    refine vv_iload_n dX10_firstNotSo_15 2 rfl rfl 16 rfl ?_
    refine vv_aload_n dX10_firstNotSo_16 0 rfl rfl 17 rfl ?_
    refine vv_getI dX10_firstNotSo_17 9 gf_X10_firstNotSo_178 ob_l0 rfl rfl 20 rfl ?_
    refine vv_icmp_ge dX10_firstNotSo_20 62 23 rfl rfl hf (fun hf => ?_) (fun hf => ?_)
    · refine vv_bipush dX10_firstNotSo_62 (-9) rfl 64 rfl ?_
      exact vv_ireti rfl dX10_firstNotSo_64 hf
    · refine vv_iload_n dX10_firstNotSo_23 2 rfl rfl 24 rfl ?_
      refine vv_aload_n dX10_firstNotSo_24 0 rfl rfl 25 rfl ?_
      refine vv_getR dX10_firstNotSo_25 0 gf_X10_firstNotSo_10 ob_l0 rfl rfl 28 rfl ?_
      refine vv_getI dX10_firstNotSo_28 0 gf_X10_firstNotSo_156 ob_l1 rfl rfl 31 rfl ?_
      refine vv_icmp_ge dX10_firstNotSo_31 54 34 rfl rfl hf (fun hf => ?_) (fun hf => ?_)
      · refine vv_iload_n dX10_firstNotSo_54 2 rfl rfl 55 rfl ?_
        exact vv_ireti rfl dX10_firstNotSo_55 hf
      · refine vv_aload_n dX10_firstNotSo_34 0 rfl rfl 35 rfl ?_
        refine vv_getR dX10_firstNotSo_35 5 gf_X10_firstNotSo_32 ob_l0 rfl rfl 38 rfl ?_
        refine vv_getR dX10_firstNotSo_38 7 gf_X10_firstNotSo_137 ob_l30 rfl rfl 41 rfl ?_
        refine vv_aload_n dX10_firstNotSo_41 1 rfl rfl 42 rfl ?_
        refine vv_iload_n dX10_firstNotSo_42 2 rfl rfl 43 rfl ?_
        refine vv_iald dX10_firstNotSo_43 ha.1 ha.2 44 rfl hf (fun v_3 hf => ?_)
        refine vv_iald dX10_firstNotSo_44 ob_l43 rfl 45 rfl hf (fun v_4 hf => ?_)
        refine vv_aload_n dX10_firstNotSo_45 0 rfl rfl 46 rfl ?_
        refine vv_getR dX10_firstNotSo_46 8 gf_X10_firstNotSo_47 ob_l0 rfl rfl 49 rfl ?_
        refine vv_iload_n dX10_firstNotSo_49 2 rfl rfl 50 rfl ?_
        refine vv_iald dX10_firstNotSo_50 ob_l50 rfl 51 rfl hf (fun v_5 hf => ?_)
        refine vv_icmp_eq dX10_firstNotSo_51 56 54 rfl rfl hf (fun hf => ?_) (fun hf => ?_)
        · refine vv_iinc dX10_firstNotSo_56 (v2 + 1) 2 [(2, .int (v2 + 1)), (0, .ref (ad 0)), (1, .ref (ad a))] rfl rfl (Nat.le_of_ble_eq_true rfl) rfl 59 rfl ?_
          refine vv_goto dX10_firstNotSo_59 15 rfl ?_
          refine vv_sub [1, 2, 0] [(0, .ref (ad 0)), (1, .ref (ad a)), (2, .int (v2 + 1))] rfl ?_
          exact ih hf
        · refine vv_iload_n dX10_firstNotSo_54 2 rfl rfl 55 rfl ?_
          exact vv_ireti rfl dX10_firstNotSo_55 hf
set_option maxRecDepth 100000 in
set_option maxHeartbeats 4000000 in
theorem c_X10_firstNotSo {g : ob_GT} {ad : Nat → Nat} {a : Nat} (ha : a < 52 ∧ ob_xsh a = .inl 6) {r : Int32} {σ' : ob_St} {σ : ob_St} (hf : f_X10_firstNotSo a σ = some (r, σ')) : ob_CT g (ob_X ad) mi_X10_firstNotSo [.ref (ad 0), .ref (ad a)] σ (some (.int r)) σ' := by
  refine ob_ct (by decide +kernel) rfl (Nat.le_of_ble_eq_true rfl) ?_
  show ob_V g (ob_X ad) mi_X10_firstNotSo (some (.int r)) σ' σ 0 [(0, .ref (ad 0)), (1, .ref (ad a))] []
  refine vv_aload_n dX10_firstNotSo_0 0 rfl rfl 1 rfl ?_
  refine vv_getR dX10_firstNotSo_1 5 gf_X10_firstNotSo_32 ob_l0 rfl rfl 4 rfl ?_
  refine vv_aload_n dX10_firstNotSo_4 0 rfl rfl 5 rfl ?_
  refine vv_getR dX10_firstNotSo_5 0 gf_X10_firstNotSo_10 ob_l0 rfl rfl 8 rfl ?_
  refine vv_aload_n dX10_firstNotSo_8 1 rfl rfl 9 rfl ?_
  refine vv_iconst dX10_firstNotSo_9 (-1) rfl 10 rfl ?_
  refine vv_callVu [.ref (ad 1), .ref (ad a), .int (-1)] [] (fun _ _ h => c_X1_pass (Or.inl rfl) ha h) (ob_rec ob_l30 rfl rfl) cv_X10_firstNotSo_159 rfl (Nat.le_of_ble_eq_true rfl) 13 rfl dX10_firstNotSo_10 rfl hf (fun _ σ2 hf => ?_)
  refine vv_iconst dX10_firstNotSo_13 0 rfl 14 rfl ?_
  refine vv_istore_n dX10_firstNotSo_14 [(2, .int 0), (0, .ref (ad 0)), (1, .ref (ad a))] rfl (Nat.le_of_ble_eq_true rfl) rfl 15 rfl ?_
  refine vv_sub [1, 2, 0] [(0, .ref (ad 0)), (1, .ref (ad a)), (2, .int 0)] rfl ?_
  exact l_X10_firstNotSo_15 ha 1000 hf
abbrev mi_X10_findBest : ob_MI := (yX10_findBest, ob_ws yX10_findBest cX10_findBest 7 (some .int), cX10_findBest, 7, (some .int), { frames := 4, cells := 0, slots := 0, locals := 100 })
theorem gf_X10_findBest_39 : ob_GF mi_X10_findBest 39 10 6 := ⟨RX10, TX10, 11, rfl, by decide, fun x h => List.mem_cons_of_mem _ (uw_X10 x h), List.mem_cons_of_mem _ tw_251⟩
theorem gf_X10_findBest_10 : ob_GF mi_X10_findBest 10 10 0 := ⟨RX10, TX10, 11, rfl, by decide, fun x h => List.mem_cons_of_mem _ (uw_X10 x h), List.mem_cons_of_mem _ tw_245⟩
theorem gf_X10_findBest_156 : ob_GF mi_X10_findBest 156 3 0 := ⟨RX3, TX3, 9, rfl, by decide, fun x h => List.mem_cons_of_mem _ (uw_X3 x h), List.mem_cons_of_mem _ tw_83⟩
theorem cv_X10_findBest_212 : ob_CV mi_X10_findBest mi_X5_start 212 RX5 1 := ob_cvI rfl rfl tw_644 tw_645 tw_646 tw_58 tw_647 ⟨rfl, rfl⟩ ⟨rfl, by decide +kernel, by decide +kernel, by decide +kernel⟩ ⟨Nat.le_of_ble_eq_true rfl, Nat.le_of_ble_eq_true rfl⟩
theorem gf_X10_findBest_32 : ob_GF mi_X10_findBest 32 10 5 := ⟨RX10, TX10, 11, rfl, by decide, fun x h => List.mem_cons_of_mem _ (uw_X10 x h), List.mem_cons_of_mem _ tw_250⟩
theorem gf_X10_findBest_216 : ob_GF mi_X10_findBest 216 5 0 := ⟨RX5, TX5, 2, rfl, by decide, fun x h => List.mem_cons_of_mem _ (uw_X5 x h), List.mem_cons_of_mem _ tw_238⟩
theorem cv_X10_findBest_159 : ob_CV mi_X10_findBest mi_X1_pass 159 RX1 3 := ob_cvI rfl rfl tw_539 tw_540 tw_541 tw_51 tw_542 ⟨rfl, rfl⟩ ⟨rfl, by decide +kernel, by decide +kernel, by decide +kernel⟩ ⟨Nat.le_of_ble_eq_true rfl, Nat.le_of_ble_eq_true rfl⟩
theorem gf_X10_findBest_122 : ob_GF mi_X10_findBest 122 1 10 := ⟨RX1, TX1, 11, rfl, by decide, fun x h => List.mem_cons_of_mem _ (uw_X1 x h), List.mem_cons_of_mem _ tw_207⟩
theorem gf_X10_findBest_43 : ob_GF mi_X10_findBest 43 10 7 := ⟨RX10, TX10, 11, rfl, by decide, fun x h => List.mem_cons_of_mem _ (uw_X10 x h), List.mem_cons_of_mem _ tw_252⟩
theorem cp_X10_findBest_219 : Cond.methodLink (mi_X10_findBest).1.cls 219 arraycopyName ∈ (mi_X10_findBest).2.1 ∧ Cond.native arraycopyName ∈ (mi_X10_findBest).2.1 ∧ Cond.static arraycopyName ∈ (mi_X10_findBest).2.1 ∧ Cond.initialized "java/lang/System" ∈ (mi_X10_findBest).2.1 := ⟨List.mem_cons_of_mem _ tw_648, List.mem_cons_of_mem _ tw_433, List.mem_cons_of_mem _ tw_432, List.mem_cons_of_mem _ tw_66⟩
theorem cv_X10_findBest_225 : ob_CV mi_X10_findBest mi_X5_advance 225 RX5 0 := ob_cvI rfl rfl tw_649 tw_650 tw_651 tw_58 tw_652 ⟨rfl, rfl⟩ ⟨rfl, by decide +kernel, by decide +kernel, by decide +kernel⟩ ⟨Nat.le_of_ble_eq_true rfl, Nat.le_of_ble_eq_true rfl⟩
noncomputable def J_X10_findBest_127_39 (rec : ob_St → Int32 → Int32 → Int32 → Int32 → Int32 → Option (Int32 × ob_St)) (σ : ob_St) (v1 : Int32) (v2 : Int32) (v3 : Int32) (v5 : Int32) : Option (Int32 × ob_St) :=
  ob_bd (f_X5_advance σ) fun r7 σ8 =>
  rec σ8 v1 v2 v3 r7 (v5 + 1)
noncomputable def J_X10_findBest_106_39 (rec : ob_St → Int32 → Int32 → Int32 → Int32 → Int32 → Option (Int32 × ob_St)) (σ : ob_St) (v1 : Int32) (v2 : Int32) (v5 : Int32) (v6 : Int32) : Option (Int32 × ob_St) :=
  ob_cp σ 48 49 6 fun σ6 =>
  J_X10_findBest_127_39 rec σ6 v1 v2 v6 v5
noncomputable def L_X10_findBest_39 : Nat → ob_St → Int32 → Int32 → Int32 → Int32 → Int32 → Option (Int32 × ob_St)
  | 0, _, _, _, _, _, _ => none
  | n + 1, σ, v1, v2, v3, v4, v5 =>
    if (720 : Int32) ≤ v5 then
      some (v3, σ)
    else
      if v4 = 0 then
        some (v3, σ)
      else
        ob_bd (f_X1_pass 1 48 σ (-1)) fun _ σ4 =>
        ob_ld σ4 46 8 v1 fun v_5 =>
        if v5 = 0 then
          J_X10_findBest_106_39 (fun σ v1 v2 v3 v4 v5 => L_X10_findBest_39 n σ v1 v2 v3 v4 v5) σ4 v1 v2 v5 v_5
        else
          if v2 = 0 then
            if v3 ≤ v_5 then
              J_X10_findBest_127_39 (fun σ v1 v2 v3 v4 v5 => L_X10_findBest_39 n σ v1 v2 v3 v4 v5) σ4 v1 v2 v3 v5
            else
              J_X10_findBest_106_39 (fun σ v1 v2 v3 v4 v5 => L_X10_findBest_39 n σ v1 v2 v3 v4 v5) σ4 v1 v2 v5 v_5
          else
            if v_5 ≤ v3 then
              J_X10_findBest_127_39 (fun σ v1 v2 v3 v4 v5 => L_X10_findBest_39 n σ v1 v2 v3 v4 v5) σ4 v1 v2 v3 v5
            else
              J_X10_findBest_106_39 (fun σ v1 v2 v3 v4 v5 => L_X10_findBest_39 n σ v1 v2 v3 v4 v5) σ4 v1 v2 v5 v_5
noncomputable def J_X10_findBest_16 (σ : ob_St) (v1 : Int32) (w0 : Int32) : Option (Int32 × ob_St) :=
  ob_bd (f_X5_start σ (σ 1 0)) fun _ σ2 =>
  L_X10_findBest_39 1000 σ2 v1 w0 0 1 0
noncomputable def J_X10_findBest_11 (σ : ob_St) (v1 : Int32) : Option (Int32 × ob_St) :=
  J_X10_findBest_16 σ v1 1
noncomputable def f_X10_findBest (σ : ob_St) (p1 : Int32) : Option (Int32 × ob_St) :=
  if p1 = 2 then
    J_X10_findBest_11 σ p1
  else
    if p1 = 7 then
      J_X10_findBest_11 σ p1
    else
      J_X10_findBest_16 σ p1 0
set_option maxRecDepth 100000 in
set_option maxHeartbeats 4000000 in
theorem j_X10_findBest_127_39 {g : ob_GT} {ad : Nat → Nat} {r : Int32} {σ' : ob_St} {σ : ob_St} {v1 : Int32} {v2 : Int32} {v3 : Int32} {v5 : Int32} {rec : ob_St → Int32 → Int32 → Int32 → Int32 → Int32 → Option (Int32 × ob_St)} (hrec : ∀ {σ : ob_St} {v1 : Int32} {v2 : Int32} {v3 : Int32} {v4 : Int32} {v5 : Int32}, rec σ v1 v2 v3 v4 v5 = some (r, σ') → ob_V g (ob_X ad) mi_X10_findBest (some (.int r)) σ' σ 39 [(0, .ref (ad 0)), (1, .int v1), (2, .int v2), (3, .int v3), (4, .int v4), (5, .int v5)] []) (hf : J_X10_findBest_127_39 rec σ v1 v2 v3 v5 = some (r, σ')) : ob_V g (ob_X ad) mi_X10_findBest (some (.int r)) σ' σ 127 [(0, .ref (ad 0)), (1, .int v1), (2, .int v2), (3, .int v3), (5, .int v5)] [] := by
  refine vv_aload_n dX10_findBest_127 0 rfl rfl 128 rfl ?_
  refine vv_getR dX10_findBest_128 6 gf_X10_findBest_39 ob_l0 rfl rfl 131 rfl ?_
  refine vv_callV [] [] (fun _ _ h => c_X5_advance h) (ob_rec ob_l47 rfl rfl) cv_X10_findBest_225 rfl (Nat.le_of_ble_eq_true rfl) 134 rfl dX10_findBest_131 rfl hf (fun r7 σ8 hf => ?_)
  refine vv_istore dX10_findBest_134 [(4, .int r7), (0, .ref (ad 0)), (1, .int v1), (2, .int v2), (3, .int v3), (5, .int v5)] (Nat.le_of_ble_eq_true rfl) rfl 136 rfl ?_
  refine vv_iinc dX10_findBest_136 (v5 + 1) 5 [(5, .int (v5 + 1)), (4, .int r7), (0, .ref (ad 0)), (1, .int v1), (2, .int v2), (3, .int v3)] rfl rfl (Nat.le_of_ble_eq_true rfl) rfl 139 rfl ?_
  refine vv_goto dX10_findBest_139 39 rfl ?_
  refine vv_sub [2, 3, 4, 5, 1, 0] [(0, .ref (ad 0)), (1, .int v1), (2, .int v2), (3, .int v3), (4, .int r7), (5, .int (v5 + 1))] rfl ?_
  exact hrec hf
set_option maxRecDepth 100000 in
set_option maxHeartbeats 4000000 in
theorem j_X10_findBest_106_39 {g : ob_GT} {ad : Nat → Nat} {r : Int32} {σ' : ob_St} {σ : ob_St} {v1 : Int32} {v2 : Int32} {v5 : Int32} {v6 : Int32} {rec : ob_St → Int32 → Int32 → Int32 → Int32 → Int32 → Option (Int32 × ob_St)} (hrec : ∀ {σ : ob_St} {v1 : Int32} {v2 : Int32} {v3 : Int32} {v4 : Int32} {v5 : Int32}, rec σ v1 v2 v3 v4 v5 = some (r, σ') → ob_V g (ob_X ad) mi_X10_findBest (some (.int r)) σ' σ 39 [(0, .ref (ad 0)), (1, .int v1), (2, .int v2), (3, .int v3), (4, .int v4), (5, .int v5)] []) (hf : J_X10_findBest_106_39 rec σ v1 v2 v5 v6 = some (r, σ')) : ob_V g (ob_X ad) mi_X10_findBest (some (.int r)) σ' σ 106 [(0, .ref (ad 0)), (1, .int v1), (2, .int v2), (5, .int v5), (6, .int v6)] [] := by
  refine vv_iload dX10_findBest_106 4 rfl 108 rfl ?_
  refine vv_istore_n dX10_findBest_108 [(3, .int v6), (0, .ref (ad 0)), (1, .int v1), (2, .int v2), (5, .int v5), (6, .int v6)] rfl (Nat.le_of_ble_eq_true rfl) rfl 109 rfl ?_
  refine vv_aload_n dX10_findBest_109 1 rfl rfl 110 rfl ?_
  refine vv_getR dX10_findBest_110 6 gf_X10_findBest_39 ob_l0 rfl rfl 113 rfl ?_
  refine vv_getR dX10_findBest_113 0 gf_X10_findBest_216 ob_l47 rfl rfl 116 rfl ?_
  refine vv_iconst dX10_findBest_116 0 rfl 117 rfl ?_
  refine vv_aload_n dX10_findBest_117 1 rfl rfl 118 rfl ?_
  refine vv_getR dX10_findBest_118 7 gf_X10_findBest_43 ob_l0 rfl rfl 121 rfl ?_
  refine vv_iconst dX10_findBest_121 0 rfl 122 rfl ?_
  refine vv_bipush dX10_findBest_122 6 rfl 124 rfl ?_
  refine vv_copy dX10_findBest_124 6 ob_l48 rfl ob_l49 rfl ⟨by decide, by decide⟩ ⟨by decide, by decide⟩ cp_X10_findBest_219 (Nat.le_of_ble_eq_true rfl) (Nat.le_of_ble_eq_true rfl) 127 rfl hf (fun σ6 hf => ?_)
  refine vv_sub [1, 2, 3, 0, 4] [(0, .ref (ad 0)), (1, .int v1), (2, .int v2), (3, .int v6), (5, .int v5)] rfl ?_
  exact j_X10_findBest_127_39 hrec hf
set_option maxRecDepth 100000 in
set_option maxHeartbeats 4000000 in
theorem l_X10_findBest_39 {g : ob_GT} {ad : Nat → Nat} {r : Int32} {σ' : ob_St} : ∀ (n : Nat) {σ : ob_St} {v1 : Int32} {v2 : Int32} {v3 : Int32} {v4 : Int32} {v5 : Int32}, L_X10_findBest_39 n σ v1 v2 v3 v4 v5 = some (r, σ') → ob_V g (ob_X ad) mi_X10_findBest (some (.int r)) σ' σ 39 [(0, .ref (ad 0)), (1, .int v1), (2, .int v2), (3, .int v3), (4, .int v4), (5, .int v5)] [] := by
  intro n
  induction n with
  | zero => intro σ v1 v2 v3 v4 v5 hf; exact absurd hf (fun h => by cases h)
  | succ n ih =>
    intro σ v1 v2 v3 v4 v5 hf
    refine vv_iload dX10_findBest_39 5 rfl 41 rfl ?_
    refine vv_sipush dX10_findBest_41 720 rfl 44 rfl ?_
    refine vv_icmp_ge dX10_findBest_44 142 47 rfl rfl hf (fun hf => ?_) (fun hf => ?_)
    · refine vv_iload_n dX10_findBest_142 3 rfl rfl 143 rfl ?_
      exact vv_ireti rfl dX10_findBest_143 hf
    · refine vv_iload dX10_findBest_47 4 rfl 49 rfl ?_
      refine vv_if_eq dX10_findBest_49 142 52 rfl rfl hf (fun hf => ?_) (fun hf => ?_)
      · refine vv_iload_n dX10_findBest_142 3 rfl rfl 143 rfl ?_
        exact vv_ireti rfl dX10_findBest_143 hf
      · refine vv_aload_n dX10_findBest_52 0 rfl rfl 53 rfl ?_
        refine vv_getR dX10_findBest_53 5 gf_X10_findBest_32 ob_l0 rfl rfl 56 rfl ?_
        refine vv_aload_n dX10_findBest_56 0 rfl rfl 57 rfl ?_
        refine vv_getR dX10_findBest_57 0 gf_X10_findBest_10 ob_l0 rfl rfl 60 rfl ?_
        refine vv_aload_n dX10_findBest_60 0 rfl rfl 61 rfl ?_
        refine vv_getR dX10_findBest_61 6 gf_X10_findBest_39 ob_l0 rfl rfl 64 rfl ?_
        refine vv_getR dX10_findBest_64 0 gf_X10_findBest_216 ob_l47 rfl rfl 67 rfl ?_
        refine vv_iconst dX10_findBest_67 (-1) rfl 68 rfl ?_
        refine vv_callVu [.ref (ad 1), .ref (ad 48), .int (-1)] [] (fun _ _ h => c_X1_pass (Or.inl rfl) ⟨ob_l48, rfl⟩ h) (ob_rec ob_l30 rfl rfl) cv_X10_findBest_159 rfl (Nat.le_of_ble_eq_true rfl) 71 rfl dX10_findBest_68 rfl hf (fun _ σ4 hf => ?_)
        refine vv_aload_n dX10_findBest_71 0 rfl rfl 72 rfl ?_
        refine vv_getR dX10_findBest_72 5 gf_X10_findBest_32 ob_l0 rfl rfl 75 rfl ?_
        refine vv_getR dX10_findBest_75 10 gf_X10_findBest_122 ob_l30 rfl rfl 78 rfl ?_
        refine vv_iload_n dX10_findBest_78 1 rfl rfl 79 rfl ?_
        refine vv_iald dX10_findBest_79 ob_l46 rfl 80 rfl hf (fun v_5 hf => ?_)
        refine vv_istore dX10_findBest_80 [(6, .int v_5), (0, .ref (ad 0)), (1, .int v1), (2, .int v2), (3, .int v3), (4, .int v4), (5, .int v5)] (Nat.le_of_ble_eq_true rfl) rfl 82 rfl ?_
        refine vv_iload dX10_findBest_82 6 rfl 84 rfl ?_
        refine vv_if_eq dX10_findBest_84 106 87 rfl rfl hf (fun hf => ?_) (fun hf => ?_)
        · refine vv_sub [1, 2, 3, 6, 0] [(0, .ref (ad 0)), (1, .int v1), (2, .int v2), (5, .int v5), (6, .int v_5)] rfl ?_
          exact j_X10_findBest_106_39 ih hf
        · refine vv_iload_n dX10_findBest_87 3 rfl rfl 88 rfl ?_
          refine vv_if_eq dX10_findBest_88 100 91 rfl rfl hf (fun hf => ?_) (fun hf => ?_)
          · refine vv_iload dX10_findBest_100 0 rfl 102 rfl ?_
            refine vv_iload_n dX10_findBest_102 4 rfl rfl 103 rfl ?_
            refine vv_icmp_ge dX10_findBest_103 127 106 rfl rfl hf (fun hf => ?_) (fun hf => ?_)
            · refine vv_sub [1, 2, 3, 4, 6] [(0, .ref (ad 0)), (1, .int v1), (2, .int v2), (3, .int v3), (5, .int v5)] rfl ?_
              exact j_X10_findBest_127_39 ih hf
            · refine vv_sub [1, 2, 3, 6, 0] [(0, .ref (ad 0)), (1, .int v1), (2, .int v2), (5, .int v5), (6, .int v_5)] rfl ?_
              exact j_X10_findBest_106_39 ih hf
          · refine vv_iload dX10_findBest_91 0 rfl 93 rfl ?_
            refine vv_iload_n dX10_findBest_93 4 rfl rfl 94 rfl ?_
            refine vv_icmp_le dX10_findBest_94 127 97 rfl rfl hf (fun hf => ?_) (fun hf => ?_)
            · refine vv_sub [1, 2, 3, 4, 6] [(0, .ref (ad 0)), (1, .int v1), (2, .int v2), (3, .int v3), (5, .int v5)] rfl ?_
              exact j_X10_findBest_127_39 ih hf
            · refine vv_goto dX10_findBest_97 106 rfl ?_
              refine vv_sub [1, 2, 3, 6, 0] [(0, .ref (ad 0)), (1, .int v1), (2, .int v2), (5, .int v5), (6, .int v_5)] rfl ?_
              exact j_X10_findBest_106_39 ih hf
set_option maxRecDepth 100000 in
set_option maxHeartbeats 4000000 in
theorem j_X10_findBest_16 {g : ob_GT} {ad : Nat → Nat} {r : Int32} {σ' : ob_St} {σ : ob_St} {v1 : Int32} {w0 : Int32} (hf : J_X10_findBest_16 σ v1 w0 = some (r, σ')) : ob_V g (ob_X ad) mi_X10_findBest (some (.int r)) σ' σ 16 [(0, .ref (ad 0)), (1, .int v1)] [.int w0] := by
  refine vv_istore_n dX10_findBest_16 [(2, .int w0), (0, .ref (ad 0)), (1, .int v1)] rfl (Nat.le_of_ble_eq_true rfl) rfl 17 rfl ?_
  refine vv_iconst dX10_findBest_17 0 rfl 18 rfl ?_
  refine vv_istore_n dX10_findBest_18 [(3, .int 0), (2, .int w0), (0, .ref (ad 0)), (1, .int v1)] rfl (Nat.le_of_ble_eq_true rfl) rfl 19 rfl ?_
  refine vv_iconst dX10_findBest_19 1 rfl 20 rfl ?_
  refine vv_istore dX10_findBest_20 [(4, .int 1), (3, .int 0), (2, .int w0), (0, .ref (ad 0)), (1, .int v1)] (Nat.le_of_ble_eq_true rfl) rfl 22 rfl ?_
  refine vv_aload_n dX10_findBest_22 3 rfl rfl 23 rfl ?_
  refine vv_getR dX10_findBest_23 6 gf_X10_findBest_39 ob_l0 rfl rfl 26 rfl ?_
  refine vv_aload_n dX10_findBest_26 3 rfl rfl 27 rfl ?_
  refine vv_getR dX10_findBest_27 0 gf_X10_findBest_10 ob_l0 rfl rfl 30 rfl ?_
  refine vv_getI dX10_findBest_30 0 gf_X10_findBest_156 ob_l1 rfl rfl 33 rfl ?_
  refine vv_callVu [.int (σ 1 0)] [] (fun _ _ h => c_X5_start h) (ob_rec ob_l47 rfl rfl) cv_X10_findBest_212 rfl (Nat.le_of_ble_eq_true rfl) 36 rfl dX10_findBest_33 rfl hf (fun _ σ2 hf => ?_)
  refine vv_iconst dX10_findBest_36 0 rfl 37 rfl ?_
  refine vv_istore dX10_findBest_37 [(5, .int 0), (4, .int 1), (3, .int 0), (2, .int w0), (0, .ref (ad 0)), (1, .int v1)] (Nat.le_of_ble_eq_true rfl) rfl 39 rfl ?_
  refine vv_sub [4, 5, 3, 2, 1, 0] [(0, .ref (ad 0)), (1, .int v1), (2, .int w0), (3, .int 0), (4, .int 1), (5, .int 0)] rfl ?_
  exact l_X10_findBest_39 1000 hf
set_option maxRecDepth 100000 in
set_option maxHeartbeats 4000000 in
theorem j_X10_findBest_11 {g : ob_GT} {ad : Nat → Nat} {r : Int32} {σ' : ob_St} {σ : ob_St} {v1 : Int32} (hf : J_X10_findBest_11 σ v1 = some (r, σ')) : ob_V g (ob_X ad) mi_X10_findBest (some (.int r)) σ' σ 11 [(0, .ref (ad 0)), (1, .int v1)] [] := by
  refine vv_iconst dX10_findBest_11 1 rfl 12 rfl ?_
  refine vv_goto dX10_findBest_12 16 rfl ?_
  exact j_X10_findBest_16 hf
set_option maxRecDepth 100000 in
set_option maxHeartbeats 4000000 in
theorem c_X10_findBest {g : ob_GT} {ad : Nat → Nat} {r : Int32} {σ' : ob_St} {σ : ob_St} {p1 : Int32} (hf : f_X10_findBest σ p1 = some (r, σ')) : ob_CT g (ob_X ad) mi_X10_findBest [.ref (ad 0), .int p1] σ (some (.int r)) σ' := by
  refine ob_ct (by decide +kernel) rfl (Nat.le_of_ble_eq_true rfl) ?_
  show ob_V g (ob_X ad) mi_X10_findBest (some (.int r)) σ' σ 0 [(0, .ref (ad 0)), (1, .int p1)] []
  refine vv_iload_n dX10_findBest_0 1 rfl rfl 1 rfl ?_
  refine vv_iconst dX10_findBest_1 2 rfl 2 rfl ?_
  refine vv_icmp_eq dX10_findBest_2 11 5 rfl rfl hf (fun hf => ?_) (fun hf => ?_)
  · exact j_X10_findBest_11 hf
  · refine vv_iload_n dX10_findBest_5 1 rfl rfl 6 rfl ?_
    refine vv_bipush dX10_findBest_6 7 rfl 8 rfl ?_
    refine vv_icmp_ne dX10_findBest_8 15 11 rfl rfl hf (fun hf => ?_) (fun hf => ?_)
    · refine vv_iconst dX10_findBest_15 0 rfl 16 rfl ?_
      exact j_X10_findBest_16 hf
    · exact j_X10_findBest_11 hf
abbrev mi_X10_findFitting : ob_MI := (yX10_findFitting, ob_ws yX10_findFitting cX10_findFitting 4 (some .int), cX10_findFitting, 4, (some .int), { frames := 5, cells := 0, slots := 0, locals := 122 })
theorem gf_X10_findFitting_39 : ob_GF mi_X10_findFitting 39 10 6 := ⟨RX10, TX10, 11, rfl, by decide, fun x h => List.mem_cons_of_mem _ (uw_X10 x h), List.mem_cons_of_mem _ tw_251⟩
theorem gf_X10_findFitting_10 : ob_GF mi_X10_findFitting 10 10 0 := ⟨RX10, TX10, 11, rfl, by decide, fun x h => List.mem_cons_of_mem _ (uw_X10 x h), List.mem_cons_of_mem _ tw_245⟩
theorem gf_X10_findFitting_156 : ob_GF mi_X10_findFitting 156 3 0 := ⟨RX3, TX3, 9, rfl, by decide, fun x h => List.mem_cons_of_mem _ (uw_X3 x h), List.mem_cons_of_mem _ tw_83⟩
theorem cv_X10_findFitting_212 : ob_CV mi_X10_findFitting mi_X5_start 212 RX5 1 := ob_cvI rfl rfl tw_644 tw_645 tw_646 tw_58 tw_647 ⟨rfl, rfl⟩ ⟨rfl, by decide +kernel, by decide +kernel, by decide +kernel⟩ ⟨Nat.le_of_ble_eq_true rfl, Nat.le_of_ble_eq_true rfl⟩
theorem gf_X10_findFitting_216 : ob_GF mi_X10_findFitting 216 5 0 := ⟨RX5, TX5, 2, rfl, by decide, fun x h => List.mem_cons_of_mem _ (uw_X5 x h), List.mem_cons_of_mem _ tw_238⟩
theorem cv_X10_findFitting_184 : ob_CV mi_X10_findFitting mi_X10_firstNotSo 184 RX10 1 := ob_cvI rfl rfl tw_724 tw_726 tw_17 tw_48 tw_727 ⟨rfl, rfl⟩ ⟨rfl, by decide +kernel, by decide +kernel, by decide +kernel⟩ ⟨Nat.le_of_ble_eq_true rfl, Nat.le_of_ble_eq_true rfl⟩
theorem cv_X10_findFitting_225 : ob_CV mi_X10_findFitting mi_X5_advance 225 RX5 0 := ob_cvI rfl rfl tw_649 tw_650 tw_651 tw_58 tw_652 ⟨rfl, rfl⟩ ⟨rfl, by decide +kernel, by decide +kernel, by decide +kernel⟩ ⟨Nat.le_of_ble_eq_true rfl, Nat.le_of_ble_eq_true rfl⟩
theorem gf_X10_findFitting_43 : ob_GF mi_X10_findFitting 43 10 7 := ⟨RX10, TX10, 11, rfl, by decide, fun x h => List.mem_cons_of_mem _ (uw_X10 x h), List.mem_cons_of_mem _ tw_252⟩
theorem cp_X10_findFitting_219 : Cond.methodLink (mi_X10_findFitting).1.cls 219 arraycopyName ∈ (mi_X10_findFitting).2.1 ∧ Cond.native arraycopyName ∈ (mi_X10_findFitting).2.1 ∧ Cond.static arraycopyName ∈ (mi_X10_findFitting).2.1 ∧ Cond.initialized "java/lang/System" ∈ (mi_X10_findFitting).2.1 := ⟨List.mem_cons_of_mem _ tw_648, List.mem_cons_of_mem _ tw_433, List.mem_cons_of_mem _ tw_432, List.mem_cons_of_mem _ tw_66⟩
noncomputable def J_X10_findFitting_72_20 (rec : ob_St → Int32 → Int32 → Int32 → Option (Int32 × ob_St)) (σ : ob_St) (v1 : Int32) (v3 : Int32) : Option (Int32 × ob_St) :=
  ob_bd (f_X5_advance σ) fun r5 σ6 =>
  rec σ6 v1 r5 (v3 + 1)
noncomputable def J_X10_findFitting_69_20 (rec : ob_St → Int32 → Int32 → Int32 → Option (Int32 × ob_St)) (σ : ob_St) (v1 : Int32) (v3 : Int32) : Option (Int32 × ob_St) :=
  J_X10_findFitting_72_20 rec σ (v1 + 1) v3
noncomputable def L_X10_findFitting_20 : Nat → ob_St → Int32 → Int32 → Int32 → Option (Int32 × ob_St)
  | 0, _, _, _, _ => none
  | n + 1, σ, v1, v2, v3 =>
    if (720 : Int32) ≤ v3 then
      some (v1, σ)
    else
      if v2 = 0 then
        some (v1, σ)
      else
        ob_bd (f_X10_firstNotSo 48 σ) fun r3 σ4 =>
        if r3 = (-9) then
          if v1 = 0 then
            ob_cp σ4 48 49 6 fun σ7 =>
            J_X10_findFitting_69_20 (fun σ v1 v2 v3 => L_X10_findFitting_20 n σ v1 v2 v3) σ7 v1 v3
          else
            J_X10_findFitting_69_20 (fun σ v1 v2 v3 => L_X10_findFitting_20 n σ v1 v2 v3) σ4 v1 v3
        else
          J_X10_findFitting_72_20 (fun σ v1 v2 v3 => L_X10_findFitting_20 n σ v1 v2 v3) σ4 v1 v3
noncomputable def f_X10_findFitting (σ : ob_St) : Option (Int32 × ob_St) :=
  ob_bd (f_X5_start σ (σ 1 0)) fun _ σ2 =>
  L_X10_findFitting_20 1000 σ2 0 1 0
set_option maxRecDepth 100000 in
set_option maxHeartbeats 4000000 in
theorem j_X10_findFitting_72_20 {g : ob_GT} {ad : Nat → Nat} {r : Int32} {σ' : ob_St} {σ : ob_St} {v1 : Int32} {v3 : Int32} {rec : ob_St → Int32 → Int32 → Int32 → Option (Int32 × ob_St)} (hrec : ∀ {σ : ob_St} {v1 : Int32} {v2 : Int32} {v3 : Int32}, rec σ v1 v2 v3 = some (r, σ') → ob_V g (ob_X ad) mi_X10_findFitting (some (.int r)) σ' σ 20 [(0, .ref (ad 0)), (1, .int v1), (2, .int v2), (3, .int v3)] []) (hf : J_X10_findFitting_72_20 rec σ v1 v3 = some (r, σ')) : ob_V g (ob_X ad) mi_X10_findFitting (some (.int r)) σ' σ 72 [(0, .ref (ad 0)), (1, .int v1), (3, .int v3)] [] := by
  refine vv_aload_n dX10_findFitting_72 0 rfl rfl 73 rfl ?_
  refine vv_getR dX10_findFitting_73 6 gf_X10_findFitting_39 ob_l0 rfl rfl 76 rfl ?_
  refine vv_callV [] [] (fun _ _ h => c_X5_advance h) (ob_rec ob_l47 rfl rfl) cv_X10_findFitting_225 rfl (Nat.le_of_ble_eq_true rfl) 79 rfl dX10_findFitting_76 rfl hf (fun r5 σ6 hf => ?_)
  refine vv_istore_n dX10_findFitting_79 [(2, .int r5), (0, .ref (ad 0)), (1, .int v1), (3, .int v3)] rfl (Nat.le_of_ble_eq_true rfl) rfl 80 rfl ?_
  refine vv_iinc dX10_findFitting_80 (v3 + 1) 3 [(3, .int (v3 + 1)), (2, .int r5), (0, .ref (ad 0)), (1, .int v1)] rfl rfl (Nat.le_of_ble_eq_true rfl) rfl 83 rfl ?_
  refine vv_goto dX10_findFitting_83 20 rfl ?_
  refine vv_sub [2, 3, 1, 0] [(0, .ref (ad 0)), (1, .int v1), (2, .int r5), (3, .int (v3 + 1))] rfl ?_
  exact hrec hf
set_option maxRecDepth 100000 in
set_option maxHeartbeats 4000000 in
theorem j_X10_findFitting_69_20 {g : ob_GT} {ad : Nat → Nat} {r : Int32} {σ' : ob_St} {σ : ob_St} {v1 : Int32} {v3 : Int32} {rec : ob_St → Int32 → Int32 → Int32 → Option (Int32 × ob_St)} (hrec : ∀ {σ : ob_St} {v1 : Int32} {v2 : Int32} {v3 : Int32}, rec σ v1 v2 v3 = some (r, σ') → ob_V g (ob_X ad) mi_X10_findFitting (some (.int r)) σ' σ 20 [(0, .ref (ad 0)), (1, .int v1), (2, .int v2), (3, .int v3)] []) (hf : J_X10_findFitting_69_20 rec σ v1 v3 = some (r, σ')) : ob_V g (ob_X ad) mi_X10_findFitting (some (.int r)) σ' σ 69 [(0, .ref (ad 0)), (1, .int v1), (3, .int v3)] [] := by
  refine vv_iinc dX10_findFitting_69 (v1 + 1) 1 [(1, .int (v1 + 1)), (0, .ref (ad 0)), (3, .int v3)] rfl rfl (Nat.le_of_ble_eq_true rfl) rfl 72 rfl ?_
  refine vv_sub [1, 0, 2] [(0, .ref (ad 0)), (1, .int (v1 + 1)), (3, .int v3)] rfl ?_
  exact j_X10_findFitting_72_20 hrec hf
set_option maxRecDepth 100000 in
set_option maxHeartbeats 4000000 in
theorem l_X10_findFitting_20 {g : ob_GT} {ad : Nat → Nat} {r : Int32} {σ' : ob_St} : ∀ (n : Nat) {σ : ob_St} {v1 : Int32} {v2 : Int32} {v3 : Int32}, L_X10_findFitting_20 n σ v1 v2 v3 = some (r, σ') → ob_V g (ob_X ad) mi_X10_findFitting (some (.int r)) σ' σ 20 [(0, .ref (ad 0)), (1, .int v1), (2, .int v2), (3, .int v3)] [] := by
  intro n
  induction n with
  | zero => intro σ v1 v2 v3 hf; exact absurd hf (fun h => by cases h)
  | succ n ih =>
    intro σ v1 v2 v3 hf
    refine vv_iload_n dX10_findFitting_20 3 rfl rfl 21 rfl ?_
    refine vv_sipush dX10_findFitting_21 720 rfl 24 rfl ?_
    refine vv_icmp_ge dX10_findFitting_24 86 27 rfl rfl hf (fun hf => ?_) (fun hf => ?_)
    · refine vv_iload_n dX10_findFitting_86 1 rfl rfl 87 rfl ?_
      exact vv_ireti rfl dX10_findFitting_87 hf
    · refine vv_iload_n dX10_findFitting_27 2 rfl rfl 28 rfl ?_
      refine vv_if_eq dX10_findFitting_28 86 31 rfl rfl hf (fun hf => ?_) (fun hf => ?_)
      · refine vv_iload_n dX10_findFitting_86 1 rfl rfl 87 rfl ?_
        exact vv_ireti rfl dX10_findFitting_87 hf
      · refine vv_aload_n dX10_findFitting_31 0 rfl rfl 32 rfl ?_
        refine vv_aload_n dX10_findFitting_32 0 rfl rfl 33 rfl ?_
        refine vv_getR dX10_findFitting_33 6 gf_X10_findFitting_39 ob_l0 rfl rfl 36 rfl ?_
        refine vv_getR dX10_findFitting_36 0 gf_X10_findFitting_216 ob_l47 rfl rfl 39 rfl ?_
        refine vv_callV [.ref (ad 48)] [] (fun _ _ h => c_X10_firstNotSo ⟨ob_l48, rfl⟩ h) (ob_rec ob_l0 rfl rfl) cv_X10_findFitting_184 rfl (Nat.le_of_ble_eq_true rfl) 42 rfl dX10_findFitting_39 rfl hf (fun r3 σ4 hf => ?_)
        refine vv_bipush dX10_findFitting_42 (-9) rfl 44 rfl ?_
        refine vv_icmp_ne dX10_findFitting_44 72 47 rfl rfl hf (fun hf => ?_) (fun hf => ?_)
        · refine vv_sub [0, 1, 3] [(0, .ref (ad 0)), (1, .int v1), (3, .int v3)] rfl ?_
          exact j_X10_findFitting_72_20 ih hf
        · refine vv_iload_n dX10_findFitting_47 1 rfl rfl 48 rfl ?_
          refine vv_if_ne dX10_findFitting_48 69 51 rfl rfl hf (fun hf => ?_) (fun hf => ?_)
          · refine vv_sub [0, 1, 3] [(0, .ref (ad 0)), (1, .int v1), (3, .int v3)] rfl ?_
            exact j_X10_findFitting_69_20 ih hf
          · refine vv_aload_n dX10_findFitting_51 0 rfl rfl 52 rfl ?_
            refine vv_getR dX10_findFitting_52 6 gf_X10_findFitting_39 ob_l0 rfl rfl 55 rfl ?_
            refine vv_getR dX10_findFitting_55 0 gf_X10_findFitting_216 ob_l47 rfl rfl 58 rfl ?_
            refine vv_iconst dX10_findFitting_58 0 rfl 59 rfl ?_
            refine vv_aload_n dX10_findFitting_59 0 rfl rfl 60 rfl ?_
            refine vv_getR dX10_findFitting_60 7 gf_X10_findFitting_43 ob_l0 rfl rfl 63 rfl ?_
            refine vv_iconst dX10_findFitting_63 0 rfl 64 rfl ?_
            refine vv_bipush dX10_findFitting_64 6 rfl 66 rfl ?_
            refine vv_copy dX10_findFitting_66 6 ob_l48 rfl ob_l49 rfl ⟨by decide, by decide⟩ ⟨by decide, by decide⟩ cp_X10_findFitting_219 (Nat.le_of_ble_eq_true rfl) (Nat.le_of_ble_eq_true rfl) 69 rfl hf (fun σ7 hf => ?_)
            refine vv_sub [0, 1, 3] [(0, .ref (ad 0)), (1, .int v1), (3, .int v3)] rfl ?_
            exact j_X10_findFitting_69_20 ih hf
set_option maxRecDepth 100000 in
set_option maxHeartbeats 4000000 in
theorem c_X10_findFitting {g : ob_GT} {ad : Nat → Nat} {r : Int32} {σ' : ob_St} {σ : ob_St} (hf : f_X10_findFitting σ = some (r, σ')) : ob_CT g (ob_X ad) mi_X10_findFitting [.ref (ad 0)] σ (some (.int r)) σ' := by
  refine ob_ct (by decide +kernel) rfl (Nat.le_of_ble_eq_true rfl) ?_
  show ob_V g (ob_X ad) mi_X10_findFitting (some (.int r)) σ' σ 0 [(0, .ref (ad 0))] []
  refine vv_iconst dX10_findFitting_0 0 rfl 1 rfl ?_
  refine vv_istore_n dX10_findFitting_1 [(1, .int 0), (0, .ref (ad 0))] rfl (Nat.le_of_ble_eq_true rfl) rfl 2 rfl ?_
  refine vv_iconst dX10_findFitting_2 1 rfl 3 rfl ?_
  refine vv_istore_n dX10_findFitting_3 [(2, .int 1), (1, .int 0), (0, .ref (ad 0))] rfl (Nat.le_of_ble_eq_true rfl) rfl 4 rfl ?_
  refine vv_aload_n dX10_findFitting_4 2 rfl rfl 5 rfl ?_
  refine vv_getR dX10_findFitting_5 6 gf_X10_findFitting_39 ob_l0 rfl rfl 8 rfl ?_
  refine vv_aload_n dX10_findFitting_8 2 rfl rfl 9 rfl ?_
  refine vv_getR dX10_findFitting_9 0 gf_X10_findFitting_10 ob_l0 rfl rfl 12 rfl ?_
  refine vv_getI dX10_findFitting_12 0 gf_X10_findFitting_156 ob_l1 rfl rfl 15 rfl ?_
  refine vv_callVu [.int (σ 1 0)] [] (fun _ _ h => c_X5_start h) (ob_rec ob_l47 rfl rfl) cv_X10_findFitting_212 rfl (Nat.le_of_ble_eq_true rfl) 18 rfl dX10_findFitting_15 rfl hf (fun _ σ2 hf => ?_)
  refine vv_iconst dX10_findFitting_18 0 rfl 19 rfl ?_
  refine vv_istore_n dX10_findFitting_19 [(3, .int 0), (2, .int 1), (1, .int 0), (0, .ref (ad 0))] rfl (Nat.le_of_ble_eq_true rfl) rfl 20 rfl ?_
  refine vv_sub [3, 2, 1, 0] [(0, .ref (ad 0)), (1, .int 0), (2, .int 1), (3, .int 0)] rfl ?_
  exact l_X10_findFitting_20 1000 hf
abbrev mi_X10_becomeKitchen : ob_MI := (yX10_becomeKitchen, ob_ws yX10_becomeKitchen cX10_becomeKitchen 4 (some .int), cX10_becomeKitchen, 4, (some .int), { frames := 6, cells := 0, slots := 0, locals := 135 })
theorem gf_X10_becomeKitchen_25 : ob_GF mi_X10_becomeKitchen 25 10 4 := ⟨RX10, TX10, 11, rfl, by decide, fun x h => List.mem_cons_of_mem _ (uw_X10 x h), List.mem_cons_of_mem _ tw_249⟩
theorem cv_X10_becomeKitchen_203 : ob_CV mi_X10_becomeKitchen mi_X9_firstMisplaced 203 RX9 0 := ob_cvI rfl rfl tw_299 tw_300 tw_301 tw_50 tw_302 ⟨rfl, rfl⟩ ⟨rfl, by decide +kernel, by decide +kernel, by decide +kernel⟩ ⟨Nat.le_of_ble_eq_true rfl, Nat.le_of_ble_eq_true rfl⟩
theorem gf_X10_becomeKitchen_16 : ob_GF mi_X10_becomeKitchen 16 10 1 := ⟨RX10, TX10, 11, rfl, by decide, fun x h => List.mem_cons_of_mem _ (uw_X10 x h), List.mem_cons_of_mem _ tw_246⟩
theorem gf_X10_becomeKitchen_10 : ob_GF mi_X10_becomeKitchen 10 10 0 := ⟨RX10, TX10, 11, rfl, by decide, fun x h => List.mem_cons_of_mem _ (uw_X10 x h), List.mem_cons_of_mem _ tw_245⟩
theorem cv_X10_becomeKitchen_188 : ob_CV mi_X10_becomeKitchen mi_X3_takeOver 188 RX3 1 := ob_cvI rfl rfl tw_427 tw_428 tw_429 tw_49 tw_430 ⟨rfl, rfl⟩ ⟨rfl, by decide +kernel, by decide +kernel, by decide +kernel⟩ ⟨Nat.le_of_ble_eq_true rfl, Nat.le_of_ble_eq_true rfl⟩
theorem gf_X10_becomeKitchen_57 : ob_GF mi_X10_becomeKitchen 57 9 1 := ⟨RX9, TX9, 2, rfl, by decide, fun x h => List.mem_cons_of_mem _ (uw_X9 x h), List.mem_cons_of_mem _ tw_134⟩
theorem cv_X10_becomeKitchen_206 : ob_CV mi_X10_becomeKitchen mi_X9_tellTo 206 RX9 2 := ob_cvI rfl rfl tw_434 tw_435 tw_436 tw_50 tw_437 ⟨rfl, rfl⟩ ⟨rfl, by decide +kernel, by decide +kernel, by decide +kernel⟩ ⟨Nat.le_of_ble_eq_true rfl, Nat.le_of_ble_eq_true rfl⟩
theorem cv_X10_becomeKitchen_209 : ob_CV mi_X10_becomeKitchen mi_X9_lengthFrom 209 RX9 1 := ob_cvI rfl rfl tw_473 tw_474 tw_475 tw_50 tw_476 ⟨rfl, rfl⟩ ⟨rfl, by decide +kernel, by decide +kernel, by decide +kernel⟩ ⟨Nat.le_of_ble_eq_true rfl, Nat.le_of_ble_eq_true rfl⟩
noncomputable def J_X10_becomeKitchen_88_33 (rec : ob_St → Int32 → Int32 → Option (Int32 × ob_St)) (σ : ob_St) (v2 : Int32) : Option (Int32 × ob_St) :=
  ob_bd (f_X3_takeOver 1 10 σ) fun _ σ6 =>
  some (v2, σ6)
noncomputable def L_X10_becomeKitchen_33 : Nat → ob_St → Int32 → Int32 → Option (Int32 × ob_St)
  | 0, _, _, _ => none
  | n + 1, σ, v2, v3 =>
    if (σ 28 1) ≤ v3 then
      J_X10_becomeKitchen_88_33 (fun σ v2 v3 => L_X10_becomeKitchen_33 n σ v2 v3) σ v2
    else
      if (96 : Int32) ≤ v2 then
        J_X10_becomeKitchen_88_33 (fun σ v2 v3 => L_X10_becomeKitchen_33 n σ v2 v3) σ v2
      else
        ob_bd (f_X9_tellTo 10 σ v3) fun r7 σ8 =>
        if r7 = 0 then
          some (((-2000) - v3), σ8)
        else
          ob_bd (f_X9_lengthFrom σ8 v3) fun r9 σ10 =>
          ob_nm (v3 + r9) fun v_11 =>
          L_X10_becomeKitchen_33 n σ10 (v2 + 1) v_11
noncomputable def f_X10_becomeKitchen (σ : ob_St) : Option (Int32 × ob_St) :=
  ob_bd (f_X9_firstMisplaced σ) fun r1 σ2 =>
  if r1 < 0 then
    ob_bd (f_X3_takeOver 10 1 σ2) fun _ σ4 =>
    L_X10_becomeKitchen_33 1000 σ4 0 0
  else
    some (((-1000) - r1), σ2)
set_option maxRecDepth 100000 in
set_option maxHeartbeats 4000000 in
theorem j_X10_becomeKitchen_88_33 {g : ob_GT} {ad : Nat → Nat} {r : Int32} {σ' : ob_St} {σ : ob_St} {v2 : Int32} {rec : ob_St → Int32 → Int32 → Option (Int32 × ob_St)} (hrec : ∀ {σ : ob_St} {v2 : Int32} {v3 : Int32}, rec σ v2 v3 = some (r, σ') → ob_V g (ob_X ad) mi_X10_becomeKitchen (some (.int r)) σ' σ 33 [(0, .ref (ad 0)), (2, .int v2), (3, .int v3)] []) (hf : J_X10_becomeKitchen_88_33 rec σ v2 = some (r, σ')) : ob_V g (ob_X ad) mi_X10_becomeKitchen (some (.int r)) σ' σ 88 [(0, .ref (ad 0)), (2, .int v2)] [] := by
  refine vv_aload_n dX10_becomeKitchen_88 0 rfl rfl 89 rfl ?_
  refine vv_getR dX10_becomeKitchen_89 0 gf_X10_becomeKitchen_10 ob_l0 rfl rfl 92 rfl ?_
  refine vv_aload_n dX10_becomeKitchen_92 0 rfl rfl 93 rfl ?_
  refine vv_getR dX10_becomeKitchen_93 1 gf_X10_becomeKitchen_16 ob_l0 rfl rfl 96 rfl ?_
  refine vv_callVu [.ref (ad 10)] [] (fun _ _ h => c_X3_takeOver (Or.inl rfl) (Or.inr (Or.inl rfl)) h) (ob_rec ob_l1 rfl rfl) cv_X10_becomeKitchen_188 rfl (Nat.le_of_ble_eq_true rfl) 99 rfl dX10_becomeKitchen_96 rfl hf (fun _ σ6 hf => ?_)
  refine vv_iload_n dX10_becomeKitchen_99 1 rfl rfl 100 rfl ?_
  exact vv_ireti rfl dX10_becomeKitchen_100 hf
set_option maxRecDepth 100000 in
set_option maxHeartbeats 4000000 in
theorem l_X10_becomeKitchen_33 {g : ob_GT} {ad : Nat → Nat} {r : Int32} {σ' : ob_St} : ∀ (n : Nat) {σ : ob_St} {v2 : Int32} {v3 : Int32}, L_X10_becomeKitchen_33 n σ v2 v3 = some (r, σ') → ob_V g (ob_X ad) mi_X10_becomeKitchen (some (.int r)) σ' σ 33 [(0, .ref (ad 0)), (2, .int v2), (3, .int v3)] [] := by
  intro n
  induction n with
  | zero => intro σ v2 v3 hf; exact absurd hf (fun h => by cases h)
  | succ n ih =>
    intro σ v2 v3 hf
    refine vv_iload_n dX10_becomeKitchen_33 2 rfl rfl 34 rfl ?_
    refine vv_aload_n dX10_becomeKitchen_34 0 rfl rfl 35 rfl ?_
    refine vv_getR dX10_becomeKitchen_35 4 gf_X10_becomeKitchen_25 ob_l0 rfl rfl 38 rfl ?_
    refine vv_getI dX10_becomeKitchen_38 1 gf_X10_becomeKitchen_57 ob_l28 rfl rfl 41 rfl ?_
    refine vv_icmp_ge dX10_becomeKitchen_41 88 44 rfl rfl hf (fun hf => ?_) (fun hf => ?_)
    · refine vv_sub [0, 1] [(0, .ref (ad 0)), (2, .int v2)] rfl ?_
      exact j_X10_becomeKitchen_88_33 ih hf
    · refine vv_iload_n dX10_becomeKitchen_44 1 rfl rfl 45 rfl ?_
      refine vv_bipush dX10_becomeKitchen_45 96 rfl 47 rfl ?_
      refine vv_icmp_ge dX10_becomeKitchen_47 88 50 rfl rfl hf (fun hf => ?_) (fun hf => ?_)
      · refine vv_sub [0, 1] [(0, .ref (ad 0)), (2, .int v2)] rfl ?_
        exact j_X10_becomeKitchen_88_33 ih hf
      · refine vv_aload_n dX10_becomeKitchen_50 0 rfl rfl 51 rfl ?_
        refine vv_getR dX10_becomeKitchen_51 4 gf_X10_becomeKitchen_25 ob_l0 rfl rfl 54 rfl ?_
        refine vv_aload_n dX10_becomeKitchen_54 0 rfl rfl 55 rfl ?_
        refine vv_getR dX10_becomeKitchen_55 1 gf_X10_becomeKitchen_16 ob_l0 rfl rfl 58 rfl ?_
        refine vv_iload_n dX10_becomeKitchen_58 2 rfl rfl 59 rfl ?_
        refine vv_callV [.ref (ad 10), .int v3] [] (fun _ _ h => c_X9_tellTo (Or.inr (Or.inl rfl)) h) (ob_rec ob_l28 rfl rfl) cv_X10_becomeKitchen_206 rfl (Nat.le_of_ble_eq_true rfl) 62 rfl dX10_becomeKitchen_59 rfl hf (fun r7 σ8 hf => ?_)
        refine vv_if_ne dX10_becomeKitchen_62 71 65 rfl rfl hf (fun hf => ?_) (fun hf => ?_)
        · refine vv_iload_n dX10_becomeKitchen_71 2 rfl rfl 72 rfl ?_
          refine vv_aload_n dX10_becomeKitchen_72 0 rfl rfl 73 rfl ?_
          refine vv_getR dX10_becomeKitchen_73 4 gf_X10_becomeKitchen_25 ob_l0 rfl rfl 76 rfl ?_
          refine vv_iload_n dX10_becomeKitchen_76 2 rfl rfl 77 rfl ?_
          refine vv_callV [.int v3] [.int v3] (fun _ _ h => c_X9_lengthFrom h) (ob_rec ob_l28 rfl rfl) cv_X10_becomeKitchen_209 rfl (Nat.le_of_ble_eq_true rfl) 80 rfl dX10_becomeKitchen_77 rfl hf (fun r9 σ10 hf => ?_)
          refine vv_iadd dX10_becomeKitchen_80 81 rfl ?_
          refine vv_nm hf (fun v_11 hf => ?_)
          refine vv_istore_n dX10_becomeKitchen_81 [(3, .int v_11), (0, .ref (ad 0)), (2, .int v2)] rfl (Nat.le_of_ble_eq_true rfl) rfl 82 rfl ?_
          refine vv_iinc dX10_becomeKitchen_82 (v2 + 1) 2 [(2, .int (v2 + 1)), (3, .int v_11), (0, .ref (ad 0))] rfl rfl (Nat.le_of_ble_eq_true rfl) rfl 85 rfl ?_
          refine vv_goto dX10_becomeKitchen_85 33 rfl ?_
          refine vv_sub [2, 0, 1] [(0, .ref (ad 0)), (2, .int (v2 + 1)), (3, .int v_11)] rfl ?_
          exact ih hf
        · refine vv_sipush dX10_becomeKitchen_65 (-2000) rfl 68 rfl ?_
          refine vv_iload_n dX10_becomeKitchen_68 2 rfl rfl 69 rfl ?_
          refine vv_isub dX10_becomeKitchen_69 70 rfl ?_
          exact vv_ireti rfl dX10_becomeKitchen_70 hf
set_option maxRecDepth 100000 in
set_option maxHeartbeats 4000000 in
theorem c_X10_becomeKitchen {g : ob_GT} {ad : Nat → Nat} {r : Int32} {σ' : ob_St} {σ : ob_St} (hf : f_X10_becomeKitchen σ = some (r, σ')) : ob_CT g (ob_X ad) mi_X10_becomeKitchen [.ref (ad 0)] σ (some (.int r)) σ' := by
  refine ob_ct (by decide +kernel) rfl (Nat.le_of_ble_eq_true rfl) ?_
  show ob_V g (ob_X ad) mi_X10_becomeKitchen (some (.int r)) σ' σ 0 [(0, .ref (ad 0))] []
  refine vv_aload_n dX10_becomeKitchen_0 0 rfl rfl 1 rfl ?_
  refine vv_getR dX10_becomeKitchen_1 4 gf_X10_becomeKitchen_25 ob_l0 rfl rfl 4 rfl ?_
  refine vv_callV [] [] (fun _ _ h => c_X9_firstMisplaced h) (ob_rec ob_l28 rfl rfl) cv_X10_becomeKitchen_203 rfl (Nat.le_of_ble_eq_true rfl) 7 rfl dX10_becomeKitchen_4 rfl hf (fun r1 σ2 hf => ?_)
  refine vv_istore_n dX10_becomeKitchen_7 [(1, .int r1), (0, .ref (ad 0))] rfl (Nat.le_of_ble_eq_true rfl) rfl 8 rfl ?_
  refine vv_iload_n dX10_becomeKitchen_8 0 rfl rfl 9 rfl ?_
  refine vv_if_lt dX10_becomeKitchen_9 18 12 rfl rfl hf (fun hf => ?_) (fun hf => ?_)
  · refine vv_aload_n dX10_becomeKitchen_18 1 rfl rfl 19 rfl ?_
    refine vv_getR dX10_becomeKitchen_19 1 gf_X10_becomeKitchen_16 ob_l0 rfl rfl 22 rfl ?_
    refine vv_aload_n dX10_becomeKitchen_22 1 rfl rfl 23 rfl ?_
    refine vv_getR dX10_becomeKitchen_23 0 gf_X10_becomeKitchen_10 ob_l0 rfl rfl 26 rfl ?_
    refine vv_callVu [.ref (ad 1)] [] (fun _ _ h => c_X3_takeOver (Or.inr (Or.inl rfl)) (Or.inl rfl) h) (ob_rec ob_l10 rfl rfl) cv_X10_becomeKitchen_188 rfl (Nat.le_of_ble_eq_true rfl) 29 rfl dX10_becomeKitchen_26 rfl hf (fun _ σ4 hf => ?_)
    refine vv_iconst dX10_becomeKitchen_29 0 rfl 30 rfl ?_
    refine vv_istore_n dX10_becomeKitchen_30 [(2, .int 0), (1, .int r1), (0, .ref (ad 0))] rfl (Nat.le_of_ble_eq_true rfl) rfl 31 rfl ?_
    refine vv_iconst dX10_becomeKitchen_31 0 rfl 32 rfl ?_
    refine vv_istore_n dX10_becomeKitchen_32 [(3, .int 0), (2, .int 0), (1, .int r1), (0, .ref (ad 0))] rfl (Nat.le_of_ble_eq_true rfl) rfl 33 rfl ?_
    refine vv_sub [3, 1, 0] [(0, .ref (ad 0)), (2, .int 0), (3, .int 0)] rfl ?_
    exact l_X10_becomeKitchen_33 1000 hf
  · refine vv_sipush dX10_becomeKitchen_12 (-1000) rfl 15 rfl ?_
    refine vv_iload_n dX10_becomeKitchen_15 0 rfl rfl 16 rfl ?_
    refine vv_isub dX10_becomeKitchen_16 17 rfl ?_
    exact vv_ireti rfl dX10_becomeKitchen_17 hf
abbrev mi_X10_letter : ob_MI := (yX10_letter, ob_ws yX10_letter cX10_letter 2 (some .int), cX10_letter, 2, (some .int), { frames := 1, cells := 0, slots := 0, locals := 22 })
theorem cv_X10_letter_53 : ob_CV mi_X10_letter mi_X10_refuse 53 RX10 1 := ob_cvI rfl rfl tw_283 tw_285 tw_0 tw_48 tw_286 ⟨rfl, rfl⟩ ⟨rfl, by decide +kernel, by decide +kernel, by decide +kernel⟩ ⟨Nat.le_of_ble_eq_true rfl, Nat.le_of_ble_eq_true rfl⟩
theorem gf_X10_letter_25 : ob_GF mi_X10_letter 25 10 4 := ⟨RX10, TX10, 11, rfl, by decide, fun x h => List.mem_cons_of_mem _ (uw_X10 x h), List.mem_cons_of_mem _ tw_249⟩
theorem gf_X10_letter_57 : ob_GF mi_X10_letter 57 9 1 := ⟨RX9, TX9, 2, rfl, by decide, fun x h => List.mem_cons_of_mem _ (uw_X9 x h), List.mem_cons_of_mem _ tw_134⟩
theorem cv_X10_letter_61 : ob_CV mi_X10_letter mi_X9_add 61 RX9 1 := ob_cvI rfl rfl tw_287 tw_288 tw_289 tw_50 tw_290 ⟨rfl, rfl⟩ ⟨rfl, by decide +kernel, by decide +kernel, by decide +kernel⟩ ⟨Nat.le_of_ble_eq_true rfl, Nat.le_of_ble_eq_true rfl⟩
noncomputable def f_X10_letter (σ : ob_St) (p1 : Int32) : Option (Int32 × ob_St) :=
  if (0 : Int32) ≤ p1 then
    if (255 : Int32) < p1 then
      ob_bd (f_X10_refuse σ (-6)) fun r1 σ2 =>
      some (r1, σ2)
    else
      if (σ 28 1) < 96 then
        ob_bd (f_X9_add σ p1) fun r3 σ4 =>
        some (r3, σ4)
      else
        ob_bd (f_X10_refuse σ (-6)) fun r5 σ6 =>
        some (r5, σ6)
  else
    ob_bd (f_X10_refuse σ (-4)) fun r7 σ8 =>
    some (r7, σ8)
set_option maxRecDepth 100000 in
set_option maxHeartbeats 4000000 in
theorem c_X10_letter {g : ob_GT} {ad : Nat → Nat} {r : Int32} {σ' : ob_St} {σ : ob_St} {p1 : Int32} (hf : f_X10_letter σ p1 = some (r, σ')) : ob_CT g (ob_X ad) mi_X10_letter [.ref (ad 0), .int p1] σ (some (.int r)) σ' := by
  refine ob_ct (by decide +kernel) rfl (Nat.le_of_ble_eq_true rfl) ?_
  show ob_V g (ob_X ad) mi_X10_letter (some (.int r)) σ' σ 0 [(0, .ref (ad 0)), (1, .int p1)] []
  refine vv_iload_n dX10_letter_0 1 rfl rfl 1 rfl ?_
  refine vv_if_ge dX10_letter_1 11 4 rfl rfl hf (fun hf => ?_) (fun hf => ?_)
  · refine vv_iload_n dX10_letter_11 1 rfl rfl 12 rfl ?_
    refine vv_sipush dX10_letter_12 255 rfl 15 rfl ?_
    refine vv_icmp_gt dX10_letter_15 30 18 rfl rfl hf (fun hf => ?_) (fun hf => ?_)
    · refine vv_aload_n dX10_letter_30 0 rfl rfl 31 rfl ?_
      refine vv_bipush dX10_letter_31 (-6) rfl 33 rfl ?_
      refine vv_callV [.int (-6)] [] (fun _ _ h => c_X10_refuse h) (ob_rec ob_l0 rfl rfl) cv_X10_letter_53 rfl (Nat.le_of_ble_eq_true rfl) 36 rfl dX10_letter_33 rfl hf (fun r1 σ2 hf => ?_)
      exact vv_ireti rfl dX10_letter_36 hf
    · refine vv_aload_n dX10_letter_18 0 rfl rfl 19 rfl ?_
      refine vv_getR dX10_letter_19 4 gf_X10_letter_25 ob_l0 rfl rfl 22 rfl ?_
      refine vv_getI dX10_letter_22 1 gf_X10_letter_57 ob_l28 rfl rfl 25 rfl ?_
      refine vv_bipush dX10_letter_25 96 rfl 27 rfl ?_
      refine vv_icmp_lt dX10_letter_27 37 30 rfl rfl hf (fun hf => ?_) (fun hf => ?_)
      · refine vv_aload_n dX10_letter_37 0 rfl rfl 38 rfl ?_
        refine vv_getR dX10_letter_38 4 gf_X10_letter_25 ob_l0 rfl rfl 41 rfl ?_
        refine vv_iload_n dX10_letter_41 1 rfl rfl 42 rfl ?_
        refine vv_callV [.int p1] [] (fun _ _ h => c_X9_add h) (ob_rec ob_l28 rfl rfl) cv_X10_letter_61 rfl (Nat.le_of_ble_eq_true rfl) 45 rfl dX10_letter_42 rfl hf (fun r3 σ4 hf => ?_)
        exact vv_ireti rfl dX10_letter_45 hf
      · refine vv_aload_n dX10_letter_30 0 rfl rfl 31 rfl ?_
        refine vv_bipush dX10_letter_31 (-6) rfl 33 rfl ?_
        refine vv_callV [.int (-6)] [] (fun _ _ h => c_X10_refuse h) (ob_rec ob_l0 rfl rfl) cv_X10_letter_53 rfl (Nat.le_of_ble_eq_true rfl) 36 rfl dX10_letter_33 rfl hf (fun r5 σ6 hf => ?_)
        exact vv_ireti rfl dX10_letter_36 hf
  · refine vv_aload_n dX10_letter_4 0 rfl rfl 5 rfl ?_
    refine vv_bipush dX10_letter_5 (-4) rfl 7 rfl ?_
    refine vv_callV [.int (-4)] [] (fun _ _ h => c_X10_refuse h) (ob_rec ob_l0 rfl rfl) cv_X10_letter_53 rfl (Nat.le_of_ble_eq_true rfl) 10 rfl dX10_letter_7 rfl hf (fun r7 σ8 hf => ?_)
    exact vv_ireti rfl dX10_letter_10 hf
abbrev mi_X10_kitchen : ob_MI := (yX10_kitchen, ob_ws yX10_kitchen cX10_kitchen 2 (some .int), cX10_kitchen, 2, (some .int), { frames := 7, cells := 0, slots := 0, locals := 158 })
theorem cv_X10_kitchen_64 : ob_CV mi_X10_kitchen mi_X10_becomeKitchen 64 RX10 0 := ob_cvI rfl rfl tw_295 tw_297 tw_1 tw_48 tw_298 ⟨rfl, rfl⟩ ⟨rfl, by decide +kernel, by decide +kernel, by decide +kernel⟩ ⟨Nat.le_of_ble_eq_true rfl, Nat.le_of_ble_eq_true rfl⟩
theorem gf_X10_kitchen_25 : ob_GF mi_X10_kitchen 25 10 4 := ⟨RX10, TX10, 11, rfl, by decide, fun x h => List.mem_cons_of_mem _ (uw_X10 x h), List.mem_cons_of_mem _ tw_249⟩
theorem pf_X10_kitchen_57 : ob_PF mi_X10_kitchen 57 9 1 .int := ⟨RX9, TX9, 2, tyX9, rfl, by decide, fun x h => List.mem_cons_of_mem _ (uw_X9 x h), List.mem_cons_of_mem _ tw_134, tyX9_ok, nmX9, rfl, by decide +kernel⟩
noncomputable def f_X10_kitchen (σ : ob_St) : Option (Int32 × ob_St) :=
  ob_bd (f_X10_becomeKitchen σ) fun r1 σ2 =>
  ob_pf σ2 28 1 0 fun σ3 =>
  some (r1, σ3)
set_option maxRecDepth 100000 in
set_option maxHeartbeats 4000000 in
theorem c_X10_kitchen {g : ob_GT} {ad : Nat → Nat} {r : Int32} {σ' : ob_St} {σ : ob_St} (hf : f_X10_kitchen σ = some (r, σ')) : ob_CT g (ob_X ad) mi_X10_kitchen [.ref (ad 0)] σ (some (.int r)) σ' := by
  refine ob_ct (by decide +kernel) rfl (Nat.le_of_ble_eq_true rfl) ?_
  show ob_V g (ob_X ad) mi_X10_kitchen (some (.int r)) σ' σ 0 [(0, .ref (ad 0))] []
  refine vv_aload_n dX10_kitchen_0 0 rfl rfl 1 rfl ?_
  refine vv_callV [] [] (fun _ _ h => c_X10_becomeKitchen h) (ob_rec ob_l0 rfl rfl) cv_X10_kitchen_64 rfl (Nat.le_of_ble_eq_true rfl) 4 rfl dX10_kitchen_1 rfl hf (fun r1 σ2 hf => ?_)
  refine vv_istore_n dX10_kitchen_4 [(1, .int r1), (0, .ref (ad 0))] rfl (Nat.le_of_ble_eq_true rfl) rfl 5 rfl ?_
  refine vv_aload_n dX10_kitchen_5 1 rfl rfl 6 rfl ?_
  refine vv_getR dX10_kitchen_6 4 gf_X10_kitchen_25 ob_l0 rfl rfl 9 rfl ?_
  refine vv_iconst dX10_kitchen_9 0 rfl 10 rfl ?_
  refine vv_putI dX10_kitchen_10 1 pf_X10_kitchen_57 ob_l28 rfl rfl (ob_fit_int _) 13 rfl hf (fun σ3 hf => ?_)
  refine vv_iload_n dX10_kitchen_13 0 rfl rfl 14 rfl ?_
  exact vv_ireti rfl dX10_kitchen_14 hf
abbrev mi_X10_dish : ob_MI := (yX10_dish, ob_ws yX10_dish cX10_dish 3 (some .int), cX10_dish, 3, (some .int), { frames := 1, cells := 0, slots := 0, locals := 22 })
theorem gf_X10_dish_10 : ob_GF mi_X10_dish 10 10 0 := ⟨RX10, TX10, 11, rfl, by decide, fun x h => List.mem_cons_of_mem _ (uw_X10 x h), List.mem_cons_of_mem _ tw_245⟩
theorem cv_X10_dish_68 : ob_CV mi_X10_dish mi_X3_hasDish 68 RX3 1 := ob_cvI rfl rfl tw_482 tw_470 tw_471 tw_49 tw_472 ⟨rfl, rfl⟩ ⟨rfl, by decide +kernel, by decide +kernel, by decide +kernel⟩ ⟨Nat.le_of_ble_eq_true rfl, Nat.le_of_ble_eq_true rfl⟩
theorem gf_X10_dish_72 : ob_GF mi_X10_dish 72 3 1 := ⟨RX3, TX3, 9, rfl, by decide, fun x h => List.mem_cons_of_mem _ (uw_X3 x h), List.mem_cons_of_mem _ tw_85⟩
theorem gf_X10_dish_75 : ob_GF mi_X10_dish 75 3 2 := ⟨RX3, TX3, 9, rfl, by decide, fun x h => List.mem_cons_of_mem _ (uw_X3 x h), List.mem_cons_of_mem _ tw_89⟩
theorem gf_X10_dish_78 : ob_GF mi_X10_dish 78 3 3 := ⟨RX3, TX3, 9, rfl, by decide, fun x h => List.mem_cons_of_mem _ (uw_X3 x h), List.mem_cons_of_mem _ tw_91⟩
theorem gf_X10_dish_81 : ob_GF mi_X10_dish 81 3 4 := ⟨RX3, TX3, 9, rfl, by decide, fun x h => List.mem_cons_of_mem _ (uw_X3 x h), List.mem_cons_of_mem _ tw_94⟩
theorem gf_X10_dish_84 : ob_GF mi_X10_dish 84 3 5 := ⟨RX3, TX3, 9, rfl, by decide, fun x h => List.mem_cons_of_mem _ (uw_X3 x h), List.mem_cons_of_mem _ tw_97⟩
theorem cv_X10_dish_87 : ob_CV mi_X10_dish mi_X3_whereIs 87 RX3 1 := ob_cvI rfl rfl tw_483 tw_484 tw_485 tw_49 tw_486 ⟨rfl, rfl⟩ ⟨rfl, by decide +kernel, by decide +kernel, by decide +kernel⟩ ⟨Nat.le_of_ble_eq_true rfl, Nat.le_of_ble_eq_true rfl⟩
theorem cv_X10_dish_53 : ob_CV mi_X10_dish mi_X10_refuse 53 RX10 1 := ob_cvI rfl rfl tw_283 tw_285 tw_0 tw_48 tw_286 ⟨rfl, rfl⟩ ⟨rfl, by decide +kernel, by decide +kernel, by decide +kernel⟩ ⟨Nat.le_of_ble_eq_true rfl, Nat.le_of_ble_eq_true rfl⟩
noncomputable def f_X10_dish (σ : ob_St) (p1 : Int32) (p2 : Int32) : Option (Int32 × ob_St) :=
  ob_bd (f_X3_hasDish 1 σ p1) fun r1 σ2 =>
  if r1 = 0 then
    ob_bd (f_X10_refuse σ2 (-1)) fun r12 σ13 =>
    some (r12, σ13)
  else
    if p2 = 0 then
      ob_ld σ2 2 6 p1 fun v_3 =>
      some (v_3, σ2)
    else
    if p2 = 1 then
      ob_ld σ2 3 6 p1 fun v_4 =>
      some (v_4, σ2)
    else
    if p2 = 2 then
      ob_ld σ2 4 6 p1 fun v_5 =>
      some (v_5, σ2)
    else
    if p2 = 3 then
      ob_ld σ2 5 6 p1 fun v_6 =>
      some (v_6, σ2)
    else
    if p2 = 4 then
      ob_ld σ2 6 6 p1 fun v_7 =>
      some (v_7, σ2)
    else
    if p2 = 5 then
      ob_bd (f_X3_whereIs 1 σ2 p1) fun r8 σ9 =>
      some (r8, σ9)
    else
      ob_bd (f_X10_refuse σ2 (-2)) fun r10 σ11 =>
      some (r10, σ11)
set_option maxRecDepth 100000 in
set_option maxHeartbeats 4000000 in
theorem c_X10_dish {g : ob_GT} {ad : Nat → Nat} {r : Int32} {σ' : ob_St} {σ : ob_St} {p1 : Int32} {p2 : Int32} (hf : f_X10_dish σ p1 p2 = some (r, σ')) : ob_CT g (ob_X ad) mi_X10_dish [.ref (ad 0), .int p1, .int p2] σ (some (.int r)) σ' := by
  refine ob_ct (by decide +kernel) rfl (Nat.le_of_ble_eq_true rfl) ?_
  show ob_V g (ob_X ad) mi_X10_dish (some (.int r)) σ' σ 0 [(0, .ref (ad 0)), (1, .int p1), (2, .int p2)] []
  refine vv_aload_n dX10_dish_0 0 rfl rfl 1 rfl ?_
  refine vv_getR dX10_dish_1 0 gf_X10_dish_10 ob_l0 rfl rfl 4 rfl ?_
  refine vv_iload_n dX10_dish_4 1 rfl rfl 5 rfl ?_
  refine vv_callV [.int p1] [] (fun _ _ h => c_X3_hasDish (Or.inl rfl) h) (ob_rec ob_l1 rfl rfl) cv_X10_dish_68 rfl (Nat.le_of_ble_eq_true rfl) 8 rfl dX10_dish_5 rfl hf (fun r1 σ2 hf => ?_)
  refine vv_if_ne dX10_dish_8 17 11 rfl rfl hf (fun hf => ?_) (fun hf => ?_)
  · refine vv_iload_n dX10_dish_17 2 rfl rfl 18 rfl ?_
    refine vv_case 0 hf (fun hf => ?_) (fun nh0 hf => ?_)
    · refine vv_tabIn dX10_dish_18 56 (by decide) (by decide) rfl rfl ?_
      refine vv_aload_n dX10_dish_56 0 rfl rfl 57 rfl ?_
      refine vv_getR dX10_dish_57 0 gf_X10_dish_10 ob_l0 rfl rfl 60 rfl ?_
      refine vv_getR dX10_dish_60 1 gf_X10_dish_72 ob_l1 rfl rfl 63 rfl ?_
      refine vv_iload_n dX10_dish_63 1 rfl rfl 64 rfl ?_
      refine vv_iald dX10_dish_64 ob_l2 rfl 65 rfl hf (fun v_3 hf => ?_)
      exact vv_ireti rfl dX10_dish_65 hf
    refine vv_case 1 hf (fun hf => ?_) (fun nh1 hf => ?_)
    · refine vv_tabIn dX10_dish_18 66 (by decide) (by decide) rfl rfl ?_
      refine vv_aload_n dX10_dish_66 0 rfl rfl 67 rfl ?_
      refine vv_getR dX10_dish_67 0 gf_X10_dish_10 ob_l0 rfl rfl 70 rfl ?_
      refine vv_getR dX10_dish_70 2 gf_X10_dish_75 ob_l1 rfl rfl 73 rfl ?_
      refine vv_iload_n dX10_dish_73 1 rfl rfl 74 rfl ?_
      refine vv_iald dX10_dish_74 ob_l3 rfl 75 rfl hf (fun v_4 hf => ?_)
      exact vv_ireti rfl dX10_dish_75 hf
    refine vv_case 2 hf (fun hf => ?_) (fun nh2 hf => ?_)
    · refine vv_tabIn dX10_dish_18 76 (by decide) (by decide) rfl rfl ?_
      refine vv_aload_n dX10_dish_76 0 rfl rfl 77 rfl ?_
      refine vv_getR dX10_dish_77 0 gf_X10_dish_10 ob_l0 rfl rfl 80 rfl ?_
      refine vv_getR dX10_dish_80 3 gf_X10_dish_78 ob_l1 rfl rfl 83 rfl ?_
      refine vv_iload_n dX10_dish_83 1 rfl rfl 84 rfl ?_
      refine vv_iald dX10_dish_84 ob_l4 rfl 85 rfl hf (fun v_5 hf => ?_)
      exact vv_ireti rfl dX10_dish_85 hf
    refine vv_case 3 hf (fun hf => ?_) (fun nh3 hf => ?_)
    · refine vv_tabIn dX10_dish_18 86 (by decide) (by decide) rfl rfl ?_
      refine vv_aload_n dX10_dish_86 0 rfl rfl 87 rfl ?_
      refine vv_getR dX10_dish_87 0 gf_X10_dish_10 ob_l0 rfl rfl 90 rfl ?_
      refine vv_getR dX10_dish_90 4 gf_X10_dish_81 ob_l1 rfl rfl 93 rfl ?_
      refine vv_iload_n dX10_dish_93 1 rfl rfl 94 rfl ?_
      refine vv_iald dX10_dish_94 ob_l5 rfl 95 rfl hf (fun v_6 hf => ?_)
      exact vv_ireti rfl dX10_dish_95 hf
    refine vv_case 4 hf (fun hf => ?_) (fun nh4 hf => ?_)
    · refine vv_tabIn dX10_dish_18 96 (by decide) (by decide) rfl rfl ?_
      refine vv_aload_n dX10_dish_96 0 rfl rfl 97 rfl ?_
      refine vv_getR dX10_dish_97 0 gf_X10_dish_10 ob_l0 rfl rfl 100 rfl ?_
      refine vv_getR dX10_dish_100 5 gf_X10_dish_84 ob_l1 rfl rfl 103 rfl ?_
      refine vv_iload_n dX10_dish_103 1 rfl rfl 104 rfl ?_
      refine vv_iald dX10_dish_104 ob_l6 rfl 105 rfl hf (fun v_7 hf => ?_)
      exact vv_ireti rfl dX10_dish_105 hf
    refine vv_case 5 hf (fun hf => ?_) (fun nh5 hf => ?_)
    · refine vv_tabIn dX10_dish_18 106 (by decide) (by decide) rfl rfl ?_
      refine vv_aload_n dX10_dish_106 0 rfl rfl 107 rfl ?_
      refine vv_getR dX10_dish_107 0 gf_X10_dish_10 ob_l0 rfl rfl 110 rfl ?_
      refine vv_iload_n dX10_dish_110 1 rfl rfl 111 rfl ?_
      refine vv_callV [.int p1] [] (fun _ _ h => c_X3_whereIs (Or.inl rfl) h) (ob_rec ob_l1 rfl rfl) cv_X10_dish_87 rfl (Nat.le_of_ble_eq_true rfl) 114 rfl dX10_dish_111 rfl hf (fun r8 σ9 hf => ?_)
      exact vv_ireti rfl dX10_dish_114 hf
    refine vv_tabOut dX10_dish_18 115 (by have z0 := ob_neI nh0 (a := 0) rfl; have z1 := ob_neI nh1 (a := 1) rfl; have z2 := ob_neI nh2 (a := 2) rfl; have z3 := ob_neI nh3 (a := 3) rfl; have z4 := ob_neI nh4 (a := 4) rfl; have z5 := ob_neI nh5 (a := 5) rfl; omega) rfl ?_
    refine vv_aload_n dX10_dish_115 0 rfl rfl 116 rfl ?_
    refine vv_bipush dX10_dish_116 (-2) rfl 118 rfl ?_
    refine vv_callV [.int (-2)] [] (fun _ _ h => c_X10_refuse h) (ob_rec ob_l0 rfl rfl) cv_X10_dish_53 rfl (Nat.le_of_ble_eq_true rfl) 121 rfl dX10_dish_118 rfl hf (fun r10 σ11 hf => ?_)
    exact vv_ireti rfl dX10_dish_121 hf
  · refine vv_aload_n dX10_dish_11 0 rfl rfl 12 rfl ?_
    refine vv_iconst dX10_dish_12 (-1) rfl 13 rfl ?_
    refine vv_callV [.int (-1)] [] (fun _ _ h => c_X10_refuse h) (ob_rec ob_l0 rfl rfl) cv_X10_dish_53 rfl (Nat.le_of_ble_eq_true rfl) 16 rfl dX10_dish_13 rfl hf (fun r12 σ13 hf => ?_)
    exact vv_ireti rfl dX10_dish_16 hf
abbrev mi_X10_place : ob_MI := (yX10_place, ob_ws yX10_place cX10_place 2 (some .int), cX10_place, 2, (some .int), { frames := 1, cells := 0, slots := 0, locals := 22 })
theorem gf_X10_place_10 : ob_GF mi_X10_place 10 10 0 := ⟨RX10, TX10, 11, rfl, by decide, fun x h => List.mem_cons_of_mem _ (uw_X10 x h), List.mem_cons_of_mem _ tw_245⟩
theorem cv_X10_place_68 : ob_CV mi_X10_place mi_X3_hasDish 68 RX3 1 := ob_cvI rfl rfl tw_482 tw_470 tw_471 tw_49 tw_472 ⟨rfl, rfl⟩ ⟨rfl, by decide +kernel, by decide +kernel, by decide +kernel⟩ ⟨Nat.le_of_ble_eq_true rfl, Nat.le_of_ble_eq_true rfl⟩
theorem gf_X10_place_90 : ob_GF mi_X10_place 90 3 6 := ⟨RX3, TX3, 9, rfl, by decide, fun x h => List.mem_cons_of_mem _ (uw_X3 x h), List.mem_cons_of_mem _ tw_100⟩
theorem cv_X10_place_53 : ob_CV mi_X10_place mi_X10_refuse 53 RX10 1 := ob_cvI rfl rfl tw_283 tw_285 tw_0 tw_48 tw_286 ⟨rfl, rfl⟩ ⟨rfl, by decide +kernel, by decide +kernel, by decide +kernel⟩ ⟨Nat.le_of_ble_eq_true rfl, Nat.le_of_ble_eq_true rfl⟩
noncomputable def f_X10_place (σ : ob_St) (p1 : Int32) : Option (Int32 × ob_St) :=
  ob_bd (f_X3_hasDish 1 σ p1) fun r1 σ2 =>
  if r1 = 0 then
    ob_bd (f_X10_refuse σ2 (-1)) fun r4 σ5 =>
    some (r4, σ5)
  else
    ob_ld σ2 7 6 p1 fun v_3 =>
    some (v_3, σ2)
set_option maxRecDepth 100000 in
set_option maxHeartbeats 4000000 in
theorem c_X10_place {g : ob_GT} {ad : Nat → Nat} {r : Int32} {σ' : ob_St} {σ : ob_St} {p1 : Int32} (hf : f_X10_place σ p1 = some (r, σ')) : ob_CT g (ob_X ad) mi_X10_place [.ref (ad 0), .int p1] σ (some (.int r)) σ' := by
  refine ob_ct (by decide +kernel) rfl (Nat.le_of_ble_eq_true rfl) ?_
  show ob_V g (ob_X ad) mi_X10_place (some (.int r)) σ' σ 0 [(0, .ref (ad 0)), (1, .int p1)] []
  refine vv_aload_n dX10_place_0 0 rfl rfl 1 rfl ?_
  refine vv_getR dX10_place_1 0 gf_X10_place_10 ob_l0 rfl rfl 4 rfl ?_
  refine vv_iload_n dX10_place_4 1 rfl rfl 5 rfl ?_
  refine vv_callV [.int p1] [] (fun _ _ h => c_X3_hasDish (Or.inl rfl) h) (ob_rec ob_l1 rfl rfl) cv_X10_place_68 rfl (Nat.le_of_ble_eq_true rfl) 8 rfl dX10_place_5 rfl hf (fun r1 σ2 hf => ?_)
  refine vv_if_ne dX10_place_8 17 11 rfl rfl hf (fun hf => ?_) (fun hf => ?_)
  · refine vv_aload_n dX10_place_17 0 rfl rfl 18 rfl ?_
    refine vv_getR dX10_place_18 0 gf_X10_place_10 ob_l0 rfl rfl 21 rfl ?_
    refine vv_getR dX10_place_21 6 gf_X10_place_90 ob_l1 rfl rfl 24 rfl ?_
    refine vv_iload_n dX10_place_24 1 rfl rfl 25 rfl ?_
    refine vv_iald dX10_place_25 ob_l7 rfl 26 rfl hf (fun v_3 hf => ?_)
    exact vv_ireti rfl dX10_place_26 hf
  · refine vv_aload_n dX10_place_11 0 rfl rfl 12 rfl ?_
    refine vv_iconst dX10_place_12 (-1) rfl 13 rfl ?_
    refine vv_callV [.int (-1)] [] (fun _ _ h => c_X10_refuse h) (ob_rec ob_l0 rfl rfl) cv_X10_place_53 rfl (Nat.le_of_ble_eq_true rfl) 16 rfl dX10_place_13 rfl hf (fun r4 σ5 hf => ?_)
    exact vv_ireti rfl dX10_place_16 hf
abbrev mi_X10_change : ob_MI := (yX10_change, ob_ws yX10_change cX10_change 3 (some .int), cX10_change, 3, (some .int), { frames := 2, cells := 0, slots := 0, locals := 44 })
theorem gf_X10_change_10 : ob_GF mi_X10_change 10 10 0 := ⟨RX10, TX10, 11, rfl, by decide, fun x h => List.mem_cons_of_mem _ (uw_X10 x h), List.mem_cons_of_mem _ tw_245⟩
theorem cv_X10_change_93 : ob_CV mi_X10_change mi_X3_swap 93 RX3 2 := ob_cvI rfl rfl tw_495 tw_466 tw_467 tw_49 tw_468 ⟨rfl, rfl⟩ ⟨rfl, by decide +kernel, by decide +kernel, by decide +kernel⟩ ⟨Nat.le_of_ble_eq_true rfl, Nat.le_of_ble_eq_true rfl⟩
theorem cv_X10_change_87 : ob_CV mi_X10_change mi_X3_whereIs 87 RX3 1 := ob_cvI rfl rfl tw_483 tw_484 tw_485 tw_49 tw_486 ⟨rfl, rfl⟩ ⟨rfl, by decide +kernel, by decide +kernel, by decide +kernel⟩ ⟨Nat.le_of_ble_eq_true rfl, Nat.le_of_ble_eq_true rfl⟩
theorem cv_X10_change_53 : ob_CV mi_X10_change mi_X10_refuse 53 RX10 1 := ob_cvI rfl rfl tw_283 tw_285 tw_0 tw_48 tw_286 ⟨rfl, rfl⟩ ⟨rfl, by decide +kernel, by decide +kernel, by decide +kernel⟩ ⟨Nat.le_of_ble_eq_true rfl, Nat.le_of_ble_eq_true rfl⟩
noncomputable def f_X10_change (σ : ob_St) (p1 : Int32) (p2 : Int32) : Option (Int32 × ob_St) :=
  ob_bd (f_X3_swap 1 σ p1 p2) fun r1 σ2 =>
  if r1 = 0 then
    ob_bd (f_X10_refuse σ2 (-1)) fun r5 σ6 =>
    some (r5, σ6)
  else
    ob_bd (f_X3_whereIs 1 σ2 p1) fun r3 σ4 =>
    some (r3, σ4)
set_option maxRecDepth 100000 in
set_option maxHeartbeats 4000000 in
theorem c_X10_change {g : ob_GT} {ad : Nat → Nat} {r : Int32} {σ' : ob_St} {σ : ob_St} {p1 : Int32} {p2 : Int32} (hf : f_X10_change σ p1 p2 = some (r, σ')) : ob_CT g (ob_X ad) mi_X10_change [.ref (ad 0), .int p1, .int p2] σ (some (.int r)) σ' := by
  refine ob_ct (by decide +kernel) rfl (Nat.le_of_ble_eq_true rfl) ?_
  show ob_V g (ob_X ad) mi_X10_change (some (.int r)) σ' σ 0 [(0, .ref (ad 0)), (1, .int p1), (2, .int p2)] []
  refine vv_aload_n dX10_change_0 0 rfl rfl 1 rfl ?_
  refine vv_getR dX10_change_1 0 gf_X10_change_10 ob_l0 rfl rfl 4 rfl ?_
  refine vv_iload_n dX10_change_4 1 rfl rfl 5 rfl ?_
  refine vv_iload_n dX10_change_5 2 rfl rfl 6 rfl ?_
  refine vv_callV [.int p1, .int p2] [] (fun _ _ h => c_X3_swap (Or.inl rfl) h) (ob_rec ob_l1 rfl rfl) cv_X10_change_93 rfl (Nat.le_of_ble_eq_true rfl) 9 rfl dX10_change_6 rfl hf (fun r1 σ2 hf => ?_)
  refine vv_if_ne dX10_change_9 18 12 rfl rfl hf (fun hf => ?_) (fun hf => ?_)
  · refine vv_aload_n dX10_change_18 0 rfl rfl 19 rfl ?_
    refine vv_getR dX10_change_19 0 gf_X10_change_10 ob_l0 rfl rfl 22 rfl ?_
    refine vv_iload_n dX10_change_22 1 rfl rfl 23 rfl ?_
    refine vv_callV [.int p1] [] (fun _ _ h => c_X3_whereIs (Or.inl rfl) h) (ob_rec ob_l1 rfl rfl) cv_X10_change_87 rfl (Nat.le_of_ble_eq_true rfl) 26 rfl dX10_change_23 rfl hf (fun r3 σ4 hf => ?_)
    exact vv_ireti rfl dX10_change_26 hf
  · refine vv_aload_n dX10_change_12 0 rfl rfl 13 rfl ?_
    refine vv_iconst dX10_change_13 (-1) rfl 14 rfl ?_
    refine vv_callV [.int (-1)] [] (fun _ _ h => c_X10_refuse h) (ob_rec ob_l0 rfl rfl) cv_X10_change_53 rfl (Nat.le_of_ble_eq_true rfl) 17 rfl dX10_change_14 rfl hf (fun r5 σ6 hf => ?_)
    exact vv_ireti rfl dX10_change_17 hf
abbrev mi_X10_heat : ob_MI := (yX10_heat, ob_ws yX10_heat cX10_heat 4 (some .int), cX10_heat, 4, (some .int), { frames := 1, cells := 0, slots := 0, locals := 22 })
theorem gf_X10_heat_10 : ob_GF mi_X10_heat 10 10 0 := ⟨RX10, TX10, 11, rfl, by decide, fun x h => List.mem_cons_of_mem _ (uw_X10 x h), List.mem_cons_of_mem _ tw_245⟩
theorem cv_X10_heat_68 : ob_CV mi_X10_heat mi_X3_hasDish 68 RX3 1 := ob_cvI rfl rfl tw_482 tw_470 tw_471 tw_49 tw_472 ⟨rfl, rfl⟩ ⟨rfl, by decide +kernel, by decide +kernel, by decide +kernel⟩ ⟨Nat.le_of_ble_eq_true rfl, Nat.le_of_ble_eq_true rfl⟩
theorem gf_X10_heat_78 : ob_GF mi_X10_heat 78 3 3 := ⟨RX3, TX3, 9, rfl, by decide, fun x h => List.mem_cons_of_mem _ (uw_X3 x h), List.mem_cons_of_mem _ tw_91⟩
theorem cv_X10_heat_53 : ob_CV mi_X10_heat mi_X10_refuse 53 RX10 1 := ob_cvI rfl rfl tw_283 tw_285 tw_0 tw_48 tw_286 ⟨rfl, rfl⟩ ⟨rfl, by decide +kernel, by decide +kernel, by decide +kernel⟩ ⟨Nat.le_of_ble_eq_true rfl, Nat.le_of_ble_eq_true rfl⟩
noncomputable def f_X10_heat (σ : ob_St) (p1 : Int32) (p2 : Int32) : Option (Int32 × ob_St) :=
  ob_bd (f_X3_hasDish 1 σ p1) fun r1 σ2 =>
  if r1 = 0 then
    ob_bd (f_X10_refuse σ2 (-1)) fun r9 σ10 =>
    some (r9, σ10)
  else
    if (0 : Int32) ≤ p2 then
      if p2 ≤ 99 then
        ob_ld σ2 4 6 p1 fun v_3 =>
        ob_sd σ2 4 6 p1 p2 fun σ4 =>
        some (v_3, σ4)
      else
        ob_bd (f_X10_refuse σ2 (-6)) fun r5 σ6 =>
        some (r5, σ6)
    else
      ob_bd (f_X10_refuse σ2 (-4)) fun r7 σ8 =>
      some (r7, σ8)
set_option maxRecDepth 100000 in
set_option maxHeartbeats 4000000 in
theorem c_X10_heat {g : ob_GT} {ad : Nat → Nat} {r : Int32} {σ' : ob_St} {σ : ob_St} {p1 : Int32} {p2 : Int32} (hf : f_X10_heat σ p1 p2 = some (r, σ')) : ob_CT g (ob_X ad) mi_X10_heat [.ref (ad 0), .int p1, .int p2] σ (some (.int r)) σ' := by
  refine ob_ct (by decide +kernel) rfl (Nat.le_of_ble_eq_true rfl) ?_
  show ob_V g (ob_X ad) mi_X10_heat (some (.int r)) σ' σ 0 [(0, .ref (ad 0)), (1, .int p1), (2, .int p2)] []
  refine vv_aload_n dX10_heat_0 0 rfl rfl 1 rfl ?_
  refine vv_getR dX10_heat_1 0 gf_X10_heat_10 ob_l0 rfl rfl 4 rfl ?_
  refine vv_iload_n dX10_heat_4 1 rfl rfl 5 rfl ?_
  refine vv_callV [.int p1] [] (fun _ _ h => c_X3_hasDish (Or.inl rfl) h) (ob_rec ob_l1 rfl rfl) cv_X10_heat_68 rfl (Nat.le_of_ble_eq_true rfl) 8 rfl dX10_heat_5 rfl hf (fun r1 σ2 hf => ?_)
  refine vv_if_ne dX10_heat_8 17 11 rfl rfl hf (fun hf => ?_) (fun hf => ?_)
  · refine vv_iload_n dX10_heat_17 2 rfl rfl 18 rfl ?_
    refine vv_if_ge dX10_heat_18 28 21 rfl rfl hf (fun hf => ?_) (fun hf => ?_)
    · refine vv_iload_n dX10_heat_28 2 rfl rfl 29 rfl ?_
      refine vv_bipush dX10_heat_29 99 rfl 31 rfl ?_
      refine vv_icmp_le dX10_heat_31 41 34 rfl rfl hf (fun hf => ?_) (fun hf => ?_)
      · refine vv_aload_n dX10_heat_41 0 rfl rfl 42 rfl ?_
        refine vv_getR dX10_heat_42 0 gf_X10_heat_10 ob_l0 rfl rfl 45 rfl ?_
        refine vv_getR dX10_heat_45 3 gf_X10_heat_78 ob_l1 rfl rfl 48 rfl ?_
        refine vv_iload_n dX10_heat_48 1 rfl rfl 49 rfl ?_
        refine vv_iald dX10_heat_49 ob_l4 rfl 50 rfl hf (fun v_3 hf => ?_)
        refine vv_istore_n dX10_heat_50 [(3, .int v_3), (0, .ref (ad 0)), (1, .int p1), (2, .int p2)] rfl (Nat.le_of_ble_eq_true rfl) rfl 51 rfl ?_
        refine vv_aload_n dX10_heat_51 1 rfl rfl 52 rfl ?_
        refine vv_getR dX10_heat_52 0 gf_X10_heat_10 ob_l0 rfl rfl 55 rfl ?_
        refine vv_getR dX10_heat_55 3 gf_X10_heat_78 ob_l1 rfl rfl 58 rfl ?_
        refine vv_iload_n dX10_heat_58 2 rfl rfl 59 rfl ?_
        refine vv_iload_n dX10_heat_59 3 rfl rfl 60 rfl ?_
        refine vv_iast dX10_heat_60 ob_l4 rfl 61 rfl hf (fun σ4 hf => ?_)
        refine vv_iload_n dX10_heat_61 0 rfl rfl 62 rfl ?_
        exact vv_ireti rfl dX10_heat_62 hf
      · refine vv_aload_n dX10_heat_34 0 rfl rfl 35 rfl ?_
        refine vv_bipush dX10_heat_35 (-6) rfl 37 rfl ?_
        refine vv_callV [.int (-6)] [] (fun _ _ h => c_X10_refuse h) (ob_rec ob_l0 rfl rfl) cv_X10_heat_53 rfl (Nat.le_of_ble_eq_true rfl) 40 rfl dX10_heat_37 rfl hf (fun r5 σ6 hf => ?_)
        exact vv_ireti rfl dX10_heat_40 hf
    · refine vv_aload_n dX10_heat_21 0 rfl rfl 22 rfl ?_
      refine vv_bipush dX10_heat_22 (-4) rfl 24 rfl ?_
      refine vv_callV [.int (-4)] [] (fun _ _ h => c_X10_refuse h) (ob_rec ob_l0 rfl rfl) cv_X10_heat_53 rfl (Nat.le_of_ble_eq_true rfl) 27 rfl dX10_heat_24 rfl hf (fun r7 σ8 hf => ?_)
      exact vv_ireti rfl dX10_heat_27 hf
  · refine vv_aload_n dX10_heat_11 0 rfl rfl 12 rfl ?_
    refine vv_iconst dX10_heat_12 (-1) rfl 13 rfl ?_
    refine vv_callV [.int (-1)] [] (fun _ _ h => c_X10_refuse h) (ob_rec ob_l0 rfl rfl) cv_X10_heat_53 rfl (Nat.le_of_ble_eq_true rfl) 16 rfl dX10_heat_13 rfl hf (fun r9 σ10 hf => ?_)
    exact vv_ireti rfl dX10_heat_16 hf
abbrev mi_X10_begins : ob_MI := (yX10_begins, ob_ws yX10_begins cX10_begins 4 (some .int), cX10_begins, 4, (some .int), { frames := 1, cells := 0, slots := 0, locals := 22 })
theorem cs_X10_begins_97 : ob_CS mi_X10_begins mi_X10_isCourse 97 1 := ob_csI rfl rfl tw_504 tw_451 tw_48 tw_452 ⟨rfl, rfl⟩ ⟨by decide +kernel, by decide +kernel, by decide +kernel⟩ ⟨Nat.le_of_ble_eq_true rfl, Nat.le_of_ble_eq_true rfl⟩
theorem gf_X10_begins_10 : ob_GF mi_X10_begins 10 10 0 := ⟨RX10, TX10, 11, rfl, by decide, fun x h => List.mem_cons_of_mem _ (uw_X10 x h), List.mem_cons_of_mem _ tw_245⟩
theorem gf_X10_begins_100 : ob_GF mi_X10_begins 100 3 7 := ⟨RX3, TX3, 9, rfl, by decide, fun x h => List.mem_cons_of_mem _ (uw_X3 x h), List.mem_cons_of_mem _ tw_102⟩
theorem cv_X10_begins_53 : ob_CV mi_X10_begins mi_X10_refuse 53 RX10 1 := ob_cvI rfl rfl tw_283 tw_285 tw_0 tw_48 tw_286 ⟨rfl, rfl⟩ ⟨rfl, by decide +kernel, by decide +kernel, by decide +kernel⟩ ⟨Nat.le_of_ble_eq_true rfl, Nat.le_of_ble_eq_true rfl⟩
noncomputable def f_X10_begins (σ : ob_St) (p1 : Int32) (p2 : Int32) : Option (Int32 × ob_St) :=
  ob_bd (f_X10_isCourse σ p1) fun r1 σ2 =>
  if r1 = 0 then
    ob_bd (f_X10_refuse σ2 (-1)) fun r9 σ10 =>
    some (r9, σ10)
  else
    if (0 : Int32) ≤ p2 then
      if p2 ≤ 99 then
        ob_ld σ2 8 5 p1 fun v_3 =>
        ob_sd σ2 8 5 p1 p2 fun σ4 =>
        some (v_3, σ4)
      else
        ob_bd (f_X10_refuse σ2 (-6)) fun r5 σ6 =>
        some (r5, σ6)
    else
      ob_bd (f_X10_refuse σ2 (-4)) fun r7 σ8 =>
      some (r7, σ8)
set_option maxRecDepth 100000 in
set_option maxHeartbeats 4000000 in
theorem c_X10_begins {g : ob_GT} {ad : Nat → Nat} {r : Int32} {σ' : ob_St} {σ : ob_St} {p1 : Int32} {p2 : Int32} (hf : f_X10_begins σ p1 p2 = some (r, σ')) : ob_CT g (ob_X ad) mi_X10_begins [.ref (ad 0), .int p1, .int p2] σ (some (.int r)) σ' := by
  refine ob_ct (by decide +kernel) rfl (Nat.le_of_ble_eq_true rfl) ?_
  show ob_V g (ob_X ad) mi_X10_begins (some (.int r)) σ' σ 0 [(0, .ref (ad 0)), (1, .int p1), (2, .int p2)] []
  refine vv_iload_n dX10_begins_0 1 rfl rfl 1 rfl ?_
  refine vv_callS [.int p1] [] (fun _ _ h => c_X10_isCourse h) cs_X10_begins_97 rfl (Nat.le_of_ble_eq_true rfl) 4 rfl dX10_begins_1 rfl hf (fun r1 σ2 hf => ?_)
  refine vv_if_ne dX10_begins_4 13 7 rfl rfl hf (fun hf => ?_) (fun hf => ?_)
  · refine vv_iload_n dX10_begins_13 2 rfl rfl 14 rfl ?_
    refine vv_if_ge dX10_begins_14 24 17 rfl rfl hf (fun hf => ?_) (fun hf => ?_)
    · refine vv_iload_n dX10_begins_24 2 rfl rfl 25 rfl ?_
      refine vv_bipush dX10_begins_25 99 rfl 27 rfl ?_
      refine vv_icmp_le dX10_begins_27 37 30 rfl rfl hf (fun hf => ?_) (fun hf => ?_)
      · refine vv_aload_n dX10_begins_37 0 rfl rfl 38 rfl ?_
        refine vv_getR dX10_begins_38 0 gf_X10_begins_10 ob_l0 rfl rfl 41 rfl ?_
        refine vv_getR dX10_begins_41 7 gf_X10_begins_100 ob_l1 rfl rfl 44 rfl ?_
        refine vv_iload_n dX10_begins_44 1 rfl rfl 45 rfl ?_
        refine vv_iald dX10_begins_45 ob_l8 rfl 46 rfl hf (fun v_3 hf => ?_)
        refine vv_istore_n dX10_begins_46 [(3, .int v_3), (0, .ref (ad 0)), (1, .int p1), (2, .int p2)] rfl (Nat.le_of_ble_eq_true rfl) rfl 47 rfl ?_
        refine vv_aload_n dX10_begins_47 1 rfl rfl 48 rfl ?_
        refine vv_getR dX10_begins_48 0 gf_X10_begins_10 ob_l0 rfl rfl 51 rfl ?_
        refine vv_getR dX10_begins_51 7 gf_X10_begins_100 ob_l1 rfl rfl 54 rfl ?_
        refine vv_iload_n dX10_begins_54 2 rfl rfl 55 rfl ?_
        refine vv_iload_n dX10_begins_55 3 rfl rfl 56 rfl ?_
        refine vv_iast dX10_begins_56 ob_l8 rfl 57 rfl hf (fun σ4 hf => ?_)
        refine vv_iload_n dX10_begins_57 0 rfl rfl 58 rfl ?_
        exact vv_ireti rfl dX10_begins_58 hf
      · refine vv_aload_n dX10_begins_30 0 rfl rfl 31 rfl ?_
        refine vv_bipush dX10_begins_31 (-6) rfl 33 rfl ?_
        refine vv_callV [.int (-6)] [] (fun _ _ h => c_X10_refuse h) (ob_rec ob_l0 rfl rfl) cv_X10_begins_53 rfl (Nat.le_of_ble_eq_true rfl) 36 rfl dX10_begins_33 rfl hf (fun r5 σ6 hf => ?_)
        exact vv_ireti rfl dX10_begins_36 hf
    · refine vv_aload_n dX10_begins_17 0 rfl rfl 18 rfl ?_
      refine vv_bipush dX10_begins_18 (-4) rfl 20 rfl ?_
      refine vv_callV [.int (-4)] [] (fun _ _ h => c_X10_refuse h) (ob_rec ob_l0 rfl rfl) cv_X10_begins_53 rfl (Nat.le_of_ble_eq_true rfl) 23 rfl dX10_begins_20 rfl hf (fun r7 σ8 hf => ?_)
      exact vv_ireti rfl dX10_begins_23 hf
  · refine vv_aload_n dX10_begins_7 0 rfl rfl 8 rfl ?_
    refine vv_iconst dX10_begins_8 (-1) rfl 9 rfl ?_
    refine vv_callV [.int (-1)] [] (fun _ _ h => c_X10_refuse h) (ob_rec ob_l0 rfl rfl) cv_X10_begins_53 rfl (Nat.le_of_ble_eq_true rfl) 12 rfl dX10_begins_9 rfl hf (fun r9 σ10 hf => ?_)
    exact vv_ireti rfl dX10_begins_12 hf
abbrev mi_X10_set : ob_MI := (yX10_set, ob_ws yX10_set cX10_set 4 (some .int), cX10_set, 4, (some .int), { frames := 1, cells := 0, slots := 0, locals := 22 })
theorem cv_X10_set_53 : ob_CV mi_X10_set mi_X10_refuse 53 RX10 1 := ob_cvI rfl rfl tw_283 tw_285 tw_0 tw_48 tw_286 ⟨rfl, rfl⟩ ⟨rfl, by decide +kernel, by decide +kernel, by decide +kernel⟩ ⟨Nat.le_of_ble_eq_true rfl, Nat.le_of_ble_eq_true rfl⟩
theorem gf_X10_set_10 : ob_GF mi_X10_set 10 10 0 := ⟨RX10, TX10, 11, rfl, by decide, fun x h => List.mem_cons_of_mem _ (uw_X10 x h), List.mem_cons_of_mem _ tw_245⟩
theorem gf_X10_set_107 : ob_GF mi_X10_set 107 3 8 := ⟨RX3, TX3, 9, rfl, by decide, fun x h => List.mem_cons_of_mem _ (uw_X3 x h), List.mem_cons_of_mem _ tw_105⟩
noncomputable def f_X10_set (σ : ob_St) (p1 : Int32) (p2 : Int32) : Option (Int32 × ob_St) :=
  if p1 < 0 then
    ob_bd (f_X10_refuse σ (-2)) fun r1 σ2 =>
    some (r1, σ2)
  else
    if p1 ≤ 5 then
      ob_lt ob_least 6 p1 fun v_3 =>
      if v_3 ≤ p2 then
        ob_lt ob_great 6 p1 fun v_4 =>
        if p2 ≤ v_4 then
          ob_ld σ 9 6 p1 fun v_5 =>
          ob_sd σ 9 6 p1 p2 fun σ6 =>
          some (v_5, σ6)
        else
          ob_bd (f_X10_refuse σ (-6)) fun r7 σ8 =>
          some (r7, σ8)
      else
        ob_bd (f_X10_refuse σ (-4)) fun r9 σ10 =>
        some (r9, σ10)
    else
      ob_bd (f_X10_refuse σ (-2)) fun r11 σ12 =>
      some (r11, σ12)
set_option maxRecDepth 100000 in
set_option maxHeartbeats 4000000 in
theorem c_X10_set {g : ob_GT} {ad : Nat → Nat} {r : Int32} {σ' : ob_St} {σ : ob_St} {p1 : Int32} {p2 : Int32} (hf : f_X10_set σ p1 p2 = some (r, σ')) : ob_CT g (ob_X ad) mi_X10_set [.ref (ad 0), .int p1, .int p2] σ (some (.int r)) σ' := by
  refine ob_ct (by decide +kernel) rfl (Nat.le_of_ble_eq_true rfl) ?_
  show ob_V g (ob_X ad) mi_X10_set (some (.int r)) σ' σ 0 [(0, .ref (ad 0)), (1, .int p1), (2, .int p2)] []
  refine vv_iload_n dX10_set_0 1 rfl rfl 1 rfl ?_
  refine vv_if_lt dX10_set_1 9 4 rfl rfl hf (fun hf => ?_) (fun hf => ?_)
  · refine vv_aload_n dX10_set_9 0 rfl rfl 10 rfl ?_
    refine vv_bipush dX10_set_10 (-2) rfl 12 rfl ?_
    refine vv_callV [.int (-2)] [] (fun _ _ h => c_X10_refuse h) (ob_rec ob_l0 rfl rfl) cv_X10_set_53 rfl (Nat.le_of_ble_eq_true rfl) 15 rfl dX10_set_12 rfl hf (fun r1 σ2 hf => ?_)
    exact vv_ireti rfl dX10_set_15 hf
  · refine vv_iload_n dX10_set_4 1 rfl rfl 5 rfl ?_
    refine vv_iconst dX10_set_5 5 rfl 6 rfl ?_
    refine vv_icmp_le dX10_set_6 16 9 rfl rfl hf (fun hf => ?_) (fun hf => ?_)
    · refine vv_iload_n dX10_set_16 2 rfl rfl 17 rfl ?_
      refine vv_gst dX10_set_17 (List.mem_cons_of_mem _ tw_509) (fun _ _ h => h.2.1.1) 20 rfl ?_
      refine vv_iload_n dX10_set_20 1 rfl rfl 21 rfl ?_
      refine vv_tald dX10_set_21 (fun _ _ h => h.2.1.2.1) 22 rfl hf (fun v_3 hf => ?_)
      refine vv_icmp_ge dX10_set_22 32 25 rfl rfl hf (fun hf => ?_) (fun hf => ?_)
      · refine vv_iload_n dX10_set_32 2 rfl rfl 33 rfl ?_
        refine vv_gst dX10_set_33 (List.mem_cons_of_mem _ tw_510) (fun _ _ h => h.2.1.2.2.1) 36 rfl ?_
        refine vv_iload_n dX10_set_36 1 rfl rfl 37 rfl ?_
        refine vv_tald dX10_set_37 (fun _ _ h => h.2.1.2.2.2) 38 rfl hf (fun v_4 hf => ?_)
        refine vv_icmp_le dX10_set_38 48 41 rfl rfl hf (fun hf => ?_) (fun hf => ?_)
        · refine vv_aload_n dX10_set_48 0 rfl rfl 49 rfl ?_
          refine vv_getR dX10_set_49 0 gf_X10_set_10 ob_l0 rfl rfl 52 rfl ?_
          refine vv_getR dX10_set_52 8 gf_X10_set_107 ob_l1 rfl rfl 55 rfl ?_
          refine vv_iload_n dX10_set_55 1 rfl rfl 56 rfl ?_
          refine vv_iald dX10_set_56 ob_l9 rfl 57 rfl hf (fun v_5 hf => ?_)
          refine vv_istore_n dX10_set_57 [(3, .int v_5), (0, .ref (ad 0)), (1, .int p1), (2, .int p2)] rfl (Nat.le_of_ble_eq_true rfl) rfl 58 rfl ?_
          refine vv_aload_n dX10_set_58 1 rfl rfl 59 rfl ?_
          refine vv_getR dX10_set_59 0 gf_X10_set_10 ob_l0 rfl rfl 62 rfl ?_
          refine vv_getR dX10_set_62 8 gf_X10_set_107 ob_l1 rfl rfl 65 rfl ?_
          refine vv_iload_n dX10_set_65 2 rfl rfl 66 rfl ?_
          refine vv_iload_n dX10_set_66 3 rfl rfl 67 rfl ?_
          refine vv_iast dX10_set_67 ob_l9 rfl 68 rfl hf (fun σ6 hf => ?_)
          refine vv_iload_n dX10_set_68 0 rfl rfl 69 rfl ?_
          exact vv_ireti rfl dX10_set_69 hf
        · refine vv_aload_n dX10_set_41 0 rfl rfl 42 rfl ?_
          refine vv_bipush dX10_set_42 (-6) rfl 44 rfl ?_
          refine vv_callV [.int (-6)] [] (fun _ _ h => c_X10_refuse h) (ob_rec ob_l0 rfl rfl) cv_X10_set_53 rfl (Nat.le_of_ble_eq_true rfl) 47 rfl dX10_set_44 rfl hf (fun r7 σ8 hf => ?_)
          exact vv_ireti rfl dX10_set_47 hf
      · refine vv_aload_n dX10_set_25 0 rfl rfl 26 rfl ?_
        refine vv_bipush dX10_set_26 (-4) rfl 28 rfl ?_
        refine vv_callV [.int (-4)] [] (fun _ _ h => c_X10_refuse h) (ob_rec ob_l0 rfl rfl) cv_X10_set_53 rfl (Nat.le_of_ble_eq_true rfl) 31 rfl dX10_set_28 rfl hf (fun r9 σ10 hf => ?_)
        exact vv_ireti rfl dX10_set_31 hf
    · refine vv_aload_n dX10_set_9 0 rfl rfl 10 rfl ?_
      refine vv_bipush dX10_set_10 (-2) rfl 12 rfl ?_
      refine vv_callV [.int (-2)] [] (fun _ _ h => c_X10_refuse h) (ob_rec ob_l0 rfl rfl) cv_X10_set_53 rfl (Nat.le_of_ble_eq_true rfl) 15 rfl dX10_set_12 rfl hf (fun r11 σ12 hf => ?_)
      exact vv_ireti rfl dX10_set_15 hf
abbrev mi_X10_goes : ob_MI := (yX10_goes, ob_ws yX10_goes cX10_goes 2 (some .int), cX10_goes, 2, (some .int), { frames := 2, cells := 0, slots := 0, locals := 43 })
theorem gf_X10_goes_10 : ob_GF mi_X10_goes 10 10 0 := ⟨RX10, TX10, 11, rfl, by decide, fun x h => List.mem_cons_of_mem _ (uw_X10 x h), List.mem_cons_of_mem _ tw_245⟩
theorem cv_X10_goes_110 : ob_CV mi_X10_goes mi_X3_secondsWith 110 RX3 1 := ob_cvI rfl rfl tw_515 tw_516 tw_517 tw_49 tw_518 ⟨rfl, rfl⟩ ⟨rfl, by decide +kernel, by decide +kernel, by decide +kernel⟩ ⟨Nat.le_of_ble_eq_true rfl, Nat.le_of_ble_eq_true rfl⟩
theorem cv_X10_goes_53 : ob_CV mi_X10_goes mi_X10_refuse 53 RX10 1 := ob_cvI rfl rfl tw_283 tw_285 tw_0 tw_48 tw_286 ⟨rfl, rfl⟩ ⟨rfl, by decide +kernel, by decide +kernel, by decide +kernel⟩ ⟨Nat.le_of_ble_eq_true rfl, Nat.le_of_ble_eq_true rfl⟩
noncomputable def f_X10_goes (σ : ob_St) (p1 : Int32) : Option (Int32 × ob_St) :=
  if (0 : Int32) ≤ p1 then
    if p1 ≤ 99 then
      ob_bd (f_X3_secondsWith 1 σ p1) fun r1 σ2 =>
      some (r1, σ2)
    else
      ob_bd (f_X10_refuse σ (-6)) fun r3 σ4 =>
      some (r3, σ4)
  else
    ob_bd (f_X10_refuse σ (-4)) fun r5 σ6 =>
    some (r5, σ6)
set_option maxRecDepth 100000 in
set_option maxHeartbeats 4000000 in
theorem c_X10_goes {g : ob_GT} {ad : Nat → Nat} {r : Int32} {σ' : ob_St} {σ : ob_St} {p1 : Int32} (hf : f_X10_goes σ p1 = some (r, σ')) : ob_CT g (ob_X ad) mi_X10_goes [.ref (ad 0), .int p1] σ (some (.int r)) σ' := by
  refine ob_ct (by decide +kernel) rfl (Nat.le_of_ble_eq_true rfl) ?_
  show ob_V g (ob_X ad) mi_X10_goes (some (.int r)) σ' σ 0 [(0, .ref (ad 0)), (1, .int p1)] []
  refine vv_iload_n dX10_goes_0 1 rfl rfl 1 rfl ?_
  refine vv_if_ge dX10_goes_1 11 4 rfl rfl hf (fun hf => ?_) (fun hf => ?_)
  · refine vv_iload_n dX10_goes_11 1 rfl rfl 12 rfl ?_
    refine vv_bipush dX10_goes_12 99 rfl 14 rfl ?_
    refine vv_icmp_le dX10_goes_14 24 17 rfl rfl hf (fun hf => ?_) (fun hf => ?_)
    · refine vv_aload_n dX10_goes_24 0 rfl rfl 25 rfl ?_
      refine vv_getR dX10_goes_25 0 gf_X10_goes_10 ob_l0 rfl rfl 28 rfl ?_
      refine vv_iload_n dX10_goes_28 1 rfl rfl 29 rfl ?_
      refine vv_callV [.int p1] [] (fun _ _ h => c_X3_secondsWith (Or.inl rfl) h) (ob_rec ob_l1 rfl rfl) cv_X10_goes_110 rfl (Nat.le_of_ble_eq_true rfl) 32 rfl dX10_goes_29 rfl hf (fun r1 σ2 hf => ?_)
      exact vv_ireti rfl dX10_goes_32 hf
    · refine vv_aload_n dX10_goes_17 0 rfl rfl 18 rfl ?_
      refine vv_bipush dX10_goes_18 (-6) rfl 20 rfl ?_
      refine vv_callV [.int (-6)] [] (fun _ _ h => c_X10_refuse h) (ob_rec ob_l0 rfl rfl) cv_X10_goes_53 rfl (Nat.le_of_ble_eq_true rfl) 23 rfl dX10_goes_20 rfl hf (fun r3 σ4 hf => ?_)
      exact vv_ireti rfl dX10_goes_23 hf
  · refine vv_aload_n dX10_goes_4 0 rfl rfl 5 rfl ?_
    refine vv_bipush dX10_goes_5 (-4) rfl 7 rfl ?_
    refine vv_callV [.int (-4)] [] (fun _ _ h => c_X10_refuse h) (ob_rec ob_l0 rfl rfl) cv_X10_goes_53 rfl (Nat.le_of_ble_eq_true rfl) 10 rfl dX10_goes_7 rfl hf (fun r5 σ6 hf => ?_)
    exact vv_ireti rfl dX10_goes_10 hf
abbrev mi_X10_total : ob_MI := (yX10_total, ob_ws yX10_total cX10_total 2 (some .int), cX10_total, 2, (some .int), { frames := 5, cells := 0, slots := 0, locals := 120 })
theorem cs_X10_total_113 : ob_CS mi_X10_total mi_X10_isTotal 113 1 := ob_csI rfl rfl tw_527 tw_528 tw_48 tw_529 ⟨rfl, rfl⟩ ⟨by decide +kernel, by decide +kernel, by decide +kernel⟩ ⟨Nat.le_of_ble_eq_true rfl, Nat.le_of_ble_eq_true rfl⟩
theorem cv_X10_total_119 : ob_CV mi_X10_total mi_X10_lookAtNow 119 RX10 0 := ob_cvI rfl rfl tw_535 tw_537 tw_5 tw_48 tw_538 ⟨rfl, rfl⟩ ⟨rfl, by decide +kernel, by decide +kernel, by decide +kernel⟩ ⟨Nat.le_of_ble_eq_true rfl, Nat.le_of_ble_eq_true rfl⟩
theorem gf_X10_total_32 : ob_GF mi_X10_total 32 10 5 := ⟨RX10, TX10, 11, rfl, by decide, fun x h => List.mem_cons_of_mem _ (uw_X10 x h), List.mem_cons_of_mem _ tw_250⟩
theorem gf_X10_total_122 : ob_GF mi_X10_total 122 1 10 := ⟨RX1, TX1, 11, rfl, by decide, fun x h => List.mem_cons_of_mem _ (uw_X1 x h), List.mem_cons_of_mem _ tw_207⟩
theorem cv_X10_total_116 : ob_CV mi_X10_total mi_X10_refuseAbove 116 RX10 1 := ob_cvI rfl rfl tw_530 tw_532 tw_4 tw_48 tw_533 ⟨rfl, rfl⟩ ⟨rfl, by decide +kernel, by decide +kernel, by decide +kernel⟩ ⟨Nat.le_of_ble_eq_true rfl, Nat.le_of_ble_eq_true rfl⟩
noncomputable def f_X10_total (σ : ob_St) (p1 : Int32) : Option (Int32 × ob_St) :=
  ob_bd (f_X10_isTotal σ p1) fun r1 σ2 =>
  if r1 = 0 then
    ob_bd (f_X10_refuseAbove σ2 (-2)) fun r6 σ7 =>
    some (r6, σ7)
  else
    ob_bd (f_X10_lookAtNow σ2) fun _ σ4 =>
    ob_ld σ4 46 8 p1 fun v_5 =>
    some (v_5, σ4)
set_option maxRecDepth 100000 in
set_option maxHeartbeats 4000000 in
theorem c_X10_total {g : ob_GT} {ad : Nat → Nat} {r : Int32} {σ' : ob_St} {σ : ob_St} {p1 : Int32} (hf : f_X10_total σ p1 = some (r, σ')) : ob_CT g (ob_X ad) mi_X10_total [.ref (ad 0), .int p1] σ (some (.int r)) σ' := by
  refine ob_ct (by decide +kernel) rfl (Nat.le_of_ble_eq_true rfl) ?_
  show ob_V g (ob_X ad) mi_X10_total (some (.int r)) σ' σ 0 [(0, .ref (ad 0)), (1, .int p1)] []
  refine vv_iload_n dX10_total_0 1 rfl rfl 1 rfl ?_
  refine vv_callS [.int p1] [] (fun _ _ h => c_X10_isTotal h) cs_X10_total_113 rfl (Nat.le_of_ble_eq_true rfl) 4 rfl dX10_total_1 rfl hf (fun r1 σ2 hf => ?_)
  refine vv_if_ne dX10_total_4 14 7 rfl rfl hf (fun hf => ?_) (fun hf => ?_)
  · refine vv_aload_n dX10_total_14 0 rfl rfl 15 rfl ?_
    refine vv_callVu [] [] (fun _ _ h => c_X10_lookAtNow h) (ob_rec ob_l0 rfl rfl) cv_X10_total_119 rfl (Nat.le_of_ble_eq_true rfl) 18 rfl dX10_total_15 rfl hf (fun _ σ4 hf => ?_)
    refine vv_aload_n dX10_total_18 0 rfl rfl 19 rfl ?_
    refine vv_getR dX10_total_19 5 gf_X10_total_32 ob_l0 rfl rfl 22 rfl ?_
    refine vv_getR dX10_total_22 10 gf_X10_total_122 ob_l30 rfl rfl 25 rfl ?_
    refine vv_iload_n dX10_total_25 1 rfl rfl 26 rfl ?_
    refine vv_iald dX10_total_26 ob_l46 rfl 27 rfl hf (fun v_5 hf => ?_)
    exact vv_ireti rfl dX10_total_27 hf
  · refine vv_aload_n dX10_total_7 0 rfl rfl 8 rfl ?_
    refine vv_bipush dX10_total_8 (-2) rfl 10 rfl ?_
    refine vv_callV [.int (-2)] [] (fun _ _ h => c_X10_refuseAbove h) (ob_rec ob_l0 rfl rfl) cv_X10_total_116 rfl (Nat.le_of_ble_eq_true rfl) 13 rfl dX10_total_10 rfl hf (fun r6 σ7 hf => ?_)
    exact vv_ireti rfl dX10_total_13 hf
abbrev mi_X10_of : ob_MI := (yX10_of, ob_ws yX10_of cX10_of 3 (some .int), cX10_of, 3, (some .int), { frames := 5, cells := 0, slots := 0, locals := 120 })
theorem gf_X10_of_10 : ob_GF mi_X10_of 10 10 0 := ⟨RX10, TX10, 11, rfl, by decide, fun x h => List.mem_cons_of_mem _ (uw_X10 x h), List.mem_cons_of_mem _ tw_245⟩
theorem cv_X10_of_68 : ob_CV mi_X10_of mi_X3_hasDish 68 RX3 1 := ob_cvI rfl rfl tw_482 tw_470 tw_471 tw_49 tw_472 ⟨rfl, rfl⟩ ⟨rfl, by decide +kernel, by decide +kernel, by decide +kernel⟩ ⟨Nat.le_of_ble_eq_true rfl, Nat.le_of_ble_eq_true rfl⟩
theorem cv_X10_of_119 : ob_CV mi_X10_of mi_X10_lookAtNow 119 RX10 0 := ob_cvI rfl rfl tw_535 tw_537 tw_5 tw_48 tw_538 ⟨rfl, rfl⟩ ⟨rfl, by decide +kernel, by decide +kernel, by decide +kernel⟩ ⟨Nat.le_of_ble_eq_true rfl, Nat.le_of_ble_eq_true rfl⟩
theorem gf_X10_of_32 : ob_GF mi_X10_of 32 10 5 := ⟨RX10, TX10, 11, rfl, by decide, fun x h => List.mem_cons_of_mem _ (uw_X10 x h), List.mem_cons_of_mem _ tw_250⟩
theorem gf_X10_of_125 : ob_GF mi_X10_of 125 1 3 := ⟨RX1, TX1, 11, rfl, by decide, fun x h => List.mem_cons_of_mem _ (uw_X1 x h), List.mem_cons_of_mem _ tw_193⟩
theorem gf_X10_of_128 : ob_GF mi_X10_of 128 1 4 := ⟨RX1, TX1, 11, rfl, by decide, fun x h => List.mem_cons_of_mem _ (uw_X1 x h), List.mem_cons_of_mem _ tw_195⟩
theorem gf_X10_of_131 : ob_GF mi_X10_of 131 1 5 := ⟨RX1, TX1, 11, rfl, by decide, fun x h => List.mem_cons_of_mem _ (uw_X1 x h), List.mem_cons_of_mem _ tw_197⟩
theorem gf_X10_of_134 : ob_GF mi_X10_of 134 1 6 := ⟨RX1, TX1, 11, rfl, by decide, fun x h => List.mem_cons_of_mem _ (uw_X1 x h), List.mem_cons_of_mem _ tw_199⟩
theorem gf_X10_of_137 : ob_GF mi_X10_of 137 1 7 := ⟨RX1, TX1, 11, rfl, by decide, fun x h => List.mem_cons_of_mem _ (uw_X1 x h), List.mem_cons_of_mem _ tw_201⟩
theorem gf_X10_of_140 : ob_GF mi_X10_of 140 1 8 := ⟨RX1, TX1, 11, rfl, by decide, fun x h => List.mem_cons_of_mem _ (uw_X1 x h), List.mem_cons_of_mem _ tw_203⟩
theorem gf_X10_of_143 : ob_GF mi_X10_of 143 1 9 := ⟨RX1, TX1, 11, rfl, by decide, fun x h => List.mem_cons_of_mem _ (uw_X1 x h), List.mem_cons_of_mem _ tw_205⟩
theorem cv_X10_of_53 : ob_CV mi_X10_of mi_X10_refuse 53 RX10 1 := ob_cvI rfl rfl tw_283 tw_285 tw_0 tw_48 tw_286 ⟨rfl, rfl⟩ ⟨rfl, by decide +kernel, by decide +kernel, by decide +kernel⟩ ⟨Nat.le_of_ble_eq_true rfl, Nat.le_of_ble_eq_true rfl⟩
noncomputable def f_X10_of (σ : ob_St) (p1 : Int32) (p2 : Int32) : Option (Int32 × ob_St) :=
  ob_bd (f_X3_hasDish 1 σ p1) fun r1 σ2 =>
  if r1 = 0 then
    ob_bd (f_X10_refuse σ2 (-1)) fun r14 σ15 =>
    some (r14, σ15)
  else
    ob_bd (f_X10_lookAtNow σ2) fun _ σ4 =>
    if p2 = 0 then
      ob_ld σ4 39 6 p1 fun v_5 =>
      some (v_5, σ4)
    else
    if p2 = 1 then
      ob_ld σ4 40 6 p1 fun v_6 =>
      some (v_6, σ4)
    else
    if p2 = 2 then
      ob_ld σ4 41 6 p1 fun v_7 =>
      some (v_7, σ4)
    else
    if p2 = 3 then
      ob_ld σ4 42 6 p1 fun v_8 =>
      some (v_8, σ4)
    else
    if p2 = 4 then
      ob_ld σ4 43 6 p1 fun v_9 =>
      some (v_9, σ4)
    else
    if p2 = 5 then
      ob_ld σ4 44 6 p1 fun v_10 =>
      some (v_10, σ4)
    else
    if p2 = 6 then
      ob_ld σ4 45 6 p1 fun v_11 =>
      some (v_11, σ4)
    else
      ob_bd (f_X10_refuse σ4 (-2)) fun r12 σ13 =>
      some (r12, σ13)
set_option maxRecDepth 100000 in
set_option maxHeartbeats 4000000 in
theorem c_X10_of {g : ob_GT} {ad : Nat → Nat} {r : Int32} {σ' : ob_St} {σ : ob_St} {p1 : Int32} {p2 : Int32} (hf : f_X10_of σ p1 p2 = some (r, σ')) : ob_CT g (ob_X ad) mi_X10_of [.ref (ad 0), .int p1, .int p2] σ (some (.int r)) σ' := by
  refine ob_ct (by decide +kernel) rfl (Nat.le_of_ble_eq_true rfl) ?_
  show ob_V g (ob_X ad) mi_X10_of (some (.int r)) σ' σ 0 [(0, .ref (ad 0)), (1, .int p1), (2, .int p2)] []
  refine vv_aload_n dX10_of_0 0 rfl rfl 1 rfl ?_
  refine vv_getR dX10_of_1 0 gf_X10_of_10 ob_l0 rfl rfl 4 rfl ?_
  refine vv_iload_n dX10_of_4 1 rfl rfl 5 rfl ?_
  refine vv_callV [.int p1] [] (fun _ _ h => c_X3_hasDish (Or.inl rfl) h) (ob_rec ob_l1 rfl rfl) cv_X10_of_68 rfl (Nat.le_of_ble_eq_true rfl) 8 rfl dX10_of_5 rfl hf (fun r1 σ2 hf => ?_)
  refine vv_if_ne dX10_of_8 17 11 rfl rfl hf (fun hf => ?_) (fun hf => ?_)
  · refine vv_aload_n dX10_of_17 0 rfl rfl 18 rfl ?_
    refine vv_callVu [] [] (fun _ _ h => c_X10_lookAtNow h) (ob_rec ob_l0 rfl rfl) cv_X10_of_119 rfl (Nat.le_of_ble_eq_true rfl) 21 rfl dX10_of_18 rfl hf (fun _ σ4 hf => ?_)
    refine vv_iload_n dX10_of_21 2 rfl rfl 22 rfl ?_
    refine vv_case 0 hf (fun hf => ?_) (fun nh0 hf => ?_)
    · refine vv_tabIn dX10_of_22 64 (by decide) (by decide) rfl rfl ?_
      refine vv_aload_n dX10_of_64 0 rfl rfl 65 rfl ?_
      refine vv_getR dX10_of_65 5 gf_X10_of_32 ob_l0 rfl rfl 68 rfl ?_
      refine vv_getR dX10_of_68 3 gf_X10_of_125 ob_l30 rfl rfl 71 rfl ?_
      refine vv_iload_n dX10_of_71 1 rfl rfl 72 rfl ?_
      refine vv_iald dX10_of_72 ob_l39 rfl 73 rfl hf (fun v_5 hf => ?_)
      exact vv_ireti rfl dX10_of_73 hf
    refine vv_case 1 hf (fun hf => ?_) (fun nh1 hf => ?_)
    · refine vv_tabIn dX10_of_22 74 (by decide) (by decide) rfl rfl ?_
      refine vv_aload_n dX10_of_74 0 rfl rfl 75 rfl ?_
      refine vv_getR dX10_of_75 5 gf_X10_of_32 ob_l0 rfl rfl 78 rfl ?_
      refine vv_getR dX10_of_78 4 gf_X10_of_128 ob_l30 rfl rfl 81 rfl ?_
      refine vv_iload_n dX10_of_81 1 rfl rfl 82 rfl ?_
      refine vv_iald dX10_of_82 ob_l40 rfl 83 rfl hf (fun v_6 hf => ?_)
      exact vv_ireti rfl dX10_of_83 hf
    refine vv_case 2 hf (fun hf => ?_) (fun nh2 hf => ?_)
    · refine vv_tabIn dX10_of_22 84 (by decide) (by decide) rfl rfl ?_
      refine vv_aload_n dX10_of_84 0 rfl rfl 85 rfl ?_
      refine vv_getR dX10_of_85 5 gf_X10_of_32 ob_l0 rfl rfl 88 rfl ?_
      refine vv_getR dX10_of_88 5 gf_X10_of_131 ob_l30 rfl rfl 91 rfl ?_
      refine vv_iload_n dX10_of_91 1 rfl rfl 92 rfl ?_
      refine vv_iald dX10_of_92 ob_l41 rfl 93 rfl hf (fun v_7 hf => ?_)
      exact vv_ireti rfl dX10_of_93 hf
    refine vv_case 3 hf (fun hf => ?_) (fun nh3 hf => ?_)
    · refine vv_tabIn dX10_of_22 94 (by decide) (by decide) rfl rfl ?_
      refine vv_aload_n dX10_of_94 0 rfl rfl 95 rfl ?_
      refine vv_getR dX10_of_95 5 gf_X10_of_32 ob_l0 rfl rfl 98 rfl ?_
      refine vv_getR dX10_of_98 6 gf_X10_of_134 ob_l30 rfl rfl 101 rfl ?_
      refine vv_iload_n dX10_of_101 1 rfl rfl 102 rfl ?_
      refine vv_iald dX10_of_102 ob_l42 rfl 103 rfl hf (fun v_8 hf => ?_)
      exact vv_ireti rfl dX10_of_103 hf
    refine vv_case 4 hf (fun hf => ?_) (fun nh4 hf => ?_)
    · refine vv_tabIn dX10_of_22 104 (by decide) (by decide) rfl rfl ?_
      refine vv_aload_n dX10_of_104 0 rfl rfl 105 rfl ?_
      refine vv_getR dX10_of_105 5 gf_X10_of_32 ob_l0 rfl rfl 108 rfl ?_
      refine vv_getR dX10_of_108 7 gf_X10_of_137 ob_l30 rfl rfl 111 rfl ?_
      refine vv_iload_n dX10_of_111 1 rfl rfl 112 rfl ?_
      refine vv_iald dX10_of_112 ob_l43 rfl 113 rfl hf (fun v_9 hf => ?_)
      exact vv_ireti rfl dX10_of_113 hf
    refine vv_case 5 hf (fun hf => ?_) (fun nh5 hf => ?_)
    · refine vv_tabIn dX10_of_22 114 (by decide) (by decide) rfl rfl ?_
      refine vv_aload_n dX10_of_114 0 rfl rfl 115 rfl ?_
      refine vv_getR dX10_of_115 5 gf_X10_of_32 ob_l0 rfl rfl 118 rfl ?_
      refine vv_getR dX10_of_118 8 gf_X10_of_140 ob_l30 rfl rfl 121 rfl ?_
      refine vv_iload_n dX10_of_121 1 rfl rfl 122 rfl ?_
      refine vv_iald dX10_of_122 ob_l44 rfl 123 rfl hf (fun v_10 hf => ?_)
      exact vv_ireti rfl dX10_of_123 hf
    refine vv_case 6 hf (fun hf => ?_) (fun nh6 hf => ?_)
    · refine vv_tabIn dX10_of_22 124 (by decide) (by decide) rfl rfl ?_
      refine vv_aload_n dX10_of_124 0 rfl rfl 125 rfl ?_
      refine vv_getR dX10_of_125 5 gf_X10_of_32 ob_l0 rfl rfl 128 rfl ?_
      refine vv_getR dX10_of_128 9 gf_X10_of_143 ob_l30 rfl rfl 131 rfl ?_
      refine vv_iload_n dX10_of_131 1 rfl rfl 132 rfl ?_
      refine vv_iald dX10_of_132 ob_l45 rfl 133 rfl hf (fun v_11 hf => ?_)
      exact vv_ireti rfl dX10_of_133 hf
    refine vv_tabOut dX10_of_22 134 (by have z0 := ob_neI nh0 (a := 0) rfl; have z1 := ob_neI nh1 (a := 1) rfl; have z2 := ob_neI nh2 (a := 2) rfl; have z3 := ob_neI nh3 (a := 3) rfl; have z4 := ob_neI nh4 (a := 4) rfl; have z5 := ob_neI nh5 (a := 5) rfl; have z6 := ob_neI nh6 (a := 6) rfl; omega) rfl ?_
    refine vv_aload_n dX10_of_134 0 rfl rfl 135 rfl ?_
    refine vv_bipush dX10_of_135 (-2) rfl 137 rfl ?_
    refine vv_callV [.int (-2)] [] (fun _ _ h => c_X10_refuse h) (ob_rec ob_l0 rfl rfl) cv_X10_of_53 rfl (Nat.le_of_ble_eq_true rfl) 140 rfl dX10_of_137 rfl hf (fun r12 σ13 hf => ?_)
    exact vv_ireti rfl dX10_of_140 hf
  · refine vv_aload_n dX10_of_11 0 rfl rfl 12 rfl ?_
    refine vv_iconst dX10_of_12 (-1) rfl 13 rfl ?_
    refine vv_callV [.int (-1)] [] (fun _ _ h => c_X10_refuse h) (ob_rec ob_l0 rfl rfl) cv_X10_of_53 rfl (Nat.le_of_ble_eq_true rfl) 16 rfl dX10_of_13 rfl hf (fun r14 σ15 hf => ?_)
    exact vv_ireti rfl dX10_of_16 hf
abbrev mi_X10_best : ob_MI := (yX10_best, ob_ws yX10_best cX10_best 2 (some .int), cX10_best, 2, (some .int), { frames := 5, cells := 0, slots := 0, locals := 126 })
theorem cs_X10_best_113 : ob_CS mi_X10_best mi_X10_isTotal 113 1 := ob_csI rfl rfl tw_527 tw_528 tw_48 tw_529 ⟨rfl, rfl⟩ ⟨by decide +kernel, by decide +kernel, by decide +kernel⟩ ⟨Nat.le_of_ble_eq_true rfl, Nat.le_of_ble_eq_true rfl⟩
theorem cv_X10_best_146 : ob_CV mi_X10_best mi_X10_findBest 146 RX10 1 := ob_cvI rfl rfl tw_640 tw_642 tw_12 tw_48 tw_643 ⟨rfl, rfl⟩ ⟨rfl, by decide +kernel, by decide +kernel, by decide +kernel⟩ ⟨Nat.le_of_ble_eq_true rfl, Nat.le_of_ble_eq_true rfl⟩
theorem cv_X10_best_116 : ob_CV mi_X10_best mi_X10_refuseAbove 116 RX10 1 := ob_cvI rfl rfl tw_530 tw_532 tw_4 tw_48 tw_533 ⟨rfl, rfl⟩ ⟨rfl, by decide +kernel, by decide +kernel, by decide +kernel⟩ ⟨Nat.le_of_ble_eq_true rfl, Nat.le_of_ble_eq_true rfl⟩
noncomputable def f_X10_best (σ : ob_St) (p1 : Int32) : Option (Int32 × ob_St) :=
  ob_bd (f_X10_isTotal σ p1) fun r1 σ2 =>
  if r1 = 0 then
    ob_bd (f_X10_refuseAbove σ2 (-2)) fun r5 σ6 =>
    some (r5, σ6)
  else
    ob_bd (f_X10_findBest σ2 p1) fun r3 σ4 =>
    some (r3, σ4)
set_option maxRecDepth 100000 in
set_option maxHeartbeats 4000000 in
theorem c_X10_best {g : ob_GT} {ad : Nat → Nat} {r : Int32} {σ' : ob_St} {σ : ob_St} {p1 : Int32} (hf : f_X10_best σ p1 = some (r, σ')) : ob_CT g (ob_X ad) mi_X10_best [.ref (ad 0), .int p1] σ (some (.int r)) σ' := by
  refine ob_ct (by decide +kernel) rfl (Nat.le_of_ble_eq_true rfl) ?_
  show ob_V g (ob_X ad) mi_X10_best (some (.int r)) σ' σ 0 [(0, .ref (ad 0)), (1, .int p1)] []
  refine vv_iload_n dX10_best_0 1 rfl rfl 1 rfl ?_
  refine vv_callS [.int p1] [] (fun _ _ h => c_X10_isTotal h) cs_X10_best_113 rfl (Nat.le_of_ble_eq_true rfl) 4 rfl dX10_best_1 rfl hf (fun r1 σ2 hf => ?_)
  refine vv_if_ne dX10_best_4 14 7 rfl rfl hf (fun hf => ?_) (fun hf => ?_)
  · refine vv_aload_n dX10_best_14 0 rfl rfl 15 rfl ?_
    refine vv_iload_n dX10_best_15 1 rfl rfl 16 rfl ?_
    refine vv_callV [.int p1] [] (fun _ _ h => c_X10_findBest h) (ob_rec ob_l0 rfl rfl) cv_X10_best_146 rfl (Nat.le_of_ble_eq_true rfl) 19 rfl dX10_best_16 rfl hf (fun r3 σ4 hf => ?_)
    exact vv_ireti rfl dX10_best_19 hf
  · refine vv_aload_n dX10_best_7 0 rfl rfl 8 rfl ?_
    refine vv_bipush dX10_best_8 (-2) rfl 10 rfl ?_
    refine vv_callV [.int (-2)] [] (fun _ _ h => c_X10_refuseAbove h) (ob_rec ob_l0 rfl rfl) cv_X10_best_116 rfl (Nat.le_of_ble_eq_true rfl) 13 rfl dX10_best_10 rfl hf (fun r5 σ6 hf => ?_)
    exact vv_ireti rfl dX10_best_13 hf
abbrev mi_X10_bestAt : ob_MI := (yX10_bestAt, ob_ws yX10_bestAt cX10_bestAt 3 (some .int), cX10_bestAt, 3, (some .int), { frames := 5, cells := 0, slots := 0, locals := 126 })
theorem cs_X10_bestAt_113 : ob_CS mi_X10_bestAt mi_X10_isTotal 113 1 := ob_csI rfl rfl tw_527 tw_528 tw_48 tw_529 ⟨rfl, rfl⟩ ⟨by decide +kernel, by decide +kernel, by decide +kernel⟩ ⟨Nat.le_of_ble_eq_true rfl, Nat.le_of_ble_eq_true rfl⟩
theorem gf_X10_bestAt_10 : ob_GF mi_X10_bestAt 10 10 0 := ⟨RX10, TX10, 11, rfl, by decide, fun x h => List.mem_cons_of_mem _ (uw_X10 x h), List.mem_cons_of_mem _ tw_245⟩
theorem cv_X10_bestAt_68 : ob_CV mi_X10_bestAt mi_X3_hasDish 68 RX3 1 := ob_cvI rfl rfl tw_482 tw_470 tw_471 tw_49 tw_472 ⟨rfl, rfl⟩ ⟨rfl, by decide +kernel, by decide +kernel, by decide +kernel⟩ ⟨Nat.le_of_ble_eq_true rfl, Nat.le_of_ble_eq_true rfl⟩
theorem cv_X10_bestAt_146 : ob_CV mi_X10_bestAt mi_X10_findBest 146 RX10 1 := ob_cvI rfl rfl tw_640 tw_642 tw_12 tw_48 tw_643 ⟨rfl, rfl⟩ ⟨rfl, by decide +kernel, by decide +kernel, by decide +kernel⟩ ⟨Nat.le_of_ble_eq_true rfl, Nat.le_of_ble_eq_true rfl⟩
theorem gf_X10_bestAt_43 : ob_GF mi_X10_bestAt 43 10 7 := ⟨RX10, TX10, 11, rfl, by decide, fun x h => List.mem_cons_of_mem _ (uw_X10 x h), List.mem_cons_of_mem _ tw_252⟩
theorem cv_X10_bestAt_53 : ob_CV mi_X10_bestAt mi_X10_refuse 53 RX10 1 := ob_cvI rfl rfl tw_283 tw_285 tw_0 tw_48 tw_286 ⟨rfl, rfl⟩ ⟨rfl, by decide +kernel, by decide +kernel, by decide +kernel⟩ ⟨Nat.le_of_ble_eq_true rfl, Nat.le_of_ble_eq_true rfl⟩
noncomputable def f_X10_bestAt (σ : ob_St) (p1 : Int32) (p2 : Int32) : Option (Int32 × ob_St) :=
  ob_bd (f_X10_isTotal σ p1) fun r1 σ2 =>
  if r1 = 0 then
    ob_bd (f_X10_refuse σ2 (-2)) fun r10 σ11 =>
    some (r10, σ11)
  else
    ob_bd (f_X3_hasDish 1 σ2 p2) fun r3 σ4 =>
    if r3 = 0 then
      ob_bd (f_X10_refuse σ4 (-1)) fun r8 σ9 =>
      some (r8, σ9)
    else
      ob_bd (f_X10_findBest σ4 p1) fun r5 σ6 =>
      ob_ld σ6 49 6 p2 fun v_7 =>
      some (v_7, σ6)
set_option maxRecDepth 100000 in
set_option maxHeartbeats 4000000 in
theorem c_X10_bestAt {g : ob_GT} {ad : Nat → Nat} {r : Int32} {σ' : ob_St} {σ : ob_St} {p1 : Int32} {p2 : Int32} (hf : f_X10_bestAt σ p1 p2 = some (r, σ')) : ob_CT g (ob_X ad) mi_X10_bestAt [.ref (ad 0), .int p1, .int p2] σ (some (.int r)) σ' := by
  refine ob_ct (by decide +kernel) rfl (Nat.le_of_ble_eq_true rfl) ?_
  show ob_V g (ob_X ad) mi_X10_bestAt (some (.int r)) σ' σ 0 [(0, .ref (ad 0)), (1, .int p1), (2, .int p2)] []
  refine vv_iload_n dX10_bestAt_0 1 rfl rfl 1 rfl ?_
  refine vv_callS [.int p1] [] (fun _ _ h => c_X10_isTotal h) cs_X10_bestAt_113 rfl (Nat.le_of_ble_eq_true rfl) 4 rfl dX10_bestAt_1 rfl hf (fun r1 σ2 hf => ?_)
  refine vv_if_ne dX10_bestAt_4 14 7 rfl rfl hf (fun hf => ?_) (fun hf => ?_)
  · refine vv_aload_n dX10_bestAt_14 0 rfl rfl 15 rfl ?_
    refine vv_getR dX10_bestAt_15 0 gf_X10_bestAt_10 ob_l0 rfl rfl 18 rfl ?_
    refine vv_iload_n dX10_bestAt_18 2 rfl rfl 19 rfl ?_
    refine vv_callV [.int p2] [] (fun _ _ h => c_X3_hasDish (Or.inl rfl) h) (ob_rec ob_l1 rfl rfl) cv_X10_bestAt_68 rfl (Nat.le_of_ble_eq_true rfl) 22 rfl dX10_bestAt_19 rfl hf (fun r3 σ4 hf => ?_)
    refine vv_if_ne dX10_bestAt_22 31 25 rfl rfl hf (fun hf => ?_) (fun hf => ?_)
    · refine vv_aload_n dX10_bestAt_31 0 rfl rfl 32 rfl ?_
      refine vv_iload_n dX10_bestAt_32 1 rfl rfl 33 rfl ?_
      refine vv_callV [.int p1] [] (fun _ _ h => c_X10_findBest h) (ob_rec ob_l0 rfl rfl) cv_X10_bestAt_146 rfl (Nat.le_of_ble_eq_true rfl) 36 rfl dX10_bestAt_33 rfl hf (fun r5 σ6 hf => ?_)
      refine vv_pop dX10_bestAt_36 rfl 37 rfl ?_
      refine vv_aload_n dX10_bestAt_37 0 rfl rfl 38 rfl ?_
      refine vv_getR dX10_bestAt_38 7 gf_X10_bestAt_43 ob_l0 rfl rfl 41 rfl ?_
      refine vv_iload_n dX10_bestAt_41 2 rfl rfl 42 rfl ?_
      refine vv_iald dX10_bestAt_42 ob_l49 rfl 43 rfl hf (fun v_7 hf => ?_)
      exact vv_ireti rfl dX10_bestAt_43 hf
    · refine vv_aload_n dX10_bestAt_25 0 rfl rfl 26 rfl ?_
      refine vv_iconst dX10_bestAt_26 (-1) rfl 27 rfl ?_
      refine vv_callV [.int (-1)] [] (fun _ _ h => c_X10_refuse h) (ob_rec ob_l0 rfl rfl) cv_X10_bestAt_53 rfl (Nat.le_of_ble_eq_true rfl) 30 rfl dX10_bestAt_27 rfl hf (fun r8 σ9 hf => ?_)
      exact vv_ireti rfl dX10_bestAt_30 hf
  · refine vv_aload_n dX10_bestAt_7 0 rfl rfl 8 rfl ?_
    refine vv_bipush dX10_bestAt_8 (-2) rfl 10 rfl ?_
    refine vv_callV [.int (-2)] [] (fun _ _ h => c_X10_refuse h) (ob_rec ob_l0 rfl rfl) cv_X10_bestAt_53 rfl (Nat.le_of_ble_eq_true rfl) 13 rfl dX10_bestAt_10 rfl hf (fun r10 σ11 hf => ?_)
    exact vv_ireti rfl dX10_bestAt_13 hf
abbrev mi_X10_bestSet : ob_MI := (yX10_bestSet, ob_ws yX10_bestSet cX10_bestSet 7 (some .int), cX10_bestSet, 7, (some .int), { frames := 5, cells := 0, slots := 0, locals := 122 })
theorem cv_X10_bestSet_149 : ob_CV mi_X10_bestSet mi_X10_worthWith 149 RX10 2 := ob_cvI rfl rfl tw_665 tw_667 tw_14 tw_48 tw_668 ⟨rfl, rfl⟩ ⟨rfl, by decide +kernel, by decide +kernel, by decide +kernel⟩ ⟨Nat.le_of_ble_eq_true rfl, Nat.le_of_ble_eq_true rfl⟩
theorem cv_X10_bestSet_53 : ob_CV mi_X10_bestSet mi_X10_refuse 53 RX10 1 := ob_cvI rfl rfl tw_283 tw_285 tw_0 tw_48 tw_286 ⟨rfl, rfl⟩ ⟨rfl, by decide +kernel, by decide +kernel, by decide +kernel⟩ ⟨Nat.le_of_ble_eq_true rfl, Nat.le_of_ble_eq_true rfl⟩
noncomputable def J_X10_bestSet_90_57 (rec : ob_St → Int32 → Int32 → Int32 → Int32 → Int32 → Option (Int32 × ob_St)) (σ : ob_St) (v1 : Int32) (v2 : Int32) (v3 : Int32) (v4 : Int32) (v5 : Int32) : Option (Int32 × ob_St) :=
  ob_nm (v5 + v2) fun v_8 =>
  rec σ v1 v2 v3 v4 v_8
noncomputable def L_X10_bestSet_57 : Nat → ob_St → Int32 → Int32 → Int32 → Int32 → Int32 → Option (Int32 × ob_St)
  | 0, _, _, _, _, _, _ => none
  | n + 1, σ, v1, v2, v3, v4, v5 =>
    ob_lt ob_great 6 v1 fun v_5 =>
    if v_5 < v5 then
      some (v3, σ)
    else
      ob_bd (f_X10_worthWith σ v1 v5) fun r6 σ7 =>
      if r6 ≤ v4 then
        J_X10_bestSet_90_57 (fun σ v1 v2 v3 v4 v5 => L_X10_bestSet_57 n σ v1 v2 v3 v4 v5) σ7 v1 v2 v3 v4 v5
      else
        J_X10_bestSet_90_57 (fun σ v1 v2 v3 v4 v5 => L_X10_bestSet_57 n σ v1 v2 v3 v4 v5) σ7 v1 v2 v5 r6 v5
noncomputable def J_X10_bestSet_37 (σ : ob_St) (v1 : Int32) (w0 : Int32) : Option (Int32 × ob_St) :=
  ob_lt ob_least 6 v1 fun v_1 =>
  ob_bd (f_X10_worthWith σ v1 v_1) fun r2 σ3 =>
  ob_nm (v_1 + w0) fun v_4 =>
  L_X10_bestSet_57 1000 σ3 v1 w0 v_1 r2 v_4
noncomputable def J_X10_bestSet_26 (σ : ob_St) (v1 : Int32) : Option (Int32 × ob_St) :=
  if v1 = 5 then
    J_X10_bestSet_37 σ v1 10
  else
    J_X10_bestSet_37 σ v1 1
noncomputable def f_X10_bestSet (σ : ob_St) (p1 : Int32) : Option (Int32 × ob_St) :=
  if p1 = 0 then
    J_X10_bestSet_26 σ p1
  else
    if p1 = 2 then
      J_X10_bestSet_26 σ p1
    else
      if p1 = 4 then
        J_X10_bestSet_26 σ p1
      else
        if p1 = 5 then
          J_X10_bestSet_26 σ p1
        else
          ob_bd (f_X10_refuse σ (-2)) fun r9 σ10 =>
          some (r9, σ10)
set_option maxRecDepth 100000 in
set_option maxHeartbeats 4000000 in
theorem j_X10_bestSet_90_57 {g : ob_GT} {ad : Nat → Nat} {r : Int32} {σ' : ob_St} {σ : ob_St} {v1 : Int32} {v2 : Int32} {v3 : Int32} {v4 : Int32} {v5 : Int32} {rec : ob_St → Int32 → Int32 → Int32 → Int32 → Int32 → Option (Int32 × ob_St)} (hrec : ∀ {σ : ob_St} {v1 : Int32} {v2 : Int32} {v3 : Int32} {v4 : Int32} {v5 : Int32}, rec σ v1 v2 v3 v4 v5 = some (r, σ') → ob_V g (ob_X ad) mi_X10_bestSet (some (.int r)) σ' σ 57 [(0, .ref (ad 0)), (1, .int v1), (2, .int v2), (3, .int v3), (4, .int v4), (5, .int v5)] []) (hf : J_X10_bestSet_90_57 rec σ v1 v2 v3 v4 v5 = some (r, σ')) : ob_V g (ob_X ad) mi_X10_bestSet (some (.int r)) σ' σ 90 [(0, .ref (ad 0)), (1, .int v1), (2, .int v2), (3, .int v3), (4, .int v4), (5, .int v5)] [] := by
  refine vv_iload dX10_bestSet_90 5 rfl 92 rfl ?_
  refine vv_iload_n dX10_bestSet_92 2 rfl rfl 93 rfl ?_
  refine vv_iadd dX10_bestSet_93 94 rfl ?_
  refine vv_nm hf (fun v_8 hf => ?_)
  refine vv_istore dX10_bestSet_94 [(5, .int v_8), (0, .ref (ad 0)), (1, .int v1), (2, .int v2), (3, .int v3), (4, .int v4)] (Nat.le_of_ble_eq_true rfl) rfl 96 rfl ?_
  refine vv_goto dX10_bestSet_96 57 rfl ?_
  refine vv_sub [1, 2, 3, 4, 5, 0] [(0, .ref (ad 0)), (1, .int v1), (2, .int v2), (3, .int v3), (4, .int v4), (5, .int v_8)] rfl ?_
  exact hrec hf
set_option maxRecDepth 100000 in
set_option maxHeartbeats 4000000 in
theorem l_X10_bestSet_57 {g : ob_GT} {ad : Nat → Nat} {r : Int32} {σ' : ob_St} : ∀ (n : Nat) {σ : ob_St} {v1 : Int32} {v2 : Int32} {v3 : Int32} {v4 : Int32} {v5 : Int32}, L_X10_bestSet_57 n σ v1 v2 v3 v4 v5 = some (r, σ') → ob_V g (ob_X ad) mi_X10_bestSet (some (.int r)) σ' σ 57 [(0, .ref (ad 0)), (1, .int v1), (2, .int v2), (3, .int v3), (4, .int v4), (5, .int v5)] [] := by
  intro n
  induction n with
  | zero => intro σ v1 v2 v3 v4 v5 hf; exact absurd hf (fun h => by cases h)
  | succ n ih =>
    intro σ v1 v2 v3 v4 v5 hf
    refine vv_iload dX10_bestSet_57 5 rfl 59 rfl ?_
    refine vv_gst dX10_bestSet_59 (List.mem_cons_of_mem _ tw_510) (fun _ _ h => h.2.1.2.2.1) 62 rfl ?_
    refine vv_iload_n dX10_bestSet_62 1 rfl rfl 63 rfl ?_
    refine vv_tald dX10_bestSet_63 (fun _ _ h => h.2.1.2.2.2) 64 rfl hf (fun v_5 hf => ?_)
    refine vv_icmp_gt dX10_bestSet_64 99 67 rfl rfl hf (fun hf => ?_) (fun hf => ?_)
    · refine vv_iload_n dX10_bestSet_99 3 rfl rfl 100 rfl ?_
      exact vv_ireti rfl dX10_bestSet_100 hf
    · refine vv_aload_n dX10_bestSet_67 0 rfl rfl 68 rfl ?_
      refine vv_iload_n dX10_bestSet_68 1 rfl rfl 69 rfl ?_
      refine vv_iload dX10_bestSet_69 5 rfl 71 rfl ?_
      refine vv_callV [.int v1, .int v5] [] (fun _ _ h => c_X10_worthWith h) (ob_rec ob_l0 rfl rfl) cv_X10_bestSet_149 rfl (Nat.le_of_ble_eq_true rfl) 74 rfl dX10_bestSet_71 rfl hf (fun r6 σ7 hf => ?_)
      refine vv_istore dX10_bestSet_74 [(6, .int r6), (0, .ref (ad 0)), (1, .int v1), (2, .int v2), (3, .int v3), (4, .int v4), (5, .int v5)] (Nat.le_of_ble_eq_true rfl) rfl 76 rfl ?_
      refine vv_iload dX10_bestSet_76 0 rfl 78 rfl ?_
      refine vv_iload dX10_bestSet_78 5 rfl 80 rfl ?_
      refine vv_icmp_le dX10_bestSet_80 90 83 rfl rfl hf (fun hf => ?_) (fun hf => ?_)
      · refine vv_sub [1, 2, 3, 4, 5, 6] [(0, .ref (ad 0)), (1, .int v1), (2, .int v2), (3, .int v3), (4, .int v4), (5, .int v5)] rfl ?_
        exact j_X10_bestSet_90_57 ih hf
      · refine vv_iload dX10_bestSet_83 0 rfl 85 rfl ?_
        refine vv_istore dX10_bestSet_85 [(4, .int r6), (6, .int r6), (0, .ref (ad 0)), (1, .int v1), (2, .int v2), (3, .int v3), (5, .int v5)] (Nat.le_of_ble_eq_true rfl) rfl 87 rfl ?_
        refine vv_iload dX10_bestSet_87 6 rfl 89 rfl ?_
        refine vv_istore_n dX10_bestSet_89 [(3, .int v5), (4, .int r6), (6, .int r6), (0, .ref (ad 0)), (1, .int v1), (2, .int v2), (5, .int v5)] rfl (Nat.le_of_ble_eq_true rfl) rfl 90 rfl ?_
        refine vv_sub [3, 4, 5, 0, 1, 6] [(0, .ref (ad 0)), (1, .int v1), (2, .int v2), (3, .int v5), (4, .int r6), (5, .int v5)] rfl ?_
        exact j_X10_bestSet_90_57 ih hf
set_option maxRecDepth 100000 in
set_option maxHeartbeats 4000000 in
theorem j_X10_bestSet_37 {g : ob_GT} {ad : Nat → Nat} {r : Int32} {σ' : ob_St} {σ : ob_St} {v1 : Int32} {w0 : Int32} (hf : J_X10_bestSet_37 σ v1 w0 = some (r, σ')) : ob_V g (ob_X ad) mi_X10_bestSet (some (.int r)) σ' σ 37 [(0, .ref (ad 0)), (1, .int v1)] [.int w0] := by
  refine vv_istore_n dX10_bestSet_37 [(2, .int w0), (0, .ref (ad 0)), (1, .int v1)] rfl (Nat.le_of_ble_eq_true rfl) rfl 38 rfl ?_
  refine vv_gst dX10_bestSet_38 (List.mem_cons_of_mem _ tw_509) (fun _ _ h => h.2.1.1) 41 rfl ?_
  refine vv_iload_n dX10_bestSet_41 2 rfl rfl 42 rfl ?_
  refine vv_tald dX10_bestSet_42 (fun _ _ h => h.2.1.2.1) 43 rfl hf (fun v_1 hf => ?_)
  refine vv_istore_n dX10_bestSet_43 [(3, .int v_1), (2, .int w0), (0, .ref (ad 0)), (1, .int v1)] rfl (Nat.le_of_ble_eq_true rfl) rfl 44 rfl ?_
  refine vv_aload_n dX10_bestSet_44 2 rfl rfl 45 rfl ?_
  refine vv_iload_n dX10_bestSet_45 3 rfl rfl 46 rfl ?_
  refine vv_iload_n dX10_bestSet_46 0 rfl rfl 47 rfl ?_
  refine vv_callV [.int v1, .int v_1] [] (fun _ _ h => c_X10_worthWith h) (ob_rec ob_l0 rfl rfl) cv_X10_bestSet_149 rfl (Nat.le_of_ble_eq_true rfl) 50 rfl dX10_bestSet_47 rfl hf (fun r2 σ3 hf => ?_)
  refine vv_istore dX10_bestSet_50 [(4, .int r2), (3, .int v_1), (2, .int w0), (0, .ref (ad 0)), (1, .int v1)] (Nat.le_of_ble_eq_true rfl) rfl 52 rfl ?_
  refine vv_iload_n dX10_bestSet_52 1 rfl rfl 53 rfl ?_
  refine vv_iload_n dX10_bestSet_53 2 rfl rfl 54 rfl ?_
  refine vv_iadd dX10_bestSet_54 55 rfl ?_
  refine vv_nm hf (fun v_4 hf => ?_)
  refine vv_istore dX10_bestSet_55 [(5, .int v_4), (4, .int r2), (3, .int v_1), (2, .int w0), (0, .ref (ad 0)), (1, .int v1)] (Nat.le_of_ble_eq_true rfl) rfl 57 rfl ?_
  refine vv_sub [4, 5, 3, 2, 1, 0] [(0, .ref (ad 0)), (1, .int v1), (2, .int w0), (3, .int v_1), (4, .int r2), (5, .int v_4)] rfl ?_
  exact l_X10_bestSet_57 1000 hf
set_option maxRecDepth 100000 in
set_option maxHeartbeats 4000000 in
theorem j_X10_bestSet_26 {g : ob_GT} {ad : Nat → Nat} {r : Int32} {σ' : ob_St} {σ : ob_St} {v1 : Int32} (hf : J_X10_bestSet_26 σ v1 = some (r, σ')) : ob_V g (ob_X ad) mi_X10_bestSet (some (.int r)) σ' σ 26 [(0, .ref (ad 0)), (1, .int v1)] [] := by
  refine vv_iload_n dX10_bestSet_26 1 rfl rfl 27 rfl ?_
  refine vv_iconst dX10_bestSet_27 5 rfl 28 rfl ?_
  refine vv_icmp_ne dX10_bestSet_28 36 31 rfl rfl hf (fun hf => ?_) (fun hf => ?_)
  · refine vv_iconst dX10_bestSet_36 1 rfl 37 rfl ?_
    exact j_X10_bestSet_37 hf
  · refine vv_bipush dX10_bestSet_31 10 rfl 33 rfl ?_
    refine vv_goto dX10_bestSet_33 37 rfl ?_
    exact j_X10_bestSet_37 hf
set_option maxRecDepth 100000 in
set_option maxHeartbeats 4000000 in
theorem c_X10_bestSet {g : ob_GT} {ad : Nat → Nat} {r : Int32} {σ' : ob_St} {σ : ob_St} {p1 : Int32} (hf : f_X10_bestSet σ p1 = some (r, σ')) : ob_CT g (ob_X ad) mi_X10_bestSet [.ref (ad 0), .int p1] σ (some (.int r)) σ' := by
  refine ob_ct (by decide +kernel) rfl (Nat.le_of_ble_eq_true rfl) ?_
  show ob_V g (ob_X ad) mi_X10_bestSet (some (.int r)) σ' σ 0 [(0, .ref (ad 0)), (1, .int p1)] []
  refine vv_iload_n dX10_bestSet_0 1 rfl rfl 1 rfl ?_
  refine vv_if_eq dX10_bestSet_1 26 4 rfl rfl hf (fun hf => ?_) (fun hf => ?_)
  · exact j_X10_bestSet_26 hf
  · refine vv_iload_n dX10_bestSet_4 1 rfl rfl 5 rfl ?_
    refine vv_iconst dX10_bestSet_5 2 rfl 6 rfl ?_
    refine vv_icmp_eq dX10_bestSet_6 26 9 rfl rfl hf (fun hf => ?_) (fun hf => ?_)
    · exact j_X10_bestSet_26 hf
    · refine vv_iload_n dX10_bestSet_9 1 rfl rfl 10 rfl ?_
      refine vv_iconst dX10_bestSet_10 4 rfl 11 rfl ?_
      refine vv_icmp_eq dX10_bestSet_11 26 14 rfl rfl hf (fun hf => ?_) (fun hf => ?_)
      · exact j_X10_bestSet_26 hf
      · refine vv_iload_n dX10_bestSet_14 1 rfl rfl 15 rfl ?_
        refine vv_iconst dX10_bestSet_15 5 rfl 16 rfl ?_
        refine vv_icmp_eq dX10_bestSet_16 26 19 rfl rfl hf (fun hf => ?_) (fun hf => ?_)
        · exact j_X10_bestSet_26 hf
        · refine vv_aload_n dX10_bestSet_19 0 rfl rfl 20 rfl ?_
          refine vv_bipush dX10_bestSet_20 (-2) rfl 22 rfl ?_
          refine vv_callV [.int (-2)] [] (fun _ _ h => c_X10_refuse h) (ob_rec ob_l0 rfl rfl) cv_X10_bestSet_53 rfl (Nat.le_of_ble_eq_true rfl) 25 rfl dX10_bestSet_22 rfl hf (fun r9 σ10 hf => ?_)
          exact vv_ireti rfl dX10_bestSet_25 hf
abbrev mi_X10_roomMore : ob_MI := (yX10_roomMore, ob_ws yX10_roomMore cX10_roomMore 1 (some .int), cX10_roomMore, 1, (some .int), { frames := 6, cells := 0, slots := 0, locals := 140 })
theorem gf_X10_roomMore_10 : ob_GF mi_X10_roomMore 10 10 0 := ⟨RX10, TX10, 11, rfl, by decide, fun x h => List.mem_cons_of_mem _ (uw_X10 x h), List.mem_cons_of_mem _ tw_245⟩
theorem gf_X10_roomMore_107 : ob_GF mi_X10_roomMore 107 3 8 := ⟨RX3, TX3, 9, rfl, by decide, fun x h => List.mem_cons_of_mem _ (uw_X3 x h), List.mem_cons_of_mem _ tw_105⟩
theorem cv_X10_roomMore_149 : ob_CV mi_X10_roomMore mi_X10_worthWith 149 RX10 2 := ob_cvI rfl rfl tw_665 tw_667 tw_14 tw_48 tw_668 ⟨rfl, rfl⟩ ⟨rfl, by decide +kernel, by decide +kernel, by decide +kernel⟩ ⟨Nat.le_of_ble_eq_true rfl, Nat.le_of_ble_eq_true rfl⟩
theorem cv_X10_roomMore_153 : ob_CV mi_X10_roomMore mi_X10_worthNow 153 RX10 0 := ob_cvI rfl rfl tw_673 tw_675 tw_15 tw_48 tw_676 ⟨rfl, rfl⟩ ⟨rfl, by decide +kernel, by decide +kernel, by decide +kernel⟩ ⟨Nat.le_of_ble_eq_true rfl, Nat.le_of_ble_eq_true rfl⟩
theorem cv_X10_roomMore_116 : ob_CV mi_X10_roomMore mi_X10_refuseAbove 116 RX10 1 := ob_cvI rfl rfl tw_530 tw_532 tw_4 tw_48 tw_533 ⟨rfl, rfl⟩ ⟨rfl, by decide +kernel, by decide +kernel, by decide +kernel⟩ ⟨Nat.le_of_ble_eq_true rfl, Nat.le_of_ble_eq_true rfl⟩
noncomputable def f_X10_roomMore (σ : ob_St) : Option (Int32 × ob_St) :=
  ob_ld σ 9 6 0 fun v_1 =>
  ob_lt ob_great 6 0 fun v_2 =>
  if v_1 < v_2 then
    ob_ld σ 9 6 0 fun v_3 =>
    ob_bd (f_X10_worthWith σ 0 (v_3 + 1)) fun r4 σ5 =>
    ob_bd (f_X10_worthNow σ5) fun r6 σ7 =>
    some ((r4 - r6), σ7)
  else
    ob_bd (f_X10_refuseAbove σ (-3)) fun r8 σ9 =>
    some (r8, σ9)
set_option maxRecDepth 100000 in
set_option maxHeartbeats 4000000 in
theorem c_X10_roomMore {g : ob_GT} {ad : Nat → Nat} {r : Int32} {σ' : ob_St} {σ : ob_St} (hf : f_X10_roomMore σ = some (r, σ')) : ob_CT g (ob_X ad) mi_X10_roomMore [.ref (ad 0)] σ (some (.int r)) σ' := by
  refine ob_ct (by decide +kernel) rfl (Nat.le_of_ble_eq_true rfl) ?_
  show ob_V g (ob_X ad) mi_X10_roomMore (some (.int r)) σ' σ 0 [(0, .ref (ad 0))] []
  refine vv_aload_n dX10_roomMore_0 0 rfl rfl 1 rfl ?_
  refine vv_getR dX10_roomMore_1 0 gf_X10_roomMore_10 ob_l0 rfl rfl 4 rfl ?_
  refine vv_getR dX10_roomMore_4 8 gf_X10_roomMore_107 ob_l1 rfl rfl 7 rfl ?_
  refine vv_iconst dX10_roomMore_7 0 rfl 8 rfl ?_
  refine vv_iald dX10_roomMore_8 ob_l9 rfl 9 rfl hf (fun v_1 hf => ?_)
  refine vv_gst dX10_roomMore_9 (List.mem_cons_of_mem _ tw_510) (fun _ _ h => h.2.1.2.2.1) 12 rfl ?_
  refine vv_iconst dX10_roomMore_12 0 rfl 13 rfl ?_
  refine vv_tald dX10_roomMore_13 (fun _ _ h => h.2.1.2.2.2) 14 rfl hf (fun v_2 hf => ?_)
  refine vv_icmp_lt dX10_roomMore_14 24 17 rfl rfl hf (fun hf => ?_) (fun hf => ?_)
  · refine vv_aload_n dX10_roomMore_24 0 rfl rfl 25 rfl ?_
    refine vv_iconst dX10_roomMore_25 0 rfl 26 rfl ?_
    refine vv_aload_n dX10_roomMore_26 0 rfl rfl 27 rfl ?_
    refine vv_getR dX10_roomMore_27 0 gf_X10_roomMore_10 ob_l0 rfl rfl 30 rfl ?_
    refine vv_getR dX10_roomMore_30 8 gf_X10_roomMore_107 ob_l1 rfl rfl 33 rfl ?_
    refine vv_iconst dX10_roomMore_33 0 rfl 34 rfl ?_
    refine vv_iald dX10_roomMore_34 ob_l9 rfl 35 rfl hf (fun v_3 hf => ?_)
    refine vv_iconst dX10_roomMore_35 1 rfl 36 rfl ?_
    refine vv_iadd dX10_roomMore_36 37 rfl ?_
    refine vv_callV [.int 0, .int (v_3 + 1)] [] (fun _ _ h => c_X10_worthWith h) (ob_rec ob_l0 rfl rfl) cv_X10_roomMore_149 rfl (Nat.le_of_ble_eq_true rfl) 40 rfl dX10_roomMore_37 rfl hf (fun r4 σ5 hf => ?_)
    refine vv_aload_n dX10_roomMore_40 0 rfl rfl 41 rfl ?_
    refine vv_callV [] [.int r4] (fun _ _ h => c_X10_worthNow h) (ob_rec ob_l0 rfl rfl) cv_X10_roomMore_153 rfl (Nat.le_of_ble_eq_true rfl) 44 rfl dX10_roomMore_41 rfl hf (fun r6 σ7 hf => ?_)
    refine vv_isub dX10_roomMore_44 45 rfl ?_
    exact vv_ireti rfl dX10_roomMore_45 hf
  · refine vv_aload_n dX10_roomMore_17 0 rfl rfl 18 rfl ?_
    refine vv_bipush dX10_roomMore_18 (-3) rfl 20 rfl ?_
    refine vv_callV [.int (-3)] [] (fun _ _ h => c_X10_refuseAbove h) (ob_rec ob_l0 rfl rfl) cv_X10_roomMore_116 rfl (Nat.le_of_ble_eq_true rfl) 23 rfl dX10_roomMore_20 rfl hf (fun r8 σ9 hf => ?_)
    exact vv_ireti rfl dX10_roomMore_23 hf
abbrev mi_X10_twoPull : ob_MI := (yX10_twoPull, ob_ws yX10_twoPull cX10_twoPull 1 (some .int), cX10_twoPull, 1, (some .int), { frames := 6, cells := 0, slots := 0, locals := 140 })
theorem gf_X10_twoPull_10 : ob_GF mi_X10_twoPull 10 10 0 := ⟨RX10, TX10, 11, rfl, by decide, fun x h => List.mem_cons_of_mem _ (uw_X10 x h), List.mem_cons_of_mem _ tw_245⟩
theorem gf_X10_twoPull_107 : ob_GF mi_X10_twoPull 107 3 8 := ⟨RX3, TX3, 9, rfl, by decide, fun x h => List.mem_cons_of_mem _ (uw_X3 x h), List.mem_cons_of_mem _ tw_105⟩
theorem cv_X10_twoPull_149 : ob_CV mi_X10_twoPull mi_X10_worthWith 149 RX10 2 := ob_cvI rfl rfl tw_665 tw_667 tw_14 tw_48 tw_668 ⟨rfl, rfl⟩ ⟨rfl, by decide +kernel, by decide +kernel, by decide +kernel⟩ ⟨Nat.le_of_ble_eq_true rfl, Nat.le_of_ble_eq_true rfl⟩
theorem cv_X10_twoPull_153 : ob_CV mi_X10_twoPull mi_X10_worthNow 153 RX10 0 := ob_cvI rfl rfl tw_673 tw_675 tw_15 tw_48 tw_676 ⟨rfl, rfl⟩ ⟨rfl, by decide +kernel, by decide +kernel, by decide +kernel⟩ ⟨Nat.le_of_ble_eq_true rfl, Nat.le_of_ble_eq_true rfl⟩
noncomputable def f_X10_twoPull (σ : ob_St) : Option (Int32 × ob_St) :=
  ob_ld σ 9 6 3 fun v_1 =>
  ob_bd (f_X10_worthWith σ 3 ((v_1 + 1) / 2)) fun r2 σ3 =>
  ob_bd (f_X10_worthNow σ3) fun r4 σ5 =>
  some ((r2 - r4), σ5)
set_option maxRecDepth 100000 in
set_option maxHeartbeats 4000000 in
theorem c_X10_twoPull {g : ob_GT} {ad : Nat → Nat} {r : Int32} {σ' : ob_St} {σ : ob_St} (hf : f_X10_twoPull σ = some (r, σ')) : ob_CT g (ob_X ad) mi_X10_twoPull [.ref (ad 0)] σ (some (.int r)) σ' := by
  refine ob_ct (by decide +kernel) rfl (Nat.le_of_ble_eq_true rfl) ?_
  show ob_V g (ob_X ad) mi_X10_twoPull (some (.int r)) σ' σ 0 [(0, .ref (ad 0))] []
  refine vv_aload_n dX10_twoPull_0 0 rfl rfl 1 rfl ?_
  refine vv_iconst dX10_twoPull_1 3 rfl 2 rfl ?_
  refine vv_aload_n dX10_twoPull_2 0 rfl rfl 3 rfl ?_
  refine vv_getR dX10_twoPull_3 0 gf_X10_twoPull_10 ob_l0 rfl rfl 6 rfl ?_
  refine vv_getR dX10_twoPull_6 8 gf_X10_twoPull_107 ob_l1 rfl rfl 9 rfl ?_
  refine vv_iconst dX10_twoPull_9 3 rfl 10 rfl ?_
  refine vv_iald dX10_twoPull_10 ob_l9 rfl 11 rfl hf (fun v_1 hf => ?_)
  refine vv_iconst dX10_twoPull_11 1 rfl 12 rfl ?_
  refine vv_iadd dX10_twoPull_12 13 rfl ?_
  refine vv_iconst dX10_twoPull_13 2 rfl 14 rfl ?_
  refine vv_idiv dX10_twoPull_14 (by decide) 15 rfl ?_
  refine vv_callV [.int 3, .int ((v_1 + 1) / 2)] [] (fun _ _ h => c_X10_worthWith h) (ob_rec ob_l0 rfl rfl) cv_X10_twoPull_149 rfl (Nat.le_of_ble_eq_true rfl) 18 rfl dX10_twoPull_15 rfl hf (fun r2 σ3 hf => ?_)
  refine vv_aload_n dX10_twoPull_18 0 rfl rfl 19 rfl ?_
  refine vv_callV [] [.int r2] (fun _ _ h => c_X10_worthNow h) (ob_rec ob_l0 rfl rfl) cv_X10_twoPull_153 rfl (Nat.le_of_ble_eq_true rfl) 22 rfl dX10_twoPull_19 rfl hf (fun r4 σ5 hf => ?_)
  refine vv_isub dX10_twoPull_22 23 rfl ?_
  exact vv_ireti rfl dX10_twoPull_23 hf
abbrev mi_X10_stairs : ob_MI := (yX10_stairs, ob_ws yX10_stairs cX10_stairs 6 (some .int), cX10_stairs, 6, (some .int), { frames := 6, cells := 0, slots := 0, locals := 140 })
theorem cv_X10_stairs_153 : ob_CV mi_X10_stairs mi_X10_worthNow 153 RX10 0 := ob_cvI rfl rfl tw_673 tw_675 tw_15 tw_48 tw_676 ⟨rfl, rfl⟩ ⟨rfl, by decide +kernel, by decide +kernel, by decide +kernel⟩ ⟨Nat.le_of_ble_eq_true rfl, Nat.le_of_ble_eq_true rfl⟩
theorem gf_X10_stairs_10 : ob_GF mi_X10_stairs 10 10 0 := ⟨RX10, TX10, 11, rfl, by decide, fun x h => List.mem_cons_of_mem _ (uw_X10 x h), List.mem_cons_of_mem _ tw_245⟩
theorem gf_X10_stairs_156 : ob_GF mi_X10_stairs 156 3 0 := ⟨RX3, TX3, 9, rfl, by decide, fun x h => List.mem_cons_of_mem _ (uw_X3 x h), List.mem_cons_of_mem _ tw_83⟩
theorem gf_X10_stairs_32 : ob_GF mi_X10_stairs 32 10 5 := ⟨RX10, TX10, 11, rfl, by decide, fun x h => List.mem_cons_of_mem _ (uw_X10 x h), List.mem_cons_of_mem _ tw_250⟩
theorem gf_X10_stairs_90 : ob_GF mi_X10_stairs 90 3 6 := ⟨RX3, TX3, 9, rfl, by decide, fun x h => List.mem_cons_of_mem _ (uw_X3 x h), List.mem_cons_of_mem _ tw_100⟩
theorem cv_X10_stairs_159 : ob_CV mi_X10_stairs mi_X1_pass 159 RX1 3 := ob_cvI rfl rfl tw_539 tw_540 tw_541 tw_51 tw_542 ⟨rfl, rfl⟩ ⟨rfl, by decide +kernel, by decide +kernel, by decide +kernel⟩ ⟨Nat.le_of_ble_eq_true rfl, Nat.le_of_ble_eq_true rfl⟩
theorem gf_X10_stairs_122 : ob_GF mi_X10_stairs 122 1 10 := ⟨RX1, TX1, 11, rfl, by decide, fun x h => List.mem_cons_of_mem _ (uw_X1 x h), List.mem_cons_of_mem _ tw_207⟩
theorem cv_X10_stairs_116 : ob_CV mi_X10_stairs mi_X10_refuseAbove 116 RX10 1 := ob_cvI rfl rfl tw_530 tw_532 tw_4 tw_48 tw_533 ⟨rfl, rfl⟩ ⟨rfl, by decide +kernel, by decide +kernel, by decide +kernel⟩ ⟨Nat.le_of_ble_eq_true rfl, Nat.le_of_ble_eq_true rfl⟩
noncomputable def L_X10_stairs_30 : Nat → ob_St → Int32 → Int32 → Int32 → Int32 → Int32 → Option (Int32 × ob_St)
  | 0, _, _, _, _, _, _ => none
  | n + 1, σ, v1, v2, v3, v4, v5 =>
    if (σ 1 0) ≤ v5 then
      if v1 = 0 then
        some (v4, σ)
      else
        some ((v3 - v2), σ)
    else
      ob_bd (f_X1_pass 1 7 σ v5) fun _ σ4 =>
      ob_ld σ4 46 8 7 fun v_5 =>
      if v_5 ≤ v3 then
        L_X10_stairs_30 n σ4 v1 v2 v3 v4 (v5 + 1)
      else
        ob_ld σ4 46 8 7 fun v_6 =>
        L_X10_stairs_30 n σ4 v1 v2 v_6 v5 (v5 + 1)
noncomputable def J_X10_stairs_16 (σ : ob_St) (v1 : Int32) : Option (Int32 × ob_St) :=
  ob_bd (f_X10_worthNow σ) fun r1 σ2 =>
  L_X10_stairs_30 1000 σ2 v1 r1 r1 (-9) 0
noncomputable def f_X10_stairs (σ : ob_St) (p1 : Int32) : Option (Int32 × ob_St) :=
  if p1 = 0 then
    J_X10_stairs_16 σ p1
  else
    if p1 = 1 then
      J_X10_stairs_16 σ p1
    else
      ob_bd (f_X10_refuseAbove σ (-2)) fun r7 σ8 =>
      some (r7, σ8)
set_option maxRecDepth 100000 in
set_option maxHeartbeats 4000000 in
theorem l_X10_stairs_30 {g : ob_GT} {ad : Nat → Nat} {r : Int32} {σ' : ob_St} : ∀ (n : Nat) {σ : ob_St} {v1 : Int32} {v2 : Int32} {v3 : Int32} {v4 : Int32} {v5 : Int32}, L_X10_stairs_30 n σ v1 v2 v3 v4 v5 = some (r, σ') → ob_V g (ob_X ad) mi_X10_stairs (some (.int r)) σ' σ 30 [(0, .ref (ad 0)), (1, .int v1), (2, .int v2), (3, .int v3), (4, .int v4), (5, .int v5)] [] := by
  intro n
  induction n with
  | zero => intro σ v1 v2 v3 v4 v5 hf; exact absurd hf (fun h => by cases h)
  | succ n ih =>
    intro σ v1 v2 v3 v4 v5 hf
    refine vv_iload dX10_stairs_30 5 rfl 32 rfl ?_
    refine vv_aload_n dX10_stairs_32 0 rfl rfl 33 rfl ?_
    refine vv_getR dX10_stairs_33 0 gf_X10_stairs_10 ob_l0 rfl rfl 36 rfl ?_
    refine vv_getI dX10_stairs_36 0 gf_X10_stairs_156 ob_l1 rfl rfl 39 rfl ?_
    refine vv_icmp_ge dX10_stairs_39 97 42 rfl rfl hf (fun hf => ?_) (fun hf => ?_)
    · refine vv_iload_n dX10_stairs_97 1 rfl rfl 98 rfl ?_
      refine vv_if_ne dX10_stairs_98 106 101 rfl rfl hf (fun hf => ?_) (fun hf => ?_)
      · refine vv_iload_n dX10_stairs_106 3 rfl rfl 107 rfl ?_
        refine vv_iload_n dX10_stairs_107 2 rfl rfl 108 rfl ?_
        refine vv_isub dX10_stairs_108 109 rfl ?_
        exact vv_ireti rfl dX10_stairs_109 hf
      · refine vv_iload dX10_stairs_101 4 rfl 103 rfl ?_
        refine vv_goto dX10_stairs_103 109 rfl ?_
        exact vv_ireti rfl dX10_stairs_109 hf
    · refine vv_aload_n dX10_stairs_42 0 rfl rfl 43 rfl ?_
      refine vv_getR dX10_stairs_43 5 gf_X10_stairs_32 ob_l0 rfl rfl 46 rfl ?_
      refine vv_aload_n dX10_stairs_46 0 rfl rfl 47 rfl ?_
      refine vv_getR dX10_stairs_47 0 gf_X10_stairs_10 ob_l0 rfl rfl 50 rfl ?_
      refine vv_aload_n dX10_stairs_50 0 rfl rfl 51 rfl ?_
      refine vv_getR dX10_stairs_51 0 gf_X10_stairs_10 ob_l0 rfl rfl 54 rfl ?_
      refine vv_getR dX10_stairs_54 6 gf_X10_stairs_90 ob_l1 rfl rfl 57 rfl ?_
      refine vv_iload dX10_stairs_57 5 rfl 59 rfl ?_
      refine vv_callVu [.ref (ad 1), .ref (ad 7), .int v5] [] (fun _ _ h => c_X1_pass (Or.inl rfl) ⟨ob_l7, rfl⟩ h) (ob_rec ob_l30 rfl rfl) cv_X10_stairs_159 rfl (Nat.le_of_ble_eq_true rfl) 62 rfl dX10_stairs_59 rfl hf (fun _ σ4 hf => ?_)
      refine vv_aload_n dX10_stairs_62 0 rfl rfl 63 rfl ?_
      refine vv_getR dX10_stairs_63 5 gf_X10_stairs_32 ob_l0 rfl rfl 66 rfl ?_
      refine vv_getR dX10_stairs_66 10 gf_X10_stairs_122 ob_l30 rfl rfl 69 rfl ?_
      refine vv_bipush dX10_stairs_69 7 rfl 71 rfl ?_
      refine vv_iald dX10_stairs_71 ob_l46 rfl 72 rfl hf (fun v_5 hf => ?_)
      refine vv_iload_n dX10_stairs_72 3 rfl rfl 73 rfl ?_
      refine vv_icmp_le dX10_stairs_73 91 76 rfl rfl hf (fun hf => ?_) (fun hf => ?_)
      · refine vv_iinc dX10_stairs_91 (v5 + 1) 5 [(5, .int (v5 + 1)), (0, .ref (ad 0)), (1, .int v1), (2, .int v2), (3, .int v3), (4, .int v4)] rfl rfl (Nat.le_of_ble_eq_true rfl) rfl 94 rfl ?_
        refine vv_goto dX10_stairs_94 30 rfl ?_
        refine vv_sub [1, 2, 3, 4, 5, 0] [(0, .ref (ad 0)), (1, .int v1), (2, .int v2), (3, .int v3), (4, .int v4), (5, .int (v5 + 1))] rfl ?_
        exact ih hf
      · refine vv_aload_n dX10_stairs_76 0 rfl rfl 77 rfl ?_
        refine vv_getR dX10_stairs_77 5 gf_X10_stairs_32 ob_l0 rfl rfl 80 rfl ?_
        refine vv_getR dX10_stairs_80 10 gf_X10_stairs_122 ob_l30 rfl rfl 83 rfl ?_
        refine vv_bipush dX10_stairs_83 7 rfl 85 rfl ?_
        refine vv_iald dX10_stairs_85 ob_l46 rfl 86 rfl hf (fun v_6 hf => ?_)
        refine vv_istore_n dX10_stairs_86 [(3, .int v_6), (0, .ref (ad 0)), (1, .int v1), (2, .int v2), (4, .int v4), (5, .int v5)] rfl (Nat.le_of_ble_eq_true rfl) rfl 87 rfl ?_
        refine vv_iload dX10_stairs_87 5 rfl 89 rfl ?_
        refine vv_istore dX10_stairs_89 [(4, .int v5), (3, .int v_6), (0, .ref (ad 0)), (1, .int v1), (2, .int v2), (5, .int v5)] (Nat.le_of_ble_eq_true rfl) rfl 91 rfl ?_
        refine vv_iinc dX10_stairs_91 (v5 + 1) 5 [(5, .int (v5 + 1)), (4, .int v5), (3, .int v_6), (0, .ref (ad 0)), (1, .int v1), (2, .int v2)] rfl rfl (Nat.le_of_ble_eq_true rfl) rfl 94 rfl ?_
        refine vv_goto dX10_stairs_94 30 rfl ?_
        refine vv_sub [3, 4, 5, 2, 1, 0] [(0, .ref (ad 0)), (1, .int v1), (2, .int v2), (3, .int v_6), (4, .int v5), (5, .int (v5 + 1))] rfl ?_
        exact ih hf
set_option maxRecDepth 100000 in
set_option maxHeartbeats 4000000 in
theorem j_X10_stairs_16 {g : ob_GT} {ad : Nat → Nat} {r : Int32} {σ' : ob_St} {σ : ob_St} {v1 : Int32} (hf : J_X10_stairs_16 σ v1 = some (r, σ')) : ob_V g (ob_X ad) mi_X10_stairs (some (.int r)) σ' σ 16 [(0, .ref (ad 0)), (1, .int v1)] [] := by
  refine vv_aload_n dX10_stairs_16 0 rfl rfl 17 rfl ?_
  refine vv_callV [] [] (fun _ _ h => c_X10_worthNow h) (ob_rec ob_l0 rfl rfl) cv_X10_stairs_153 rfl (Nat.le_of_ble_eq_true rfl) 20 rfl dX10_stairs_17 rfl hf (fun r1 σ2 hf => ?_)
  refine vv_istore_n dX10_stairs_20 [(2, .int r1), (0, .ref (ad 0)), (1, .int v1)] rfl (Nat.le_of_ble_eq_true rfl) rfl 21 rfl ?_
  refine vv_iload_n dX10_stairs_21 0 rfl rfl 22 rfl ?_
  refine vv_istore_n dX10_stairs_22 [(3, .int r1), (2, .int r1), (0, .ref (ad 0)), (1, .int v1)] rfl (Nat.le_of_ble_eq_true rfl) rfl 23 rfl ?_
  refine vv_bipush dX10_stairs_23 (-9) rfl 25 rfl ?_
  refine vv_istore dX10_stairs_25 [(4, .int (-9)), (3, .int r1), (2, .int r1), (0, .ref (ad 0)), (1, .int v1)] (Nat.le_of_ble_eq_true rfl) rfl 27 rfl ?_
  refine vv_iconst dX10_stairs_27 0 rfl 28 rfl ?_
  refine vv_istore dX10_stairs_28 [(5, .int 0), (4, .int (-9)), (3, .int r1), (2, .int r1), (0, .ref (ad 0)), (1, .int v1)] (Nat.le_of_ble_eq_true rfl) rfl 30 rfl ?_
  refine vv_sub [4, 5, 3, 2, 1, 0] [(0, .ref (ad 0)), (1, .int v1), (2, .int r1), (3, .int r1), (4, .int (-9)), (5, .int 0)] rfl ?_
  exact l_X10_stairs_30 1000 hf
set_option maxRecDepth 100000 in
set_option maxHeartbeats 4000000 in
theorem c_X10_stairs {g : ob_GT} {ad : Nat → Nat} {r : Int32} {σ' : ob_St} {σ : ob_St} {p1 : Int32} (hf : f_X10_stairs σ p1 = some (r, σ')) : ob_CT g (ob_X ad) mi_X10_stairs [.ref (ad 0), .int p1] σ (some (.int r)) σ' := by
  refine ob_ct (by decide +kernel) rfl (Nat.le_of_ble_eq_true rfl) ?_
  show ob_V g (ob_X ad) mi_X10_stairs (some (.int r)) σ' σ 0 [(0, .ref (ad 0)), (1, .int p1)] []
  refine vv_iload_n dX10_stairs_0 1 rfl rfl 1 rfl ?_
  refine vv_if_eq dX10_stairs_1 16 4 rfl rfl hf (fun hf => ?_) (fun hf => ?_)
  · exact j_X10_stairs_16 hf
  · refine vv_iload_n dX10_stairs_4 1 rfl rfl 5 rfl ?_
    refine vv_iconst dX10_stairs_5 1 rfl 6 rfl ?_
    refine vv_icmp_eq dX10_stairs_6 16 9 rfl rfl hf (fun hf => ?_) (fun hf => ?_)
    · exact j_X10_stairs_16 hf
    · refine vv_aload_n dX10_stairs_9 0 rfl rfl 10 rfl ?_
      refine vv_bipush dX10_stairs_10 (-2) rfl 12 rfl ?_
      refine vv_callV [.int (-2)] [] (fun _ _ h => c_X10_refuseAbove h) (ob_rec ob_l0 rfl rfl) cv_X10_stairs_116 rfl (Nat.le_of_ble_eq_true rfl) 15 rfl dX10_stairs_12 rfl hf (fun r7 σ8 hf => ?_)
      exact vv_ireti rfl dX10_stairs_15 hf
abbrev mi_X10_forgotten : ob_MI := (yX10_forgotten, ob_ws yX10_forgotten cX10_forgotten 5 (some .int), cX10_forgotten, 5, (some .int), { frames := 6, cells := 0, slots := 0, locals := 140 })
theorem gf_X10_forgotten_10 : ob_GF mi_X10_forgotten 10 10 0 := ⟨RX10, TX10, 11, rfl, by decide, fun x h => List.mem_cons_of_mem _ (uw_X10 x h), List.mem_cons_of_mem _ tw_245⟩
theorem cv_X10_forgotten_68 : ob_CV mi_X10_forgotten mi_X3_hasDish 68 RX3 1 := ob_cvI rfl rfl tw_482 tw_470 tw_471 tw_49 tw_472 ⟨rfl, rfl⟩ ⟨rfl, by decide +kernel, by decide +kernel, by decide +kernel⟩ ⟨Nat.le_of_ble_eq_true rfl, Nat.le_of_ble_eq_true rfl⟩
theorem cv_X10_forgotten_153 : ob_CV mi_X10_forgotten mi_X10_worthNow 153 RX10 0 := ob_cvI rfl rfl tw_673 tw_675 tw_15 tw_48 tw_676 ⟨rfl, rfl⟩ ⟨rfl, by decide +kernel, by decide +kernel, by decide +kernel⟩ ⟨Nat.le_of_ble_eq_true rfl, Nat.le_of_ble_eq_true rfl⟩
theorem gf_X10_forgotten_156 : ob_GF mi_X10_forgotten 156 3 0 := ⟨RX3, TX3, 9, rfl, by decide, fun x h => List.mem_cons_of_mem _ (uw_X3 x h), List.mem_cons_of_mem _ tw_83⟩
theorem gf_X10_forgotten_43 : ob_GF mi_X10_forgotten 43 10 7 := ⟨RX10, TX10, 11, rfl, by decide, fun x h => List.mem_cons_of_mem _ (uw_X10 x h), List.mem_cons_of_mem _ tw_252⟩
theorem gf_X10_forgotten_32 : ob_GF mi_X10_forgotten 32 10 5 := ⟨RX10, TX10, 11, rfl, by decide, fun x h => List.mem_cons_of_mem _ (uw_X10 x h), List.mem_cons_of_mem _ tw_250⟩
theorem cv_X10_forgotten_159 : ob_CV mi_X10_forgotten mi_X1_pass 159 RX1 3 := ob_cvI rfl rfl tw_539 tw_540 tw_541 tw_51 tw_542 ⟨rfl, rfl⟩ ⟨rfl, by decide +kernel, by decide +kernel, by decide +kernel⟩ ⟨Nat.le_of_ble_eq_true rfl, Nat.le_of_ble_eq_true rfl⟩
theorem gf_X10_forgotten_122 : ob_GF mi_X10_forgotten 122 1 10 := ⟨RX1, TX1, 11, rfl, by decide, fun x h => List.mem_cons_of_mem _ (uw_X1 x h), List.mem_cons_of_mem _ tw_207⟩
theorem gf_X10_forgotten_90 : ob_GF mi_X10_forgotten 90 3 6 := ⟨RX3, TX3, 9, rfl, by decide, fun x h => List.mem_cons_of_mem _ (uw_X3 x h), List.mem_cons_of_mem _ tw_100⟩
theorem cv_X10_forgotten_116 : ob_CV mi_X10_forgotten mi_X10_refuseAbove 116 RX10 1 := ob_cvI rfl rfl tw_530 tw_532 tw_4 tw_48 tw_533 ⟨rfl, rfl⟩ ⟨rfl, by decide +kernel, by decide +kernel, by decide +kernel⟩ ⟨Nat.le_of_ble_eq_true rfl, Nat.le_of_ble_eq_true rfl⟩
noncomputable def L_X10_forgotten_27 : Nat → ob_St → Int32 → Int32 → Int32 → Int32 → Option (Int32 × ob_St)
  | 0, _, _, _, _, _ => none
  | n + 1, σ, v1, v2, v3, v4 =>
    if (σ 1 0) ≤ v4 then
      ob_sd σ 49 6 v3 v1 fun σ5 =>
      ob_bd (f_X1_pass 1 49 σ5 (-1)) fun _ σ7 =>
      ob_ld σ7 46 8 7 fun v_8 =>
      some ((v2 - v_8), σ7)
    else
      ob_ld σ 7 6 v4 fun v_9 =>
      if v_9 = v1 then
        L_X10_forgotten_27 n σ v1 v2 v3 (v4 + 1)
      else
        ob_ld σ 7 6 v4 fun v_10 =>
        ob_sd σ 49 6 v3 v_10 fun σ11 =>
        L_X10_forgotten_27 n σ11 v1 v2 (v3 + 1) (v4 + 1)
noncomputable def f_X10_forgotten (σ : ob_St) (p1 : Int32) : Option (Int32 × ob_St) :=
  ob_bd (f_X3_hasDish 1 σ p1) fun r1 σ2 =>
  if r1 = 0 then
    ob_bd (f_X10_refuseAbove σ2 (-1)) fun r12 σ13 =>
    some (r12, σ13)
  else
    ob_bd (f_X10_worthNow σ2) fun r3 σ4 =>
    L_X10_forgotten_27 1000 σ4 p1 r3 0 0
set_option maxRecDepth 100000 in
set_option maxHeartbeats 4000000 in
theorem l_X10_forgotten_27 {g : ob_GT} {ad : Nat → Nat} {r : Int32} {σ' : ob_St} : ∀ (n : Nat) {σ : ob_St} {v1 : Int32} {v2 : Int32} {v3 : Int32} {v4 : Int32}, L_X10_forgotten_27 n σ v1 v2 v3 v4 = some (r, σ') → ob_V g (ob_X ad) mi_X10_forgotten (some (.int r)) σ' σ 27 [(0, .ref (ad 0)), (1, .int v1), (2, .int v2), (3, .int v3), (4, .int v4)] [] := by
  intro n
  induction n with
  | zero => intro σ v1 v2 v3 v4 hf; exact absurd hf (fun h => by cases h)
  | succ n ih =>
    intro σ v1 v2 v3 v4 hf
    refine vv_iload dX10_forgotten_27 4 rfl 29 rfl ?_
    refine vv_aload_n dX10_forgotten_29 0 rfl rfl 30 rfl ?_
    refine vv_getR dX10_forgotten_30 0 gf_X10_forgotten_10 ob_l0 rfl rfl 33 rfl ?_
    refine vv_getI dX10_forgotten_33 0 gf_X10_forgotten_156 ob_l1 rfl rfl 36 rfl ?_
    refine vv_icmp_ge dX10_forgotten_36 78 39 rfl rfl hf (fun hf => ?_) (fun hf => ?_)
    · refine vv_aload_n dX10_forgotten_78 0 rfl rfl 79 rfl ?_
      refine vv_getR dX10_forgotten_79 7 gf_X10_forgotten_43 ob_l0 rfl rfl 82 rfl ?_
      refine vv_iload_n dX10_forgotten_82 3 rfl rfl 83 rfl ?_
      refine vv_iload_n dX10_forgotten_83 1 rfl rfl 84 rfl ?_
      refine vv_iast dX10_forgotten_84 ob_l49 rfl 85 rfl hf (fun σ5 hf => ?_)
      refine vv_aload_n dX10_forgotten_85 0 rfl rfl 86 rfl ?_
      refine vv_getR dX10_forgotten_86 5 gf_X10_forgotten_32 ob_l0 rfl rfl 89 rfl ?_
      refine vv_aload_n dX10_forgotten_89 0 rfl rfl 90 rfl ?_
      refine vv_getR dX10_forgotten_90 0 gf_X10_forgotten_10 ob_l0 rfl rfl 93 rfl ?_
      refine vv_aload_n dX10_forgotten_93 0 rfl rfl 94 rfl ?_
      refine vv_getR dX10_forgotten_94 7 gf_X10_forgotten_43 ob_l0 rfl rfl 97 rfl ?_
      refine vv_iconst dX10_forgotten_97 (-1) rfl 98 rfl ?_
      refine vv_callVu [.ref (ad 1), .ref (ad 49), .int (-1)] [] (fun _ _ h => c_X1_pass (Or.inl rfl) ⟨ob_l49, rfl⟩ h) (ob_rec ob_l30 rfl rfl) cv_X10_forgotten_159 rfl (Nat.le_of_ble_eq_true rfl) 101 rfl dX10_forgotten_98 rfl hf (fun _ σ7 hf => ?_)
      refine vv_iload_n dX10_forgotten_101 2 rfl rfl 102 rfl ?_
      refine vv_aload_n dX10_forgotten_102 0 rfl rfl 103 rfl ?_
      refine vv_getR dX10_forgotten_103 5 gf_X10_forgotten_32 ob_l0 rfl rfl 106 rfl ?_
      refine vv_getR dX10_forgotten_106 10 gf_X10_forgotten_122 ob_l30 rfl rfl 109 rfl ?_
      refine vv_bipush dX10_forgotten_109 7 rfl 111 rfl ?_
      refine vv_iald dX10_forgotten_111 ob_l46 rfl 112 rfl hf (fun v_8 hf => ?_)
      refine vv_isub dX10_forgotten_112 113 rfl ?_
      exact vv_ireti rfl dX10_forgotten_113 hf
    · refine vv_aload_n dX10_forgotten_39 0 rfl rfl 40 rfl ?_
      refine vv_getR dX10_forgotten_40 0 gf_X10_forgotten_10 ob_l0 rfl rfl 43 rfl ?_
      refine vv_getR dX10_forgotten_43 6 gf_X10_forgotten_90 ob_l1 rfl rfl 46 rfl ?_
      refine vv_iload dX10_forgotten_46 4 rfl 48 rfl ?_
      refine vv_iald dX10_forgotten_48 ob_l7 rfl 49 rfl hf (fun v_9 hf => ?_)
      refine vv_iload_n dX10_forgotten_49 1 rfl rfl 50 rfl ?_
      refine vv_icmp_eq dX10_forgotten_50 72 53 rfl rfl hf (fun hf => ?_) (fun hf => ?_)
      · refine vv_iinc dX10_forgotten_72 (v4 + 1) 4 [(4, .int (v4 + 1)), (0, .ref (ad 0)), (1, .int v1), (2, .int v2), (3, .int v3)] rfl rfl (Nat.le_of_ble_eq_true rfl) rfl 75 rfl ?_
        refine vv_goto dX10_forgotten_75 27 rfl ?_
        refine vv_sub [1, 2, 3, 4, 0] [(0, .ref (ad 0)), (1, .int v1), (2, .int v2), (3, .int v3), (4, .int (v4 + 1))] rfl ?_
        exact ih hf
      · refine vv_aload_n dX10_forgotten_53 0 rfl rfl 54 rfl ?_
        refine vv_getR dX10_forgotten_54 7 gf_X10_forgotten_43 ob_l0 rfl rfl 57 rfl ?_
        refine vv_iload_n dX10_forgotten_57 3 rfl rfl 58 rfl ?_
        refine vv_aload_n dX10_forgotten_58 0 rfl rfl 59 rfl ?_
        refine vv_getR dX10_forgotten_59 0 gf_X10_forgotten_10 ob_l0 rfl rfl 62 rfl ?_
        refine vv_getR dX10_forgotten_62 6 gf_X10_forgotten_90 ob_l1 rfl rfl 65 rfl ?_
        refine vv_iload dX10_forgotten_65 4 rfl 67 rfl ?_
        refine vv_iald dX10_forgotten_67 ob_l7 rfl 68 rfl hf (fun v_10 hf => ?_)
        refine vv_iast dX10_forgotten_68 ob_l49 rfl 69 rfl hf (fun σ11 hf => ?_)
        refine vv_iinc dX10_forgotten_69 (v3 + 1) 3 [(3, .int (v3 + 1)), (0, .ref (ad 0)), (1, .int v1), (2, .int v2), (4, .int v4)] rfl rfl (Nat.le_of_ble_eq_true rfl) rfl 72 rfl ?_
        refine vv_iinc dX10_forgotten_72 (v4 + 1) 4 [(4, .int (v4 + 1)), (3, .int (v3 + 1)), (0, .ref (ad 0)), (1, .int v1), (2, .int v2)] rfl rfl (Nat.le_of_ble_eq_true rfl) rfl 75 rfl ?_
        refine vv_goto dX10_forgotten_75 27 rfl ?_
        refine vv_sub [2, 3, 4, 1, 0] [(0, .ref (ad 0)), (1, .int v1), (2, .int v2), (3, .int (v3 + 1)), (4, .int (v4 + 1))] rfl ?_
        exact ih hf
set_option maxRecDepth 100000 in
set_option maxHeartbeats 4000000 in
theorem c_X10_forgotten {g : ob_GT} {ad : Nat → Nat} {r : Int32} {σ' : ob_St} {σ : ob_St} {p1 : Int32} (hf : f_X10_forgotten σ p1 = some (r, σ')) : ob_CT g (ob_X ad) mi_X10_forgotten [.ref (ad 0), .int p1] σ (some (.int r)) σ' := by
  refine ob_ct (by decide +kernel) rfl (Nat.le_of_ble_eq_true rfl) ?_
  show ob_V g (ob_X ad) mi_X10_forgotten (some (.int r)) σ' σ 0 [(0, .ref (ad 0)), (1, .int p1)] []
  refine vv_aload_n dX10_forgotten_0 0 rfl rfl 1 rfl ?_
  refine vv_getR dX10_forgotten_1 0 gf_X10_forgotten_10 ob_l0 rfl rfl 4 rfl ?_
  refine vv_iload_n dX10_forgotten_4 1 rfl rfl 5 rfl ?_
  refine vv_callV [.int p1] [] (fun _ _ h => c_X3_hasDish (Or.inl rfl) h) (ob_rec ob_l1 rfl rfl) cv_X10_forgotten_68 rfl (Nat.le_of_ble_eq_true rfl) 8 rfl dX10_forgotten_5 rfl hf (fun r1 σ2 hf => ?_)
  refine vv_if_ne dX10_forgotten_8 17 11 rfl rfl hf (fun hf => ?_) (fun hf => ?_)
  · refine vv_aload_n dX10_forgotten_17 0 rfl rfl 18 rfl ?_
    refine vv_callV [] [] (fun _ _ h => c_X10_worthNow h) (ob_rec ob_l0 rfl rfl) cv_X10_forgotten_153 rfl (Nat.le_of_ble_eq_true rfl) 21 rfl dX10_forgotten_18 rfl hf (fun r3 σ4 hf => ?_)
    refine vv_istore_n dX10_forgotten_21 [(2, .int r3), (0, .ref (ad 0)), (1, .int p1)] rfl (Nat.le_of_ble_eq_true rfl) rfl 22 rfl ?_
    refine vv_iconst dX10_forgotten_22 0 rfl 23 rfl ?_
    refine vv_istore_n dX10_forgotten_23 [(3, .int 0), (2, .int r3), (0, .ref (ad 0)), (1, .int p1)] rfl (Nat.le_of_ble_eq_true rfl) rfl 24 rfl ?_
    refine vv_iconst dX10_forgotten_24 0 rfl 25 rfl ?_
    refine vv_istore dX10_forgotten_25 [(4, .int 0), (3, .int 0), (2, .int r3), (0, .ref (ad 0)), (1, .int p1)] (Nat.le_of_ble_eq_true rfl) rfl 27 rfl ?_
    refine vv_sub [3, 4, 2, 1, 0] [(0, .ref (ad 0)), (1, .int p1), (2, .int r3), (3, .int 0), (4, .int 0)] rfl ?_
    exact l_X10_forgotten_27 1000 hf
  · refine vv_aload_n dX10_forgotten_11 0 rfl rfl 12 rfl ?_
    refine vv_iconst dX10_forgotten_12 (-1) rfl 13 rfl ?_
    refine vv_callV [.int (-1)] [] (fun _ _ h => c_X10_refuseAbove h) (ob_rec ob_l0 rfl rfl) cv_X10_forgotten_116 rfl (Nat.le_of_ble_eq_true rfl) 16 rfl dX10_forgotten_13 rfl hf (fun r12 σ13 hf => ?_)
    exact vv_ireti rfl dX10_forgotten_16 hf
abbrev mi_X10_halved : ob_MI := (yX10_halved, ob_ws yX10_halved cX10_halved 4 (some .int), cX10_halved, 4, (some .int), { frames := 5, cells := 0, slots := 0, locals := 120 })
theorem cv_X10_halved_119 : ob_CV mi_X10_halved mi_X10_lookAtNow 119 RX10 0 := ob_cvI rfl rfl tw_535 tw_537 tw_5 tw_48 tw_538 ⟨rfl, rfl⟩ ⟨rfl, by decide +kernel, by decide +kernel, by decide +kernel⟩ ⟨Nat.le_of_ble_eq_true rfl, Nat.le_of_ble_eq_true rfl⟩
theorem gf_X10_halved_32 : ob_GF mi_X10_halved 32 10 5 := ⟨RX10, TX10, 11, rfl, by decide, fun x h => List.mem_cons_of_mem _ (uw_X10 x h), List.mem_cons_of_mem _ tw_250⟩
theorem gf_X10_halved_10 : ob_GF mi_X10_halved 10 10 0 := ⟨RX10, TX10, 11, rfl, by decide, fun x h => List.mem_cons_of_mem _ (uw_X10 x h), List.mem_cons_of_mem _ tw_245⟩
theorem cv_X10_halved_163 : ob_CV mi_X10_halved mi_X1_isHalved 163 RX1 2 := ob_cvI rfl rfl tw_693 tw_694 tw_695 tw_51 tw_696 ⟨rfl, rfl⟩ ⟨rfl, by decide +kernel, by decide +kernel, by decide +kernel⟩ ⟨Nat.le_of_ble_eq_true rfl, Nat.le_of_ble_eq_true rfl⟩
theorem cv_X10_halved_53 : ob_CV mi_X10_halved mi_X10_refuse 53 RX10 1 := ob_cvI rfl rfl tw_283 tw_285 tw_0 tw_48 tw_286 ⟨rfl, rfl⟩ ⟨rfl, by decide +kernel, by decide +kernel, by decide +kernel⟩ ⟨Nat.le_of_ble_eq_true rfl, Nat.le_of_ble_eq_true rfl⟩
noncomputable def L_X10_halved_56 : Nat → ob_St → Int32 → Int32 → Option (Int32 × ob_St)
  | 0, _, _, _ => none
  | n + 1, σ, v2, v3 =>
    if (5 : Int32) ≤ v3 then
      some (v2, σ)
    else
      ob_bd (f_X1_isHalved 1 σ v3) fun r3 σ4 =>
      if r3 = 0 then
        L_X10_halved_56 n σ4 v2 (v3 + 1)
      else
        L_X10_halved_56 n σ4 (v2 + 1) (v3 + 1)
noncomputable def f_X10_halved (σ : ob_St) (p1 : Int32) : Option (Int32 × ob_St) :=
  if ((-1) : Int32) ≤ p1 then
    if p1 < 5 then
      ob_bd (f_X10_lookAtNow σ) fun _ σ2 =>
      if p1 < 0 then
        L_X10_halved_56 1000 σ2 0 0
      else
        ob_bd (f_X1_isHalved 1 σ2 p1) fun r5 σ6 =>
        if r5 = 0 then
          some (0, σ6)
        else
          some (1, σ6)
    else
      ob_bd (f_X10_refuse σ (-1)) fun r7 σ8 =>
      some (r7, σ8)
  else
    ob_bd (f_X10_refuse σ (-4)) fun r9 σ10 =>
    some (r9, σ10)
set_option maxRecDepth 100000 in
set_option maxHeartbeats 4000000 in
theorem l_X10_halved_56 {g : ob_GT} {ad : Nat → Nat} {r : Int32} {σ' : ob_St} : ∀ (n : Nat) {σ : ob_St} {v2 : Int32} {v3 : Int32}, L_X10_halved_56 n σ v2 v3 = some (r, σ') → ob_V g (ob_X ad) mi_X10_halved (some (.int r)) σ' σ 56 [(0, .ref (ad 0)), (2, .int v2), (3, .int v3)] [] := by
  intro n
  induction n with
  | zero => intro σ v2 v3 hf; exact absurd hf (fun h => by cases h)
  | succ n ih =>
    intro σ v2 v3 hf
    refine vv_iload_n dX10_halved_56 2 rfl rfl 57 rfl ?_
    refine vv_iconst dX10_halved_57 5 rfl 58 rfl ?_
    refine vv_icmp_ge dX10_halved_58 85 61 rfl rfl hf (fun hf => ?_) (fun hf => ?_)
    · refine vv_iload_n dX10_halved_85 1 rfl rfl 86 rfl ?_
      exact vv_ireti rfl dX10_halved_86 hf
    · refine vv_aload_n dX10_halved_61 0 rfl rfl 62 rfl ?_
      refine vv_getR dX10_halved_62 5 gf_X10_halved_32 ob_l0 rfl rfl 65 rfl ?_
      refine vv_aload_n dX10_halved_65 0 rfl rfl 66 rfl ?_
      refine vv_getR dX10_halved_66 0 gf_X10_halved_10 ob_l0 rfl rfl 69 rfl ?_
      refine vv_iload_n dX10_halved_69 2 rfl rfl 70 rfl ?_
      refine vv_callV [.ref (ad 1), .int v3] [] (fun _ _ h => c_X1_isHalved (Or.inl rfl) h) (ob_rec ob_l30 rfl rfl) cv_X10_halved_163 rfl (Nat.le_of_ble_eq_true rfl) 73 rfl dX10_halved_70 rfl hf (fun r3 σ4 hf => ?_)
      refine vv_if_eq dX10_halved_73 79 76 rfl rfl hf (fun hf => ?_) (fun hf => ?_)
      · refine vv_iinc dX10_halved_79 (v3 + 1) 2 [(3, .int (v3 + 1)), (0, .ref (ad 0)), (2, .int v2)] rfl rfl (Nat.le_of_ble_eq_true rfl) rfl 82 rfl ?_
        refine vv_goto dX10_halved_82 56 rfl ?_
        refine vv_sub [1, 2, 0] [(0, .ref (ad 0)), (2, .int v2), (3, .int (v3 + 1))] rfl ?_
        exact ih hf
      · refine vv_iinc dX10_halved_76 (v2 + 1) 1 [(2, .int (v2 + 1)), (0, .ref (ad 0)), (3, .int v3)] rfl rfl (Nat.le_of_ble_eq_true rfl) rfl 79 rfl ?_
        refine vv_iinc dX10_halved_79 (v3 + 1) 2 [(3, .int (v3 + 1)), (2, .int (v2 + 1)), (0, .ref (ad 0))] rfl rfl (Nat.le_of_ble_eq_true rfl) rfl 82 rfl ?_
        refine vv_goto dX10_halved_82 56 rfl ?_
        refine vv_sub [2, 1, 0] [(0, .ref (ad 0)), (2, .int (v2 + 1)), (3, .int (v3 + 1))] rfl ?_
        exact ih hf
set_option maxRecDepth 100000 in
set_option maxHeartbeats 4000000 in
theorem c_X10_halved {g : ob_GT} {ad : Nat → Nat} {r : Int32} {σ' : ob_St} {σ : ob_St} {p1 : Int32} (hf : f_X10_halved σ p1 = some (r, σ')) : ob_CT g (ob_X ad) mi_X10_halved [.ref (ad 0), .int p1] σ (some (.int r)) σ' := by
  refine ob_ct (by decide +kernel) rfl (Nat.le_of_ble_eq_true rfl) ?_
  show ob_V g (ob_X ad) mi_X10_halved (some (.int r)) σ' σ 0 [(0, .ref (ad 0)), (1, .int p1)] []
  refine vv_iload_n dX10_halved_0 1 rfl rfl 1 rfl ?_
  refine vv_iconst dX10_halved_1 (-1) rfl 2 rfl ?_
  refine vv_icmp_ge dX10_halved_2 12 5 rfl rfl hf (fun hf => ?_) (fun hf => ?_)
  · refine vv_iload_n dX10_halved_12 1 rfl rfl 13 rfl ?_
    refine vv_iconst dX10_halved_13 5 rfl 14 rfl ?_
    refine vv_icmp_lt dX10_halved_14 23 17 rfl rfl hf (fun hf => ?_) (fun hf => ?_)
    · refine vv_aload_n dX10_halved_23 0 rfl rfl 24 rfl ?_
      refine vv_callVu [] [] (fun _ _ h => c_X10_lookAtNow h) (ob_rec ob_l0 rfl rfl) cv_X10_halved_119 rfl (Nat.le_of_ble_eq_true rfl) 27 rfl dX10_halved_24 rfl hf (fun _ σ2 hf => ?_)
      refine vv_iload_n dX10_halved_27 1 rfl rfl 28 rfl ?_
      refine vv_if_lt dX10_halved_28 52 31 rfl rfl hf (fun hf => ?_) (fun hf => ?_)
      · refine vv_iconst dX10_halved_52 0 rfl 53 rfl ?_
        refine vv_istore_n dX10_halved_53 [(2, .int 0), (0, .ref (ad 0)), (1, .int p1)] rfl (Nat.le_of_ble_eq_true rfl) rfl 54 rfl ?_
        refine vv_iconst dX10_halved_54 0 rfl 55 rfl ?_
        refine vv_istore_n dX10_halved_55 [(3, .int 0), (2, .int 0), (0, .ref (ad 0)), (1, .int p1)] rfl (Nat.le_of_ble_eq_true rfl) rfl 56 rfl ?_
        refine vv_sub [2, 1, 0] [(0, .ref (ad 0)), (2, .int 0), (3, .int 0)] rfl ?_
        exact l_X10_halved_56 1000 hf
      · refine vv_aload_n dX10_halved_31 0 rfl rfl 32 rfl ?_
        refine vv_getR dX10_halved_32 5 gf_X10_halved_32 ob_l0 rfl rfl 35 rfl ?_
        refine vv_aload_n dX10_halved_35 0 rfl rfl 36 rfl ?_
        refine vv_getR dX10_halved_36 0 gf_X10_halved_10 ob_l0 rfl rfl 39 rfl ?_
        refine vv_iload_n dX10_halved_39 1 rfl rfl 40 rfl ?_
        refine vv_callV [.ref (ad 1), .int p1] [] (fun _ _ h => c_X1_isHalved (Or.inl rfl) h) (ob_rec ob_l30 rfl rfl) cv_X10_halved_163 rfl (Nat.le_of_ble_eq_true rfl) 43 rfl dX10_halved_40 rfl hf (fun r5 σ6 hf => ?_)
        refine vv_if_eq dX10_halved_43 50 46 rfl rfl hf (fun hf => ?_) (fun hf => ?_)
        · refine vv_iconst dX10_halved_50 0 rfl 51 rfl ?_
          exact vv_ireti rfl dX10_halved_51 hf
        · refine vv_iconst dX10_halved_46 1 rfl 47 rfl ?_
          refine vv_goto dX10_halved_47 51 rfl ?_
          exact vv_ireti rfl dX10_halved_51 hf
    · refine vv_aload_n dX10_halved_17 0 rfl rfl 18 rfl ?_
      refine vv_iconst dX10_halved_18 (-1) rfl 19 rfl ?_
      refine vv_callV [.int (-1)] [] (fun _ _ h => c_X10_refuse h) (ob_rec ob_l0 rfl rfl) cv_X10_halved_53 rfl (Nat.le_of_ble_eq_true rfl) 22 rfl dX10_halved_19 rfl hf (fun r7 σ8 hf => ?_)
      exact vv_ireti rfl dX10_halved_22 hf
  · refine vv_aload_n dX10_halved_5 0 rfl rfl 6 rfl ?_
    refine vv_bipush dX10_halved_6 (-4) rfl 8 rfl ?_
    refine vv_callV [.int (-4)] [] (fun _ _ h => c_X10_refuse h) (ob_rec ob_l0 rfl rfl) cv_X10_halved_53 rfl (Nat.le_of_ble_eq_true rfl) 11 rfl dX10_halved_8 rfl hf (fun r9 σ10 hf => ?_)
    exact vv_ireti rfl dX10_halved_11 hf
abbrev mi_X10_heard : ob_MI := (yX10_heard, ob_ws yX10_heard cX10_heard 3 (some .int), cX10_heard, 3, (some .int), { frames := 1, cells := 0, slots := 0, locals := 22 })
theorem gf_X10_heard_10 : ob_GF mi_X10_heard 10 10 0 := ⟨RX10, TX10, 11, rfl, by decide, fun x h => List.mem_cons_of_mem _ (uw_X10 x h), List.mem_cons_of_mem _ tw_245⟩
theorem cv_X10_heard_167 : ob_CV mi_X10_heard mi_X3_beginOf 167 RX3 1 := ob_cvI rfl rfl tw_701 tw_578 tw_579 tw_49 tw_580 ⟨rfl, rfl⟩ ⟨rfl, by decide +kernel, by decide +kernel, by decide +kernel⟩ ⟨Nat.le_of_ble_eq_true rfl, Nat.le_of_ble_eq_true rfl⟩
theorem cv_X10_heard_53 : ob_CV mi_X10_heard mi_X10_refuse 53 RX10 1 := ob_cvI rfl rfl tw_283 tw_285 tw_0 tw_48 tw_286 ⟨rfl, rfl⟩ ⟨rfl, by decide +kernel, by decide +kernel, by decide +kernel⟩ ⟨Nat.le_of_ble_eq_true rfl, Nat.le_of_ble_eq_true rfl⟩
noncomputable def L_X10_heard_27 : Nat → ob_St → Int32 → Int32 → Option (Int32 × ob_St)
  | 0, _, _, _ => none
  | n + 1, σ, v1, v2 =>
    if v2 < 0 then
      some ((-9), σ)
    else
      ob_bd (f_X3_beginOf 1 σ v2) fun r1 σ2 =>
      if v1 < r1 then
        L_X10_heard_27 n σ2 v1 (v2 + (-1))
      else
        some (v2, σ2)
noncomputable def f_X10_heard (σ : ob_St) (p1 : Int32) : Option (Int32 × ob_St) :=
  if (0 : Int32) ≤ p1 then
    if p1 ≤ 999 then
      L_X10_heard_27 1000 σ p1 4
    else
      ob_bd (f_X10_refuse σ (-6)) fun r3 σ4 =>
      some (r3, σ4)
  else
    ob_bd (f_X10_refuse σ (-4)) fun r5 σ6 =>
    some (r5, σ6)
set_option maxRecDepth 100000 in
set_option maxHeartbeats 4000000 in
theorem l_X10_heard_27 {g : ob_GT} {ad : Nat → Nat} {r : Int32} {σ' : ob_St} : ∀ (n : Nat) {σ : ob_St} {v1 : Int32} {v2 : Int32}, L_X10_heard_27 n σ v1 v2 = some (r, σ') → ob_V g (ob_X ad) mi_X10_heard (some (.int r)) σ' σ 27 [(0, .ref (ad 0)), (1, .int v1), (2, .int v2)] [] := by
  intro n
  induction n with
  | zero => intro σ v1 v2 hf; exact absurd hf (fun h => by cases h)
  | succ n ih =>
    intro σ v1 v2 hf
    refine vv_iload_n dX10_heard_27 2 rfl rfl 28 rfl ?_
    refine vv_if_lt dX10_heard_28 51 31 rfl rfl hf (fun hf => ?_) (fun hf => ?_)
    · refine vv_bipush dX10_heard_51 (-9) rfl 53 rfl ?_
      exact vv_ireti rfl dX10_heard_53 hf
    · refine vv_aload_n dX10_heard_31 0 rfl rfl 32 rfl ?_
      refine vv_getR dX10_heard_32 0 gf_X10_heard_10 ob_l0 rfl rfl 35 rfl ?_
      refine vv_iload_n dX10_heard_35 2 rfl rfl 36 rfl ?_
      refine vv_callV [.int v2] [] (fun _ _ h => c_X3_beginOf (Or.inl rfl) h) (ob_rec ob_l1 rfl rfl) cv_X10_heard_167 rfl (Nat.le_of_ble_eq_true rfl) 39 rfl dX10_heard_36 rfl hf (fun r1 σ2 hf => ?_)
      refine vv_iload_n dX10_heard_39 1 rfl rfl 40 rfl ?_
      refine vv_icmp_gt dX10_heard_40 45 43 rfl rfl hf (fun hf => ?_) (fun hf => ?_)
      · refine vv_iinc dX10_heard_45 (v2 + (-1)) 2 [(2, .int (v2 + (-1))), (0, .ref (ad 0)), (1, .int v1)] rfl rfl (Nat.le_of_ble_eq_true rfl) rfl 48 rfl ?_
        refine vv_goto dX10_heard_48 27 rfl ?_
        refine vv_sub [1, 2, 0] [(0, .ref (ad 0)), (1, .int v1), (2, .int (v2 + (-1)))] rfl ?_
        exact ih hf
      · refine vv_iload_n dX10_heard_43 2 rfl rfl 44 rfl ?_
        exact vv_ireti rfl dX10_heard_44 hf
set_option maxRecDepth 100000 in
set_option maxHeartbeats 4000000 in
theorem c_X10_heard {g : ob_GT} {ad : Nat → Nat} {r : Int32} {σ' : ob_St} {σ : ob_St} {p1 : Int32} (hf : f_X10_heard σ p1 = some (r, σ')) : ob_CT g (ob_X ad) mi_X10_heard [.ref (ad 0), .int p1] σ (some (.int r)) σ' := by
  refine ob_ct (by decide +kernel) rfl (Nat.le_of_ble_eq_true rfl) ?_
  show ob_V g (ob_X ad) mi_X10_heard (some (.int r)) σ' σ 0 [(0, .ref (ad 0)), (1, .int p1)] []
  refine vv_iload_n dX10_heard_0 1 rfl rfl 1 rfl ?_
  refine vv_if_ge dX10_heard_1 11 4 rfl rfl hf (fun hf => ?_) (fun hf => ?_)
  · refine vv_iload_n dX10_heard_11 1 rfl rfl 12 rfl ?_
    refine vv_sipush dX10_heard_12 999 rfl 15 rfl ?_
    refine vv_icmp_le dX10_heard_15 25 18 rfl rfl hf (fun hf => ?_) (fun hf => ?_)
    · refine vv_iconst dX10_heard_25 4 rfl 26 rfl ?_
      refine vv_istore_n dX10_heard_26 [(2, .int 4), (0, .ref (ad 0)), (1, .int p1)] rfl (Nat.le_of_ble_eq_true rfl) rfl 27 rfl ?_
      refine vv_sub [1, 2, 0] [(0, .ref (ad 0)), (1, .int p1), (2, .int 4)] rfl ?_
      exact l_X10_heard_27 1000 hf
    · refine vv_aload_n dX10_heard_18 0 rfl rfl 19 rfl ?_
      refine vv_bipush dX10_heard_19 (-6) rfl 21 rfl ?_
      refine vv_callV [.int (-6)] [] (fun _ _ h => c_X10_refuse h) (ob_rec ob_l0 rfl rfl) cv_X10_heard_53 rfl (Nat.le_of_ble_eq_true rfl) 24 rfl dX10_heard_21 rfl hf (fun r3 σ4 hf => ?_)
      exact vv_ireti rfl dX10_heard_24 hf
  · refine vv_aload_n dX10_heard_4 0 rfl rfl 5 rfl ?_
    refine vv_bipush dX10_heard_5 (-4) rfl 7 rfl ?_
    refine vv_callV [.int (-4)] [] (fun _ _ h => c_X10_refuse h) (ob_rec ob_l0 rfl rfl) cv_X10_heard_53 rfl (Nat.le_of_ble_eq_true rfl) 10 rfl dX10_heard_7 rfl hf (fun r5 σ6 hf => ?_)
    exact vv_ireti rfl dX10_heard_10 hf
abbrev mi_X10_waits : ob_MI := (yX10_waits, ob_ws yX10_waits cX10_waits 4 (some .int), cX10_waits, 4, (some .int), { frames := 5, cells := 0, slots := 0, locals := 120 })
theorem cv_X10_waits_119 : ob_CV mi_X10_waits mi_X10_lookAtNow 119 RX10 0 := ob_cvI rfl rfl tw_535 tw_537 tw_5 tw_48 tw_538 ⟨rfl, rfl⟩ ⟨rfl, by decide +kernel, by decide +kernel, by decide +kernel⟩ ⟨Nat.le_of_ble_eq_true rfl, Nat.le_of_ble_eq_true rfl⟩
theorem gf_X10_waits_10 : ob_GF mi_X10_waits 10 10 0 := ⟨RX10, TX10, 11, rfl, by decide, fun x h => List.mem_cons_of_mem _ (uw_X10 x h), List.mem_cons_of_mem _ tw_245⟩
theorem gf_X10_waits_156 : ob_GF mi_X10_waits 156 3 0 := ⟨RX3, TX3, 9, rfl, by decide, fun x h => List.mem_cons_of_mem _ (uw_X3 x h), List.mem_cons_of_mem _ tw_83⟩
theorem gf_X10_waits_32 : ob_GF mi_X10_waits 32 10 5 := ⟨RX10, TX10, 11, rfl, by decide, fun x h => List.mem_cons_of_mem _ (uw_X10 x h), List.mem_cons_of_mem _ tw_250⟩
theorem gf_X10_waits_125 : ob_GF mi_X10_waits 125 1 3 := ⟨RX1, TX1, 11, rfl, by decide, fun x h => List.mem_cons_of_mem _ (uw_X1 x h), List.mem_cons_of_mem _ tw_193⟩
theorem gf_X10_waits_84 : ob_GF mi_X10_waits 84 3 5 := ⟨RX3, TX3, 9, rfl, by decide, fun x h => List.mem_cons_of_mem _ (uw_X3 x h), List.mem_cons_of_mem _ tw_97⟩
theorem cv_X10_waits_167 : ob_CV mi_X10_waits mi_X3_beginOf 167 RX3 1 := ob_cvI rfl rfl tw_701 tw_578 tw_579 tw_49 tw_580 ⟨rfl, rfl⟩ ⟨rfl, by decide +kernel, by decide +kernel, by decide +kernel⟩ ⟨Nat.le_of_ble_eq_true rfl, Nat.le_of_ble_eq_true rfl⟩
theorem cv_X10_waits_53 : ob_CV mi_X10_waits mi_X10_refuse 53 RX10 1 := ob_cvI rfl rfl tw_283 tw_285 tw_0 tw_48 tw_286 ⟨rfl, rfl⟩ ⟨rfl, by decide +kernel, by decide +kernel, by decide +kernel⟩ ⟨Nat.le_of_ble_eq_true rfl, Nat.le_of_ble_eq_true rfl⟩
noncomputable def L_X10_waits_33 : Nat → ob_St → Int32 → Int32 → Int32 → Option (Int32 × ob_St)
  | 0, _, _, _, _ => none
  | n + 1, σ, v1, v2, v3 =>
    if (σ 1 0) ≤ v3 then
      some (v2, σ)
    else
      ob_ld σ 39 6 v3 fun v_3 =>
      if v_3 ≤ v1 then
        L_X10_waits_33 n σ v1 v2 (v3 + 1)
      else
        ob_ld σ 6 6 v3 fun v_4 =>
        ob_bd (f_X3_beginOf 1 σ v_4) fun r5 σ6 =>
        if v1 < r5 then
          L_X10_waits_33 n σ6 v1 v2 (v3 + 1)
        else
          ob_nm (v2 ||| (1 <<< (v3 &&& 31))) fun v_7 =>
          L_X10_waits_33 n σ6 v1 v_7 (v3 + 1)
noncomputable def f_X10_waits (σ : ob_St) (p1 : Int32) : Option (Int32 × ob_St) :=
  if (0 : Int32) ≤ p1 then
    if p1 ≤ 999 then
      ob_bd (f_X10_lookAtNow σ) fun _ σ2 =>
      L_X10_waits_33 1000 σ2 p1 0 0
    else
      ob_bd (f_X10_refuse σ (-6)) fun r8 σ9 =>
      some (r8, σ9)
  else
    ob_bd (f_X10_refuse σ (-4)) fun r10 σ11 =>
    some (r10, σ11)
set_option maxRecDepth 100000 in
set_option maxHeartbeats 4000000 in
theorem l_X10_waits_33 {g : ob_GT} {ad : Nat → Nat} {r : Int32} {σ' : ob_St} : ∀ (n : Nat) {σ : ob_St} {v1 : Int32} {v2 : Int32} {v3 : Int32}, L_X10_waits_33 n σ v1 v2 v3 = some (r, σ') → ob_V g (ob_X ad) mi_X10_waits (some (.int r)) σ' σ 33 [(0, .ref (ad 0)), (1, .int v1), (2, .int v2), (3, .int v3)] [] := by
  intro n
  induction n with
  | zero => intro σ v1 v2 v3 hf; exact absurd hf (fun h => by cases h)
  | succ n ih =>
    intro σ v1 v2 v3 hf
    refine vv_iload_n dX10_waits_33 3 rfl rfl 34 rfl ?_
    refine vv_aload_n dX10_waits_34 0 rfl rfl 35 rfl ?_
    refine vv_getR dX10_waits_35 0 gf_X10_waits_10 ob_l0 rfl rfl 38 rfl ?_
    refine vv_getI dX10_waits_38 0 gf_X10_waits_156 ob_l1 rfl rfl 41 rfl ?_
    refine vv_icmp_ge dX10_waits_41 89 44 rfl rfl hf (fun hf => ?_) (fun hf => ?_)
    · refine vv_iload_n dX10_waits_89 2 rfl rfl 90 rfl ?_
      exact vv_ireti rfl dX10_waits_90 hf
    · refine vv_aload_n dX10_waits_44 0 rfl rfl 45 rfl ?_
      refine vv_getR dX10_waits_45 5 gf_X10_waits_32 ob_l0 rfl rfl 48 rfl ?_
      refine vv_getR dX10_waits_48 3 gf_X10_waits_125 ob_l30 rfl rfl 51 rfl ?_
      refine vv_iload_n dX10_waits_51 3 rfl rfl 52 rfl ?_
      refine vv_iald dX10_waits_52 ob_l39 rfl 53 rfl hf (fun v_3 hf => ?_)
      refine vv_iload_n dX10_waits_53 1 rfl rfl 54 rfl ?_
      refine vv_icmp_le dX10_waits_54 83 57 rfl rfl hf (fun hf => ?_) (fun hf => ?_)
      · refine vv_iinc dX10_waits_83 (v3 + 1) 3 [(3, .int (v3 + 1)), (0, .ref (ad 0)), (1, .int v1), (2, .int v2)] rfl rfl (Nat.le_of_ble_eq_true rfl) rfl 86 rfl ?_
        refine vv_goto dX10_waits_86 33 rfl ?_
        refine vv_sub [1, 2, 3, 0] [(0, .ref (ad 0)), (1, .int v1), (2, .int v2), (3, .int (v3 + 1))] rfl ?_
        exact ih hf
      · refine vv_aload_n dX10_waits_57 0 rfl rfl 58 rfl ?_
        refine vv_getR dX10_waits_58 0 gf_X10_waits_10 ob_l0 rfl rfl 61 rfl ?_
        refine vv_aload_n dX10_waits_61 0 rfl rfl 62 rfl ?_
        refine vv_getR dX10_waits_62 0 gf_X10_waits_10 ob_l0 rfl rfl 65 rfl ?_
        refine vv_getR dX10_waits_65 5 gf_X10_waits_84 ob_l1 rfl rfl 68 rfl ?_
        refine vv_iload_n dX10_waits_68 3 rfl rfl 69 rfl ?_
        refine vv_iald dX10_waits_69 ob_l6 rfl 70 rfl hf (fun v_4 hf => ?_)
        refine vv_callV [.int v_4] [] (fun _ _ h => c_X3_beginOf (Or.inl rfl) h) (ob_rec ob_l1 rfl rfl) cv_X10_waits_167 rfl (Nat.le_of_ble_eq_true rfl) 73 rfl dX10_waits_70 rfl hf (fun r5 σ6 hf => ?_)
        refine vv_iload_n dX10_waits_73 1 rfl rfl 74 rfl ?_
        refine vv_icmp_gt dX10_waits_74 83 77 rfl rfl hf (fun hf => ?_) (fun hf => ?_)
        · refine vv_iinc dX10_waits_83 (v3 + 1) 3 [(3, .int (v3 + 1)), (0, .ref (ad 0)), (1, .int v1), (2, .int v2)] rfl rfl (Nat.le_of_ble_eq_true rfl) rfl 86 rfl ?_
          refine vv_goto dX10_waits_86 33 rfl ?_
          refine vv_sub [1, 2, 3, 0] [(0, .ref (ad 0)), (1, .int v1), (2, .int v2), (3, .int (v3 + 1))] rfl ?_
          exact ih hf
        · refine vv_iload_n dX10_waits_77 2 rfl rfl 78 rfl ?_
          refine vv_iconst dX10_waits_78 1 rfl 79 rfl ?_
          refine vv_iload_n dX10_waits_79 3 rfl rfl 80 rfl ?_
          refine vv_ishl dX10_waits_80 81 rfl ?_
          refine vv_ior dX10_waits_81 82 rfl ?_
          refine vv_nm hf (fun v_7 hf => ?_)
          refine vv_istore_n dX10_waits_82 [(2, .int v_7), (0, .ref (ad 0)), (1, .int v1), (3, .int v3)] rfl (Nat.le_of_ble_eq_true rfl) rfl 83 rfl ?_
          refine vv_iinc dX10_waits_83 (v3 + 1) 3 [(3, .int (v3 + 1)), (2, .int v_7), (0, .ref (ad 0)), (1, .int v1)] rfl rfl (Nat.le_of_ble_eq_true rfl) rfl 86 rfl ?_
          refine vv_goto dX10_waits_86 33 rfl ?_
          refine vv_sub [2, 3, 1, 0] [(0, .ref (ad 0)), (1, .int v1), (2, .int v_7), (3, .int (v3 + 1))] rfl ?_
          exact ih hf
set_option maxRecDepth 100000 in
set_option maxHeartbeats 4000000 in
theorem c_X10_waits {g : ob_GT} {ad : Nat → Nat} {r : Int32} {σ' : ob_St} {σ : ob_St} {p1 : Int32} (hf : f_X10_waits σ p1 = some (r, σ')) : ob_CT g (ob_X ad) mi_X10_waits [.ref (ad 0), .int p1] σ (some (.int r)) σ' := by
  refine ob_ct (by decide +kernel) rfl (Nat.le_of_ble_eq_true rfl) ?_
  show ob_V g (ob_X ad) mi_X10_waits (some (.int r)) σ' σ 0 [(0, .ref (ad 0)), (1, .int p1)] []
  refine vv_iload_n dX10_waits_0 1 rfl rfl 1 rfl ?_
  refine vv_if_ge dX10_waits_1 11 4 rfl rfl hf (fun hf => ?_) (fun hf => ?_)
  · refine vv_iload_n dX10_waits_11 1 rfl rfl 12 rfl ?_
    refine vv_sipush dX10_waits_12 999 rfl 15 rfl ?_
    refine vv_icmp_le dX10_waits_15 25 18 rfl rfl hf (fun hf => ?_) (fun hf => ?_)
    · refine vv_aload_n dX10_waits_25 0 rfl rfl 26 rfl ?_
      refine vv_callVu [] [] (fun _ _ h => c_X10_lookAtNow h) (ob_rec ob_l0 rfl rfl) cv_X10_waits_119 rfl (Nat.le_of_ble_eq_true rfl) 29 rfl dX10_waits_26 rfl hf (fun _ σ2 hf => ?_)
      refine vv_iconst dX10_waits_29 0 rfl 30 rfl ?_
      refine vv_istore_n dX10_waits_30 [(2, .int 0), (0, .ref (ad 0)), (1, .int p1)] rfl (Nat.le_of_ble_eq_true rfl) rfl 31 rfl ?_
      refine vv_iconst dX10_waits_31 0 rfl 32 rfl ?_
      refine vv_istore_n dX10_waits_32 [(3, .int 0), (2, .int 0), (0, .ref (ad 0)), (1, .int p1)] rfl (Nat.le_of_ble_eq_true rfl) rfl 33 rfl ?_
      refine vv_sub [2, 3, 1, 0] [(0, .ref (ad 0)), (1, .int p1), (2, .int 0), (3, .int 0)] rfl ?_
      exact l_X10_waits_33 1000 hf
    · refine vv_aload_n dX10_waits_18 0 rfl rfl 19 rfl ?_
      refine vv_bipush dX10_waits_19 (-6) rfl 21 rfl ?_
      refine vv_callV [.int (-6)] [] (fun _ _ h => c_X10_refuse h) (ob_rec ob_l0 rfl rfl) cv_X10_waits_53 rfl (Nat.le_of_ble_eq_true rfl) 24 rfl dX10_waits_21 rfl hf (fun r8 σ9 hf => ?_)
      exact vv_ireti rfl dX10_waits_24 hf
  · refine vv_aload_n dX10_waits_4 0 rfl rfl 5 rfl ?_
    refine vv_bipush dX10_waits_5 (-4) rfl 7 rfl ?_
    refine vv_callV [.int (-4)] [] (fun _ _ h => c_X10_refuse h) (ob_rec ob_l0 rfl rfl) cv_X10_waits_53 rfl (Nat.le_of_ble_eq_true rfl) 10 rfl dX10_waits_7 rfl hf (fun r10 σ11 hf => ?_)
    exact vv_ireti rfl dX10_waits_10 hf
abbrev mi_X10_send : ob_MI := (yX10_send, ob_ws yX10_send cX10_send 4 (some .int), cX10_send, 4, (some .int), { frames := 5, cells := 0, slots := 0, locals := 120 })
theorem cs_X10_send_97 : ob_CS mi_X10_send mi_X10_isCourse 97 1 := ob_csI rfl rfl tw_504 tw_451 tw_48 tw_452 ⟨rfl, rfl⟩ ⟨by decide +kernel, by decide +kernel, by decide +kernel⟩ ⟨Nat.le_of_ble_eq_true rfl, Nat.le_of_ble_eq_true rfl⟩
theorem cv_X10_send_119 : ob_CV mi_X10_send mi_X10_lookAtNow 119 RX10 0 := ob_cvI rfl rfl tw_535 tw_537 tw_5 tw_48 tw_538 ⟨rfl, rfl⟩ ⟨rfl, by decide +kernel, by decide +kernel, by decide +kernel⟩ ⟨Nat.le_of_ble_eq_true rfl, Nat.le_of_ble_eq_true rfl⟩
theorem gf_X10_send_10 : ob_GF mi_X10_send 10 10 0 := ⟨RX10, TX10, 11, rfl, by decide, fun x h => List.mem_cons_of_mem _ (uw_X10 x h), List.mem_cons_of_mem _ tw_245⟩
theorem gf_X10_send_156 : ob_GF mi_X10_send 156 3 0 := ⟨RX3, TX3, 9, rfl, by decide, fun x h => List.mem_cons_of_mem _ (uw_X3 x h), List.mem_cons_of_mem _ tw_83⟩
theorem cv_X10_send_167 : ob_CV mi_X10_send mi_X3_beginOf 167 RX3 1 := ob_cvI rfl rfl tw_701 tw_578 tw_579 tw_49 tw_580 ⟨rfl, rfl⟩ ⟨rfl, by decide +kernel, by decide +kernel, by decide +kernel⟩ ⟨Nat.le_of_ble_eq_true rfl, Nat.le_of_ble_eq_true rfl⟩
theorem gf_X10_send_107 : ob_GF mi_X10_send 107 3 8 := ⟨RX3, TX3, 9, rfl, by decide, fun x h => List.mem_cons_of_mem _ (uw_X3 x h), List.mem_cons_of_mem _ tw_105⟩
theorem mm_X10_send_175 : ob_mm mi_X10_send 175 Lib.Math.min.name (.code Lib.Math.min.name Lib.Math.min.code 2 (some .int)) := ⟨List.mem_cons_of_mem _ tw_711, List.mem_cons_of_mem _ tw_387, List.mem_cons_of_mem _ tw_64, List.mem_cons_of_mem _ tw_388⟩
theorem cv_X10_send_53 : ob_CV mi_X10_send mi_X10_refuse 53 RX10 1 := ob_cvI rfl rfl tw_283 tw_285 tw_0 tw_48 tw_286 ⟨rfl, rfl⟩ ⟨rfl, by decide +kernel, by decide +kernel, by decide +kernel⟩ ⟨Nat.le_of_ble_eq_true rfl, Nat.le_of_ble_eq_true rfl⟩
theorem gf_X10_send_84 : ob_GF mi_X10_send 84 3 5 := ⟨RX3, TX3, 9, rfl, by decide, fun x h => List.mem_cons_of_mem _ (uw_X3 x h), List.mem_cons_of_mem _ tw_97⟩
theorem gf_X10_send_32 : ob_GF mi_X10_send 32 10 5 := ⟨RX10, TX10, 11, rfl, by decide, fun x h => List.mem_cons_of_mem _ (uw_X10 x h), List.mem_cons_of_mem _ tw_250⟩
theorem gf_X10_send_125 : ob_GF mi_X10_send 125 1 3 := ⟨RX1, TX1, 11, rfl, by decide, fun x h => List.mem_cons_of_mem _ (uw_X1 x h), List.mem_cons_of_mem _ tw_193⟩
theorem mm_X10_send_170 : ob_mm mi_X10_send 170 Lib.Math.max.name (.code Lib.Math.max.name Lib.Math.max.code 2 (some .int)) := ⟨List.mem_cons_of_mem _ tw_710, List.mem_cons_of_mem _ tw_384, List.mem_cons_of_mem _ tw_64, List.mem_cons_of_mem _ tw_385⟩
noncomputable def L_X10_send_22 : Nat → ob_St → Int32 → Int32 → Int32 → Option (Int32 × ob_St)
  | 0, _, _, _, _ => none
  | n + 1, σ, v1, v2, v3 =>
    if (σ 1 0) ≤ v3 then
      if (0 : Int32) ≤ v2 then
        ob_bd (f_X3_beginOf 1 σ v1) fun r5 σ6 =>
        ob_ld σ6 9 6 5 fun v_7 =>
        ob_nm (r5 - (v2 - v_7)) fun v_8 =>
        if (0 : Int32) ≤ v_8 then
          ob_lt ob_great 6 5 fun v_9 =>
          some ((ob_min v_8 v_9), σ6)
        else
          some ((-9), σ6)
      else
        ob_bd (f_X10_refuse σ (-3)) fun r10 σ11 =>
        some (r10, σ11)
    else
      ob_ld σ 6 6 v3 fun v_12 =>
      if v_12 = v1 then
        ob_ld σ 39 6 v3 fun v_13 =>
        ob_nm (ob_max v2 v_13) fun v_14 =>
        L_X10_send_22 n σ v1 v_14 (v3 + 1)
      else
        L_X10_send_22 n σ v1 v2 (v3 + 1)
noncomputable def f_X10_send (σ : ob_St) (p1 : Int32) : Option (Int32 × ob_St) :=
  ob_bd (f_X10_isCourse σ p1) fun r1 σ2 =>
  if r1 = 0 then
    ob_bd (f_X10_refuse σ2 (-1)) fun r15 σ16 =>
    some (r15, σ16)
  else
    ob_bd (f_X10_lookAtNow σ2) fun _ σ4 =>
    L_X10_send_22 1000 σ4 p1 (-9) 0
set_option maxRecDepth 100000 in
set_option maxHeartbeats 4000000 in
theorem l_X10_send_22 {g : ob_GT} {ad : Nat → Nat} {r : Int32} {σ' : ob_St} : ∀ (n : Nat) {σ : ob_St} {v1 : Int32} {v2 : Int32} {v3 : Int32}, L_X10_send_22 n σ v1 v2 v3 = some (r, σ') → ob_V g (ob_X ad) mi_X10_send (some (.int r)) σ' σ 22 [(0, .ref (ad 0)), (1, .int v1), (2, .int v2), (3, .int v3)] [] := by
  intro n
  induction n with
  | zero => intro σ v1 v2 v3 hf; exact absurd hf (fun h => by cases h)
  | succ n ih =>
    intro σ v1 v2 v3 hf
    refine vv_iload_n dX10_send_22 3 rfl rfl 23 rfl ?_
    refine vv_aload_n dX10_send_23 0 rfl rfl 24 rfl ?_
    refine vv_getR dX10_send_24 0 gf_X10_send_10 ob_l0 rfl rfl 27 rfl ?_
    refine vv_getI dX10_send_27 0 gf_X10_send_156 ob_l1 rfl rfl 30 rfl ?_
    refine vv_icmp_ge dX10_send_30 66 33 rfl rfl hf (fun hf => ?_) (fun hf => ?_)
    · refine vv_iload_n dX10_send_66 2 rfl rfl 67 rfl ?_
      refine vv_if_ge dX10_send_67 77 70 rfl rfl hf (fun hf => ?_) (fun hf => ?_)
      · refine vv_aload_n dX10_send_77 0 rfl rfl 78 rfl ?_
        refine vv_getR dX10_send_78 0 gf_X10_send_10 ob_l0 rfl rfl 81 rfl ?_
        refine vv_iload_n dX10_send_81 1 rfl rfl 82 rfl ?_
        refine vv_callV [.int v1] [] (fun _ _ h => c_X3_beginOf (Or.inl rfl) h) (ob_rec ob_l1 rfl rfl) cv_X10_send_167 rfl (Nat.le_of_ble_eq_true rfl) 85 rfl dX10_send_82 rfl hf (fun r5 σ6 hf => ?_)
        refine vv_iload_n dX10_send_85 2 rfl rfl 86 rfl ?_
        refine vv_aload_n dX10_send_86 0 rfl rfl 87 rfl ?_
        refine vv_getR dX10_send_87 0 gf_X10_send_10 ob_l0 rfl rfl 90 rfl ?_
        refine vv_getR dX10_send_90 8 gf_X10_send_107 ob_l1 rfl rfl 93 rfl ?_
        refine vv_iconst dX10_send_93 5 rfl 94 rfl ?_
        refine vv_iald dX10_send_94 ob_l9 rfl 95 rfl hf (fun v_7 hf => ?_)
        refine vv_isub dX10_send_95 96 rfl ?_
        refine vv_isub dX10_send_96 97 rfl ?_
        refine vv_nm hf (fun v_8 hf => ?_)
        refine vv_istore_n dX10_send_97 [(3, .int v_8), (0, .ref (ad 0)), (1, .int v1), (2, .int v2)] rfl (Nat.le_of_ble_eq_true rfl) rfl 98 rfl ?_
        refine vv_iload_n dX10_send_98 0 rfl rfl 99 rfl ?_
        refine vv_if_ge dX10_send_99 107 102 rfl rfl hf (fun hf => ?_) (fun hf => ?_)
        · refine vv_iload_n dX10_send_107 0 rfl rfl 108 rfl ?_
          refine vv_gst dX10_send_108 (List.mem_cons_of_mem _ tw_510) (fun _ _ h => h.2.1.2.2.1) 111 rfl ?_
          refine vv_iconst dX10_send_111 5 rfl 112 rfl ?_
          refine vv_tald dX10_send_112 (fun _ _ h => h.2.1.2.2.2) 113 rfl hf (fun v_9 hf => ?_)
          refine vv_min dX10_send_113 mm_X10_send_175 (Nat.le_of_ble_eq_true rfl) (Nat.le_of_ble_eq_true rfl) 116 rfl ?_
          exact vv_ireti rfl dX10_send_116 hf
        · refine vv_bipush dX10_send_102 (-9) rfl 104 rfl ?_
          refine vv_goto dX10_send_104 116 rfl ?_
          exact vv_ireti rfl dX10_send_116 hf
      · refine vv_aload_n dX10_send_70 0 rfl rfl 71 rfl ?_
        refine vv_bipush dX10_send_71 (-3) rfl 73 rfl ?_
        refine vv_callV [.int (-3)] [] (fun _ _ h => c_X10_refuse h) (ob_rec ob_l0 rfl rfl) cv_X10_send_53 rfl (Nat.le_of_ble_eq_true rfl) 76 rfl dX10_send_73 rfl hf (fun r10 σ11 hf => ?_)
        exact vv_ireti rfl dX10_send_76 hf
    · refine vv_aload_n dX10_send_33 0 rfl rfl 34 rfl ?_
      refine vv_getR dX10_send_34 0 gf_X10_send_10 ob_l0 rfl rfl 37 rfl ?_
      refine vv_getR dX10_send_37 5 gf_X10_send_84 ob_l1 rfl rfl 40 rfl ?_
      refine vv_iload_n dX10_send_40 3 rfl rfl 41 rfl ?_
      refine vv_iald dX10_send_41 ob_l6 rfl 42 rfl hf (fun v_12 hf => ?_)
      refine vv_iload_n dX10_send_42 1 rfl rfl 43 rfl ?_
      refine vv_icmp_ne dX10_send_43 60 46 rfl rfl hf (fun hf => ?_) (fun hf => ?_)
      · refine vv_iinc dX10_send_60 (v3 + 1) 3 [(3, .int (v3 + 1)), (0, .ref (ad 0)), (1, .int v1), (2, .int v2)] rfl rfl (Nat.le_of_ble_eq_true rfl) rfl 63 rfl ?_
        refine vv_goto dX10_send_63 22 rfl ?_
        refine vv_sub [1, 2, 3, 0] [(0, .ref (ad 0)), (1, .int v1), (2, .int v2), (3, .int (v3 + 1))] rfl ?_
        exact ih hf
      · refine vv_iload_n dX10_send_46 2 rfl rfl 47 rfl ?_
        refine vv_aload_n dX10_send_47 0 rfl rfl 48 rfl ?_
        refine vv_getR dX10_send_48 5 gf_X10_send_32 ob_l0 rfl rfl 51 rfl ?_
        refine vv_getR dX10_send_51 3 gf_X10_send_125 ob_l30 rfl rfl 54 rfl ?_
        refine vv_iload_n dX10_send_54 3 rfl rfl 55 rfl ?_
        refine vv_iald dX10_send_55 ob_l39 rfl 56 rfl hf (fun v_13 hf => ?_)
        refine vv_max dX10_send_56 mm_X10_send_170 (Nat.le_of_ble_eq_true rfl) (Nat.le_of_ble_eq_true rfl) 59 rfl ?_
        refine vv_nm hf (fun v_14 hf => ?_)
        refine vv_istore_n dX10_send_59 [(2, .int v_14), (0, .ref (ad 0)), (1, .int v1), (3, .int v3)] rfl (Nat.le_of_ble_eq_true rfl) rfl 60 rfl ?_
        refine vv_iinc dX10_send_60 (v3 + 1) 3 [(3, .int (v3 + 1)), (2, .int v_14), (0, .ref (ad 0)), (1, .int v1)] rfl rfl (Nat.le_of_ble_eq_true rfl) rfl 63 rfl ?_
        refine vv_goto dX10_send_63 22 rfl ?_
        refine vv_sub [2, 3, 1, 0] [(0, .ref (ad 0)), (1, .int v1), (2, .int v_14), (3, .int (v3 + 1))] rfl ?_
        exact ih hf
set_option maxRecDepth 100000 in
set_option maxHeartbeats 4000000 in
theorem c_X10_send {g : ob_GT} {ad : Nat → Nat} {r : Int32} {σ' : ob_St} {σ : ob_St} {p1 : Int32} (hf : f_X10_send σ p1 = some (r, σ')) : ob_CT g (ob_X ad) mi_X10_send [.ref (ad 0), .int p1] σ (some (.int r)) σ' := by
  refine ob_ct (by decide +kernel) rfl (Nat.le_of_ble_eq_true rfl) ?_
  show ob_V g (ob_X ad) mi_X10_send (some (.int r)) σ' σ 0 [(0, .ref (ad 0)), (1, .int p1)] []
  refine vv_iload_n dX10_send_0 1 rfl rfl 1 rfl ?_
  refine vv_callS [.int p1] [] (fun _ _ h => c_X10_isCourse h) cs_X10_send_97 rfl (Nat.le_of_ble_eq_true rfl) 4 rfl dX10_send_1 rfl hf (fun r1 σ2 hf => ?_)
  refine vv_if_ne dX10_send_4 13 7 rfl rfl hf (fun hf => ?_) (fun hf => ?_)
  · refine vv_aload_n dX10_send_13 0 rfl rfl 14 rfl ?_
    refine vv_callVu [] [] (fun _ _ h => c_X10_lookAtNow h) (ob_rec ob_l0 rfl rfl) cv_X10_send_119 rfl (Nat.le_of_ble_eq_true rfl) 17 rfl dX10_send_14 rfl hf (fun _ σ4 hf => ?_)
    refine vv_bipush dX10_send_17 (-9) rfl 19 rfl ?_
    refine vv_istore_n dX10_send_19 [(2, .int (-9)), (0, .ref (ad 0)), (1, .int p1)] rfl (Nat.le_of_ble_eq_true rfl) rfl 20 rfl ?_
    refine vv_iconst dX10_send_20 0 rfl 21 rfl ?_
    refine vv_istore_n dX10_send_21 [(3, .int 0), (2, .int (-9)), (0, .ref (ad 0)), (1, .int p1)] rfl (Nat.le_of_ble_eq_true rfl) rfl 22 rfl ?_
    refine vv_sub [2, 3, 1, 0] [(0, .ref (ad 0)), (1, .int p1), (2, .int (-9)), (3, .int 0)] rfl ?_
    exact l_X10_send_22 1000 hf
  · refine vv_aload_n dX10_send_7 0 rfl rfl 8 rfl ?_
    refine vv_iconst dX10_send_8 (-1) rfl 9 rfl ?_
    refine vv_callV [.int (-1)] [] (fun _ _ h => c_X10_refuse h) (ob_rec ob_l0 rfl rfl) cv_X10_send_53 rfl (Nat.le_of_ble_eq_true rfl) 12 rfl dX10_send_9 rfl hf (fun r15 σ16 hf => ?_)
    exact vv_ireti rfl dX10_send_12 hf
abbrev mi_X10_row : ob_MI := (yX10_row, ob_ws yX10_row cX10_row 2 (some .int), cX10_row, 2, (some .int), { frames := 1, cells := 0, slots := 0, locals := 22 })
theorem cv_X10_row_53 : ob_CV mi_X10_row mi_X10_refuse 53 RX10 1 := ob_cvI rfl rfl tw_283 tw_285 tw_0 tw_48 tw_286 ⟨rfl, rfl⟩ ⟨rfl, by decide +kernel, by decide +kernel, by decide +kernel⟩ ⟨Nat.le_of_ble_eq_true rfl, Nat.le_of_ble_eq_true rfl⟩
theorem gf_X10_row_178 : ob_GF mi_X10_row 178 10 9 := ⟨RX10, TX10, 11, rfl, by decide, fun x h => List.mem_cons_of_mem _ (uw_X10 x h), List.mem_cons_of_mem _ tw_254⟩
theorem gf_X10_row_47 : ob_GF mi_X10_row 47 10 8 := ⟨RX10, TX10, 11, rfl, by decide, fun x h => List.mem_cons_of_mem _ (uw_X10 x h), List.mem_cons_of_mem _ tw_253⟩
theorem pf_X10_row_178 : ob_PF mi_X10_row 178 10 9 .int := ⟨RX10, TX10, 11, tyX10, rfl, by decide, fun x h => List.mem_cons_of_mem _ (uw_X10 x h), List.mem_cons_of_mem _ tw_254, tyX10_ok, nmX10, rfl, by decide +kernel⟩
noncomputable def f_X10_row (σ : ob_St) (p1 : Int32) : Option (Int32 × ob_St) :=
  if (0 : Int32) ≤ p1 then
    if (99 : Int32) < p1 then
      ob_bd (f_X10_refuse σ (-6)) fun r1 σ2 =>
      some (r1, σ2)
    else
      if (σ 0 9) < 12 then
        ob_sd σ 50 12 (σ 0 9) p1 fun σ3 =>
        ob_pf σ3 0 9 ((σ3 0 9) + 1) fun σ4 =>
        some ((σ4 0 9), σ4)
      else
        ob_bd (f_X10_refuse σ (-6)) fun r5 σ6 =>
        some (r5, σ6)
  else
    ob_bd (f_X10_refuse σ (-4)) fun r7 σ8 =>
    some (r7, σ8)
set_option maxRecDepth 100000 in
set_option maxHeartbeats 4000000 in
theorem c_X10_row {g : ob_GT} {ad : Nat → Nat} {r : Int32} {σ' : ob_St} {σ : ob_St} {p1 : Int32} (hf : f_X10_row σ p1 = some (r, σ')) : ob_CT g (ob_X ad) mi_X10_row [.ref (ad 0), .int p1] σ (some (.int r)) σ' := by
  refine ob_ct (by decide +kernel) rfl (Nat.le_of_ble_eq_true rfl) ?_
  show ob_V g (ob_X ad) mi_X10_row (some (.int r)) σ' σ 0 [(0, .ref (ad 0)), (1, .int p1)] []
  refine vv_iload_n dX10_row_0 1 rfl rfl 1 rfl ?_
  refine vv_if_ge dX10_row_1 11 4 rfl rfl hf (fun hf => ?_) (fun hf => ?_)
  · refine vv_iload_n dX10_row_11 1 rfl rfl 12 rfl ?_
    refine vv_bipush dX10_row_12 99 rfl 14 rfl ?_
    refine vv_icmp_gt dX10_row_14 26 17 rfl rfl hf (fun hf => ?_) (fun hf => ?_)
    · refine vv_aload_n dX10_row_26 0 rfl rfl 27 rfl ?_
      refine vv_bipush dX10_row_27 (-6) rfl 29 rfl ?_
      refine vv_callV [.int (-6)] [] (fun _ _ h => c_X10_refuse h) (ob_rec ob_l0 rfl rfl) cv_X10_row_53 rfl (Nat.le_of_ble_eq_true rfl) 32 rfl dX10_row_29 rfl hf (fun r1 σ2 hf => ?_)
      exact vv_ireti rfl dX10_row_32 hf
    · refine vv_aload_n dX10_row_17 0 rfl rfl 18 rfl ?_
      refine vv_getI dX10_row_18 9 gf_X10_row_178 ob_l0 rfl rfl 21 rfl ?_
      refine vv_bipush dX10_row_21 12 rfl 23 rfl ?_
      refine vv_icmp_lt dX10_row_23 33 26 rfl rfl hf (fun hf => ?_) (fun hf => ?_)
      · refine vv_aload_n dX10_row_33 0 rfl rfl 34 rfl ?_
        refine vv_getR dX10_row_34 8 gf_X10_row_47 ob_l0 rfl rfl 37 rfl ?_
        refine vv_aload_n dX10_row_37 0 rfl rfl 38 rfl ?_
        refine vv_getI dX10_row_38 9 gf_X10_row_178 ob_l0 rfl rfl 41 rfl ?_
        refine vv_iload_n dX10_row_41 1 rfl rfl 42 rfl ?_
        refine vv_iast dX10_row_42 ob_l50 rfl 43 rfl hf (fun σ3 hf => ?_)
        refine vv_aload_n dX10_row_43 0 rfl rfl 44 rfl ?_
        refine vv_dup dX10_row_44 rfl 45 rfl ?_
        refine vv_getI dX10_row_45 9 gf_X10_row_178 ob_l0 rfl rfl 48 rfl ?_
        refine vv_iconst dX10_row_48 1 rfl 49 rfl ?_
        refine vv_iadd dX10_row_49 50 rfl ?_
        refine vv_putI dX10_row_50 9 pf_X10_row_178 ob_l0 rfl rfl (ob_fit_int _) 53 rfl hf (fun σ4 hf => ?_)
        refine vv_aload_n dX10_row_53 0 rfl rfl 54 rfl ?_
        refine vv_getI dX10_row_54 9 gf_X10_row_178 ob_l0 rfl rfl 57 rfl ?_
        exact vv_ireti rfl dX10_row_57 hf
      · refine vv_aload_n dX10_row_26 0 rfl rfl 27 rfl ?_
        refine vv_bipush dX10_row_27 (-6) rfl 29 rfl ?_
        refine vv_callV [.int (-6)] [] (fun _ _ h => c_X10_refuse h) (ob_rec ob_l0 rfl rfl) cv_X10_row_53 rfl (Nat.le_of_ble_eq_true rfl) 32 rfl dX10_row_29 rfl hf (fun r5 σ6 hf => ?_)
        exact vv_ireti rfl dX10_row_32 hf
  · refine vv_aload_n dX10_row_4 0 rfl rfl 5 rfl ?_
    refine vv_bipush dX10_row_5 (-4) rfl 7 rfl ?_
    refine vv_callV [.int (-4)] [] (fun _ _ h => c_X10_refuse h) (ob_rec ob_l0 rfl rfl) cv_X10_row_53 rfl (Nat.le_of_ble_eq_true rfl) 10 rfl dX10_row_7 rfl hf (fun r7 σ8 hf => ?_)
    exact vv_ireti rfl dX10_row_10 hf
abbrev mi_X10_fits : ob_MI := (yX10_fits, ob_ws yX10_fits cX10_fits 3 (some .int), cX10_fits, 3, (some .int), { frames := 6, cells := 0, slots := 0, locals := 145 })
theorem gf_X10_fits_10 : ob_GF mi_X10_fits 10 10 0 := ⟨RX10, TX10, 11, rfl, by decide, fun x h => List.mem_cons_of_mem _ (uw_X10 x h), List.mem_cons_of_mem _ tw_245⟩
theorem gf_X10_fits_156 : ob_GF mi_X10_fits 156 3 0 := ⟨RX3, TX3, 9, rfl, by decide, fun x h => List.mem_cons_of_mem _ (uw_X3 x h), List.mem_cons_of_mem _ tw_83⟩
theorem cv_X10_fits_181 : ob_CV mi_X10_fits mi_X10_findFitting 181 RX10 0 := ob_cvI rfl rfl tw_720 tw_722 tw_16 tw_48 tw_723 ⟨rfl, rfl⟩ ⟨rfl, by decide +kernel, by decide +kernel, by decide +kernel⟩ ⟨Nat.le_of_ble_eq_true rfl, Nat.le_of_ble_eq_true rfl⟩
theorem gf_X10_fits_43 : ob_GF mi_X10_fits 43 10 7 := ⟨RX10, TX10, 11, rfl, by decide, fun x h => List.mem_cons_of_mem _ (uw_X10 x h), List.mem_cons_of_mem _ tw_252⟩
theorem cv_X10_fits_53 : ob_CV mi_X10_fits mi_X10_refuse 53 RX10 1 := ob_cvI rfl rfl tw_283 tw_285 tw_0 tw_48 tw_286 ⟨rfl, rfl⟩ ⟨rfl, by decide +kernel, by decide +kernel, by decide +kernel⟩ ⟨Nat.le_of_ble_eq_true rfl, Nat.le_of_ble_eq_true rfl⟩
noncomputable def f_X10_fits (σ : ob_St) (p1 : Int32) : Option (Int32 × ob_St) :=
  if ((-1) : Int32) ≤ p1 then
    if p1 < (σ 1 0) then
      ob_bd (f_X10_findFitting σ) fun r1 σ2 =>
      if (0 : Int32) ≤ p1 then
        if r1 = 0 then
          some ((-9), σ2)
        else
          ob_ld σ2 49 6 p1 fun v_3 =>
          some (v_3, σ2)
      else
        some (r1, σ2)
    else
      ob_bd (f_X10_refuse σ (-1)) fun r4 σ5 =>
      some (r4, σ5)
  else
    ob_bd (f_X10_refuse σ (-4)) fun r6 σ7 =>
    some (r6, σ7)
set_option maxRecDepth 100000 in
set_option maxHeartbeats 4000000 in
theorem c_X10_fits {g : ob_GT} {ad : Nat → Nat} {r : Int32} {σ' : ob_St} {σ : ob_St} {p1 : Int32} (hf : f_X10_fits σ p1 = some (r, σ')) : ob_CT g (ob_X ad) mi_X10_fits [.ref (ad 0), .int p1] σ (some (.int r)) σ' := by
  refine ob_ct (by decide +kernel) rfl (Nat.le_of_ble_eq_true rfl) ?_
  show ob_V g (ob_X ad) mi_X10_fits (some (.int r)) σ' σ 0 [(0, .ref (ad 0)), (1, .int p1)] []
  refine vv_iload_n dX10_fits_0 1 rfl rfl 1 rfl ?_
  refine vv_iconst dX10_fits_1 (-1) rfl 2 rfl ?_
  refine vv_icmp_ge dX10_fits_2 12 5 rfl rfl hf (fun hf => ?_) (fun hf => ?_)
  · refine vv_iload_n dX10_fits_12 1 rfl rfl 13 rfl ?_
    refine vv_aload_n dX10_fits_13 0 rfl rfl 14 rfl ?_
    refine vv_getR dX10_fits_14 0 gf_X10_fits_10 ob_l0 rfl rfl 17 rfl ?_
    refine vv_getI dX10_fits_17 0 gf_X10_fits_156 ob_l1 rfl rfl 20 rfl ?_
    refine vv_icmp_lt dX10_fits_20 29 23 rfl rfl hf (fun hf => ?_) (fun hf => ?_)
    · refine vv_aload_n dX10_fits_29 0 rfl rfl 30 rfl ?_
      refine vv_callV [] [] (fun _ _ h => c_X10_findFitting h) (ob_rec ob_l0 rfl rfl) cv_X10_fits_181 rfl (Nat.le_of_ble_eq_true rfl) 33 rfl dX10_fits_30 rfl hf (fun r1 σ2 hf => ?_)
      refine vv_istore_n dX10_fits_33 [(2, .int r1), (0, .ref (ad 0)), (1, .int p1)] rfl (Nat.le_of_ble_eq_true rfl) rfl 34 rfl ?_
      refine vv_iload_n dX10_fits_34 2 rfl rfl 35 rfl ?_
      refine vv_if_ge dX10_fits_35 40 38 rfl rfl hf (fun hf => ?_) (fun hf => ?_)
      · refine vv_iload_n dX10_fits_40 0 rfl rfl 41 rfl ?_
        refine vv_if_ne dX10_fits_41 49 44 rfl rfl hf (fun hf => ?_) (fun hf => ?_)
        · refine vv_aload_n dX10_fits_49 1 rfl rfl 50 rfl ?_
          refine vv_getR dX10_fits_50 7 gf_X10_fits_43 ob_l0 rfl rfl 53 rfl ?_
          refine vv_iload_n dX10_fits_53 2 rfl rfl 54 rfl ?_
          refine vv_iald dX10_fits_54 ob_l49 rfl 55 rfl hf (fun v_3 hf => ?_)
          exact vv_ireti rfl dX10_fits_55 hf
        · refine vv_bipush dX10_fits_44 (-9) rfl 46 rfl ?_
          refine vv_goto dX10_fits_46 55 rfl ?_
          exact vv_ireti rfl dX10_fits_55 hf
      · refine vv_iload_n dX10_fits_38 0 rfl rfl 39 rfl ?_
        exact vv_ireti rfl dX10_fits_39 hf
    · refine vv_aload_n dX10_fits_23 0 rfl rfl 24 rfl ?_
      refine vv_iconst dX10_fits_24 (-1) rfl 25 rfl ?_
      refine vv_callV [.int (-1)] [] (fun _ _ h => c_X10_refuse h) (ob_rec ob_l0 rfl rfl) cv_X10_fits_53 rfl (Nat.le_of_ble_eq_true rfl) 28 rfl dX10_fits_25 rfl hf (fun r4 σ5 hf => ?_)
      exact vv_ireti rfl dX10_fits_28 hf
  · refine vv_aload_n dX10_fits_5 0 rfl rfl 6 rfl ?_
    refine vv_bipush dX10_fits_6 (-4) rfl 8 rfl ?_
    refine vv_callV [.int (-4)] [] (fun _ _ h => c_X10_refuse h) (ob_rec ob_l0 rfl rfl) cv_X10_fits_53 rfl (Nat.le_of_ble_eq_true rfl) 11 rfl dX10_fits_8 rfl hf (fun r6 σ7 hf => ?_)
    exact vv_ireti rfl dX10_fits_11 hf
abbrev mi_X10_judge : ob_MI := (yX10_judge, ob_ws yX10_judge cX10_judge 2 (some .int), cX10_judge, 2, (some .int), { frames := 5, cells := 0, slots := 0, locals := 122 })
theorem gf_X10_judge_10 : ob_GF mi_X10_judge 10 10 0 := ⟨RX10, TX10, 11, rfl, by decide, fun x h => List.mem_cons_of_mem _ (uw_X10 x h), List.mem_cons_of_mem _ tw_245⟩
theorem gf_X10_judge_90 : ob_GF mi_X10_judge 90 3 6 := ⟨RX3, TX3, 9, rfl, by decide, fun x h => List.mem_cons_of_mem _ (uw_X3 x h), List.mem_cons_of_mem _ tw_100⟩
theorem cv_X10_judge_184 : ob_CV mi_X10_judge mi_X10_firstNotSo 184 RX10 1 := ob_cvI rfl rfl tw_724 tw_726 tw_17 tw_48 tw_727 ⟨rfl, rfl⟩ ⟨rfl, by decide +kernel, by decide +kernel, by decide +kernel⟩ ⟨Nat.le_of_ble_eq_true rfl, Nat.le_of_ble_eq_true rfl⟩
theorem pf_X10_judge_178 : ob_PF mi_X10_judge 178 10 9 .int := ⟨RX10, TX10, 11, tyX10, rfl, by decide, fun x h => List.mem_cons_of_mem _ (uw_X10 x h), List.mem_cons_of_mem _ tw_254, tyX10_ok, nmX10, rfl, by decide +kernel⟩
noncomputable def f_X10_judge (σ : ob_St) : Option (Int32 × ob_St) :=
  ob_bd (f_X10_firstNotSo 7 σ) fun r1 σ2 =>
  ob_pf σ2 0 9 0 fun σ3 =>
  some (r1, σ3)
set_option maxRecDepth 100000 in
set_option maxHeartbeats 4000000 in
theorem c_X10_judge {g : ob_GT} {ad : Nat → Nat} {r : Int32} {σ' : ob_St} {σ : ob_St} (hf : f_X10_judge σ = some (r, σ')) : ob_CT g (ob_X ad) mi_X10_judge [.ref (ad 0)] σ (some (.int r)) σ' := by
  refine ob_ct (by decide +kernel) rfl (Nat.le_of_ble_eq_true rfl) ?_
  show ob_V g (ob_X ad) mi_X10_judge (some (.int r)) σ' σ 0 [(0, .ref (ad 0))] []
  refine vv_aload_n dX10_judge_0 0 rfl rfl 1 rfl ?_
  refine vv_aload_n dX10_judge_1 0 rfl rfl 2 rfl ?_
  refine vv_getR dX10_judge_2 0 gf_X10_judge_10 ob_l0 rfl rfl 5 rfl ?_
  refine vv_getR dX10_judge_5 6 gf_X10_judge_90 ob_l1 rfl rfl 8 rfl ?_
  refine vv_callV [.ref (ad 7)] [] (fun _ _ h => c_X10_firstNotSo ⟨ob_l7, rfl⟩ h) (ob_rec ob_l0 rfl rfl) cv_X10_judge_184 rfl (Nat.le_of_ble_eq_true rfl) 11 rfl dX10_judge_8 rfl hf (fun r1 σ2 hf => ?_)
  refine vv_istore_n dX10_judge_11 [(1, .int r1), (0, .ref (ad 0))] rfl (Nat.le_of_ble_eq_true rfl) rfl 12 rfl ?_
  refine vv_aload_n dX10_judge_12 1 rfl rfl 13 rfl ?_
  refine vv_iconst dX10_judge_13 0 rfl 14 rfl ?_
  refine vv_putI dX10_judge_14 9 pf_X10_judge_178 ob_l0 rfl rfl (ob_fit_int _) 17 rfl hf (fun σ3 hf => ?_)
  refine vv_iload_n dX10_judge_17 0 rfl rfl 18 rfl ?_
  exact vv_ireti rfl dX10_judge_18 hf
abbrev mi_X10_lots : ob_MI := (yX10_lots, ob_ws yX10_lots cX10_lots 7 (some .int), cX10_lots, 7, (some .int), { frames := 4, cells := 0, slots := 0, locals := 100 })
theorem gf_X10_lots_16 : ob_GF mi_X10_lots 16 10 1 := ⟨RX10, TX10, 11, rfl, by decide, fun x h => List.mem_cons_of_mem _ (uw_X10 x h), List.mem_cons_of_mem _ tw_246⟩
theorem gf_X10_lots_10 : ob_GF mi_X10_lots 10 10 0 := ⟨RX10, TX10, 11, rfl, by decide, fun x h => List.mem_cons_of_mem _ (uw_X10 x h), List.mem_cons_of_mem _ tw_245⟩
theorem cv_X10_lots_188 : ob_CV mi_X10_lots mi_X3_takeOver 188 RX3 1 := ob_cvI rfl rfl tw_427 tw_428 tw_429 tw_49 tw_430 ⟨rfl, rfl⟩ ⟨rfl, by decide +kernel, by decide +kernel, by decide +kernel⟩ ⟨Nat.le_of_ble_eq_true rfl, Nat.le_of_ble_eq_true rfl⟩
theorem gf_X10_lots_100 : ob_GF mi_X10_lots 100 3 7 := ⟨RX3, TX3, 9, rfl, by decide, fun x h => List.mem_cons_of_mem _ (uw_X3 x h), List.mem_cons_of_mem _ tw_102⟩
theorem gf_X10_lots_32 : ob_GF mi_X10_lots 32 10 5 := ⟨RX10, TX10, 11, rfl, by decide, fun x h => List.mem_cons_of_mem _ (uw_X10 x h), List.mem_cons_of_mem _ tw_250⟩
theorem gf_X10_lots_90 : ob_GF mi_X10_lots 90 3 6 := ⟨RX3, TX3, 9, rfl, by decide, fun x h => List.mem_cons_of_mem _ (uw_X3 x h), List.mem_cons_of_mem _ tw_100⟩
theorem cv_X10_lots_159 : ob_CV mi_X10_lots mi_X1_pass 159 RX1 3 := ob_cvI rfl rfl tw_539 tw_540 tw_541 tw_51 tw_542 ⟨rfl, rfl⟩ ⟨rfl, by decide +kernel, by decide +kernel, by decide +kernel⟩ ⟨Nat.le_of_ble_eq_true rfl, Nat.le_of_ble_eq_true rfl⟩
theorem gf_X10_lots_122 : ob_GF mi_X10_lots 122 1 10 := ⟨RX1, TX1, 11, rfl, by decide, fun x h => List.mem_cons_of_mem _ (uw_X1 x h), List.mem_cons_of_mem _ tw_207⟩
theorem cv_X10_lots_53 : ob_CV mi_X10_lots mi_X10_refuse 53 RX10 1 := ob_cvI rfl rfl tw_283 tw_285 tw_0 tw_48 tw_286 ⟨rfl, rfl⟩ ⟨rfl, by decide +kernel, by decide +kernel, by decide +kernel⟩ ⟨Nat.le_of_ble_eq_true rfl, Nat.le_of_ble_eq_true rfl⟩
noncomputable def L_X10_lots_53 : Nat → ob_St → Int32 → Int32 → Int32 → Int32 → Int32 → Option (Int32 × ob_St)
  | 0, _, _, _, _, _, _ => none
  | n + 1, σ, v1, v3, v4, v5, v6 =>
    if (5 : Int32) ≤ v6 then
      some (v3, σ)
    else
      ob_nm ((v3 * 1664525) + 1013904223) fun v_3 =>
      ob_sd σ 17 5 v6 (ob_rem ((v_3 &&& 2147483647) / 256) 100) fun σ4 =>
      L_X10_lots_53 n σ4 v1 v_3 v4 v5 (v6 + 1)
noncomputable def L_X10_lots_44 : Nat → ob_St → Int32 → Int32 → Int32 → Int32 → Option (Int32 × ob_St)
  | 0, _, _, _, _, _ => none
  | n + 1, σ, v1, v3, v4, v5 =>
    if v1 ≤ v5 then
      some (v4, σ)
    else
      ob_bd (L_X10_lots_53 1000 σ v1 v3 v4 v5 0) fun q5 σ6 =>
      ob_bd (f_X1_pass 10 16 σ6 (-1)) fun _ σ8 =>
      ob_ld σ8 46 8 0 fun v_9 =>
      ob_nm (v4 + v_9) fun v_10 =>
      L_X10_lots_44 n σ8 v1 q5 v_10 (v5 + 1)
noncomputable def f_X10_lots (σ : ob_St) (p1 : Int32) (p2 : Int32) : Option (Int32 × ob_St) :=
  if (1 : Int32) ≤ p1 then
    if p1 ≤ 20 then
      ob_bd (f_X3_takeOver 10 1 σ) fun _ σ2 =>
      L_X10_lots_44 1000 σ2 p1 p2 0 0
    else
      ob_bd (f_X10_refuse σ (-6)) fun r11 σ12 =>
      some (r11, σ12)
  else
    ob_bd (f_X10_refuse σ (-4)) fun r13 σ14 =>
    some (r13, σ14)
set_option maxRecDepth 100000 in
set_option maxHeartbeats 4000000 in
theorem l_X10_lots_53 {g : ob_GT} {ad : Nat → Nat} {ov : Option Value} {σ' σq : ob_St} {q : Int32} : ∀ (n : Nat) {σ : ob_St} {v1 : Int32} {v3 : Int32} {v4 : Int32} {v5 : Int32} {v6 : Int32}, L_X10_lots_53 n σ v1 v3 v4 v5 v6 = some (q, σq) → ob_V g (ob_X ad) mi_X10_lots ov σ' σq 94 [(0, .ref (ad 0)), (1, .int v1), (3, .int q), (4, .int v4), (5, .int v5)] [] → ob_V g (ob_X ad) mi_X10_lots ov σ' σ 53 [(0, .ref (ad 0)), (1, .int v1), (3, .int v3), (4, .int v4), (5, .int v5), (6, .int v6)] [] := by
  intro n
  induction n with
  | zero => intro σ v1 v3 v4 v5 v6 hf kk; exact absurd hf (fun h => by cases h)
  | succ n ih =>
    intro σ v1 v3 v4 v5 v6 hf kk
    refine vv_iload dX10_lots_53 5 rfl 55 rfl ?_
    refine vv_iconst dX10_lots_55 5 rfl 56 rfl ?_
    refine vv_icmp_ge dX10_lots_56 94 59 rfl rfl hf (fun hf => ?_) (fun hf => ?_)
    · refine vv_sub [0, 1, 2, 3, 4] [(0, .ref (ad 0)), (1, .int v1), (3, .int v3), (4, .int v4), (5, .int v5)] rfl ?_
      obtain ⟨rfl, rfl⟩ := Prod.mk.inj (Option.some.inj hf)
      exact kk
    · refine vv_iload_n dX10_lots_59 2 rfl rfl 60 rfl ?_
      refine vv_ldc dX10_lots_60 1664525 (List.mem_cons_of_mem _ tw_736) 62 rfl ?_
      refine vv_imul dX10_lots_62 63 rfl ?_
      refine vv_ldc dX10_lots_63 1013904223 (List.mem_cons_of_mem _ tw_737) 65 rfl ?_
      refine vv_iadd dX10_lots_65 66 rfl ?_
      refine vv_nm hf (fun v_3 hf => ?_)
      refine vv_istore_n dX10_lots_66 [(3, .int v_3), (0, .ref (ad 0)), (1, .int v1), (4, .int v4), (5, .int v5), (6, .int v6)] rfl (Nat.le_of_ble_eq_true rfl) rfl 67 rfl ?_
      refine vv_aload_n dX10_lots_67 1 rfl rfl 68 rfl ?_
      refine vv_getR dX10_lots_68 1 gf_X10_lots_16 ob_l0 rfl rfl 71 rfl ?_
      refine vv_getR dX10_lots_71 7 gf_X10_lots_100 ob_l10 rfl rfl 74 rfl ?_
      refine vv_iload dX10_lots_74 5 rfl 76 rfl ?_
      refine vv_iload_n dX10_lots_76 0 rfl rfl 77 rfl ?_
      refine vv_ldc dX10_lots_77 2147483647 (List.mem_cons_of_mem _ tw_738) 79 rfl ?_
      refine vv_iand dX10_lots_79 80 rfl ?_
      refine vv_sipush dX10_lots_80 256 rfl 83 rfl ?_
      refine vv_idiv dX10_lots_83 (by decide) 84 rfl ?_
      refine vv_bipush dX10_lots_84 100 rfl 86 rfl ?_
      refine vv_irem dX10_lots_86 (by decide) 87 rfl ?_
      refine vv_iast dX10_lots_87 ob_l17 rfl 88 rfl hf (fun σ4 hf => ?_)
      refine vv_iinc dX10_lots_88 (v6 + 1) 5 [(6, .int (v6 + 1)), (3, .int v_3), (0, .ref (ad 0)), (1, .int v1), (4, .int v4), (5, .int v5)] rfl rfl (Nat.le_of_ble_eq_true rfl) rfl 91 rfl ?_
      refine vv_goto dX10_lots_91 53 rfl ?_
      refine vv_sub [2, 3, 1, 4, 5, 0] [(0, .ref (ad 0)), (1, .int v1), (3, .int v_3), (4, .int v4), (5, .int v5), (6, .int (v6 + 1))] rfl ?_
      exact ih hf kk
set_option maxRecDepth 100000 in
set_option maxHeartbeats 4000000 in
theorem l_X10_lots_44 {g : ob_GT} {ad : Nat → Nat} {r : Int32} {σ' : ob_St} : ∀ (n : Nat) {σ : ob_St} {v1 : Int32} {v3 : Int32} {v4 : Int32} {v5 : Int32}, L_X10_lots_44 n σ v1 v3 v4 v5 = some (r, σ') → ob_V g (ob_X ad) mi_X10_lots (some (.int r)) σ' σ 44 [(0, .ref (ad 0)), (1, .int v1), (3, .int v3), (4, .int v4), (5, .int v5)] [] := by
  intro n
  induction n with
  | zero => intro σ v1 v3 v4 v5 hf; exact absurd hf (fun h => by cases h)
  | succ n ih =>
    intro σ v1 v3 v4 v5 hf
    refine vv_iload dX10_lots_44 4 rfl 46 rfl ?_
    refine vv_iload_n dX10_lots_46 1 rfl rfl 47 rfl ?_
    refine vv_icmp_ge dX10_lots_47 133 50 rfl rfl hf (fun hf => ?_) (fun hf => ?_)
    · refine vv_iload dX10_lots_133 3 rfl 135 rfl ?_
      exact vv_ireti rfl dX10_lots_135 hf
    · refine vv_iconst dX10_lots_50 0 rfl 51 rfl ?_
      refine vv_istore dX10_lots_51 [(6, .int 0), (0, .ref (ad 0)), (1, .int v1), (3, .int v3), (4, .int v4), (5, .int v5)] (Nat.le_of_ble_eq_true rfl) rfl 53 rfl ?_
      refine vv_sub [1, 2, 3, 4, 5, 0] [(0, .ref (ad 0)), (1, .int v1), (3, .int v3), (4, .int v4), (5, .int v5), (6, .int 0)] rfl ?_
      obtain ⟨q5, σ6, hL, hf⟩ := ob_bdE hf
      refine l_X10_lots_53 1000 hL ?_
      refine vv_aload_n dX10_lots_94 0 rfl rfl 95 rfl ?_
      refine vv_getR dX10_lots_95 5 gf_X10_lots_32 ob_l0 rfl rfl 98 rfl ?_
      refine vv_aload_n dX10_lots_98 0 rfl rfl 99 rfl ?_
      refine vv_getR dX10_lots_99 1 gf_X10_lots_16 ob_l0 rfl rfl 102 rfl ?_
      refine vv_aload_n dX10_lots_102 0 rfl rfl 103 rfl ?_
      refine vv_getR dX10_lots_103 1 gf_X10_lots_16 ob_l0 rfl rfl 106 rfl ?_
      refine vv_getR dX10_lots_106 6 gf_X10_lots_90 ob_l10 rfl rfl 109 rfl ?_
      refine vv_iconst dX10_lots_109 (-1) rfl 110 rfl ?_
      refine vv_callVu [.ref (ad 10), .ref (ad 16), .int (-1)] [] (fun _ _ h => c_X1_pass (Or.inr (Or.inl rfl)) ⟨ob_l16, rfl⟩ h) (ob_rec ob_l30 rfl rfl) cv_X10_lots_159 rfl (Nat.le_of_ble_eq_true rfl) 113 rfl dX10_lots_110 rfl hf (fun _ σ8 hf => ?_)
      refine vv_iload dX10_lots_113 3 rfl 115 rfl ?_
      refine vv_aload_n dX10_lots_115 0 rfl rfl 116 rfl ?_
      refine vv_getR dX10_lots_116 5 gf_X10_lots_32 ob_l0 rfl rfl 119 rfl ?_
      refine vv_getR dX10_lots_119 10 gf_X10_lots_122 ob_l30 rfl rfl 122 rfl ?_
      refine vv_iconst dX10_lots_122 0 rfl 123 rfl ?_
      refine vv_iald dX10_lots_123 ob_l46 rfl 124 rfl hf (fun v_9 hf => ?_)
      refine vv_iadd dX10_lots_124 125 rfl ?_
      refine vv_nm hf (fun v_10 hf => ?_)
      refine vv_istore dX10_lots_125 [(4, .int v_10), (0, .ref (ad 0)), (1, .int v1), (3, .int q5), (5, .int v5)] (Nat.le_of_ble_eq_true rfl) rfl 127 rfl ?_
      refine vv_iinc dX10_lots_127 (v5 + 1) 4 [(5, .int (v5 + 1)), (4, .int v_10), (0, .ref (ad 0)), (1, .int v1), (3, .int q5)] rfl rfl (Nat.le_of_ble_eq_true rfl) rfl 130 rfl ?_
      refine vv_goto dX10_lots_130 44 rfl ?_
      refine vv_sub [2, 3, 4, 1, 0] [(0, .ref (ad 0)), (1, .int v1), (3, .int q5), (4, .int v_10), (5, .int (v5 + 1))] rfl ?_
      exact ih hf
set_option maxRecDepth 100000 in
set_option maxHeartbeats 4000000 in
theorem c_X10_lots {g : ob_GT} {ad : Nat → Nat} {r : Int32} {σ' : ob_St} {σ : ob_St} {p1 : Int32} {p2 : Int32} (hf : f_X10_lots σ p1 p2 = some (r, σ')) : ob_CT g (ob_X ad) mi_X10_lots [.ref (ad 0), .int p1, .int p2] σ (some (.int r)) σ' := by
  refine ob_ct (by decide +kernel) rfl (Nat.le_of_ble_eq_true rfl) ?_
  show ob_V g (ob_X ad) mi_X10_lots (some (.int r)) σ' σ 0 [(0, .ref (ad 0)), (1, .int p1), (2, .int p2)] []
  refine vv_iload_n dX10_lots_0 1 rfl rfl 1 rfl ?_
  refine vv_iconst dX10_lots_1 1 rfl 2 rfl ?_
  refine vv_icmp_ge dX10_lots_2 12 5 rfl rfl hf (fun hf => ?_) (fun hf => ?_)
  · refine vv_iload_n dX10_lots_12 1 rfl rfl 13 rfl ?_
    refine vv_bipush dX10_lots_13 20 rfl 15 rfl ?_
    refine vv_icmp_le dX10_lots_15 25 18 rfl rfl hf (fun hf => ?_) (fun hf => ?_)
    · refine vv_aload_n dX10_lots_25 0 rfl rfl 26 rfl ?_
      refine vv_getR dX10_lots_26 1 gf_X10_lots_16 ob_l0 rfl rfl 29 rfl ?_
      refine vv_aload_n dX10_lots_29 0 rfl rfl 30 rfl ?_
      refine vv_getR dX10_lots_30 0 gf_X10_lots_10 ob_l0 rfl rfl 33 rfl ?_
      refine vv_callVu [.ref (ad 1)] [] (fun _ _ h => c_X3_takeOver (Or.inr (Or.inl rfl)) (Or.inl rfl) h) (ob_rec ob_l10 rfl rfl) cv_X10_lots_188 rfl (Nat.le_of_ble_eq_true rfl) 36 rfl dX10_lots_33 rfl hf (fun _ σ2 hf => ?_)
      refine vv_iload_n dX10_lots_36 2 rfl rfl 37 rfl ?_
      refine vv_istore_n dX10_lots_37 [(3, .int p2), (0, .ref (ad 0)), (1, .int p1), (2, .int p2)] rfl (Nat.le_of_ble_eq_true rfl) rfl 38 rfl ?_
      refine vv_iconst dX10_lots_38 0 rfl 39 rfl ?_
      refine vv_istore dX10_lots_39 [(4, .int 0), (3, .int p2), (0, .ref (ad 0)), (1, .int p1), (2, .int p2)] (Nat.le_of_ble_eq_true rfl) rfl 41 rfl ?_
      refine vv_iconst dX10_lots_41 0 rfl 42 rfl ?_
      refine vv_istore dX10_lots_42 [(5, .int 0), (4, .int 0), (3, .int p2), (0, .ref (ad 0)), (1, .int p1), (2, .int p2)] (Nat.le_of_ble_eq_true rfl) rfl 44 rfl ?_
      refine vv_sub [3, 4, 2, 1, 0] [(0, .ref (ad 0)), (1, .int p1), (3, .int p2), (4, .int 0), (5, .int 0)] rfl ?_
      exact l_X10_lots_44 1000 hf
    · refine vv_aload_n dX10_lots_18 0 rfl rfl 19 rfl ?_
      refine vv_bipush dX10_lots_19 (-6) rfl 21 rfl ?_
      refine vv_callV [.int (-6)] [] (fun _ _ h => c_X10_refuse h) (ob_rec ob_l0 rfl rfl) cv_X10_lots_53 rfl (Nat.le_of_ble_eq_true rfl) 24 rfl dX10_lots_21 rfl hf (fun r11 σ12 hf => ?_)
      exact vv_ireti rfl dX10_lots_24 hf
  · refine vv_aload_n dX10_lots_5 0 rfl rfl 6 rfl ?_
    refine vv_bipush dX10_lots_6 (-4) rfl 8 rfl ?_
    refine vv_callV [.int (-4)] [] (fun _ _ h => c_X10_refuse h) (ob_rec ob_l0 rfl rfl) cv_X10_lots_53 rfl (Nat.le_of_ble_eq_true rfl) 11 rfl dX10_lots_8 rfl hf (fun r13 σ14 hf => ?_)
    exact vv_ireti rfl dX10_lots_11 hf
abbrev mi_X10_image : ob_MI := (yX10_image, ob_ws yX10_image cX10_image 1 (some .int), cX10_image, 1, (some .int), { frames := 2, cells := 0, slots := 0, locals := 81 })
theorem gf_X10_image_19 : ob_GF mi_X10_image 19 10 2 := ⟨RX10, TX10, 11, rfl, by decide, fun x h => List.mem_cons_of_mem _ (uw_X10 x h), List.mem_cons_of_mem _ tw_247⟩
theorem gf_X10_image_10 : ob_GF mi_X10_image 10 10 0 := ⟨RX10, TX10, 11, rfl, by decide, fun x h => List.mem_cons_of_mem _ (uw_X10 x h), List.mem_cons_of_mem _ tw_245⟩
theorem cv_X10_image_188 : ob_CV mi_X10_image mi_X3_takeOver 188 RX3 1 := ob_cvI rfl rfl tw_427 tw_428 tw_429 tw_49 tw_430 ⟨rfl, rfl⟩ ⟨rfl, by decide +kernel, by decide +kernel, by decide +kernel⟩ ⟨Nat.le_of_ble_eq_true rfl, Nat.le_of_ble_eq_true rfl⟩
theorem pf_X10_image_195 : ob_PF mi_X10_image 195 10 3 .boolean := ⟨RX10, TX10, 11, tyX10, rfl, by decide, fun x h => List.mem_cons_of_mem _ (uw_X10 x h), List.mem_cons_of_mem _ tw_248, tyX10_ok, nmX10, rfl, by decide +kernel⟩
theorem gf_X10_image_156 : ob_GF mi_X10_image 156 3 0 := ⟨RX3, TX3, 9, rfl, by decide, fun x h => List.mem_cons_of_mem _ (uw_X3 x h), List.mem_cons_of_mem _ tw_83⟩
noncomputable def f_X10_image (σ : ob_St) : Option (Int32 × ob_St) :=
  ob_bd (f_X3_takeOver 19 1 σ) fun _ σ2 =>
  ob_pf σ2 0 3 1 fun σ3 =>
  some ((σ3 1 0), σ3)
set_option maxRecDepth 100000 in
set_option maxHeartbeats 4000000 in
theorem c_X10_image {g : ob_GT} {ad : Nat → Nat} {r : Int32} {σ' : ob_St} {σ : ob_St} (hf : f_X10_image σ = some (r, σ')) : ob_CT g (ob_X ad) mi_X10_image [.ref (ad 0)] σ (some (.int r)) σ' := by
  refine ob_ct (by decide +kernel) rfl (Nat.le_of_ble_eq_true rfl) ?_
  show ob_V g (ob_X ad) mi_X10_image (some (.int r)) σ' σ 0 [(0, .ref (ad 0))] []
  refine vv_aload_n dX10_image_0 0 rfl rfl 1 rfl ?_
  refine vv_getR dX10_image_1 2 gf_X10_image_19 ob_l0 rfl rfl 4 rfl ?_
  refine vv_aload_n dX10_image_4 0 rfl rfl 5 rfl ?_
  refine vv_getR dX10_image_5 0 gf_X10_image_10 ob_l0 rfl rfl 8 rfl ?_
  refine vv_callVu [.ref (ad 1)] [] (fun _ _ h => c_X3_takeOver (Or.inr (Or.inr rfl)) (Or.inl rfl) h) (ob_rec ob_l19 rfl rfl) cv_X10_image_188 rfl (Nat.le_of_ble_eq_true rfl) 11 rfl dX10_image_8 rfl hf (fun _ σ2 hf => ?_)
  refine vv_aload_n dX10_image_11 0 rfl rfl 12 rfl ?_
  refine vv_iconst dX10_image_12 1 rfl 13 rfl ?_
  refine vv_putI dX10_image_13 3 pf_X10_image_195 ob_l0 rfl rfl ⟨rfl, rfl⟩ 16 rfl hf (fun σ3 hf => ?_)
  refine vv_aload_n dX10_image_16 0 rfl rfl 17 rfl ?_
  refine vv_getR dX10_image_17 0 gf_X10_image_10 ob_l0 rfl rfl 20 rfl ?_
  refine vv_getI dX10_image_20 0 gf_X10_image_156 ob_l1 rfl rfl 23 rfl ?_
  exact vv_ireti rfl dX10_image_23 hf
abbrev mi_X10_on : ob_MI := (yX10_on, ob_ws yX10_on cX10_on 1 (some .int), cX10_on, 1, (some .int), { frames := 2, cells := 0, slots := 0, locals := 81 })
theorem gf_X10_on_195 : ob_GF mi_X10_on 195 10 3 := ⟨RX10, TX10, 11, rfl, by decide, fun x h => List.mem_cons_of_mem _ (uw_X10 x h), List.mem_cons_of_mem _ tw_248⟩
theorem gf_X10_on_10 : ob_GF mi_X10_on 10 10 0 := ⟨RX10, TX10, 11, rfl, by decide, fun x h => List.mem_cons_of_mem _ (uw_X10 x h), List.mem_cons_of_mem _ tw_245⟩
theorem gf_X10_on_19 : ob_GF mi_X10_on 19 10 2 := ⟨RX10, TX10, 11, rfl, by decide, fun x h => List.mem_cons_of_mem _ (uw_X10 x h), List.mem_cons_of_mem _ tw_247⟩
theorem cv_X10_on_188 : ob_CV mi_X10_on mi_X3_takeOver 188 RX3 1 := ob_cvI rfl rfl tw_427 tw_428 tw_429 tw_49 tw_430 ⟨rfl, rfl⟩ ⟨rfl, by decide +kernel, by decide +kernel, by decide +kernel⟩ ⟨Nat.le_of_ble_eq_true rfl, Nat.le_of_ble_eq_true rfl⟩
theorem gf_X10_on_156 : ob_GF mi_X10_on 156 3 0 := ⟨RX3, TX3, 9, rfl, by decide, fun x h => List.mem_cons_of_mem _ (uw_X3 x h), List.mem_cons_of_mem _ tw_83⟩
theorem cv_X10_on_53 : ob_CV mi_X10_on mi_X10_refuse 53 RX10 1 := ob_cvI rfl rfl tw_283 tw_285 tw_0 tw_48 tw_286 ⟨rfl, rfl⟩ ⟨rfl, by decide +kernel, by decide +kernel, by decide +kernel⟩ ⟨Nat.le_of_ble_eq_true rfl, Nat.le_of_ble_eq_true rfl⟩
noncomputable def f_X10_on (σ : ob_St) : Option (Int32 × ob_St) :=
  if (σ 0 3) = 0 then
    ob_bd (f_X10_refuse σ (-3)) fun r3 σ4 =>
    some (r3, σ4)
  else
    ob_bd (f_X3_takeOver 1 19 σ) fun _ σ2 =>
    some ((σ2 1 0), σ2)
set_option maxRecDepth 100000 in
set_option maxHeartbeats 4000000 in
theorem c_X10_on {g : ob_GT} {ad : Nat → Nat} {r : Int32} {σ' : ob_St} {σ : ob_St} (hf : f_X10_on σ = some (r, σ')) : ob_CT g (ob_X ad) mi_X10_on [.ref (ad 0)] σ (some (.int r)) σ' := by
  refine ob_ct (by decide +kernel) rfl (Nat.le_of_ble_eq_true rfl) ?_
  show ob_V g (ob_X ad) mi_X10_on (some (.int r)) σ' σ 0 [(0, .ref (ad 0))] []
  refine vv_aload_n dX10_on_0 0 rfl rfl 1 rfl ?_
  refine vv_getI dX10_on_1 3 gf_X10_on_195 ob_l0 rfl rfl 4 rfl ?_
  refine vv_if_ne dX10_on_4 14 7 rfl rfl hf (fun hf => ?_) (fun hf => ?_)
  · refine vv_aload_n dX10_on_14 0 rfl rfl 15 rfl ?_
    refine vv_getR dX10_on_15 0 gf_X10_on_10 ob_l0 rfl rfl 18 rfl ?_
    refine vv_aload_n dX10_on_18 0 rfl rfl 19 rfl ?_
    refine vv_getR dX10_on_19 2 gf_X10_on_19 ob_l0 rfl rfl 22 rfl ?_
    refine vv_callVu [.ref (ad 19)] [] (fun _ _ h => c_X3_takeOver (Or.inl rfl) (Or.inr (Or.inr rfl)) h) (ob_rec ob_l1 rfl rfl) cv_X10_on_188 rfl (Nat.le_of_ble_eq_true rfl) 25 rfl dX10_on_22 rfl hf (fun _ σ2 hf => ?_)
    refine vv_aload_n dX10_on_25 0 rfl rfl 26 rfl ?_
    refine vv_getR dX10_on_26 0 gf_X10_on_10 ob_l0 rfl rfl 29 rfl ?_
    refine vv_getI dX10_on_29 0 gf_X10_on_156 ob_l1 rfl rfl 32 rfl ?_
    exact vv_ireti rfl dX10_on_32 hf
  · refine vv_aload_n dX10_on_7 0 rfl rfl 8 rfl ?_
    refine vv_bipush dX10_on_8 (-3) rfl 10 rfl ?_
    refine vv_callV [.int (-3)] [] (fun _ _ h => c_X10_refuse h) (ob_rec ob_l0 rfl rfl) cv_X10_on_53 rfl (Nat.le_of_ble_eq_true rfl) 13 rfl dX10_on_10 rfl hf (fun r3 σ4 hf => ?_)
    exact vv_ireti rfl dX10_on_13 hf
abbrev mi_X10_count : ob_MI := (yX10_count, ob_ws yX10_count cX10_count 2 (some .int), cX10_count, 2, (some .int), { frames := 1, cells := 0, slots := 0, locals := 23 })
theorem gf_X10_count_10 : ob_GF mi_X10_count 10 10 0 := ⟨RX10, TX10, 11, rfl, by decide, fun x h => List.mem_cons_of_mem _ (uw_X10 x h), List.mem_cons_of_mem _ tw_245⟩
theorem gf_X10_count_156 : ob_GF mi_X10_count 156 3 0 := ⟨RX3, TX3, 9, rfl, by decide, fun x h => List.mem_cons_of_mem _ (uw_X3 x h), List.mem_cons_of_mem _ tw_83⟩
theorem gf_X10_count_75 : ob_GF mi_X10_count 75 3 2 := ⟨RX3, TX3, 9, rfl, by decide, fun x h => List.mem_cons_of_mem _ (uw_X3 x h), List.mem_cons_of_mem _ tw_89⟩
theorem cv_X10_count_199 : ob_CV mi_X10_count mi_X3_sumOf 199 RX3 1 := ob_cvI rfl rfl tw_751 tw_629 tw_630 tw_49 tw_631 ⟨rfl, rfl⟩ ⟨rfl, by decide +kernel, by decide +kernel, by decide +kernel⟩ ⟨Nat.le_of_ble_eq_true rfl, Nat.le_of_ble_eq_true rfl⟩
theorem gf_X10_count_81 : ob_GF mi_X10_count 81 3 4 := ⟨RX3, TX3, 9, rfl, by decide, fun x h => List.mem_cons_of_mem _ (uw_X3 x h), List.mem_cons_of_mem _ tw_94⟩
theorem gf_X10_count_107 : ob_GF mi_X10_count 107 3 8 := ⟨RX3, TX3, 9, rfl, by decide, fun x h => List.mem_cons_of_mem _ (uw_X3 x h), List.mem_cons_of_mem _ tw_105⟩
theorem gf_X10_count_178 : ob_GF mi_X10_count 178 10 9 := ⟨RX10, TX10, 11, rfl, by decide, fun x h => List.mem_cons_of_mem _ (uw_X10 x h), List.mem_cons_of_mem _ tw_254⟩
theorem gf_X10_count_25 : ob_GF mi_X10_count 25 10 4 := ⟨RX10, TX10, 11, rfl, by decide, fun x h => List.mem_cons_of_mem _ (uw_X10 x h), List.mem_cons_of_mem _ tw_249⟩
theorem gf_X10_count_57 : ob_GF mi_X10_count 57 9 1 := ⟨RX9, TX9, 2, rfl, by decide, fun x h => List.mem_cons_of_mem _ (uw_X9 x h), List.mem_cons_of_mem _ tw_134⟩
theorem gf_X10_count_50 : ob_GF mi_X10_count 50 10 10 := ⟨RX10, TX10, 11, rfl, by decide, fun x h => List.mem_cons_of_mem _ (uw_X10 x h), List.mem_cons_of_mem _ tw_255⟩
noncomputable def f_X10_count (σ : ob_St) (p1 : Int32) : Option (Int32 × ob_St) :=
  if p1 = 0 then
    some ((σ 1 0), σ)
  else
  if p1 = 1 then
    ob_bd (f_X3_sumOf 1 3 σ) fun r1 σ2 =>
    some (r1, σ2)
  else
  if p1 = 2 then
    ob_bd (f_X3_sumOf 1 5 σ) fun r3 σ4 =>
    some (r3, σ4)
  else
  if p1 = 3 then
    ob_ld σ 9 6 0 fun v_5 =>
    some (v_5, σ)
  else
  if p1 = 4 then
    ob_ld σ 9 6 2 fun v_6 =>
    some (v_6, σ)
  else
  if p1 = 5 then
    ob_ld σ 9 6 3 fun v_7 =>
    some (v_7, σ)
  else
  if p1 = 6 then
    ob_ld σ 9 6 4 fun v_8 =>
    some (v_8, σ)
  else
  if p1 = 7 then
    ob_ld σ 9 6 5 fun v_9 =>
    some (v_9, σ)
  else
  if p1 = 8 then
    some ((σ 0 9), σ)
  else
  if p1 = 9 then
    some ((σ 28 1), σ)
  else
    if p1 < 11 then
      some ((-9), σ)
    else
      if (16 : Int32) < p1 then
        some ((-9), σ)
      else
        ob_ld σ 51 6 (p1 - 11) fun v_10 =>
        some (v_10, σ)
set_option maxRecDepth 100000 in
set_option maxHeartbeats 4000000 in
theorem c_X10_count {g : ob_GT} {ad : Nat → Nat} {r : Int32} {σ' : ob_St} {σ : ob_St} {p1 : Int32} (hf : f_X10_count σ p1 = some (r, σ')) : ob_CT g (ob_X ad) mi_X10_count [.ref (ad 0), .int p1] σ (some (.int r)) σ' := by
  refine ob_ct (by decide +kernel) rfl (Nat.le_of_ble_eq_true rfl) ?_
  show ob_V g (ob_X ad) mi_X10_count (some (.int r)) σ' σ 0 [(0, .ref (ad 0)), (1, .int p1)] []
  refine vv_iload_n dX10_count_0 1 rfl rfl 1 rfl ?_
  refine vv_case 0 hf (fun hf => ?_) (fun nh0 hf => ?_)
  · refine vv_tabIn dX10_count_1 56 (by decide) (by decide) rfl rfl ?_
    refine vv_aload_n dX10_count_56 0 rfl rfl 57 rfl ?_
    refine vv_getR dX10_count_57 0 gf_X10_count_10 ob_l0 rfl rfl 60 rfl ?_
    refine vv_getI dX10_count_60 0 gf_X10_count_156 ob_l1 rfl rfl 63 rfl ?_
    exact vv_ireti rfl dX10_count_63 hf
  refine vv_case 1 hf (fun hf => ?_) (fun nh1 hf => ?_)
  · refine vv_tabIn dX10_count_1 64 (by decide) (by decide) rfl rfl ?_
    refine vv_aload_n dX10_count_64 0 rfl rfl 65 rfl ?_
    refine vv_getR dX10_count_65 0 gf_X10_count_10 ob_l0 rfl rfl 68 rfl ?_
    refine vv_aload_n dX10_count_68 0 rfl rfl 69 rfl ?_
    refine vv_getR dX10_count_69 0 gf_X10_count_10 ob_l0 rfl rfl 72 rfl ?_
    refine vv_getR dX10_count_72 2 gf_X10_count_75 ob_l1 rfl rfl 75 rfl ?_
    refine vv_callV [.ref (ad 3)] [] (fun _ _ h => c_X3_sumOf (Or.inl rfl) ⟨ob_l3, rfl⟩ h) (ob_rec ob_l1 rfl rfl) cv_X10_count_199 rfl (Nat.le_of_ble_eq_true rfl) 78 rfl dX10_count_75 rfl hf (fun r1 σ2 hf => ?_)
    exact vv_ireti rfl dX10_count_78 hf
  refine vv_case 2 hf (fun hf => ?_) (fun nh2 hf => ?_)
  · refine vv_tabIn dX10_count_1 79 (by decide) (by decide) rfl rfl ?_
    refine vv_aload_n dX10_count_79 0 rfl rfl 80 rfl ?_
    refine vv_getR dX10_count_80 0 gf_X10_count_10 ob_l0 rfl rfl 83 rfl ?_
    refine vv_aload_n dX10_count_83 0 rfl rfl 84 rfl ?_
    refine vv_getR dX10_count_84 0 gf_X10_count_10 ob_l0 rfl rfl 87 rfl ?_
    refine vv_getR dX10_count_87 4 gf_X10_count_81 ob_l1 rfl rfl 90 rfl ?_
    refine vv_callV [.ref (ad 5)] [] (fun _ _ h => c_X3_sumOf (Or.inl rfl) ⟨ob_l5, rfl⟩ h) (ob_rec ob_l1 rfl rfl) cv_X10_count_199 rfl (Nat.le_of_ble_eq_true rfl) 93 rfl dX10_count_90 rfl hf (fun r3 σ4 hf => ?_)
    exact vv_ireti rfl dX10_count_93 hf
  refine vv_case 3 hf (fun hf => ?_) (fun nh3 hf => ?_)
  · refine vv_tabIn dX10_count_1 94 (by decide) (by decide) rfl rfl ?_
    refine vv_aload_n dX10_count_94 0 rfl rfl 95 rfl ?_
    refine vv_getR dX10_count_95 0 gf_X10_count_10 ob_l0 rfl rfl 98 rfl ?_
    refine vv_getR dX10_count_98 8 gf_X10_count_107 ob_l1 rfl rfl 101 rfl ?_
    refine vv_iconst dX10_count_101 0 rfl 102 rfl ?_
    refine vv_iald dX10_count_102 ob_l9 rfl 103 rfl hf (fun v_5 hf => ?_)
    exact vv_ireti rfl dX10_count_103 hf
  refine vv_case 4 hf (fun hf => ?_) (fun nh4 hf => ?_)
  · refine vv_tabIn dX10_count_1 104 (by decide) (by decide) rfl rfl ?_
    refine vv_aload_n dX10_count_104 0 rfl rfl 105 rfl ?_
    refine vv_getR dX10_count_105 0 gf_X10_count_10 ob_l0 rfl rfl 108 rfl ?_
    refine vv_getR dX10_count_108 8 gf_X10_count_107 ob_l1 rfl rfl 111 rfl ?_
    refine vv_iconst dX10_count_111 2 rfl 112 rfl ?_
    refine vv_iald dX10_count_112 ob_l9 rfl 113 rfl hf (fun v_6 hf => ?_)
    exact vv_ireti rfl dX10_count_113 hf
  refine vv_case 5 hf (fun hf => ?_) (fun nh5 hf => ?_)
  · refine vv_tabIn dX10_count_1 114 (by decide) (by decide) rfl rfl ?_
    refine vv_aload_n dX10_count_114 0 rfl rfl 115 rfl ?_
    refine vv_getR dX10_count_115 0 gf_X10_count_10 ob_l0 rfl rfl 118 rfl ?_
    refine vv_getR dX10_count_118 8 gf_X10_count_107 ob_l1 rfl rfl 121 rfl ?_
    refine vv_iconst dX10_count_121 3 rfl 122 rfl ?_
    refine vv_iald dX10_count_122 ob_l9 rfl 123 rfl hf (fun v_7 hf => ?_)
    exact vv_ireti rfl dX10_count_123 hf
  refine vv_case 6 hf (fun hf => ?_) (fun nh6 hf => ?_)
  · refine vv_tabIn dX10_count_1 124 (by decide) (by decide) rfl rfl ?_
    refine vv_aload_n dX10_count_124 0 rfl rfl 125 rfl ?_
    refine vv_getR dX10_count_125 0 gf_X10_count_10 ob_l0 rfl rfl 128 rfl ?_
    refine vv_getR dX10_count_128 8 gf_X10_count_107 ob_l1 rfl rfl 131 rfl ?_
    refine vv_iconst dX10_count_131 4 rfl 132 rfl ?_
    refine vv_iald dX10_count_132 ob_l9 rfl 133 rfl hf (fun v_8 hf => ?_)
    exact vv_ireti rfl dX10_count_133 hf
  refine vv_case 7 hf (fun hf => ?_) (fun nh7 hf => ?_)
  · refine vv_tabIn dX10_count_1 134 (by decide) (by decide) rfl rfl ?_
    refine vv_aload_n dX10_count_134 0 rfl rfl 135 rfl ?_
    refine vv_getR dX10_count_135 0 gf_X10_count_10 ob_l0 rfl rfl 138 rfl ?_
    refine vv_getR dX10_count_138 8 gf_X10_count_107 ob_l1 rfl rfl 141 rfl ?_
    refine vv_iconst dX10_count_141 5 rfl 142 rfl ?_
    refine vv_iald dX10_count_142 ob_l9 rfl 143 rfl hf (fun v_9 hf => ?_)
    exact vv_ireti rfl dX10_count_143 hf
  refine vv_case 8 hf (fun hf => ?_) (fun nh8 hf => ?_)
  · refine vv_tabIn dX10_count_1 144 (by decide) (by decide) rfl rfl ?_
    refine vv_aload_n dX10_count_144 0 rfl rfl 145 rfl ?_
    refine vv_getI dX10_count_145 9 gf_X10_count_178 ob_l0 rfl rfl 148 rfl ?_
    exact vv_ireti rfl dX10_count_148 hf
  refine vv_case 9 hf (fun hf => ?_) (fun nh9 hf => ?_)
  · refine vv_tabIn dX10_count_1 149 (by decide) (by decide) rfl rfl ?_
    refine vv_aload_n dX10_count_149 0 rfl rfl 150 rfl ?_
    refine vv_getR dX10_count_150 4 gf_X10_count_25 ob_l0 rfl rfl 153 rfl ?_
    refine vv_getI dX10_count_153 1 gf_X10_count_57 ob_l28 rfl rfl 156 rfl ?_
    exact vv_ireti rfl dX10_count_156 hf
  refine vv_tabOut dX10_count_1 157 (by have z0 := ob_neI nh0 (a := 0) rfl; have z1 := ob_neI nh1 (a := 1) rfl; have z2 := ob_neI nh2 (a := 2) rfl; have z3 := ob_neI nh3 (a := 3) rfl; have z4 := ob_neI nh4 (a := 4) rfl; have z5 := ob_neI nh5 (a := 5) rfl; have z6 := ob_neI nh6 (a := 6) rfl; have z7 := ob_neI nh7 (a := 7) rfl; have z8 := ob_neI nh8 (a := 8) rfl; have z9 := ob_neI nh9 (a := 9) rfl; omega) rfl ?_
  refine vv_iload_n dX10_count_157 1 rfl rfl 158 rfl ?_
  refine vv_bipush dX10_count_158 11 rfl 160 rfl ?_
  refine vv_icmp_lt dX10_count_160 181 163 rfl rfl hf (fun hf => ?_) (fun hf => ?_)
  · refine vv_bipush dX10_count_181 (-9) rfl 183 rfl ?_
    exact vv_ireti rfl dX10_count_183 hf
  · refine vv_iload_n dX10_count_163 1 rfl rfl 164 rfl ?_
    refine vv_bipush dX10_count_164 16 rfl 166 rfl ?_
    refine vv_icmp_gt dX10_count_166 181 169 rfl rfl hf (fun hf => ?_) (fun hf => ?_)
    · refine vv_bipush dX10_count_181 (-9) rfl 183 rfl ?_
      exact vv_ireti rfl dX10_count_183 hf
    · refine vv_aload_n dX10_count_169 0 rfl rfl 170 rfl ?_
      refine vv_getR dX10_count_170 10 gf_X10_count_50 ob_l0 rfl rfl 173 rfl ?_
      refine vv_iload_n dX10_count_173 1 rfl rfl 174 rfl ?_
      refine vv_bipush dX10_count_174 11 rfl 176 rfl ?_
      refine vv_isub dX10_count_176 177 rfl ?_
      refine vv_iald dX10_count_177 ob_l51 rfl 178 rfl hf (fun v_10 hf => ?_)
      refine vv_goto dX10_count_178 183 rfl ?_
      exact vv_ireti rfl dX10_count_183 hf
