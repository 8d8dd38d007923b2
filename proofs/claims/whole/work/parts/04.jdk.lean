theorem dJ0_length_8abf5_0 : decode cJ0_length_8abf5 0 = .ok (.aload_n 0, 1) := by decide +kernel
theorem dJ0_length_8abf5_1 : decode cJ0_length_8abf5 1 = .ok (.getfield 9, 3) := by decide +kernel
theorem dJ0_length_8abf5_4 : decode cJ0_length_8abf5 4 = .ok (.arraylength, 1) := by decide +kernel
theorem dJ0_length_8abf5_5 : decode cJ0_length_8abf5 5 = .ok (.aload_n 0, 1) := by decide +kernel
theorem dJ0_length_8abf5_6 : decode cJ0_length_8abf5 6 = .ok (.invokevirtual 335, 3) := by decide +kernel
theorem dJ0_length_8abf5_9 : decode cJ0_length_8abf5 9 = .ok (.ishr, 1) := by decide +kernel
theorem dJ0_length_8abf5_10 : decode cJ0_length_8abf5 10 = .ok (.ireturn, 1) := by decide +kernel
theorem dJ0_isEmpty_aae02_0 : decode cJ0_isEmpty_aae02 0 = .ok (.aload_n 0, 1) := by decide +kernel
theorem dJ0_isEmpty_aae02_1 : decode cJ0_isEmpty_aae02 1 = .ok (.getfield 9, 3) := by decide +kernel
theorem dJ0_isEmpty_aae02_4 : decode cJ0_isEmpty_aae02 4 = .ok (.arraylength, 1) := by decide +kernel
theorem dJ0_isEmpty_aae02_5 : decode cJ0_isEmpty_aae02 5 = .ok (.ifCond .ne 7, 3) := by decide +kernel
theorem dJ0_isEmpty_aae02_8 : decode cJ0_isEmpty_aae02 8 = .ok (.iconst 1, 1) := by decide +kernel
theorem dJ0_isEmpty_aae02_9 : decode cJ0_isEmpty_aae02 9 = .ok (.goto 4, 3) := by decide +kernel
theorem dJ0_isEmpty_aae02_12 : decode cJ0_isEmpty_aae02 12 = .ok (.iconst 0, 1) := by decide +kernel
theorem dJ0_isEmpty_aae02_13 : decode cJ0_isEmpty_aae02 13 = .ok (.ireturn, 1) := by decide +kernel
theorem dJ0_charAt_5068e_0 : decode cJ0_charAt_5068e 0 = .ok (.aload_n 0, 1) := by decide +kernel
theorem dJ0_charAt_5068e_1 : decode cJ0_charAt_5068e 1 = .ok (.invokevirtual 492, 3) := by decide +kernel
theorem dJ0_charAt_5068e_4 : decode cJ0_charAt_5068e 4 = .ok (.ifCond .eq 12, 3) := by decide +kernel
theorem dJ0_charAt_5068e_7 : decode cJ0_charAt_5068e 7 = .ok (.aload_n 0, 1) := by decide +kernel
theorem dJ0_charAt_5068e_8 : decode cJ0_charAt_5068e 8 = .ok (.getfield 9, 3) := by decide +kernel
theorem dJ0_charAt_5068e_11 : decode cJ0_charAt_5068e 11 = .ok (.iload_n 1, 1) := by decide +kernel
theorem dJ0_charAt_5068e_12 : decode cJ0_charAt_5068e 12 = .ok (.invokestatic 495, 3) := by decide +kernel
theorem dJ0_charAt_5068e_15 : decode cJ0_charAt_5068e 15 = .ok (.ireturn, 1) := by decide +kernel
theorem dJ0_charAt_5068e_16 : decode cJ0_charAt_5068e 16 = .ok (.aload_n 0, 1) := by decide +kernel
theorem dJ0_charAt_5068e_17 : decode cJ0_charAt_5068e 17 = .ok (.getfield 9, 3) := by decide +kernel
theorem dJ0_charAt_5068e_20 : decode cJ0_charAt_5068e 20 = .ok (.iload_n 1, 1) := by decide +kernel
theorem dJ0_charAt_5068e_21 : decode cJ0_charAt_5068e 21 = .ok (.invokestatic 498, 3) := by decide +kernel
theorem dJ0_charAt_5068e_24 : decode cJ0_charAt_5068e 24 = .ok (.ireturn, 1) := by decide +kernel
theorem dJ0_indexOf_0f7a4_0 : decode cJ0_indexOf_0f7a4 0 = .ok (.aload_n 0, 1) := by decide +kernel
theorem dJ0_indexOf_0f7a4_1 : decode cJ0_indexOf_0f7a4 1 = .ok (.iload_n 1, 1) := by decide +kernel
theorem dJ0_indexOf_0f7a4_2 : decode cJ0_indexOf_0f7a4 2 = .ok (.iconst 0, 1) := by decide +kernel
theorem dJ0_indexOf_0f7a4_3 : decode cJ0_indexOf_0f7a4 3 = .ok (.invokevirtual 633, 3) := by decide +kernel
theorem dJ0_indexOf_0f7a4_6 : decode cJ0_indexOf_0f7a4 6 = .ok (.ireturn, 1) := by decide +kernel
theorem dJ0_indexOf_7cf53_0 : decode cJ0_indexOf_7cf53 0 = .ok (.aload_n 0, 1) := by decide +kernel
theorem dJ0_indexOf_7cf53_1 : decode cJ0_indexOf_7cf53 1 = .ok (.invokevirtual 492, 3) := by decide +kernel
theorem dJ0_indexOf_7cf53_4 : decode cJ0_indexOf_7cf53 4 = .ok (.ifCond .eq 19, 3) := by decide +kernel
theorem dJ0_indexOf_7cf53_7 : decode cJ0_indexOf_7cf53 7 = .ok (.aload_n 0, 1) := by decide +kernel
theorem dJ0_indexOf_7cf53_8 : decode cJ0_indexOf_7cf53 8 = .ok (.getfield 9, 3) := by decide +kernel
theorem dJ0_indexOf_7cf53_11 : decode cJ0_indexOf_7cf53 11 = .ok (.iload_n 1, 1) := by decide +kernel
theorem dJ0_indexOf_7cf53_12 : decode cJ0_indexOf_7cf53 12 = .ok (.iload_n 2, 1) := by decide +kernel
theorem dJ0_indexOf_7cf53_13 : decode cJ0_indexOf_7cf53 13 = .ok (.aload_n 0, 1) := by decide +kernel
theorem dJ0_indexOf_7cf53_14 : decode cJ0_indexOf_7cf53 14 = .ok (.invokevirtual 505, 3) := by decide +kernel
theorem dJ0_indexOf_7cf53_17 : decode cJ0_indexOf_7cf53 17 = .ok (.invokestatic 637, 3) := by decide +kernel
theorem dJ0_indexOf_7cf53_20 : decode cJ0_indexOf_7cf53 20 = .ok (.goto 16, 3) := by decide +kernel
theorem dJ0_indexOf_7cf53_23 : decode cJ0_indexOf_7cf53 23 = .ok (.aload_n 0, 1) := by decide +kernel
theorem dJ0_indexOf_7cf53_24 : decode cJ0_indexOf_7cf53 24 = .ok (.getfield 9, 3) := by decide +kernel
theorem dJ0_indexOf_7cf53_27 : decode cJ0_indexOf_7cf53 27 = .ok (.iload_n 1, 1) := by decide +kernel
theorem dJ0_indexOf_7cf53_28 : decode cJ0_indexOf_7cf53 28 = .ok (.iload_n 2, 1) := by decide +kernel
theorem dJ0_indexOf_7cf53_29 : decode cJ0_indexOf_7cf53 29 = .ok (.aload_n 0, 1) := by decide +kernel
theorem dJ0_indexOf_7cf53_30 : decode cJ0_indexOf_7cf53 30 = .ok (.invokevirtual 505, 3) := by decide +kernel
theorem dJ0_indexOf_7cf53_33 : decode cJ0_indexOf_7cf53 33 = .ok (.invokestatic 640, 3) := by decide +kernel
theorem dJ0_indexOf_7cf53_36 : decode cJ0_indexOf_7cf53 36 = .ok (.ireturn, 1) := by decide +kernel
theorem dJ0_coder_7d493_0 : decode cJ0_coder_7d493 0 = .ok (.getstatic 38, 3) := by decide +kernel
theorem dJ0_coder_7d493_3 : decode cJ0_coder_7d493 3 = .ok (.ifCond .eq 10, 3) := by decide +kernel
theorem dJ0_coder_7d493_6 : decode cJ0_coder_7d493 6 = .ok (.aload_n 0, 1) := by decide +kernel
theorem dJ0_coder_7d493_7 : decode cJ0_coder_7d493 7 = .ok (.getfield 15, 3) := by decide +kernel
theorem dJ0_coder_7d493_10 : decode cJ0_coder_7d493 10 = .ok (.goto 4, 3) := by decide +kernel
theorem dJ0_coder_7d493_13 : decode cJ0_coder_7d493 13 = .ok (.iconst 1, 1) := by decide +kernel
theorem dJ0_coder_7d493_14 : decode cJ0_coder_7d493 14 = .ok (.ireturn, 1) := by decide +kernel
theorem dJ0_isLatin1_aae02_0 : decode cJ0_isLatin1_aae02 0 = .ok (.getstatic 38, 3) := by decide +kernel
theorem dJ0_isLatin1_aae02_3 : decode cJ0_isLatin1_aae02 3 = .ok (.ifCond .eq 14, 3) := by decide +kernel
theorem dJ0_isLatin1_aae02_6 : decode cJ0_isLatin1_aae02 6 = .ok (.aload_n 0, 1) := by decide +kernel
theorem dJ0_isLatin1_aae02_7 : decode cJ0_isLatin1_aae02 7 = .ok (.getfield 15, 3) := by decide +kernel
theorem dJ0_isLatin1_aae02_10 : decode cJ0_isLatin1_aae02 10 = .ok (.ifCond .ne 7, 3) := by decide +kernel
theorem dJ0_isLatin1_aae02_13 : decode cJ0_isLatin1_aae02 13 = .ok (.iconst 1, 1) := by decide +kernel
theorem dJ0_isLatin1_aae02_14 : decode cJ0_isLatin1_aae02 14 = .ok (.goto 4, 3) := by decide +kernel
theorem dJ0_isLatin1_aae02_17 : decode cJ0_isLatin1_aae02 17 = .ok (.iconst 0, 1) := by decide +kernel
theorem dJ0_isLatin1_aae02_18 : decode cJ0_isLatin1_aae02 18 = .ok (.ireturn, 1) := by decide +kernel
theorem dJ0_checkIndex_df160_0 : decode cJ0_checkIndex_df160 0 = .ok (.iload_n 0, 1) := by decide +kernel
theorem dJ0_checkIndex_df160_1 : decode cJ0_checkIndex_df160 1 = .ok (.iload_n 1, 1) := by decide +kernel
theorem dJ0_checkIndex_df160_2 : decode cJ0_checkIndex_df160 2 = .ok (.getstatic 1053, 3) := by decide +kernel
theorem dJ0_checkIndex_df160_5 : decode cJ0_checkIndex_df160 5 = .ok (.invokestatic 1059, 3) := by decide +kernel
theorem dJ0_checkIndex_df160_8 : decode cJ0_checkIndex_df160 8 = .ok (.pop, 1) := by decide +kernel
theorem dJ0_checkIndex_df160_9 : decode cJ0_checkIndex_df160 9 = .ok (.return_, 1) := by decide +kernel
theorem dJ0_checkBoundsBeginEnd_23922_0 : decode cJ0_checkBoundsBeginEnd_23922 0 = .ok (.iload_n 0, 1) := by decide +kernel
theorem dJ0_checkBoundsBeginEnd_23922_1 : decode cJ0_checkBoundsBeginEnd_23922 1 = .ok (.iload_n 1, 1) := by decide +kernel
theorem dJ0_checkBoundsBeginEnd_23922_2 : decode cJ0_checkBoundsBeginEnd_23922 2 = .ok (.iload_n 2, 1) := by decide +kernel
theorem dJ0_checkBoundsBeginEnd_23922_3 : decode cJ0_checkBoundsBeginEnd_23922 3 = .ok (.getstatic 1053, 3) := by decide +kernel
theorem dJ0_checkBoundsBeginEnd_23922_6 : decode cJ0_checkBoundsBeginEnd_23922 6 = .ok (.invokestatic 1062, 3) := by decide +kernel
theorem dJ0_checkBoundsBeginEnd_23922_9 : decode cJ0_checkBoundsBeginEnd_23922 9 = .ok (.pop, 1) := by decide +kernel
theorem dJ0_checkBoundsBeginEnd_23922_10 : decode cJ0_checkBoundsBeginEnd_23922 10 = .ok (.return_, 1) := by decide +kernel
theorem dJ1_charAt_3b067_0 : decode cJ1_charAt_3b067 0 = .ok (.iload_n 1, 1) := by decide +kernel
theorem dJ1_charAt_3b067_1 : decode cJ1_charAt_3b067 1 = .ok (.aload_n 0, 1) := by decide +kernel
theorem dJ1_charAt_3b067_2 : decode cJ1_charAt_3b067 2 = .ok (.arraylength, 1) := by decide +kernel
theorem dJ1_charAt_3b067_3 : decode cJ1_charAt_3b067 3 = .ok (.invokestatic 9, 3) := by decide +kernel
theorem dJ1_charAt_3b067_6 : decode cJ1_charAt_3b067 6 = .ok (.aload_n 0, 1) := by decide +kernel
theorem dJ1_charAt_3b067_7 : decode cJ1_charAt_3b067 7 = .ok (.iload_n 1, 1) := by decide +kernel
theorem dJ1_charAt_3b067_8 : decode cJ1_charAt_3b067 8 = .ok (.baload, 1) := by decide +kernel
theorem dJ1_charAt_3b067_9 : decode cJ1_charAt_3b067 9 = .ok (.sipush 255, 3) := by decide +kernel
theorem dJ1_charAt_3b067_12 : decode cJ1_charAt_3b067 12 = .ok (.iand, 1) := by decide +kernel
theorem dJ1_charAt_3b067_13 : decode cJ1_charAt_3b067 13 = .ok (.i2c, 1) := by decide +kernel
theorem dJ1_charAt_3b067_14 : decode cJ1_charAt_3b067 14 = .ok (.ireturn, 1) := by decide +kernel
theorem dJ1_canEncode_9a6ad_0 : decode cJ1_canEncode_9a6ad 0 = .ok (.iload_n 0, 1) := by decide +kernel
theorem dJ1_canEncode_9a6ad_1 : decode cJ1_canEncode_9a6ad 1 = .ok (.ifCond .lt 14, 3) := by decide +kernel
theorem dJ1_canEncode_9a6ad_4 : decode cJ1_canEncode_9a6ad 4 = .ok (.iload_n 0, 1) := by decide +kernel
theorem dJ1_canEncode_9a6ad_5 : decode cJ1_canEncode_9a6ad 5 = .ok (.sipush 255, 3) := by decide +kernel
theorem dJ1_canEncode_9a6ad_8 : decode cJ1_canEncode_9a6ad 8 = .ok (.if_icmp .gt 7, 3) := by decide +kernel
theorem dJ1_canEncode_9a6ad_11 : decode cJ1_canEncode_9a6ad 11 = .ok (.iconst 1, 1) := by decide +kernel
theorem dJ1_canEncode_9a6ad_12 : decode cJ1_canEncode_9a6ad 12 = .ok (.goto 4, 3) := by decide +kernel
theorem dJ1_canEncode_9a6ad_15 : decode cJ1_canEncode_9a6ad 15 = .ok (.iconst 0, 1) := by decide +kernel
theorem dJ1_canEncode_9a6ad_16 : decode cJ1_canEncode_9a6ad 16 = .ok (.ireturn, 1) := by decide +kernel
theorem dJ1_indexOf_4cfef_0 : decode cJ1_indexOf_4cfef 0 = .ok (.iload_n 1, 1) := by decide +kernel
theorem dJ1_indexOf_4cfef_1 : decode cJ1_indexOf_4cfef 1 = .ok (.invokestatic 88, 3) := by decide +kernel
theorem dJ1_indexOf_4cfef_4 : decode cJ1_indexOf_4cfef 4 = .ok (.ifCond .ne 5, 3) := by decide +kernel
theorem dJ1_indexOf_4cfef_7 : decode cJ1_indexOf_4cfef 7 = .ok (.iconst (-1), 1) := by decide +kernel
theorem dJ1_indexOf_4cfef_8 : decode cJ1_indexOf_4cfef 8 = .ok (.ireturn, 1) := by decide +kernel
theorem dJ1_indexOf_4cfef_9 : decode cJ1_indexOf_4cfef 9 = .ok (.iload_n 2, 1) := by decide +kernel
theorem dJ1_indexOf_4cfef_10 : decode cJ1_indexOf_4cfef 10 = .ok (.iconst 0, 1) := by decide +kernel
theorem dJ1_indexOf_4cfef_11 : decode cJ1_indexOf_4cfef 11 = .ok (.invokestatic 92, 3) := by decide +kernel
theorem dJ1_indexOf_4cfef_14 : decode cJ1_indexOf_4cfef 14 = .ok (.istore_n 2, 1) := by decide +kernel
theorem dJ1_indexOf_4cfef_15 : decode cJ1_indexOf_4cfef 15 = .ok (.iload_n 3, 1) := by decide +kernel
theorem dJ1_indexOf_4cfef_16 : decode cJ1_indexOf_4cfef 16 = .ok (.aload_n 0, 1) := by decide +kernel
theorem dJ1_indexOf_4cfef_17 : decode cJ1_indexOf_4cfef 17 = .ok (.arraylength, 1) := by decide +kernel
theorem dJ1_indexOf_4cfef_18 : decode cJ1_indexOf_4cfef 18 = .ok (.invokestatic 38, 3) := by decide +kernel
theorem dJ1_indexOf_4cfef_21 : decode cJ1_indexOf_4cfef 21 = .ok (.istore_n 3, 1) := by decide +kernel
theorem dJ1_indexOf_4cfef_22 : decode cJ1_indexOf_4cfef 22 = .ok (.iload_n 2, 1) := by decide +kernel
theorem dJ1_indexOf_4cfef_23 : decode cJ1_indexOf_4cfef 23 = .ok (.iload_n 3, 1) := by decide +kernel
theorem dJ1_indexOf_4cfef_24 : decode cJ1_indexOf_4cfef 24 = .ok (.if_icmp .lt 5, 3) := by decide +kernel
theorem dJ1_indexOf_4cfef_27 : decode cJ1_indexOf_4cfef 27 = .ok (.iconst (-1), 1) := by decide +kernel
theorem dJ1_indexOf_4cfef_28 : decode cJ1_indexOf_4cfef 28 = .ok (.ireturn, 1) := by decide +kernel
theorem dJ1_indexOf_4cfef_29 : decode cJ1_indexOf_4cfef 29 = .ok (.aload_n 0, 1) := by decide +kernel
theorem dJ1_indexOf_4cfef_30 : decode cJ1_indexOf_4cfef 30 = .ok (.iload_n 1, 1) := by decide +kernel
theorem dJ1_indexOf_4cfef_31 : decode cJ1_indexOf_4cfef 31 = .ok (.iload_n 2, 1) := by decide +kernel
theorem dJ1_indexOf_4cfef_32 : decode cJ1_indexOf_4cfef 32 = .ok (.iload_n 3, 1) := by decide +kernel
theorem dJ1_indexOf_4cfef_33 : decode cJ1_indexOf_4cfef 33 = .ok (.invokestatic 95, 3) := by decide +kernel
theorem dJ1_indexOf_4cfef_36 : decode cJ1_indexOf_4cfef 36 = .ok (.ireturn, 1) := by decide +kernel
theorem dJ1_indexOfChar_4cfef_0 : decode cJ1_indexOfChar_4cfef 0 = .ok (.iload_n 1, 1) := by decide +kernel
theorem dJ1_indexOfChar_4cfef_1 : decode cJ1_indexOfChar_4cfef 1 = .ok (.i2b, 1) := by decide +kernel
theorem dJ1_indexOfChar_4cfef_2 : decode cJ1_indexOfChar_4cfef 2 = .ok (.istore 4, 2) := by decide +kernel
theorem dJ1_indexOfChar_4cfef_4 : decode cJ1_indexOfChar_4cfef 4 = .ok (.iload_n 2, 1) := by decide +kernel
theorem dJ1_indexOfChar_4cfef_5 : decode cJ1_indexOfChar_4cfef 5 = .ok (.istore 5, 2) := by decide +kernel
theorem dJ1_indexOfChar_4cfef_7 : decode cJ1_indexOfChar_4cfef 7 = .ok (.iload 5, 2) := by decide +kernel
theorem dJ1_indexOfChar_4cfef_9 : decode cJ1_indexOfChar_4cfef 9 = .ok (.iload_n 3, 1) := by decide +kernel
theorem dJ1_indexOfChar_4cfef_10 : decode cJ1_indexOfChar_4cfef 10 = .ok (.if_icmp .ge 21, 3) := by decide +kernel
theorem dJ1_indexOfChar_4cfef_13 : decode cJ1_indexOfChar_4cfef 13 = .ok (.aload_n 0, 1) := by decide +kernel
theorem dJ1_indexOfChar_4cfef_14 : decode cJ1_indexOfChar_4cfef 14 = .ok (.iload 5, 2) := by decide +kernel
theorem dJ1_indexOfChar_4cfef_16 : decode cJ1_indexOfChar_4cfef 16 = .ok (.baload, 1) := by decide +kernel
theorem dJ1_indexOfChar_4cfef_17 : decode cJ1_indexOfChar_4cfef 17 = .ok (.iload 4, 2) := by decide +kernel
theorem dJ1_indexOfChar_4cfef_19 : decode cJ1_indexOfChar_4cfef 19 = .ok (.if_icmp .ne 6, 3) := by decide +kernel
theorem dJ1_indexOfChar_4cfef_22 : decode cJ1_indexOfChar_4cfef 22 = .ok (.iload 5, 2) := by decide +kernel
theorem dJ1_indexOfChar_4cfef_24 : decode cJ1_indexOfChar_4cfef 24 = .ok (.ireturn, 1) := by decide +kernel
theorem dJ1_indexOfChar_4cfef_25 : decode cJ1_indexOfChar_4cfef 25 = .ok (.iinc 5 1, 3) := by decide +kernel
theorem dJ1_indexOfChar_4cfef_28 : decode cJ1_indexOfChar_4cfef 28 = .ok (.goto (-21), 3) := by decide +kernel
theorem dJ1_indexOfChar_4cfef_31 : decode cJ1_indexOfChar_4cfef 31 = .ok (.iconst (-1), 1) := by decide +kernel
theorem dJ1_indexOfChar_4cfef_32 : decode cJ1_indexOfChar_4cfef 32 = .ok (.ireturn, 1) := by decide +kernel
theorem dJ3_checkIndex_8e157_0 : decode cJ3_checkIndex_8e157 0 = .ok (.iload_n 0, 1) := by decide +kernel
theorem dJ3_checkIndex_8e157_1 : decode cJ3_checkIndex_8e157 1 = .ok (.ifCond .lt 8, 3) := by decide +kernel
theorem dJ3_checkIndex_8e157_4 : decode cJ3_checkIndex_8e157 4 = .ok (.iload_n 0, 1) := by decide +kernel
theorem dJ3_checkIndex_8e157_5 : decode cJ3_checkIndex_8e157 5 = .ok (.iload_n 1, 1) := by decide +kernel
theorem dJ3_checkIndex_8e157_6 : decode cJ3_checkIndex_8e157 6 = .ok (.if_icmp .lt 10, 3) := by decide +kernel
theorem dJ3_checkIndex_8e157_9 : decode cJ3_checkIndex_8e157 9 = .ok (.aload_n 2, 1) := by decide +kernel
theorem dJ3_checkIndex_8e157_10 : decode cJ3_checkIndex_8e157 10 = .ok (.iload_n 0, 1) := by decide +kernel
theorem dJ3_checkIndex_8e157_11 : decode cJ3_checkIndex_8e157 11 = .ok (.iload_n 1, 1) := by decide +kernel
theorem dJ3_checkIndex_8e157_12 : decode cJ3_checkIndex_8e157 12 = .ok (.invokestatic 95, 3) := by decide +kernel
theorem dJ3_checkIndex_8e157_15 : decode cJ3_checkIndex_8e157 15 = .ok (.athrow, 1) := by decide +kernel
theorem dJ3_checkIndex_8e157_16 : decode cJ3_checkIndex_8e157 16 = .ok (.iload_n 0, 1) := by decide +kernel
theorem dJ3_checkIndex_8e157_17 : decode cJ3_checkIndex_8e157 17 = .ok (.ireturn, 1) := by decide +kernel
theorem dJ3_checkFromToIndex_8c36e_0 : decode cJ3_checkFromToIndex_8c36e 0 = .ok (.iload_n 0, 1) := by decide +kernel
theorem dJ3_checkFromToIndex_8c36e_1 : decode cJ3_checkFromToIndex_8c36e 1 = .ok (.ifCond .lt 13, 3) := by decide +kernel
theorem dJ3_checkFromToIndex_8c36e_4 : decode cJ3_checkFromToIndex_8c36e 4 = .ok (.iload_n 0, 1) := by decide +kernel
theorem dJ3_checkFromToIndex_8c36e_5 : decode cJ3_checkFromToIndex_8c36e 5 = .ok (.iload_n 1, 1) := by decide +kernel
theorem dJ3_checkFromToIndex_8c36e_6 : decode cJ3_checkFromToIndex_8c36e 6 = .ok (.if_icmp .gt 8, 3) := by decide +kernel
theorem dJ3_checkFromToIndex_8c36e_9 : decode cJ3_checkFromToIndex_8c36e 9 = .ok (.iload_n 1, 1) := by decide +kernel
theorem dJ3_checkFromToIndex_8c36e_10 : decode cJ3_checkFromToIndex_8c36e 10 = .ok (.iload_n 2, 1) := by decide +kernel
theorem dJ3_checkFromToIndex_8c36e_11 : decode cJ3_checkFromToIndex_8c36e 11 = .ok (.if_icmp .le 11, 3) := by decide +kernel
theorem dJ3_checkFromToIndex_8c36e_14 : decode cJ3_checkFromToIndex_8c36e 14 = .ok (.aload_n 3, 1) := by decide +kernel
theorem dJ3_checkFromToIndex_8c36e_15 : decode cJ3_checkFromToIndex_8c36e 15 = .ok (.iload_n 0, 1) := by decide +kernel
theorem dJ3_checkFromToIndex_8c36e_16 : decode cJ3_checkFromToIndex_8c36e 16 = .ok (.iload_n 1, 1) := by decide +kernel
theorem dJ3_checkFromToIndex_8c36e_17 : decode cJ3_checkFromToIndex_8c36e 17 = .ok (.iload_n 2, 1) := by decide +kernel
theorem dJ3_checkFromToIndex_8c36e_18 : decode cJ3_checkFromToIndex_8c36e 18 = .ok (.invokestatic 99, 3) := by decide +kernel
theorem dJ3_checkFromToIndex_8c36e_21 : decode cJ3_checkFromToIndex_8c36e 21 = .ok (.athrow, 1) := by decide +kernel
theorem dJ3_checkFromToIndex_8c36e_22 : decode cJ3_checkFromToIndex_8c36e 22 = .ok (.iload_n 0, 1) := by decide +kernel
theorem dJ3_checkFromToIndex_8c36e_23 : decode cJ3_checkFromToIndex_8c36e 23 = .ok (.ireturn, 1) := by decide +kernel
abbrev mi_J0_isLatin1_aae02 : ob_MI := (yJ0_isLatin1_aae02, ob_ws yJ0_isLatin1_aae02 cJ0_isLatin1_aae02 1 (some .boolean), cJ0_isLatin1_aae02, 1, (some .boolean), { frames := 0, cells := 0, slots := 0, locals := 0 })
noncomputable def f_J0_isLatin1_aae02 (i : Nat) (σ : ob_St) : Option (Int32 × ob_St) :=
  if (1 : Int32) = 0 then
    ob_rb 0 σ
  else
    if (0 : Int32) = 0 then
      ob_rb 1 σ
    else
      ob_rb 0 σ
set_option maxRecDepth 100000 in
set_option maxHeartbeats 4000000 in
theorem c_J0_isLatin1_aae02 {g : ob_GT} {w : ob_WT} {i : Nat} (hi : i < 7) {r : Int32} {σ' : ob_St} {σ : ob_St} (hf : f_J0_isLatin1_aae02 i σ = some (r, σ')) : ob_CT g w mi_J0_isLatin1_aae02 [.ref (g.2.2.2.2.1 i)] σ (some (.int r)) σ' := by
  refine ob_ct (by decide +kernel) rfl (Nat.le_of_ble_eq_true rfl) ?_
  show ob_V g w mi_J0_isLatin1_aae02 (some (.int r)) σ' σ 0 [(0, .ref (g.2.2.2.2.1 i))] []
  refine vv_gst dJ0_isLatin1_aae02_0 (List.mem_cons_of_mem _ tw_312) (fun _ _ h => h.1.2.1) 3 rfl ?_
  refine vv_if_eq dJ0_isLatin1_aae02_3 17 6 rfl rfl hf (fun hf => ?_) (fun hf => ?_)
  · refine vv_iconst dJ0_isLatin1_aae02_17 0 rfl 18 rfl ?_
    exact vv_iretz rfl dJ0_isLatin1_aae02_18 hf
  · refine vv_aload_n dJ0_isLatin1_aae02_6 0 rfl rfl 7 rfl ?_
    refine vv_tx_coder dJ0_isLatin1_aae02_7 hi (List.mem_cons_of_mem _ tw_1087) 10 rfl ?_
    refine vv_if_ne dJ0_isLatin1_aae02_10 17 13 rfl rfl hf (fun hf => ?_) (fun hf => ?_)
    · refine vv_iconst dJ0_isLatin1_aae02_17 0 rfl 18 rfl ?_
      exact vv_iretz rfl dJ0_isLatin1_aae02_18 hf
    · refine vv_iconst dJ0_isLatin1_aae02_13 1 rfl 14 rfl ?_
      refine vv_goto dJ0_isLatin1_aae02_14 18 rfl ?_
      exact vv_iretz rfl dJ0_isLatin1_aae02_18 hf
abbrev mi_J0_coder_7d493 : ob_MI := (yJ0_coder_7d493, ob_ws yJ0_coder_7d493 cJ0_coder_7d493 1 (some .byte), cJ0_coder_7d493, 1, (some .byte), { frames := 0, cells := 0, slots := 0, locals := 0 })
noncomputable def f_J0_coder_7d493 (i : Nat) (σ : ob_St) : Option (Int32 × ob_St) :=
  if (1 : Int32) = 0 then
    ob_rby 1 σ
  else
    ob_rby 0 σ
set_option maxRecDepth 100000 in
set_option maxHeartbeats 4000000 in
theorem c_J0_coder_7d493 {g : ob_GT} {w : ob_WT} {i : Nat} (hi : i < 7) {r : Int32} {σ' : ob_St} {σ : ob_St} (hf : f_J0_coder_7d493 i σ = some (r, σ')) : ob_CT g w mi_J0_coder_7d493 [.ref (g.2.2.2.2.1 i)] σ (some (.int r)) σ' := by
  refine ob_ct (by decide +kernel) rfl (Nat.le_of_ble_eq_true rfl) ?_
  show ob_V g w mi_J0_coder_7d493 (some (.int r)) σ' σ 0 [(0, .ref (g.2.2.2.2.1 i))] []
  refine vv_gst dJ0_coder_7d493_0 (List.mem_cons_of_mem _ tw_312) (fun _ _ h => h.1.2.1) 3 rfl ?_
  refine vv_if_eq dJ0_coder_7d493_3 13 6 rfl rfl hf (fun hf => ?_) (fun hf => ?_)
  · refine vv_iconst dJ0_coder_7d493_13 1 rfl 14 rfl ?_
    exact vv_iretb rfl dJ0_coder_7d493_14 hf
  · refine vv_aload_n dJ0_coder_7d493_6 0 rfl rfl 7 rfl ?_
    refine vv_tx_coder dJ0_coder_7d493_7 hi (List.mem_cons_of_mem _ tw_1087) 10 rfl ?_
    refine vv_goto dJ0_coder_7d493_10 14 rfl ?_
    exact vv_iretb rfl dJ0_coder_7d493_14 hf
abbrev mi_J0_length_8abf5 : ob_MI := (yJ0_length_8abf5, ob_ws yJ0_length_8abf5 cJ0_length_8abf5 1 (some .int), cJ0_length_8abf5, 1, (some .int), { frames := 1, cells := 0, slots := 0, locals := 20 })
theorem cv_J0_length_8abf5_335 : ob_CV mi_J0_length_8abf5 mi_J0_coder_7d493 335 RJ0 0 := ob_cvI rfl rfl tw_308 tw_309 tw_310 tw_60 tw_311 ⟨rfl, rfl⟩ ⟨rfl, by decide +kernel, by decide +kernel, by decide +kernel⟩ ⟨Nat.le_of_ble_eq_true rfl, Nat.le_of_ble_eq_true rfl⟩
noncomputable def f_J0_length_8abf5 (i : Nat) (σ : ob_St) : Option (Int32 × ob_St) :=
  ob_bd (f_J0_coder_7d493 i σ) fun r1 σ2 =>
  some (((ob_tl i) >>> (r1 &&& 31)), σ2)
set_option maxRecDepth 100000 in
set_option maxHeartbeats 4000000 in
theorem c_J0_length_8abf5 {g : ob_GT} {w : ob_WT} {i : Nat} (hi : i < 7) {r : Int32} {σ' : ob_St} {σ : ob_St} (hf : f_J0_length_8abf5 i σ = some (r, σ')) : ob_CT g w mi_J0_length_8abf5 [.ref (g.2.2.2.2.1 i)] σ (some (.int r)) σ' := by
  refine ob_ct (by decide +kernel) rfl (Nat.le_of_ble_eq_true rfl) ?_
  show ob_V g w mi_J0_length_8abf5 (some (.int r)) σ' σ 0 [(0, .ref (g.2.2.2.2.1 i))] []
  refine vv_aload_n dJ0_length_8abf5_0 0 rfl rfl 1 rfl ?_
  refine vv_tx_value dJ0_length_8abf5_1 hi (List.mem_cons_of_mem _ tw_1086) 4 rfl ?_
  refine vv_tx_len dJ0_length_8abf5_4 hi 5 rfl ?_
  refine vv_aload_n dJ0_length_8abf5_5 0 rfl rfl 6 rfl ?_
  refine vv_callV [] [.int (ob_tl i)] (fun _ _ h => c_J0_coder_7d493 hi h) (ob_recS hi) cv_J0_length_8abf5_335 rfl (Nat.le_of_ble_eq_true rfl) 9 rfl dJ0_length_8abf5_6 rfl hf (fun r1 σ2 hf => ?_)
  refine vv_ishr dJ0_length_8abf5_9 10 rfl ?_
  exact vv_ireti rfl dJ0_length_8abf5_10 hf
abbrev mi_J0_isEmpty_aae02 : ob_MI := (yJ0_isEmpty_aae02, ob_ws yJ0_isEmpty_aae02 cJ0_isEmpty_aae02 1 (some .boolean), cJ0_isEmpty_aae02, 1, (some .boolean), { frames := 0, cells := 0, slots := 0, locals := 0 })
noncomputable def f_J0_isEmpty_aae02 (i : Nat) (σ : ob_St) : Option (Int32 × ob_St) :=
  if (ob_tl i) = 0 then
    ob_rb 1 σ
  else
    ob_rb 0 σ
set_option maxRecDepth 100000 in
set_option maxHeartbeats 4000000 in
theorem c_J0_isEmpty_aae02 {g : ob_GT} {w : ob_WT} {i : Nat} (hi : i < 7) {r : Int32} {σ' : ob_St} {σ : ob_St} (hf : f_J0_isEmpty_aae02 i σ = some (r, σ')) : ob_CT g w mi_J0_isEmpty_aae02 [.ref (g.2.2.2.2.1 i)] σ (some (.int r)) σ' := by
  refine ob_ct (by decide +kernel) rfl (Nat.le_of_ble_eq_true rfl) ?_
  show ob_V g w mi_J0_isEmpty_aae02 (some (.int r)) σ' σ 0 [(0, .ref (g.2.2.2.2.1 i))] []
  refine vv_aload_n dJ0_isEmpty_aae02_0 0 rfl rfl 1 rfl ?_
  refine vv_tx_value dJ0_isEmpty_aae02_1 hi (List.mem_cons_of_mem _ tw_1086) 4 rfl ?_
  refine vv_tx_len dJ0_isEmpty_aae02_4 hi 5 rfl ?_
  refine vv_if_ne dJ0_isEmpty_aae02_5 12 8 rfl rfl hf (fun hf => ?_) (fun hf => ?_)
  · refine vv_iconst dJ0_isEmpty_aae02_12 0 rfl 13 rfl ?_
    exact vv_iretz rfl dJ0_isEmpty_aae02_13 hf
  · refine vv_iconst dJ0_isEmpty_aae02_8 1 rfl 9 rfl ?_
    refine vv_goto dJ0_isEmpty_aae02_9 13 rfl ?_
    exact vv_iretz rfl dJ0_isEmpty_aae02_13 hf
abbrev mi_J3_checkIndex_8e157 : ob_MI := (yJ3_checkIndex_8e157, ob_ws yJ3_checkIndex_8e157 cJ3_checkIndex_8e157 3 (some .int), cJ3_checkIndex_8e157, 3, (some .int), { frames := 0, cells := 0, slots := 0, locals := 0 })
noncomputable def f_J3_checkIndex_8e157 (σ : ob_St) (x y : Int32) : Option (Int32 × ob_St) := if x < 0 then none else if x < y then some (x, σ) else none
theorem c_J3_checkIndex_8e157 {g : ob_GT} {w : ob_WT} {r : Int32} {σ' σ : ob_St} {x y : Int32} {v : Value} (hv : v = .null ∨ ∃ t, v = .ref t) (hf : f_J3_checkIndex_8e157 σ x y = some (r, σ')) : ob_CT g w mi_J3_checkIndex_8e157 [.int x, .int y, v] σ (some (.int r)) σ' := by
  refine ob_ct (by decide +kernel) rfl ?_ ?_
  · rcases hv with rfl | ⟨t, rfl⟩ <;> exact Nat.le_of_ble_eq_true rfl
  · have hV : ob_V g w mi_J3_checkIndex_8e157 (some (.int r)) σ' σ 0 [(0, .int x), (1, .int y), (2, v)] [] := by
      refine vv_iload_n dJ3_checkIndex_8e157_0 0 rfl rfl 1 rfl ?_
      refine vv_if_lt dJ3_checkIndex_8e157_1 9 4 rfl rfl hf (fun hf => ?_) (fun hf => ?_)
      · exact absurd hf (fun h => by cases h)
      · refine vv_iload_n dJ3_checkIndex_8e157_4 0 rfl rfl 5 rfl ?_
        refine vv_iload_n dJ3_checkIndex_8e157_5 1 rfl rfl 6 rfl ?_
        refine vv_icmp_lt dJ3_checkIndex_8e157_6 16 9 rfl rfl hf (fun hf => ?_) (fun hf => ?_)
        · refine vv_iload_n dJ3_checkIndex_8e157_16 0 rfl rfl 17 rfl ?_
          exact vv_ireti rfl dJ3_checkIndex_8e157_17 hf
        · exact absurd hf (fun h => by cases h)
    rcases hv with rfl | ⟨t, rfl⟩ <;> exact hV
abbrev mi_J0_checkIndex_df160 : ob_MI := (yJ0_checkIndex_df160, ob_ws yJ0_checkIndex_df160 cJ0_checkIndex_df160 2 none, cJ0_checkIndex_df160, 2, none, { frames := 1, cells := 0, slots := 0, locals := 22 })
theorem cs_J0_checkIndex_df160_1059 : ob_CS mi_J0_checkIndex_df160 mi_J3_checkIndex_8e157 1059 3 := ob_csI rfl rfl tw_342 tw_343 tw_62 tw_344 ⟨rfl, rfl⟩ ⟨by decide +kernel, by decide +kernel, by decide +kernel⟩ ⟨Nat.le_of_ble_eq_true rfl, Nat.le_of_ble_eq_true rfl⟩
noncomputable def f_J0_checkIndex_df160 (σ : ob_St) (x y : Int32) : Option (Unit × ob_St) := ob_bd (f_J3_checkIndex_8e157 σ x y) fun _ σ1 => some ((), σ1)
theorem c_J0_checkIndex_df160 {g : ob_GT} {w : ob_WT} {r : Unit} {σ' σ : ob_St} {p0 p1 : Int32} (hf : f_J0_checkIndex_df160 σ p0 p1 = some (r, σ')) : ob_CT g w mi_J0_checkIndex_df160 [.int p0, .int p1] σ none σ' := by
  refine ob_ct (by decide +kernel) rfl (Nat.le_of_ble_eq_true rfl) ?_
  show ob_V g w mi_J0_checkIndex_df160 none σ' σ 0 [(0, .int p0), (1, .int p1)] []
  refine vv_iload_n dJ0_checkIndex_df160_0 0 rfl rfl 1 rfl ?_
  refine vv_iload_n dJ0_checkIndex_df160_1 1 rfl rfl 2 rfl ?_
  refine vv_gstQ dJ0_checkIndex_df160_2 (List.mem_cons_of_mem _ tw_340) (fun _ _ h => h.1.2.2) 5 rfl (fun v hv => ?_)
  refine vv_callS [.int p0, .int p1, v] [] (fun _ _ h => c_J3_checkIndex_8e157 hv h) cs_J0_checkIndex_df160_1059 rfl (Nat.le_of_ble_eq_true rfl) 8 rfl dJ0_checkIndex_df160_5 rfl hf (fun r1 σ1 hf => ?_)
  refine vv_pop dJ0_checkIndex_df160_8 rfl 9 rfl ?_
  exact vv_ret rfl dJ0_checkIndex_df160_9 hf
abbrev mi_J1_charAt_3b067 : ob_MI := (yJ1_charAt_3b067, ob_ws yJ1_charAt_3b067 cJ1_charAt_3b067 2 (some .char), cJ1_charAt_3b067, 2, (some .char), { frames := 2, cells := 0, slots := 0, locals := 43 })
theorem cs_J1_charAt_3b067_9 : ob_CS mi_J1_charAt_3b067 mi_J0_checkIndex_df160 9 2 := ob_csI rfl rfl tw_337 tw_338 tw_60 tw_339 ⟨rfl, rfl⟩ ⟨by decide +kernel, by decide +kernel, by decide +kernel⟩ ⟨Nat.le_of_ble_eq_true rfl, Nat.le_of_ble_eq_true rfl⟩
noncomputable def f_J1_charAt_3b067 (i : Nat) (σ : ob_St) (p1 : Int32) : Option (Int32 × ob_St) :=
  ob_bd (f_J0_checkIndex_df160 σ p1 (ob_tl i)) fun _ σ2 =>
  ob_ltx i p1 fun v_3 =>
  ob_rc (((v_3 &&& 255).toUInt32 % 65536).toInt32) σ2
set_option maxRecDepth 100000 in
set_option maxHeartbeats 4000000 in
theorem c_J1_charAt_3b067 {g : ob_GT} {w : ob_WT} {i : Nat} (hi : i < 7) {r : Int32} {σ' : ob_St} {σ : ob_St} {p1 : Int32} (hf : f_J1_charAt_3b067 i σ p1 = some (r, σ')) : ob_CT g w mi_J1_charAt_3b067 [.ref (g.2.2.2.2.2.1 i), .int p1] σ (some (.int r)) σ' := by
  refine ob_ct (by decide +kernel) rfl (Nat.le_of_ble_eq_true rfl) ?_
  show ob_V g w mi_J1_charAt_3b067 (some (.int r)) σ' σ 0 [(0, .ref (g.2.2.2.2.2.1 i)), (1, .int p1)] []
  refine vv_iload_n dJ1_charAt_3b067_0 1 rfl rfl 1 rfl ?_
  refine vv_aload_n dJ1_charAt_3b067_1 0 rfl rfl 2 rfl ?_
  refine vv_tx_len dJ1_charAt_3b067_2 hi 3 rfl ?_
  refine vv_callSu [.int p1, .int (ob_tl i)] [] (fun _ _ h => c_J0_checkIndex_df160 h) cs_J1_charAt_3b067_9 rfl (Nat.le_of_ble_eq_true rfl) 6 rfl dJ1_charAt_3b067_3 rfl hf (fun _ σ2 hf => ?_)
  refine vv_aload_n dJ1_charAt_3b067_6 0 rfl rfl 7 rfl ?_
  refine vv_iload_n dJ1_charAt_3b067_7 1 rfl rfl 8 rfl ?_
  refine vv_tx_ld dJ1_charAt_3b067_8 hi 9 rfl hf (fun v_3 hf => ?_)
  refine vv_sipush dJ1_charAt_3b067_9 255 rfl 12 rfl ?_
  refine vv_iand dJ1_charAt_3b067_12 13 rfl ?_
  refine vv_i2c dJ1_charAt_3b067_13 14 rfl ?_
  exact vv_iretc rfl dJ1_charAt_3b067_14 hf
abbrev mi_J0_charAt_5068e : ob_MI := (yJ0_charAt_5068e, ob_ws yJ0_charAt_5068e cJ0_charAt_5068e 2 (some .char), cJ0_charAt_5068e, 2, (some .char), { frames := 3, cells := 0, slots := 0, locals := 64 })
theorem cv_J0_charAt_5068e_492 : ob_CV mi_J0_charAt_5068e mi_J0_isLatin1_aae02 492 RJ0 0 := ob_cvI rfl rfl tw_330 tw_331 tw_332 tw_60 tw_333 ⟨rfl, rfl⟩ ⟨rfl, by decide +kernel, by decide +kernel, by decide +kernel⟩ ⟨Nat.le_of_ble_eq_true rfl, Nat.le_of_ble_eq_true rfl⟩
theorem cs_J0_charAt_5068e_495 : ob_CS mi_J0_charAt_5068e mi_J1_charAt_3b067 495 2 := ob_csI rfl rfl tw_334 tw_335 tw_61 tw_336 ⟨rfl, rfl⟩ ⟨by decide +kernel, by decide +kernel, by decide +kernel⟩ ⟨Nat.le_of_ble_eq_true rfl, Nat.le_of_ble_eq_true rfl⟩
noncomputable def f_J0_charAt_5068e (i : Nat) (σ : ob_St) (p1 : Int32) : Option (Int32 × ob_St) :=
  ob_bd (f_J0_isLatin1_aae02 i σ) fun r1 σ2 =>
  if r1 = 0 then
    none
  else
    ob_bd (f_J1_charAt_3b067 i σ2 p1) fun r3 σ4 =>
    ob_rc r3 σ4
set_option maxRecDepth 100000 in
set_option maxHeartbeats 4000000 in
theorem c_J0_charAt_5068e {g : ob_GT} {w : ob_WT} {i : Nat} (hi : i < 7) {r : Int32} {σ' : ob_St} {σ : ob_St} {p1 : Int32} (hf : f_J0_charAt_5068e i σ p1 = some (r, σ')) : ob_CT g w mi_J0_charAt_5068e [.ref (g.2.2.2.2.1 i), .int p1] σ (some (.int r)) σ' := by
  refine ob_ct (by decide +kernel) rfl (Nat.le_of_ble_eq_true rfl) ?_
  show ob_V g w mi_J0_charAt_5068e (some (.int r)) σ' σ 0 [(0, .ref (g.2.2.2.2.1 i)), (1, .int p1)] []
  refine vv_aload_n dJ0_charAt_5068e_0 0 rfl rfl 1 rfl ?_
  refine vv_callV [] [] (fun _ _ h => c_J0_isLatin1_aae02 hi h) (ob_recS hi) cv_J0_charAt_5068e_492 rfl (Nat.le_of_ble_eq_true rfl) 4 rfl dJ0_charAt_5068e_1 rfl hf (fun r1 σ2 hf => ?_)
  refine vv_if_eq dJ0_charAt_5068e_4 16 7 rfl rfl hf (fun hf => ?_) (fun hf => ?_)
  · refine vv_aload_n dJ0_charAt_5068e_16 0 rfl rfl 17 rfl ?_
    refine vv_tx_value dJ0_charAt_5068e_17 hi (List.mem_cons_of_mem _ tw_1086) 20 rfl ?_
    refine vv_iload_n dJ0_charAt_5068e_20 1 rfl rfl 21 rfl ?_
    exact absurd hf (fun h => by cases h)
  · refine vv_aload_n dJ0_charAt_5068e_7 0 rfl rfl 8 rfl ?_
    refine vv_tx_value dJ0_charAt_5068e_8 hi (List.mem_cons_of_mem _ tw_1086) 11 rfl ?_
    refine vv_iload_n dJ0_charAt_5068e_11 1 rfl rfl 12 rfl ?_
    refine vv_callS [.ref (g.2.2.2.2.2.1 i), .int p1] [] (fun _ _ h => c_J1_charAt_3b067 hi h) cs_J0_charAt_5068e_495 rfl (Nat.le_of_ble_eq_true rfl) 15 rfl dJ0_charAt_5068e_12 rfl hf (fun r3 σ4 hf => ?_)
    exact vv_iretc rfl dJ0_charAt_5068e_15 hf
abbrev mi_J1_canEncode_9a6ad : ob_MI := (yJ1_canEncode_9a6ad, ob_ws yJ1_canEncode_9a6ad cJ1_canEncode_9a6ad 1 (some .boolean), cJ1_canEncode_9a6ad, 1, (some .boolean), { frames := 0, cells := 0, slots := 0, locals := 0 })
noncomputable def f_J1_canEncode_9a6ad (σ : ob_St) (p0 : Int32) : Option (Int32 × ob_St) :=
  if p0 < 0 then
    ob_rb 0 σ
  else
    if (255 : Int32) < p0 then
      ob_rb 0 σ
    else
      ob_rb 1 σ
set_option maxRecDepth 100000 in
set_option maxHeartbeats 4000000 in
theorem c_J1_canEncode_9a6ad {g : ob_GT} {w : ob_WT} {r : Int32} {σ' : ob_St} {σ : ob_St} {p0 : Int32} (hf : f_J1_canEncode_9a6ad σ p0 = some (r, σ')) : ob_CT g w mi_J1_canEncode_9a6ad [.int p0] σ (some (.int r)) σ' := by
  refine ob_ct (by decide +kernel) rfl (Nat.le_of_ble_eq_true rfl) ?_
  show ob_V g w mi_J1_canEncode_9a6ad (some (.int r)) σ' σ 0 [(0, .int p0)] []
  refine vv_iload_n dJ1_canEncode_9a6ad_0 0 rfl rfl 1 rfl ?_
  refine vv_if_lt dJ1_canEncode_9a6ad_1 15 4 rfl rfl hf (fun hf => ?_) (fun hf => ?_)
  · refine vv_iconst dJ1_canEncode_9a6ad_15 0 rfl 16 rfl ?_
    exact vv_iretz rfl dJ1_canEncode_9a6ad_16 hf
  · refine vv_iload_n dJ1_canEncode_9a6ad_4 0 rfl rfl 5 rfl ?_
    refine vv_sipush dJ1_canEncode_9a6ad_5 255 rfl 8 rfl ?_
    refine vv_icmp_gt dJ1_canEncode_9a6ad_8 15 11 rfl rfl hf (fun hf => ?_) (fun hf => ?_)
    · refine vv_iconst dJ1_canEncode_9a6ad_15 0 rfl 16 rfl ?_
      exact vv_iretz rfl dJ1_canEncode_9a6ad_16 hf
    · refine vv_iconst dJ1_canEncode_9a6ad_11 1 rfl 12 rfl ?_
      refine vv_goto dJ1_canEncode_9a6ad_12 16 rfl ?_
      exact vv_iretz rfl dJ1_canEncode_9a6ad_16 hf
abbrev mi_J1_indexOfChar_4cfef : ob_MI := (yJ1_indexOfChar_4cfef, ob_ws yJ1_indexOfChar_4cfef cJ1_indexOfChar_4cfef 6 (some .int), cJ1_indexOfChar_4cfef, 6, (some .int), { frames := 0, cells := 0, slots := 0, locals := 0 })
noncomputable def L_J1_indexOfChar_4cfef_7 (i : Nat) : Nat → ob_St → Int32 → Int32 → Int32 → Option (Int32 × ob_St)
  | 0, _, _, _, _ => none
  | n + 1, σ, v3, v4, v5 =>
    if v3 ≤ v5 then
      some ((-1), σ)
    else
      ob_ltx i v5 fun v_2 =>
      if v_2 = v4 then
        some (v5, σ)
      else
        L_J1_indexOfChar_4cfef_7 i n σ v3 v4 (v5 + 1)
noncomputable def f_J1_indexOfChar_4cfef (i : Nat) (σ : ob_St) (p1 : Int32) (p2 : Int32) (p3 : Int32) : Option (Int32 × ob_St) :=
  ob_nm p1.toInt8.toInt32 fun v_1 =>
  L_J1_indexOfChar_4cfef_7 i 1000 σ p3 v_1 p2
set_option maxRecDepth 100000 in
set_option maxHeartbeats 4000000 in
theorem l_J1_indexOfChar_4cfef_7 {g : ob_GT} {w : ob_WT} {i : Nat} (hi : i < 7) {r : Int32} {σ' : ob_St} : ∀ (n : Nat) {σ : ob_St} {v3 : Int32} {v4 : Int32} {v5 : Int32}, L_J1_indexOfChar_4cfef_7 i n σ v3 v4 v5 = some (r, σ') → ob_V g w mi_J1_indexOfChar_4cfef (some (.int r)) σ' σ 7 [(0, .ref (g.2.2.2.2.2.1 i)), (3, .int v3), (4, .int v4), (5, .int v5)] [] := by
  intro n
  induction n with
  | zero => intro σ v3 v4 v5 hf; exact absurd hf (fun h => by cases h)
  | succ n ih =>
    intro σ v3 v4 v5 hf
    refine vv_iload dJ1_indexOfChar_4cfef_7 3 rfl 9 rfl ?_
    refine vv_iload_n dJ1_indexOfChar_4cfef_9 1 rfl rfl 10 rfl ?_
    refine vv_icmp_ge dJ1_indexOfChar_4cfef_10 31 13 rfl rfl hf (fun hf => ?_) (fun hf => ?_)
    · refine vv_iconst dJ1_indexOfChar_4cfef_31 (-1) rfl 32 rfl ?_
      exact vv_ireti rfl dJ1_indexOfChar_4cfef_32 hf
    · refine vv_aload_n dJ1_indexOfChar_4cfef_13 0 rfl rfl 14 rfl ?_
      refine vv_iload dJ1_indexOfChar_4cfef_14 3 rfl 16 rfl ?_
      refine vv_tx_ld dJ1_indexOfChar_4cfef_16 hi 17 rfl hf (fun v_2 hf => ?_)
      refine vv_iload dJ1_indexOfChar_4cfef_17 2 rfl 19 rfl ?_
      refine vv_icmp_ne dJ1_indexOfChar_4cfef_19 25 22 rfl rfl hf (fun hf => ?_) (fun hf => ?_)
      · refine vv_iinc dJ1_indexOfChar_4cfef_25 (v5 + 1) 3 [(5, .int (v5 + 1)), (0, .ref (g.2.2.2.2.2.1 i)), (3, .int v3), (4, .int v4)] rfl rfl (Nat.le_of_ble_eq_true rfl) rfl 28 rfl ?_
        refine vv_goto dJ1_indexOfChar_4cfef_28 7 rfl ?_
        refine vv_sub [1, 2, 3, 0] [(0, .ref (g.2.2.2.2.2.1 i)), (3, .int v3), (4, .int v4), (5, .int (v5 + 1))] rfl ?_
        exact ih hf
      · refine vv_iload dJ1_indexOfChar_4cfef_22 3 rfl 24 rfl ?_
        exact vv_ireti rfl dJ1_indexOfChar_4cfef_24 hf
set_option maxRecDepth 100000 in
set_option maxHeartbeats 4000000 in
theorem c_J1_indexOfChar_4cfef {g : ob_GT} {w : ob_WT} {i : Nat} (hi : i < 7) {r : Int32} {σ' : ob_St} {σ : ob_St} {p1 : Int32} {p2 : Int32} {p3 : Int32} (hf : f_J1_indexOfChar_4cfef i σ p1 p2 p3 = some (r, σ')) : ob_CT g w mi_J1_indexOfChar_4cfef [.ref (g.2.2.2.2.2.1 i), .int p1, .int p2, .int p3] σ (some (.int r)) σ' := by
  refine ob_ct (by decide +kernel) rfl (Nat.le_of_ble_eq_true rfl) ?_
  show ob_V g w mi_J1_indexOfChar_4cfef (some (.int r)) σ' σ 0 [(0, .ref (g.2.2.2.2.2.1 i)), (1, .int p1), (2, .int p2), (3, .int p3)] []
  refine vv_iload_n dJ1_indexOfChar_4cfef_0 1 rfl rfl 1 rfl ?_
  refine vv_i2b dJ1_indexOfChar_4cfef_1 2 rfl ?_
  refine vv_nm hf (fun v_1 hf => ?_)
  refine vv_istore dJ1_indexOfChar_4cfef_2 [(4, .int v_1), (0, .ref (g.2.2.2.2.2.1 i)), (1, .int p1), (2, .int p2), (3, .int p3)] (Nat.le_of_ble_eq_true rfl) rfl 4 rfl ?_
  refine vv_iload_n dJ1_indexOfChar_4cfef_4 3 rfl rfl 5 rfl ?_
  refine vv_istore dJ1_indexOfChar_4cfef_5 [(5, .int p2), (4, .int v_1), (0, .ref (g.2.2.2.2.2.1 i)), (1, .int p1), (2, .int p2), (3, .int p3)] (Nat.le_of_ble_eq_true rfl) rfl 7 rfl ?_
  refine vv_sub [2, 5, 1, 0] [(0, .ref (g.2.2.2.2.2.1 i)), (3, .int p3), (4, .int v_1), (5, .int p2)] rfl ?_
  exact l_J1_indexOfChar_4cfef_7 hi 1000 hf
abbrev mi_J1_indexOf_4cfef : ob_MI := (yJ1_indexOf_4cfef, ob_ws yJ1_indexOf_4cfef cJ1_indexOf_4cfef 4 (some .int), cJ1_indexOf_4cfef, 4, (some .int), { frames := 1, cells := 0, slots := 0, locals := 25 })
theorem cs_J1_indexOf_4cfef_88 : ob_CS mi_J1_indexOf_4cfef mi_J1_canEncode_9a6ad 88 1 := ob_csI rfl rfl tw_380 tw_381 tw_61 tw_382 ⟨rfl, rfl⟩ ⟨by decide +kernel, by decide +kernel, by decide +kernel⟩ ⟨Nat.le_of_ble_eq_true rfl, Nat.le_of_ble_eq_true rfl⟩
theorem mm_J1_indexOf_4cfef_92 : ob_mm mi_J1_indexOf_4cfef 92 Lib.Math.max.name (.code Lib.Math.max.name Lib.Math.max.code 2 (some .int)) := ⟨List.mem_cons_of_mem _ tw_383, List.mem_cons_of_mem _ tw_384, List.mem_cons_of_mem _ tw_64, List.mem_cons_of_mem _ tw_385⟩
theorem mm_J1_indexOf_4cfef_38 : ob_mm mi_J1_indexOf_4cfef 38 Lib.Math.min.name (.code Lib.Math.min.name Lib.Math.min.code 2 (some .int)) := ⟨List.mem_cons_of_mem _ tw_386, List.mem_cons_of_mem _ tw_387, List.mem_cons_of_mem _ tw_64, List.mem_cons_of_mem _ tw_388⟩
theorem cs_J1_indexOf_4cfef_95 : ob_CS mi_J1_indexOf_4cfef mi_J1_indexOfChar_4cfef 95 4 := ob_csI rfl rfl tw_389 tw_390 tw_61 tw_391 ⟨rfl, rfl⟩ ⟨by decide +kernel, by decide +kernel, by decide +kernel⟩ ⟨Nat.le_of_ble_eq_true rfl, Nat.le_of_ble_eq_true rfl⟩
noncomputable def f_J1_indexOf_4cfef (i : Nat) (σ : ob_St) (p1 : Int32) (p2 : Int32) (p3 : Int32) : Option (Int32 × ob_St) :=
  ob_bd (f_J1_canEncode_9a6ad σ p1) fun r1 σ2 =>
  if r1 = 0 then
    some ((-1), σ2)
  else
    ob_nm (ob_max p2 0) fun v_3 =>
    ob_nm (ob_min p3 (ob_tl i)) fun v_4 =>
    if v_3 < v_4 then
      ob_bd (f_J1_indexOfChar_4cfef i σ2 p1 v_3 v_4) fun r5 σ6 =>
      some (r5, σ6)
    else
      some ((-1), σ2)
set_option maxRecDepth 100000 in
set_option maxHeartbeats 4000000 in
theorem c_J1_indexOf_4cfef {g : ob_GT} {w : ob_WT} {i : Nat} (hi : i < 7) {r : Int32} {σ' : ob_St} {σ : ob_St} {p1 : Int32} {p2 : Int32} {p3 : Int32} (hf : f_J1_indexOf_4cfef i σ p1 p2 p3 = some (r, σ')) : ob_CT g w mi_J1_indexOf_4cfef [.ref (g.2.2.2.2.2.1 i), .int p1, .int p2, .int p3] σ (some (.int r)) σ' := by
  refine ob_ct (by decide +kernel) rfl (Nat.le_of_ble_eq_true rfl) ?_
  show ob_V g w mi_J1_indexOf_4cfef (some (.int r)) σ' σ 0 [(0, .ref (g.2.2.2.2.2.1 i)), (1, .int p1), (2, .int p2), (3, .int p3)] []
  refine vv_iload_n dJ1_indexOf_4cfef_0 1 rfl rfl 1 rfl ?_
  refine vv_callS [.int p1] [] (fun _ _ h => c_J1_canEncode_9a6ad h) cs_J1_indexOf_4cfef_88 rfl (Nat.le_of_ble_eq_true rfl) 4 rfl dJ1_indexOf_4cfef_1 rfl hf (fun r1 σ2 hf => ?_)
  refine vv_if_ne dJ1_indexOf_4cfef_4 9 7 rfl rfl hf (fun hf => ?_) (fun hf => ?_)
  · refine vv_iload_n dJ1_indexOf_4cfef_9 2 rfl rfl 10 rfl ?_
    refine vv_iconst dJ1_indexOf_4cfef_10 0 rfl 11 rfl ?_
    refine vv_max dJ1_indexOf_4cfef_11 mm_J1_indexOf_4cfef_92 (Nat.le_of_ble_eq_true rfl) (Nat.le_of_ble_eq_true rfl) 14 rfl ?_
    refine vv_nm hf (fun v_3 hf => ?_)
    refine vv_istore_n dJ1_indexOf_4cfef_14 [(2, .int v_3), (0, .ref (g.2.2.2.2.2.1 i)), (1, .int p1), (3, .int p3)] rfl (Nat.le_of_ble_eq_true rfl) rfl 15 rfl ?_
    refine vv_iload_n dJ1_indexOf_4cfef_15 3 rfl rfl 16 rfl ?_
    refine vv_aload_n dJ1_indexOf_4cfef_16 1 rfl rfl 17 rfl ?_
    refine vv_tx_len dJ1_indexOf_4cfef_17 hi 18 rfl ?_
    refine vv_min dJ1_indexOf_4cfef_18 mm_J1_indexOf_4cfef_38 (Nat.le_of_ble_eq_true rfl) (Nat.le_of_ble_eq_true rfl) 21 rfl ?_
    refine vv_nm hf (fun v_4 hf => ?_)
    refine vv_istore_n dJ1_indexOf_4cfef_21 [(3, .int v_4), (2, .int v_3), (0, .ref (g.2.2.2.2.2.1 i)), (1, .int p1)] rfl (Nat.le_of_ble_eq_true rfl) rfl 22 rfl ?_
    refine vv_iload_n dJ1_indexOf_4cfef_22 1 rfl rfl 23 rfl ?_
    refine vv_iload_n dJ1_indexOf_4cfef_23 0 rfl rfl 24 rfl ?_
    refine vv_icmp_lt dJ1_indexOf_4cfef_24 29 27 rfl rfl hf (fun hf => ?_) (fun hf => ?_)
    · refine vv_aload_n dJ1_indexOf_4cfef_29 2 rfl rfl 30 rfl ?_
      refine vv_iload_n dJ1_indexOf_4cfef_30 3 rfl rfl 31 rfl ?_
      refine vv_iload_n dJ1_indexOf_4cfef_31 1 rfl rfl 32 rfl ?_
      refine vv_iload_n dJ1_indexOf_4cfef_32 0 rfl rfl 33 rfl ?_
      refine vv_callS [.ref (g.2.2.2.2.2.1 i), .int p1, .int v_3, .int v_4] [] (fun _ _ h => c_J1_indexOfChar_4cfef hi h) cs_J1_indexOf_4cfef_95 rfl (Nat.le_of_ble_eq_true rfl) 36 rfl dJ1_indexOf_4cfef_33 rfl hf (fun r5 σ6 hf => ?_)
      exact vv_ireti rfl dJ1_indexOf_4cfef_36 hf
    · refine vv_iconst dJ1_indexOf_4cfef_27 (-1) rfl 28 rfl ?_
      exact vv_ireti rfl dJ1_indexOf_4cfef_28 hf
  · refine vv_iconst dJ1_indexOf_4cfef_7 (-1) rfl 8 rfl ?_
    exact vv_ireti rfl dJ1_indexOf_4cfef_8 hf
abbrev mi_J0_indexOf_7cf53 : ob_MI := (yJ0_indexOf_7cf53, ob_ws yJ0_indexOf_7cf53 cJ0_indexOf_7cf53 3 (some .int), cJ0_indexOf_7cf53, 3, (some .int), { frames := 2, cells := 0, slots := 0, locals := 48 })
theorem cv_J0_indexOf_7cf53_492 : ob_CV mi_J0_indexOf_7cf53 mi_J0_isLatin1_aae02 492 RJ0 0 := ob_cvI rfl rfl tw_330 tw_331 tw_332 tw_60 tw_333 ⟨rfl, rfl⟩ ⟨rfl, by decide +kernel, by decide +kernel, by decide +kernel⟩ ⟨Nat.le_of_ble_eq_true rfl, Nat.le_of_ble_eq_true rfl⟩
theorem cv_J0_indexOf_7cf53_505 : ob_CV mi_J0_indexOf_7cf53 mi_J0_length_8abf5 505 RJ0 0 := ob_cvI rfl rfl tw_376 tw_305 tw_306 tw_60 tw_307 ⟨rfl, rfl⟩ ⟨rfl, by decide +kernel, by decide +kernel, by decide +kernel⟩ ⟨Nat.le_of_ble_eq_true rfl, Nat.le_of_ble_eq_true rfl⟩
theorem cs_J0_indexOf_7cf53_637 : ob_CS mi_J0_indexOf_7cf53 mi_J1_indexOf_4cfef 637 4 := ob_csI rfl rfl tw_377 tw_378 tw_61 tw_379 ⟨rfl, rfl⟩ ⟨by decide +kernel, by decide +kernel, by decide +kernel⟩ ⟨Nat.le_of_ble_eq_true rfl, Nat.le_of_ble_eq_true rfl⟩
noncomputable def f_J0_indexOf_7cf53 (i : Nat) (σ : ob_St) (p1 : Int32) (p2 : Int32) : Option (Int32 × ob_St) :=
  ob_bd (f_J0_isLatin1_aae02 i σ) fun r1 σ2 =>
  if r1 = 0 then
    ob_bd (f_J0_length_8abf5 i σ2) fun r3 σ4 =>
    none
  else
    ob_bd (f_J0_length_8abf5 i σ2) fun r5 σ6 =>
    ob_bd (f_J1_indexOf_4cfef i σ6 p1 p2 r5) fun r7 σ8 =>
    some (r7, σ8)
set_option maxRecDepth 100000 in
set_option maxHeartbeats 4000000 in
theorem c_J0_indexOf_7cf53 {g : ob_GT} {w : ob_WT} {i : Nat} (hi : i < 7) {r : Int32} {σ' : ob_St} {σ : ob_St} {p1 : Int32} {p2 : Int32} (hf : f_J0_indexOf_7cf53 i σ p1 p2 = some (r, σ')) : ob_CT g w mi_J0_indexOf_7cf53 [.ref (g.2.2.2.2.1 i), .int p1, .int p2] σ (some (.int r)) σ' := by
  refine ob_ct (by decide +kernel) rfl (Nat.le_of_ble_eq_true rfl) ?_
  show ob_V g w mi_J0_indexOf_7cf53 (some (.int r)) σ' σ 0 [(0, .ref (g.2.2.2.2.1 i)), (1, .int p1), (2, .int p2)] []
  refine vv_aload_n dJ0_indexOf_7cf53_0 0 rfl rfl 1 rfl ?_
  refine vv_callV [] [] (fun _ _ h => c_J0_isLatin1_aae02 hi h) (ob_recS hi) cv_J0_indexOf_7cf53_492 rfl (Nat.le_of_ble_eq_true rfl) 4 rfl dJ0_indexOf_7cf53_1 rfl hf (fun r1 σ2 hf => ?_)
  refine vv_if_eq dJ0_indexOf_7cf53_4 23 7 rfl rfl hf (fun hf => ?_) (fun hf => ?_)
  · refine vv_aload_n dJ0_indexOf_7cf53_23 0 rfl rfl 24 rfl ?_
    refine vv_tx_value dJ0_indexOf_7cf53_24 hi (List.mem_cons_of_mem _ tw_1086) 27 rfl ?_
    refine vv_iload_n dJ0_indexOf_7cf53_27 1 rfl rfl 28 rfl ?_
    refine vv_iload_n dJ0_indexOf_7cf53_28 2 rfl rfl 29 rfl ?_
    refine vv_aload_n dJ0_indexOf_7cf53_29 0 rfl rfl 30 rfl ?_
    refine vv_callV [] [.int p2, .int p1, .ref (g.2.2.2.2.2.1 i)] (fun _ _ h => c_J0_length_8abf5 hi h) (ob_recS hi) cv_J0_indexOf_7cf53_505 rfl (Nat.le_of_ble_eq_true rfl) 33 rfl dJ0_indexOf_7cf53_30 rfl hf (fun r3 σ4 hf => ?_)
    exact absurd hf (fun h => by cases h)
  · refine vv_aload_n dJ0_indexOf_7cf53_7 0 rfl rfl 8 rfl ?_
    refine vv_tx_value dJ0_indexOf_7cf53_8 hi (List.mem_cons_of_mem _ tw_1086) 11 rfl ?_
    refine vv_iload_n dJ0_indexOf_7cf53_11 1 rfl rfl 12 rfl ?_
    refine vv_iload_n dJ0_indexOf_7cf53_12 2 rfl rfl 13 rfl ?_
    refine vv_aload_n dJ0_indexOf_7cf53_13 0 rfl rfl 14 rfl ?_
    refine vv_callV [] [.int p2, .int p1, .ref (g.2.2.2.2.2.1 i)] (fun _ _ h => c_J0_length_8abf5 hi h) (ob_recS hi) cv_J0_indexOf_7cf53_505 rfl (Nat.le_of_ble_eq_true rfl) 17 rfl dJ0_indexOf_7cf53_14 rfl hf (fun r5 σ6 hf => ?_)
    refine vv_callS [.ref (g.2.2.2.2.2.1 i), .int p1, .int p2, .int r5] [] (fun _ _ h => c_J1_indexOf_4cfef hi h) cs_J0_indexOf_7cf53_637 rfl (Nat.le_of_ble_eq_true rfl) 20 rfl dJ0_indexOf_7cf53_17 rfl hf (fun r7 σ8 hf => ?_)
    refine vv_goto dJ0_indexOf_7cf53_20 36 rfl ?_
    exact vv_ireti rfl dJ0_indexOf_7cf53_36 hf
abbrev mi_J0_indexOf_0f7a4 : ob_MI := (yJ0_indexOf_0f7a4, ob_ws yJ0_indexOf_0f7a4 cJ0_indexOf_0f7a4 2 (some .int), cJ0_indexOf_0f7a4, 2, (some .int), { frames := 3, cells := 0, slots := 0, locals := 70 })
theorem cv_J0_indexOf_0f7a4_633 : ob_CV mi_J0_indexOf_0f7a4 mi_J0_indexOf_7cf53 633 RJ0 2 := ob_cvI rfl rfl tw_372 tw_373 tw_374 tw_60 tw_375 ⟨rfl, rfl⟩ ⟨rfl, by decide +kernel, by decide +kernel, by decide +kernel⟩ ⟨Nat.le_of_ble_eq_true rfl, Nat.le_of_ble_eq_true rfl⟩
noncomputable def f_J0_indexOf_0f7a4 (i : Nat) (σ : ob_St) (p1 : Int32) : Option (Int32 × ob_St) :=
  ob_bd (f_J0_indexOf_7cf53 i σ p1 0) fun r1 σ2 =>
  some (r1, σ2)
set_option maxRecDepth 100000 in
set_option maxHeartbeats 4000000 in
theorem c_J0_indexOf_0f7a4 {g : ob_GT} {w : ob_WT} {i : Nat} (hi : i < 7) {r : Int32} {σ' : ob_St} {σ : ob_St} {p1 : Int32} (hf : f_J0_indexOf_0f7a4 i σ p1 = some (r, σ')) : ob_CT g w mi_J0_indexOf_0f7a4 [.ref (g.2.2.2.2.1 i), .int p1] σ (some (.int r)) σ' := by
  refine ob_ct (by decide +kernel) rfl (Nat.le_of_ble_eq_true rfl) ?_
  show ob_V g w mi_J0_indexOf_0f7a4 (some (.int r)) σ' σ 0 [(0, .ref (g.2.2.2.2.1 i)), (1, .int p1)] []
  refine vv_aload_n dJ0_indexOf_0f7a4_0 0 rfl rfl 1 rfl ?_
  refine vv_iload_n dJ0_indexOf_0f7a4_1 1 rfl rfl 2 rfl ?_
  refine vv_iconst dJ0_indexOf_0f7a4_2 0 rfl 3 rfl ?_
  refine vv_callV [.int p1, .int 0] [] (fun _ _ h => c_J0_indexOf_7cf53 hi h) (ob_recS hi) cv_J0_indexOf_0f7a4_633 rfl (Nat.le_of_ble_eq_true rfl) 6 rfl dJ0_indexOf_0f7a4_3 rfl hf (fun r1 σ2 hf => ?_)
  exact vv_ireti rfl dJ0_indexOf_0f7a4_6 hf
