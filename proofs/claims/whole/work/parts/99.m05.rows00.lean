theorem dJ0_charAt_5068e_0 : decode cJ0_charAt_5068e 0 = .ok (.aload_n 0, 1) := by decide +kernel
theorem dJ0_charAt_5068e_1 : decode cJ0_charAt_5068e 1 = .ok (.invokevirtual 492, 3) := by decide +kernel
theorem dJ0_charAt_5068e_4 : decode cJ0_charAt_5068e 4 = .ok (.ifCond .eq 12, 3) := by decide +kernel
theorem dJ0_charAt_5068e_7 : decode cJ0_charAt_5068e 7 = .ok (.aload_n 0, 1) := by decide +kernel
theorem dJ0_charAt_5068e_8 : decode cJ0_charAt_5068e 8 = .ok (.getfield 9, 3) := by decide +kernel
theorem dJ0_charAt_5068e_11 : decode cJ0_charAt_5068e 11 = .ok (.iload_n 1, 1) := by decide +kernel
theorem dJ0_charAt_5068e_12 : decode cJ0_charAt_5068e 12 = .ok (.invokestatic 495, 3) := by decide +kernel
theorem dJ0_charAt_5068e_15 : decode cJ0_charAt_5068e 15 = .ok (.ireturn, 1) := by decide +kernel
theorem dJ0_charAt_5068e_16 : decode cJ0_charAt_5068e 16 = .ok (.aload_n 0, 1) := by decide +kernel
theorem dJ0_charAt_5068e_17 : decode cJ0_charAt_5068e 17 = .ok (.getfield 9, 3) := by decide +kernel
theorem dJ0_charAt_5068e_20 : decode cJ0_charAt_5068e 20 = .ok (.iload_n 1, 1) := by decide +kernel
theorem dJ0_charAt_5068e_21 : decode cJ0_charAt_5068e 21 = .ok (.invokestatic 498, 3) := by decide +kernel
theorem dJ0_checkIndex_df160_0 : decode cJ0_checkIndex_df160 0 = .ok (.iload_n 0, 1) := by decide +kernel
theorem dJ0_checkIndex_df160_1 : decode cJ0_checkIndex_df160 1 = .ok (.iload_n 1, 1) := by decide +kernel
theorem dJ0_checkIndex_df160_2 : decode cJ0_checkIndex_df160 2 = .ok (.getstatic 1053, 3) := by decide +kernel
theorem dJ0_checkIndex_df160_5 : decode cJ0_checkIndex_df160 5 = .ok (.invokestatic 1059, 3) := by decide +kernel
theorem dJ0_checkIndex_df160_8 : decode cJ0_checkIndex_df160 8 = .ok (.pop, 1) := by decide +kernel
theorem dJ0_checkIndex_df160_9 : decode cJ0_checkIndex_df160 9 = .ok (.return_, 1) := by decide +kernel
theorem dJ0_coder_7d493_0 : decode cJ0_coder_7d493 0 = .ok (.getstatic 38, 3) := by decide +kernel
theorem dJ0_coder_7d493_3 : decode cJ0_coder_7d493 3 = .ok (.ifCond .eq 10, 3) := by decide +kernel
theorem dJ0_coder_7d493_6 : decode cJ0_coder_7d493 6 = .ok (.aload_n 0, 1) := by decide +kernel
theorem dJ0_coder_7d493_7 : decode cJ0_coder_7d493 7 = .ok (.getfield 15, 3) := by decide +kernel
theorem dJ0_coder_7d493_10 : decode cJ0_coder_7d493 10 = .ok (.goto 4, 3) := by decide +kernel
theorem dJ0_coder_7d493_14 : decode cJ0_coder_7d493 14 = .ok (.ireturn, 1) := by decide +kernel
theorem dJ0_indexOf_0f7a4_0 : decode cJ0_indexOf_0f7a4 0 = .ok (.aload_n 0, 1) := by decide +kernel
theorem dJ0_indexOf_0f7a4_1 : decode cJ0_indexOf_0f7a4 1 = .ok (.iload_n 1, 1) := by decide +kernel
theorem dJ0_indexOf_0f7a4_2 : decode cJ0_indexOf_0f7a4 2 = .ok (.iconst 0, 1) := by decide +kernel
theorem dJ0_indexOf_0f7a4_3 : decode cJ0_indexOf_0f7a4 3 = .ok (.invokevirtual 633, 3) := by decide +kernel
theorem dJ0_indexOf_0f7a4_6 : decode cJ0_indexOf_0f7a4 6 = .ok (.ireturn, 1) := by decide +kernel
theorem dJ0_indexOf_7cf53_0 : decode cJ0_indexOf_7cf53 0 = .ok (.aload_n 0, 1) := by decide +kernel
theorem dJ0_indexOf_7cf53_1 : decode cJ0_indexOf_7cf53 1 = .ok (.invokevirtual 492, 3) := by decide +kernel
theorem dJ0_indexOf_7cf53_4 : decode cJ0_indexOf_7cf53 4 = .ok (.ifCond .eq 19, 3) := by decide +kernel
theorem dJ0_indexOf_7cf53_7 : decode cJ0_indexOf_7cf53 7 = .ok (.aload_n 0, 1) := by decide +kernel
theorem dJ0_indexOf_7cf53_8 : decode cJ0_indexOf_7cf53 8 = .ok (.getfield 9, 3) := by decide +kernel
theorem dJ0_indexOf_7cf53_11 : decode cJ0_indexOf_7cf53 11 = .ok (.iload_n 1, 1) := by decide +kernel
theorem dJ0_indexOf_7cf53_12 : decode cJ0_indexOf_7cf53 12 = .ok (.iload_n 2, 1) := by decide +kernel
theorem dJ0_indexOf_7cf53_13 : decode cJ0_indexOf_7cf53 13 = .ok (.aload_n 0, 1) := by decide +kernel
theorem dJ0_indexOf_7cf53_14 : decode cJ0_indexOf_7cf53 14 = .ok (.invokevirtual 505, 3) := by decide +kernel
theorem dJ0_indexOf_7cf53_17 : decode cJ0_indexOf_7cf53 17 = .ok (.invokestatic 637, 3) := by decide +kernel
theorem dJ0_indexOf_7cf53_20 : decode cJ0_indexOf_7cf53 20 = .ok (.goto 16, 3) := by decide +kernel
theorem dJ0_indexOf_7cf53_23 : decode cJ0_indexOf_7cf53 23 = .ok (.aload_n 0, 1) := by decide +kernel
theorem dJ0_indexOf_7cf53_24 : decode cJ0_indexOf_7cf53 24 = .ok (.getfield 9, 3) := by decide +kernel
theorem dJ0_indexOf_7cf53_27 : decode cJ0_indexOf_7cf53 27 = .ok (.iload_n 1, 1) := by decide +kernel
theorem dJ0_indexOf_7cf53_28 : decode cJ0_indexOf_7cf53 28 = .ok (.iload_n 2, 1) := by decide +kernel
theorem dJ0_indexOf_7cf53_29 : decode cJ0_indexOf_7cf53 29 = .ok (.aload_n 0, 1) := by decide +kernel
theorem dJ0_indexOf_7cf53_30 : decode cJ0_indexOf_7cf53 30 = .ok (.invokevirtual 505, 3) := by decide +kernel
theorem dJ0_indexOf_7cf53_33 : decode cJ0_indexOf_7cf53 33 = .ok (.invokestatic 640, 3) := by decide +kernel
theorem dJ0_indexOf_7cf53_36 : decode cJ0_indexOf_7cf53 36 = .ok (.ireturn, 1) := by decide +kernel
theorem dJ0_isLatin1_aae02_0 : decode cJ0_isLatin1_aae02 0 = .ok (.getstatic 38, 3) := by decide +kernel
theorem dJ0_isLatin1_aae02_3 : decode cJ0_isLatin1_aae02 3 = .ok (.ifCond .eq 14, 3) := by decide +kernel
theorem dJ0_isLatin1_aae02_6 : decode cJ0_isLatin1_aae02 6 = .ok (.aload_n 0, 1) := by decide +kernel
theorem dJ0_isLatin1_aae02_7 : decode cJ0_isLatin1_aae02 7 = .ok (.getfield 15, 3) := by decide +kernel
theorem dJ0_isLatin1_aae02_10 : decode cJ0_isLatin1_aae02 10 = .ok (.ifCond .ne 7, 3) := by decide +kernel
theorem dJ0_isLatin1_aae02_13 : decode cJ0_isLatin1_aae02 13 = .ok (.iconst 1, 1) := by decide +kernel
theorem dJ0_isLatin1_aae02_14 : decode cJ0_isLatin1_aae02 14 = .ok (.goto 4, 3) := by decide +kernel
theorem dJ0_isLatin1_aae02_18 : decode cJ0_isLatin1_aae02 18 = .ok (.ireturn, 1) := by decide +kernel
theorem dJ0_length_8abf5_0 : decode cJ0_length_8abf5 0 = .ok (.aload_n 0, 1) := by decide +kernel
theorem dJ0_length_8abf5_1 : decode cJ0_length_8abf5 1 = .ok (.getfield 9, 3) := by decide +kernel
theorem dJ0_length_8abf5_4 : decode cJ0_length_8abf5 4 = .ok (.arraylength, 1) := by decide +kernel
theorem dJ0_length_8abf5_5 : decode cJ0_length_8abf5 5 = .ok (.aload_n 0, 1) := by decide +kernel
theorem dJ0_length_8abf5_6 : decode cJ0_length_8abf5 6 = .ok (.invokevirtual 335, 3) := by decide +kernel
theorem dJ0_length_8abf5_9 : decode cJ0_length_8abf5 9 = .ok (.ishr, 1) := by decide +kernel
theorem dJ0_length_8abf5_10 : decode cJ0_length_8abf5 10 = .ok (.ireturn, 1) := by decide +kernel
theorem dJ1_canEncode_9a6ad_0 : decode cJ1_canEncode_9a6ad 0 = .ok (.iload_n 0, 1) := by decide +kernel
theorem dJ1_canEncode_9a6ad_1 : decode cJ1_canEncode_9a6ad 1 = .ok (.ifCond .lt 14, 3) := by decide +kernel
theorem dJ1_canEncode_9a6ad_4 : decode cJ1_canEncode_9a6ad 4 = .ok (.iload_n 0, 1) := by decide +kernel
theorem dJ1_canEncode_9a6ad_5 : decode cJ1_canEncode_9a6ad 5 = .ok (.sipush 255, 3) := by decide +kernel
theorem dJ1_canEncode_9a6ad_8 : decode cJ1_canEncode_9a6ad 8 = .ok (.if_icmp .gt 7, 3) := by decide +kernel
theorem dJ1_canEncode_9a6ad_11 : decode cJ1_canEncode_9a6ad 11 = .ok (.iconst 1, 1) := by decide +kernel
theorem dJ1_canEncode_9a6ad_12 : decode cJ1_canEncode_9a6ad 12 = .ok (.goto 4, 3) := by decide +kernel
theorem dJ1_canEncode_9a6ad_15 : decode cJ1_canEncode_9a6ad 15 = .ok (.iconst 0, 1) := by decide +kernel
theorem dJ1_canEncode_9a6ad_16 : decode cJ1_canEncode_9a6ad 16 = .ok (.ireturn, 1) := by decide +kernel
theorem dJ1_charAt_3b067_0 : decode cJ1_charAt_3b067 0 = .ok (.iload_n 1, 1) := by decide +kernel
theorem dJ1_charAt_3b067_1 : decode cJ1_charAt_3b067 1 = .ok (.aload_n 0, 1) := by decide +kernel
theorem dJ1_charAt_3b067_2 : decode cJ1_charAt_3b067 2 = .ok (.arraylength, 1) := by decide +kernel
theorem dJ1_charAt_3b067_3 : decode cJ1_charAt_3b067 3 = .ok (.invokestatic 9, 3) := by decide +kernel
theorem dJ1_charAt_3b067_6 : decode cJ1_charAt_3b067 6 = .ok (.aload_n 0, 1) := by decide +kernel
theorem dJ1_charAt_3b067_7 : decode cJ1_charAt_3b067 7 = .ok (.iload_n 1, 1) := by decide +kernel
theorem dJ1_charAt_3b067_8 : decode cJ1_charAt_3b067 8 = .ok (.baload, 1) := by decide +kernel
theorem dJ1_charAt_3b067_9 : decode cJ1_charAt_3b067 9 = .ok (.sipush 255, 3) := by decide +kernel
theorem dJ1_charAt_3b067_12 : decode cJ1_charAt_3b067 12 = .ok (.iand, 1) := by decide +kernel
theorem dJ1_charAt_3b067_13 : decode cJ1_charAt_3b067 13 = .ok (.i2c, 1) := by decide +kernel
theorem dJ1_charAt_3b067_14 : decode cJ1_charAt_3b067 14 = .ok (.ireturn, 1) := by decide +kernel
theorem dJ1_indexOfChar_4cfef_0 : decode cJ1_indexOfChar_4cfef 0 = .ok (.iload_n 1, 1) := by decide +kernel
theorem dJ1_indexOfChar_4cfef_1 : decode cJ1_indexOfChar_4cfef 1 = .ok (.i2b, 1) := by decide +kernel
theorem dJ1_indexOfChar_4cfef_2 : decode cJ1_indexOfChar_4cfef 2 = .ok (.istore 4, 2) := by decide +kernel
theorem dJ1_indexOfChar_4cfef_4 : decode cJ1_indexOfChar_4cfef 4 = .ok (.iload_n 2, 1) := by decide +kernel
theorem dJ1_indexOfChar_4cfef_5 : decode cJ1_indexOfChar_4cfef 5 = .ok (.istore 5, 2) := by decide +kernel
theorem dJ1_indexOfChar_4cfef_7 : decode cJ1_indexOfChar_4cfef 7 = .ok (.iload 5, 2) := by decide +kernel
theorem dJ1_indexOfChar_4cfef_9 : decode cJ1_indexOfChar_4cfef 9 = .ok (.iload_n 3, 1) := by decide +kernel
theorem dJ1_indexOfChar_4cfef_10 : decode cJ1_indexOfChar_4cfef 10 = .ok (.if_icmp .ge 21, 3) := by decide +kernel
theorem dJ1_indexOfChar_4cfef_13 : decode cJ1_indexOfChar_4cfef 13 = .ok (.aload_n 0, 1) := by decide +kernel
theorem dJ1_indexOfChar_4cfef_14 : decode cJ1_indexOfChar_4cfef 14 = .ok (.iload 5, 2) := by decide +kernel
theorem dJ1_indexOfChar_4cfef_16 : decode cJ1_indexOfChar_4cfef 16 = .ok (.baload, 1) := by decide +kernel
theorem dJ1_indexOfChar_4cfef_17 : decode cJ1_indexOfChar_4cfef 17 = .ok (.iload 4, 2) := by decide +kernel
theorem dJ1_indexOfChar_4cfef_19 : decode cJ1_indexOfChar_4cfef 19 = .ok (.if_icmp .ne 6, 3) := by decide +kernel
theorem dJ1_indexOfChar_4cfef_22 : decode cJ1_indexOfChar_4cfef 22 = .ok (.iload 5, 2) := by decide +kernel
theorem dJ1_indexOfChar_4cfef_24 : decode cJ1_indexOfChar_4cfef 24 = .ok (.ireturn, 1) := by decide +kernel
theorem dJ1_indexOfChar_4cfef_25 : decode cJ1_indexOfChar_4cfef 25 = .ok (.iinc 5 1, 3) := by decide +kernel
theorem dJ1_indexOfChar_4cfef_28 : decode cJ1_indexOfChar_4cfef 28 = .ok (.goto (-21), 3) := by decide +kernel
theorem dJ1_indexOfChar_4cfef_31 : decode cJ1_indexOfChar_4cfef 31 = .ok (.iconst (-1), 1) := by decide +kernel
theorem dJ1_indexOfChar_4cfef_32 : decode cJ1_indexOfChar_4cfef 32 = .ok (.ireturn, 1) := by decide +kernel
theorem dJ1_indexOf_4cfef_0 : decode cJ1_indexOf_4cfef 0 = .ok (.iload_n 1, 1) := by decide +kernel
theorem dJ1_indexOf_4cfef_1 : decode cJ1_indexOf_4cfef 1 = .ok (.invokestatic 88, 3) := by decide +kernel
theorem dJ1_indexOf_4cfef_4 : decode cJ1_indexOf_4cfef 4 = .ok (.ifCond .ne 5, 3) := by decide +kernel
theorem dJ1_indexOf_4cfef_7 : decode cJ1_indexOf_4cfef 7 = .ok (.iconst (-1), 1) := by decide +kernel
theorem dJ1_indexOf_4cfef_8 : decode cJ1_indexOf_4cfef 8 = .ok (.ireturn, 1) := by decide +kernel
theorem dJ1_indexOf_4cfef_9 : decode cJ1_indexOf_4cfef 9 = .ok (.iload_n 2, 1) := by decide +kernel
theorem dJ1_indexOf_4cfef_10 : decode cJ1_indexOf_4cfef 10 = .ok (.iconst 0, 1) := by decide +kernel
theorem dJ1_indexOf_4cfef_11 : decode cJ1_indexOf_4cfef 11 = .ok (.invokestatic 92, 3) := by decide +kernel
theorem dJ1_indexOf_4cfef_14 : decode cJ1_indexOf_4cfef 14 = .ok (.istore_n 2, 1) := by decide +kernel
theorem dJ1_indexOf_4cfef_15 : decode cJ1_indexOf_4cfef 15 = .ok (.iload_n 3, 1) := by decide +kernel
theorem dJ1_indexOf_4cfef_16 : decode cJ1_indexOf_4cfef 16 = .ok (.aload_n 0, 1) := by decide +kernel
theorem dJ1_indexOf_4cfef_17 : decode cJ1_indexOf_4cfef 17 = .ok (.arraylength, 1) := by decide +kernel
theorem dJ1_indexOf_4cfef_18 : decode cJ1_indexOf_4cfef 18 = .ok (.invokestatic 38, 3) := by decide +kernel
theorem dJ1_indexOf_4cfef_21 : decode cJ1_indexOf_4cfef 21 = .ok (.istore_n 3, 1) := by decide +kernel
theorem dJ1_indexOf_4cfef_22 : decode cJ1_indexOf_4cfef 22 = .ok (.iload_n 2, 1) := by decide +kernel
theorem dJ1_indexOf_4cfef_23 : decode cJ1_indexOf_4cfef 23 = .ok (.iload_n 3, 1) := by decide +kernel
theorem dJ1_indexOf_4cfef_24 : decode cJ1_indexOf_4cfef 24 = .ok (.if_icmp .lt 5, 3) := by decide +kernel
theorem dJ1_indexOf_4cfef_27 : decode cJ1_indexOf_4cfef 27 = .ok (.iconst (-1), 1) := by decide +kernel
theorem dJ1_indexOf_4cfef_28 : decode cJ1_indexOf_4cfef 28 = .ok (.ireturn, 1) := by decide +kernel
theorem dJ1_indexOf_4cfef_29 : decode cJ1_indexOf_4cfef 29 = .ok (.aload_n 0, 1) := by decide +kernel
theorem dJ1_indexOf_4cfef_30 : decode cJ1_indexOf_4cfef 30 = .ok (.iload_n 1, 1) := by decide +kernel
theorem dJ1_indexOf_4cfef_31 : decode cJ1_indexOf_4cfef 31 = .ok (.iload_n 2, 1) := by decide +kernel
theorem dJ1_indexOf_4cfef_32 : decode cJ1_indexOf_4cfef 32 = .ok (.iload_n 3, 1) := by decide +kernel
theorem dJ1_indexOf_4cfef_33 : decode cJ1_indexOf_4cfef 33 = .ok (.invokestatic 95, 3) := by decide +kernel
theorem dJ1_indexOf_4cfef_36 : decode cJ1_indexOf_4cfef 36 = .ok (.ireturn, 1) := by decide +kernel
theorem dJ3_checkIndex_8e157_0 : decode cJ3_checkIndex_8e157 0 = .ok (.iload_n 0, 1) := by decide +kernel
theorem dJ3_checkIndex_8e157_1 : decode cJ3_checkIndex_8e157 1 = .ok (.ifCond .lt 8, 3) := by decide +kernel
theorem dJ3_checkIndex_8e157_4 : decode cJ3_checkIndex_8e157 4 = .ok (.iload_n 0, 1) := by decide +kernel
theorem dJ3_checkIndex_8e157_5 : decode cJ3_checkIndex_8e157 5 = .ok (.iload_n 1, 1) := by decide +kernel
theorem dJ3_checkIndex_8e157_6 : decode cJ3_checkIndex_8e157 6 = .ok (.if_icmp .lt 10, 3) := by decide +kernel
theorem dJ3_checkIndex_8e157_9 : decode cJ3_checkIndex_8e157 9 = .ok (.aload_n 2, 1) := by decide +kernel
theorem dJ3_checkIndex_8e157_10 : decode cJ3_checkIndex_8e157 10 = .ok (.iload_n 0, 1) := by decide +kernel
theorem dJ3_checkIndex_8e157_11 : decode cJ3_checkIndex_8e157 11 = .ok (.iload_n 1, 1) := by decide +kernel
theorem dJ3_checkIndex_8e157_12 : decode cJ3_checkIndex_8e157 12 = .ok (.invokestatic 95, 3) := by decide +kernel
theorem dJ3_checkIndex_8e157_15 : decode cJ3_checkIndex_8e157 15 = .ok (.athrow, 1) := by decide +kernel
theorem dJ3_checkIndex_8e157_16 : decode cJ3_checkIndex_8e157 16 = .ok (.iload_n 0, 1) := by decide +kernel
theorem dJ3_checkIndex_8e157_17 : decode cJ3_checkIndex_8e157 17 = .ok (.ireturn, 1) := by decide +kernel
theorem dJ7_fill_53178_0 : decode cJ7_fill_53178 0 = .ok (.iconst 0, 1) := by decide +kernel
theorem dJ7_fill_53178_1 : decode cJ7_fill_53178 1 = .ok (.istore_n 2, 1) := by decide +kernel
theorem dJ7_fill_53178_2 : decode cJ7_fill_53178 2 = .ok (.aload_n 0, 1) := by decide +kernel
theorem dJ7_fill_53178_3 : decode cJ7_fill_53178 3 = .ok (.arraylength, 1) := by decide +kernel
theorem dJ7_fill_53178_4 : decode cJ7_fill_53178 4 = .ok (.istore_n 3, 1) := by decide +kernel
theorem dJ7_fill_53178_5 : decode cJ7_fill_53178 5 = .ok (.iload_n 2, 1) := by decide +kernel
theorem dJ7_fill_53178_6 : decode cJ7_fill_53178 6 = .ok (.iload_n 3, 1) := by decide +kernel
theorem dJ7_fill_53178_7 : decode cJ7_fill_53178 7 = .ok (.if_icmp .ge 13, 3) := by decide +kernel
theorem dJ7_fill_53178_10 : decode cJ7_fill_53178 10 = .ok (.aload_n 0, 1) := by decide +kernel
theorem dJ7_fill_53178_11 : decode cJ7_fill_53178 11 = .ok (.iload_n 2, 1) := by decide +kernel
theorem dJ7_fill_53178_12 : decode cJ7_fill_53178 12 = .ok (.iload_n 1, 1) := by decide +kernel
theorem dJ7_fill_53178_13 : decode cJ7_fill_53178 13 = .ok (.iastore, 1) := by decide +kernel
theorem dJ7_fill_53178_14 : decode cJ7_fill_53178 14 = .ok (.iinc 2 1, 3) := by decide +kernel
theorem dJ7_fill_53178_17 : decode cJ7_fill_53178 17 = .ok (.goto (-12), 3) := by decide +kernel
theorem dJ7_fill_53178_20 : decode cJ7_fill_53178 20 = .ok (.return_, 1) := by decide +kernel
theorem dJ7_fill_d0a16_0 : decode cJ7_fill_d0a16 0 = .ok (.iconst 0, 1) := by decide +kernel
theorem dJ7_fill_d0a16_1 : decode cJ7_fill_d0a16 1 = .ok (.istore_n 3, 1) := by decide +kernel
theorem dJ7_fill_d0a16_2 : decode cJ7_fill_d0a16 2 = .ok (.aload_n 0, 1) := by decide +kernel
theorem dJ7_fill_d0a16_3 : decode cJ7_fill_d0a16 3 = .ok (.arraylength, 1) := by decide +kernel
theorem dJ7_fill_d0a16_4 : decode cJ7_fill_d0a16 4 = .ok (.istore 4, 2) := by decide +kernel
theorem dJ7_fill_d0a16_6 : decode cJ7_fill_d0a16 6 = .ok (.iload_n 3, 1) := by decide +kernel
theorem dJ7_fill_d0a16_7 : decode cJ7_fill_d0a16 7 = .ok (.iload 4, 2) := by decide +kernel
theorem dJ7_fill_d0a16_9 : decode cJ7_fill_d0a16 9 = .ok (.if_icmp .ge 13, 3) := by decide +kernel
theorem dJ7_fill_d0a16_12 : decode cJ7_fill_d0a16 12 = .ok (.aload_n 0, 1) := by decide +kernel
theorem dJ7_fill_d0a16_13 : decode cJ7_fill_d0a16 13 = .ok (.iload_n 3, 1) := by decide +kernel
theorem dJ7_fill_d0a16_14 : decode cJ7_fill_d0a16 14 = .ok (.lload_n 1, 1) := by decide +kernel
theorem dJ7_fill_d0a16_15 : decode cJ7_fill_d0a16 15 = .ok (.lastore, 1) := by decide +kernel
theorem dJ7_fill_d0a16_16 : decode cJ7_fill_d0a16 16 = .ok (.iinc 3 1, 3) := by decide +kernel
theorem dJ7_fill_d0a16_19 : decode cJ7_fill_d0a16 19 = .ok (.goto (-13), 3) := by decide +kernel
theorem dJ7_fill_d0a16_22 : decode cJ7_fill_d0a16 22 = .ok (.return_, 1) := by decide +kernel
theorem dJ7_fill_fda19_0 : decode cJ7_fill_fda19 0 = .ok (.aload_n 0, 1) := by decide +kernel
theorem dJ7_fill_fda19_1 : decode cJ7_fill_fda19 1 = .ok (.arraylength, 1) := by decide +kernel
theorem dJ7_fill_fda19_2 : decode cJ7_fill_fda19 2 = .ok (.iload_n 1, 1) := by decide +kernel
theorem dJ7_fill_fda19_3 : decode cJ7_fill_fda19 3 = .ok (.iload_n 2, 1) := by decide +kernel
theorem dJ7_fill_fda19_4 : decode cJ7_fill_fda19 4 = .ok (.invokestatic 13, 3) := by decide +kernel
theorem dJ7_fill_fda19_7 : decode cJ7_fill_fda19 7 = .ok (.iload_n 1, 1) := by decide +kernel
theorem dJ7_fill_fda19_8 : decode cJ7_fill_fda19 8 = .ok (.istore 4, 2) := by decide +kernel
theorem dJ7_fill_fda19_10 : decode cJ7_fill_fda19 10 = .ok (.iload 4, 2) := by decide +kernel
theorem dJ7_fill_fda19_12 : decode cJ7_fill_fda19 12 = .ok (.iload_n 2, 1) := by decide +kernel
theorem dJ7_fill_fda19_13 : decode cJ7_fill_fda19 13 = .ok (.if_icmp .ge 14, 3) := by decide +kernel
theorem dJ7_fill_fda19_16 : decode cJ7_fill_fda19 16 = .ok (.aload_n 0, 1) := by decide +kernel
theorem dJ7_fill_fda19_17 : decode cJ7_fill_fda19 17 = .ok (.iload 4, 2) := by decide +kernel
theorem dJ7_fill_fda19_19 : decode cJ7_fill_fda19 19 = .ok (.iload_n 3, 1) := by decide +kernel
theorem dJ7_fill_fda19_20 : decode cJ7_fill_fda19 20 = .ok (.iastore, 1) := by decide +kernel
theorem dJ7_fill_fda19_21 : decode cJ7_fill_fda19 21 = .ok (.iinc 4 1, 3) := by decide +kernel
theorem dJ7_fill_fda19_24 : decode cJ7_fill_fda19 24 = .ok (.goto (-14), 3) := by decide +kernel
theorem dJ7_fill_fda19_27 : decode cJ7_fill_fda19 27 = .ok (.return_, 1) := by decide +kernel
theorem dL_answer_0 : decode cL_answer 0 = .ok (.aload_n 3, 1) := by decide +kernel
theorem dL_answer_1 : decode cL_answer 1 = .ok (.iconst 0, 1) := by decide +kernel
theorem dL_answer_2 : decode cL_answer 2 = .ok (.aload_n 0, 1) := by decide +kernel
theorem dL_answer_3 : decode cL_answer 3 = .ok (.iload_n 1, 1) := by decide +kernel
theorem dL_answer_4 : decode cL_answer 4 = .ok (.iload_n 2, 1) := by decide +kernel
theorem dL_answer_5 : decode cL_answer 5 = .ok (.invokevirtual 94, 3) := by decide +kernel
theorem dL_answer_8 : decode cL_answer 8 = .ok (.lastore, 1) := by decide +kernel
theorem dL_answer_9 : decode cL_answer 9 = .ok (.goto 7, 3) := by decide +kernel
theorem dL_answer_12 : decode cL_answer 12 = .ok (.astore 4, 2) := by decide +kernel
theorem dL_answer_14 : decode cL_answer 14 = .ok (.iconst 1, 1) := by decide +kernel
theorem dL_answer_15 : decode cL_answer 15 = .ok (.ireturn, 1) := by decide +kernel
theorem dL_answer_16 : decode cL_answer 16 = .ok (.iconst 0, 1) := by decide +kernel
theorem dL_answer_17 : decode cL_answer 17 = .ok (.ireturn, 1) := by decide +kernel
theorem dL_ask_0 : decode cL_ask 0 = .ok (.aload_n 2, 1) := by decide +kernel
theorem dL_ask_1 : decode cL_ask 1 = .ok (.iconst 0, 1) := by decide +kernel
theorem dL_ask_2 : decode cL_ask 2 = .ok (.aload_n 0, 1) := by decide +kernel
theorem dL_ask_3 : decode cL_ask 3 = .ok (.iload_n 1, 1) := by decide +kernel
theorem dL_ask_4 : decode cL_ask 4 = .ok (.invokevirtual 91, 3) := by decide +kernel
theorem dL_ask_7 : decode cL_ask 7 = .ok (.i2l, 1) := by decide +kernel
theorem dL_ask_8 : decode cL_ask 8 = .ok (.lastore, 1) := by decide +kernel
theorem dL_ask_9 : decode cL_ask 9 = .ok (.goto 9, 3) := by decide +kernel
theorem dL_ask_12 : decode cL_ask 12 = .ok (.astore_n 3, 1) := by decide +kernel
theorem dL_ask_13 : decode cL_ask 13 = .ok (.iconst 1, 1) := by decide +kernel
theorem dL_ask_14 : decode cL_ask 14 = .ok (.ireturn, 1) := by decide +kernel
theorem dL_ask_15 : decode cL_ask 15 = .ok (.astore_n 3, 1) := by decide +kernel
theorem dL_ask_16 : decode cL_ask 16 = .ok (.iconst 2, 1) := by decide +kernel
theorem dL_ask_17 : decode cL_ask 17 = .ok (.ireturn, 1) := by decide +kernel
theorem dL_ask_18 : decode cL_ask 18 = .ok (.iconst 0, 1) := by decide +kernel
theorem dL_ask_19 : decode cL_ask 19 = .ok (.ireturn, 1) := by decide +kernel
theorem dL_broken_0 : decode cL_broken 0 = .ok (.aload_n 2, 1) := by decide +kernel
theorem dL_broken_1 : decode cL_broken 1 = .ok (.iconst 0, 1) := by decide +kernel
theorem dL_broken_2 : decode cL_broken 2 = .ok (.aload_n 0, 1) := by decide +kernel
theorem dL_broken_3 : decode cL_broken 3 = .ok (.iload_n 1, 1) := by decide +kernel
theorem dL_broken_4 : decode cL_broken 4 = .ok (.invokevirtual 64, 3) := by decide +kernel
theorem dL_broken_7 : decode cL_broken 7 = .ok (.i2l, 1) := by decide +kernel
theorem dL_broken_8 : decode cL_broken 8 = .ok (.lastore, 1) := by decide +kernel
theorem dL_broken_9 : decode cL_broken 9 = .ok (.goto 6, 3) := by decide +kernel
theorem dL_broken_12 : decode cL_broken 12 = .ok (.astore_n 3, 1) := by decide +kernel
theorem dL_broken_13 : decode cL_broken 13 = .ok (.iconst 1, 1) := by decide +kernel
theorem dL_broken_14 : decode cL_broken 14 = .ok (.ireturn, 1) := by decide +kernel
theorem dL_broken_15 : decode cL_broken 15 = .ok (.iconst 0, 1) := by decide +kernel
theorem dL_broken_16 : decode cL_broken 16 = .ok (.ireturn, 1) := by decide +kernel
theorem dL_bytes_0 : decode cL_bytes 0 = .ok (.aload_n 2, 1) := by decide +kernel
theorem dL_bytes_1 : decode cL_bytes 1 = .ok (.iconst 0, 1) := by decide +kernel
theorem dL_bytes_2 : decode cL_bytes 2 = .ok (.aload_n 0, 1) := by decide +kernel
theorem dL_bytes_3 : decode cL_bytes 3 = .ok (.iload_n 1, 1) := by decide +kernel
theorem dL_bytes_4 : decode cL_bytes 4 = .ok (.invokevirtual 104, 3) := by decide +kernel
theorem dL_bytes_7 : decode cL_bytes 7 = .ok (.i2l, 1) := by decide +kernel
theorem dL_bytes_8 : decode cL_bytes 8 = .ok (.lastore, 1) := by decide +kernel
theorem dL_bytes_9 : decode cL_bytes 9 = .ok (.goto 9, 3) := by decide +kernel
theorem dL_bytes_12 : decode cL_bytes 12 = .ok (.astore_n 3, 1) := by decide +kernel
theorem dL_bytes_13 : decode cL_bytes 13 = .ok (.iconst 1, 1) := by decide +kernel
theorem dL_bytes_14 : decode cL_bytes 14 = .ok (.ireturn, 1) := by decide +kernel
theorem dL_bytes_15 : decode cL_bytes 15 = .ok (.astore_n 3, 1) := by decide +kernel
theorem dL_bytes_16 : decode cL_bytes 16 = .ok (.iconst 2, 1) := by decide +kernel
theorem dL_bytes_17 : decode cL_bytes 17 = .ok (.ireturn, 1) := by decide +kernel
theorem dL_bytes_18 : decode cL_bytes 18 = .ok (.iconst 0, 1) := by decide +kernel
theorem dL_bytes_19 : decode cL_bytes 19 = .ok (.ireturn, 1) := by decide +kernel
theorem dL_copy_0 : decode cL_copy 0 = .ok (.aload_n 3, 1) := by decide +kernel
theorem dL_copy_1 : decode cL_copy 1 = .ok (.iconst 0, 1) := by decide +kernel
theorem dL_copy_2 : decode cL_copy 2 = .ok (.aload_n 0, 1) := by decide +kernel
theorem dL_copy_3 : decode cL_copy 3 = .ok (.iload_n 1, 1) := by decide +kernel
theorem dL_copy_4 : decode cL_copy 4 = .ok (.iload_n 2, 1) := by decide +kernel
theorem dL_copy_5 : decode cL_copy 5 = .ok (.invokevirtual 49, 3) := by decide +kernel
theorem dL_copy_8 : decode cL_copy 8 = .ok (.i2l, 1) := by decide +kernel
theorem dL_copy_9 : decode cL_copy 9 = .ok (.lastore, 1) := by decide +kernel
theorem dL_copy_10 : decode cL_copy 10 = .ok (.goto 15, 3) := by decide +kernel
theorem dL_copy_13 : decode cL_copy 13 = .ok (.astore 4, 2) := by decide +kernel
theorem dL_copy_15 : decode cL_copy 15 = .ok (.iconst 1, 1) := by decide +kernel
theorem dL_copy_16 : decode cL_copy 16 = .ok (.ireturn, 1) := by decide +kernel
theorem dL_copy_17 : decode cL_copy 17 = .ok (.astore 4, 2) := by decide +kernel
theorem dL_copy_19 : decode cL_copy 19 = .ok (.iconst 2, 1) := by decide +kernel
theorem dL_copy_20 : decode cL_copy 20 = .ok (.ireturn, 1) := by decide +kernel
theorem dL_copy_21 : decode cL_copy 21 = .ok (.astore 4, 2) := by decide +kernel
theorem dL_copy_23 : decode cL_copy 23 = .ok (.iconst 3, 1) := by decide +kernel
theorem dL_copy_24 : decode cL_copy 24 = .ok (.ireturn, 1) := by decide +kernel
theorem dL_copy_25 : decode cL_copy 25 = .ok (.iconst 0, 1) := by decide +kernel
theorem dL_copy_26 : decode cL_copy 26 = .ok (.ireturn, 1) := by decide +kernel
theorem dL_field_0 : decode cL_field 0 = .ok (.aload 5, 2) := by decide +kernel
theorem dL_field_2 : decode cL_field 2 = .ok (.iconst 0, 1) := by decide +kernel
theorem dL_field_3 : decode cL_field 3 = .ok (.aload_n 0, 1) := by decide +kernel
theorem dL_field_4 : decode cL_field 4 = .ok (.iload_n 1, 1) := by decide +kernel
theorem dL_field_5 : decode cL_field 5 = .ok (.iload_n 2, 1) := by decide +kernel
theorem dL_field_6 : decode cL_field 6 = .ok (.iload_n 3, 1) := by decide +kernel
theorem dL_field_7 : decode cL_field 7 = .ok (.iload 4, 2) := by decide +kernel
theorem dL_field_9 : decode cL_field 9 = .ok (.invokevirtual 19, 3) := by decide +kernel
theorem dL_field_12 : decode cL_field 12 = .ok (.i2l, 1) := by decide +kernel
theorem dL_field_13 : decode cL_field 13 = .ok (.lastore, 1) := by decide +kernel
theorem dL_field_14 : decode cL_field 14 = .ok (.goto 15, 3) := by decide +kernel
theorem dL_field_17 : decode cL_field 17 = .ok (.astore 6, 2) := by decide +kernel
theorem dL_field_19 : decode cL_field 19 = .ok (.iconst 1, 1) := by decide +kernel
theorem dL_field_20 : decode cL_field 20 = .ok (.ireturn, 1) := by decide +kernel
theorem dL_field_21 : decode cL_field 21 = .ok (.astore 6, 2) := by decide +kernel
theorem dL_field_23 : decode cL_field 23 = .ok (.iconst 2, 1) := by decide +kernel
theorem dL_field_24 : decode cL_field 24 = .ok (.ireturn, 1) := by decide +kernel
theorem dL_field_25 : decode cL_field 25 = .ok (.astore 6, 2) := by decide +kernel
theorem dL_field_27 : decode cL_field 27 = .ok (.iconst 3, 1) := by decide +kernel
theorem dL_field_28 : decode cL_field 28 = .ok (.ireturn, 1) := by decide +kernel
theorem dL_field_29 : decode cL_field 29 = .ok (.iconst 0, 1) := by decide +kernel
theorem dL_field_30 : decode cL_field 30 = .ok (.ireturn, 1) := by decide +kernel
theorem dL_get_0 : decode cL_get 0 = .ok (.aload_n 3, 1) := by decide +kernel
theorem dL_get_1 : decode cL_get 1 = .ok (.iconst 0, 1) := by decide +kernel
theorem dL_get_2 : decode cL_get 2 = .ok (.aload_n 0, 1) := by decide +kernel
theorem dL_get_3 : decode cL_get 3 = .ok (.iload_n 1, 1) := by decide +kernel
theorem dL_get_4 : decode cL_get 4 = .ok (.iload_n 2, 1) := by decide +kernel
theorem dL_get_5 : decode cL_get 5 = .ok (.invokevirtual 39, 3) := by decide +kernel
theorem dL_get_8 : decode cL_get 8 = .ok (.lastore, 1) := by decide +kernel
theorem dL_get_9 : decode cL_get 9 = .ok (.goto 7, 3) := by decide +kernel
theorem dL_get_12 : decode cL_get 12 = .ok (.astore 4, 2) := by decide +kernel
theorem dL_get_14 : decode cL_get 14 = .ok (.iconst 1, 1) := by decide +kernel
theorem dL_get_15 : decode cL_get 15 = .ok (.ireturn, 1) := by decide +kernel
theorem dL_get_16 : decode cL_get 16 = .ok (.iconst 0, 1) := by decide +kernel
theorem dL_get_17 : decode cL_get 17 = .ok (.ireturn, 1) := by decide +kernel
theorem dL_getStatic_0 : decode cL_getStatic 0 = .ok (.aload_n 3, 1) := by decide +kernel
theorem dL_getStatic_1 : decode cL_getStatic 1 = .ok (.iconst 0, 1) := by decide +kernel
theorem dL_getStatic_2 : decode cL_getStatic 2 = .ok (.aload_n 0, 1) := by decide +kernel
theorem dL_getStatic_3 : decode cL_getStatic 3 = .ok (.iload_n 1, 1) := by decide +kernel
theorem dL_getStatic_4 : decode cL_getStatic 4 = .ok (.iload_n 2, 1) := by decide +kernel
theorem dL_getStatic_5 : decode cL_getStatic 5 = .ok (.invokevirtual 43, 3) := by decide +kernel
theorem dL_getStatic_8 : decode cL_getStatic 8 = .ok (.lastore, 1) := by decide +kernel
theorem dL_getStatic_9 : decode cL_getStatic 9 = .ok (.goto 7, 3) := by decide +kernel
theorem dL_getStatic_12 : decode cL_getStatic 12 = .ok (.astore 4, 2) := by decide +kernel
theorem dL_getStatic_14 : decode cL_getStatic 14 = .ok (.iconst 1, 1) := by decide +kernel
theorem dL_getStatic_15 : decode cL_getStatic 15 = .ok (.ireturn, 1) := by decide +kernel
theorem dL_getStatic_16 : decode cL_getStatic 16 = .ok (.iconst 0, 1) := by decide +kernel
theorem dL_getStatic_17 : decode cL_getStatic 17 = .ok (.ireturn, 1) := by decide +kernel
theorem dL_growth_0 : decode cL_growth 0 = .ok (.aload 4, 2) := by decide +kernel
theorem dL_growth_2 : decode cL_growth 2 = .ok (.iconst 0, 1) := by decide +kernel
theorem dL_growth_3 : decode cL_growth 3 = .ok (.aload_n 0, 1) := by decide +kernel
theorem dL_growth_4 : decode cL_growth 4 = .ok (.iload_n 1, 1) := by decide +kernel
theorem dL_growth_5 : decode cL_growth 5 = .ok (.iload_n 2, 1) := by decide +kernel
theorem dL_growth_6 : decode cL_growth 6 = .ok (.iload_n 3, 1) := by decide +kernel
theorem dL_growth_7 : decode cL_growth 7 = .ok (.invokevirtual 84, 3) := by decide +kernel
theorem dL_growth_10 : decode cL_growth 10 = .ok (.i2l, 1) := by decide +kernel
theorem dL_growth_11 : decode cL_growth 11 = .ok (.lastore, 1) := by decide +kernel
theorem dL_growth_12 : decode cL_growth 12 = .ok (.goto 7, 3) := by decide +kernel
theorem dL_growth_15 : decode cL_growth 15 = .ok (.astore 5, 2) := by decide +kernel
theorem dL_growth_17 : decode cL_growth 17 = .ok (.iconst 1, 1) := by decide +kernel
theorem dL_growth_18 : decode cL_growth 18 = .ok (.ireturn, 1) := by decide +kernel
theorem dL_growth_19 : decode cL_growth 19 = .ok (.iconst 0, 1) := by decide +kernel
theorem dL_growth_20 : decode cL_growth 20 = .ok (.ireturn, 1) := by decide +kernel
theorem dL_holder_0 : decode cL_holder 0 = .ok (.aload 5, 2) := by decide +kernel
theorem dL_holder_2 : decode cL_holder 2 = .ok (.iconst 0, 1) := by decide +kernel
theorem dL_holder_3 : decode cL_holder 3 = .ok (.aload_n 0, 1) := by decide +kernel
theorem dL_holder_4 : decode cL_holder 4 = .ok (.iload_n 1, 1) := by decide +kernel
theorem dL_holder_5 : decode cL_holder 5 = .ok (.iload_n 2, 1) := by decide +kernel
theorem dL_holder_6 : decode cL_holder 6 = .ok (.iload_n 3, 1) := by decide +kernel
theorem dL_holder_7 : decode cL_holder 7 = .ok (.iload 4, 2) := by decide +kernel
theorem dL_holder_9 : decode cL_holder 9 = .ok (.invokevirtual 74, 3) := by decide +kernel
theorem dL_holder_12 : decode cL_holder 12 = .ok (.i2l, 1) := by decide +kernel
theorem dL_holder_13 : decode cL_holder 13 = .ok (.lastore, 1) := by decide +kernel
theorem dL_holder_14 : decode cL_holder 14 = .ok (.goto 7, 3) := by decide +kernel
theorem dL_holder_17 : decode cL_holder 17 = .ok (.astore 6, 2) := by decide +kernel
theorem dL_holder_19 : decode cL_holder 19 = .ok (.iconst 1, 1) := by decide +kernel
theorem dL_holder_20 : decode cL_holder 20 = .ok (.ireturn, 1) := by decide +kernel
theorem dL_holder_21 : decode cL_holder 21 = .ok (.iconst 0, 1) := by decide +kernel
theorem dL_holder_22 : decode cL_holder 22 = .ok (.ireturn, 1) := by decide +kernel
theorem dL_isFact_0 : decode cL_isFact 0 = .ok (.aload 4, 2) := by decide +kernel
theorem dL_isFact_2 : decode cL_isFact 2 = .ok (.iconst 0, 1) := by decide +kernel
theorem dL_isFact_3 : decode cL_isFact 3 = .ok (.aload_n 0, 1) := by decide +kernel
theorem dL_isFact_4 : decode cL_isFact 4 = .ok (.iload_n 1, 1) := by decide +kernel
theorem dL_isFact_5 : decode cL_isFact 5 = .ok (.iload_n 2, 1) := by decide +kernel
theorem dL_isFact_6 : decode cL_isFact 6 = .ok (.iload_n 3, 1) := by decide +kernel
theorem dL_isFact_7 : decode cL_isFact 7 = .ok (.invokevirtual 100, 3) := by decide +kernel
theorem dL_isFact_10 : decode cL_isFact 10 = .ok (.ifCond .eq 7, 3) := by decide +kernel
theorem dL_isFact_13 : decode cL_isFact 13 = .ok (.lconst 1, 1) := by decide +kernel
theorem dL_isFact_14 : decode cL_isFact 14 = .ok (.goto 4, 3) := by decide +kernel
theorem dL_isFact_17 : decode cL_isFact 17 = .ok (.lconst 0, 1) := by decide +kernel
theorem dL_isFact_18 : decode cL_isFact 18 = .ok (.lastore, 1) := by decide +kernel
theorem dL_isFact_19 : decode cL_isFact 19 = .ok (.goto 7, 3) := by decide +kernel
theorem dL_isFact_22 : decode cL_isFact 22 = .ok (.astore 5, 2) := by decide +kernel
theorem dL_isFact_24 : decode cL_isFact 24 = .ok (.iconst 1, 1) := by decide +kernel
theorem dL_isFact_25 : decode cL_isFact 25 = .ok (.ireturn, 1) := by decide +kernel
theorem dL_isFact_26 : decode cL_isFact 26 = .ok (.iconst 0, 1) := by decide +kernel
theorem dL_isFact_27 : decode cL_isFact 27 = .ok (.ireturn, 1) := by decide +kernel
theorem dL_keep_0 : decode cL_keep 0 = .ok (.aload_n 2, 1) := by decide +kernel
theorem dL_keep_1 : decode cL_keep 1 = .ok (.iconst 0, 1) := by decide +kernel
theorem dL_keep_2 : decode cL_keep 2 = .ok (.aload_n 0, 1) := by decide +kernel
theorem dL_keep_3 : decode cL_keep 3 = .ok (.iload_n 1, 1) := by decide +kernel
theorem dL_keep_4 : decode cL_keep 4 = .ok (.invokevirtual 110, 3) := by decide +kernel
theorem dL_keep_7 : decode cL_keep 7 = .ok (.i2l, 1) := by decide +kernel
theorem dL_keep_8 : decode cL_keep 8 = .ok (.lastore, 1) := by decide +kernel
theorem dL_keep_9 : decode cL_keep 9 = .ok (.goto 9, 3) := by decide +kernel
theorem dL_keep_12 : decode cL_keep 12 = .ok (.astore_n 3, 1) := by decide +kernel
theorem dL_keep_13 : decode cL_keep 13 = .ok (.iconst 1, 1) := by decide +kernel
theorem dL_keep_14 : decode cL_keep 14 = .ok (.ireturn, 1) := by decide +kernel
theorem dL_keep_15 : decode cL_keep 15 = .ok (.astore_n 3, 1) := by decide +kernel
theorem dL_keep_16 : decode cL_keep 16 = .ok (.iconst 2, 1) := by decide +kernel
theorem dL_keep_17 : decode cL_keep 17 = .ok (.ireturn, 1) := by decide +kernel
theorem dL_keep_18 : decode cL_keep 18 = .ok (.iconst 0, 1) := by decide +kernel
theorem dL_keep_19 : decode cL_keep 19 = .ok (.ireturn, 1) := by decide +kernel
theorem dL_like_0 : decode cL_like 0 = .ok (.aload 5, 2) := by decide +kernel
theorem dL_like_2 : decode cL_like 2 = .ok (.iconst 0, 1) := by decide +kernel
theorem dL_like_3 : decode cL_like 3 = .ok (.aload_n 0, 1) := by decide +kernel
theorem dL_like_4 : decode cL_like 4 = .ok (.iload_n 1, 1) := by decide +kernel
theorem dL_like_5 : decode cL_like 5 = .ok (.iload_n 2, 1) := by decide +kernel
theorem dL_like_6 : decode cL_like 6 = .ok (.iload_n 3, 1) := by decide +kernel
theorem dL_like_7 : decode cL_like 7 = .ok (.iload 4, 2) := by decide +kernel
theorem dL_like_9 : decode cL_like 9 = .ok (.invokevirtual 87, 3) := by decide +kernel
theorem dL_like_12 : decode cL_like 12 = .ok (.ifCond .eq 7, 3) := by decide +kernel
theorem dL_like_15 : decode cL_like 15 = .ok (.lconst 1, 1) := by decide +kernel
theorem dL_like_16 : decode cL_like 16 = .ok (.goto 4, 3) := by decide +kernel
theorem dL_like_19 : decode cL_like 19 = .ok (.lconst 0, 1) := by decide +kernel
theorem dL_like_20 : decode cL_like 20 = .ok (.lastore, 1) := by decide +kernel
theorem dL_like_21 : decode cL_like 21 = .ok (.goto 7, 3) := by decide +kernel
theorem dL_like_24 : decode cL_like 24 = .ok (.astore 6, 2) := by decide +kernel
theorem dL_like_26 : decode cL_like 26 = .ok (.iconst 1, 1) := by decide +kernel
theorem dL_like_27 : decode cL_like 27 = .ok (.ireturn, 1) := by decide +kernel
theorem dL_like_28 : decode cL_like 28 = .ok (.iconst 0, 1) := by decide +kernel
theorem dL_like_29 : decode cL_like 29 = .ok (.ireturn, 1) := by decide +kernel
theorem dL_load_0 : decode cL_load 0 = .ok (.aload_n 2, 1) := by decide +kernel
theorem dL_load_1 : decode cL_load 1 = .ok (.iconst 0, 1) := by decide +kernel
theorem dL_load_2 : decode cL_load 2 = .ok (.aload_n 0, 1) := by decide +kernel
theorem dL_load_3 : decode cL_load 3 = .ok (.iload_n 1, 1) := by decide +kernel
theorem dL_load_4 : decode cL_load 4 = .ok (.invokevirtual 107, 3) := by decide +kernel
theorem dL_load_7 : decode cL_load 7 = .ok (.i2l, 1) := by decide +kernel
theorem dL_load_8 : decode cL_load 8 = .ok (.lastore, 1) := by decide +kernel
theorem dL_load_9 : decode cL_load 9 = .ok (.goto 9, 3) := by decide +kernel
theorem dL_load_12 : decode cL_load 12 = .ok (.astore_n 3, 1) := by decide +kernel
theorem dL_load_13 : decode cL_load 13 = .ok (.iconst 1, 1) := by decide +kernel
theorem dL_load_14 : decode cL_load 14 = .ok (.ireturn, 1) := by decide +kernel
theorem dL_load_15 : decode cL_load 15 = .ok (.astore_n 3, 1) := by decide +kernel
theorem dL_load_16 : decode cL_load 16 = .ok (.iconst 2, 1) := by decide +kernel
theorem dL_load_17 : decode cL_load 17 = .ok (.ireturn, 1) := by decide +kernel
theorem dL_load_18 : decode cL_load 18 = .ok (.iconst 0, 1) := by decide +kernel
theorem dL_load_19 : decode cL_load 19 = .ok (.ireturn, 1) := by decide +kernel
theorem dL_lost_0 : decode cL_lost 0 = .ok (.aload_n 2, 1) := by decide +kernel
theorem dL_lost_1 : decode cL_lost 1 = .ok (.iconst 0, 1) := by decide +kernel
theorem dL_lost_2 : decode cL_lost 2 = .ok (.aload_n 0, 1) := by decide +kernel
theorem dL_lost_3 : decode cL_lost 3 = .ok (.iload_n 1, 1) := by decide +kernel
theorem dL_lost_4 : decode cL_lost 4 = .ok (.invokevirtual 81, 3) := by decide +kernel
theorem dL_lost_7 : decode cL_lost 7 = .ok (.i2l, 1) := by decide +kernel
theorem dL_lost_8 : decode cL_lost 8 = .ok (.lastore, 1) := by decide +kernel
theorem dL_lost_9 : decode cL_lost 9 = .ok (.goto 6, 3) := by decide +kernel
theorem dL_lost_12 : decode cL_lost 12 = .ok (.astore_n 3, 1) := by decide +kernel
theorem dL_lost_13 : decode cL_lost 13 = .ok (.iconst 1, 1) := by decide +kernel
theorem dL_lost_14 : decode cL_lost 14 = .ok (.ireturn, 1) := by decide +kernel
theorem dL_lost_15 : decode cL_lost 15 = .ok (.iconst 0, 1) := by decide +kernel
theorem dL_lost_16 : decode cL_lost 16 = .ok (.ireturn, 1) := by decide +kernel
theorem dL_make_0 : decode cL_make 0 = .ok (.aload_n 3, 1) := by decide +kernel
theorem dL_make_1 : decode cL_make 1 = .ok (.iconst 0, 1) := by decide +kernel
theorem dL_make_2 : decode cL_make 2 = .ok (.aload_n 0, 1) := by decide +kernel
theorem dL_make_3 : decode cL_make 3 = .ok (.iload_n 1, 1) := by decide +kernel
theorem dL_make_4 : decode cL_make 4 = .ok (.iload_n 2, 1) := by decide +kernel
theorem dL_make_5 : decode cL_make 5 = .ok (.invokevirtual 23, 3) := by decide +kernel
theorem dL_make_8 : decode cL_make 8 = .ok (.i2l, 1) := by decide +kernel
theorem dL_make_9 : decode cL_make 9 = .ok (.lastore, 1) := by decide +kernel
theorem dL_make_10 : decode cL_make 10 = .ok (.goto 11, 3) := by decide +kernel
theorem dL_make_13 : decode cL_make 13 = .ok (.astore 4, 2) := by decide +kernel
theorem dL_make_15 : decode cL_make 15 = .ok (.iconst 1, 1) := by decide +kernel
theorem dL_make_16 : decode cL_make 16 = .ok (.ireturn, 1) := by decide +kernel
theorem dL_make_17 : decode cL_make 17 = .ok (.astore 4, 2) := by decide +kernel
theorem dL_make_19 : decode cL_make 19 = .ok (.iconst 2, 1) := by decide +kernel
theorem dL_make_20 : decode cL_make 20 = .ok (.ireturn, 1) := by decide +kernel
theorem dL_make_21 : decode cL_make 21 = .ok (.iconst 0, 1) := by decide +kernel
theorem dL_make_22 : decode cL_make 22 = .ok (.ireturn, 1) := by decide +kernel
theorem dL_member_0 : decode cL_member 0 = .ok (.aload 5, 2) := by decide +kernel
theorem dL_member_2 : decode cL_member 2 = .ok (.iconst 0, 1) := by decide +kernel
theorem dL_member_3 : decode cL_member 3 = .ok (.aload_n 0, 1) := by decide +kernel
theorem dL_member_4 : decode cL_member 4 = .ok (.iload_n 1, 1) := by decide +kernel
theorem dL_member_5 : decode cL_member 5 = .ok (.iload_n 2, 1) := by decide +kernel
theorem dL_member_6 : decode cL_member 6 = .ok (.iload_n 3, 1) := by decide +kernel
theorem dL_member_7 : decode cL_member 7 = .ok (.iload 4, 2) := by decide +kernel
theorem dL_member_9 : decode cL_member 9 = .ok (.invokevirtual 78, 3) := by decide +kernel
theorem dL_member_12 : decode cL_member 12 = .ok (.i2l, 1) := by decide +kernel
theorem dL_member_13 : decode cL_member 13 = .ok (.lastore, 1) := by decide +kernel
theorem dL_member_14 : decode cL_member 14 = .ok (.goto 7, 3) := by decide +kernel
theorem dL_member_17 : decode cL_member 17 = .ok (.astore 6, 2) := by decide +kernel
theorem dL_member_19 : decode cL_member 19 = .ok (.iconst 1, 1) := by decide +kernel
theorem dL_member_20 : decode cL_member 20 = .ok (.ireturn, 1) := by decide +kernel
theorem dL_member_21 : decode cL_member 21 = .ok (.iconst 0, 1) := by decide +kernel
theorem dL_member_22 : decode cL_member 22 = .ok (.ireturn, 1) := by decide +kernel
theorem dL_promise_0 : decode cL_promise 0 = .ok (.aload_n 1, 1) := by decide +kernel
theorem dL_promise_1 : decode cL_promise 1 = .ok (.iconst 0, 1) := by decide +kernel
theorem dL_promise_2 : decode cL_promise 2 = .ok (.aload_n 0, 1) := by decide +kernel
theorem dL_promise_3 : decode cL_promise 3 = .ok (.invokevirtual 60, 3) := by decide +kernel
theorem dL_promise_6 : decode cL_promise 6 = .ok (.i2l, 1) := by decide +kernel
theorem dL_promise_7 : decode cL_promise 7 = .ok (.lastore, 1) := by decide +kernel
theorem dL_promise_8 : decode cL_promise 8 = .ok (.goto 9, 3) := by decide +kernel
theorem dL_promise_11 : decode cL_promise 11 = .ok (.astore_n 2, 1) := by decide +kernel
theorem dL_promise_12 : decode cL_promise 12 = .ok (.iconst 1, 1) := by decide +kernel
theorem dL_promise_13 : decode cL_promise 13 = .ok (.ireturn, 1) := by decide +kernel
theorem dL_promise_14 : decode cL_promise 14 = .ok (.astore_n 2, 1) := by decide +kernel
theorem dL_promise_15 : decode cL_promise 15 = .ok (.iconst 2, 1) := by decide +kernel
theorem dL_promise_16 : decode cL_promise 16 = .ok (.ireturn, 1) := by decide +kernel
theorem dL_promise_17 : decode cL_promise 17 = .ok (.iconst 0, 1) := by decide +kernel
theorem dL_promise_18 : decode cL_promise 18 = .ok (.ireturn, 1) := by decide +kernel
theorem dL_recall_0 : decode cL_recall 0 = .ok (.aload_n 3, 1) := by decide +kernel
theorem dL_recall_1 : decode cL_recall 1 = .ok (.iconst 0, 1) := by decide +kernel
theorem dL_recall_2 : decode cL_recall 2 = .ok (.aload_n 0, 1) := by decide +kernel
theorem dL_recall_3 : decode cL_recall 3 = .ok (.iload_n 1, 1) := by decide +kernel
theorem dL_recall_4 : decode cL_recall 4 = .ok (.iload_n 2, 1) := by decide +kernel
theorem dL_recall_5 : decode cL_recall 5 = .ok (.invokevirtual 113, 3) := by decide +kernel
theorem dL_recall_8 : decode cL_recall 8 = .ok (.i2l, 1) := by decide +kernel
theorem dL_recall_9 : decode cL_recall 9 = .ok (.lastore, 1) := by decide +kernel
theorem dL_recall_10 : decode cL_recall 10 = .ok (.goto 11, 3) := by decide +kernel
theorem dL_recall_13 : decode cL_recall 13 = .ok (.astore 4, 2) := by decide +kernel
theorem dL_recall_15 : decode cL_recall 15 = .ok (.iconst 1, 1) := by decide +kernel
theorem dL_recall_16 : decode cL_recall 16 = .ok (.ireturn, 1) := by decide +kernel
theorem dL_recall_17 : decode cL_recall 17 = .ok (.astore 4, 2) := by decide +kernel
theorem dL_recall_19 : decode cL_recall 19 = .ok (.iconst 2, 1) := by decide +kernel
theorem dL_recall_20 : decode cL_recall 20 = .ok (.ireturn, 1) := by decide +kernel
theorem dL_recall_21 : decode cL_recall 21 = .ok (.iconst 0, 1) := by decide +kernel
theorem dL_recall_22 : decode cL_recall 22 = .ok (.ireturn, 1) := by decide +kernel
theorem dL_root_0 : decode cL_root 0 = .ok (.aload_n 0, 1) := by decide +kernel
theorem dL_root_1 : decode cL_root 1 = .ok (.iload_n 1, 1) := by decide +kernel
theorem dL_root_2 : decode cL_root 2 = .ok (.iload_n 2, 1) := by decide +kernel
theorem dL_root_3 : decode cL_root 3 = .ok (.invokevirtual 26, 3) := by decide +kernel
theorem dL_root_6 : decode cL_root 6 = .ok (.goto 9, 3) := by decide +kernel
theorem dL_root_9 : decode cL_root 9 = .ok (.astore_n 3, 1) := by decide +kernel
theorem dL_root_10 : decode cL_root 10 = .ok (.iconst 1, 1) := by decide +kernel
theorem dL_root_11 : decode cL_root 11 = .ok (.ireturn, 1) := by decide +kernel
theorem dL_root_12 : decode cL_root 12 = .ok (.astore_n 3, 1) := by decide +kernel
theorem dL_root_13 : decode cL_root 13 = .ok (.iconst 2, 1) := by decide +kernel
theorem dL_root_14 : decode cL_root 14 = .ok (.ireturn, 1) := by decide +kernel
theorem dL_root_15 : decode cL_root 15 = .ok (.iconst 0, 1) := by decide +kernel
theorem dL_root_16 : decode cL_root 16 = .ok (.ireturn, 1) := by decide +kernel
theorem dL_row_0 : decode cL_row 0 = .ok (.aload 4, 2) := by decide +kernel
theorem dL_row_2 : decode cL_row 2 = .ok (.iconst 0, 1) := by decide +kernel
theorem dL_row_3 : decode cL_row 3 = .ok (.aload_n 0, 1) := by decide +kernel
theorem dL_row_4 : decode cL_row 4 = .ok (.iload_n 1, 1) := by decide +kernel
theorem dL_row_5 : decode cL_row 5 = .ok (.iload_n 2, 1) := by decide +kernel
theorem dL_row_6 : decode cL_row 6 = .ok (.iload_n 3, 1) := by decide +kernel
theorem dL_row_7 : decode cL_row 7 = .ok (.invokevirtual 56, 3) := by decide +kernel
theorem dL_row_10 : decode cL_row 10 = .ok (.lastore, 1) := by decide +kernel
theorem dL_row_11 : decode cL_row 11 = .ok (.goto 7, 3) := by decide +kernel
theorem dL_row_14 : decode cL_row 14 = .ok (.astore 5, 2) := by decide +kernel
theorem dL_row_16 : decode cL_row 16 = .ok (.iconst 1, 1) := by decide +kernel
theorem dL_row_17 : decode cL_row 17 = .ok (.ireturn, 1) := by decide +kernel
theorem dL_row_18 : decode cL_row 18 = .ok (.iconst 0, 1) := by decide +kernel
theorem dL_row_19 : decode cL_row 19 = .ok (.ireturn, 1) := by decide +kernel
theorem dL_rules_0 : decode cL_rules 0 = .ok (.aload_n 2, 1) := by decide +kernel
theorem dL_rules_1 : decode cL_rules 1 = .ok (.iconst 0, 1) := by decide +kernel
theorem dL_rules_2 : decode cL_rules 2 = .ok (.aload_n 0, 1) := by decide +kernel
theorem dL_rules_3 : decode cL_rules 3 = .ok (.iload_n 1, 1) := by decide +kernel
theorem dL_rules_4 : decode cL_rules 4 = .ok (.invokevirtual 97, 3) := by decide +kernel
theorem dL_rules_7 : decode cL_rules 7 = .ok (.i2l, 1) := by decide +kernel
theorem dL_rules_8 : decode cL_rules 8 = .ok (.lastore, 1) := by decide +kernel
theorem dL_rules_9 : decode cL_rules 9 = .ok (.goto 12, 3) := by decide +kernel
theorem dL_rules_12 : decode cL_rules 12 = .ok (.astore_n 3, 1) := by decide +kernel
theorem dL_rules_13 : decode cL_rules 13 = .ok (.iconst 1, 1) := by decide +kernel
theorem dL_rules_14 : decode cL_rules 14 = .ok (.ireturn, 1) := by decide +kernel
theorem dL_rules_15 : decode cL_rules 15 = .ok (.astore_n 3, 1) := by decide +kernel
theorem dL_rules_16 : decode cL_rules 16 = .ok (.iconst 2, 1) := by decide +kernel
theorem dL_rules_17 : decode cL_rules 17 = .ok (.ireturn, 1) := by decide +kernel
theorem dL_rules_18 : decode cL_rules 18 = .ok (.astore_n 3, 1) := by decide +kernel
theorem dL_rules_19 : decode cL_rules 19 = .ok (.iconst 3, 1) := by decide +kernel
theorem dL_rules_20 : decode cL_rules 20 = .ok (.ireturn, 1) := by decide +kernel
theorem dL_rules_21 : decode cL_rules 21 = .ok (.iconst 0, 1) := by decide +kernel
theorem dL_rules_22 : decode cL_rules 22 = .ok (.ireturn, 1) := by decide +kernel
theorem dL_set_0 : decode cL_set 0 = .ok (.aload 5, 2) := by decide +kernel
theorem dL_set_2 : decode cL_set 2 = .ok (.iconst 0, 1) := by decide +kernel
theorem dL_set_3 : decode cL_set 3 = .ok (.aload_n 0, 1) := by decide +kernel
theorem dL_set_4 : decode cL_set 4 = .ok (.iload_n 1, 1) := by decide +kernel
theorem dL_set_5 : decode cL_set 5 = .ok (.iload_n 2, 1) := by decide +kernel
theorem dL_set_6 : decode cL_set 6 = .ok (.lload_n 3, 1) := by decide +kernel
theorem dL_set_7 : decode cL_set 7 = .ok (.invokevirtual 32, 3) := by decide +kernel
theorem dL_set_10 : decode cL_set 10 = .ok (.i2l, 1) := by decide +kernel
theorem dL_set_11 : decode cL_set 11 = .ok (.lastore, 1) := by decide +kernel
theorem dL_set_12 : decode cL_set 12 = .ok (.goto 11, 3) := by decide +kernel
theorem dL_set_15 : decode cL_set 15 = .ok (.astore 6, 2) := by decide +kernel
theorem dL_set_17 : decode cL_set 17 = .ok (.iconst 1, 1) := by decide +kernel
theorem dL_set_18 : decode cL_set 18 = .ok (.ireturn, 1) := by decide +kernel
theorem dL_set_19 : decode cL_set 19 = .ok (.astore 6, 2) := by decide +kernel
theorem dL_set_21 : decode cL_set 21 = .ok (.iconst 2, 1) := by decide +kernel
theorem dL_set_22 : decode cL_set 22 = .ok (.ireturn, 1) := by decide +kernel
theorem dL_set_23 : decode cL_set 23 = .ok (.iconst 0, 1) := by decide +kernel
theorem dL_set_24 : decode cL_set 24 = .ok (.ireturn, 1) := by decide +kernel
theorem dL_setStatic_0 : decode cL_setStatic 0 = .ok (.aload 5, 2) := by decide +kernel
theorem dL_setStatic_2 : decode cL_setStatic 2 = .ok (.iconst 0, 1) := by decide +kernel
theorem dL_setStatic_3 : decode cL_setStatic 3 = .ok (.aload_n 0, 1) := by decide +kernel
theorem dL_setStatic_4 : decode cL_setStatic 4 = .ok (.iload_n 1, 1) := by decide +kernel
theorem dL_setStatic_5 : decode cL_setStatic 5 = .ok (.iload_n 2, 1) := by decide +kernel
theorem dL_setStatic_6 : decode cL_setStatic 6 = .ok (.lload_n 3, 1) := by decide +kernel
theorem dL_setStatic_7 : decode cL_setStatic 7 = .ok (.invokevirtual 36, 3) := by decide +kernel
theorem dL_setStatic_10 : decode cL_setStatic 10 = .ok (.i2l, 1) := by decide +kernel
theorem dL_setStatic_11 : decode cL_setStatic 11 = .ok (.lastore, 1) := by decide +kernel
theorem dL_setStatic_12 : decode cL_setStatic 12 = .ok (.goto 11, 3) := by decide +kernel
theorem dL_setStatic_15 : decode cL_setStatic 15 = .ok (.astore 6, 2) := by decide +kernel
theorem dL_setStatic_17 : decode cL_setStatic 17 = .ok (.iconst 1, 1) := by decide +kernel
theorem dL_setStatic_18 : decode cL_setStatic 18 = .ok (.ireturn, 1) := by decide +kernel
theorem dL_setStatic_19 : decode cL_setStatic 19 = .ok (.astore 6, 2) := by decide +kernel
theorem dL_setStatic_21 : decode cL_setStatic 21 = .ok (.iconst 2, 1) := by decide +kernel
theorem dL_setStatic_22 : decode cL_setStatic 22 = .ok (.ireturn, 1) := by decide +kernel
theorem dL_setStatic_23 : decode cL_setStatic 23 = .ok (.iconst 0, 1) := by decide +kernel
theorem dL_setStatic_24 : decode cL_setStatic 24 = .ok (.ireturn, 1) := by decide +kernel
theorem dL_slot_0 : decode cL_slot 0 = .ok (.aload 4, 2) := by decide +kernel
theorem dL_slot_2 : decode cL_slot 2 = .ok (.iconst 0, 1) := by decide +kernel
theorem dL_slot_3 : decode cL_slot 3 = .ok (.aload_n 0, 1) := by decide +kernel
theorem dL_slot_4 : decode cL_slot 4 = .ok (.iload_n 1, 1) := by decide +kernel
theorem dL_slot_5 : decode cL_slot 5 = .ok (.iload_n 2, 1) := by decide +kernel
theorem dL_slot_6 : decode cL_slot 6 = .ok (.iload_n 3, 1) := by decide +kernel
theorem dL_slot_7 : decode cL_slot 7 = .ok (.invokevirtual 71, 3) := by decide +kernel
theorem dL_slot_10 : decode cL_slot 10 = .ok (.lastore, 1) := by decide +kernel
theorem dL_slot_11 : decode cL_slot 11 = .ok (.goto 7, 3) := by decide +kernel
theorem dL_slot_14 : decode cL_slot 14 = .ok (.astore 5, 2) := by decide +kernel
theorem dL_slot_16 : decode cL_slot 16 = .ok (.iconst 1, 1) := by decide +kernel
theorem dL_slot_17 : decode cL_slot 17 = .ok (.ireturn, 1) := by decide +kernel
theorem dL_slot_18 : decode cL_slot 18 = .ok (.iconst 0, 1) := by decide +kernel
theorem dL_slot_19 : decode cL_slot 19 = .ok (.ireturn, 1) := by decide +kernel
theorem dL_swap_0 : decode cL_swap 0 = .ok (.aload_n 3, 1) := by decide +kernel
theorem dL_swap_1 : decode cL_swap 1 = .ok (.iconst 0, 1) := by decide +kernel
theorem dL_swap_2 : decode cL_swap 2 = .ok (.aload_n 0, 1) := by decide +kernel
theorem dL_swap_3 : decode cL_swap 3 = .ok (.iload_n 1, 1) := by decide +kernel
theorem dL_swap_4 : decode cL_swap 4 = .ok (.iload_n 2, 1) := by decide +kernel
theorem dL_swap_5 : decode cL_swap 5 = .ok (.invokevirtual 46, 3) := by decide +kernel
theorem dL_swap_8 : decode cL_swap 8 = .ok (.i2l, 1) := by decide +kernel
theorem dL_swap_9 : decode cL_swap 9 = .ok (.lastore, 1) := by decide +kernel
theorem dL_swap_10 : decode cL_swap 10 = .ok (.goto 11, 3) := by decide +kernel
theorem dL_swap_13 : decode cL_swap 13 = .ok (.astore 4, 2) := by decide +kernel
theorem dL_swap_15 : decode cL_swap 15 = .ok (.iconst 1, 1) := by decide +kernel
theorem dL_swap_16 : decode cL_swap 16 = .ok (.ireturn, 1) := by decide +kernel
theorem dL_swap_17 : decode cL_swap 17 = .ok (.astore 4, 2) := by decide +kernel
theorem dL_swap_19 : decode cL_swap 19 = .ok (.iconst 2, 1) := by decide +kernel
theorem dL_swap_20 : decode cL_swap 20 = .ok (.ireturn, 1) := by decide +kernel
theorem dL_swap_21 : decode cL_swap 21 = .ok (.iconst 0, 1) := by decide +kernel
theorem dL_swap_22 : decode cL_swap 22 = .ok (.ireturn, 1) := by decide +kernel
theorem dL_take_0 : decode cL_take 0 = .ok (.aload_n 2, 1) := by decide +kernel
theorem dL_take_1 : decode cL_take 1 = .ok (.iconst 0, 1) := by decide +kernel
theorem dL_take_2 : decode cL_take 2 = .ok (.aload_n 0, 1) := by decide +kernel
theorem dL_take_3 : decode cL_take 3 = .ok (.iload_n 1, 1) := by decide +kernel
theorem dL_take_4 : decode cL_take 4 = .ok (.invokevirtual 68, 3) := by decide +kernel
theorem dL_take_7 : decode cL_take 7 = .ok (.i2l, 1) := by decide +kernel
theorem dL_take_8 : decode cL_take 8 = .ok (.lastore, 1) := by decide +kernel
theorem dL_take_9 : decode cL_take 9 = .ok (.goto 6, 3) := by decide +kernel
theorem dL_take_12 : decode cL_take 12 = .ok (.astore_n 3, 1) := by decide +kernel
theorem dL_take_13 : decode cL_take 13 = .ok (.iconst 1, 1) := by decide +kernel
theorem dL_take_14 : decode cL_take 14 = .ok (.ireturn, 1) := by decide +kernel
theorem dL_take_15 : decode cL_take 15 = .ok (.iconst 0, 1) := by decide +kernel
theorem dL_take_16 : decode cL_take 16 = .ok (.ireturn, 1) := by decide +kernel
theorem dL_type_0 : decode cL_type 0 = .ok (.aload_n 3, 1) := by decide +kernel
theorem dL_type_1 : decode cL_type 1 = .ok (.iconst 0, 1) := by decide +kernel
theorem dL_type_2 : decode cL_type 2 = .ok (.aload_n 0, 1) := by decide +kernel
theorem dL_type_3 : decode cL_type 3 = .ok (.iload_n 1, 1) := by decide +kernel
theorem dL_type_4 : decode cL_type 4 = .ok (.iload_n 2, 1) := by decide +kernel
theorem dL_type_5 : decode cL_type 5 = .ok (.invokevirtual 7, 3) := by decide +kernel
theorem dL_type_8 : decode cL_type 8 = .ok (.i2l, 1) := by decide +kernel
theorem dL_type_9 : decode cL_type 9 = .ok (.lastore, 1) := by decide +kernel
theorem dL_type_10 : decode cL_type 10 = .ok (.goto 15, 3) := by decide +kernel
theorem dL_type_13 : decode cL_type 13 = .ok (.astore 4, 2) := by decide +kernel
theorem dL_type_15 : decode cL_type 15 = .ok (.iconst 1, 1) := by decide +kernel
theorem dL_type_16 : decode cL_type 16 = .ok (.ireturn, 1) := by decide +kernel
theorem dL_type_17 : decode cL_type 17 = .ok (.astore 4, 2) := by decide +kernel
theorem dL_type_19 : decode cL_type 19 = .ok (.iconst 2, 1) := by decide +kernel
theorem dL_type_20 : decode cL_type 20 = .ok (.ireturn, 1) := by decide +kernel
theorem dL_type_21 : decode cL_type 21 = .ok (.astore 4, 2) := by decide +kernel
theorem dL_type_23 : decode cL_type 23 = .ok (.iconst 3, 1) := by decide +kernel
theorem dL_type_24 : decode cL_type 24 = .ok (.ireturn, 1) := by decide +kernel
theorem dL_type_25 : decode cL_type 25 = .ok (.iconst 0, 1) := by decide +kernel
theorem dL_type_26 : decode cL_type 26 = .ok (.ireturn, 1) := by decide +kernel
theorem dL_watch_0 : decode cL_watch 0 = .ok (.aload 4, 2) := by decide +kernel
theorem dL_watch_2 : decode cL_watch 2 = .ok (.iconst 0, 1) := by decide +kernel
theorem dL_watch_3 : decode cL_watch 3 = .ok (.aload_n 0, 1) := by decide +kernel
theorem dL_watch_4 : decode cL_watch 4 = .ok (.iload_n 1, 1) := by decide +kernel
theorem dL_watch_5 : decode cL_watch 5 = .ok (.iload_n 2, 1) := by decide +kernel
theorem dL_watch_6 : decode cL_watch 6 = .ok (.iload_n 3, 1) := by decide +kernel
theorem dL_watch_7 : decode cL_watch 7 = .ok (.invokevirtual 52, 3) := by decide +kernel
theorem dL_watch_10 : decode cL_watch 10 = .ok (.i2l, 1) := by decide +kernel
theorem dL_watch_11 : decode cL_watch 11 = .ok (.lastore, 1) := by decide +kernel
theorem dL_watch_12 : decode cL_watch 12 = .ok (.goto 15, 3) := by decide +kernel
theorem dL_watch_15 : decode cL_watch 15 = .ok (.astore 5, 2) := by decide +kernel
theorem dL_watch_17 : decode cL_watch 17 = .ok (.iconst 1, 1) := by decide +kernel
theorem dL_watch_18 : decode cL_watch 18 = .ok (.ireturn, 1) := by decide +kernel
theorem dL_watch_19 : decode cL_watch 19 = .ok (.astore 5, 2) := by decide +kernel
theorem dL_watch_21 : decode cL_watch 21 = .ok (.iconst 2, 1) := by decide +kernel
theorem dL_watch_22 : decode cL_watch 22 = .ok (.ireturn, 1) := by decide +kernel
theorem dL_watch_23 : decode cL_watch 23 = .ok (.astore 5, 2) := by decide +kernel
theorem dL_watch_25 : decode cL_watch 25 = .ok (.iconst 3, 1) := by decide +kernel
theorem dL_watch_26 : decode cL_watch 26 = .ok (.ireturn, 1) := by decide +kernel
theorem dL_watch_27 : decode cL_watch 27 = .ok (.iconst 0, 1) := by decide +kernel
theorem dL_watch_28 : decode cL_watch 28 = .ok (.ireturn, 1) := by decide +kernel
theorem dX0_init_0 : decode cX0_init 0 = .ok (.aload_n 0, 1) := by decide +kernel
theorem dX0_init_1 : decode cX0_init 1 = .ok (.invokespecial 5, 3) := by decide +kernel
theorem dX0_init_4 : decode cX0_init 4 = .ok (.aload_n 0, 1) := by decide +kernel
theorem dX0_init_5 : decode cX0_init 5 = .ok (.aload_n 1, 1) := by decide +kernel
theorem dX0_init_6 : decode cX0_init 6 = .ok (.putfield 11, 3) := by decide +kernel
theorem dX0_init_9 : decode cX0_init 9 = .ok (.aload_n 0, 1) := by decide +kernel
theorem dX0_init_10 : decode cX0_init 10 = .ok (.sipush 4000, 3) := by decide +kernel
theorem dX0_init_13 : decode cX0_init 13 = .ok (.newarray .int, 2) := by decide +kernel
theorem dX0_init_15 : decode cX0_init 15 = .ok (.putfield 19, 3) := by decide +kernel
theorem dX0_init_18 : decode cX0_init 18 = .ok (.aload_n 0, 1) := by decide +kernel
theorem dX0_init_19 : decode cX0_init 19 = .ok (.sipush 8000, 3) := by decide +kernel
theorem dX0_init_22 : decode cX0_init 22 = .ok (.newarray .int, 2) := by decide +kernel
theorem dX0_init_24 : decode cX0_init 24 = .ok (.putfield 23, 3) := by decide +kernel
theorem dX0_init_27 : decode cX0_init 27 = .ok (.aload_n 0, 1) := by decide +kernel
theorem dX0_init_28 : decode cX0_init 28 = .ok (.aload_n 0, 1) := by decide +kernel
theorem dX0_init_29 : decode cX0_init 29 = .ok (.getfield 19, 3) := by decide +kernel
theorem dX0_init_32 : decode cX0_init 32 = .ok (.putfield 26, 3) := by decide +kernel
theorem dX0_init_35 : decode cX0_init 35 = .ok (.aload_n 0, 1) := by decide +kernel
theorem dX0_init_36 : decode cX0_init 36 = .ok (.sipush 400, 3) := by decide +kernel
theorem dX0_init_39 : decode cX0_init 39 = .ok (.newarray .int, 2) := by decide +kernel
theorem dX0_init_41 : decode cX0_init 41 = .ok (.putfield 29, 3) := by decide +kernel
theorem dX0_init_44 : decode cX0_init 44 = .ok (.aload_n 0, 1) := by decide +kernel
theorem dX0_init_45 : decode cX0_init 45 = .ok (.sipush 4000, 3) := by decide +kernel
theorem dX0_init_48 : decode cX0_init 48 = .ok (.newarray .int, 2) := by decide +kernel
theorem dX0_init_50 : decode cX0_init 50 = .ok (.putfield 32, 3) := by decide +kernel
theorem dX0_init_53 : decode cX0_init 53 = .ok (.return_, 1) := by decide +kernel
theorem dX10_init_0 : decode cX10_init 0 = .ok (.aload_n 0, 1) := by decide +kernel
theorem dX10_init_1 : decode cX10_init 1 = .ok (.invokespecial 5, 3) := by decide +kernel
theorem dX10_init_4 : decode cX10_init 4 = .ok (.aload_n 0, 1) := by decide +kernel
theorem dX10_init_5 : decode cX10_init 5 = .ok (.bipush 16, 2) := by decide +kernel
theorem dX10_init_7 : decode cX10_init 7 = .ok (.newarray .long, 2) := by decide +kernel
theorem dX10_init_9 : decode cX10_init 9 = .ok (.putfield 11, 3) := by decide +kernel
theorem dX10_init_12 : decode cX10_init 12 = .ok (.aload_n 0, 1) := by decide +kernel
theorem dX10_init_13 : decode cX10_init 13 = .ok (.bipush 16, 2) := by decide +kernel
theorem dX10_init_15 : decode cX10_init 15 = .ok (.newarray .int, 2) := by decide +kernel
theorem dX10_init_17 : decode cX10_init 17 = .ok (.putfield 15, 3) := by decide +kernel
theorem dX10_init_20 : decode cX10_init 20 = .ok (.aload_n 0, 1) := by decide +kernel
theorem dX10_init_21 : decode cX10_init 21 = .ok (.bipush 16, 2) := by decide +kernel
theorem dX10_init_23 : decode cX10_init 23 = .ok (.newarray .int, 2) := by decide +kernel
theorem dX10_init_25 : decode cX10_init 25 = .ok (.putfield 19, 3) := by decide +kernel
theorem dX10_init_28 : decode cX10_init 28 = .ok (.aload_n 0, 1) := by decide +kernel
theorem dX10_init_29 : decode cX10_init 29 = .ok (.bipush 16, 2) := by decide +kernel
theorem dX10_init_31 : decode cX10_init 31 = .ok (.newarray .boolean, 2) := by decide +kernel
theorem dX10_init_33 : decode cX10_init 33 = .ok (.putfield 22, 3) := by decide +kernel
theorem dX10_init_36 : decode cX10_init 36 = .ok (.aload_n 0, 1) := by decide +kernel
theorem dX10_init_37 : decode cX10_init 37 = .ok (.bipush 16, 2) := by decide +kernel
theorem dX10_init_39 : decode cX10_init 39 = .ok (.newarray .boolean, 2) := by decide +kernel
theorem dX10_init_41 : decode cX10_init 41 = .ok (.putfield 26, 3) := by decide +kernel
theorem dX10_init_44 : decode cX10_init 44 = .ok (.aload_n 0, 1) := by decide +kernel
theorem dX10_init_45 : decode cX10_init 45 = .ok (.bipush 16, 2) := by decide +kernel
theorem dX10_init_47 : decode cX10_init 47 = .ok (.newarray .int, 2) := by decide +kernel
theorem dX10_init_49 : decode cX10_init 49 = .ok (.putfield 29, 3) := by decide +kernel
theorem dX10_init_52 : decode cX10_init 52 = .ok (.aload_n 0, 1) := by decide +kernel
theorem dX10_init_53 : decode cX10_init 53 = .ok (.bipush 16, 2) := by decide +kernel
theorem dX10_init_55 : decode cX10_init 55 = .ok (.newarray .int, 2) := by decide +kernel
theorem dX10_init_57 : decode cX10_init 57 = .ok (.putfield 32, 3) := by decide +kernel
theorem dX10_init_60 : decode cX10_init 60 = .ok (.aload_n 0, 1) := by decide +kernel
theorem dX10_init_61 : decode cX10_init 61 = .ok (.bipush 16, 2) := by decide +kernel
theorem dX10_init_63 : decode cX10_init 63 = .ok (.newarray .int, 2) := by decide +kernel
theorem dX10_init_65 : decode cX10_init 65 = .ok (.putfield 35, 3) := by decide +kernel
theorem dX10_init_68 : decode cX10_init 68 = .ok (.aload_n 0, 1) := by decide +kernel
theorem dX10_init_69 : decode cX10_init 69 = .ok (.bipush 16, 2) := by decide +kernel
theorem dX10_init_71 : decode cX10_init 71 = .ok (.newarray .int, 2) := by decide +kernel
theorem dX10_init_73 : decode cX10_init 73 = .ok (.putfield 38, 3) := by decide +kernel
theorem dX10_init_76 : decode cX10_init 76 = .ok (.aload_n 0, 1) := by decide +kernel
theorem dX10_init_77 : decode cX10_init 77 = .ok (.bipush 96, 2) := by decide +kernel
theorem dX10_init_79 : decode cX10_init 79 = .ok (.newarray .long, 2) := by decide +kernel
theorem dX10_init_81 : decode cX10_init 81 = .ok (.putfield 41, 3) := by decide +kernel
theorem dX10_init_84 : decode cX10_init 84 = .ok (.aload_n 0, 1) := by decide +kernel
theorem dX10_init_85 : decode cX10_init 85 = .ok (.bipush 96, 2) := by decide +kernel
theorem dX10_init_87 : decode cX10_init 87 = .ok (.newarray .int, 2) := by decide +kernel
theorem dX10_init_89 : decode cX10_init 89 = .ok (.putfield 44, 3) := by decide +kernel
theorem dX10_init_92 : decode cX10_init 92 = .ok (.aload_n 0, 1) := by decide +kernel
theorem dX10_init_93 : decode cX10_init 93 = .ok (.bipush 96, 2) := by decide +kernel
theorem dX10_init_95 : decode cX10_init 95 = .ok (.newarray .int, 2) := by decide +kernel
theorem dX10_init_97 : decode cX10_init 97 = .ok (.putfield 47, 3) := by decide +kernel
theorem dX10_init_100 : decode cX10_init 100 = .ok (.aload_n 0, 1) := by decide +kernel
theorem dX10_init_101 : decode cX10_init 101 = .ok (.bipush 96, 2) := by decide +kernel
theorem dX10_init_103 : decode cX10_init 103 = .ok (.newarray .boolean, 2) := by decide +kernel
theorem dX10_init_105 : decode cX10_init 105 = .ok (.putfield 50, 3) := by decide +kernel
theorem dX10_init_108 : decode cX10_init 108 = .ok (.aload_n 0, 1) := by decide +kernel
theorem dX10_init_109 : decode cX10_init 109 = .ok (.bipush 96, 2) := by decide +kernel
theorem dX10_init_111 : decode cX10_init 111 = .ok (.newarray .int, 2) := by decide +kernel
theorem dX10_init_113 : decode cX10_init 113 = .ok (.putfield 53, 3) := by decide +kernel
theorem dX10_init_116 : decode cX10_init 116 = .ok (.aload_n 0, 1) := by decide +kernel
theorem dX10_init_117 : decode cX10_init 117 = .ok (.sipush 1536, 3) := by decide +kernel
theorem dX10_init_120 : decode cX10_init 120 = .ok (.newarray .long, 2) := by decide +kernel
theorem dX10_init_122 : decode cX10_init 122 = .ok (.putfield 56, 3) := by decide +kernel
theorem dX10_init_125 : decode cX10_init 125 = .ok (.aload_n 0, 1) := by decide +kernel
theorem dX10_init_126 : decode cX10_init 126 = .ok (.sipush 1536, 3) := by decide +kernel
theorem dX10_init_129 : decode cX10_init 129 = .ok (.newarray .int, 2) := by decide +kernel
theorem dX10_init_131 : decode cX10_init 131 = .ok (.putfield 59, 3) := by decide +kernel
theorem dX10_init_134 : decode cX10_init 134 = .ok (.aload_n 0, 1) := by decide +kernel
theorem dX10_init_135 : decode cX10_init 135 = .ok (.sipush 1536, 3) := by decide +kernel
theorem dX10_init_138 : decode cX10_init 138 = .ok (.newarray .int, 2) := by decide +kernel
theorem dX10_init_140 : decode cX10_init 140 = .ok (.putfield 62, 3) := by decide +kernel
theorem dX10_init_143 : decode cX10_init 143 = .ok (.return_, 1) := by decide +kernel
theorem dX11_init_0 : decode cX11_init 0 = .ok (.aload_n 0, 1) := by decide +kernel
theorem dX11_init_1 : decode cX11_init 1 = .ok (.invokespecial 3, 3) := by decide +kernel
theorem dX11_init_4 : decode cX11_init 4 = .ok (.aload_n 0, 1) := by decide +kernel
theorem dX11_init_5 : decode cX11_init 5 = .ok (.new 9, 3) := by decide +kernel
theorem dX11_init_8 : decode cX11_init 8 = .ok (.dup, 1) := by decide +kernel
theorem dX11_init_9 : decode cX11_init 9 = .ok (.invokespecial 11, 3) := by decide +kernel
theorem dX11_init_12 : decode cX11_init 12 = .ok (.putfield 12, 3) := by decide +kernel
theorem dX11_init_15 : decode cX11_init 15 = .ok (.aload_n 0, 1) := by decide +kernel
theorem dX11_init_16 : decode cX11_init 16 = .ok (.new 16, 3) := by decide +kernel
theorem dX11_init_19 : decode cX11_init 19 = .ok (.dup, 1) := by decide +kernel
theorem dX11_init_20 : decode cX11_init 20 = .ok (.invokespecial 18, 3) := by decide +kernel
theorem dX11_init_23 : decode cX11_init 23 = .ok (.putfield 19, 3) := by decide +kernel
theorem dX11_init_26 : decode cX11_init 26 = .ok (.aload_n 0, 1) := by decide +kernel
theorem dX11_init_27 : decode cX11_init 27 = .ok (.new 23, 3) := by decide +kernel
theorem dX11_init_30 : decode cX11_init 30 = .ok (.dup, 1) := by decide +kernel
theorem dX11_init_31 : decode cX11_init 31 = .ok (.aload_n 0, 1) := by decide +kernel
theorem dX11_init_32 : decode cX11_init 32 = .ok (.getfield 19, 3) := by decide +kernel
theorem dX11_init_35 : decode cX11_init 35 = .ok (.invokespecial 25, 3) := by decide +kernel
theorem dX11_init_38 : decode cX11_init 38 = .ok (.putfield 28, 3) := by decide +kernel
theorem dX11_init_41 : decode cX11_init 41 = .ok (.aload_n 0, 1) := by decide +kernel
theorem dX11_init_42 : decode cX11_init 42 = .ok (.new 32, 3) := by decide +kernel
theorem dX11_init_45 : decode cX11_init 45 = .ok (.dup, 1) := by decide +kernel
theorem dX11_init_46 : decode cX11_init 46 = .ok (.aload_n 0, 1) := by decide +kernel
theorem dX11_init_47 : decode cX11_init 47 = .ok (.getfield 19, 3) := by decide +kernel
theorem dX11_init_50 : decode cX11_init 50 = .ok (.invokespecial 34, 3) := by decide +kernel
theorem dX11_init_53 : decode cX11_init 53 = .ok (.putfield 35, 3) := by decide +kernel
theorem dX11_init_56 : decode cX11_init 56 = .ok (.aload_n 0, 1) := by decide +kernel
theorem dX11_init_57 : decode cX11_init 57 = .ok (.iconst 4, 1) := by decide +kernel
theorem dX11_init_58 : decode cX11_init 58 = .ok (.anewarray 39, 3) := by decide +kernel
theorem dX11_init_61 : decode cX11_init 61 = .ok (.putfield 41, 3) := by decide +kernel
theorem dX11_init_64 : decode cX11_init 64 = .ok (.iconst 0, 1) := by decide +kernel
theorem dX11_init_65 : decode cX11_init 65 = .ok (.istore_n 1, 1) := by decide +kernel
theorem dX11_init_66 : decode cX11_init 66 = .ok (.iload_n 1, 1) := by decide +kernel
theorem dX11_init_67 : decode cX11_init 67 = .ok (.iconst 4, 1) := by decide +kernel
theorem dX11_init_68 : decode cX11_init 68 = .ok (.if_icmp .ge 26, 3) := by decide +kernel
theorem dX11_init_71 : decode cX11_init 71 = .ok (.aload_n 0, 1) := by decide +kernel
theorem dX11_init_72 : decode cX11_init 72 = .ok (.getfield 41, 3) := by decide +kernel
theorem dX11_init_75 : decode cX11_init 75 = .ok (.iload_n 1, 1) := by decide +kernel
theorem dX11_init_76 : decode cX11_init 76 = .ok (.new 39, 3) := by decide +kernel
theorem dX11_init_79 : decode cX11_init 79 = .ok (.dup, 1) := by decide +kernel
theorem dX11_init_80 : decode cX11_init 80 = .ok (.aload_n 0, 1) := by decide +kernel
theorem dX11_init_81 : decode cX11_init 81 = .ok (.getfield 19, 3) := by decide +kernel
theorem dX11_init_84 : decode cX11_init 84 = .ok (.invokespecial 45, 3) := by decide +kernel
theorem dX11_init_87 : decode cX11_init 87 = .ok (.aastore, 1) := by decide +kernel
theorem dX11_init_88 : decode cX11_init 88 = .ok (.iinc 1 1, 3) := by decide +kernel
theorem dX11_init_91 : decode cX11_init 91 = .ok (.goto (-25), 3) := by decide +kernel
theorem dX11_init_94 : decode cX11_init 94 = .ok (.aload_n 0, 1) := by decide +kernel
theorem dX11_init_95 : decode cX11_init 95 = .ok (.new 39, 3) := by decide +kernel
theorem dX11_init_98 : decode cX11_init 98 = .ok (.dup, 1) := by decide +kernel
theorem dX11_init_99 : decode cX11_init 99 = .ok (.aload_n 0, 1) := by decide +kernel
theorem dX11_init_100 : decode cX11_init 100 = .ok (.getfield 19, 3) := by decide +kernel
theorem dX11_init_103 : decode cX11_init 103 = .ok (.invokespecial 45, 3) := by decide +kernel
theorem dX11_init_106 : decode cX11_init 106 = .ok (.putfield 46, 3) := by decide +kernel
theorem dX11_init_109 : decode cX11_init 109 = .ok (.aload_n 0, 1) := by decide +kernel
theorem dX11_init_110 : decode cX11_init 110 = .ok (.new 50, 3) := by decide +kernel
theorem dX11_init_113 : decode cX11_init 113 = .ok (.dup, 1) := by decide +kernel
theorem dX11_init_114 : decode cX11_init 114 = .ok (.aload_n 0, 1) := by decide +kernel
theorem dX11_init_115 : decode cX11_init 115 = .ok (.getfield 12, 3) := by decide +kernel
theorem dX11_init_118 : decode cX11_init 118 = .ok (.invokespecial 52, 3) := by decide +kernel
theorem dX11_init_121 : decode cX11_init 121 = .ok (.putfield 55, 3) := by decide +kernel
theorem dX11_init_124 : decode cX11_init 124 = .ok (.aload_n 0, 1) := by decide +kernel
theorem dX11_init_125 : decode cX11_init 125 = .ok (.new 59, 3) := by decide +kernel
theorem dX11_init_128 : decode cX11_init 128 = .ok (.dup, 1) := by decide +kernel
theorem dX11_init_129 : decode cX11_init 129 = .ok (.aload_n 0, 1) := by decide +kernel
theorem dX11_init_130 : decode cX11_init 130 = .ok (.getfield 19, 3) := by decide +kernel
theorem dX11_init_133 : decode cX11_init 133 = .ok (.invokespecial 61, 3) := by decide +kernel
theorem dX11_init_136 : decode cX11_init 136 = .ok (.putfield 62, 3) := by decide +kernel
theorem dX11_init_139 : decode cX11_init 139 = .ok (.aload_n 0, 1) := by decide +kernel
theorem dX11_init_140 : decode cX11_init 140 = .ok (.iconst 3, 1) := by decide +kernel
theorem dX11_init_141 : decode cX11_init 141 = .ok (.anewarray 50, 3) := by decide +kernel
theorem dX11_init_144 : decode cX11_init 144 = .ok (.putfield 66, 3) := by decide +kernel
theorem dX11_init_147 : decode cX11_init 147 = .ok (.iconst 0, 1) := by decide +kernel
theorem dX11_init_148 : decode cX11_init 148 = .ok (.istore_n 1, 1) := by decide +kernel
theorem dX11_init_149 : decode cX11_init 149 = .ok (.iload_n 1, 1) := by decide +kernel
theorem dX11_init_150 : decode cX11_init 150 = .ok (.iconst 3, 1) := by decide +kernel
theorem dX11_init_151 : decode cX11_init 151 = .ok (.if_icmp .ge 26, 3) := by decide +kernel
theorem dX11_init_154 : decode cX11_init 154 = .ok (.aload_n 0, 1) := by decide +kernel
theorem dX11_init_155 : decode cX11_init 155 = .ok (.getfield 66, 3) := by decide +kernel
theorem dX11_init_158 : decode cX11_init 158 = .ok (.iload_n 1, 1) := by decide +kernel
theorem dX11_init_159 : decode cX11_init 159 = .ok (.new 50, 3) := by decide +kernel
theorem dX11_init_162 : decode cX11_init 162 = .ok (.dup, 1) := by decide +kernel
theorem dX11_init_163 : decode cX11_init 163 = .ok (.aload_n 0, 1) := by decide +kernel
theorem dX11_init_164 : decode cX11_init 164 = .ok (.getfield 12, 3) := by decide +kernel
theorem dX11_init_167 : decode cX11_init 167 = .ok (.invokespecial 52, 3) := by decide +kernel
theorem dX11_init_170 : decode cX11_init 170 = .ok (.aastore, 1) := by decide +kernel
theorem dX11_init_171 : decode cX11_init 171 = .ok (.iinc 1 1, 3) := by decide +kernel
theorem dX11_init_174 : decode cX11_init 174 = .ok (.goto (-25), 3) := by decide +kernel
theorem dX11_init_177 : decode cX11_init 177 = .ok (.aload_n 0, 1) := by decide +kernel
theorem dX11_init_178 : decode cX11_init 178 = .ok (.iconst 3, 1) := by decide +kernel
theorem dX11_init_179 : decode cX11_init 179 = .ok (.newarray .int, 2) := by decide +kernel
theorem dX11_init_181 : decode cX11_init 181 = .ok (.putfield 70, 3) := by decide +kernel
theorem dX11_init_184 : decode cX11_init 184 = .ok (.aload_n 0, 1) := by decide +kernel
theorem dX11_init_185 : decode cX11_init 185 = .ok (.new 74, 3) := by decide +kernel
theorem dX11_init_188 : decode cX11_init 188 = .ok (.dup, 1) := by decide +kernel
theorem dX11_init_189 : decode cX11_init 189 = .ok (.aload_n 0, 1) := by decide +kernel
theorem dX11_init_190 : decode cX11_init 190 = .ok (.getfield 12, 3) := by decide +kernel
theorem dX11_init_193 : decode cX11_init 193 = .ok (.invokespecial 76, 3) := by decide +kernel
theorem dX11_init_196 : decode cX11_init 196 = .ok (.putfield 77, 3) := by decide +kernel
theorem dX11_init_199 : decode cX11_init 199 = .ok (.aload_n 0, 1) := by decide +kernel
theorem dX11_init_200 : decode cX11_init 200 = .ok (.new 81, 3) := by decide +kernel
theorem dX11_init_203 : decode cX11_init 203 = .ok (.dup, 1) := by decide +kernel
theorem dX11_init_204 : decode cX11_init 204 = .ok (.aload_n 0, 1) := by decide +kernel
theorem dX11_init_205 : decode cX11_init 205 = .ok (.getfield 19, 3) := by decide +kernel
theorem dX11_init_208 : decode cX11_init 208 = .ok (.invokespecial 83, 3) := by decide +kernel
theorem dX11_init_211 : decode cX11_init 211 = .ok (.putfield 84, 3) := by decide +kernel
theorem dX11_init_214 : decode cX11_init 214 = .ok (.aload_n 0, 1) := by decide +kernel
theorem dX11_init_215 : decode cX11_init 215 = .ok (.new 88, 3) := by decide +kernel
theorem dX11_init_218 : decode cX11_init 218 = .ok (.dup, 1) := by decide +kernel
theorem dX11_init_219 : decode cX11_init 219 = .ok (.aload_n 0, 1) := by decide +kernel
theorem dX11_init_220 : decode cX11_init 220 = .ok (.getfield 19, 3) := by decide +kernel
theorem dX11_init_223 : decode cX11_init 223 = .ok (.invokespecial 90, 3) := by decide +kernel
theorem dX11_init_226 : decode cX11_init 226 = .ok (.putfield 91, 3) := by decide +kernel
theorem dX11_init_229 : decode cX11_init 229 = .ok (.aload_n 0, 1) := by decide +kernel
theorem dX11_init_230 : decode cX11_init 230 = .ok (.sipush 400, 3) := by decide +kernel
theorem dX11_init_233 : decode cX11_init 233 = .ok (.newarray .int, 2) := by decide +kernel
theorem dX11_init_235 : decode cX11_init 235 = .ok (.putfield 95, 3) := by decide +kernel
theorem dX11_init_238 : decode cX11_init 238 = .ok (.aload_n 0, 1) := by decide +kernel
theorem dX11_init_239 : decode cX11_init 239 = .ok (.iconst (-1), 1) := by decide +kernel
theorem dX11_init_240 : decode cX11_init 240 = .ok (.putfield 98, 3) := by decide +kernel
theorem dX11_init_243 : decode cX11_init 243 = .ok (.return_, 1) := by decide +kernel
theorem dX12_code_0 : decode cX12_code 0 = .ok (.iload_n 0, 1) := by decide +kernel
theorem dX12_code_1 : decode cX12_code 1 = .ok (.invokestatic 394, 3) := by decide +kernel
theorem dX12_code_4 : decode cX12_code 4 = .ok (.ifCond .eq 12, 3) := by decide +kernel
theorem dX12_code_7 : decode cX12_code 7 = .ok (.iload_n 0, 1) := by decide +kernel
theorem dX12_code_8 : decode cX12_code 8 = .ok (.bipush 48, 2) := by decide +kernel
theorem dX12_code_10 : decode cX12_code 10 = .ok (.isub, 1) := by decide +kernel
theorem dX12_code_11 : decode cX12_code 11 = .ok (.iconst 1, 1) := by decide +kernel
theorem dX12_code_12 : decode cX12_code 12 = .ok (.iadd, 1) := by decide +kernel
theorem dX12_code_13 : decode cX12_code 13 = .ok (.goto 26, 3) := by decide +kernel
theorem dX12_code_16 : decode cX12_code 16 = .ok (.iload_n 0, 1) := by decide +kernel
theorem dX12_code_17 : decode cX12_code 17 = .ok (.bipush 90, 2) := by decide +kernel
theorem dX12_code_19 : decode cX12_code 19 = .ok (.if_icmp .gt 13, 3) := by decide +kernel
theorem dX12_code_22 : decode cX12_code 22 = .ok (.iload_n 0, 1) := by decide +kernel
theorem dX12_code_23 : decode cX12_code 23 = .ok (.bipush 65, 2) := by decide +kernel
theorem dX12_code_25 : decode cX12_code 25 = .ok (.isub, 1) := by decide +kernel
theorem dX12_code_26 : decode cX12_code 26 = .ok (.bipush 11, 2) := by decide +kernel
theorem dX12_code_28 : decode cX12_code 28 = .ok (.iadd, 1) := by decide +kernel
theorem dX12_code_29 : decode cX12_code 29 = .ok (.goto 10, 3) := by decide +kernel
theorem dX12_code_32 : decode cX12_code 32 = .ok (.iload_n 0, 1) := by decide +kernel
theorem dX12_code_33 : decode cX12_code 33 = .ok (.bipush 97, 2) := by decide +kernel
theorem dX12_code_35 : decode cX12_code 35 = .ok (.isub, 1) := by decide +kernel
theorem dX12_code_36 : decode cX12_code 36 = .ok (.bipush 37, 2) := by decide +kernel
theorem dX12_code_38 : decode cX12_code 38 = .ok (.iadd, 1) := by decide +kernel
theorem dX12_code_39 : decode cX12_code 39 = .ok (.ireturn, 1) := by decide +kernel
theorem dX12_coded_0 : decode cX12_coded 0 = .ok (.lconst 0, 1) := by decide +kernel
theorem dX12_coded_1 : decode cX12_coded 1 = .ok (.lstore_n 2, 1) := by decide +kernel
theorem dX12_coded_2 : decode cX12_coded 2 = .ok (.bipush 7, 2) := by decide +kernel
theorem dX12_coded_4 : decode cX12_coded 4 = .ok (.istore 4, 2) := by decide +kernel
theorem dX12_coded_6 : decode cX12_coded 6 = .ok (.iload 4, 2) := by decide +kernel
theorem dX12_coded_8 : decode cX12_coded 8 = .ok (.ifCond .lt 45, 3) := by decide +kernel
theorem dX12_coded_11 : decode cX12_coded 11 = .ok (.lload_n 0, 1) := by decide +kernel
theorem dX12_coded_12 : decode cX12_coded 12 = .ok (.bipush 8, 2) := by decide +kernel
theorem dX12_coded_14 : decode cX12_coded 14 = .ok (.iload 4, 2) := by decide +kernel
theorem dX12_coded_16 : decode cX12_coded 16 = .ok (.imul, 1) := by decide +kernel
theorem dX12_coded_17 : decode cX12_coded 17 = .ok (.lshr, 1) := by decide +kernel
theorem dX12_coded_18 : decode cX12_coded 18 = .ok (.ldc2_w 398, 3) := by decide +kernel
theorem dX12_coded_21 : decode cX12_coded 21 = .ok (.land, 1) := by decide +kernel
theorem dX12_coded_22 : decode cX12_coded 22 = .ok (.l2i, 1) := by decide +kernel
theorem dX12_coded_23 : decode cX12_coded 23 = .ok (.istore 5, 2) := by decide +kernel
theorem dX12_coded_25 : decode cX12_coded 25 = .ok (.iload 5, 2) := by decide +kernel
theorem dX12_coded_27 : decode cX12_coded 27 = .ok (.ifCond .ne 7, 3) := by decide +kernel
theorem dX12_coded_30 : decode cX12_coded 30 = .ok (.lload_n 2, 1) := by decide +kernel
theorem dX12_coded_31 : decode cX12_coded 31 = .ok (.goto 15, 3) := by decide +kernel
theorem dX12_coded_34 : decode cX12_coded 34 = .ok (.ldc2_w 400, 3) := by decide +kernel
theorem dX12_coded_37 : decode cX12_coded 37 = .ok (.lload_n 2, 1) := by decide +kernel
theorem dX12_coded_38 : decode cX12_coded 38 = .ok (.lmul, 1) := by decide +kernel
theorem dX12_coded_39 : decode cX12_coded 39 = .ok (.iload 5, 2) := by decide +kernel
theorem dX12_coded_41 : decode cX12_coded 41 = .ok (.invokestatic 402, 3) := by decide +kernel
theorem dX12_coded_44 : decode cX12_coded 44 = .ok (.i2l, 1) := by decide +kernel
theorem dX12_coded_45 : decode cX12_coded 45 = .ok (.ladd, 1) := by decide +kernel
theorem dX12_coded_46 : decode cX12_coded 46 = .ok (.lstore_n 2, 1) := by decide +kernel
theorem dX12_coded_47 : decode cX12_coded 47 = .ok (.iinc 4 (-1), 3) := by decide +kernel
theorem dX12_coded_50 : decode cX12_coded 50 = .ok (.goto (-44), 3) := by decide +kernel
theorem dX12_coded_53 : decode cX12_coded 53 = .ok (.lload_n 2, 1) := by decide +kernel
theorem dX12_coded_54 : decode cX12_coded 54 = .ok (.lreturn, 1) := by decide +kernel
theorem dX12_init_0 : decode cX12_init 0 = .ok (.aload_n 0, 1) := by decide +kernel
theorem dX12_init_1 : decode cX12_init 1 = .ok (.invokespecial 1, 3) := by decide +kernel
theorem dX12_init_4 : decode cX12_init 4 = .ok (.aload_n 0, 1) := by decide +kernel
theorem dX12_init_5 : decode cX12_init 5 = .ok (.sipush 4000, 3) := by decide +kernel
theorem dX12_init_8 : decode cX12_init 8 = .ok (.newarray .byte, 2) := by decide +kernel
theorem dX12_init_10 : decode cX12_init 10 = .ok (.putfield 7, 3) := by decide +kernel
theorem dX12_init_13 : decode cX12_init 13 = .ok (.aload_n 0, 1) := by decide +kernel
theorem dX12_init_14 : decode cX12_init 14 = .ok (.bipush 20, 2) := by decide +kernel
theorem dX12_init_16 : decode cX12_init 16 = .ok (.newarray .byte, 2) := by decide +kernel
theorem dX12_init_18 : decode cX12_init 18 = .ok (.putfield 13, 3) := by decide +kernel
theorem dX12_init_21 : decode cX12_init 21 = .ok (.aload_n 0, 1) := by decide +kernel
theorem dX12_init_22 : decode cX12_init 22 = .ok (.bipush 29, 2) := by decide +kernel
theorem dX12_init_24 : decode cX12_init 24 = .ok (.newarray .long, 2) := by decide +kernel
theorem dX12_init_26 : decode cX12_init 26 = .ok (.dup, 1) := by decide +kernel
theorem dX12_init_27 : decode cX12_init 27 = .ok (.iconst 0, 1) := by decide +kernel
theorem dX12_init_28 : decode cX12_init 28 = .ok (.ldc2_w 16, 3) := by decide +kernel
theorem dX12_init_31 : decode cX12_init 31 = .ok (.lastore, 1) := by decide +kernel
theorem dX12_init_32 : decode cX12_init 32 = .ok (.dup, 1) := by decide +kernel
theorem dX12_init_33 : decode cX12_init 33 = .ok (.iconst 1, 1) := by decide +kernel
theorem dX12_init_34 : decode cX12_init 34 = .ok (.ldc2_w 18, 3) := by decide +kernel
theorem dX12_init_37 : decode cX12_init 37 = .ok (.lastore, 1) := by decide +kernel
theorem dX12_init_38 : decode cX12_init 38 = .ok (.dup, 1) := by decide +kernel
theorem dX12_init_39 : decode cX12_init 39 = .ok (.iconst 2, 1) := by decide +kernel
theorem dX12_init_40 : decode cX12_init 40 = .ok (.ldc2_w 20, 3) := by decide +kernel
theorem dX12_init_43 : decode cX12_init 43 = .ok (.lastore, 1) := by decide +kernel
theorem dX12_init_44 : decode cX12_init 44 = .ok (.dup, 1) := by decide +kernel
theorem dX12_init_45 : decode cX12_init 45 = .ok (.iconst 3, 1) := by decide +kernel
theorem dX12_init_46 : decode cX12_init 46 = .ok (.ldc2_w 22, 3) := by decide +kernel
theorem dX12_init_49 : decode cX12_init 49 = .ok (.lastore, 1) := by decide +kernel
theorem dX12_init_50 : decode cX12_init 50 = .ok (.dup, 1) := by decide +kernel
theorem dX12_init_51 : decode cX12_init 51 = .ok (.iconst 4, 1) := by decide +kernel
theorem dX12_init_52 : decode cX12_init 52 = .ok (.ldc2_w 24, 3) := by decide +kernel
theorem dX12_init_55 : decode cX12_init 55 = .ok (.lastore, 1) := by decide +kernel
theorem dX12_init_56 : decode cX12_init 56 = .ok (.dup, 1) := by decide +kernel
theorem dX12_init_57 : decode cX12_init 57 = .ok (.iconst 5, 1) := by decide +kernel
theorem dX12_init_58 : decode cX12_init 58 = .ok (.ldc2_w 26, 3) := by decide +kernel
theorem dX12_init_61 : decode cX12_init 61 = .ok (.lastore, 1) := by decide +kernel
theorem dX12_init_62 : decode cX12_init 62 = .ok (.dup, 1) := by decide +kernel
theorem dX12_init_63 : decode cX12_init 63 = .ok (.bipush 6, 2) := by decide +kernel
theorem dX12_init_65 : decode cX12_init 65 = .ok (.ldc2_w 28, 3) := by decide +kernel
theorem dX12_init_68 : decode cX12_init 68 = .ok (.lastore, 1) := by decide +kernel
theorem dX12_init_69 : decode cX12_init 69 = .ok (.dup, 1) := by decide +kernel
theorem dX12_init_70 : decode cX12_init 70 = .ok (.bipush 7, 2) := by decide +kernel
theorem dX12_init_72 : decode cX12_init 72 = .ok (.ldc2_w 30, 3) := by decide +kernel
theorem dX12_init_75 : decode cX12_init 75 = .ok (.lastore, 1) := by decide +kernel
theorem dX12_init_76 : decode cX12_init 76 = .ok (.dup, 1) := by decide +kernel
theorem dX12_init_77 : decode cX12_init 77 = .ok (.bipush 8, 2) := by decide +kernel
theorem dX12_init_79 : decode cX12_init 79 = .ok (.ldc2_w 32, 3) := by decide +kernel
theorem dX12_init_82 : decode cX12_init 82 = .ok (.lastore, 1) := by decide +kernel
theorem dX12_init_83 : decode cX12_init 83 = .ok (.dup, 1) := by decide +kernel
theorem dX12_init_84 : decode cX12_init 84 = .ok (.bipush 9, 2) := by decide +kernel
theorem dX12_init_86 : decode cX12_init 86 = .ok (.ldc2_w 34, 3) := by decide +kernel
theorem dX12_init_89 : decode cX12_init 89 = .ok (.lastore, 1) := by decide +kernel
theorem dX12_init_90 : decode cX12_init 90 = .ok (.dup, 1) := by decide +kernel
theorem dX12_init_91 : decode cX12_init 91 = .ok (.bipush 10, 2) := by decide +kernel
theorem dX12_init_93 : decode cX12_init 93 = .ok (.ldc2_w 36, 3) := by decide +kernel
theorem dX12_init_96 : decode cX12_init 96 = .ok (.lastore, 1) := by decide +kernel
theorem dX12_init_97 : decode cX12_init 97 = .ok (.dup, 1) := by decide +kernel
theorem dX12_init_98 : decode cX12_init 98 = .ok (.bipush 11, 2) := by decide +kernel
theorem dX12_init_100 : decode cX12_init 100 = .ok (.ldc2_w 38, 3) := by decide +kernel
theorem dX12_init_103 : decode cX12_init 103 = .ok (.lastore, 1) := by decide +kernel
theorem dX12_init_104 : decode cX12_init 104 = .ok (.dup, 1) := by decide +kernel
theorem dX12_init_105 : decode cX12_init 105 = .ok (.bipush 12, 2) := by decide +kernel
theorem dX12_init_107 : decode cX12_init 107 = .ok (.ldc2_w 40, 3) := by decide +kernel
theorem dX12_init_110 : decode cX12_init 110 = .ok (.lastore, 1) := by decide +kernel
theorem dX12_init_111 : decode cX12_init 111 = .ok (.dup, 1) := by decide +kernel
theorem dX12_init_112 : decode cX12_init 112 = .ok (.bipush 13, 2) := by decide +kernel
theorem dX12_init_114 : decode cX12_init 114 = .ok (.ldc2_w 42, 3) := by decide +kernel
theorem dX12_init_117 : decode cX12_init 117 = .ok (.lastore, 1) := by decide +kernel
theorem dX12_init_118 : decode cX12_init 118 = .ok (.dup, 1) := by decide +kernel
theorem dX12_init_119 : decode cX12_init 119 = .ok (.bipush 14, 2) := by decide +kernel
theorem dX12_init_121 : decode cX12_init 121 = .ok (.ldc2_w 44, 3) := by decide +kernel
theorem dX12_init_124 : decode cX12_init 124 = .ok (.lastore, 1) := by decide +kernel
theorem dX12_init_125 : decode cX12_init 125 = .ok (.dup, 1) := by decide +kernel
theorem dX12_init_126 : decode cX12_init 126 = .ok (.bipush 15, 2) := by decide +kernel
theorem dX12_init_128 : decode cX12_init 128 = .ok (.ldc2_w 46, 3) := by decide +kernel
theorem dX12_init_131 : decode cX12_init 131 = .ok (.lastore, 1) := by decide +kernel
theorem dX12_init_132 : decode cX12_init 132 = .ok (.dup, 1) := by decide +kernel
theorem dX12_init_133 : decode cX12_init 133 = .ok (.bipush 16, 2) := by decide +kernel
theorem dX12_init_135 : decode cX12_init 135 = .ok (.ldc2_w 48, 3) := by decide +kernel
theorem dX12_init_138 : decode cX12_init 138 = .ok (.lastore, 1) := by decide +kernel
theorem dX12_init_139 : decode cX12_init 139 = .ok (.dup, 1) := by decide +kernel
theorem dX12_init_140 : decode cX12_init 140 = .ok (.bipush 17, 2) := by decide +kernel
theorem dX12_init_142 : decode cX12_init 142 = .ok (.ldc2_w 50, 3) := by decide +kernel
theorem dX12_init_145 : decode cX12_init 145 = .ok (.lastore, 1) := by decide +kernel
theorem dX12_init_146 : decode cX12_init 146 = .ok (.dup, 1) := by decide +kernel
theorem dX12_init_147 : decode cX12_init 147 = .ok (.bipush 18, 2) := by decide +kernel
theorem dX12_init_149 : decode cX12_init 149 = .ok (.ldc2_w 52, 3) := by decide +kernel
theorem dX12_init_152 : decode cX12_init 152 = .ok (.lastore, 1) := by decide +kernel
theorem dX12_init_153 : decode cX12_init 153 = .ok (.dup, 1) := by decide +kernel
theorem dX12_init_154 : decode cX12_init 154 = .ok (.bipush 19, 2) := by decide +kernel
theorem dX12_init_156 : decode cX12_init 156 = .ok (.ldc2_w 54, 3) := by decide +kernel
theorem dX12_init_159 : decode cX12_init 159 = .ok (.lastore, 1) := by decide +kernel
theorem dX12_init_160 : decode cX12_init 160 = .ok (.dup, 1) := by decide +kernel
theorem dX12_init_161 : decode cX12_init 161 = .ok (.bipush 20, 2) := by decide +kernel
theorem dX12_init_163 : decode cX12_init 163 = .ok (.ldc2_w 56, 3) := by decide +kernel
theorem dX12_init_166 : decode cX12_init 166 = .ok (.lastore, 1) := by decide +kernel
theorem dX12_init_167 : decode cX12_init 167 = .ok (.dup, 1) := by decide +kernel
theorem dX12_init_168 : decode cX12_init 168 = .ok (.bipush 21, 2) := by decide +kernel
theorem dX12_init_170 : decode cX12_init 170 = .ok (.ldc2_w 58, 3) := by decide +kernel
theorem dX12_init_173 : decode cX12_init 173 = .ok (.lastore, 1) := by decide +kernel
theorem dX12_init_174 : decode cX12_init 174 = .ok (.dup, 1) := by decide +kernel
theorem dX12_init_175 : decode cX12_init 175 = .ok (.bipush 22, 2) := by decide +kernel
theorem dX12_init_177 : decode cX12_init 177 = .ok (.ldc2_w 60, 3) := by decide +kernel
theorem dX12_init_180 : decode cX12_init 180 = .ok (.lastore, 1) := by decide +kernel
theorem dX12_init_181 : decode cX12_init 181 = .ok (.dup, 1) := by decide +kernel
theorem dX12_init_182 : decode cX12_init 182 = .ok (.bipush 23, 2) := by decide +kernel
theorem dX12_init_184 : decode cX12_init 184 = .ok (.ldc2_w 62, 3) := by decide +kernel
theorem dX12_init_187 : decode cX12_init 187 = .ok (.lastore, 1) := by decide +kernel
theorem dX12_init_188 : decode cX12_init 188 = .ok (.dup, 1) := by decide +kernel
theorem dX12_init_189 : decode cX12_init 189 = .ok (.bipush 24, 2) := by decide +kernel
theorem dX12_init_191 : decode cX12_init 191 = .ok (.ldc2_w 64, 3) := by decide +kernel
theorem dX12_init_194 : decode cX12_init 194 = .ok (.lastore, 1) := by decide +kernel
theorem dX12_init_195 : decode cX12_init 195 = .ok (.dup, 1) := by decide +kernel
theorem dX12_init_196 : decode cX12_init 196 = .ok (.bipush 25, 2) := by decide +kernel
theorem dX12_init_198 : decode cX12_init 198 = .ok (.ldc2_w 66, 3) := by decide +kernel
theorem dX12_init_201 : decode cX12_init 201 = .ok (.lastore, 1) := by decide +kernel
theorem dX12_init_202 : decode cX12_init 202 = .ok (.dup, 1) := by decide +kernel
theorem dX12_init_203 : decode cX12_init 203 = .ok (.bipush 26, 2) := by decide +kernel
theorem dX12_init_205 : decode cX12_init 205 = .ok (.ldc2_w 68, 3) := by decide +kernel
theorem dX12_init_208 : decode cX12_init 208 = .ok (.lastore, 1) := by decide +kernel
theorem dX12_init_209 : decode cX12_init 209 = .ok (.dup, 1) := by decide +kernel
theorem dX12_init_210 : decode cX12_init 210 = .ok (.bipush 27, 2) := by decide +kernel
theorem dX12_init_212 : decode cX12_init 212 = .ok (.ldc2_w 70, 3) := by decide +kernel
theorem dX12_init_215 : decode cX12_init 215 = .ok (.lastore, 1) := by decide +kernel
theorem dX12_init_216 : decode cX12_init 216 = .ok (.dup, 1) := by decide +kernel
theorem dX12_init_217 : decode cX12_init 217 = .ok (.bipush 28, 2) := by decide +kernel
theorem dX12_init_219 : decode cX12_init 219 = .ok (.ldc2_w 72, 3) := by decide +kernel
theorem dX12_init_222 : decode cX12_init 222 = .ok (.lastore, 1) := by decide +kernel
theorem dX12_init_223 : decode cX12_init 223 = .ok (.putfield 74, 3) := by decide +kernel
theorem dX12_init_226 : decode cX12_init 226 = .ok (.aload_n 0, 1) := by decide +kernel
theorem dX12_init_227 : decode cX12_init 227 = .ok (.bipush 16, 2) := by decide +kernel
theorem dX12_init_229 : decode cX12_init 229 = .ok (.newarray .long, 2) := by decide +kernel
theorem dX12_init_231 : decode cX12_init 231 = .ok (.putfield 78, 3) := by decide +kernel
theorem dX12_init_234 : decode cX12_init 234 = .ok (.aload_n 0, 1) := by decide +kernel
theorem dX12_init_235 : decode cX12_init 235 = .ok (.bipush 96, 2) := by decide +kernel
theorem dX12_init_237 : decode cX12_init 237 = .ok (.newarray .long, 2) := by decide +kernel
theorem dX12_init_239 : decode cX12_init 239 = .ok (.putfield 81, 3) := by decide +kernel
theorem dX12_init_242 : decode cX12_init 242 = .ok (.aload_n 0, 1) := by decide +kernel
theorem dX12_init_243 : decode cX12_init 243 = .ok (.bipush 96, 2) := by decide +kernel
theorem dX12_init_245 : decode cX12_init 245 = .ok (.newarray .long, 2) := by decide +kernel
theorem dX12_init_247 : decode cX12_init 247 = .ok (.putfield 84, 3) := by decide +kernel
theorem dX12_init_250 : decode cX12_init 250 = .ok (.aload_n 0, 1) := by decide +kernel
theorem dX12_init_251 : decode cX12_init 251 = .ok (.bipush 16, 2) := by decide +kernel
theorem dX12_init_253 : decode cX12_init 253 = .ok (.newarray .int, 2) := by decide +kernel
theorem dX12_init_255 : decode cX12_init 255 = .ok (.putfield 87, 3) := by decide +kernel
theorem dX12_init_258 : decode cX12_init 258 = .ok (.aload_n 0, 1) := by decide +kernel
theorem dX12_init_259 : decode cX12_init 259 = .ok (.bipush 16, 2) := by decide +kernel
theorem dX12_init_261 : decode cX12_init 261 = .ok (.newarray .int, 2) := by decide +kernel
theorem dX12_init_263 : decode cX12_init 263 = .ok (.putfield 91, 3) := by decide +kernel
theorem dX12_init_266 : decode cX12_init 266 = .ok (.aload_n 0, 1) := by decide +kernel
theorem dX12_init_267 : decode cX12_init 267 = .ok (.bipush 16, 2) := by decide +kernel
theorem dX12_init_269 : decode cX12_init 269 = .ok (.newarray .int, 2) := by decide +kernel
theorem dX12_init_271 : decode cX12_init 271 = .ok (.putfield 94, 3) := by decide +kernel
theorem dX12_init_274 : decode cX12_init 274 = .ok (.aload_n 0, 1) := by decide +kernel
theorem dX12_init_275 : decode cX12_init 275 = .ok (.bipush 16, 2) := by decide +kernel
theorem dX12_init_277 : decode cX12_init 277 = .ok (.newarray .int, 2) := by decide +kernel
theorem dX12_init_279 : decode cX12_init 279 = .ok (.putfield 97, 3) := by decide +kernel
theorem dX12_init_282 : decode cX12_init 282 = .ok (.aload_n 0, 1) := by decide +kernel
theorem dX12_init_283 : decode cX12_init 283 = .ok (.bipush 16, 2) := by decide +kernel
theorem dX12_init_285 : decode cX12_init 285 = .ok (.newarray .int, 2) := by decide +kernel
theorem dX12_init_287 : decode cX12_init 287 = .ok (.putfield 100, 3) := by decide +kernel
theorem dX12_init_290 : decode cX12_init 290 = .ok (.aload_n 0, 1) := by decide +kernel
theorem dX12_init_291 : decode cX12_init 291 = .ok (.bipush 96, 2) := by decide +kernel
theorem dX12_init_293 : decode cX12_init 293 = .ok (.newarray .int, 2) := by decide +kernel
theorem dX12_init_295 : decode cX12_init 295 = .ok (.putfield 103, 3) := by decide +kernel
theorem dX12_init_298 : decode cX12_init 298 = .ok (.aload_n 0, 1) := by decide +kernel
theorem dX12_init_299 : decode cX12_init 299 = .ok (.bipush 96, 2) := by decide +kernel
theorem dX12_init_301 : decode cX12_init 301 = .ok (.newarray .int, 2) := by decide +kernel
theorem dX12_init_303 : decode cX12_init 303 = .ok (.putfield 106, 3) := by decide +kernel
theorem dX12_init_306 : decode cX12_init 306 = .ok (.aload_n 0, 1) := by decide +kernel
theorem dX12_init_307 : decode cX12_init 307 = .ok (.bipush 96, 2) := by decide +kernel
theorem dX12_init_309 : decode cX12_init 309 = .ok (.newarray .int, 2) := by decide +kernel
theorem dX12_init_311 : decode cX12_init 311 = .ok (.putfield 109, 3) := by decide +kernel
theorem dX12_init_314 : decode cX12_init 314 = .ok (.aload_n 0, 1) := by decide +kernel
theorem dX12_init_315 : decode cX12_init 315 = .ok (.bipush 96, 2) := by decide +kernel
theorem dX12_init_317 : decode cX12_init 317 = .ok (.newarray .int, 2) := by decide +kernel
theorem dX12_init_319 : decode cX12_init 319 = .ok (.putfield 112, 3) := by decide +kernel
theorem dX12_init_322 : decode cX12_init 322 = .ok (.aload_n 0, 1) := by decide +kernel
theorem dX12_init_323 : decode cX12_init 323 = .ok (.bipush 16, 2) := by decide +kernel
theorem dX12_init_325 : decode cX12_init 325 = .ok (.newarray .boolean, 2) := by decide +kernel
theorem dX12_init_327 : decode cX12_init 327 = .ok (.putfield 115, 3) := by decide +kernel
theorem dX12_init_330 : decode cX12_init 330 = .ok (.aload_n 0, 1) := by decide +kernel
theorem dX12_init_331 : decode cX12_init 331 = .ok (.bipush 96, 2) := by decide +kernel
theorem dX12_init_333 : decode cX12_init 333 = .ok (.newarray .boolean, 2) := by decide +kernel
theorem dX12_init_335 : decode cX12_init 335 = .ok (.putfield 119, 3) := by decide +kernel
theorem dX12_init_338 : decode cX12_init 338 = .ok (.aload_n 0, 1) := by decide +kernel
theorem dX12_init_339 : decode cX12_init 339 = .ok (.bipush 16, 2) := by decide +kernel
theorem dX12_init_341 : decode cX12_init 341 = .ok (.newarray .boolean, 2) := by decide +kernel
theorem dX12_init_343 : decode cX12_init 343 = .ok (.putfield 122, 3) := by decide +kernel
theorem dX12_init_346 : decode cX12_init 346 = .ok (.aload_n 0, 1) := by decide +kernel
theorem dX12_init_347 : decode cX12_init 347 = .ok (.sipush 400, 3) := by decide +kernel
theorem dX12_init_350 : decode cX12_init 350 = .ok (.newarray .int, 2) := by decide +kernel
theorem dX12_init_352 : decode cX12_init 352 = .ok (.putfield 125, 3) := by decide +kernel
theorem dX12_init_355 : decode cX12_init 355 = .ok (.aload_n 0, 1) := by decide +kernel
theorem dX12_init_356 : decode cX12_init 356 = .ok (.sipush 400, 3) := by decide +kernel
theorem dX12_init_359 : decode cX12_init 359 = .ok (.newarray .int, 2) := by decide +kernel
theorem dX12_init_361 : decode cX12_init 361 = .ok (.putfield 128, 3) := by decide +kernel
theorem dX12_init_364 : decode cX12_init 364 = .ok (.aload_n 0, 1) := by decide +kernel
theorem dX12_init_365 : decode cX12_init 365 = .ok (.sipush 400, 3) := by decide +kernel
theorem dX12_init_368 : decode cX12_init 368 = .ok (.newarray .int, 2) := by decide +kernel
theorem dX12_init_370 : decode cX12_init 370 = .ok (.putfield 131, 3) := by decide +kernel
theorem dX12_init_373 : decode cX12_init 373 = .ok (.aload_n 0, 1) := by decide +kernel
theorem dX12_init_374 : decode cX12_init 374 = .ok (.sipush 400, 3) := by decide +kernel
theorem dX12_init_377 : decode cX12_init 377 = .ok (.newarray .boolean, 2) := by decide +kernel
theorem dX12_init_379 : decode cX12_init 379 = .ok (.putfield 134, 3) := by decide +kernel
theorem dX12_init_382 : decode cX12_init 382 = .ok (.aload_n 0, 1) := by decide +kernel
theorem dX12_init_383 : decode cX12_init 383 = .ok (.ldc 137, 2) := by decide +kernel
theorem dX12_init_385 : decode cX12_init 385 = .ok (.newarray .long, 2) := by decide +kernel
theorem dX12_init_387 : decode cX12_init 387 = .ok (.putfield 138, 3) := by decide +kernel
theorem dX12_init_390 : decode cX12_init 390 = .ok (.aload_n 0, 1) := by decide +kernel
theorem dX12_init_391 : decode cX12_init 391 = .ok (.bipush 12, 2) := by decide +kernel
theorem dX12_init_393 : decode cX12_init 393 = .ok (.newarray .int, 2) := by decide +kernel
theorem dX12_init_395 : decode cX12_init 395 = .ok (.putfield 141, 3) := by decide +kernel
theorem dX12_init_398 : decode cX12_init 398 = .ok (.aload_n 0, 1) := by decide +kernel
theorem dX12_init_399 : decode cX12_init 399 = .ok (.bipush 100, 2) := by decide +kernel
theorem dX12_init_401 : decode cX12_init 401 = .ok (.newarray .int, 2) := by decide +kernel
theorem dX12_init_403 : decode cX12_init 403 = .ok (.putfield 144, 3) := by decide +kernel
theorem dX12_init_406 : decode cX12_init 406 = .ok (.aload_n 0, 1) := by decide +kernel
theorem dX12_init_407 : decode cX12_init 407 = .ok (.bipush 100, 2) := by decide +kernel
theorem dX12_init_409 : decode cX12_init 409 = .ok (.newarray .int, 2) := by decide +kernel
theorem dX12_init_411 : decode cX12_init 411 = .ok (.putfield 147, 3) := by decide +kernel
theorem dX12_init_414 : decode cX12_init 414 = .ok (.aload_n 0, 1) := by decide +kernel
theorem dX12_init_415 : decode cX12_init 415 = .ok (.bipush 100, 2) := by decide +kernel
theorem dX12_init_417 : decode cX12_init 417 = .ok (.newarray .int, 2) := by decide +kernel
theorem dX12_init_419 : decode cX12_init 419 = .ok (.putfield 150, 3) := by decide +kernel
theorem dX12_init_422 : decode cX12_init 422 = .ok (.aload_n 0, 1) := by decide +kernel
theorem dX12_init_423 : decode cX12_init 423 = .ok (.bipush 100, 2) := by decide +kernel
theorem dX12_init_425 : decode cX12_init 425 = .ok (.newarray .long, 2) := by decide +kernel
theorem dX12_init_427 : decode cX12_init 427 = .ok (.putfield 153, 3) := by decide +kernel
theorem dX12_init_430 : decode cX12_init 430 = .ok (.aload_n 0, 1) := by decide +kernel
theorem dX12_init_431 : decode cX12_init 431 = .ok (.bipush 6, 2) := by decide +kernel
theorem dX12_init_433 : decode cX12_init 433 = .ok (.newarray .int, 2) := by decide +kernel
theorem dX12_init_435 : decode cX12_init 435 = .ok (.putfield 156, 3) := by decide +kernel
theorem dX12_init_438 : decode cX12_init 438 = .ok (.aload_n 0, 1) := by decide +kernel
theorem dX12_init_439 : decode cX12_init 439 = .ok (.bipush 6, 2) := by decide +kernel
theorem dX12_init_441 : decode cX12_init 441 = .ok (.newarray .int, 2) := by decide +kernel
theorem dX12_init_443 : decode cX12_init 443 = .ok (.putfield 159, 3) := by decide +kernel
theorem dX12_init_446 : decode cX12_init 446 = .ok (.aload_n 0, 1) := by decide +kernel
theorem dX12_init_447 : decode cX12_init 447 = .ok (.bipush 6, 2) := by decide +kernel
theorem dX12_init_449 : decode cX12_init 449 = .ok (.newarray .int, 2) := by decide +kernel
theorem dX12_init_451 : decode cX12_init 451 = .ok (.putfield 162, 3) := by decide +kernel
theorem dX12_init_454 : decode cX12_init 454 = .ok (.aload_n 0, 1) := by decide +kernel
theorem dX12_init_455 : decode cX12_init 455 = .ok (.bipush 36, 2) := by decide +kernel
theorem dX12_init_457 : decode cX12_init 457 = .ok (.newarray .int, 2) := by decide +kernel
theorem dX12_init_459 : decode cX12_init 459 = .ok (.putfield 165, 3) := by decide +kernel
theorem dX12_init_462 : decode cX12_init 462 = .ok (.aload_n 0, 1) := by decide +kernel
theorem dX12_init_463 : decode cX12_init 463 = .ok (.bipush 36, 2) := by decide +kernel
theorem dX12_init_465 : decode cX12_init 465 = .ok (.newarray .int, 2) := by decide +kernel
theorem dX12_init_467 : decode cX12_init 467 = .ok (.putfield 168, 3) := by decide +kernel
theorem dX12_init_470 : decode cX12_init 470 = .ok (.aload_n 0, 1) := by decide +kernel
theorem dX12_init_471 : decode cX12_init 471 = .ok (.bipush 36, 2) := by decide +kernel
theorem dX12_init_473 : decode cX12_init 473 = .ok (.newarray .long, 2) := by decide +kernel
theorem dX12_init_475 : decode cX12_init 475 = .ok (.putfield 171, 3) := by decide +kernel
theorem dX12_init_478 : decode cX12_init 478 = .ok (.aload_n 0, 1) := by decide +kernel
theorem dX12_init_479 : decode cX12_init 479 = .ok (.bipush 36, 2) := by decide +kernel
theorem dX12_init_481 : decode cX12_init 481 = .ok (.newarray .long, 2) := by decide +kernel
theorem dX12_init_483 : decode cX12_init 483 = .ok (.putfield 174, 3) := by decide +kernel
theorem dX12_init_486 : decode cX12_init 486 = .ok (.aload_n 0, 1) := by decide +kernel
theorem dX12_init_487 : decode cX12_init 487 = .ok (.sipush 400, 3) := by decide +kernel
theorem dX12_init_490 : decode cX12_init 490 = .ok (.newarray .int, 2) := by decide +kernel
theorem dX12_init_492 : decode cX12_init 492 = .ok (.putfield 177, 3) := by decide +kernel
theorem dX12_init_495 : decode cX12_init 495 = .ok (.aload_n 0, 1) := by decide +kernel
theorem dX12_init_496 : decode cX12_init 496 = .ok (.sipush 400, 3) := by decide +kernel
theorem dX12_init_499 : decode cX12_init 499 = .ok (.newarray .int, 2) := by decide +kernel
theorem dX12_init_501 : decode cX12_init 501 = .ok (.putfield 180, 3) := by decide +kernel
theorem dX12_init_504 : decode cX12_init 504 = .ok (.aload_n 0, 1) := by decide +kernel
theorem dX12_init_505 : decode cX12_init 505 = .ok (.iconst 5, 1) := by decide +kernel
theorem dX12_init_506 : decode cX12_init 506 = .ok (.newarray .int, 2) := by decide +kernel
theorem dX12_init_508 : decode cX12_init 508 = .ok (.putfield 183, 3) := by decide +kernel
theorem dX12_init_511 : decode cX12_init 511 = .ok (.aload_n 0, 1) := by decide +kernel
theorem dX12_init_512 : decode cX12_init 512 = .ok (.sipush 2000, 3) := by decide +kernel
theorem dX12_init_515 : decode cX12_init 515 = .ok (.newarray .int, 2) := by decide +kernel
theorem dX12_init_517 : decode cX12_init 517 = .ok (.putfield 186, 3) := by decide +kernel
theorem dX12_init_520 : decode cX12_init 520 = .ok (.aload_n 0, 1) := by decide +kernel
theorem dX12_init_521 : decode cX12_init 521 = .ok (.sipush 2000, 3) := by decide +kernel
theorem dX12_init_524 : decode cX12_init 524 = .ok (.newarray .int, 2) := by decide +kernel
theorem dX12_init_526 : decode cX12_init 526 = .ok (.putfield 189, 3) := by decide +kernel
theorem dX12_init_529 : decode cX12_init 529 = .ok (.aload_n 0, 1) := by decide +kernel
theorem dX12_init_530 : decode cX12_init 530 = .ok (.sipush 2000, 3) := by decide +kernel
theorem dX12_init_533 : decode cX12_init 533 = .ok (.newarray .int, 2) := by decide +kernel
theorem dX12_init_535 : decode cX12_init 535 = .ok (.putfield 192, 3) := by decide +kernel
theorem dX12_init_538 : decode cX12_init 538 = .ok (.aload_n 0, 1) := by decide +kernel
theorem dX12_init_539 : decode cX12_init 539 = .ok (.sipush 2000, 3) := by decide +kernel
theorem dX12_init_542 : decode cX12_init 542 = .ok (.newarray .int, 2) := by decide +kernel
theorem dX12_init_544 : decode cX12_init 544 = .ok (.putfield 195, 3) := by decide +kernel
theorem dX12_init_547 : decode cX12_init 547 = .ok (.aload_n 0, 1) := by decide +kernel
theorem dX12_init_548 : decode cX12_init 548 = .ok (.sipush 2000, 3) := by decide +kernel
theorem dX12_init_551 : decode cX12_init 551 = .ok (.newarray .int, 2) := by decide +kernel
theorem dX12_init_553 : decode cX12_init 553 = .ok (.putfield 198, 3) := by decide +kernel
theorem dX12_init_556 : decode cX12_init 556 = .ok (.aload_n 0, 1) := by decide +kernel
theorem dX12_init_557 : decode cX12_init 557 = .ok (.sipush 2000, 3) := by decide +kernel
theorem dX12_init_560 : decode cX12_init 560 = .ok (.newarray .int, 2) := by decide +kernel
theorem dX12_init_562 : decode cX12_init 562 = .ok (.putfield 201, 3) := by decide +kernel
theorem dX12_init_565 : decode cX12_init 565 = .ok (.aload_n 0, 1) := by decide +kernel
theorem dX12_init_566 : decode cX12_init 566 = .ok (.sipush 2000, 3) := by decide +kernel
theorem dX12_init_569 : decode cX12_init 569 = .ok (.newarray .int, 2) := by decide +kernel
theorem dX12_init_571 : decode cX12_init 571 = .ok (.putfield 204, 3) := by decide +kernel
theorem dX12_init_574 : decode cX12_init 574 = .ok (.aload_n 0, 1) := by decide +kernel
theorem dX12_init_575 : decode cX12_init 575 = .ok (.sipush 2000, 3) := by decide +kernel
theorem dX12_init_578 : decode cX12_init 578 = .ok (.newarray .int, 2) := by decide +kernel
theorem dX12_init_580 : decode cX12_init 580 = .ok (.putfield 207, 3) := by decide +kernel
theorem dX12_init_583 : decode cX12_init 583 = .ok (.aload_n 0, 1) := by decide +kernel
theorem dX12_init_584 : decode cX12_init 584 = .ok (.sipush 2000, 3) := by decide +kernel
theorem dX12_init_587 : decode cX12_init 587 = .ok (.newarray .int, 2) := by decide +kernel
theorem dX12_init_589 : decode cX12_init 589 = .ok (.putfield 210, 3) := by decide +kernel
theorem dX12_init_592 : decode cX12_init 592 = .ok (.aload_n 0, 1) := by decide +kernel
theorem dX12_init_593 : decode cX12_init 593 = .ok (.sipush 2000, 3) := by decide +kernel
theorem dX12_init_596 : decode cX12_init 596 = .ok (.newarray .int, 2) := by decide +kernel
theorem dX12_init_598 : decode cX12_init 598 = .ok (.putfield 213, 3) := by decide +kernel
theorem dX12_init_601 : decode cX12_init 601 = .ok (.aload_n 0, 1) := by decide +kernel
theorem dX12_init_602 : decode cX12_init 602 = .ok (.sipush 2000, 3) := by decide +kernel
theorem dX12_init_605 : decode cX12_init 605 = .ok (.newarray .int, 2) := by decide +kernel
theorem dX12_init_607 : decode cX12_init 607 = .ok (.putfield 216, 3) := by decide +kernel
theorem dX12_init_610 : decode cX12_init 610 = .ok (.aload_n 0, 1) := by decide +kernel
theorem dX12_init_611 : decode cX12_init 611 = .ok (.sipush 2000, 3) := by decide +kernel
theorem dX12_init_614 : decode cX12_init 614 = .ok (.newarray .int, 2) := by decide +kernel
theorem dX12_init_616 : decode cX12_init 616 = .ok (.putfield 219, 3) := by decide +kernel
theorem dX12_init_619 : decode cX12_init 619 = .ok (.aload_n 0, 1) := by decide +kernel
theorem dX12_init_620 : decode cX12_init 620 = .ok (.sipush 2000, 3) := by decide +kernel
theorem dX12_init_623 : decode cX12_init 623 = .ok (.newarray .int, 2) := by decide +kernel
theorem dX12_init_625 : decode cX12_init 625 = .ok (.putfield 222, 3) := by decide +kernel
theorem dX12_init_628 : decode cX12_init 628 = .ok (.aload_n 0, 1) := by decide +kernel
theorem dX12_init_629 : decode cX12_init 629 = .ok (.iconst 5, 1) := by decide +kernel
theorem dX12_init_630 : decode cX12_init 630 = .ok (.newarray .int, 2) := by decide +kernel
theorem dX12_init_632 : decode cX12_init 632 = .ok (.putfield 225, 3) := by decide +kernel
theorem dX12_init_635 : decode cX12_init 635 = .ok (.aload_n 0, 1) := by decide +kernel
theorem dX12_init_636 : decode cX12_init 636 = .ok (.iconst 5, 1) := by decide +kernel
theorem dX12_init_637 : decode cX12_init 637 = .ok (.newarray .int, 2) := by decide +kernel
theorem dX12_init_639 : decode cX12_init 639 = .ok (.putfield 228, 3) := by decide +kernel
theorem dX12_init_642 : decode cX12_init 642 = .ok (.aload_n 0, 1) := by decide +kernel
theorem dX12_init_643 : decode cX12_init 643 = .ok (.iconst 5, 1) := by decide +kernel
theorem dX12_init_644 : decode cX12_init 644 = .ok (.newarray .int, 2) := by decide +kernel
theorem dX12_init_646 : decode cX12_init 646 = .ok (.putfield 231, 3) := by decide +kernel
theorem dX12_init_649 : decode cX12_init 649 = .ok (.aload_n 0, 1) := by decide +kernel
theorem dX12_init_650 : decode cX12_init 650 = .ok (.iconst 5, 1) := by decide +kernel
theorem dX12_init_651 : decode cX12_init 651 = .ok (.newarray .int, 2) := by decide +kernel
theorem dX12_init_653 : decode cX12_init 653 = .ok (.putfield 234, 3) := by decide +kernel
theorem dX12_init_656 : decode cX12_init 656 = .ok (.aload_n 0, 1) := by decide +kernel
theorem dX12_init_657 : decode cX12_init 657 = .ok (.sipush 640, 3) := by decide +kernel
theorem dX12_init_660 : decode cX12_init 660 = .ok (.newarray .int, 2) := by decide +kernel
theorem dX12_init_662 : decode cX12_init 662 = .ok (.putfield 237, 3) := by decide +kernel
theorem dX12_init_665 : decode cX12_init 665 = .ok (.aload_n 0, 1) := by decide +kernel
theorem dX12_init_666 : decode cX12_init 666 = .ok (.sipush 640, 3) := by decide +kernel
theorem dX12_init_669 : decode cX12_init 669 = .ok (.newarray .int, 2) := by decide +kernel
theorem dX12_init_671 : decode cX12_init 671 = .ok (.putfield 240, 3) := by decide +kernel
theorem dX12_init_674 : decode cX12_init 674 = .ok (.aload_n 0, 1) := by decide +kernel
theorem dX12_init_675 : decode cX12_init 675 = .ok (.sipush 20000, 3) := by decide +kernel
theorem dX12_init_678 : decode cX12_init 678 = .ok (.newarray .long, 2) := by decide +kernel
theorem dX12_init_680 : decode cX12_init 680 = .ok (.putfield 243, 3) := by decide +kernel
theorem dX12_init_683 : decode cX12_init 683 = .ok (.aload_n 0, 1) := by decide +kernel
theorem dX12_init_684 : decode cX12_init 684 = .ok (.sipush 2000, 3) := by decide +kernel
theorem dX12_init_687 : decode cX12_init 687 = .ok (.newarray .boolean, 2) := by decide +kernel
theorem dX12_init_689 : decode cX12_init 689 = .ok (.putfield 246, 3) := by decide +kernel
theorem dX12_init_692 : decode cX12_init 692 = .ok (.aload_n 0, 1) := by decide +kernel
theorem dX12_init_693 : decode cX12_init 693 = .ok (.sipush 400, 3) := by decide +kernel
theorem dX12_init_696 : decode cX12_init 696 = .ok (.newarray .boolean, 2) := by decide +kernel
theorem dX12_init_698 : decode cX12_init 698 = .ok (.putfield 249, 3) := by decide +kernel
theorem dX12_init_701 : decode cX12_init 701 = .ok (.aload_n 0, 1) := by decide +kernel
theorem dX12_init_702 : decode cX12_init 702 = .ok (.ldc 252, 2) := by decide +kernel
theorem dX12_init_704 : decode cX12_init 704 = .ok (.newarray .boolean, 2) := by decide +kernel
theorem dX12_init_706 : decode cX12_init 706 = .ok (.putfield 253, 3) := by decide +kernel
theorem dX12_init_709 : decode cX12_init 709 = .ok (.aload_n 0, 1) := by decide +kernel
theorem dX12_init_710 : decode cX12_init 710 = .ok (.sipush 400, 3) := by decide +kernel
theorem dX12_init_713 : decode cX12_init 713 = .ok (.newarray .int, 2) := by decide +kernel
theorem dX12_init_715 : decode cX12_init 715 = .ok (.putfield 256, 3) := by decide +kernel
theorem dX12_init_718 : decode cX12_init 718 = .ok (.aload_n 0, 1) := by decide +kernel
theorem dX12_init_719 : decode cX12_init 719 = .ok (.sipush 400, 3) := by decide +kernel
theorem dX12_init_722 : decode cX12_init 722 = .ok (.newarray .int, 2) := by decide +kernel
theorem dX12_init_724 : decode cX12_init 724 = .ok (.putfield 259, 3) := by decide +kernel
theorem dX12_init_727 : decode cX12_init 727 = .ok (.aload_n 0, 1) := by decide +kernel
theorem dX12_init_728 : decode cX12_init 728 = .ok (.sipush 400, 3) := by decide +kernel
theorem dX12_init_731 : decode cX12_init 731 = .ok (.newarray .int, 2) := by decide +kernel
theorem dX12_init_733 : decode cX12_init 733 = .ok (.putfield 262, 3) := by decide +kernel
theorem dX12_init_736 : decode cX12_init 736 = .ok (.aload_n 0, 1) := by decide +kernel
theorem dX12_init_737 : decode cX12_init 737 = .ok (.sipush 400, 3) := by decide +kernel
theorem dX12_init_740 : decode cX12_init 740 = .ok (.newarray .int, 2) := by decide +kernel
theorem dX12_init_742 : decode cX12_init 742 = .ok (.putfield 265, 3) := by decide +kernel
theorem dX12_init_745 : decode cX12_init 745 = .ok (.aload_n 0, 1) := by decide +kernel
theorem dX12_init_746 : decode cX12_init 746 = .ok (.iconst (-1), 1) := by decide +kernel
theorem dX12_init_747 : decode cX12_init 747 = .ok (.putfield 268, 3) := by decide +kernel
theorem dX12_init_750 : decode cX12_init 750 = .ok (.aload_n 0, 1) := by decide +kernel
theorem dX12_init_751 : decode cX12_init 751 = .ok (.sipush 480, 3) := by decide +kernel
theorem dX12_init_754 : decode cX12_init 754 = .ok (.newarray .int, 2) := by decide +kernel
theorem dX12_init_756 : decode cX12_init 756 = .ok (.putfield 272, 3) := by decide +kernel
theorem dX12_init_759 : decode cX12_init 759 = .ok (.aload_n 0, 1) := by decide +kernel
theorem dX12_init_760 : decode cX12_init 760 = .ok (.sipush 480, 3) := by decide +kernel
theorem dX12_init_763 : decode cX12_init 763 = .ok (.newarray .int, 2) := by decide +kernel
theorem dX12_init_765 : decode cX12_init 765 = .ok (.putfield 275, 3) := by decide +kernel
theorem dX12_init_768 : decode cX12_init 768 = .ok (.aload_n 0, 1) := by decide +kernel
theorem dX12_init_769 : decode cX12_init 769 = .ok (.sipush 480, 3) := by decide +kernel
theorem dX12_init_772 : decode cX12_init 772 = .ok (.newarray .int, 2) := by decide +kernel
theorem dX12_init_774 : decode cX12_init 774 = .ok (.putfield 278, 3) := by decide +kernel
theorem dX12_init_777 : decode cX12_init 777 = .ok (.aload_n 0, 1) := by decide +kernel
theorem dX12_init_778 : decode cX12_init 778 = .ok (.sipush 480, 3) := by decide +kernel
theorem dX12_init_781 : decode cX12_init 781 = .ok (.newarray .int, 2) := by decide +kernel
theorem dX12_init_783 : decode cX12_init 783 = .ok (.putfield 281, 3) := by decide +kernel
theorem dX12_init_786 : decode cX12_init 786 = .ok (.aload_n 0, 1) := by decide +kernel
theorem dX12_init_787 : decode cX12_init 787 = .ok (.sipush 480, 3) := by decide +kernel
theorem dX12_init_790 : decode cX12_init 790 = .ok (.newarray .long, 2) := by decide +kernel
theorem dX12_init_792 : decode cX12_init 792 = .ok (.putfield 284, 3) := by decide +kernel
theorem dX12_init_795 : decode cX12_init 795 = .ok (.aload_n 0, 1) := by decide +kernel
theorem dX12_init_796 : decode cX12_init 796 = .ok (.bipush 12, 2) := by decide +kernel
theorem dX12_init_798 : decode cX12_init 798 = .ok (.newarray .long, 2) := by decide +kernel
theorem dX12_init_800 : decode cX12_init 800 = .ok (.putfield 287, 3) := by decide +kernel
theorem dX12_init_803 : decode cX12_init 803 = .ok (.aload_n 0, 1) := by decide +kernel
theorem dX12_init_804 : decode cX12_init 804 = .ok (.bipush 12, 2) := by decide +kernel
theorem dX12_init_806 : decode cX12_init 806 = .ok (.newarray .int, 2) := by decide +kernel
theorem dX12_init_808 : decode cX12_init 808 = .ok (.putfield 290, 3) := by decide +kernel
theorem dX12_init_811 : decode cX12_init 811 = .ok (.aload_n 0, 1) := by decide +kernel
theorem dX12_init_812 : decode cX12_init 812 = .ok (.ldc_w 293, 3) := by decide +kernel
theorem dX12_init_815 : decode cX12_init 815 = .ok (.newarray .int, 2) := by decide +kernel
theorem dX12_init_817 : decode cX12_init 817 = .ok (.putfield 294, 3) := by decide +kernel
theorem dX12_init_820 : decode cX12_init 820 = .ok (.aload_n 0, 1) := by decide +kernel
theorem dX12_init_821 : decode cX12_init 821 = .ok (.bipush 12, 2) := by decide +kernel
theorem dX12_init_823 : decode cX12_init 823 = .ok (.newarray .int, 2) := by decide +kernel
theorem dX12_init_825 : decode cX12_init 825 = .ok (.putfield 297, 3) := by decide +kernel
theorem dX12_init_828 : decode cX12_init 828 = .ok (.aload_n 0, 1) := by decide +kernel
theorem dX12_init_829 : decode cX12_init 829 = .ok (.sipush 4400, 3) := by decide +kernel
theorem dX12_init_832 : decode cX12_init 832 = .ok (.newarray .int, 2) := by decide +kernel
theorem dX12_init_834 : decode cX12_init 834 = .ok (.putfield 300, 3) := by decide +kernel
theorem dX12_init_837 : decode cX12_init 837 = .ok (.aload_n 0, 1) := by decide +kernel
theorem dX12_init_838 : decode cX12_init 838 = .ok (.sipush 4400, 3) := by decide +kernel
theorem dX12_init_841 : decode cX12_init 841 = .ok (.newarray .int, 2) := by decide +kernel
theorem dX12_init_843 : decode cX12_init 843 = .ok (.putfield 303, 3) := by decide +kernel
theorem dX12_init_846 : decode cX12_init 846 = .ok (.aload_n 0, 1) := by decide +kernel
theorem dX12_init_847 : decode cX12_init 847 = .ok (.sipush 4400, 3) := by decide +kernel
theorem dX12_init_850 : decode cX12_init 850 = .ok (.newarray .long, 2) := by decide +kernel
theorem dX12_init_852 : decode cX12_init 852 = .ok (.putfield 306, 3) := by decide +kernel
theorem dX12_init_855 : decode cX12_init 855 = .ok (.aload_n 0, 1) := by decide +kernel
theorem dX12_init_856 : decode cX12_init 856 = .ok (.iconst 3, 1) := by decide +kernel
theorem dX12_init_857 : decode cX12_init 857 = .ok (.newarray .int, 2) := by decide +kernel
theorem dX12_init_859 : decode cX12_init 859 = .ok (.putfield 309, 3) := by decide +kernel
theorem dX12_init_862 : decode cX12_init 862 = .ok (.aload_n 0, 1) := by decide +kernel
theorem dX12_init_863 : decode cX12_init 863 = .ok (.iconst 3, 1) := by decide +kernel
theorem dX12_init_864 : decode cX12_init 864 = .ok (.newarray .int, 2) := by decide +kernel
theorem dX12_init_866 : decode cX12_init 866 = .ok (.putfield 312, 3) := by decide +kernel
theorem dX12_init_869 : decode cX12_init 869 = .ok (.aload_n 0, 1) := by decide +kernel
theorem dX12_init_870 : decode cX12_init 870 = .ok (.bipush 6, 2) := by decide +kernel
theorem dX12_init_872 : decode cX12_init 872 = .ok (.newarray .long, 2) := by decide +kernel
theorem dX12_init_874 : decode cX12_init 874 = .ok (.putfield 315, 3) := by decide +kernel
theorem dX12_init_877 : decode cX12_init 877 = .ok (.aload_n 0, 1) := by decide +kernel
theorem dX12_init_878 : decode cX12_init 878 = .ok (.bipush 9, 2) := by decide +kernel
theorem dX12_init_880 : decode cX12_init 880 = .ok (.newarray .long, 2) := by decide +kernel
theorem dX12_init_882 : decode cX12_init 882 = .ok (.putfield 318, 3) := by decide +kernel
theorem dX12_init_885 : decode cX12_init 885 = .ok (.aload_n 0, 1) := by decide +kernel
theorem dX12_init_886 : decode cX12_init 886 = .ok (.bipush 48, 2) := by decide +kernel
theorem dX12_init_888 : decode cX12_init 888 = .ok (.newarray .long, 2) := by decide +kernel
theorem dX12_init_890 : decode cX12_init 890 = .ok (.putfield 321, 3) := by decide +kernel
theorem dX12_init_893 : decode cX12_init 893 = .ok (.aload_n 0, 1) := by decide +kernel
theorem dX12_init_894 : decode cX12_init 894 = .ok (.bipush 6, 2) := by decide +kernel
theorem dX12_init_896 : decode cX12_init 896 = .ok (.newarray .int, 2) := by decide +kernel
theorem dX12_init_898 : decode cX12_init 898 = .ok (.putfield 324, 3) := by decide +kernel
theorem dX12_init_901 : decode cX12_init 901 = .ok (.aload_n 0, 1) := by decide +kernel
theorem dX12_init_902 : decode cX12_init 902 = .ok (.bipush 12, 2) := by decide +kernel
theorem dX12_init_904 : decode cX12_init 904 = .ok (.newarray .int, 2) := by decide +kernel
theorem dX12_init_906 : decode cX12_init 906 = .ok (.putfield 327, 3) := by decide +kernel
theorem dX12_init_909 : decode cX12_init 909 = .ok (.aload_n 0, 1) := by decide +kernel
theorem dX12_init_910 : decode cX12_init 910 = .ok (.bipush 12, 2) := by decide +kernel
theorem dX12_init_912 : decode cX12_init 912 = .ok (.newarray .int, 2) := by decide +kernel
theorem dX12_init_914 : decode cX12_init 914 = .ok (.putfield 330, 3) := by decide +kernel
theorem dX12_init_917 : decode cX12_init 917 = .ok (.aload_n 0, 1) := by decide +kernel
theorem dX12_init_918 : decode cX12_init 918 = .ok (.bipush 12, 2) := by decide +kernel
theorem dX12_init_920 : decode cX12_init 920 = .ok (.newarray .int, 2) := by decide +kernel
theorem dX12_init_922 : decode cX12_init 922 = .ok (.putfield 333, 3) := by decide +kernel
theorem dX12_init_925 : decode cX12_init 925 = .ok (.aload_n 0, 1) := by decide +kernel
theorem dX12_init_926 : decode cX12_init 926 = .ok (.bipush 12, 2) := by decide +kernel
theorem dX12_init_928 : decode cX12_init 928 = .ok (.newarray .int, 2) := by decide +kernel
theorem dX12_init_930 : decode cX12_init 930 = .ok (.putfield 336, 3) := by decide +kernel
theorem dX12_init_933 : decode cX12_init 933 = .ok (.aload_n 0, 1) := by decide +kernel
theorem dX12_init_934 : decode cX12_init 934 = .ok (.bipush 48, 2) := by decide +kernel
theorem dX12_init_936 : decode cX12_init 936 = .ok (.newarray .int, 2) := by decide +kernel
theorem dX12_init_938 : decode cX12_init 938 = .ok (.putfield 339, 3) := by decide +kernel
theorem dX12_init_941 : decode cX12_init 941 = .ok (.aload_n 0, 1) := by decide +kernel
theorem dX12_init_942 : decode cX12_init 942 = .ok (.bipush 48, 2) := by decide +kernel
theorem dX12_init_944 : decode cX12_init 944 = .ok (.newarray .int, 2) := by decide +kernel
theorem dX12_init_946 : decode cX12_init 946 = .ok (.putfield 342, 3) := by decide +kernel
theorem dX12_init_949 : decode cX12_init 949 = .ok (.aload_n 0, 1) := by decide +kernel
theorem dX12_init_950 : decode cX12_init 950 = .ok (.bipush 48, 2) := by decide +kernel
theorem dX12_init_952 : decode cX12_init 952 = .ok (.newarray .int, 2) := by decide +kernel
theorem dX12_init_954 : decode cX12_init 954 = .ok (.putfield 345, 3) := by decide +kernel
theorem dX12_init_957 : decode cX12_init 957 = .ok (.aload_n 0, 1) := by decide +kernel
theorem dX12_init_958 : decode cX12_init 958 = .ok (.bipush 48, 2) := by decide +kernel
theorem dX12_init_960 : decode cX12_init 960 = .ok (.newarray .int, 2) := by decide +kernel
theorem dX12_init_962 : decode cX12_init 962 = .ok (.putfield 348, 3) := by decide +kernel
theorem dX12_init_965 : decode cX12_init 965 = .ok (.aload_n 0, 1) := by decide +kernel
theorem dX12_init_966 : decode cX12_init 966 = .ok (.bipush 12, 2) := by decide +kernel
theorem dX12_init_968 : decode cX12_init 968 = .ok (.newarray .int, 2) := by decide +kernel
theorem dX12_init_970 : decode cX12_init 970 = .ok (.putfield 351, 3) := by decide +kernel
theorem dX12_init_973 : decode cX12_init 973 = .ok (.aload_n 0, 1) := by decide +kernel
theorem dX12_init_974 : decode cX12_init 974 = .ok (.bipush 9, 2) := by decide +kernel
theorem dX12_init_976 : decode cX12_init 976 = .ok (.newarray .int, 2) := by decide +kernel
theorem dX12_init_978 : decode cX12_init 978 = .ok (.putfield 354, 3) := by decide +kernel
theorem dX12_init_981 : decode cX12_init 981 = .ok (.aload_n 0, 1) := by decide +kernel
theorem dX12_init_982 : decode cX12_init 982 = .ok (.sipush 240, 3) := by decide +kernel
theorem dX12_init_985 : decode cX12_init 985 = .ok (.newarray .boolean, 2) := by decide +kernel
theorem dX12_init_987 : decode cX12_init 987 = .ok (.putfield 357, 3) := by decide +kernel
theorem dX12_init_990 : decode cX12_init 990 = .ok (.aload_n 0, 1) := by decide +kernel
theorem dX12_init_991 : decode cX12_init 991 = .ok (.sipush 9600, 3) := by decide +kernel
theorem dX12_init_994 : decode cX12_init 994 = .ok (.newarray .boolean, 2) := by decide +kernel
theorem dX12_init_996 : decode cX12_init 996 = .ok (.putfield 360, 3) := by decide +kernel
theorem dX12_init_999 : decode cX12_init 999 = .ok (.aload_n 0, 1) := by decide +kernel
theorem dX12_init_1000 : decode cX12_init 1000 = .ok (.bipush 9, 2) := by decide +kernel
theorem dX12_init_1002 : decode cX12_init 1002 = .ok (.newarray .boolean, 2) := by decide +kernel
theorem dX12_init_1004 : decode cX12_init 1004 = .ok (.putfield 363, 3) := by decide +kernel
theorem dX12_init_1007 : decode cX12_init 1007 = .ok (.aload_n 0, 1) := by decide +kernel
theorem dX12_init_1008 : decode cX12_init 1008 = .ok (.bipush 9, 2) := by decide +kernel
theorem dX12_init_1010 : decode cX12_init 1010 = .ok (.newarray .boolean, 2) := by decide +kernel
theorem dX12_init_1012 : decode cX12_init 1012 = .ok (.putfield 366, 3) := by decide +kernel
theorem dX12_init_1015 : decode cX12_init 1015 = .ok (.aload_n 0, 1) := by decide +kernel
theorem dX12_init_1016 : decode cX12_init 1016 = .ok (.sipush 9000, 3) := by decide +kernel
theorem dX12_init_1019 : decode cX12_init 1019 = .ok (.newarray .byte, 2) := by decide +kernel
theorem dX12_init_1021 : decode cX12_init 1021 = .ok (.putfield 369, 3) := by decide +kernel
theorem dX12_init_1024 : decode cX12_init 1024 = .ok (.aload_n 0, 1) := by decide +kernel
theorem dX12_init_1025 : decode cX12_init 1025 = .ok (.sipush 8000, 3) := by decide +kernel
theorem dX12_init_1028 : decode cX12_init 1028 = .ok (.newarray .byte, 2) := by decide +kernel
theorem dX12_init_1030 : decode cX12_init 1030 = .ok (.putfield 372, 3) := by decide +kernel
theorem dX12_init_1033 : decode cX12_init 1033 = .ok (.aload_n 0, 1) := by decide +kernel
theorem dX12_init_1034 : decode cX12_init 1034 = .ok (.sipush 400, 3) := by decide +kernel
theorem dX12_init_1037 : decode cX12_init 1037 = .ok (.newarray .int, 2) := by decide +kernel
theorem dX12_init_1039 : decode cX12_init 1039 = .ok (.putfield 375, 3) := by decide +kernel
theorem dX12_init_1042 : decode cX12_init 1042 = .ok (.aload_n 0, 1) := by decide +kernel
theorem dX12_init_1043 : decode cX12_init 1043 = .ok (.sipush 4000, 3) := by decide +kernel
theorem dX12_init_1046 : decode cX12_init 1046 = .ok (.newarray .int, 2) := by decide +kernel
theorem dX12_init_1048 : decode cX12_init 1048 = .ok (.putfield 378, 3) := by decide +kernel
theorem dX12_init_1051 : decode cX12_init 1051 = .ok (.aload_n 0, 1) := by decide +kernel
theorem dX12_init_1052 : decode cX12_init 1052 = .ok (.sipush 1000, 3) := by decide +kernel
theorem dX12_init_1055 : decode cX12_init 1055 = .ok (.newarray .int, 2) := by decide +kernel
theorem dX12_init_1057 : decode cX12_init 1057 = .ok (.putfield 381, 3) := by decide +kernel
theorem dX12_init_1060 : decode cX12_init 1060 = .ok (.iconst 0, 1) := by decide +kernel
theorem dX12_init_1061 : decode cX12_init 1061 = .ok (.istore_n 1, 1) := by decide +kernel
theorem dX12_init_1062 : decode cX12_init 1062 = .ok (.iload_n 1, 1) := by decide +kernel
theorem dX12_init_1063 : decode cX12_init 1063 = .ok (.aload_n 0, 1) := by decide +kernel
theorem dX12_init_1064 : decode cX12_init 1064 = .ok (.getfield 74, 3) := by decide +kernel
theorem dX12_init_1067 : decode cX12_init 1067 = .ok (.arraylength, 1) := by decide +kernel
theorem dX12_init_1068 : decode cX12_init 1068 = .ok (.if_icmp .ge 24, 3) := by decide +kernel
theorem dX12_init_1071 : decode cX12_init 1071 = .ok (.aload_n 0, 1) := by decide +kernel
theorem dX12_init_1072 : decode cX12_init 1072 = .ok (.getfield 74, 3) := by decide +kernel
theorem dX12_init_1075 : decode cX12_init 1075 = .ok (.iload_n 1, 1) := by decide +kernel
theorem dX12_init_1076 : decode cX12_init 1076 = .ok (.aload_n 0, 1) := by decide +kernel
theorem dX12_init_1077 : decode cX12_init 1077 = .ok (.getfield 74, 3) := by decide +kernel
theorem dX12_init_1080 : decode cX12_init 1080 = .ok (.iload_n 1, 1) := by decide +kernel
theorem dX12_init_1081 : decode cX12_init 1081 = .ok (.laload, 1) := by decide +kernel
theorem dX12_init_1082 : decode cX12_init 1082 = .ok (.invokestatic 384, 3) := by decide +kernel
theorem dX12_init_1085 : decode cX12_init 1085 = .ok (.lastore, 1) := by decide +kernel
theorem dX12_init_1086 : decode cX12_init 1086 = .ok (.iinc 1 1, 3) := by decide +kernel
theorem dX12_init_1089 : decode cX12_init 1089 = .ok (.goto (-27), 3) := by decide +kernel
theorem dX12_init_1092 : decode cX12_init 1092 = .ok (.return_, 1) := by decide +kernel
theorem dX12_isDigit_0 : decode cX12_isDigit 0 = .ok (.iload_n 0, 1) := by decide +kernel
theorem dX12_isDigit_1 : decode cX12_isDigit 1 = .ok (.bipush 48, 2) := by decide +kernel
theorem dX12_isDigit_3 : decode cX12_isDigit 3 = .ok (.if_icmp .lt 13, 3) := by decide +kernel
theorem dX12_isDigit_6 : decode cX12_isDigit 6 = .ok (.iload_n 0, 1) := by decide +kernel
theorem dX12_isDigit_7 : decode cX12_isDigit 7 = .ok (.bipush 57, 2) := by decide +kernel
theorem dX12_isDigit_9 : decode cX12_isDigit 9 = .ok (.if_icmp .gt 7, 3) := by decide +kernel
theorem dX12_isDigit_12 : decode cX12_isDigit 12 = .ok (.iconst 1, 1) := by decide +kernel
theorem dX12_isDigit_13 : decode cX12_isDigit 13 = .ok (.goto 4, 3) := by decide +kernel
theorem dX12_isDigit_16 : decode cX12_isDigit 16 = .ok (.iconst 0, 1) := by decide +kernel
theorem dX12_isDigit_17 : decode cX12_isDigit 17 = .ok (.ireturn, 1) := by decide +kernel
theorem dX1_init_0 : decode cX1_init 0 = .ok (.aload_n 0, 1) := by decide +kernel
theorem dX1_init_1 : decode cX1_init 1 = .ok (.invokespecial 3, 3) := by decide +kernel
theorem dX1_init_4 : decode cX1_init 4 = .ok (.aload_n 0, 1) := by decide +kernel
theorem dX1_init_5 : decode cX1_init 5 = .ok (.aload_n 1, 1) := by decide +kernel
theorem dX1_init_6 : decode cX1_init 6 = .ok (.putfield 9, 3) := by decide +kernel
theorem dX1_init_9 : decode cX1_init 9 = .ok (.aload_n 0, 1) := by decide +kernel
theorem dX1_init_10 : decode cX1_init 10 = .ok (.sipush 360, 3) := by decide +kernel
theorem dX1_init_13 : decode cX1_init 13 = .ok (.newarray .long, 2) := by decide +kernel
theorem dX1_init_15 : decode cX1_init 15 = .ok (.putfield 15, 3) := by decide +kernel
theorem dX1_init_18 : decode cX1_init 18 = .ok (.aload_n 0, 1) := by decide +kernel
theorem dX1_init_19 : decode cX1_init 19 = .ok (.sipush 360, 3) := by decide +kernel
theorem dX1_init_22 : decode cX1_init 22 = .ok (.newarray .long, 2) := by decide +kernel
theorem dX1_init_24 : decode cX1_init 24 = .ok (.putfield 19, 3) := by decide +kernel
theorem dX1_init_27 : decode cX1_init 27 = .ok (.aload_n 0, 1) := by decide +kernel
theorem dX1_init_28 : decode cX1_init 28 = .ok (.bipush 9, 2) := by decide +kernel
theorem dX1_init_30 : decode cX1_init 30 = .ok (.newarray .long, 2) := by decide +kernel
theorem dX1_init_32 : decode cX1_init 32 = .ok (.putfield 22, 3) := by decide +kernel
theorem dX1_init_35 : decode cX1_init 35 = .ok (.aload_n 0, 1) := by decide +kernel
theorem dX1_init_36 : decode cX1_init 36 = .ok (.bipush 48, 2) := by decide +kernel
theorem dX1_init_38 : decode cX1_init 38 = .ok (.newarray .long, 2) := by decide +kernel
theorem dX1_init_40 : decode cX1_init 40 = .ok (.putfield 27, 3) := by decide +kernel
theorem dX1_init_43 : decode cX1_init 43 = .ok (.aload_n 0, 1) := by decide +kernel
theorem dX1_init_44 : decode cX1_init 44 = .ok (.iconst 3, 1) := by decide +kernel
theorem dX1_init_45 : decode cX1_init 45 = .ok (.newarray .int, 2) := by decide +kernel
theorem dX1_init_47 : decode cX1_init 47 = .ok (.putfield 30, 3) := by decide +kernel
theorem dX1_init_50 : decode cX1_init 50 = .ok (.return_, 1) := by decide +kernel
theorem dX2_init_0 : decode cX2_init 0 = .ok (.aload_n 0, 1) := by decide +kernel
theorem dX2_init_1 : decode cX2_init 1 = .ok (.invokespecial 3, 3) := by decide +kernel
theorem dX2_init_4 : decode cX2_init 4 = .ok (.aload_n 0, 1) := by decide +kernel
theorem dX2_init_5 : decode cX2_init 5 = .ok (.aload_n 1, 1) := by decide +kernel
theorem dX2_init_6 : decode cX2_init 6 = .ok (.putfield 9, 3) := by decide +kernel
theorem dX2_init_9 : decode cX2_init 9 = .ok (.aload_n 0, 1) := by decide +kernel
theorem dX2_init_10 : decode cX2_init 10 = .ok (.sipush 400, 3) := by decide +kernel
theorem dX2_init_13 : decode cX2_init 13 = .ok (.newarray .int, 2) := by decide +kernel
theorem dX2_init_15 : decode cX2_init 15 = .ok (.putfield 15, 3) := by decide +kernel
theorem dX2_init_18 : decode cX2_init 18 = .ok (.aload_n 0, 1) := by decide +kernel
theorem dX2_init_19 : decode cX2_init 19 = .ok (.sipush 400, 3) := by decide +kernel
theorem dX2_init_22 : decode cX2_init 22 = .ok (.newarray .int, 2) := by decide +kernel
theorem dX2_init_24 : decode cX2_init 24 = .ok (.putfield 19, 3) := by decide +kernel
theorem dX2_init_27 : decode cX2_init 27 = .ok (.aload_n 0, 1) := by decide +kernel
theorem dX2_init_28 : decode cX2_init 28 = .ok (.sipush 400, 3) := by decide +kernel
theorem dX2_init_31 : decode cX2_init 31 = .ok (.newarray .int, 2) := by decide +kernel
theorem dX2_init_33 : decode cX2_init 33 = .ok (.putfield 22, 3) := by decide +kernel
theorem dX2_init_36 : decode cX2_init 36 = .ok (.aload_n 0, 1) := by decide +kernel
theorem dX2_init_37 : decode cX2_init 37 = .ok (.sipush 4000, 3) := by decide +kernel
theorem dX2_init_40 : decode cX2_init 40 = .ok (.newarray .long, 2) := by decide +kernel
theorem dX2_init_42 : decode cX2_init 42 = .ok (.putfield 25, 3) := by decide +kernel
theorem dX2_init_45 : decode cX2_init 45 = .ok (.aload_n 0, 1) := by decide +kernel
theorem dX2_init_46 : decode cX2_init 46 = .ok (.sipush 4000, 3) := by decide +kernel
theorem dX2_init_49 : decode cX2_init 49 = .ok (.newarray .boolean, 2) := by decide +kernel
theorem dX2_init_51 : decode cX2_init 51 = .ok (.putfield 29, 3) := by decide +kernel
theorem dX2_init_54 : decode cX2_init 54 = .ok (.aload_n 0, 1) := by decide +kernel
theorem dX2_init_55 : decode cX2_init 55 = .ok (.bipush 96, 2) := by decide +kernel
theorem dX2_init_57 : decode cX2_init 57 = .ok (.newarray .long, 2) := by decide +kernel
theorem dX2_init_59 : decode cX2_init 59 = .ok (.putfield 35, 3) := by decide +kernel
theorem dX2_init_62 : decode cX2_init 62 = .ok (.aload_n 0, 1) := by decide +kernel
theorem dX2_init_63 : decode cX2_init 63 = .ok (.bipush 12, 2) := by decide +kernel
theorem dX2_init_65 : decode cX2_init 65 = .ok (.newarray .int, 2) := by decide +kernel
theorem dX2_init_67 : decode cX2_init 67 = .ok (.putfield 38, 3) := by decide +kernel
theorem dX2_init_70 : decode cX2_init 70 = .ok (.aload_n 0, 1) := by decide +kernel
theorem dX2_init_71 : decode cX2_init 71 = .ok (.sipush 400, 3) := by decide +kernel
theorem dX2_init_74 : decode cX2_init 74 = .ok (.newarray .int, 2) := by decide +kernel
theorem dX2_init_76 : decode cX2_init 76 = .ok (.putfield 41, 3) := by decide +kernel
theorem dX2_init_79 : decode cX2_init 79 = .ok (.aload_n 0, 1) := by decide +kernel
theorem dX2_init_80 : decode cX2_init 80 = .ok (.sipush 400, 3) := by decide +kernel
theorem dX2_init_83 : decode cX2_init 83 = .ok (.newarray .int, 2) := by decide +kernel
theorem dX2_init_85 : decode cX2_init 85 = .ok (.putfield 44, 3) := by decide +kernel
theorem dX2_init_88 : decode cX2_init 88 = .ok (.return_, 1) := by decide +kernel
theorem dX3_init_0 : decode cX3_init 0 = .ok (.aload_n 0, 1) := by decide +kernel
theorem dX3_init_1 : decode cX3_init 1 = .ok (.invokespecial 3, 3) := by decide +kernel
theorem dX3_init_4 : decode cX3_init 4 = .ok (.aload_n 0, 1) := by decide +kernel
theorem dX3_init_5 : decode cX3_init 5 = .ok (.aload_n 1, 1) := by decide +kernel
theorem dX3_init_6 : decode cX3_init 6 = .ok (.putfield 9, 3) := by decide +kernel
theorem dX3_init_9 : decode cX3_init 9 = .ok (.aload_n 0, 1) := by decide +kernel
theorem dX3_init_10 : decode cX3_init 10 = .ok (.bipush 100, 2) := by decide +kernel
theorem dX3_init_12 : decode cX3_init 12 = .ok (.newarray .int, 2) := by decide +kernel
theorem dX3_init_14 : decode cX3_init 14 = .ok (.putfield 15, 3) := by decide +kernel
theorem dX3_init_17 : decode cX3_init 17 = .ok (.aload_n 0, 1) := by decide +kernel
theorem dX3_init_18 : decode cX3_init 18 = .ok (.bipush 100, 2) := by decide +kernel
theorem dX3_init_20 : decode cX3_init 20 = .ok (.newarray .int, 2) := by decide +kernel
theorem dX3_init_22 : decode cX3_init 22 = .ok (.putfield 19, 3) := by decide +kernel
theorem dX3_init_25 : decode cX3_init 25 = .ok (.aload_n 0, 1) := by decide +kernel
theorem dX3_init_26 : decode cX3_init 26 = .ok (.bipush 100, 2) := by decide +kernel
theorem dX3_init_28 : decode cX3_init 28 = .ok (.newarray .long, 2) := by decide +kernel
theorem dX3_init_30 : decode cX3_init 30 = .ok (.putfield 22, 3) := by decide +kernel
theorem dX3_init_33 : decode cX3_init 33 = .ok (.aload_n 0, 1) := by decide +kernel
theorem dX3_init_34 : decode cX3_init 34 = .ok (.bipush 6, 2) := by decide +kernel
theorem dX3_init_36 : decode cX3_init 36 = .ok (.newarray .int, 2) := by decide +kernel
theorem dX3_init_38 : decode cX3_init 38 = .ok (.putfield 26, 3) := by decide +kernel
theorem dX3_init_41 : decode cX3_init 41 = .ok (.aload_n 0, 1) := by decide +kernel
theorem dX3_init_42 : decode cX3_init 42 = .ok (.bipush 6, 2) := by decide +kernel
theorem dX3_init_44 : decode cX3_init 44 = .ok (.newarray .int, 2) := by decide +kernel
theorem dX3_init_46 : decode cX3_init 46 = .ok (.putfield 29, 3) := by decide +kernel
theorem dX3_init_49 : decode cX3_init 49 = .ok (.aload_n 0, 1) := by decide +kernel
theorem dX3_init_50 : decode cX3_init 50 = .ok (.bipush 6, 2) := by decide +kernel
theorem dX3_init_52 : decode cX3_init 52 = .ok (.newarray .int, 2) := by decide +kernel
theorem dX3_init_54 : decode cX3_init 54 = .ok (.putfield 32, 3) := by decide +kernel
theorem dX3_init_57 : decode cX3_init 57 = .ok (.aload_n 0, 1) := by decide +kernel
theorem dX3_init_58 : decode cX3_init 58 = .ok (.bipush 6, 2) := by decide +kernel
theorem dX3_init_60 : decode cX3_init 60 = .ok (.newarray .int, 2) := by decide +kernel
theorem dX3_init_62 : decode cX3_init 62 = .ok (.putfield 35, 3) := by decide +kernel
theorem dX3_init_65 : decode cX3_init 65 = .ok (.aload_n 0, 1) := by decide +kernel
theorem dX3_init_66 : decode cX3_init 66 = .ok (.sipush 144, 3) := by decide +kernel
theorem dX3_init_69 : decode cX3_init 69 = .ok (.newarray .long, 2) := by decide +kernel
theorem dX3_init_71 : decode cX3_init 71 = .ok (.putfield 38, 3) := by decide +kernel
theorem dX3_init_74 : decode cX3_init 74 = .ok (.return_, 1) := by decide +kernel
theorem dX4_init_0 : decode cX4_init 0 = .ok (.aload_n 0, 1) := by decide +kernel
theorem dX4_init_1 : decode cX4_init 1 = .ok (.invokespecial 5, 3) := by decide +kernel
theorem dX4_init_4 : decode cX4_init 4 = .ok (.aload_n 0, 1) := by decide +kernel
theorem dX4_init_5 : decode cX4_init 5 = .ok (.aload_n 1, 1) := by decide +kernel
theorem dX4_init_6 : decode cX4_init 6 = .ok (.putfield 11, 3) := by decide +kernel
theorem dX4_init_9 : decode cX4_init 9 = .ok (.aload_n 0, 1) := by decide +kernel
theorem dX4_init_10 : decode cX4_init 10 = .ok (.bipush 121, 2) := by decide +kernel
theorem dX4_init_12 : decode cX4_init 12 = .ok (.newarray .int, 2) := by decide +kernel
theorem dX4_init_14 : decode cX4_init 14 = .ok (.putfield 19, 3) := by decide +kernel
theorem dX4_init_17 : decode cX4_init 17 = .ok (.aload_n 0, 1) := by decide +kernel
theorem dX4_init_18 : decode cX4_init 18 = .ok (.bipush 121, 2) := by decide +kernel
theorem dX4_init_20 : decode cX4_init 20 = .ok (.newarray .long, 2) := by decide +kernel
theorem dX4_init_22 : decode cX4_init 22 = .ok (.putfield 23, 3) := by decide +kernel
theorem dX4_init_25 : decode cX4_init 25 = .ok (.aload_n 0, 1) := by decide +kernel
theorem dX4_init_26 : decode cX4_init 26 = .ok (.bipush 11, 2) := by decide +kernel
theorem dX4_init_28 : decode cX4_init 28 = .ok (.newarray .int, 2) := by decide +kernel
theorem dX4_init_30 : decode cX4_init 30 = .ok (.putfield 27, 3) := by decide +kernel
theorem dX4_init_33 : decode cX4_init 33 = .ok (.aload_n 0, 1) := by decide +kernel
theorem dX4_init_34 : decode cX4_init 34 = .ok (.bipush 11, 2) := by decide +kernel
theorem dX4_init_36 : decode cX4_init 36 = .ok (.newarray .int, 2) := by decide +kernel
theorem dX4_init_38 : decode cX4_init 38 = .ok (.putfield 30, 3) := by decide +kernel
theorem dX4_init_41 : decode cX4_init 41 = .ok (.aload_n 0, 1) := by decide +kernel
theorem dX4_init_42 : decode cX4_init 42 = .ok (.bipush 11, 2) := by decide +kernel
theorem dX4_init_44 : decode cX4_init 44 = .ok (.newarray .int, 2) := by decide +kernel
theorem dX4_init_46 : decode cX4_init 46 = .ok (.putfield 33, 3) := by decide +kernel
theorem dX4_init_49 : decode cX4_init 49 = .ok (.aload_n 0, 1) := by decide +kernel
theorem dX4_init_50 : decode cX4_init 50 = .ok (.bipush 11, 2) := by decide +kernel
theorem dX4_init_52 : decode cX4_init 52 = .ok (.newarray .int, 2) := by decide +kernel
theorem dX4_init_54 : decode cX4_init 54 = .ok (.putfield 36, 3) := by decide +kernel
theorem dX4_init_57 : decode cX4_init 57 = .ok (.aload_n 0, 1) := by decide +kernel
theorem dX4_init_58 : decode cX4_init 58 = .ok (.bipush 11, 2) := by decide +kernel
theorem dX4_init_60 : decode cX4_init 60 = .ok (.newarray .int, 2) := by decide +kernel
theorem dX4_init_62 : decode cX4_init 62 = .ok (.putfield 39, 3) := by decide +kernel
theorem dX4_init_65 : decode cX4_init 65 = .ok (.aload_n 0, 1) := by decide +kernel
theorem dX4_init_66 : decode cX4_init 66 = .ok (.bipush 11, 2) := by decide +kernel
theorem dX4_init_68 : decode cX4_init 68 = .ok (.newarray .long, 2) := by decide +kernel
theorem dX4_init_70 : decode cX4_init 70 = .ok (.putfield 42, 3) := by decide +kernel
theorem dX4_init_73 : decode cX4_init 73 = .ok (.aload_n 0, 1) := by decide +kernel
theorem dX4_init_74 : decode cX4_init 74 = .ok (.bipush 11, 2) := by decide +kernel
theorem dX4_init_76 : decode cX4_init 76 = .ok (.newarray .boolean, 2) := by decide +kernel
theorem dX4_init_78 : decode cX4_init 78 = .ok (.putfield 45, 3) := by decide +kernel
theorem dX4_init_81 : decode cX4_init 81 = .ok (.aload_n 0, 1) := by decide +kernel
theorem dX4_init_82 : decode cX4_init 82 = .ok (.sipush 4400, 3) := by decide +kernel
theorem dX4_init_85 : decode cX4_init 85 = .ok (.newarray .int, 2) := by decide +kernel
theorem dX4_init_87 : decode cX4_init 87 = .ok (.putfield 49, 3) := by decide +kernel
theorem dX4_init_90 : decode cX4_init 90 = .ok (.aload_n 0, 1) := by decide +kernel
theorem dX4_init_91 : decode cX4_init 91 = .ok (.sipush 4400, 3) := by decide +kernel
theorem dX4_init_94 : decode cX4_init 94 = .ok (.newarray .int, 2) := by decide +kernel
theorem dX4_init_96 : decode cX4_init 96 = .ok (.putfield 52, 3) := by decide +kernel
theorem dX4_init_99 : decode cX4_init 99 = .ok (.aload_n 0, 1) := by decide +kernel
theorem dX4_init_100 : decode cX4_init 100 = .ok (.bipush 11, 2) := by decide +kernel
theorem dX4_init_102 : decode cX4_init 102 = .ok (.newarray .int, 2) := by decide +kernel
theorem dX4_init_104 : decode cX4_init 104 = .ok (.putfield 55, 3) := by decide +kernel
theorem dX4_init_107 : decode cX4_init 107 = .ok (.aload_n 0, 1) := by decide +kernel
theorem dX4_init_108 : decode cX4_init 108 = .ok (.sipush 4000, 3) := by decide +kernel
theorem dX4_init_111 : decode cX4_init 111 = .ok (.newarray .int, 2) := by decide +kernel
theorem dX4_init_113 : decode cX4_init 113 = .ok (.putfield 58, 3) := by decide +kernel
theorem dX4_init_116 : decode cX4_init 116 = .ok (.aload_n 0, 1) := by decide +kernel
theorem dX4_init_117 : decode cX4_init 117 = .ok (.sipush 4000, 3) := by decide +kernel
theorem dX4_init_120 : decode cX4_init 120 = .ok (.newarray .int, 2) := by decide +kernel
theorem dX4_init_122 : decode cX4_init 122 = .ok (.putfield 61, 3) := by decide +kernel
theorem dX4_init_125 : decode cX4_init 125 = .ok (.aload_n 0, 1) := by decide +kernel
theorem dX4_init_126 : decode cX4_init 126 = .ok (.sipush 4000, 3) := by decide +kernel
theorem dX4_init_129 : decode cX4_init 129 = .ok (.newarray .long, 2) := by decide +kernel
theorem dX4_init_131 : decode cX4_init 131 = .ok (.putfield 64, 3) := by decide +kernel
theorem dX4_init_134 : decode cX4_init 134 = .ok (.return_, 1) := by decide +kernel
theorem dX5_init_0 : decode cX5_init 0 = .ok (.aload_n 0, 1) := by decide +kernel
theorem dX5_init_1 : decode cX5_init 1 = .ok (.invokespecial 3, 3) := by decide +kernel
theorem dX5_init_4 : decode cX5_init 4 = .ok (.aload_n 0, 1) := by decide +kernel
theorem dX5_init_5 : decode cX5_init 5 = .ok (.sipush 400, 3) := by decide +kernel
theorem dX5_init_8 : decode cX5_init 8 = .ok (.newarray .int, 2) := by decide +kernel
theorem dX5_init_10 : decode cX5_init 10 = .ok (.putfield 11, 3) := by decide +kernel
theorem dX5_init_13 : decode cX5_init 13 = .ok (.aload_n 0, 1) := by decide +kernel
theorem dX5_init_14 : decode cX5_init 14 = .ok (.sipush 400, 3) := by decide +kernel
theorem dX5_init_17 : decode cX5_init 17 = .ok (.newarray .int, 2) := by decide +kernel
theorem dX5_init_19 : decode cX5_init 19 = .ok (.putfield 15, 3) := by decide +kernel
theorem dX5_init_22 : decode cX5_init 22 = .ok (.aload_n 0, 1) := by decide +kernel
theorem dX5_init_23 : decode cX5_init 23 = .ok (.sipush 400, 3) := by decide +kernel
theorem dX5_init_26 : decode cX5_init 26 = .ok (.newarray .int, 2) := by decide +kernel
theorem dX5_init_28 : decode cX5_init 28 = .ok (.putfield 18, 3) := by decide +kernel
theorem dX5_init_31 : decode cX5_init 31 = .ok (.aload_n 0, 1) := by decide +kernel
theorem dX5_init_32 : decode cX5_init 32 = .ok (.sipush 401, 3) := by decide +kernel
theorem dX5_init_35 : decode cX5_init 35 = .ok (.newarray .int, 2) := by decide +kernel
theorem dX5_init_37 : decode cX5_init 37 = .ok (.putfield 21, 3) := by decide +kernel
theorem dX5_init_40 : decode cX5_init 40 = .ok (.aload_n 0, 1) := by decide +kernel
theorem dX5_init_41 : decode cX5_init 41 = .ok (.sipush 400, 3) := by decide +kernel
theorem dX5_init_44 : decode cX5_init 44 = .ok (.newarray .int, 2) := by decide +kernel
theorem dX5_init_46 : decode cX5_init 46 = .ok (.putfield 24, 3) := by decide +kernel
theorem dX5_init_49 : decode cX5_init 49 = .ok (.aload_n 0, 1) := by decide +kernel
theorem dX5_init_50 : decode cX5_init 50 = .ok (.sipush 400, 3) := by decide +kernel
theorem dX5_init_53 : decode cX5_init 53 = .ok (.newarray .int, 2) := by decide +kernel
theorem dX5_init_55 : decode cX5_init 55 = .ok (.putfield 27, 3) := by decide +kernel
theorem dX5_init_58 : decode cX5_init 58 = .ok (.aload_n 0, 1) := by decide +kernel
theorem dX5_init_59 : decode cX5_init 59 = .ok (.sipush 400, 3) := by decide +kernel
theorem dX5_init_62 : decode cX5_init 62 = .ok (.newarray .int, 2) := by decide +kernel
theorem dX5_init_64 : decode cX5_init 64 = .ok (.putfield 30, 3) := by decide +kernel
theorem dX5_init_67 : decode cX5_init 67 = .ok (.aload_n 0, 1) := by decide +kernel
theorem dX5_init_68 : decode cX5_init 68 = .ok (.sipush 400, 3) := by decide +kernel
theorem dX5_init_71 : decode cX5_init 71 = .ok (.newarray .int, 2) := by decide +kernel
theorem dX5_init_73 : decode cX5_init 73 = .ok (.putfield 35, 3) := by decide +kernel
theorem dX5_init_76 : decode cX5_init 76 = .ok (.aload_n 0, 1) := by decide +kernel
theorem dX5_init_77 : decode cX5_init 77 = .ok (.getfield 35, 3) := by decide +kernel
theorem dX5_init_80 : decode cX5_init 80 = .ok (.iconst (-1), 1) := by decide +kernel
theorem dX5_init_81 : decode cX5_init 81 = .ok (.invokestatic 38, 3) := by decide +kernel
theorem dX5_init_84 : decode cX5_init 84 = .ok (.aload_n 0, 1) := by decide +kernel
theorem dX5_init_85 : decode cX5_init 85 = .ok (.sipush 4000, 3) := by decide +kernel
theorem dX5_init_88 : decode cX5_init 88 = .ok (.newarray .long, 2) := by decide +kernel
theorem dX5_init_90 : decode cX5_init 90 = .ok (.putfield 44, 3) := by decide +kernel
theorem dX5_init_93 : decode cX5_init 93 = .ok (.aload_n 0, 1) := by decide +kernel
theorem dX5_init_94 : decode cX5_init 94 = .ok (.sipush 4000, 3) := by decide +kernel
theorem dX5_init_97 : decode cX5_init 97 = .ok (.newarray .boolean, 2) := by decide +kernel
theorem dX5_init_99 : decode cX5_init 99 = .ok (.putfield 48, 3) := by decide +kernel
theorem dX5_init_102 : decode cX5_init 102 = .ok (.aload_n 0, 1) := by decide +kernel
theorem dX5_init_103 : decode cX5_init 103 = .ok (.bipush 108, 2) := by decide +kernel
theorem dX5_init_105 : decode cX5_init 105 = .ok (.newarray .int, 2) := by decide +kernel
theorem dX5_init_107 : decode cX5_init 107 = .ok (.putfield 52, 3) := by decide +kernel
theorem dX5_init_110 : decode cX5_init 110 = .ok (.aload_n 0, 1) := by decide +kernel
theorem dX5_init_111 : decode cX5_init 111 = .ok (.bipush 108, 2) := by decide +kernel
theorem dX5_init_113 : decode cX5_init 113 = .ok (.newarray .int, 2) := by decide +kernel
theorem dX5_init_115 : decode cX5_init 115 = .ok (.putfield 55, 3) := by decide +kernel
theorem dX5_init_118 : decode cX5_init 118 = .ok (.aload_n 0, 1) := by decide +kernel
theorem dX5_init_119 : decode cX5_init 119 = .ok (.sipush 400, 3) := by decide +kernel
theorem dX5_init_122 : decode cX5_init 122 = .ok (.newarray .boolean, 2) := by decide +kernel
theorem dX5_init_124 : decode cX5_init 124 = .ok (.putfield 58, 3) := by decide +kernel
theorem dX5_init_127 : decode cX5_init 127 = .ok (.aload_n 0, 1) := by decide +kernel
theorem dX5_init_128 : decode cX5_init 128 = .ok (.sipush 400, 3) := by decide +kernel
theorem dX5_init_131 : decode cX5_init 131 = .ok (.newarray .int, 2) := by decide +kernel
theorem dX5_init_133 : decode cX5_init 133 = .ok (.putfield 61, 3) := by decide +kernel
theorem dX5_init_136 : decode cX5_init 136 = .ok (.aload_n 0, 1) := by decide +kernel
theorem dX5_init_137 : decode cX5_init 137 = .ok (.sipush 400, 3) := by decide +kernel
theorem dX5_init_140 : decode cX5_init 140 = .ok (.newarray .int, 2) := by decide +kernel
theorem dX5_init_142 : decode cX5_init 142 = .ok (.putfield 64, 3) := by decide +kernel
theorem dX5_init_145 : decode cX5_init 145 = .ok (.aload_n 0, 1) := by decide +kernel
theorem dX5_init_146 : decode cX5_init 146 = .ok (.sipush 400, 3) := by decide +kernel
theorem dX5_init_149 : decode cX5_init 149 = .ok (.newarray .int, 2) := by decide +kernel
theorem dX5_init_151 : decode cX5_init 151 = .ok (.putfield 67, 3) := by decide +kernel
theorem dX5_init_154 : decode cX5_init 154 = .ok (.aload_n 0, 1) := by decide +kernel
theorem dX5_init_155 : decode cX5_init 155 = .ok (.sipush 400, 3) := by decide +kernel
theorem dX5_init_158 : decode cX5_init 158 = .ok (.newarray .int, 2) := by decide +kernel
theorem dX5_init_160 : decode cX5_init 160 = .ok (.putfield 70, 3) := by decide +kernel
theorem dX5_init_163 : decode cX5_init 163 = .ok (.aload_n 0, 1) := by decide +kernel
theorem dX5_init_164 : decode cX5_init 164 = .ok (.new 73, 3) := by decide +kernel
theorem dX5_init_167 : decode cX5_init 167 = .ok (.dup, 1) := by decide +kernel
theorem dX5_init_168 : decode cX5_init 168 = .ok (.aload_n 1, 1) := by decide +kernel
theorem dX5_init_169 : decode cX5_init 169 = .ok (.invokespecial 75, 3) := by decide +kernel
theorem dX5_init_172 : decode cX5_init 172 = .ok (.putfield 78, 3) := by decide +kernel
theorem dX5_init_175 : decode cX5_init 175 = .ok (.return_, 1) := by decide +kernel
theorem dX6_init_0 : decode cX6_init 0 = .ok (.aload_n 0, 1) := by decide +kernel
theorem dX6_init_1 : decode cX6_init 1 = .ok (.invokespecial 3, 3) := by decide +kernel
theorem dX6_init_4 : decode cX6_init 4 = .ok (.aload_n 0, 1) := by decide +kernel
theorem dX6_init_5 : decode cX6_init 5 = .ok (.aload_n 1, 1) := by decide +kernel
theorem dX6_init_6 : decode cX6_init 6 = .ok (.putfield 9, 3) := by decide +kernel
theorem dX6_init_9 : decode cX6_init 9 = .ok (.aload_n 0, 1) := by decide +kernel
theorem dX6_init_10 : decode cX6_init 10 = .ok (.sipush 500, 3) := by decide +kernel
theorem dX6_init_13 : decode cX6_init 13 = .ok (.newarray .int, 2) := by decide +kernel
theorem dX6_init_15 : decode cX6_init 15 = .ok (.putfield 15, 3) := by decide +kernel
theorem dX6_init_18 : decode cX6_init 18 = .ok (.aload_n 0, 1) := by decide +kernel
theorem dX6_init_19 : decode cX6_init 19 = .ok (.sipush 500, 3) := by decide +kernel
theorem dX6_init_22 : decode cX6_init 22 = .ok (.newarray .int, 2) := by decide +kernel
theorem dX6_init_24 : decode cX6_init 24 = .ok (.putfield 19, 3) := by decide +kernel
theorem dX6_init_27 : decode cX6_init 27 = .ok (.aload_n 0, 1) := by decide +kernel
theorem dX6_init_28 : decode cX6_init 28 = .ok (.sipush 500, 3) := by decide +kernel
theorem dX6_init_31 : decode cX6_init 31 = .ok (.newarray .int, 2) := by decide +kernel
theorem dX6_init_33 : decode cX6_init 33 = .ok (.putfield 22, 3) := by decide +kernel
theorem dX6_init_36 : decode cX6_init 36 = .ok (.aload_n 0, 1) := by decide +kernel
theorem dX6_init_37 : decode cX6_init 37 = .ok (.sipush 500, 3) := by decide +kernel
theorem dX6_init_40 : decode cX6_init 40 = .ok (.newarray .long, 2) := by decide +kernel
theorem dX6_init_42 : decode cX6_init 42 = .ok (.putfield 25, 3) := by decide +kernel
theorem dX6_init_45 : decode cX6_init 45 = .ok (.aload_n 0, 1) := by decide +kernel
theorem dX6_init_46 : decode cX6_init 46 = .ok (.bipush 10, 2) := by decide +kernel
theorem dX6_init_48 : decode cX6_init 48 = .ok (.newarray .long, 2) := by decide +kernel
theorem dX6_init_50 : decode cX6_init 50 = .ok (.putfield 29, 3) := by decide +kernel
theorem dX6_init_53 : decode cX6_init 53 = .ok (.aload_n 0, 1) := by decide +kernel
theorem dX6_init_54 : decode cX6_init 54 = .ok (.bipush 10, 2) := by decide +kernel
theorem dX6_init_56 : decode cX6_init 56 = .ok (.newarray .int, 2) := by decide +kernel
theorem dX6_init_58 : decode cX6_init 58 = .ok (.putfield 32, 3) := by decide +kernel
theorem dX6_init_61 : decode cX6_init 61 = .ok (.aload_n 0, 1) := by decide +kernel
theorem dX6_init_62 : decode cX6_init 62 = .ok (.bipush 120, 2) := by decide +kernel
theorem dX6_init_64 : decode cX6_init 64 = .ok (.newarray .int, 2) := by decide +kernel
theorem dX6_init_66 : decode cX6_init 66 = .ok (.putfield 35, 3) := by decide +kernel
theorem dX6_init_69 : decode cX6_init 69 = .ok (.return_, 1) := by decide +kernel
theorem dX7_init_0 : decode cX7_init 0 = .ok (.aload_n 0, 1) := by decide +kernel
theorem dX7_init_1 : decode cX7_init 1 = .ok (.invokespecial 3, 3) := by decide +kernel
theorem dX7_init_4 : decode cX7_init 4 = .ok (.aload_n 0, 1) := by decide +kernel
theorem dX7_init_5 : decode cX7_init 5 = .ok (.aload_n 1, 1) := by decide +kernel
theorem dX7_init_6 : decode cX7_init 6 = .ok (.putfield 9, 3) := by decide +kernel
theorem dX7_init_9 : decode cX7_init 9 = .ok (.aload_n 0, 1) := by decide +kernel
theorem dX7_init_10 : decode cX7_init 10 = .ok (.ldc 15, 2) := by decide +kernel
theorem dX7_init_12 : decode cX7_init 12 = .ok (.invokestatic 17, 3) := by decide +kernel
theorem dX7_init_15 : decode cX7_init 15 = .ok (.putfield 23, 3) := by decide +kernel
theorem dX7_init_18 : decode cX7_init 18 = .ok (.aload_n 0, 1) := by decide +kernel
theorem dX7_init_19 : decode cX7_init 19 = .ok (.ldc 27, 2) := by decide +kernel
theorem dX7_init_21 : decode cX7_init 21 = .ok (.invokestatic 17, 3) := by decide +kernel
theorem dX7_init_24 : decode cX7_init 24 = .ok (.putfield 29, 3) := by decide +kernel
theorem dX7_init_27 : decode cX7_init 27 = .ok (.aload_n 0, 1) := by decide +kernel
theorem dX7_init_28 : decode cX7_init 28 = .ok (.bipush 12, 2) := by decide +kernel
theorem dX7_init_30 : decode cX7_init 30 = .ok (.newarray .int, 2) := by decide +kernel
theorem dX7_init_32 : decode cX7_init 32 = .ok (.putfield 32, 3) := by decide +kernel
theorem dX7_init_35 : decode cX7_init 35 = .ok (.aload_n 0, 1) := by decide +kernel
theorem dX7_init_36 : decode cX7_init 36 = .ok (.bipush 12, 2) := by decide +kernel
theorem dX7_init_38 : decode cX7_init 38 = .ok (.newarray .int, 2) := by decide +kernel
theorem dX7_init_40 : decode cX7_init 40 = .ok (.putfield 36, 3) := by decide +kernel
theorem dX7_init_43 : decode cX7_init 43 = .ok (.aload_n 0, 1) := by decide +kernel
theorem dX7_init_44 : decode cX7_init 44 = .ok (.bipush 12, 2) := by decide +kernel
theorem dX7_init_46 : decode cX7_init 46 = .ok (.newarray .int, 2) := by decide +kernel
theorem dX7_init_48 : decode cX7_init 48 = .ok (.putfield 39, 3) := by decide +kernel
theorem dX7_init_51 : decode cX7_init 51 = .ok (.aload_n 0, 1) := by decide +kernel
theorem dX7_init_52 : decode cX7_init 52 = .ok (.bipush 12, 2) := by decide +kernel
theorem dX7_init_54 : decode cX7_init 54 = .ok (.newarray .int, 2) := by decide +kernel
theorem dX7_init_56 : decode cX7_init 56 = .ok (.putfield 42, 3) := by decide +kernel
theorem dX7_init_59 : decode cX7_init 59 = .ok (.aload_n 0, 1) := by decide +kernel
theorem dX7_init_60 : decode cX7_init 60 = .ok (.bipush 12, 2) := by decide +kernel
theorem dX7_init_62 : decode cX7_init 62 = .ok (.newarray .int, 2) := by decide +kernel
theorem dX7_init_64 : decode cX7_init 64 = .ok (.putfield 45, 3) := by decide +kernel
theorem dX7_init_67 : decode cX7_init 67 = .ok (.aload_n 0, 1) := by decide +kernel
theorem dX7_init_68 : decode cX7_init 68 = .ok (.bipush 48, 2) := by decide +kernel
theorem dX7_init_70 : decode cX7_init 70 = .ok (.newarray .int, 2) := by decide +kernel
theorem dX7_init_72 : decode cX7_init 72 = .ok (.putfield 48, 3) := by decide +kernel
theorem dX7_init_75 : decode cX7_init 75 = .ok (.aload_n 0, 1) := by decide +kernel
theorem dX7_init_76 : decode cX7_init 76 = .ok (.bipush 48, 2) := by decide +kernel
theorem dX7_init_78 : decode cX7_init 78 = .ok (.newarray .int, 2) := by decide +kernel
theorem dX7_init_80 : decode cX7_init 80 = .ok (.putfield 51, 3) := by decide +kernel
theorem dX7_init_83 : decode cX7_init 83 = .ok (.aload_n 0, 1) := by decide +kernel
theorem dX7_init_84 : decode cX7_init 84 = .ok (.bipush 48, 2) := by decide +kernel
theorem dX7_init_86 : decode cX7_init 86 = .ok (.newarray .int, 2) := by decide +kernel
theorem dX7_init_88 : decode cX7_init 88 = .ok (.putfield 54, 3) := by decide +kernel
theorem dX7_init_91 : decode cX7_init 91 = .ok (.aload_n 0, 1) := by decide +kernel
theorem dX7_init_92 : decode cX7_init 92 = .ok (.bipush 48, 2) := by decide +kernel
theorem dX7_init_94 : decode cX7_init 94 = .ok (.newarray .long, 2) := by decide +kernel
theorem dX7_init_96 : decode cX7_init 96 = .ok (.putfield 57, 3) := by decide +kernel
theorem dX7_init_99 : decode cX7_init 99 = .ok (.aload_n 0, 1) := by decide +kernel
theorem dX7_init_100 : decode cX7_init 100 = .ok (.iconst 3, 1) := by decide +kernel
theorem dX7_init_101 : decode cX7_init 101 = .ok (.newarray .long, 2) := by decide +kernel
theorem dX7_init_103 : decode cX7_init 103 = .ok (.putfield 61, 3) := by decide +kernel
theorem dX7_init_106 : decode cX7_init 106 = .ok (.aload_n 0, 1) := by decide +kernel
theorem dX7_init_107 : decode cX7_init 107 = .ok (.bipush 6, 2) := by decide +kernel
theorem dX7_init_109 : decode cX7_init 109 = .ok (.newarray .long, 2) := by decide +kernel
theorem dX7_init_111 : decode cX7_init 111 = .ok (.putfield 64, 3) := by decide +kernel
theorem dX7_init_114 : decode cX7_init 114 = .ok (.aload_n 0, 1) := by decide +kernel
theorem dX7_init_115 : decode cX7_init 115 = .ok (.bipush 6, 2) := by decide +kernel
theorem dX7_init_117 : decode cX7_init 117 = .ok (.newarray .int, 2) := by decide +kernel
theorem dX7_init_119 : decode cX7_init 119 = .ok (.putfield 67, 3) := by decide +kernel
theorem dX7_init_122 : decode cX7_init 122 = .ok (.return_, 1) := by decide +kernel
theorem dX8_init_0 : decode cX8_init 0 = .ok (.aload_n 0, 1) := by decide +kernel
theorem dX8_init_1 : decode cX8_init 1 = .ok (.invokespecial 3, 3) := by decide +kernel
theorem dX8_init_4 : decode cX8_init 4 = .ok (.aload_n 0, 1) := by decide +kernel
theorem dX8_init_5 : decode cX8_init 5 = .ok (.aload_n 1, 1) := by decide +kernel
theorem dX8_init_6 : decode cX8_init 6 = .ok (.putfield 9, 3) := by decide +kernel
theorem dX8_init_9 : decode cX8_init 9 = .ok (.aload_n 0, 1) := by decide +kernel
theorem dX8_init_10 : decode cX8_init 10 = .ok (.sipush 401, 3) := by decide +kernel
theorem dX8_init_13 : decode cX8_init 13 = .ok (.newarray .int, 2) := by decide +kernel
theorem dX8_init_15 : decode cX8_init 15 = .ok (.putfield 17, 3) := by decide +kernel
theorem dX8_init_18 : decode cX8_init 18 = .ok (.aload_n 0, 1) := by decide +kernel
theorem dX8_init_19 : decode cX8_init 19 = .ok (.sipush 4108, 3) := by decide +kernel
theorem dX8_init_22 : decode cX8_init 22 = .ok (.newarray .int, 2) := by decide +kernel
