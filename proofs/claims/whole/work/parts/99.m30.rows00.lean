theorem dJ13_bitCount_95d88_0 : decode cJ13_bitCount_95d88 0 = .ok (.lload_n 0, 1) := by decide +kernel
theorem dJ13_bitCount_95d88_1 : decode cJ13_bitCount_95d88 1 = .ok (.lload_n 0, 1) := by decide +kernel
theorem dJ13_bitCount_95d88_2 : decode cJ13_bitCount_95d88 2 = .ok (.iconst 1, 1) := by decide +kernel
theorem dJ13_bitCount_95d88_3 : decode cJ13_bitCount_95d88 3 = .ok (.lushr, 1) := by decide +kernel
theorem dJ13_bitCount_95d88_4 : decode cJ13_bitCount_95d88 4 = .ok (.ldc2_w 314, 3) := by decide +kernel
theorem dJ13_bitCount_95d88_7 : decode cJ13_bitCount_95d88 7 = .ok (.land, 1) := by decide +kernel
theorem dJ13_bitCount_95d88_8 : decode cJ13_bitCount_95d88 8 = .ok (.lsub, 1) := by decide +kernel
theorem dJ13_bitCount_95d88_9 : decode cJ13_bitCount_95d88 9 = .ok (.lstore_n 0, 1) := by decide +kernel
theorem dJ13_bitCount_95d88_10 : decode cJ13_bitCount_95d88 10 = .ok (.lload_n 0, 1) := by decide +kernel
theorem dJ13_bitCount_95d88_11 : decode cJ13_bitCount_95d88 11 = .ok (.ldc2_w 316, 3) := by decide +kernel
theorem dJ13_bitCount_95d88_14 : decode cJ13_bitCount_95d88 14 = .ok (.land, 1) := by decide +kernel
theorem dJ13_bitCount_95d88_15 : decode cJ13_bitCount_95d88 15 = .ok (.lload_n 0, 1) := by decide +kernel
theorem dJ13_bitCount_95d88_16 : decode cJ13_bitCount_95d88 16 = .ok (.iconst 2, 1) := by decide +kernel
theorem dJ13_bitCount_95d88_17 : decode cJ13_bitCount_95d88 17 = .ok (.lushr, 1) := by decide +kernel
theorem dJ13_bitCount_95d88_18 : decode cJ13_bitCount_95d88 18 = .ok (.ldc2_w 316, 3) := by decide +kernel
theorem dJ13_bitCount_95d88_21 : decode cJ13_bitCount_95d88 21 = .ok (.land, 1) := by decide +kernel
theorem dJ13_bitCount_95d88_22 : decode cJ13_bitCount_95d88 22 = .ok (.ladd, 1) := by decide +kernel
theorem dJ13_bitCount_95d88_23 : decode cJ13_bitCount_95d88 23 = .ok (.lstore_n 0, 1) := by decide +kernel
theorem dJ13_bitCount_95d88_24 : decode cJ13_bitCount_95d88 24 = .ok (.lload_n 0, 1) := by decide +kernel
theorem dJ13_bitCount_95d88_25 : decode cJ13_bitCount_95d88 25 = .ok (.lload_n 0, 1) := by decide +kernel
theorem dJ13_bitCount_95d88_26 : decode cJ13_bitCount_95d88 26 = .ok (.iconst 4, 1) := by decide +kernel
theorem dJ13_bitCount_95d88_27 : decode cJ13_bitCount_95d88 27 = .ok (.lushr, 1) := by decide +kernel
theorem dJ13_bitCount_95d88_28 : decode cJ13_bitCount_95d88 28 = .ok (.ladd, 1) := by decide +kernel
theorem dJ13_bitCount_95d88_29 : decode cJ13_bitCount_95d88 29 = .ok (.ldc2_w 318, 3) := by decide +kernel
theorem dJ13_bitCount_95d88_32 : decode cJ13_bitCount_95d88 32 = .ok (.land, 1) := by decide +kernel
theorem dJ13_bitCount_95d88_33 : decode cJ13_bitCount_95d88 33 = .ok (.lstore_n 0, 1) := by decide +kernel
theorem dJ13_bitCount_95d88_34 : decode cJ13_bitCount_95d88 34 = .ok (.lload_n 0, 1) := by decide +kernel
theorem dJ13_bitCount_95d88_35 : decode cJ13_bitCount_95d88 35 = .ok (.lload_n 0, 1) := by decide +kernel
theorem dJ13_bitCount_95d88_36 : decode cJ13_bitCount_95d88 36 = .ok (.bipush 8, 2) := by decide +kernel
theorem dJ13_bitCount_95d88_38 : decode cJ13_bitCount_95d88 38 = .ok (.lushr, 1) := by decide +kernel
theorem dJ13_bitCount_95d88_39 : decode cJ13_bitCount_95d88 39 = .ok (.ladd, 1) := by decide +kernel
theorem dJ13_bitCount_95d88_40 : decode cJ13_bitCount_95d88 40 = .ok (.lstore_n 0, 1) := by decide +kernel
theorem dJ13_bitCount_95d88_41 : decode cJ13_bitCount_95d88 41 = .ok (.lload_n 0, 1) := by decide +kernel
theorem dJ13_bitCount_95d88_42 : decode cJ13_bitCount_95d88 42 = .ok (.lload_n 0, 1) := by decide +kernel
theorem dJ13_bitCount_95d88_43 : decode cJ13_bitCount_95d88 43 = .ok (.bipush 16, 2) := by decide +kernel
theorem dJ13_bitCount_95d88_45 : decode cJ13_bitCount_95d88 45 = .ok (.lushr, 1) := by decide +kernel
theorem dJ13_bitCount_95d88_46 : decode cJ13_bitCount_95d88 46 = .ok (.ladd, 1) := by decide +kernel
theorem dJ13_bitCount_95d88_47 : decode cJ13_bitCount_95d88 47 = .ok (.lstore_n 0, 1) := by decide +kernel
theorem dJ13_bitCount_95d88_48 : decode cJ13_bitCount_95d88 48 = .ok (.lload_n 0, 1) := by decide +kernel
theorem dJ13_bitCount_95d88_49 : decode cJ13_bitCount_95d88 49 = .ok (.lload_n 0, 1) := by decide +kernel
theorem dJ13_bitCount_95d88_50 : decode cJ13_bitCount_95d88 50 = .ok (.bipush 32, 2) := by decide +kernel
theorem dJ13_bitCount_95d88_52 : decode cJ13_bitCount_95d88 52 = .ok (.lushr, 1) := by decide +kernel
theorem dJ13_bitCount_95d88_53 : decode cJ13_bitCount_95d88 53 = .ok (.ladd, 1) := by decide +kernel
theorem dJ13_bitCount_95d88_54 : decode cJ13_bitCount_95d88 54 = .ok (.lstore_n 0, 1) := by decide +kernel
theorem dJ13_bitCount_95d88_55 : decode cJ13_bitCount_95d88 55 = .ok (.lload_n 0, 1) := by decide +kernel
theorem dJ13_bitCount_95d88_56 : decode cJ13_bitCount_95d88 56 = .ok (.l2i, 1) := by decide +kernel
theorem dJ13_bitCount_95d88_57 : decode cJ13_bitCount_95d88 57 = .ok (.bipush 127, 2) := by decide +kernel
theorem dJ13_bitCount_95d88_59 : decode cJ13_bitCount_95d88 59 = .ok (.iand, 1) := by decide +kernel
theorem dJ13_bitCount_95d88_60 : decode cJ13_bitCount_95d88 60 = .ok (.ireturn, 1) := by decide +kernel
theorem dJ7_rangeCheck_23922_0 : decode cJ7_rangeCheck_23922 0 = .ok (.iload_n 1, 1) := by decide +kernel
theorem dJ7_rangeCheck_23922_1 : decode cJ7_rangeCheck_23922 1 = .ok (.iload_n 2, 1) := by decide +kernel
theorem dJ7_rangeCheck_23922_2 : decode cJ7_rangeCheck_23922 2 = .ok (.if_icmp .le 44, 3) := by decide +kernel
theorem dJ7_rangeCheck_23922_5 : decode cJ7_rangeCheck_23922 5 = .ok (.new 43, 3) := by decide +kernel
theorem dJ7_rangeCheck_23922_46 : decode cJ7_rangeCheck_23922 46 = .ok (.iload_n 1, 1) := by decide +kernel
theorem dJ7_rangeCheck_23922_47 : decode cJ7_rangeCheck_23922 47 = .ok (.ifCond .ge 12, 3) := by decide +kernel
theorem dJ7_rangeCheck_23922_50 : decode cJ7_rangeCheck_23922 50 = .ok (.new 68, 3) := by decide +kernel
theorem dJ7_rangeCheck_23922_59 : decode cJ7_rangeCheck_23922 59 = .ok (.iload_n 2, 1) := by decide +kernel
theorem dJ7_rangeCheck_23922_60 : decode cJ7_rangeCheck_23922 60 = .ok (.iload_n 0, 1) := by decide +kernel
theorem dJ7_rangeCheck_23922_61 : decode cJ7_rangeCheck_23922 61 = .ok (.if_icmp .le 12, 3) := by decide +kernel
theorem dJ7_rangeCheck_23922_64 : decode cJ7_rangeCheck_23922 64 = .ok (.new 68, 3) := by decide +kernel
theorem dJ7_rangeCheck_23922_73 : decode cJ7_rangeCheck_23922 73 = .ok (.return_, 1) := by decide +kernel
theorem dX0_append_0 : decode cX0_append 0 = .ok (.aload_n 0, 1) := by decide +kernel
theorem dX0_append_1 : decode cX0_append 1 = .ok (.getfield 197, 3) := by decide +kernel
theorem dX0_append_4 : decode cX0_append 4 = .ok (.iconst 2, 1) := by decide +kernel
theorem dX0_append_5 : decode cX0_append 5 = .ok (.iadd, 1) := by decide +kernel
theorem dX0_append_6 : decode cX0_append 6 = .ok (.iload_n 1, 1) := by decide +kernel
theorem dX0_append_7 : decode cX0_append 7 = .ok (.iadd, 1) := by decide +kernel
theorem dX0_append_8 : decode cX0_append 8 = .ok (.sipush 8000, 3) := by decide +kernel
theorem dX0_append_11 : decode cX0_append 11 = .ok (.if_icmp .le 5, 3) := by decide +kernel
theorem dX0_append_14 : decode cX0_append 14 = .ok (.iconst 0, 1) := by decide +kernel
theorem dX0_append_15 : decode cX0_append 15 = .ok (.ireturn, 1) := by decide +kernel
theorem dX0_append_16 : decode cX0_append 16 = .ok (.aload_n 0, 1) := by decide +kernel
theorem dX0_append_17 : decode cX0_append 17 = .ok (.getfield 23, 3) := by decide +kernel
theorem dX0_append_20 : decode cX0_append 20 = .ok (.aload_n 0, 1) := by decide +kernel
theorem dX0_append_21 : decode cX0_append 21 = .ok (.getfield 197, 3) := by decide +kernel
theorem dX0_append_24 : decode cX0_append 24 = .ok (.iload_n 1, 1) := by decide +kernel
theorem dX0_append_25 : decode cX0_append 25 = .ok (.sipush 255, 3) := by decide +kernel
theorem dX0_append_28 : decode cX0_append 28 = .ok (.iand, 1) := by decide +kernel
theorem dX0_append_29 : decode cX0_append 29 = .ok (.iastore, 1) := by decide +kernel
theorem dX0_append_30 : decode cX0_append 30 = .ok (.aload_n 0, 1) := by decide +kernel
theorem dX0_append_31 : decode cX0_append 31 = .ok (.getfield 23, 3) := by decide +kernel
theorem dX0_append_34 : decode cX0_append 34 = .ok (.aload_n 0, 1) := by decide +kernel
theorem dX0_append_35 : decode cX0_append 35 = .ok (.getfield 197, 3) := by decide +kernel
theorem dX0_append_38 : decode cX0_append 38 = .ok (.iconst 1, 1) := by decide +kernel
theorem dX0_append_39 : decode cX0_append 39 = .ok (.iadd, 1) := by decide +kernel
theorem dX0_append_40 : decode cX0_append 40 = .ok (.iload_n 1, 1) := by decide +kernel
theorem dX0_append_41 : decode cX0_append 41 = .ok (.bipush 8, 2) := by decide +kernel
theorem dX0_append_43 : decode cX0_append 43 = .ok (.ishr, 1) := by decide +kernel
theorem dX0_append_44 : decode cX0_append 44 = .ok (.iastore, 1) := by decide +kernel
theorem dX0_append_45 : decode cX0_append 45 = .ok (.aload_n 0, 1) := by decide +kernel
theorem dX0_append_46 : decode cX0_append 46 = .ok (.getfield 19, 3) := by decide +kernel
theorem dX0_append_49 : decode cX0_append 49 = .ok (.iconst 0, 1) := by decide +kernel
theorem dX0_append_50 : decode cX0_append 50 = .ok (.aload_n 0, 1) := by decide +kernel
theorem dX0_append_51 : decode cX0_append 51 = .ok (.getfield 23, 3) := by decide +kernel
theorem dX0_append_54 : decode cX0_append 54 = .ok (.aload_n 0, 1) := by decide +kernel
theorem dX0_append_55 : decode cX0_append 55 = .ok (.getfield 197, 3) := by decide +kernel
theorem dX0_append_58 : decode cX0_append 58 = .ok (.iconst 2, 1) := by decide +kernel
theorem dX0_append_59 : decode cX0_append 59 = .ok (.iadd, 1) := by decide +kernel
theorem dX0_append_60 : decode cX0_append 60 = .ok (.iload_n 1, 1) := by decide +kernel
theorem dX0_append_61 : decode cX0_append 61 = .ok (.invokestatic 200, 3) := by decide +kernel
theorem dX0_append_64 : decode cX0_append 64 = .ok (.aload_n 0, 1) := by decide +kernel
theorem dX0_append_65 : decode cX0_append 65 = .ok (.dup, 1) := by decide +kernel
theorem dX0_append_66 : decode cX0_append 66 = .ok (.getfield 197, 3) := by decide +kernel
theorem dX0_append_69 : decode cX0_append 69 = .ok (.iconst 2, 1) := by decide +kernel
theorem dX0_append_70 : decode cX0_append 70 = .ok (.iload_n 1, 1) := by decide +kernel
theorem dX0_append_71 : decode cX0_append 71 = .ok (.iadd, 1) := by decide +kernel
theorem dX0_append_72 : decode cX0_append 72 = .ok (.iadd, 1) := by decide +kernel
theorem dX0_append_73 : decode cX0_append 73 = .ok (.putfield 197, 3) := by decide +kernel
theorem dX0_append_76 : decode cX0_append 76 = .ok (.aload_n 0, 1) := by decide +kernel
theorem dX0_append_77 : decode cX0_append 77 = .ok (.dup, 1) := by decide +kernel
theorem dX0_append_78 : decode cX0_append 78 = .ok (.getfield 206, 3) := by decide +kernel
theorem dX0_append_81 : decode cX0_append 81 = .ok (.iconst 1, 1) := by decide +kernel
theorem dX0_append_82 : decode cX0_append 82 = .ok (.iadd, 1) := by decide +kernel
theorem dX0_append_83 : decode cX0_append 83 = .ok (.putfield 206, 3) := by decide +kernel
theorem dX0_append_86 : decode cX0_append 86 = .ok (.iconst 1, 1) := by decide +kernel
theorem dX0_append_87 : decode cX0_append 87 = .ok (.ireturn, 1) := by decide +kernel
theorem dX0_checkLinks_0 : decode cX0_checkLinks 0 = .ok (.iconst 0, 1) := by decide +kernel
theorem dX0_checkLinks_1 : decode cX0_checkLinks 1 = .ok (.istore_n 2, 1) := by decide +kernel
theorem dX0_checkLinks_2 : decode cX0_checkLinks 2 = .ok (.iload_n 2, 1) := by decide +kernel
theorem dX0_checkLinks_3 : decode cX0_checkLinks 3 = .ok (.aload_n 1, 1) := by decide +kernel
theorem dX0_checkLinks_4 : decode cX0_checkLinks 4 = .ok (.getfield 43, 3) := by decide +kernel
theorem dX0_checkLinks_7 : decode cX0_checkLinks 7 = .ok (.if_icmp .ge 123, 3) := by decide +kernel
theorem dX0_checkLinks_10 : decode cX0_checkLinks 10 = .ok (.aload_n 1, 1) := by decide +kernel
theorem dX0_checkLinks_11 : decode cX0_checkLinks 11 = .ok (.getfield 59, 3) := by decide +kernel
theorem dX0_checkLinks_14 : decode cX0_checkLinks 14 = .ok (.iload_n 2, 1) := by decide +kernel
theorem dX0_checkLinks_15 : decode cX0_checkLinks 15 = .ok (.iaload, 1) := by decide +kernel
theorem dX0_checkLinks_16 : decode cX0_checkLinks 16 = .ok (.istore_n 3, 1) := by decide +kernel
theorem dX0_checkLinks_17 : decode cX0_checkLinks 17 = .ok (.iload_n 3, 1) := by decide +kernel
theorem dX0_checkLinks_18 : decode cX0_checkLinks 18 = .ok (.aload_n 1, 1) := by decide +kernel
theorem dX0_checkLinks_19 : decode cX0_checkLinks 19 = .ok (.getfield 59, 3) := by decide +kernel
theorem dX0_checkLinks_22 : decode cX0_checkLinks 22 = .ok (.iload_n 2, 1) := by decide +kernel
theorem dX0_checkLinks_23 : decode cX0_checkLinks 23 = .ok (.iconst 1, 1) := by decide +kernel
theorem dX0_checkLinks_24 : decode cX0_checkLinks 24 = .ok (.iadd, 1) := by decide +kernel
theorem dX0_checkLinks_25 : decode cX0_checkLinks 25 = .ok (.iaload, 1) := by decide +kernel
theorem dX0_checkLinks_26 : decode cX0_checkLinks 26 = .ok (.if_icmp .ge 98, 3) := by decide +kernel
theorem dX0_checkLinks_29 : decode cX0_checkLinks 29 = .ok (.aload_n 1, 1) := by decide +kernel
theorem dX0_checkLinks_30 : decode cX0_checkLinks 30 = .ok (.getfield 66, 3) := by decide +kernel
theorem dX0_checkLinks_33 : decode cX0_checkLinks 33 = .ok (.iload_n 3, 1) := by decide +kernel
theorem dX0_checkLinks_34 : decode cX0_checkLinks 34 = .ok (.baload, 1) := by decide +kernel
theorem dX0_checkLinks_35 : decode cX0_checkLinks 35 = .ok (.ifCond .eq 20, 3) := by decide +kernel
theorem dX0_checkLinks_38 : decode cX0_checkLinks 38 = .ok (.aload_n 1, 1) := by decide +kernel
theorem dX0_checkLinks_39 : decode cX0_checkLinks 39 = .ok (.getfield 62, 3) := by decide +kernel
theorem dX0_checkLinks_42 : decode cX0_checkLinks 42 = .ok (.iload_n 3, 1) := by decide +kernel
theorem dX0_checkLinks_43 : decode cX0_checkLinks 43 = .ok (.laload, 1) := by decide +kernel
theorem dX0_checkLinks_44 : decode cX0_checkLinks 44 = .ok (.ldc2_w 181, 3) := by decide +kernel
theorem dX0_checkLinks_47 : decode cX0_checkLinks 47 = .ok (.lcmp, 1) := by decide +kernel
theorem dX0_checkLinks_48 : decode cX0_checkLinks 48 = .ok (.ifCond .eq 7, 3) := by decide +kernel
theorem dX0_checkLinks_51 : decode cX0_checkLinks 51 = .ok (.iconst 1, 1) := by decide +kernel
theorem dX0_checkLinks_52 : decode cX0_checkLinks 52 = .ok (.goto 4, 3) := by decide +kernel
theorem dX0_checkLinks_55 : decode cX0_checkLinks 55 = .ok (.iconst 0, 1) := by decide +kernel
theorem dX0_checkLinks_56 : decode cX0_checkLinks 56 = .ok (.istore 4, 2) := by decide +kernel
theorem dX0_checkLinks_58 : decode cX0_checkLinks 58 = .ok (.iload 4, 2) := by decide +kernel
theorem dX0_checkLinks_60 : decode cX0_checkLinks 60 = .ok (.ifCond .eq 58, 3) := by decide +kernel
theorem dX0_checkLinks_63 : decode cX0_checkLinks 63 = .ok (.aload_n 0, 1) := by decide +kernel
theorem dX0_checkLinks_64 : decode cX0_checkLinks 64 = .ok (.getfield 11, 3) := by decide +kernel
theorem dX0_checkLinks_67 : decode cX0_checkLinks 67 = .ok (.aload_n 1, 1) := by decide +kernel
theorem dX0_checkLinks_68 : decode cX0_checkLinks 68 = .ok (.getfield 53, 3) := by decide +kernel
theorem dX0_checkLinks_71 : decode cX0_checkLinks 71 = .ok (.aload_n 1, 1) := by decide +kernel
theorem dX0_checkLinks_72 : decode cX0_checkLinks 72 = .ok (.getfield 62, 3) := by decide +kernel
theorem dX0_checkLinks_75 : decode cX0_checkLinks 75 = .ok (.iload_n 3, 1) := by decide +kernel
theorem dX0_checkLinks_76 : decode cX0_checkLinks 76 = .ok (.laload, 1) := by decide +kernel
theorem dX0_checkLinks_77 : decode cX0_checkLinks 77 = .ok (.l2i, 1) := by decide +kernel
theorem dX0_checkLinks_78 : decode cX0_checkLinks 78 = .ok (.iaload, 1) := by decide +kernel
theorem dX0_checkLinks_79 : decode cX0_checkLinks 79 = .ok (.aload_n 0, 1) := by decide +kernel
theorem dX0_checkLinks_80 : decode cX0_checkLinks 80 = .ok (.getfield 11, 3) := by decide +kernel
theorem dX0_checkLinks_83 : decode cX0_checkLinks 83 = .ok (.aload_n 1, 1) := by decide +kernel
theorem dX0_checkLinks_84 : decode cX0_checkLinks 84 = .ok (.getfield 53, 3) := by decide +kernel
theorem dX0_checkLinks_87 : decode cX0_checkLinks 87 = .ok (.iload_n 2, 1) := by decide +kernel
theorem dX0_checkLinks_88 : decode cX0_checkLinks 88 = .ok (.iaload, 1) := by decide +kernel
theorem dX0_checkLinks_89 : decode cX0_checkLinks 89 = .ok (.iload_n 3, 1) := by decide +kernel
theorem dX0_checkLinks_90 : decode cX0_checkLinks 90 = .ok (.aload_n 1, 1) := by decide +kernel
theorem dX0_checkLinks_91 : decode cX0_checkLinks 91 = .ok (.getfield 59, 3) := by decide +kernel
theorem dX0_checkLinks_94 : decode cX0_checkLinks 94 = .ok (.iload_n 2, 1) := by decide +kernel
theorem dX0_checkLinks_95 : decode cX0_checkLinks 95 = .ok (.iaload, 1) := by decide +kernel
theorem dX0_checkLinks_96 : decode cX0_checkLinks 96 = .ok (.isub, 1) := by decide +kernel
theorem dX0_checkLinks_97 : decode cX0_checkLinks 97 = .ok (.invokevirtual 183, 3) := by decide +kernel
theorem dX0_checkLinks_100 : decode cX0_checkLinks 100 = .ok (.invokevirtual 186, 3) := by decide +kernel
theorem dX0_checkLinks_103 : decode cX0_checkLinks 103 = .ok (.ifCond .ne 15, 3) := by decide +kernel
theorem dX0_checkLinks_106 : decode cX0_checkLinks 106 = .ok (.aload_n 0, 1) := by decide +kernel
theorem dX0_checkLinks_107 : decode cX0_checkLinks 107 = .ok (.iconst 4, 1) := by decide +kernel
theorem dX0_checkLinks_108 : decode cX0_checkLinks 108 = .ok (.aload_n 0, 1) := by decide +kernel
theorem dX0_checkLinks_109 : decode cX0_checkLinks 109 = .ok (.getfield 32, 3) := by decide +kernel
theorem dX0_checkLinks_112 : decode cX0_checkLinks 112 = .ok (.iload_n 3, 1) := by decide +kernel
theorem dX0_checkLinks_113 : decode cX0_checkLinks 113 = .ok (.iaload, 1) := by decide +kernel
theorem dX0_checkLinks_114 : decode cX0_checkLinks 114 = .ok (.invokevirtual 130, 3) := by decide +kernel
theorem dX0_checkLinks_117 : decode cX0_checkLinks 117 = .ok (.ireturn, 1) := by decide +kernel
theorem dX0_checkLinks_118 : decode cX0_checkLinks 118 = .ok (.iinc 3 1, 3) := by decide +kernel
theorem dX0_checkLinks_121 : decode cX0_checkLinks 121 = .ok (.goto (-104), 3) := by decide +kernel
theorem dX0_checkLinks_124 : decode cX0_checkLinks 124 = .ok (.iinc 2 1, 3) := by decide +kernel
theorem dX0_checkLinks_127 : decode cX0_checkLinks 127 = .ok (.goto (-125), 3) := by decide +kernel
theorem dX0_checkLinks_130 : decode cX0_checkLinks 130 = .ok (.iconst 1, 1) := by decide +kernel
theorem dX0_checkLinks_131 : decode cX0_checkLinks 131 = .ok (.ireturn, 1) := by decide +kernel
theorem dX0_checkOf_0 : decode cX0_checkOf 0 = .ok (.iconst 1, 1) := by decide +kernel
theorem dX0_checkOf_1 : decode cX0_checkOf 1 = .ok (.istore_n 3, 1) := by decide +kernel
theorem dX0_checkOf_2 : decode cX0_checkOf 2 = .ok (.iload_n 1, 1) := by decide +kernel
theorem dX0_checkOf_3 : decode cX0_checkOf 3 = .ok (.istore 4, 2) := by decide +kernel
theorem dX0_checkOf_5 : decode cX0_checkOf 5 = .ok (.iload 4, 2) := by decide +kernel
theorem dX0_checkOf_7 : decode cX0_checkOf 7 = .ok (.iload_n 2, 1) := by decide +kernel
theorem dX0_checkOf_8 : decode cX0_checkOf 8 = .ok (.if_icmp .ge 19, 3) := by decide +kernel
theorem dX0_checkOf_11 : decode cX0_checkOf 11 = .ok (.iload_n 3, 1) := by decide +kernel
theorem dX0_checkOf_12 : decode cX0_checkOf 12 = .ok (.ldc 91, 2) := by decide +kernel
theorem dX0_checkOf_14 : decode cX0_checkOf 14 = .ok (.imul, 1) := by decide +kernel
theorem dX0_checkOf_15 : decode cX0_checkOf 15 = .ok (.aload_n 0, 1) := by decide +kernel
theorem dX0_checkOf_16 : decode cX0_checkOf 16 = .ok (.iload 4, 2) := by decide +kernel
theorem dX0_checkOf_18 : decode cX0_checkOf 18 = .ok (.iaload, 1) := by decide +kernel
theorem dX0_checkOf_19 : decode cX0_checkOf 19 = .ok (.ixor, 1) := by decide +kernel
theorem dX0_checkOf_20 : decode cX0_checkOf 20 = .ok (.istore_n 3, 1) := by decide +kernel
theorem dX0_checkOf_21 : decode cX0_checkOf 21 = .ok (.iinc 4 1, 3) := by decide +kernel
theorem dX0_checkOf_24 : decode cX0_checkOf 24 = .ok (.goto (-19), 3) := by decide +kernel
theorem dX0_checkOf_27 : decode cX0_checkOf 27 = .ok (.iload_n 3, 1) := by decide +kernel
theorem dX0_checkOf_28 : decode cX0_checkOf 28 = .ok (.ireturn, 1) := by decide +kernel
theorem dX0_checkWalk_0 : decode cX0_checkWalk 0 = .ok (.aload_n 1, 1) := by decide +kernel
theorem dX0_checkWalk_1 : decode cX0_checkWalk 1 = .ok (.invokevirtual 193, 3) := by decide +kernel
theorem dX0_checkWalk_4 : decode cX0_checkWalk 4 = .ok (.istore_n 2, 1) := by decide +kernel
theorem dX0_checkWalk_5 : decode cX0_checkWalk 5 = .ok (.iload_n 2, 1) := by decide +kernel
theorem dX0_checkWalk_6 : decode cX0_checkWalk 6 = .ok (.aload_n 1, 1) := by decide +kernel
theorem dX0_checkWalk_7 : decode cX0_checkWalk 7 = .ok (.getfield 43, 3) := by decide +kernel
theorem dX0_checkWalk_10 : decode cX0_checkWalk 10 = .ok (.if_icmp .eq 18, 3) := by decide +kernel
theorem dX0_checkWalk_13 : decode cX0_checkWalk 13 = .ok (.aload_n 0, 1) := by decide +kernel
theorem dX0_checkWalk_14 : decode cX0_checkWalk 14 = .ok (.bipush 7, 2) := by decide +kernel
theorem dX0_checkWalk_16 : decode cX0_checkWalk 16 = .ok (.aload_n 0, 1) := by decide +kernel
theorem dX0_checkWalk_17 : decode cX0_checkWalk 17 = .ok (.getfield 29, 3) := by decide +kernel
theorem dX0_checkWalk_20 : decode cX0_checkWalk 20 = .ok (.iload_n 2, 1) := by decide +kernel
theorem dX0_checkWalk_21 : decode cX0_checkWalk 21 = .ok (.iaload, 1) := by decide +kernel
theorem dX0_checkWalk_22 : decode cX0_checkWalk 22 = .ok (.invokevirtual 130, 3) := by decide +kernel
theorem dX0_checkWalk_25 : decode cX0_checkWalk 25 = .ok (.ifCond .eq 7, 3) := by decide +kernel
theorem dX0_checkWalk_28 : decode cX0_checkWalk 28 = .ok (.iconst 1, 1) := by decide +kernel
theorem dX0_checkWalk_29 : decode cX0_checkWalk 29 = .ok (.goto 4, 3) := by decide +kernel
theorem dX0_checkWalk_32 : decode cX0_checkWalk 32 = .ok (.iconst 0, 1) := by decide +kernel
theorem dX0_checkWalk_33 : decode cX0_checkWalk 33 = .ok (.ireturn, 1) := by decide +kernel
theorem dX0_decode_0 : decode cX0_decode 0 = .ok (.aload_n 0, 1) := by decide +kernel
theorem dX0_decode_1 : decode cX0_decode 1 = .ok (.aload_n 1, 1) := by decide +kernel
theorem dX0_decode_2 : decode cX0_decode 2 = .ok (.putfield 26, 3) := by decide +kernel
theorem dX0_decode_5 : decode cX0_decode 5 = .ok (.aload_n 0, 1) := by decide +kernel
theorem dX0_decode_6 : decode cX0_decode 6 = .ok (.iload_n 2, 1) := by decide +kernel
theorem dX0_decode_7 : decode cX0_decode 7 = .ok (.putfield 92, 3) := by decide +kernel
theorem dX0_decode_10 : decode cX0_decode 10 = .ok (.aload_n 0, 1) := by decide +kernel
theorem dX0_decode_11 : decode cX0_decode 11 = .ok (.iload_n 3, 1) := by decide +kernel
theorem dX0_decode_12 : decode cX0_decode 12 = .ok (.putfield 95, 3) := by decide +kernel
theorem dX0_decode_15 : decode cX0_decode 15 = .ok (.aload_n 0, 1) := by decide +kernel
theorem dX0_decode_16 : decode cX0_decode 16 = .ok (.iload_n 2, 1) := by decide +kernel
theorem dX0_decode_17 : decode cX0_decode 17 = .ok (.putfield 98, 3) := by decide +kernel
theorem dX0_decode_20 : decode cX0_decode 20 = .ok (.aload_n 0, 1) := by decide +kernel
theorem dX0_decode_21 : decode cX0_decode 21 = .ok (.iconst 0, 1) := by decide +kernel
theorem dX0_decode_22 : decode cX0_decode 22 = .ok (.putfield 101, 3) := by decide +kernel
theorem dX0_decode_25 : decode cX0_decode 25 = .ok (.aload_n 0, 1) := by decide +kernel
theorem dX0_decode_26 : decode cX0_decode 26 = .ok (.iconst (-1), 1) := by decide +kernel
theorem dX0_decode_27 : decode cX0_decode 27 = .ok (.putfield 104, 3) := by decide +kernel
theorem dX0_decode_30 : decode cX0_decode 30 = .ok (.aload 4, 2) := by decide +kernel
theorem dX0_decode_32 : decode cX0_decode 32 = .ok (.invokevirtual 107, 3) := by decide +kernel
theorem dX0_decode_35 : decode cX0_decode 35 = .ok (.aload_n 0, 1) := by decide +kernel
theorem dX0_decode_36 : decode cX0_decode 36 = .ok (.invokevirtual 110, 3) := by decide +kernel
theorem dX0_decode_39 : decode cX0_decode 39 = .ok (.ifCond .eq 50, 3) := by decide +kernel
theorem dX0_decode_42 : decode cX0_decode 42 = .ok (.aload_n 0, 1) := by decide +kernel
theorem dX0_decode_43 : decode cX0_decode 43 = .ok (.aload 4, 2) := by decide +kernel
theorem dX0_decode_45 : decode cX0_decode 45 = .ok (.invokevirtual 114, 3) := by decide +kernel
theorem dX0_decode_48 : decode cX0_decode 48 = .ok (.ifCond .eq 41, 3) := by decide +kernel
theorem dX0_decode_51 : decode cX0_decode 51 = .ok (.aload_n 0, 1) := by decide +kernel
theorem dX0_decode_52 : decode cX0_decode 52 = .ok (.aload 4, 2) := by decide +kernel
theorem dX0_decode_54 : decode cX0_decode 54 = .ok (.invokevirtual 118, 3) := by decide +kernel
theorem dX0_decode_57 : decode cX0_decode 57 = .ok (.ifCond .eq 32, 3) := by decide +kernel
theorem dX0_decode_60 : decode cX0_decode 60 = .ok (.aload_n 0, 1) := by decide +kernel
theorem dX0_decode_61 : decode cX0_decode 61 = .ok (.aload 4, 2) := by decide +kernel
theorem dX0_decode_63 : decode cX0_decode 63 = .ok (.invokevirtual 121, 3) := by decide +kernel
theorem dX0_decode_66 : decode cX0_decode 66 = .ok (.ifCond .eq 23, 3) := by decide +kernel
theorem dX0_decode_69 : decode cX0_decode 69 = .ok (.aload_n 0, 1) := by decide +kernel
theorem dX0_decode_70 : decode cX0_decode 70 = .ok (.invokevirtual 124, 3) := by decide +kernel
theorem dX0_decode_73 : decode cX0_decode 73 = .ok (.ifCond .eq 16, 3) := by decide +kernel
theorem dX0_decode_76 : decode cX0_decode 76 = .ok (.aload_n 0, 1) := by decide +kernel
theorem dX0_decode_77 : decode cX0_decode 77 = .ok (.aload 4, 2) := by decide +kernel
theorem dX0_decode_79 : decode cX0_decode 79 = .ok (.invokevirtual 127, 3) := by decide +kernel
theorem dX0_decode_82 : decode cX0_decode 82 = .ok (.ifCond .eq 7, 3) := by decide +kernel
theorem dX0_decode_85 : decode cX0_decode 85 = .ok (.iconst 1, 1) := by decide +kernel
theorem dX0_decode_86 : decode cX0_decode 86 = .ok (.goto 4, 3) := by decide +kernel
theorem dX0_decode_89 : decode cX0_decode 89 = .ok (.iconst 0, 1) := by decide +kernel
theorem dX0_decode_90 : decode cX0_decode 90 = .ok (.ireturn, 1) := by decide +kernel
theorem dX0_encode_0 : decode cX0_encode 0 = .ok (.aload_n 0, 1) := by decide +kernel
theorem dX0_encode_1 : decode cX0_encode 1 = .ok (.iconst 0, 1) := by decide +kernel
theorem dX0_encode_2 : decode cX0_encode 2 = .ok (.putfield 35, 3) := by decide +kernel
theorem dX0_encode_5 : decode cX0_encode 5 = .ok (.aload_n 0, 1) := by decide +kernel
theorem dX0_encode_6 : decode cX0_encode 6 = .ok (.bipush 72, 2) := by decide +kernel
theorem dX0_encode_8 : decode cX0_encode 8 = .ok (.invokevirtual 39, 3) := by decide +kernel
theorem dX0_encode_11 : decode cX0_encode 11 = .ok (.aload_n 0, 1) := by decide +kernel
theorem dX0_encode_12 : decode cX0_encode 12 = .ok (.bipush 80, 2) := by decide +kernel
theorem dX0_encode_14 : decode cX0_encode 14 = .ok (.invokevirtual 39, 3) := by decide +kernel
theorem dX0_encode_17 : decode cX0_encode 17 = .ok (.aload_n 0, 1) := by decide +kernel
theorem dX0_encode_18 : decode cX0_encode 18 = .ok (.aload_n 1, 1) := by decide +kernel
theorem dX0_encode_19 : decode cX0_encode 19 = .ok (.getfield 43, 3) := by decide +kernel
theorem dX0_encode_22 : decode cX0_encode 22 = .ok (.i2l, 1) := by decide +kernel
theorem dX0_encode_23 : decode cX0_encode 23 = .ok (.invokevirtual 46, 3) := by decide +kernel
theorem dX0_encode_26 : decode cX0_encode 26 = .ok (.iconst 0, 1) := by decide +kernel
theorem dX0_encode_27 : decode cX0_encode 27 = .ok (.istore_n 2, 1) := by decide +kernel
theorem dX0_encode_28 : decode cX0_encode 28 = .ok (.iload_n 2, 1) := by decide +kernel
theorem dX0_encode_29 : decode cX0_encode 29 = .ok (.aload_n 1, 1) := by decide +kernel
theorem dX0_encode_30 : decode cX0_encode 30 = .ok (.getfield 43, 3) := by decide +kernel
theorem dX0_encode_33 : decode cX0_encode 33 = .ok (.if_icmp .ge 105, 3) := by decide +kernel
theorem dX0_encode_36 : decode cX0_encode 36 = .ok (.aload_n 0, 1) := by decide +kernel
theorem dX0_encode_37 : decode cX0_encode 37 = .ok (.aload_n 1, 1) := by decide +kernel
theorem dX0_encode_38 : decode cX0_encode 38 = .ok (.getfield 50, 3) := by decide +kernel
theorem dX0_encode_41 : decode cX0_encode 41 = .ok (.iload_n 2, 1) := by decide +kernel
theorem dX0_encode_42 : decode cX0_encode 42 = .ok (.iaload, 1) := by decide +kernel
theorem dX0_encode_43 : decode cX0_encode 43 = .ok (.i2l, 1) := by decide +kernel
theorem dX0_encode_44 : decode cX0_encode 44 = .ok (.invokevirtual 46, 3) := by decide +kernel
theorem dX0_encode_47 : decode cX0_encode 47 = .ok (.aload_n 0, 1) := by decide +kernel
theorem dX0_encode_48 : decode cX0_encode 48 = .ok (.aload_n 1, 1) := by decide +kernel
theorem dX0_encode_49 : decode cX0_encode 49 = .ok (.getfield 53, 3) := by decide +kernel
theorem dX0_encode_52 : decode cX0_encode 52 = .ok (.iload_n 2, 1) := by decide +kernel
theorem dX0_encode_53 : decode cX0_encode 53 = .ok (.iaload, 1) := by decide +kernel
theorem dX0_encode_54 : decode cX0_encode 54 = .ok (.i2l, 1) := by decide +kernel
theorem dX0_encode_55 : decode cX0_encode 55 = .ok (.invokevirtual 46, 3) := by decide +kernel
theorem dX0_encode_58 : decode cX0_encode 58 = .ok (.aload_n 0, 1) := by decide +kernel
theorem dX0_encode_59 : decode cX0_encode 59 = .ok (.aload_n 1, 1) := by decide +kernel
theorem dX0_encode_60 : decode cX0_encode 60 = .ok (.getfield 56, 3) := by decide +kernel
theorem dX0_encode_63 : decode cX0_encode 63 = .ok (.iload_n 2, 1) := by decide +kernel
theorem dX0_encode_64 : decode cX0_encode 64 = .ok (.iaload, 1) := by decide +kernel
theorem dX0_encode_65 : decode cX0_encode 65 = .ok (.i2l, 1) := by decide +kernel
theorem dX0_encode_66 : decode cX0_encode 66 = .ok (.invokevirtual 46, 3) := by decide +kernel
theorem dX0_encode_69 : decode cX0_encode 69 = .ok (.aload_n 1, 1) := by decide +kernel
theorem dX0_encode_70 : decode cX0_encode 70 = .ok (.getfield 59, 3) := by decide +kernel
theorem dX0_encode_73 : decode cX0_encode 73 = .ok (.iload_n 2, 1) := by decide +kernel
theorem dX0_encode_74 : decode cX0_encode 74 = .ok (.iaload, 1) := by decide +kernel
theorem dX0_encode_75 : decode cX0_encode 75 = .ok (.istore_n 3, 1) := by decide +kernel
theorem dX0_encode_76 : decode cX0_encode 76 = .ok (.iload_n 3, 1) := by decide +kernel
theorem dX0_encode_77 : decode cX0_encode 77 = .ok (.aload_n 1, 1) := by decide +kernel
theorem dX0_encode_78 : decode cX0_encode 78 = .ok (.getfield 59, 3) := by decide +kernel
theorem dX0_encode_81 : decode cX0_encode 81 = .ok (.iload_n 2, 1) := by decide +kernel
theorem dX0_encode_82 : decode cX0_encode 82 = .ok (.iconst 1, 1) := by decide +kernel
theorem dX0_encode_83 : decode cX0_encode 83 = .ok (.iadd, 1) := by decide +kernel
theorem dX0_encode_84 : decode cX0_encode 84 = .ok (.iaload, 1) := by decide +kernel
theorem dX0_encode_85 : decode cX0_encode 85 = .ok (.if_icmp .ge 47, 3) := by decide +kernel
theorem dX0_encode_88 : decode cX0_encode 88 = .ok (.aload_n 1, 1) := by decide +kernel
theorem dX0_encode_89 : decode cX0_encode 89 = .ok (.getfield 62, 3) := by decide +kernel
theorem dX0_encode_92 : decode cX0_encode 92 = .ok (.iload_n 3, 1) := by decide +kernel
theorem dX0_encode_93 : decode cX0_encode 93 = .ok (.laload, 1) := by decide +kernel
theorem dX0_encode_94 : decode cX0_encode 94 = .ok (.lstore 4, 2) := by decide +kernel
theorem dX0_encode_96 : decode cX0_encode 96 = .ok (.aload_n 0, 1) := by decide +kernel
theorem dX0_encode_97 : decode cX0_encode 97 = .ok (.aload_n 1, 1) := by decide +kernel
theorem dX0_encode_98 : decode cX0_encode 98 = .ok (.getfield 66, 3) := by decide +kernel
theorem dX0_encode_101 : decode cX0_encode 101 = .ok (.iload_n 3, 1) := by decide +kernel
theorem dX0_encode_102 : decode cX0_encode 102 = .ok (.baload, 1) := by decide +kernel
theorem dX0_encode_103 : decode cX0_encode 103 = .ok (.ifCond .eq 10, 3) := by decide +kernel
theorem dX0_encode_106 : decode cX0_encode 106 = .ok (.lload 4, 2) := by decide +kernel
theorem dX0_encode_108 : decode cX0_encode 108 = .ok (.lconst 1, 1) := by decide +kernel
theorem dX0_encode_109 : decode cX0_encode 109 = .ok (.ladd, 1) := by decide +kernel
theorem dX0_encode_110 : decode cX0_encode 110 = .ok (.goto 13, 3) := by decide +kernel
theorem dX0_encode_113 : decode cX0_encode 113 = .ok (.lload 4, 2) := by decide +kernel
theorem dX0_encode_115 : decode cX0_encode 115 = .ok (.iconst 1, 1) := by decide +kernel
theorem dX0_encode_116 : decode cX0_encode 116 = .ok (.lshl, 1) := by decide +kernel
theorem dX0_encode_117 : decode cX0_encode 117 = .ok (.lload 4, 2) := by decide +kernel
theorem dX0_encode_119 : decode cX0_encode 119 = .ok (.bipush 63, 2) := by decide +kernel
theorem dX0_encode_121 : decode cX0_encode 121 = .ok (.lshr, 1) := by decide +kernel
theorem dX0_encode_122 : decode cX0_encode 122 = .ok (.lxor, 1) := by decide +kernel
theorem dX0_encode_123 : decode cX0_encode 123 = .ok (.invokevirtual 46, 3) := by decide +kernel
theorem dX0_encode_126 : decode cX0_encode 126 = .ok (.iinc 3 1, 3) := by decide +kernel
theorem dX0_encode_129 : decode cX0_encode 129 = .ok (.goto (-53), 3) := by decide +kernel
theorem dX0_encode_132 : decode cX0_encode 132 = .ok (.iinc 2 1, 3) := by decide +kernel
theorem dX0_encode_135 : decode cX0_encode 135 = .ok (.goto (-107), 3) := by decide +kernel
theorem dX0_encode_138 : decode cX0_encode 138 = .ok (.aload_n 0, 1) := by decide +kernel
theorem dX0_encode_139 : decode cX0_encode 139 = .ok (.aload_n 1, 1) := by decide +kernel
theorem dX0_encode_140 : decode cX0_encode 140 = .ok (.getfield 70, 3) := by decide +kernel
theorem dX0_encode_143 : decode cX0_encode 143 = .ok (.i2l, 1) := by decide +kernel
theorem dX0_encode_144 : decode cX0_encode 144 = .ok (.invokevirtual 46, 3) := by decide +kernel
theorem dX0_encode_147 : decode cX0_encode 147 = .ok (.iconst 0, 1) := by decide +kernel
theorem dX0_encode_148 : decode cX0_encode 148 = .ok (.istore_n 2, 1) := by decide +kernel
theorem dX0_encode_149 : decode cX0_encode 149 = .ok (.iload_n 2, 1) := by decide +kernel
theorem dX0_encode_150 : decode cX0_encode 150 = .ok (.aload_n 1, 1) := by decide +kernel
theorem dX0_encode_151 : decode cX0_encode 151 = .ok (.getfield 70, 3) := by decide +kernel
theorem dX0_encode_154 : decode cX0_encode 154 = .ok (.if_icmp .ge 31, 3) := by decide +kernel
theorem dX0_encode_157 : decode cX0_encode 157 = .ok (.aload_n 0, 1) := by decide +kernel
theorem dX0_encode_158 : decode cX0_encode 158 = .ok (.aload_n 1, 1) := by decide +kernel
theorem dX0_encode_159 : decode cX0_encode 159 = .ok (.getfield 73, 3) := by decide +kernel
theorem dX0_encode_162 : decode cX0_encode 162 = .ok (.iload_n 2, 1) := by decide +kernel
theorem dX0_encode_163 : decode cX0_encode 163 = .ok (.iaload, 1) := by decide +kernel
theorem dX0_encode_164 : decode cX0_encode 164 = .ok (.i2l, 1) := by decide +kernel
theorem dX0_encode_165 : decode cX0_encode 165 = .ok (.invokevirtual 46, 3) := by decide +kernel
theorem dX0_encode_168 : decode cX0_encode 168 = .ok (.aload_n 0, 1) := by decide +kernel
theorem dX0_encode_169 : decode cX0_encode 169 = .ok (.aload_n 1, 1) := by decide +kernel
theorem dX0_encode_170 : decode cX0_encode 170 = .ok (.getfield 76, 3) := by decide +kernel
theorem dX0_encode_173 : decode cX0_encode 173 = .ok (.iload_n 2, 1) := by decide +kernel
theorem dX0_encode_174 : decode cX0_encode 174 = .ok (.iaload, 1) := by decide +kernel
theorem dX0_encode_175 : decode cX0_encode 175 = .ok (.i2l, 1) := by decide +kernel
theorem dX0_encode_176 : decode cX0_encode 176 = .ok (.invokevirtual 46, 3) := by decide +kernel
theorem dX0_encode_179 : decode cX0_encode 179 = .ok (.iinc 2 1, 3) := by decide +kernel
theorem dX0_encode_182 : decode cX0_encode 182 = .ok (.goto (-33), 3) := by decide +kernel
theorem dX0_encode_185 : decode cX0_encode 185 = .ok (.aload_n 0, 1) := by decide +kernel
theorem dX0_encode_186 : decode cX0_encode 186 = .ok (.getfield 19, 3) := by decide +kernel
theorem dX0_encode_189 : decode cX0_encode 189 = .ok (.iconst 0, 1) := by decide +kernel
theorem dX0_encode_190 : decode cX0_encode 190 = .ok (.aload_n 0, 1) := by decide +kernel
theorem dX0_encode_191 : decode cX0_encode 191 = .ok (.getfield 35, 3) := by decide +kernel
theorem dX0_encode_194 : decode cX0_encode 194 = .ok (.aload_n 0, 1) := by decide +kernel
theorem dX0_encode_195 : decode cX0_encode 195 = .ok (.getfield 19, 3) := by decide +kernel
theorem dX0_encode_198 : decode cX0_encode 198 = .ok (.arraylength, 1) := by decide +kernel
theorem dX0_encode_199 : decode cX0_encode 199 = .ok (.invokestatic 79, 3) := by decide +kernel
theorem dX0_encode_202 : decode cX0_encode 202 = .ok (.invokestatic 85, 3) := by decide +kernel
theorem dX0_encode_205 : decode cX0_encode 205 = .ok (.istore_n 2, 1) := by decide +kernel
theorem dX0_encode_206 : decode cX0_encode 206 = .ok (.iconst 0, 1) := by decide +kernel
theorem dX0_encode_207 : decode cX0_encode 207 = .ok (.istore_n 3, 1) := by decide +kernel
theorem dX0_encode_208 : decode cX0_encode 208 = .ok (.iload_n 3, 1) := by decide +kernel
theorem dX0_encode_209 : decode cX0_encode 209 = .ok (.iconst 4, 1) := by decide +kernel
theorem dX0_encode_210 : decode cX0_encode 210 = .ok (.if_icmp .ge 23, 3) := by decide +kernel
theorem dX0_encode_213 : decode cX0_encode 213 = .ok (.aload_n 0, 1) := by decide +kernel
theorem dX0_encode_214 : decode cX0_encode 214 = .ok (.iload_n 2, 1) := by decide +kernel
theorem dX0_encode_215 : decode cX0_encode 215 = .ok (.bipush 8, 2) := by decide +kernel
theorem dX0_encode_217 : decode cX0_encode 217 = .ok (.iload_n 3, 1) := by decide +kernel
theorem dX0_encode_218 : decode cX0_encode 218 = .ok (.imul, 1) := by decide +kernel
theorem dX0_encode_219 : decode cX0_encode 219 = .ok (.iushr, 1) := by decide +kernel
theorem dX0_encode_220 : decode cX0_encode 220 = .ok (.sipush 255, 3) := by decide +kernel
theorem dX0_encode_223 : decode cX0_encode 223 = .ok (.iand, 1) := by decide +kernel
theorem dX0_encode_224 : decode cX0_encode 224 = .ok (.invokevirtual 39, 3) := by decide +kernel
theorem dX0_encode_227 : decode cX0_encode 227 = .ok (.iinc 3 1, 3) := by decide +kernel
theorem dX0_encode_230 : decode cX0_encode 230 = .ok (.goto (-22), 3) := by decide +kernel
theorem dX0_encode_233 : decode cX0_encode 233 = .ok (.aload_n 0, 1) := by decide +kernel
theorem dX0_encode_234 : decode cX0_encode 234 = .ok (.getfield 35, 3) := by decide +kernel
theorem dX0_encode_237 : decode cX0_encode 237 = .ok (.ireturn, 1) := by decide +kernel
theorem dX0_fail_0 : decode cX0_fail 0 = .ok (.aload_n 0, 1) := by decide +kernel
theorem dX0_fail_1 : decode cX0_fail 1 = .ok (.iload_n 1, 1) := by decide +kernel
theorem dX0_fail_2 : decode cX0_fail 2 = .ok (.putfield 101, 3) := by decide +kernel
theorem dX0_fail_5 : decode cX0_fail 5 = .ok (.aload_n 0, 1) := by decide +kernel
theorem dX0_fail_6 : decode cX0_fail 6 = .ok (.iload_n 2, 1) := by decide +kernel
theorem dX0_fail_7 : decode cX0_fail 7 = .ok (.aload_n 0, 1) := by decide +kernel
theorem dX0_fail_8 : decode cX0_fail 8 = .ok (.getfield 92, 3) := by decide +kernel
theorem dX0_fail_11 : decode cX0_fail 11 = .ok (.isub, 1) := by decide +kernel
theorem dX0_fail_12 : decode cX0_fail 12 = .ok (.putfield 104, 3) := by decide +kernel
theorem dX0_fail_15 : decode cX0_fail 15 = .ok (.iconst 0, 1) := by decide +kernel
theorem dX0_fail_16 : decode cX0_fail 16 = .ok (.ireturn, 1) := by decide +kernel
theorem dX0_put_0 : decode cX0_put 0 = .ok (.aload_n 0, 1) := by decide +kernel
theorem dX0_put_1 : decode cX0_put 1 = .ok (.getfield 35, 3) := by decide +kernel
theorem dX0_put_4 : decode cX0_put 4 = .ok (.aload_n 0, 1) := by decide +kernel
theorem dX0_put_5 : decode cX0_put 5 = .ok (.getfield 19, 3) := by decide +kernel
theorem dX0_put_8 : decode cX0_put 8 = .ok (.arraylength, 1) := by decide +kernel
theorem dX0_put_9 : decode cX0_put 9 = .ok (.if_icmp .ge 13, 3) := by decide +kernel
theorem dX0_put_12 : decode cX0_put 12 = .ok (.aload_n 0, 1) := by decide +kernel
theorem dX0_put_13 : decode cX0_put 13 = .ok (.getfield 19, 3) := by decide +kernel
theorem dX0_put_16 : decode cX0_put 16 = .ok (.aload_n 0, 1) := by decide +kernel
theorem dX0_put_17 : decode cX0_put 17 = .ok (.getfield 35, 3) := by decide +kernel
theorem dX0_put_20 : decode cX0_put 20 = .ok (.iload_n 1, 1) := by decide +kernel
theorem dX0_put_21 : decode cX0_put 21 = .ok (.iastore, 1) := by decide +kernel
theorem dX0_put_22 : decode cX0_put 22 = .ok (.aload_n 0, 1) := by decide +kernel
theorem dX0_put_23 : decode cX0_put 23 = .ok (.dup, 1) := by decide +kernel
theorem dX0_put_24 : decode cX0_put 24 = .ok (.getfield 35, 3) := by decide +kernel
theorem dX0_put_27 : decode cX0_put 27 = .ok (.iconst 1, 1) := by decide +kernel
theorem dX0_put_28 : decode cX0_put 28 = .ok (.iadd, 1) := by decide +kernel
theorem dX0_put_29 : decode cX0_put 29 = .ok (.putfield 35, 3) := by decide +kernel
theorem dX0_put_32 : decode cX0_put 32 = .ok (.return_, 1) := by decide +kernel
theorem dX0_putNumber_0 : decode cX0_putNumber 0 = .ok (.lload_n 1, 1) := by decide +kernel
theorem dX0_putNumber_1 : decode cX0_putNumber 1 = .ok (.lstore_n 3, 1) := by decide +kernel
theorem dX0_putNumber_2 : decode cX0_putNumber 2 = .ok (.iconst 0, 1) := by decide +kernel
theorem dX0_putNumber_3 : decode cX0_putNumber 3 = .ok (.istore 5, 2) := by decide +kernel
theorem dX0_putNumber_5 : decode cX0_putNumber 5 = .ok (.iload 5, 2) := by decide +kernel
theorem dX0_putNumber_7 : decode cX0_putNumber 7 = .ok (.bipush 10, 2) := by decide +kernel
theorem dX0_putNumber_9 : decode cX0_putNumber 9 = .ok (.if_icmp .ge 37, 3) := by decide +kernel
theorem dX0_putNumber_12 : decode cX0_putNumber 12 = .ok (.lload_n 3, 1) := by decide +kernel
theorem dX0_putNumber_13 : decode cX0_putNumber 13 = .ok (.bipush 7, 2) := by decide +kernel
theorem dX0_putNumber_15 : decode cX0_putNumber 15 = .ok (.lushr, 1) := by decide +kernel
theorem dX0_putNumber_16 : decode cX0_putNumber 16 = .ok (.lconst 0, 1) := by decide +kernel
theorem dX0_putNumber_17 : decode cX0_putNumber 17 = .ok (.lcmp, 1) := by decide +kernel
theorem dX0_putNumber_18 : decode cX0_putNumber 18 = .ok (.ifCond .eq 28, 3) := by decide +kernel
theorem dX0_putNumber_21 : decode cX0_putNumber 21 = .ok (.aload_n 0, 1) := by decide +kernel
theorem dX0_putNumber_22 : decode cX0_putNumber 22 = .ok (.lload_n 3, 1) := by decide +kernel
theorem dX0_putNumber_23 : decode cX0_putNumber 23 = .ok (.ldc2_w 89, 3) := by decide +kernel
theorem dX0_putNumber_26 : decode cX0_putNumber 26 = .ok (.land, 1) := by decide +kernel
theorem dX0_putNumber_27 : decode cX0_putNumber 27 = .ok (.l2i, 1) := by decide +kernel
theorem dX0_putNumber_28 : decode cX0_putNumber 28 = .ok (.sipush 128, 3) := by decide +kernel
theorem dX0_putNumber_31 : decode cX0_putNumber 31 = .ok (.iadd, 1) := by decide +kernel
theorem dX0_putNumber_32 : decode cX0_putNumber 32 = .ok (.invokevirtual 39, 3) := by decide +kernel
theorem dX0_putNumber_35 : decode cX0_putNumber 35 = .ok (.lload_n 3, 1) := by decide +kernel
theorem dX0_putNumber_36 : decode cX0_putNumber 36 = .ok (.bipush 7, 2) := by decide +kernel
theorem dX0_putNumber_38 : decode cX0_putNumber 38 = .ok (.lushr, 1) := by decide +kernel
theorem dX0_putNumber_39 : decode cX0_putNumber 39 = .ok (.lstore_n 3, 1) := by decide +kernel
theorem dX0_putNumber_40 : decode cX0_putNumber 40 = .ok (.iinc 5 1, 3) := by decide +kernel
theorem dX0_putNumber_43 : decode cX0_putNumber 43 = .ok (.goto (-38), 3) := by decide +kernel
theorem dX0_putNumber_46 : decode cX0_putNumber 46 = .ok (.aload_n 0, 1) := by decide +kernel
theorem dX0_putNumber_47 : decode cX0_putNumber 47 = .ok (.lload_n 3, 1) := by decide +kernel
theorem dX0_putNumber_48 : decode cX0_putNumber 48 = .ok (.l2i, 1) := by decide +kernel
theorem dX0_putNumber_49 : decode cX0_putNumber 49 = .ok (.invokevirtual 39, 3) := by decide +kernel
theorem dX0_putNumber_52 : decode cX0_putNumber 52 = .ok (.return_, 1) := by decide +kernel
theorem dX0_readCheck_0 : decode cX0_readCheck 0 = .ok (.aload_n 0, 1) := by decide +kernel
theorem dX0_readCheck_1 : decode cX0_readCheck 1 = .ok (.getfield 95, 3) := by decide +kernel
theorem dX0_readCheck_4 : decode cX0_readCheck 4 = .ok (.aload_n 0, 1) := by decide +kernel
theorem dX0_readCheck_5 : decode cX0_readCheck 5 = .ok (.getfield 98, 3) := by decide +kernel
theorem dX0_readCheck_8 : decode cX0_readCheck 8 = .ok (.isub, 1) := by decide +kernel
theorem dX0_readCheck_9 : decode cX0_readCheck 9 = .ok (.iconst 4, 1) := by decide +kernel
theorem dX0_readCheck_10 : decode cX0_readCheck 10 = .ok (.if_icmp .ge 13, 3) := by decide +kernel
theorem dX0_readCheck_13 : decode cX0_readCheck 13 = .ok (.aload_n 0, 1) := by decide +kernel
theorem dX0_readCheck_14 : decode cX0_readCheck 14 = .ok (.iconst 1, 1) := by decide +kernel
theorem dX0_readCheck_15 : decode cX0_readCheck 15 = .ok (.aload_n 0, 1) := by decide +kernel
theorem dX0_readCheck_16 : decode cX0_readCheck 16 = .ok (.getfield 95, 3) := by decide +kernel
theorem dX0_readCheck_19 : decode cX0_readCheck 19 = .ok (.invokevirtual 130, 3) := by decide +kernel
theorem dX0_readCheck_22 : decode cX0_readCheck 22 = .ok (.ireturn, 1) := by decide +kernel
theorem dX0_readCheck_23 : decode cX0_readCheck 23 = .ok (.aload_n 0, 1) := by decide +kernel
theorem dX0_readCheck_24 : decode cX0_readCheck 24 = .ok (.getfield 26, 3) := by decide +kernel
theorem dX0_readCheck_27 : decode cX0_readCheck 27 = .ok (.aload_n 0, 1) := by decide +kernel
theorem dX0_readCheck_28 : decode cX0_readCheck 28 = .ok (.getfield 92, 3) := by decide +kernel
theorem dX0_readCheck_31 : decode cX0_readCheck 31 = .ok (.aload_n 0, 1) := by decide +kernel
theorem dX0_readCheck_32 : decode cX0_readCheck 32 = .ok (.getfield 98, 3) := by decide +kernel
theorem dX0_readCheck_35 : decode cX0_readCheck 35 = .ok (.invokestatic 85, 3) := by decide +kernel
theorem dX0_readCheck_38 : decode cX0_readCheck 38 = .ok (.istore_n 1, 1) := by decide +kernel
theorem dX0_readCheck_39 : decode cX0_readCheck 39 = .ok (.iconst 0, 1) := by decide +kernel
theorem dX0_readCheck_40 : decode cX0_readCheck 40 = .ok (.istore_n 2, 1) := by decide +kernel
theorem dX0_readCheck_41 : decode cX0_readCheck 41 = .ok (.iload_n 2, 1) := by decide +kernel
theorem dX0_readCheck_42 : decode cX0_readCheck 42 = .ok (.iconst 4, 1) := by decide +kernel
theorem dX0_readCheck_43 : decode cX0_readCheck 43 = .ok (.if_icmp .ge 43, 3) := by decide +kernel
theorem dX0_readCheck_46 : decode cX0_readCheck 46 = .ok (.aload_n 0, 1) := by decide +kernel
theorem dX0_readCheck_47 : decode cX0_readCheck 47 = .ok (.getfield 26, 3) := by decide +kernel
theorem dX0_readCheck_50 : decode cX0_readCheck 50 = .ok (.aload_n 0, 1) := by decide +kernel
theorem dX0_readCheck_51 : decode cX0_readCheck 51 = .ok (.getfield 98, 3) := by decide +kernel
theorem dX0_readCheck_54 : decode cX0_readCheck 54 = .ok (.iload_n 2, 1) := by decide +kernel
theorem dX0_readCheck_55 : decode cX0_readCheck 55 = .ok (.iadd, 1) := by decide +kernel
theorem dX0_readCheck_56 : decode cX0_readCheck 56 = .ok (.iaload, 1) := by decide +kernel
theorem dX0_readCheck_57 : decode cX0_readCheck 57 = .ok (.iload_n 1, 1) := by decide +kernel
theorem dX0_readCheck_58 : decode cX0_readCheck 58 = .ok (.bipush 8, 2) := by decide +kernel
theorem dX0_readCheck_60 : decode cX0_readCheck 60 = .ok (.iload_n 2, 1) := by decide +kernel
theorem dX0_readCheck_61 : decode cX0_readCheck 61 = .ok (.imul, 1) := by decide +kernel
theorem dX0_readCheck_62 : decode cX0_readCheck 62 = .ok (.iushr, 1) := by decide +kernel
theorem dX0_readCheck_63 : decode cX0_readCheck 63 = .ok (.sipush 255, 3) := by decide +kernel
theorem dX0_readCheck_66 : decode cX0_readCheck 66 = .ok (.iand, 1) := by decide +kernel
theorem dX0_readCheck_67 : decode cX0_readCheck 67 = .ok (.if_icmp .eq 13, 3) := by decide +kernel
theorem dX0_readCheck_70 : decode cX0_readCheck 70 = .ok (.aload_n 0, 1) := by decide +kernel
theorem dX0_readCheck_71 : decode cX0_readCheck 71 = .ok (.iconst 5, 1) := by decide +kernel
theorem dX0_readCheck_72 : decode cX0_readCheck 72 = .ok (.aload_n 0, 1) := by decide +kernel
theorem dX0_readCheck_73 : decode cX0_readCheck 73 = .ok (.getfield 98, 3) := by decide +kernel
theorem dX0_readCheck_76 : decode cX0_readCheck 76 = .ok (.invokevirtual 130, 3) := by decide +kernel
theorem dX0_readCheck_79 : decode cX0_readCheck 79 = .ok (.ireturn, 1) := by decide +kernel
theorem dX0_readCheck_80 : decode cX0_readCheck 80 = .ok (.iinc 2 1, 3) := by decide +kernel
theorem dX0_readCheck_83 : decode cX0_readCheck 83 = .ok (.goto (-42), 3) := by decide +kernel
theorem dX0_readCheck_86 : decode cX0_readCheck 86 = .ok (.aload_n 0, 1) := by decide +kernel
theorem dX0_readCheck_87 : decode cX0_readCheck 87 = .ok (.getfield 98, 3) := by decide +kernel
theorem dX0_readCheck_90 : decode cX0_readCheck 90 = .ok (.iconst 4, 1) := by decide +kernel
theorem dX0_readCheck_91 : decode cX0_readCheck 91 = .ok (.iadd, 1) := by decide +kernel
theorem dX0_readCheck_92 : decode cX0_readCheck 92 = .ok (.aload_n 0, 1) := by decide +kernel
theorem dX0_readCheck_93 : decode cX0_readCheck 93 = .ok (.getfield 95, 3) := by decide +kernel
theorem dX0_readCheck_96 : decode cX0_readCheck 96 = .ok (.if_icmp .eq 18, 3) := by decide +kernel
theorem dX0_readCheck_99 : decode cX0_readCheck 99 = .ok (.aload_n 0, 1) := by decide +kernel
theorem dX0_readCheck_100 : decode cX0_readCheck 100 = .ok (.bipush 6, 2) := by decide +kernel
theorem dX0_readCheck_102 : decode cX0_readCheck 102 = .ok (.aload_n 0, 1) := by decide +kernel
theorem dX0_readCheck_103 : decode cX0_readCheck 103 = .ok (.getfield 98, 3) := by decide +kernel
theorem dX0_readCheck_106 : decode cX0_readCheck 106 = .ok (.iconst 4, 1) := by decide +kernel
theorem dX0_readCheck_107 : decode cX0_readCheck 107 = .ok (.iadd, 1) := by decide +kernel
theorem dX0_readCheck_108 : decode cX0_readCheck 108 = .ok (.invokevirtual 130, 3) := by decide +kernel
theorem dX0_readCheck_111 : decode cX0_readCheck 111 = .ok (.ifCond .eq 7, 3) := by decide +kernel
theorem dX0_readCheck_114 : decode cX0_readCheck 114 = .ok (.iconst 1, 1) := by decide +kernel
theorem dX0_readCheck_115 : decode cX0_readCheck 115 = .ok (.goto 4, 3) := by decide +kernel
theorem dX0_readCheck_118 : decode cX0_readCheck 118 = .ok (.iconst 0, 1) := by decide +kernel
theorem dX0_readCheck_119 : decode cX0_readCheck 119 = .ok (.ireturn, 1) := by decide +kernel
theorem dX0_readMarks_0 : decode cX0_readMarks 0 = .ok (.iconst 0, 1) := by decide +kernel
theorem dX0_readMarks_1 : decode cX0_readMarks 1 = .ok (.istore_n 1, 1) := by decide +kernel
theorem dX0_readMarks_2 : decode cX0_readMarks 2 = .ok (.iload_n 1, 1) := by decide +kernel
theorem dX0_readMarks_3 : decode cX0_readMarks 3 = .ok (.iconst 2, 1) := by decide +kernel
theorem dX0_readMarks_4 : decode cX0_readMarks 4 = .ok (.if_icmp .ge 73, 3) := by decide +kernel
theorem dX0_readMarks_7 : decode cX0_readMarks 7 = .ok (.aload_n 0, 1) := by decide +kernel
theorem dX0_readMarks_8 : decode cX0_readMarks 8 = .ok (.getfield 98, 3) := by decide +kernel
theorem dX0_readMarks_11 : decode cX0_readMarks 11 = .ok (.aload_n 0, 1) := by decide +kernel
theorem dX0_readMarks_12 : decode cX0_readMarks 12 = .ok (.getfield 95, 3) := by decide +kernel
theorem dX0_readMarks_15 : decode cX0_readMarks 15 = .ok (.if_icmp .lt 13, 3) := by decide +kernel
theorem dX0_readMarks_18 : decode cX0_readMarks 18 = .ok (.aload_n 0, 1) := by decide +kernel
theorem dX0_readMarks_19 : decode cX0_readMarks 19 = .ok (.iconst 1, 1) := by decide +kernel
theorem dX0_readMarks_20 : decode cX0_readMarks 20 = .ok (.aload_n 0, 1) := by decide +kernel
theorem dX0_readMarks_21 : decode cX0_readMarks 21 = .ok (.getfield 95, 3) := by decide +kernel
theorem dX0_readMarks_24 : decode cX0_readMarks 24 = .ok (.invokevirtual 130, 3) := by decide +kernel
theorem dX0_readMarks_27 : decode cX0_readMarks 27 = .ok (.ireturn, 1) := by decide +kernel
theorem dX0_readMarks_28 : decode cX0_readMarks 28 = .ok (.aload_n 0, 1) := by decide +kernel
theorem dX0_readMarks_29 : decode cX0_readMarks 29 = .ok (.getfield 26, 3) := by decide +kernel
theorem dX0_readMarks_32 : decode cX0_readMarks 32 = .ok (.aload_n 0, 1) := by decide +kernel
theorem dX0_readMarks_33 : decode cX0_readMarks 33 = .ok (.getfield 98, 3) := by decide +kernel
theorem dX0_readMarks_36 : decode cX0_readMarks 36 = .ok (.iaload, 1) := by decide +kernel
theorem dX0_readMarks_37 : decode cX0_readMarks 37 = .ok (.iload_n 1, 1) := by decide +kernel
theorem dX0_readMarks_38 : decode cX0_readMarks 38 = .ok (.ifCond .ne 8, 3) := by decide +kernel
theorem dX0_readMarks_41 : decode cX0_readMarks 41 = .ok (.bipush 72, 2) := by decide +kernel
theorem dX0_readMarks_43 : decode cX0_readMarks 43 = .ok (.goto 5, 3) := by decide +kernel
theorem dX0_readMarks_46 : decode cX0_readMarks 46 = .ok (.bipush 80, 2) := by decide +kernel
theorem dX0_readMarks_48 : decode cX0_readMarks 48 = .ok (.if_icmp .eq 13, 3) := by decide +kernel
theorem dX0_readMarks_51 : decode cX0_readMarks 51 = .ok (.aload_n 0, 1) := by decide +kernel
theorem dX0_readMarks_52 : decode cX0_readMarks 52 = .ok (.iconst 2, 1) := by decide +kernel
theorem dX0_readMarks_53 : decode cX0_readMarks 53 = .ok (.aload_n 0, 1) := by decide +kernel
theorem dX0_readMarks_54 : decode cX0_readMarks 54 = .ok (.getfield 98, 3) := by decide +kernel
theorem dX0_readMarks_57 : decode cX0_readMarks 57 = .ok (.invokevirtual 130, 3) := by decide +kernel
theorem dX0_readMarks_60 : decode cX0_readMarks 60 = .ok (.ireturn, 1) := by decide +kernel
theorem dX0_readMarks_61 : decode cX0_readMarks 61 = .ok (.aload_n 0, 1) := by decide +kernel
theorem dX0_readMarks_62 : decode cX0_readMarks 62 = .ok (.dup, 1) := by decide +kernel
theorem dX0_readMarks_63 : decode cX0_readMarks 63 = .ok (.getfield 98, 3) := by decide +kernel
theorem dX0_readMarks_66 : decode cX0_readMarks 66 = .ok (.iconst 1, 1) := by decide +kernel
theorem dX0_readMarks_67 : decode cX0_readMarks 67 = .ok (.iadd, 1) := by decide +kernel
theorem dX0_readMarks_68 : decode cX0_readMarks 68 = .ok (.putfield 98, 3) := by decide +kernel
theorem dX0_readMarks_71 : decode cX0_readMarks 71 = .ok (.iinc 1 1, 3) := by decide +kernel
theorem dX0_readMarks_74 : decode cX0_readMarks 74 = .ok (.goto (-72), 3) := by decide +kernel
theorem dX0_readMarks_77 : decode cX0_readMarks 77 = .ok (.iconst 1, 1) := by decide +kernel
theorem dX0_readMarks_78 : decode cX0_readMarks 78 = .ok (.ireturn, 1) := by decide +kernel
theorem dX0_readNumber_0 : decode cX0_readNumber 0 = .ok (.aload_n 0, 1) := by decide +kernel
theorem dX0_readNumber_1 : decode cX0_readNumber 1 = .ok (.aload_n 0, 1) := by decide +kernel
theorem dX0_readNumber_2 : decode cX0_readNumber 2 = .ok (.getfield 98, 3) := by decide +kernel
theorem dX0_readNumber_5 : decode cX0_readNumber 5 = .ok (.putfield 134, 3) := by decide +kernel
theorem dX0_readNumber_8 : decode cX0_readNumber 8 = .ok (.lconst 0, 1) := by decide +kernel
theorem dX0_readNumber_9 : decode cX0_readNumber 9 = .ok (.lstore_n 1, 1) := by decide +kernel
theorem dX0_readNumber_10 : decode cX0_readNumber 10 = .ok (.iconst 0, 1) := by decide +kernel
theorem dX0_readNumber_11 : decode cX0_readNumber 11 = .ok (.istore_n 3, 1) := by decide +kernel
theorem dX0_readNumber_12 : decode cX0_readNumber 12 = .ok (.iload_n 3, 1) := by decide +kernel
theorem dX0_readNumber_13 : decode cX0_readNumber 13 = .ok (.bipush 10, 2) := by decide +kernel
theorem dX0_readNumber_15 : decode cX0_readNumber 15 = .ok (.if_icmp .ge 102, 3) := by decide +kernel
theorem dX0_readNumber_18 : decode cX0_readNumber 18 = .ok (.aload_n 0, 1) := by decide +kernel
theorem dX0_readNumber_19 : decode cX0_readNumber 19 = .ok (.getfield 98, 3) := by decide +kernel
theorem dX0_readNumber_22 : decode cX0_readNumber 22 = .ok (.aload_n 0, 1) := by decide +kernel
theorem dX0_readNumber_23 : decode cX0_readNumber 23 = .ok (.getfield 95, 3) := by decide +kernel
theorem dX0_readNumber_26 : decode cX0_readNumber 26 = .ok (.if_icmp .lt 15, 3) := by decide +kernel
theorem dX0_readNumber_29 : decode cX0_readNumber 29 = .ok (.aload_n 0, 1) := by decide +kernel
theorem dX0_readNumber_30 : decode cX0_readNumber 30 = .ok (.iconst 1, 1) := by decide +kernel
theorem dX0_readNumber_31 : decode cX0_readNumber 31 = .ok (.aload_n 0, 1) := by decide +kernel
theorem dX0_readNumber_32 : decode cX0_readNumber 32 = .ok (.getfield 95, 3) := by decide +kernel
theorem dX0_readNumber_35 : decode cX0_readNumber 35 = .ok (.invokevirtual 130, 3) := by decide +kernel
theorem dX0_readNumber_38 : decode cX0_readNumber 38 = .ok (.pop, 1) := by decide +kernel
theorem dX0_readNumber_39 : decode cX0_readNumber 39 = .ok (.lconst 0, 1) := by decide +kernel
theorem dX0_readNumber_40 : decode cX0_readNumber 40 = .ok (.lreturn, 1) := by decide +kernel
theorem dX0_readNumber_41 : decode cX0_readNumber 41 = .ok (.aload_n 0, 1) := by decide +kernel
theorem dX0_readNumber_42 : decode cX0_readNumber 42 = .ok (.getfield 26, 3) := by decide +kernel
theorem dX0_readNumber_45 : decode cX0_readNumber 45 = .ok (.aload_n 0, 1) := by decide +kernel
theorem dX0_readNumber_46 : decode cX0_readNumber 46 = .ok (.getfield 98, 3) := by decide +kernel
theorem dX0_readNumber_49 : decode cX0_readNumber 49 = .ok (.iaload, 1) := by decide +kernel
theorem dX0_readNumber_50 : decode cX0_readNumber 50 = .ok (.istore 4, 2) := by decide +kernel
theorem dX0_readNumber_52 : decode cX0_readNumber 52 = .ok (.aload_n 0, 1) := by decide +kernel
theorem dX0_readNumber_53 : decode cX0_readNumber 53 = .ok (.dup, 1) := by decide +kernel
theorem dX0_readNumber_54 : decode cX0_readNumber 54 = .ok (.getfield 98, 3) := by decide +kernel
theorem dX0_readNumber_57 : decode cX0_readNumber 57 = .ok (.iconst 1, 1) := by decide +kernel
theorem dX0_readNumber_58 : decode cX0_readNumber 58 = .ok (.iadd, 1) := by decide +kernel
theorem dX0_readNumber_59 : decode cX0_readNumber 59 = .ok (.putfield 98, 3) := by decide +kernel
theorem dX0_readNumber_62 : decode cX0_readNumber 62 = .ok (.iload_n 3, 1) := by decide +kernel
theorem dX0_readNumber_63 : decode cX0_readNumber 63 = .ok (.bipush 9, 2) := by decide +kernel
theorem dX0_readNumber_65 : decode cX0_readNumber 65 = .ok (.if_icmp .ne 9, 3) := by decide +kernel
theorem dX0_readNumber_68 : decode cX0_readNumber 68 = .ok (.iload 4, 2) := by decide +kernel
theorem dX0_readNumber_70 : decode cX0_readNumber 70 = .ok (.iconst 1, 1) := by decide +kernel
theorem dX0_readNumber_71 : decode cX0_readNumber 71 = .ok (.if_icmp .gt 46, 3) := by decide +kernel
theorem dX0_readNumber_74 : decode cX0_readNumber 74 = .ok (.iload_n 3, 1) := by decide +kernel
theorem dX0_readNumber_75 : decode cX0_readNumber 75 = .ok (.ifCond .le 11, 3) := by decide +kernel
theorem dX0_readNumber_78 : decode cX0_readNumber 78 = .ok (.iload 4, 2) := by decide +kernel
theorem dX0_readNumber_80 : decode cX0_readNumber 80 = .ok (.ifCond .ne 6, 3) := by decide +kernel
theorem dX0_readNumber_83 : decode cX0_readNumber 83 = .ok (.goto 34, 3) := by decide +kernel
theorem dX0_readNumber_86 : decode cX0_readNumber 86 = .ok (.lload_n 1, 1) := by decide +kernel
theorem dX0_readNumber_87 : decode cX0_readNumber 87 = .ok (.iload 4, 2) := by decide +kernel
theorem dX0_readNumber_89 : decode cX0_readNumber 89 = .ok (.i2l, 1) := by decide +kernel
theorem dX0_readNumber_90 : decode cX0_readNumber 90 = .ok (.ldc2_w 89, 3) := by decide +kernel
theorem dX0_readNumber_93 : decode cX0_readNumber 93 = .ok (.land, 1) := by decide +kernel
theorem dX0_readNumber_94 : decode cX0_readNumber 94 = .ok (.bipush 7, 2) := by decide +kernel
theorem dX0_readNumber_96 : decode cX0_readNumber 96 = .ok (.iload_n 3, 1) := by decide +kernel
theorem dX0_readNumber_97 : decode cX0_readNumber 97 = .ok (.imul, 1) := by decide +kernel
theorem dX0_readNumber_98 : decode cX0_readNumber 98 = .ok (.lshl, 1) := by decide +kernel
theorem dX0_readNumber_99 : decode cX0_readNumber 99 = .ok (.lor, 1) := by decide +kernel
theorem dX0_readNumber_100 : decode cX0_readNumber 100 = .ok (.lstore_n 1, 1) := by decide +kernel
theorem dX0_readNumber_101 : decode cX0_readNumber 101 = .ok (.iload 4, 2) := by decide +kernel
theorem dX0_readNumber_103 : decode cX0_readNumber 103 = .ok (.sipush 128, 3) := by decide +kernel
theorem dX0_readNumber_106 : decode cX0_readNumber 106 = .ok (.if_icmp .ge 5, 3) := by decide +kernel
theorem dX0_readNumber_109 : decode cX0_readNumber 109 = .ok (.lload_n 1, 1) := by decide +kernel
theorem dX0_readNumber_110 : decode cX0_readNumber 110 = .ok (.lreturn, 1) := by decide +kernel
theorem dX0_readNumber_111 : decode cX0_readNumber 111 = .ok (.iinc 3 1, 3) := by decide +kernel
theorem dX0_readNumber_114 : decode cX0_readNumber 114 = .ok (.goto (-102), 3) := by decide +kernel
theorem dX0_readNumber_117 : decode cX0_readNumber 117 = .ok (.aload_n 0, 1) := by decide +kernel
theorem dX0_readNumber_118 : decode cX0_readNumber 118 = .ok (.iconst 3, 1) := by decide +kernel
theorem dX0_readNumber_119 : decode cX0_readNumber 119 = .ok (.aload_n 0, 1) := by decide +kernel
theorem dX0_readNumber_120 : decode cX0_readNumber 120 = .ok (.getfield 134, 3) := by decide +kernel
theorem dX0_readNumber_123 : decode cX0_readNumber 123 = .ok (.invokevirtual 130, 3) := by decide +kernel
theorem dX0_readNumber_126 : decode cX0_readNumber 126 = .ok (.pop, 1) := by decide +kernel
theorem dX0_readNumber_127 : decode cX0_readNumber 127 = .ok (.lconst 0, 1) := by decide +kernel
theorem dX0_readNumber_128 : decode cX0_readNumber 128 = .ok (.lreturn, 1) := by decide +kernel
theorem dX0_readRecord_0 : decode cX0_readRecord 0 = .ok (.iconst 0, 1) := by decide +kernel
theorem dX0_readRecord_1 : decode cX0_readRecord 1 = .ok (.istore_n 3, 1) := by decide +kernel
theorem dX0_readRecord_2 : decode cX0_readRecord 2 = .ok (.iconst 0, 1) := by decide +kernel
theorem dX0_readRecord_3 : decode cX0_readRecord 3 = .ok (.istore 4, 2) := by decide +kernel
theorem dX0_readRecord_5 : decode cX0_readRecord 5 = .ok (.iload 4, 2) := by decide +kernel
theorem dX0_readRecord_7 : decode cX0_readRecord 7 = .ok (.iload_n 1, 1) := by decide +kernel
theorem dX0_readRecord_8 : decode cX0_readRecord 8 = .ok (.if_icmp .ge 20, 3) := by decide +kernel
theorem dX0_readRecord_11 : decode cX0_readRecord 11 = .ok (.iload_n 3, 1) := by decide +kernel
theorem dX0_readRecord_12 : decode cX0_readRecord 12 = .ok (.iconst (-1), 1) := by decide +kernel
theorem dX0_readRecord_13 : decode cX0_readRecord 13 = .ok (.if_icmp .eq 15, 3) := by decide +kernel
theorem dX0_readRecord_16 : decode cX0_readRecord 16 = .ok (.aload_n 0, 1) := by decide +kernel
theorem dX0_readRecord_17 : decode cX0_readRecord 17 = .ok (.iload_n 3, 1) := by decide +kernel
theorem dX0_readRecord_18 : decode cX0_readRecord 18 = .ok (.invokevirtual 212, 3) := by decide +kernel
theorem dX0_readRecord_21 : decode cX0_readRecord 21 = .ok (.istore_n 3, 1) := by decide +kernel
theorem dX0_readRecord_22 : decode cX0_readRecord 22 = .ok (.iinc 4 1, 3) := by decide +kernel
theorem dX0_readRecord_25 : decode cX0_readRecord 25 = .ok (.goto (-20), 3) := by decide +kernel
theorem dX0_readRecord_28 : decode cX0_readRecord 28 = .ok (.iload_n 3, 1) := by decide +kernel
theorem dX0_readRecord_29 : decode cX0_readRecord 29 = .ok (.iconst (-1), 1) := by decide +kernel
theorem dX0_readRecord_30 : decode cX0_readRecord 30 = .ok (.if_icmp .ne 7, 3) := by decide +kernel
theorem dX0_readRecord_33 : decode cX0_readRecord 33 = .ok (.iconst (-1), 1) := by decide +kernel
theorem dX0_readRecord_34 : decode cX0_readRecord 34 = .ok (.goto 8, 3) := by decide +kernel
theorem dX0_readRecord_37 : decode cX0_readRecord 37 = .ok (.aload_n 0, 1) := by decide +kernel
theorem dX0_readRecord_38 : decode cX0_readRecord 38 = .ok (.iload_n 3, 1) := by decide +kernel
theorem dX0_readRecord_39 : decode cX0_readRecord 39 = .ok (.invokevirtual 212, 3) := by decide +kernel
theorem dX0_readRecord_42 : decode cX0_readRecord 42 = .ok (.istore 4, 2) := by decide +kernel
theorem dX0_readRecord_44 : decode cX0_readRecord 44 = .ok (.iload 4, 2) := by decide +kernel
theorem dX0_readRecord_46 : decode cX0_readRecord 46 = .ok (.iconst (-1), 1) := by decide +kernel
theorem dX0_readRecord_47 : decode cX0_readRecord 47 = .ok (.if_icmp .eq 24, 3) := by decide +kernel
theorem dX0_readRecord_50 : decode cX0_readRecord 50 = .ok (.aload_n 0, 1) := by decide +kernel
theorem dX0_readRecord_51 : decode cX0_readRecord 51 = .ok (.aload_n 0, 1) := by decide +kernel
theorem dX0_readRecord_52 : decode cX0_readRecord 52 = .ok (.getfield 23, 3) := by decide +kernel
theorem dX0_readRecord_55 : decode cX0_readRecord 55 = .ok (.iload_n 3, 1) := by decide +kernel
theorem dX0_readRecord_56 : decode cX0_readRecord 56 = .ok (.iconst 2, 1) := by decide +kernel
theorem dX0_readRecord_57 : decode cX0_readRecord 57 = .ok (.iadd, 1) := by decide +kernel
theorem dX0_readRecord_58 : decode cX0_readRecord 58 = .ok (.iload 4, 2) := by decide +kernel
theorem dX0_readRecord_60 : decode cX0_readRecord 60 = .ok (.aload_n 2, 1) := by decide +kernel
theorem dX0_readRecord_61 : decode cX0_readRecord 61 = .ok (.invokevirtual 215, 3) := by decide +kernel
theorem dX0_readRecord_64 : decode cX0_readRecord 64 = .ok (.ifCond .eq 7, 3) := by decide +kernel
theorem dX0_readRecord_67 : decode cX0_readRecord 67 = .ok (.iconst 1, 1) := by decide +kernel
theorem dX0_readRecord_68 : decode cX0_readRecord 68 = .ok (.goto 4, 3) := by decide +kernel
theorem dX0_readRecord_71 : decode cX0_readRecord 71 = .ok (.iconst 0, 1) := by decide +kernel
theorem dX0_readRecord_72 : decode cX0_readRecord 72 = .ok (.ireturn, 1) := by decide +kernel
theorem dX0_readRoots_0 : decode cX0_readRoots 0 = .ok (.aload_n 0, 1) := by decide +kernel
theorem dX0_readRoots_1 : decode cX0_readRoots 1 = .ok (.bipush 108, 2) := by decide +kernel
theorem dX0_readRoots_3 : decode cX0_readRoots 3 = .ok (.invokevirtual 141, 3) := by decide +kernel
theorem dX0_readRoots_6 : decode cX0_readRoots 6 = .ok (.istore_n 2, 1) := by decide +kernel
theorem dX0_readRoots_7 : decode cX0_readRoots 7 = .ok (.iconst (-1), 1) := by decide +kernel
theorem dX0_readRoots_8 : decode cX0_readRoots 8 = .ok (.istore_n 3, 1) := by decide +kernel
theorem dX0_readRoots_9 : decode cX0_readRoots 9 = .ok (.iconst 0, 1) := by decide +kernel
theorem dX0_readRoots_10 : decode cX0_readRoots 10 = .ok (.istore 4, 2) := by decide +kernel
theorem dX0_readRoots_12 : decode cX0_readRoots 12 = .ok (.iload 4, 2) := by decide +kernel
theorem dX0_readRoots_14 : decode cX0_readRoots 14 = .ok (.iload_n 2, 1) := by decide +kernel
theorem dX0_readRoots_15 : decode cX0_readRoots 15 = .ok (.if_icmp .ge 80, 3) := by decide +kernel
theorem dX0_readRoots_18 : decode cX0_readRoots 18 = .ok (.aload_n 0, 1) := by decide +kernel
theorem dX0_readRoots_19 : decode cX0_readRoots 19 = .ok (.bipush 107, 2) := by decide +kernel
theorem dX0_readRoots_21 : decode cX0_readRoots 21 = .ok (.invokevirtual 141, 3) := by decide +kernel
theorem dX0_readRoots_24 : decode cX0_readRoots 24 = .ok (.istore 5, 2) := by decide +kernel
theorem dX0_readRoots_26 : decode cX0_readRoots 26 = .ok (.iload 5, 2) := by decide +kernel
theorem dX0_readRoots_28 : decode cX0_readRoots 28 = .ok (.iconst (-1), 1) := by decide +kernel
theorem dX0_readRoots_29 : decode cX0_readRoots 29 = .ok (.if_icmp .eq 19, 3) := by decide +kernel
theorem dX0_readRoots_32 : decode cX0_readRoots 32 = .ok (.iload 5, 2) := by decide +kernel
theorem dX0_readRoots_34 : decode cX0_readRoots 34 = .ok (.iload_n 3, 1) := by decide +kernel
theorem dX0_readRoots_35 : decode cX0_readRoots 35 = .ok (.if_icmp .gt 13, 3) := by decide +kernel
theorem dX0_readRoots_38 : decode cX0_readRoots 38 = .ok (.aload_n 0, 1) := by decide +kernel
theorem dX0_readRoots_39 : decode cX0_readRoots 39 = .ok (.iconst 4, 1) := by decide +kernel
theorem dX0_readRoots_40 : decode cX0_readRoots 40 = .ok (.aload_n 0, 1) := by decide +kernel
theorem dX0_readRoots_41 : decode cX0_readRoots 41 = .ok (.getfield 134, 3) := by decide +kernel
theorem dX0_readRoots_44 : decode cX0_readRoots 44 = .ok (.invokevirtual 130, 3) := by decide +kernel
theorem dX0_readRoots_47 : decode cX0_readRoots 47 = .ok (.ireturn, 1) := by decide +kernel
theorem dX0_readRoots_48 : decode cX0_readRoots 48 = .ok (.iload 5, 2) := by decide +kernel
theorem dX0_readRoots_50 : decode cX0_readRoots 50 = .ok (.iconst (-1), 1) := by decide +kernel
theorem dX0_readRoots_51 : decode cX0_readRoots 51 = .ok (.if_icmp .ne 7, 3) := by decide +kernel
theorem dX0_readRoots_54 : decode cX0_readRoots 54 = .ok (.iconst (-1), 1) := by decide +kernel
theorem dX0_readRoots_55 : decode cX0_readRoots 55 = .ok (.goto 13, 3) := by decide +kernel
theorem dX0_readRoots_58 : decode cX0_readRoots 58 = .ok (.aload_n 0, 1) := by decide +kernel
theorem dX0_readRoots_59 : decode cX0_readRoots 59 = .ok (.aload_n 1, 1) := by decide +kernel
theorem dX0_readRoots_60 : decode cX0_readRoots 60 = .ok (.getfield 43, 3) := by decide +kernel
theorem dX0_readRoots_63 : decode cX0_readRoots 63 = .ok (.iconst 1, 1) := by decide +kernel
theorem dX0_readRoots_64 : decode cX0_readRoots 64 = .ok (.isub, 1) := by decide +kernel
theorem dX0_readRoots_65 : decode cX0_readRoots 65 = .ok (.invokevirtual 141, 3) := by decide +kernel
theorem dX0_readRoots_68 : decode cX0_readRoots 68 = .ok (.istore 6, 2) := by decide +kernel
theorem dX0_readRoots_70 : decode cX0_readRoots 70 = .ok (.iload 6, 2) := by decide +kernel
theorem dX0_readRoots_72 : decode cX0_readRoots 72 = .ok (.iconst (-1), 1) := by decide +kernel
theorem dX0_readRoots_73 : decode cX0_readRoots 73 = .ok (.if_icmp .ne 5, 3) := by decide +kernel
theorem dX0_readRoots_76 : decode cX0_readRoots 76 = .ok (.iconst 0, 1) := by decide +kernel
theorem dX0_readRoots_77 : decode cX0_readRoots 77 = .ok (.ireturn, 1) := by decide +kernel
theorem dX0_readRoots_78 : decode cX0_readRoots 78 = .ok (.iload 5, 2) := by decide +kernel
theorem dX0_readRoots_80 : decode cX0_readRoots 80 = .ok (.istore_n 3, 1) := by decide +kernel
theorem dX0_readRoots_81 : decode cX0_readRoots 81 = .ok (.aload_n 1, 1) := by decide +kernel
theorem dX0_readRoots_82 : decode cX0_readRoots 82 = .ok (.iload 5, 2) := by decide +kernel
theorem dX0_readRoots_84 : decode cX0_readRoots 84 = .ok (.iload 6, 2) := by decide +kernel
theorem dX0_readRoots_86 : decode cX0_readRoots 86 = .ok (.invokevirtual 189, 3) := by decide +kernel
theorem dX0_readRoots_89 : decode cX0_readRoots 89 = .ok (.iinc 4 1, 3) := by decide +kernel
theorem dX0_readRoots_92 : decode cX0_readRoots 92 = .ok (.goto (-80), 3) := by decide +kernel
theorem dX0_readRoots_95 : decode cX0_readRoots 95 = .ok (.aload_n 0, 1) := by decide +kernel
theorem dX0_readRoots_96 : decode cX0_readRoots 96 = .ok (.getfield 101, 3) := by decide +kernel
theorem dX0_readRoots_99 : decode cX0_readRoots 99 = .ok (.ifCond .ne 7, 3) := by decide +kernel
theorem dX0_readRoots_102 : decode cX0_readRoots 102 = .ok (.iconst 1, 1) := by decide +kernel
theorem dX0_readRoots_103 : decode cX0_readRoots 103 = .ok (.goto 4, 3) := by decide +kernel
theorem dX0_readRoots_106 : decode cX0_readRoots 106 = .ok (.iconst 0, 1) := by decide +kernel
theorem dX0_readRoots_107 : decode cX0_readRoots 107 = .ok (.ireturn, 1) := by decide +kernel
theorem dX0_readSlots_0 : decode cX0_readSlots 0 = .ok (.aload_n 1, 1) := by decide +kernel
theorem dX0_readSlots_1 : decode cX0_readSlots 1 = .ok (.getfield 59, 3) := by decide +kernel
theorem dX0_readSlots_4 : decode cX0_readSlots 4 = .ok (.iload_n 2, 1) := by decide +kernel
theorem dX0_readSlots_5 : decode cX0_readSlots 5 = .ok (.iaload, 1) := by decide +kernel
theorem dX0_readSlots_6 : decode cX0_readSlots 6 = .ok (.istore 4, 2) := by decide +kernel
theorem dX0_readSlots_8 : decode cX0_readSlots 8 = .ok (.iload 4, 2) := by decide +kernel
theorem dX0_readSlots_10 : decode cX0_readSlots 10 = .ok (.aload_n 1, 1) := by decide +kernel
theorem dX0_readSlots_11 : decode cX0_readSlots 11 = .ok (.getfield 59, 3) := by decide +kernel
theorem dX0_readSlots_14 : decode cX0_readSlots 14 = .ok (.iload_n 2, 1) := by decide +kernel
theorem dX0_readSlots_15 : decode cX0_readSlots 15 = .ok (.iconst 1, 1) := by decide +kernel
theorem dX0_readSlots_16 : decode cX0_readSlots 16 = .ok (.iadd, 1) := by decide +kernel
theorem dX0_readSlots_17 : decode cX0_readSlots 17 = .ok (.iaload, 1) := by decide +kernel
theorem dX0_readSlots_18 : decode cX0_readSlots 18 = .ok (.if_icmp .ge 157, 3) := by decide +kernel
theorem dX0_readSlots_21 : decode cX0_readSlots 21 = .ok (.aload_n 0, 1) := by decide +kernel
theorem dX0_readSlots_22 : decode cX0_readSlots 22 = .ok (.getfield 11, 3) := by decide +kernel
theorem dX0_readSlots_25 : decode cX0_readSlots 25 = .ok (.aload_n 1, 1) := by decide +kernel
theorem dX0_readSlots_26 : decode cX0_readSlots 26 = .ok (.getfield 53, 3) := by decide +kernel
theorem dX0_readSlots_29 : decode cX0_readSlots 29 = .ok (.iload_n 2, 1) := by decide +kernel
theorem dX0_readSlots_30 : decode cX0_readSlots 30 = .ok (.iaload, 1) := by decide +kernel
theorem dX0_readSlots_31 : decode cX0_readSlots 31 = .ok (.iload 4, 2) := by decide +kernel
theorem dX0_readSlots_33 : decode cX0_readSlots 33 = .ok (.aload_n 1, 1) := by decide +kernel
theorem dX0_readSlots_34 : decode cX0_readSlots 34 = .ok (.getfield 59, 3) := by decide +kernel
theorem dX0_readSlots_37 : decode cX0_readSlots 37 = .ok (.iload_n 2, 1) := by decide +kernel
theorem dX0_readSlots_38 : decode cX0_readSlots 38 = .ok (.iaload, 1) := by decide +kernel
theorem dX0_readSlots_39 : decode cX0_readSlots 39 = .ok (.isub, 1) := by decide +kernel
theorem dX0_readSlots_40 : decode cX0_readSlots 40 = .ok (.invokevirtual 174, 3) := by decide +kernel
theorem dX0_readSlots_43 : decode cX0_readSlots 43 = .ok (.istore 5, 2) := by decide +kernel
theorem dX0_readSlots_45 : decode cX0_readSlots 45 = .ok (.aload_n 1, 1) := by decide +kernel
theorem dX0_readSlots_46 : decode cX0_readSlots 46 = .ok (.getfield 66, 3) := by decide +kernel
theorem dX0_readSlots_49 : decode cX0_readSlots 49 = .ok (.iload 4, 2) := by decide +kernel
theorem dX0_readSlots_51 : decode cX0_readSlots 51 = .ok (.iload 5, 2) := by decide +kernel
theorem dX0_readSlots_53 : decode cX0_readSlots 53 = .ok (.iconst 5, 1) := by decide +kernel
theorem dX0_readSlots_54 : decode cX0_readSlots 54 = .ok (.if_icmp .ne 7, 3) := by decide +kernel
theorem dX0_readSlots_57 : decode cX0_readSlots 57 = .ok (.iconst 1, 1) := by decide +kernel
theorem dX0_readSlots_58 : decode cX0_readSlots 58 = .ok (.goto 4, 3) := by decide +kernel
theorem dX0_readSlots_61 : decode cX0_readSlots 61 = .ok (.iconst 0, 1) := by decide +kernel
theorem dX0_readSlots_62 : decode cX0_readSlots 62 = .ok (.bastore, 1) := by decide +kernel
theorem dX0_readSlots_63 : decode cX0_readSlots 63 = .ok (.aload_n 1, 1) := by decide +kernel
theorem dX0_readSlots_64 : decode cX0_readSlots 64 = .ok (.getfield 66, 3) := by decide +kernel
theorem dX0_readSlots_67 : decode cX0_readSlots 67 = .ok (.iload 4, 2) := by decide +kernel
theorem dX0_readSlots_69 : decode cX0_readSlots 69 = .ok (.baload, 1) := by decide +kernel
theorem dX0_readSlots_70 : decode cX0_readSlots 70 = .ok (.ifCond .eq 21, 3) := by decide +kernel
theorem dX0_readSlots_73 : decode cX0_readSlots 73 = .ok (.aload_n 1, 1) := by decide +kernel
theorem dX0_readSlots_74 : decode cX0_readSlots 74 = .ok (.getfield 62, 3) := by decide +kernel
theorem dX0_readSlots_77 : decode cX0_readSlots 77 = .ok (.iload 4, 2) := by decide +kernel
theorem dX0_readSlots_79 : decode cX0_readSlots 79 = .ok (.aload_n 0, 1) := by decide +kernel
theorem dX0_readSlots_80 : decode cX0_readSlots 80 = .ok (.iload_n 3, 1) := by decide +kernel
theorem dX0_readSlots_81 : decode cX0_readSlots 81 = .ok (.invokevirtual 141, 3) := by decide +kernel
theorem dX0_readSlots_84 : decode cX0_readSlots 84 = .ok (.iconst 1, 1) := by decide +kernel
theorem dX0_readSlots_85 : decode cX0_readSlots 85 = .ok (.isub, 1) := by decide +kernel
theorem dX0_readSlots_86 : decode cX0_readSlots 86 = .ok (.i2l, 1) := by decide +kernel
theorem dX0_readSlots_87 : decode cX0_readSlots 87 = .ok (.lastore, 1) := by decide +kernel
theorem dX0_readSlots_88 : decode cX0_readSlots 88 = .ok (.goto 26, 3) := by decide +kernel
theorem dX0_readSlots_91 : decode cX0_readSlots 91 = .ok (.aload_n 0, 1) := by decide +kernel
theorem dX0_readSlots_92 : decode cX0_readSlots 92 = .ok (.invokevirtual 137, 3) := by decide +kernel
theorem dX0_readSlots_95 : decode cX0_readSlots 95 = .ok (.lstore 6, 2) := by decide +kernel
theorem dX0_readSlots_97 : decode cX0_readSlots 97 = .ok (.aload_n 1, 1) := by decide +kernel
theorem dX0_readSlots_98 : decode cX0_readSlots 98 = .ok (.getfield 62, 3) := by decide +kernel
theorem dX0_readSlots_101 : decode cX0_readSlots 101 = .ok (.iload 4, 2) := by decide +kernel
theorem dX0_readSlots_103 : decode cX0_readSlots 103 = .ok (.lload 6, 2) := by decide +kernel
theorem dX0_readSlots_105 : decode cX0_readSlots 105 = .ok (.iconst 1, 1) := by decide +kernel
theorem dX0_readSlots_106 : decode cX0_readSlots 106 = .ok (.lushr, 1) := by decide +kernel
theorem dX0_readSlots_107 : decode cX0_readSlots 107 = .ok (.lload 6, 2) := by decide +kernel
theorem dX0_readSlots_109 : decode cX0_readSlots 109 = .ok (.lconst 1, 1) := by decide +kernel
theorem dX0_readSlots_110 : decode cX0_readSlots 110 = .ok (.land, 1) := by decide +kernel
theorem dX0_readSlots_111 : decode cX0_readSlots 111 = .ok (.lneg, 1) := by decide +kernel
theorem dX0_readSlots_112 : decode cX0_readSlots 112 = .ok (.lxor, 1) := by decide +kernel
theorem dX0_readSlots_113 : decode cX0_readSlots 113 = .ok (.lastore, 1) := by decide +kernel
theorem dX0_readSlots_114 : decode cX0_readSlots 114 = .ok (.aload_n 0, 1) := by decide +kernel
theorem dX0_readSlots_115 : decode cX0_readSlots 115 = .ok (.getfield 32, 3) := by decide +kernel
theorem dX0_readSlots_118 : decode cX0_readSlots 118 = .ok (.iload 4, 2) := by decide +kernel
theorem dX0_readSlots_120 : decode cX0_readSlots 120 = .ok (.aload_n 0, 1) := by decide +kernel
theorem dX0_readSlots_121 : decode cX0_readSlots 121 = .ok (.getfield 134, 3) := by decide +kernel
theorem dX0_readSlots_124 : decode cX0_readSlots 124 = .ok (.iastore, 1) := by decide +kernel
theorem dX0_readSlots_125 : decode cX0_readSlots 125 = .ok (.aload_n 0, 1) := by decide +kernel
theorem dX0_readSlots_126 : decode cX0_readSlots 126 = .ok (.getfield 101, 3) := by decide +kernel
theorem dX0_readSlots_129 : decode cX0_readSlots 129 = .ok (.ifCond .eq 5, 3) := by decide +kernel
theorem dX0_readSlots_132 : decode cX0_readSlots 132 = .ok (.iconst 0, 1) := by decide +kernel
theorem dX0_readSlots_133 : decode cX0_readSlots 133 = .ok (.ireturn, 1) := by decide +kernel
theorem dX0_readSlots_134 : decode cX0_readSlots 134 = .ok (.aload_n 1, 1) := by decide +kernel
theorem dX0_readSlots_135 : decode cX0_readSlots 135 = .ok (.getfield 66, 3) := by decide +kernel
theorem dX0_readSlots_138 : decode cX0_readSlots 138 = .ok (.iload 4, 2) := by decide +kernel
theorem dX0_readSlots_140 : decode cX0_readSlots 140 = .ok (.baload, 1) := by decide +kernel
theorem dX0_readSlots_141 : decode cX0_readSlots 141 = .ok (.ifCond .ne 28, 3) := by decide +kernel
theorem dX0_readSlots_144 : decode cX0_readSlots 144 = .ok (.iload 5, 2) := by decide +kernel
theorem dX0_readSlots_146 : decode cX0_readSlots 146 = .ok (.aload_n 1, 1) := by decide +kernel
theorem dX0_readSlots_147 : decode cX0_readSlots 147 = .ok (.getfield 62, 3) := by decide +kernel
theorem dX0_readSlots_150 : decode cX0_readSlots 150 = .ok (.iload 4, 2) := by decide +kernel
theorem dX0_readSlots_152 : decode cX0_readSlots 152 = .ok (.laload, 1) := by decide +kernel
theorem dX0_readSlots_153 : decode cX0_readSlots 153 = .ok (.invokestatic 177, 3) := by decide +kernel
theorem dX0_readSlots_156 : decode cX0_readSlots 156 = .ok (.ifCond .ne 13, 3) := by decide +kernel
theorem dX0_readSlots_159 : decode cX0_readSlots 159 = .ok (.aload_n 0, 1) := by decide +kernel
theorem dX0_readSlots_160 : decode cX0_readSlots 160 = .ok (.iconst 4, 1) := by decide +kernel
theorem dX0_readSlots_161 : decode cX0_readSlots 161 = .ok (.aload_n 0, 1) := by decide +kernel
theorem dX0_readSlots_162 : decode cX0_readSlots 162 = .ok (.getfield 134, 3) := by decide +kernel
theorem dX0_readSlots_165 : decode cX0_readSlots 165 = .ok (.invokevirtual 130, 3) := by decide +kernel
theorem dX0_readSlots_168 : decode cX0_readSlots 168 = .ok (.ireturn, 1) := by decide +kernel
theorem dX0_readSlots_169 : decode cX0_readSlots 169 = .ok (.iinc 4 1, 3) := by decide +kernel
theorem dX0_readSlots_172 : decode cX0_readSlots 172 = .ok (.goto (-164), 3) := by decide +kernel
theorem dX0_readSlots_175 : decode cX0_readSlots 175 = .ok (.iconst 1, 1) := by decide +kernel
theorem dX0_readSlots_176 : decode cX0_readSlots 176 = .ok (.ireturn, 1) := by decide +kernel
theorem dX0_readThing_0 : decode cX0_readThing 0 = .ok (.aload_n 0, 1) := by decide +kernel
theorem dX0_readThing_1 : decode cX0_readThing 1 = .ok (.sipush 399, 3) := by decide +kernel
theorem dX0_readThing_4 : decode cX0_readThing 4 = .ok (.invokevirtual 141, 3) := by decide +kernel
theorem dX0_readThing_7 : decode cX0_readThing 7 = .ok (.istore_n 3, 1) := by decide +kernel
theorem dX0_readThing_8 : decode cX0_readThing 8 = .ok (.aload_n 0, 1) := by decide +kernel
theorem dX0_readThing_9 : decode cX0_readThing 9 = .ok (.getfield 29, 3) := by decide +kernel
theorem dX0_readThing_12 : decode cX0_readThing 12 = .ok (.iload_n 2, 1) := by decide +kernel
theorem dX0_readThing_13 : decode cX0_readThing 13 = .ok (.aload_n 0, 1) := by decide +kernel
theorem dX0_readThing_14 : decode cX0_readThing 14 = .ok (.getfield 134, 3) := by decide +kernel
theorem dX0_readThing_17 : decode cX0_readThing 17 = .ok (.iastore, 1) := by decide +kernel
theorem dX0_readThing_18 : decode cX0_readThing 18 = .ok (.iload_n 3, 1) := by decide +kernel
theorem dX0_readThing_19 : decode cX0_readThing 19 = .ok (.iconst (-1), 1) := by decide +kernel
theorem dX0_readThing_20 : decode cX0_readThing 20 = .ok (.if_icmp .eq 23, 3) := by decide +kernel
theorem dX0_readThing_23 : decode cX0_readThing 23 = .ok (.aload_n 1, 1) := by decide +kernel
theorem dX0_readThing_24 : decode cX0_readThing 24 = .ok (.getfield 155, 3) := by decide +kernel
theorem dX0_readThing_27 : decode cX0_readThing 27 = .ok (.iload_n 3, 1) := by decide +kernel
theorem dX0_readThing_28 : decode cX0_readThing 28 = .ok (.iaload, 1) := by decide +kernel
theorem dX0_readThing_29 : decode cX0_readThing 29 = .ok (.iconst (-1), 1) := by decide +kernel
theorem dX0_readThing_30 : decode cX0_readThing 30 = .ok (.if_icmp .eq 13, 3) := by decide +kernel
theorem dX0_readThing_33 : decode cX0_readThing 33 = .ok (.aload_n 0, 1) := by decide +kernel
theorem dX0_readThing_34 : decode cX0_readThing 34 = .ok (.iconst 4, 1) := by decide +kernel
theorem dX0_readThing_35 : decode cX0_readThing 35 = .ok (.aload_n 0, 1) := by decide +kernel
theorem dX0_readThing_36 : decode cX0_readThing 36 = .ok (.getfield 134, 3) := by decide +kernel
theorem dX0_readThing_39 : decode cX0_readThing 39 = .ok (.invokevirtual 130, 3) := by decide +kernel
theorem dX0_readThing_42 : decode cX0_readThing 42 = .ok (.ireturn, 1) := by decide +kernel
theorem dX0_readThing_43 : decode cX0_readThing 43 = .ok (.iload_n 3, 1) := by decide +kernel
theorem dX0_readThing_44 : decode cX0_readThing 44 = .ok (.iconst (-1), 1) := by decide +kernel
theorem dX0_readThing_45 : decode cX0_readThing 45 = .ok (.if_icmp .ne 7, 3) := by decide +kernel
theorem dX0_readThing_48 : decode cX0_readThing 48 = .ok (.iconst (-1), 1) := by decide +kernel
theorem dX0_readThing_49 : decode cX0_readThing 49 = .ok (.goto 9, 3) := by decide +kernel
theorem dX0_readThing_52 : decode cX0_readThing 52 = .ok (.aload_n 0, 1) := by decide +kernel
theorem dX0_readThing_53 : decode cX0_readThing 53 = .ok (.bipush 45, 2) := by decide +kernel
theorem dX0_readThing_55 : decode cX0_readThing 55 = .ok (.invokevirtual 141, 3) := by decide +kernel
theorem dX0_readThing_58 : decode cX0_readThing 58 = .ok (.istore 4, 2) := by decide +kernel
theorem dX0_readThing_60 : decode cX0_readThing 60 = .ok (.iload 4, 2) := by decide +kernel
theorem dX0_readThing_62 : decode cX0_readThing 62 = .ok (.iconst (-1), 1) := by decide +kernel
theorem dX0_readThing_63 : decode cX0_readThing 63 = .ok (.if_icmp .eq 25, 3) := by decide +kernel
theorem dX0_readThing_66 : decode cX0_readThing 66 = .ok (.aload_n 0, 1) := by decide +kernel
theorem dX0_readThing_67 : decode cX0_readThing 67 = .ok (.getfield 11, 3) := by decide +kernel
theorem dX0_readThing_70 : decode cX0_readThing 70 = .ok (.iload 4, 2) := by decide +kernel
theorem dX0_readThing_72 : decode cX0_readThing 72 = .ok (.invokevirtual 160, 3) := by decide +kernel
theorem dX0_readThing_75 : decode cX0_readThing 75 = .ok (.ifCond .ne 13, 3) := by decide +kernel
theorem dX0_readThing_78 : decode cX0_readThing 78 = .ok (.aload_n 0, 1) := by decide +kernel
theorem dX0_readThing_79 : decode cX0_readThing 79 = .ok (.iconst 4, 1) := by decide +kernel
theorem dX0_readThing_80 : decode cX0_readThing 80 = .ok (.aload_n 0, 1) := by decide +kernel
theorem dX0_readThing_81 : decode cX0_readThing 81 = .ok (.getfield 134, 3) := by decide +kernel
theorem dX0_readThing_84 : decode cX0_readThing 84 = .ok (.invokevirtual 130, 3) := by decide +kernel
theorem dX0_readThing_87 : decode cX0_readThing 87 = .ok (.ireturn, 1) := by decide +kernel
theorem dX0_readThing_88 : decode cX0_readThing 88 = .ok (.iload 4, 2) := by decide +kernel
theorem dX0_readThing_90 : decode cX0_readThing 90 = .ok (.iconst (-1), 1) := by decide +kernel
theorem dX0_readThing_91 : decode cX0_readThing 91 = .ok (.if_icmp .ne 7, 3) := by decide +kernel
theorem dX0_readThing_94 : decode cX0_readThing 94 = .ok (.iconst (-1), 1) := by decide +kernel
theorem dX0_readThing_95 : decode cX0_readThing 95 = .ok (.goto 21, 3) := by decide +kernel
theorem dX0_readThing_98 : decode cX0_readThing 98 = .ok (.aload_n 0, 1) := by decide +kernel
theorem dX0_readThing_99 : decode cX0_readThing 99 = .ok (.iload 4, 2) := by decide +kernel
theorem dX0_readThing_101 : decode cX0_readThing 101 = .ok (.invokestatic 164, 3) := by decide +kernel
theorem dX0_readThing_104 : decode cX0_readThing 104 = .ok (.ifCond .eq 8, 3) := by decide +kernel
theorem dX0_readThing_107 : decode cX0_readThing 107 = .ok (.bipush 60, 2) := by decide +kernel
theorem dX0_readThing_109 : decode cX0_readThing 109 = .ok (.goto 4, 3) := by decide +kernel
theorem dX0_readThing_112 : decode cX0_readThing 112 = .ok (.iconst 0, 1) := by decide +kernel
theorem dX0_readThing_113 : decode cX0_readThing 113 = .ok (.invokevirtual 141, 3) := by decide +kernel
theorem dX0_readThing_116 : decode cX0_readThing 116 = .ok (.istore 5, 2) := by decide +kernel
theorem dX0_readThing_118 : decode cX0_readThing 118 = .ok (.iload 5, 2) := by decide +kernel
theorem dX0_readThing_120 : decode cX0_readThing 120 = .ok (.iconst (-1), 1) := by decide +kernel
theorem dX0_readThing_121 : decode cX0_readThing 121 = .ok (.if_icmp .ne 5, 3) := by decide +kernel
theorem dX0_readThing_124 : decode cX0_readThing 124 = .ok (.iconst 0, 1) := by decide +kernel
theorem dX0_readThing_125 : decode cX0_readThing 125 = .ok (.ireturn, 1) := by decide +kernel
theorem dX0_readThing_126 : decode cX0_readThing 126 = .ok (.aload_n 0, 1) := by decide +kernel
theorem dX0_readThing_127 : decode cX0_readThing 127 = .ok (.getfield 11, 3) := by decide +kernel
theorem dX0_readThing_130 : decode cX0_readThing 130 = .ok (.iload 4, 2) := by decide +kernel
theorem dX0_readThing_132 : decode cX0_readThing 132 = .ok (.iload 5, 2) := by decide +kernel
theorem dX0_readThing_134 : decode cX0_readThing 134 = .ok (.invokevirtual 167, 3) := by decide +kernel
theorem dX0_readThing_137 : decode cX0_readThing 137 = .ok (.istore 6, 2) := by decide +kernel
theorem dX0_readThing_139 : decode cX0_readThing 139 = .ok (.aload_n 1, 1) := by decide +kernel
theorem dX0_readThing_140 : decode cX0_readThing 140 = .ok (.getfield 59, 3) := by decide +kernel
theorem dX0_readThing_143 : decode cX0_readThing 143 = .ok (.iload_n 2, 1) := by decide +kernel
theorem dX0_readThing_144 : decode cX0_readThing 144 = .ok (.iaload, 1) := by decide +kernel
theorem dX0_readThing_145 : decode cX0_readThing 145 = .ok (.iload 6, 2) := by decide +kernel
theorem dX0_readThing_147 : decode cX0_readThing 147 = .ok (.iadd, 1) := by decide +kernel
theorem dX0_readThing_148 : decode cX0_readThing 148 = .ok (.sipush 4000, 3) := by decide +kernel
theorem dX0_readThing_151 : decode cX0_readThing 151 = .ok (.if_icmp .le 13, 3) := by decide +kernel
theorem dX0_readThing_154 : decode cX0_readThing 154 = .ok (.aload_n 0, 1) := by decide +kernel
theorem dX0_readThing_155 : decode cX0_readThing 155 = .ok (.iconst 4, 1) := by decide +kernel
theorem dX0_readThing_156 : decode cX0_readThing 156 = .ok (.aload_n 0, 1) := by decide +kernel
theorem dX0_readThing_157 : decode cX0_readThing 157 = .ok (.getfield 134, 3) := by decide +kernel
theorem dX0_readThing_160 : decode cX0_readThing 160 = .ok (.invokevirtual 130, 3) := by decide +kernel
theorem dX0_readThing_163 : decode cX0_readThing 163 = .ok (.ireturn, 1) := by decide +kernel
theorem dX0_readThing_164 : decode cX0_readThing 164 = .ok (.aload_n 1, 1) := by decide +kernel
theorem dX0_readThing_165 : decode cX0_readThing 165 = .ok (.iload_n 3, 1) := by decide +kernel
theorem dX0_readThing_166 : decode cX0_readThing 166 = .ok (.iload 4, 2) := by decide +kernel
theorem dX0_readThing_168 : decode cX0_readThing 168 = .ok (.iload 5, 2) := by decide +kernel
theorem dX0_readThing_170 : decode cX0_readThing 170 = .ok (.iload 6, 2) := by decide +kernel
theorem dX0_readThing_172 : decode cX0_readThing 172 = .ok (.invokevirtual 170, 3) := by decide +kernel
theorem dX0_readThing_175 : decode cX0_readThing 175 = .ok (.pop, 1) := by decide +kernel
theorem dX0_readThing_176 : decode cX0_readThing 176 = .ok (.iconst 1, 1) := by decide +kernel
theorem dX0_readThing_177 : decode cX0_readThing 177 = .ok (.ireturn, 1) := by decide +kernel
theorem dX0_readThings_0 : decode cX0_readThings 0 = .ok (.aload_n 0, 1) := by decide +kernel
theorem dX0_readThings_1 : decode cX0_readThings 1 = .ok (.sipush 400, 3) := by decide +kernel
theorem dX0_readThings_4 : decode cX0_readThings 4 = .ok (.invokevirtual 141, 3) := by decide +kernel
theorem dX0_readThings_7 : decode cX0_readThings 7 = .ok (.istore_n 2, 1) := by decide +kernel
theorem dX0_readThings_8 : decode cX0_readThings 8 = .ok (.iconst 0, 1) := by decide +kernel
theorem dX0_readThings_9 : decode cX0_readThings 9 = .ok (.istore_n 3, 1) := by decide +kernel
theorem dX0_readThings_10 : decode cX0_readThings 10 = .ok (.iload_n 3, 1) := by decide +kernel
theorem dX0_readThings_11 : decode cX0_readThings 11 = .ok (.iload_n 2, 1) := by decide +kernel
theorem dX0_readThings_12 : decode cX0_readThings 12 = .ok (.if_icmp .ge 30, 3) := by decide +kernel
theorem dX0_readThings_15 : decode cX0_readThings 15 = .ok (.aload_n 0, 1) := by decide +kernel
theorem dX0_readThings_16 : decode cX0_readThings 16 = .ok (.aload_n 1, 1) := by decide +kernel
theorem dX0_readThings_17 : decode cX0_readThings 17 = .ok (.iload_n 3, 1) := by decide +kernel
theorem dX0_readThings_18 : decode cX0_readThings 18 = .ok (.invokevirtual 145, 3) := by decide +kernel
theorem dX0_readThings_21 : decode cX0_readThings 21 = .ok (.ifCond .eq 13, 3) := by decide +kernel
theorem dX0_readThings_24 : decode cX0_readThings 24 = .ok (.aload_n 0, 1) := by decide +kernel
theorem dX0_readThings_25 : decode cX0_readThings 25 = .ok (.aload_n 1, 1) := by decide +kernel
theorem dX0_readThings_26 : decode cX0_readThings 26 = .ok (.iload_n 3, 1) := by decide +kernel
theorem dX0_readThings_27 : decode cX0_readThings 27 = .ok (.iload_n 2, 1) := by decide +kernel
theorem dX0_readThings_28 : decode cX0_readThings 28 = .ok (.invokevirtual 149, 3) := by decide +kernel
theorem dX0_readThings_31 : decode cX0_readThings 31 = .ok (.ifCond .ne 5, 3) := by decide +kernel
theorem dX0_readThings_34 : decode cX0_readThings 34 = .ok (.iconst 0, 1) := by decide +kernel
theorem dX0_readThings_35 : decode cX0_readThings 35 = .ok (.ireturn, 1) := by decide +kernel
theorem dX0_readThings_36 : decode cX0_readThings 36 = .ok (.iinc 3 1, 3) := by decide +kernel
theorem dX0_readThings_39 : decode cX0_readThings 39 = .ok (.goto (-29), 3) := by decide +kernel
theorem dX0_readThings_42 : decode cX0_readThings 42 = .ok (.aload_n 0, 1) := by decide +kernel
theorem dX0_readThings_43 : decode cX0_readThings 43 = .ok (.getfield 101, 3) := by decide +kernel
theorem dX0_readThings_46 : decode cX0_readThings 46 = .ok (.ifCond .ne 7, 3) := by decide +kernel
theorem dX0_readThings_49 : decode cX0_readThings 49 = .ok (.iconst 1, 1) := by decide +kernel
theorem dX0_readThings_50 : decode cX0_readThings 50 = .ok (.goto 4, 3) := by decide +kernel
theorem dX0_readThings_53 : decode cX0_readThings 53 = .ok (.iconst 0, 1) := by decide +kernel
theorem dX0_readThings_54 : decode cX0_readThings 54 = .ok (.ireturn, 1) := by decide +kernel
theorem dX0_readUpTo_0 : decode cX0_readUpTo 0 = .ok (.aload_n 0, 1) := by decide +kernel
theorem dX0_readUpTo_1 : decode cX0_readUpTo 1 = .ok (.invokevirtual 137, 3) := by decide +kernel
theorem dX0_readUpTo_4 : decode cX0_readUpTo 4 = .ok (.lstore_n 2, 1) := by decide +kernel
theorem dX0_readUpTo_5 : decode cX0_readUpTo 5 = .ok (.aload_n 0, 1) := by decide +kernel
theorem dX0_readUpTo_6 : decode cX0_readUpTo 6 = .ok (.getfield 101, 3) := by decide +kernel
theorem dX0_readUpTo_9 : decode cX0_readUpTo 9 = .ok (.ifCond .ne 26, 3) := by decide +kernel
theorem dX0_readUpTo_12 : decode cX0_readUpTo 12 = .ok (.lload_n 2, 1) := by decide +kernel
theorem dX0_readUpTo_13 : decode cX0_readUpTo 13 = .ok (.lconst 0, 1) := by decide +kernel
theorem dX0_readUpTo_14 : decode cX0_readUpTo 14 = .ok (.lcmp, 1) := by decide +kernel
theorem dX0_readUpTo_15 : decode cX0_readUpTo 15 = .ok (.ifCond .lt 10, 3) := by decide +kernel
theorem dX0_readUpTo_18 : decode cX0_readUpTo 18 = .ok (.lload_n 2, 1) := by decide +kernel
theorem dX0_readUpTo_19 : decode cX0_readUpTo 19 = .ok (.iload_n 1, 1) := by decide +kernel
theorem dX0_readUpTo_20 : decode cX0_readUpTo 20 = .ok (.i2l, 1) := by decide +kernel
theorem dX0_readUpTo_21 : decode cX0_readUpTo 21 = .ok (.lcmp, 1) := by decide +kernel
theorem dX0_readUpTo_22 : decode cX0_readUpTo 22 = .ok (.ifCond .le 13, 3) := by decide +kernel
theorem dX0_readUpTo_25 : decode cX0_readUpTo 25 = .ok (.aload_n 0, 1) := by decide +kernel
theorem dX0_readUpTo_26 : decode cX0_readUpTo 26 = .ok (.iconst 4, 1) := by decide +kernel
theorem dX0_readUpTo_27 : decode cX0_readUpTo 27 = .ok (.aload_n 0, 1) := by decide +kernel
theorem dX0_readUpTo_28 : decode cX0_readUpTo 28 = .ok (.getfield 134, 3) := by decide +kernel
theorem dX0_readUpTo_31 : decode cX0_readUpTo 31 = .ok (.invokevirtual 130, 3) := by decide +kernel
theorem dX0_readUpTo_34 : decode cX0_readUpTo 34 = .ok (.pop, 1) := by decide +kernel
theorem dX0_readUpTo_35 : decode cX0_readUpTo 35 = .ok (.aload_n 0, 1) := by decide +kernel
theorem dX0_readUpTo_36 : decode cX0_readUpTo 36 = .ok (.getfield 101, 3) := by decide +kernel
theorem dX0_readUpTo_39 : decode cX0_readUpTo 39 = .ok (.ifCond .ne 8, 3) := by decide +kernel
theorem dX0_readUpTo_42 : decode cX0_readUpTo 42 = .ok (.lload_n 2, 1) := by decide +kernel
theorem dX0_readUpTo_43 : decode cX0_readUpTo 43 = .ok (.l2i, 1) := by decide +kernel
theorem dX0_readUpTo_44 : decode cX0_readUpTo 44 = .ok (.goto 4, 3) := by decide +kernel
theorem dX0_readUpTo_47 : decode cX0_readUpTo 47 = .ok (.iconst (-1), 1) := by decide +kernel
theorem dX0_readUpTo_48 : decode cX0_readUpTo 48 = .ok (.ireturn, 1) := by decide +kernel
theorem dX0_recordEnd_0 : decode cX0_recordEnd 0 = .ok (.iload_n 1, 1) := by decide +kernel
theorem dX0_recordEnd_1 : decode cX0_recordEnd 1 = .ok (.iconst 2, 1) := by decide +kernel
theorem dX0_recordEnd_2 : decode cX0_recordEnd 2 = .ok (.iadd, 1) := by decide +kernel
theorem dX0_recordEnd_3 : decode cX0_recordEnd 3 = .ok (.aload_n 0, 1) := by decide +kernel
theorem dX0_recordEnd_4 : decode cX0_recordEnd 4 = .ok (.getfield 197, 3) := by decide +kernel
theorem dX0_recordEnd_7 : decode cX0_recordEnd 7 = .ok (.if_icmp .le 5, 3) := by decide +kernel
theorem dX0_recordEnd_10 : decode cX0_recordEnd 10 = .ok (.iconst (-1), 1) := by decide +kernel
theorem dX0_recordEnd_11 : decode cX0_recordEnd 11 = .ok (.ireturn, 1) := by decide +kernel
theorem dX0_recordEnd_12 : decode cX0_recordEnd 12 = .ok (.iload_n 1, 1) := by decide +kernel
theorem dX0_recordEnd_13 : decode cX0_recordEnd 13 = .ok (.iconst 2, 1) := by decide +kernel
theorem dX0_recordEnd_14 : decode cX0_recordEnd 14 = .ok (.iadd, 1) := by decide +kernel
theorem dX0_recordEnd_15 : decode cX0_recordEnd 15 = .ok (.aload_n 0, 1) := by decide +kernel
theorem dX0_recordEnd_16 : decode cX0_recordEnd 16 = .ok (.getfield 23, 3) := by decide +kernel
theorem dX0_recordEnd_19 : decode cX0_recordEnd 19 = .ok (.iload_n 1, 1) := by decide +kernel
theorem dX0_recordEnd_20 : decode cX0_recordEnd 20 = .ok (.iaload, 1) := by decide +kernel
theorem dX0_recordEnd_21 : decode cX0_recordEnd 21 = .ok (.iadd, 1) := by decide +kernel
theorem dX0_recordEnd_22 : decode cX0_recordEnd 22 = .ok (.sipush 256, 3) := by decide +kernel
theorem dX0_recordEnd_25 : decode cX0_recordEnd 25 = .ok (.aload_n 0, 1) := by decide +kernel
theorem dX0_recordEnd_26 : decode cX0_recordEnd 26 = .ok (.getfield 23, 3) := by decide +kernel
theorem dX0_recordEnd_29 : decode cX0_recordEnd 29 = .ok (.iload_n 1, 1) := by decide +kernel
theorem dX0_recordEnd_30 : decode cX0_recordEnd 30 = .ok (.iconst 1, 1) := by decide +kernel
theorem dX0_recordEnd_31 : decode cX0_recordEnd 31 = .ok (.iadd, 1) := by decide +kernel
theorem dX0_recordEnd_32 : decode cX0_recordEnd 32 = .ok (.iaload, 1) := by decide +kernel
theorem dX0_recordEnd_33 : decode cX0_recordEnd 33 = .ok (.imul, 1) := by decide +kernel
theorem dX0_recordEnd_34 : decode cX0_recordEnd 34 = .ok (.iadd, 1) := by decide +kernel
theorem dX0_recordEnd_35 : decode cX0_recordEnd 35 = .ok (.istore_n 2, 1) := by decide +kernel
theorem dX0_recordEnd_36 : decode cX0_recordEnd 36 = .ok (.iload_n 2, 1) := by decide +kernel
theorem dX0_recordEnd_37 : decode cX0_recordEnd 37 = .ok (.aload_n 0, 1) := by decide +kernel
theorem dX0_recordEnd_38 : decode cX0_recordEnd 38 = .ok (.getfield 197, 3) := by decide +kernel
theorem dX0_recordEnd_41 : decode cX0_recordEnd 41 = .ok (.if_icmp .gt 7, 3) := by decide +kernel
theorem dX0_recordEnd_44 : decode cX0_recordEnd 44 = .ok (.iload_n 2, 1) := by decide +kernel
theorem dX0_recordEnd_45 : decode cX0_recordEnd 45 = .ok (.goto 4, 3) := by decide +kernel
theorem dX0_recordEnd_48 : decode cX0_recordEnd 48 = .ok (.iconst (-1), 1) := by decide +kernel
theorem dX0_recordEnd_49 : decode cX0_recordEnd 49 = .ok (.ireturn, 1) := by decide +kernel
theorem dX0_reopenAt_0 : decode cX0_reopenAt 0 = .ok (.aload_n 0, 1) := by decide +kernel
theorem dX0_reopenAt_1 : decode cX0_reopenAt 1 = .ok (.iconst 0, 1) := by decide +kernel
theorem dX0_reopenAt_2 : decode cX0_reopenAt 2 = .ok (.iload_n 1, 1) := by decide +kernel
theorem dX0_reopenAt_3 : decode cX0_reopenAt 3 = .ok (.aload_n 0, 1) := by decide +kernel
theorem dX0_reopenAt_4 : decode cX0_reopenAt 4 = .ok (.getfield 197, 3) := by decide +kernel
theorem dX0_reopenAt_7 : decode cX0_reopenAt 7 = .ok (.invokestatic 79, 3) := by decide +kernel
theorem dX0_reopenAt_10 : decode cX0_reopenAt 10 = .ok (.invokestatic 209, 3) := by decide +kernel
theorem dX0_reopenAt_13 : decode cX0_reopenAt 13 = .ok (.putfield 197, 3) := by decide +kernel
theorem dX0_reopenAt_16 : decode cX0_reopenAt 16 = .ok (.aload_n 0, 1) := by decide +kernel
theorem dX0_reopenAt_17 : decode cX0_reopenAt 17 = .ok (.iconst 0, 1) := by decide +kernel
theorem dX0_reopenAt_18 : decode cX0_reopenAt 18 = .ok (.putfield 206, 3) := by decide +kernel
theorem dX0_reopenAt_21 : decode cX0_reopenAt 21 = .ok (.iconst 0, 1) := by decide +kernel
theorem dX0_reopenAt_22 : decode cX0_reopenAt 22 = .ok (.istore_n 3, 1) := by decide +kernel
theorem dX0_reopenAt_23 : decode cX0_reopenAt 23 = .ok (.iconst 0, 1) := by decide +kernel
theorem dX0_reopenAt_24 : decode cX0_reopenAt 24 = .ok (.istore 4, 2) := by decide +kernel
theorem dX0_reopenAt_26 : decode cX0_reopenAt 26 = .ok (.iload 4, 2) := by decide +kernel
theorem dX0_reopenAt_28 : decode cX0_reopenAt 28 = .ok (.sipush 1000, 3) := by decide +kernel
theorem dX0_reopenAt_31 : decode cX0_reopenAt 31 = .ok (.if_icmp .ge 55, 3) := by decide +kernel
theorem dX0_reopenAt_34 : decode cX0_reopenAt 34 = .ok (.aload_n 0, 1) := by decide +kernel
theorem dX0_reopenAt_35 : decode cX0_reopenAt 35 = .ok (.iload_n 3, 1) := by decide +kernel
theorem dX0_reopenAt_36 : decode cX0_reopenAt 36 = .ok (.invokevirtual 212, 3) := by decide +kernel
theorem dX0_reopenAt_39 : decode cX0_reopenAt 39 = .ok (.istore 5, 2) := by decide +kernel
theorem dX0_reopenAt_41 : decode cX0_reopenAt 41 = .ok (.iload 5, 2) := by decide +kernel
theorem dX0_reopenAt_43 : decode cX0_reopenAt 43 = .ok (.iconst (-1), 1) := by decide +kernel
theorem dX0_reopenAt_44 : decode cX0_reopenAt 44 = .ok (.if_icmp .eq 42, 3) := by decide +kernel
theorem dX0_reopenAt_47 : decode cX0_reopenAt 47 = .ok (.aload_n 0, 1) := by decide +kernel
theorem dX0_reopenAt_48 : decode cX0_reopenAt 48 = .ok (.aload_n 0, 1) := by decide +kernel
theorem dX0_reopenAt_49 : decode cX0_reopenAt 49 = .ok (.getfield 23, 3) := by decide +kernel
theorem dX0_reopenAt_52 : decode cX0_reopenAt 52 = .ok (.iload_n 3, 1) := by decide +kernel
theorem dX0_reopenAt_53 : decode cX0_reopenAt 53 = .ok (.iconst 2, 1) := by decide +kernel
theorem dX0_reopenAt_54 : decode cX0_reopenAt 54 = .ok (.iadd, 1) := by decide +kernel
theorem dX0_reopenAt_55 : decode cX0_reopenAt 55 = .ok (.iload 5, 2) := by decide +kernel
theorem dX0_reopenAt_57 : decode cX0_reopenAt 57 = .ok (.aload_n 2, 1) := by decide +kernel
theorem dX0_reopenAt_58 : decode cX0_reopenAt 58 = .ok (.invokevirtual 215, 3) := by decide +kernel
theorem dX0_reopenAt_61 : decode cX0_reopenAt 61 = .ok (.ifCond .ne 6, 3) := by decide +kernel
theorem dX0_reopenAt_64 : decode cX0_reopenAt 64 = .ok (.goto 22, 3) := by decide +kernel
theorem dX0_reopenAt_67 : decode cX0_reopenAt 67 = .ok (.iload 5, 2) := by decide +kernel
theorem dX0_reopenAt_69 : decode cX0_reopenAt 69 = .ok (.istore_n 3, 1) := by decide +kernel
theorem dX0_reopenAt_70 : decode cX0_reopenAt 70 = .ok (.aload_n 0, 1) := by decide +kernel
theorem dX0_reopenAt_71 : decode cX0_reopenAt 71 = .ok (.dup, 1) := by decide +kernel
theorem dX0_reopenAt_72 : decode cX0_reopenAt 72 = .ok (.getfield 206, 3) := by decide +kernel
theorem dX0_reopenAt_75 : decode cX0_reopenAt 75 = .ok (.iconst 1, 1) := by decide +kernel
theorem dX0_reopenAt_76 : decode cX0_reopenAt 76 = .ok (.iadd, 1) := by decide +kernel
theorem dX0_reopenAt_77 : decode cX0_reopenAt 77 = .ok (.putfield 206, 3) := by decide +kernel
theorem dX0_reopenAt_80 : decode cX0_reopenAt 80 = .ok (.iinc 4 1, 3) := by decide +kernel
theorem dX0_reopenAt_83 : decode cX0_reopenAt 83 = .ok (.goto (-57), 3) := by decide +kernel
theorem dX0_reopenAt_86 : decode cX0_reopenAt 86 = .ok (.aload_n 0, 1) := by decide +kernel
theorem dX0_reopenAt_87 : decode cX0_reopenAt 87 = .ok (.iload_n 3, 1) := by decide +kernel
theorem dX0_reopenAt_88 : decode cX0_reopenAt 88 = .ok (.putfield 197, 3) := by decide +kernel
theorem dX0_reopenAt_91 : decode cX0_reopenAt 91 = .ok (.aload_n 0, 1) := by decide +kernel
theorem dX0_reopenAt_92 : decode cX0_reopenAt 92 = .ok (.getfield 206, 3) := by decide +kernel
theorem dX0_reopenAt_95 : decode cX0_reopenAt 95 = .ok (.ireturn, 1) := by decide +kernel
theorem dX10_addClass_0 : decode cX10_addClass 0 = .ok (.aload_n 0, 1) := by decide +kernel
theorem dX10_addClass_1 : decode cX10_addClass 1 = .ok (.getfield 65, 3) := by decide +kernel
theorem dX10_addClass_4 : decode cX10_addClass 4 = .ok (.istore 5, 2) := by decide +kernel
theorem dX10_addClass_6 : decode cX10_addClass 6 = .ok (.aload_n 0, 1) := by decide +kernel
theorem dX10_addClass_7 : decode cX10_addClass 7 = .ok (.dup, 1) := by decide +kernel
theorem dX10_addClass_8 : decode cX10_addClass 8 = .ok (.getfield 65, 3) := by decide +kernel
theorem dX10_addClass_11 : decode cX10_addClass 11 = .ok (.iconst 1, 1) := by decide +kernel
theorem dX10_addClass_12 : decode cX10_addClass 12 = .ok (.iadd, 1) := by decide +kernel
theorem dX10_addClass_13 : decode cX10_addClass 13 = .ok (.putfield 65, 3) := by decide +kernel
theorem dX10_addClass_16 : decode cX10_addClass 16 = .ok (.aload_n 0, 1) := by decide +kernel
theorem dX10_addClass_17 : decode cX10_addClass 17 = .ok (.getfield 11, 3) := by decide +kernel
theorem dX10_addClass_20 : decode cX10_addClass 20 = .ok (.iload 5, 2) := by decide +kernel
theorem dX10_addClass_22 : decode cX10_addClass 22 = .ok (.lload_n 1, 1) := by decide +kernel
theorem dX10_addClass_23 : decode cX10_addClass 23 = .ok (.lastore, 1) := by decide +kernel
theorem dX10_addClass_24 : decode cX10_addClass 24 = .ok (.aload_n 0, 1) := by decide +kernel
theorem dX10_addClass_25 : decode cX10_addClass 25 = .ok (.getfield 19, 3) := by decide +kernel
theorem dX10_addClass_28 : decode cX10_addClass 28 = .ok (.iload 5, 2) := by decide +kernel
theorem dX10_addClass_30 : decode cX10_addClass 30 = .ok (.iload_n 3, 1) := by decide +kernel
theorem dX10_addClass_31 : decode cX10_addClass 31 = .ok (.iastore, 1) := by decide +kernel
theorem dX10_addClass_32 : decode cX10_addClass 32 = .ok (.aload_n 0, 1) := by decide +kernel
theorem dX10_addClass_33 : decode cX10_addClass 33 = .ok (.getfield 15, 3) := by decide +kernel
theorem dX10_addClass_36 : decode cX10_addClass 36 = .ok (.iload 5, 2) := by decide +kernel
theorem dX10_addClass_38 : decode cX10_addClass 38 = .ok (.iload 4, 2) := by decide +kernel
theorem dX10_addClass_40 : decode cX10_addClass 40 = .ok (.iastore, 1) := by decide +kernel
theorem dX10_addClass_41 : decode cX10_addClass 41 = .ok (.aload_n 0, 1) := by decide +kernel
theorem dX10_addClass_42 : decode cX10_addClass 42 = .ok (.getfield 38, 3) := by decide +kernel
theorem dX10_addClass_45 : decode cX10_addClass 45 = .ok (.iload 5, 2) := by decide +kernel
theorem dX10_addClass_47 : decode cX10_addClass 47 = .ok (.bipush 12, 2) := by decide +kernel
theorem dX10_addClass_49 : decode cX10_addClass 49 = .ok (.iastore, 1) := by decide +kernel
theorem dX10_addClass_50 : decode cX10_addClass 50 = .ok (.iload_n 3, 1) := by decide +kernel
theorem dX10_addClass_51 : decode cX10_addClass 51 = .ok (.iconst (-1), 1) := by decide +kernel
theorem dX10_addClass_52 : decode cX10_addClass 52 = .ok (.if_icmp .eq 117, 3) := by decide +kernel
theorem dX10_addClass_55 : decode cX10_addClass 55 = .ok (.aload_n 0, 1) := by decide +kernel
theorem dX10_addClass_56 : decode cX10_addClass 56 = .ok (.getfield 22, 3) := by decide +kernel
theorem dX10_addClass_59 : decode cX10_addClass 59 = .ok (.iload_n 3, 1) := by decide +kernel
theorem dX10_addClass_60 : decode cX10_addClass 60 = .ok (.iconst 1, 1) := by decide +kernel
theorem dX10_addClass_61 : decode cX10_addClass 61 = .ok (.bastore, 1) := by decide +kernel
theorem dX10_addClass_62 : decode cX10_addClass 62 = .ok (.aload_n 0, 1) := by decide +kernel
theorem dX10_addClass_63 : decode cX10_addClass 63 = .ok (.getfield 38, 3) := by decide +kernel
theorem dX10_addClass_66 : decode cX10_addClass 66 = .ok (.iload 5, 2) := by decide +kernel
theorem dX10_addClass_68 : decode cX10_addClass 68 = .ok (.aload_n 0, 1) := by decide +kernel
theorem dX10_addClass_69 : decode cX10_addClass 69 = .ok (.getfield 38, 3) := by decide +kernel
theorem dX10_addClass_72 : decode cX10_addClass 72 = .ok (.iload_n 3, 1) := by decide +kernel
theorem dX10_addClass_73 : decode cX10_addClass 73 = .ok (.iaload, 1) := by decide +kernel
theorem dX10_addClass_74 : decode cX10_addClass 74 = .ok (.iastore, 1) := by decide +kernel
theorem dX10_addClass_75 : decode cX10_addClass 75 = .ok (.aload_n 0, 1) := by decide +kernel
theorem dX10_addClass_76 : decode cX10_addClass 76 = .ok (.getfield 35, 3) := by decide +kernel
theorem dX10_addClass_79 : decode cX10_addClass 79 = .ok (.iload 5, 2) := by decide +kernel
theorem dX10_addClass_81 : decode cX10_addClass 81 = .ok (.aload_n 0, 1) := by decide +kernel
theorem dX10_addClass_82 : decode cX10_addClass 82 = .ok (.getfield 35, 3) := by decide +kernel
theorem dX10_addClass_85 : decode cX10_addClass 85 = .ok (.iload_n 3, 1) := by decide +kernel
theorem dX10_addClass_86 : decode cX10_addClass 86 = .ok (.iaload, 1) := by decide +kernel
theorem dX10_addClass_87 : decode cX10_addClass 87 = .ok (.iastore, 1) := by decide +kernel
theorem dX10_addClass_88 : decode cX10_addClass 88 = .ok (.aload_n 0, 1) := by decide +kernel
theorem dX10_addClass_89 : decode cX10_addClass 89 = .ok (.getfield 56, 3) := by decide +kernel
theorem dX10_addClass_92 : decode cX10_addClass 92 = .ok (.iload_n 3, 1) := by decide +kernel
theorem dX10_addClass_93 : decode cX10_addClass 93 = .ok (.bipush 96, 2) := by decide +kernel
theorem dX10_addClass_95 : decode cX10_addClass 95 = .ok (.imul, 1) := by decide +kernel
theorem dX10_addClass_96 : decode cX10_addClass 96 = .ok (.aload_n 0, 1) := by decide +kernel
theorem dX10_addClass_97 : decode cX10_addClass 97 = .ok (.getfield 56, 3) := by decide +kernel
theorem dX10_addClass_100 : decode cX10_addClass 100 = .ok (.iload 5, 2) := by decide +kernel
theorem dX10_addClass_102 : decode cX10_addClass 102 = .ok (.bipush 96, 2) := by decide +kernel
theorem dX10_addClass_104 : decode cX10_addClass 104 = .ok (.imul, 1) := by decide +kernel
theorem dX10_addClass_105 : decode cX10_addClass 105 = .ok (.aload_n 0, 1) := by decide +kernel
theorem dX10_addClass_106 : decode cX10_addClass 106 = .ok (.getfield 35, 3) := by decide +kernel
theorem dX10_addClass_109 : decode cX10_addClass 109 = .ok (.iload 5, 2) := by decide +kernel
theorem dX10_addClass_111 : decode cX10_addClass 111 = .ok (.iaload, 1) := by decide +kernel
theorem dX10_addClass_112 : decode cX10_addClass 112 = .ok (.invokestatic 73, 3) := by decide +kernel
theorem dX10_addClass_115 : decode cX10_addClass 115 = .ok (.aload_n 0, 1) := by decide +kernel
theorem dX10_addClass_116 : decode cX10_addClass 116 = .ok (.getfield 59, 3) := by decide +kernel
theorem dX10_addClass_119 : decode cX10_addClass 119 = .ok (.iload_n 3, 1) := by decide +kernel
theorem dX10_addClass_120 : decode cX10_addClass 120 = .ok (.bipush 96, 2) := by decide +kernel
theorem dX10_addClass_122 : decode cX10_addClass 122 = .ok (.imul, 1) := by decide +kernel
theorem dX10_addClass_123 : decode cX10_addClass 123 = .ok (.aload_n 0, 1) := by decide +kernel
theorem dX10_addClass_124 : decode cX10_addClass 124 = .ok (.getfield 59, 3) := by decide +kernel
theorem dX10_addClass_127 : decode cX10_addClass 127 = .ok (.iload 5, 2) := by decide +kernel
theorem dX10_addClass_129 : decode cX10_addClass 129 = .ok (.bipush 96, 2) := by decide +kernel
theorem dX10_addClass_131 : decode cX10_addClass 131 = .ok (.imul, 1) := by decide +kernel
theorem dX10_addClass_132 : decode cX10_addClass 132 = .ok (.aload_n 0, 1) := by decide +kernel
theorem dX10_addClass_133 : decode cX10_addClass 133 = .ok (.getfield 35, 3) := by decide +kernel
theorem dX10_addClass_136 : decode cX10_addClass 136 = .ok (.iload 5, 2) := by decide +kernel
theorem dX10_addClass_138 : decode cX10_addClass 138 = .ok (.iaload, 1) := by decide +kernel
theorem dX10_addClass_139 : decode cX10_addClass 139 = .ok (.invokestatic 73, 3) := by decide +kernel
theorem dX10_addClass_142 : decode cX10_addClass 142 = .ok (.aload_n 0, 1) := by decide +kernel
theorem dX10_addClass_143 : decode cX10_addClass 143 = .ok (.getfield 62, 3) := by decide +kernel
theorem dX10_addClass_146 : decode cX10_addClass 146 = .ok (.iload_n 3, 1) := by decide +kernel
theorem dX10_addClass_147 : decode cX10_addClass 147 = .ok (.bipush 96, 2) := by decide +kernel
theorem dX10_addClass_149 : decode cX10_addClass 149 = .ok (.imul, 1) := by decide +kernel
theorem dX10_addClass_150 : decode cX10_addClass 150 = .ok (.aload_n 0, 1) := by decide +kernel
theorem dX10_addClass_151 : decode cX10_addClass 151 = .ok (.getfield 62, 3) := by decide +kernel
theorem dX10_addClass_154 : decode cX10_addClass 154 = .ok (.iload 5, 2) := by decide +kernel
theorem dX10_addClass_156 : decode cX10_addClass 156 = .ok (.bipush 96, 2) := by decide +kernel
theorem dX10_addClass_158 : decode cX10_addClass 158 = .ok (.imul, 1) := by decide +kernel
theorem dX10_addClass_159 : decode cX10_addClass 159 = .ok (.aload_n 0, 1) := by decide +kernel
theorem dX10_addClass_160 : decode cX10_addClass 160 = .ok (.getfield 35, 3) := by decide +kernel
theorem dX10_addClass_163 : decode cX10_addClass 163 = .ok (.iload 5, 2) := by decide +kernel
theorem dX10_addClass_165 : decode cX10_addClass 165 = .ok (.iaload, 1) := by decide +kernel
theorem dX10_addClass_166 : decode cX10_addClass 166 = .ok (.invokestatic 73, 3) := by decide +kernel
theorem dX10_addClass_169 : decode cX10_addClass 169 = .ok (.iload 5, 2) := by decide +kernel
theorem dX10_addClass_171 : decode cX10_addClass 171 = .ok (.ireturn, 1) := by decide +kernel
theorem dX10_addField_0 : decode cX10_addField 0 = .ok (.aload_n 0, 1) := by decide +kernel
theorem dX10_addField_1 : decode cX10_addField 1 = .ok (.getfield 29, 3) := by decide +kernel
theorem dX10_addField_4 : decode cX10_addField 4 = .ok (.iload_n 1, 1) := by decide +kernel
theorem dX10_addField_5 : decode cX10_addField 5 = .ok (.iaload, 1) := by decide +kernel
theorem dX10_addField_6 : decode cX10_addField 6 = .ok (.istore 7, 2) := by decide +kernel
theorem dX10_addField_8 : decode cX10_addField 8 = .ok (.iload_n 1, 1) := by decide +kernel
theorem dX10_addField_9 : decode cX10_addField 9 = .ok (.bipush 6, 2) := by decide +kernel
theorem dX10_addField_11 : decode cX10_addField 11 = .ok (.imul, 1) := by decide +kernel
theorem dX10_addField_12 : decode cX10_addField 12 = .ok (.iload 7, 2) := by decide +kernel
theorem dX10_addField_14 : decode cX10_addField 14 = .ok (.iadd, 1) := by decide +kernel
theorem dX10_addField_15 : decode cX10_addField 15 = .ok (.istore 8, 2) := by decide +kernel
theorem dX10_addField_17 : decode cX10_addField 17 = .ok (.aload_n 0, 1) := by decide +kernel
theorem dX10_addField_18 : decode cX10_addField 18 = .ok (.getfield 29, 3) := by decide +kernel
theorem dX10_addField_21 : decode cX10_addField 21 = .ok (.iload_n 1, 1) := by decide +kernel
theorem dX10_addField_22 : decode cX10_addField 22 = .ok (.dup2, 1) := by decide +kernel
theorem dX10_addField_23 : decode cX10_addField 23 = .ok (.iaload, 1) := by decide +kernel
theorem dX10_addField_24 : decode cX10_addField 24 = .ok (.iconst 1, 1) := by decide +kernel
theorem dX10_addField_25 : decode cX10_addField 25 = .ok (.iadd, 1) := by decide +kernel
theorem dX10_addField_26 : decode cX10_addField 26 = .ok (.iastore, 1) := by decide +kernel
theorem dX10_addField_27 : decode cX10_addField 27 = .ok (.aload_n 0, 1) := by decide +kernel
theorem dX10_addField_28 : decode cX10_addField 28 = .ok (.getfield 41, 3) := by decide +kernel
theorem dX10_addField_31 : decode cX10_addField 31 = .ok (.iload 8, 2) := by decide +kernel
theorem dX10_addField_33 : decode cX10_addField 33 = .ok (.lload_n 2, 1) := by decide +kernel
theorem dX10_addField_34 : decode cX10_addField 34 = .ok (.lastore, 1) := by decide +kernel
theorem dX10_addField_35 : decode cX10_addField 35 = .ok (.aload_n 0, 1) := by decide +kernel
theorem dX10_addField_36 : decode cX10_addField 36 = .ok (.getfield 44, 3) := by decide +kernel
theorem dX10_addField_39 : decode cX10_addField 39 = .ok (.iload 8, 2) := by decide +kernel
theorem dX10_addField_41 : decode cX10_addField 41 = .ok (.iload 4, 2) := by decide +kernel
theorem dX10_addField_43 : decode cX10_addField 43 = .ok (.iastore, 1) := by decide +kernel
theorem dX10_addField_44 : decode cX10_addField 44 = .ok (.aload_n 0, 1) := by decide +kernel
theorem dX10_addField_45 : decode cX10_addField 45 = .ok (.getfield 47, 3) := by decide +kernel
theorem dX10_addField_48 : decode cX10_addField 48 = .ok (.iload 8, 2) := by decide +kernel
theorem dX10_addField_50 : decode cX10_addField 50 = .ok (.iload 5, 2) := by decide +kernel
theorem dX10_addField_52 : decode cX10_addField 52 = .ok (.iastore, 1) := by decide +kernel
theorem dX10_addField_53 : decode cX10_addField 53 = .ok (.aload_n 0, 1) := by decide +kernel
theorem dX10_addField_54 : decode cX10_addField 54 = .ok (.getfield 50, 3) := by decide +kernel
theorem dX10_addField_57 : decode cX10_addField 57 = .ok (.iload 8, 2) := by decide +kernel
theorem dX10_addField_59 : decode cX10_addField 59 = .ok (.iload 6, 2) := by decide +kernel
theorem dX10_addField_61 : decode cX10_addField 61 = .ok (.bastore, 1) := by decide +kernel
theorem dX10_addField_62 : decode cX10_addField 62 = .ok (.iload 6, 2) := by decide +kernel
theorem dX10_addField_64 : decode cX10_addField 64 = .ok (.ifCond .eq 29, 3) := by decide +kernel
theorem dX10_addField_67 : decode cX10_addField 67 = .ok (.aload_n 0, 1) := by decide +kernel
theorem dX10_addField_68 : decode cX10_addField 68 = .ok (.getfield 53, 3) := by decide +kernel
theorem dX10_addField_71 : decode cX10_addField 71 = .ok (.iload 8, 2) := by decide +kernel
theorem dX10_addField_73 : decode cX10_addField 73 = .ok (.aload_n 0, 1) := by decide +kernel
theorem dX10_addField_74 : decode cX10_addField 74 = .ok (.getfield 32, 3) := by decide +kernel
theorem dX10_addField_77 : decode cX10_addField 77 = .ok (.iload_n 1, 1) := by decide +kernel
theorem dX10_addField_78 : decode cX10_addField 78 = .ok (.iaload, 1) := by decide +kernel
theorem dX10_addField_79 : decode cX10_addField 79 = .ok (.iastore, 1) := by decide +kernel
theorem dX10_addField_80 : decode cX10_addField 80 = .ok (.aload_n 0, 1) := by decide +kernel
theorem dX10_addField_81 : decode cX10_addField 81 = .ok (.getfield 32, 3) := by decide +kernel
theorem dX10_addField_84 : decode cX10_addField 84 = .ok (.iload_n 1, 1) := by decide +kernel
theorem dX10_addField_85 : decode cX10_addField 85 = .ok (.dup2, 1) := by decide +kernel
theorem dX10_addField_86 : decode cX10_addField 86 = .ok (.iaload, 1) := by decide +kernel
theorem dX10_addField_87 : decode cX10_addField 87 = .ok (.iconst 1, 1) := by decide +kernel
theorem dX10_addField_88 : decode cX10_addField 88 = .ok (.iadd, 1) := by decide +kernel
theorem dX10_addField_89 : decode cX10_addField 89 = .ok (.iastore, 1) := by decide +kernel
theorem dX10_addField_90 : decode cX10_addField 90 = .ok (.iload 7, 2) := by decide +kernel
theorem dX10_addField_92 : decode cX10_addField 92 = .ok (.ireturn, 1) := by decide +kernel
theorem dX10_addField_93 : decode cX10_addField 93 = .ok (.iload_n 1, 1) := by decide +kernel
theorem dX10_addField_94 : decode cX10_addField 94 = .ok (.bipush 96, 2) := by decide +kernel
theorem dX10_addField_96 : decode cX10_addField 96 = .ok (.imul, 1) := by decide +kernel
theorem dX10_addField_97 : decode cX10_addField 97 = .ok (.aload_n 0, 1) := by decide +kernel
theorem dX10_addField_98 : decode cX10_addField 98 = .ok (.getfield 35, 3) := by decide +kernel
theorem dX10_addField_101 : decode cX10_addField 101 = .ok (.iload_n 1, 1) := by decide +kernel
theorem dX10_addField_102 : decode cX10_addField 102 = .ok (.iaload, 1) := by decide +kernel
theorem dX10_addField_103 : decode cX10_addField 103 = .ok (.iadd, 1) := by decide +kernel
theorem dX10_addField_104 : decode cX10_addField 104 = .ok (.istore 9, 2) := by decide +kernel
theorem dX10_addField_106 : decode cX10_addField 106 = .ok (.aload_n 0, 1) := by decide +kernel
theorem dX10_addField_107 : decode cX10_addField 107 = .ok (.getfield 53, 3) := by decide +kernel
theorem dX10_addField_110 : decode cX10_addField 110 = .ok (.iload 8, 2) := by decide +kernel
theorem dX10_addField_112 : decode cX10_addField 112 = .ok (.aload_n 0, 1) := by decide +kernel
theorem dX10_addField_113 : decode cX10_addField 113 = .ok (.getfield 35, 3) := by decide +kernel
theorem dX10_addField_116 : decode cX10_addField 116 = .ok (.iload_n 1, 1) := by decide +kernel
theorem dX10_addField_117 : decode cX10_addField 117 = .ok (.iaload, 1) := by decide +kernel
theorem dX10_addField_118 : decode cX10_addField 118 = .ok (.iastore, 1) := by decide +kernel
theorem dX10_addField_119 : decode cX10_addField 119 = .ok (.aload_n 0, 1) := by decide +kernel
theorem dX10_addField_120 : decode cX10_addField 120 = .ok (.getfield 35, 3) := by decide +kernel
theorem dX10_addField_123 : decode cX10_addField 123 = .ok (.iload_n 1, 1) := by decide +kernel
theorem dX10_addField_124 : decode cX10_addField 124 = .ok (.dup2, 1) := by decide +kernel
theorem dX10_addField_125 : decode cX10_addField 125 = .ok (.iaload, 1) := by decide +kernel
theorem dX10_addField_126 : decode cX10_addField 126 = .ok (.iconst 1, 1) := by decide +kernel
theorem dX10_addField_127 : decode cX10_addField 127 = .ok (.iadd, 1) := by decide +kernel
theorem dX10_addField_128 : decode cX10_addField 128 = .ok (.iastore, 1) := by decide +kernel
theorem dX10_addField_129 : decode cX10_addField 129 = .ok (.aload_n 0, 1) := by decide +kernel
theorem dX10_addField_130 : decode cX10_addField 130 = .ok (.getfield 56, 3) := by decide +kernel
theorem dX10_addField_133 : decode cX10_addField 133 = .ok (.iload 9, 2) := by decide +kernel
theorem dX10_addField_135 : decode cX10_addField 135 = .ok (.lload_n 2, 1) := by decide +kernel
theorem dX10_addField_136 : decode cX10_addField 136 = .ok (.lastore, 1) := by decide +kernel
theorem dX10_addField_137 : decode cX10_addField 137 = .ok (.aload_n 0, 1) := by decide +kernel
theorem dX10_addField_138 : decode cX10_addField 138 = .ok (.getfield 59, 3) := by decide +kernel
theorem dX10_addField_141 : decode cX10_addField 141 = .ok (.iload 9, 2) := by decide +kernel
theorem dX10_addField_143 : decode cX10_addField 143 = .ok (.iload 4, 2) := by decide +kernel
theorem dX10_addField_145 : decode cX10_addField 145 = .ok (.iastore, 1) := by decide +kernel
theorem dX10_addField_146 : decode cX10_addField 146 = .ok (.aload_n 0, 1) := by decide +kernel
theorem dX10_addField_147 : decode cX10_addField 147 = .ok (.getfield 62, 3) := by decide +kernel
theorem dX10_addField_150 : decode cX10_addField 150 = .ok (.iload 9, 2) := by decide +kernel
theorem dX10_addField_152 : decode cX10_addField 152 = .ok (.iload 5, 2) := by decide +kernel
theorem dX10_addField_154 : decode cX10_addField 154 = .ok (.iastore, 1) := by decide +kernel
theorem dX10_addField_155 : decode cX10_addField 155 = .ok (.aload_n 0, 1) := by decide +kernel
theorem dX10_addField_156 : decode cX10_addField 156 = .ok (.getfield 38, 3) := by decide +kernel
theorem dX10_addField_159 : decode cX10_addField 159 = .ok (.iload_n 1, 1) := by decide +kernel
theorem dX10_addField_160 : decode cX10_addField 160 = .ok (.aload_n 0, 1) := by decide +kernel
theorem dX10_addField_161 : decode cX10_addField 161 = .ok (.iload_n 1, 1) := by decide +kernel
theorem dX10_addField_162 : decode cX10_addField 162 = .ok (.iconst (-1), 1) := by decide +kernel
theorem dX10_addField_163 : decode cX10_addField 163 = .ok (.invokevirtual 79, 3) := by decide +kernel
theorem dX10_addField_166 : decode cX10_addField 166 = .ok (.iastore, 1) := by decide +kernel
theorem dX10_addField_167 : decode cX10_addField 167 = .ok (.iload 7, 2) := by decide +kernel
theorem dX10_addField_169 : decode cX10_addField 169 = .ok (.ireturn, 1) := by decide +kernel
theorem dX10_firstByte_0 : decode cX10_firstByte 0 = .ok (.aload_n 0, 1) := by decide +kernel
theorem dX10_firstByte_1 : decode cX10_firstByte 1 = .ok (.getfield 19, 3) := by decide +kernel
theorem dX10_firstByte_4 : decode cX10_firstByte 4 = .ok (.iload_n 1, 1) := by decide +kernel
theorem dX10_firstByte_5 : decode cX10_firstByte 5 = .ok (.iaload, 1) := by decide +kernel
theorem dX10_firstByte_6 : decode cX10_firstByte 6 = .ok (.iconst (-1), 1) := by decide +kernel
theorem dX10_firstByte_7 : decode cX10_firstByte 7 = .ok (.if_icmp .ne 8, 3) := by decide +kernel
theorem dX10_firstByte_10 : decode cX10_firstByte 10 = .ok (.bipush 12, 2) := by decide +kernel
theorem dX10_firstByte_12 : decode cX10_firstByte 12 = .ok (.goto 14, 3) := by decide +kernel
theorem dX10_firstByte_15 : decode cX10_firstByte 15 = .ok (.aload_n 0, 1) := by decide +kernel
theorem dX10_firstByte_16 : decode cX10_firstByte 16 = .ok (.getfield 38, 3) := by decide +kernel
theorem dX10_firstByte_19 : decode cX10_firstByte 19 = .ok (.aload_n 0, 1) := by decide +kernel
theorem dX10_firstByte_20 : decode cX10_firstByte 20 = .ok (.getfield 19, 3) := by decide +kernel
theorem dX10_firstByte_23 : decode cX10_firstByte 23 = .ok (.iload_n 1, 1) := by decide +kernel
theorem dX10_firstByte_24 : decode cX10_firstByte 24 = .ok (.iaload, 1) := by decide +kernel
theorem dX10_firstByte_25 : decode cX10_firstByte 25 = .ok (.iaload, 1) := by decide +kernel
theorem dX10_firstByte_26 : decode cX10_firstByte 26 = .ok (.istore_n 3, 1) := by decide +kernel
theorem dX10_firstByte_27 : decode cX10_firstByte 27 = .ok (.bipush 8, 2) := by decide +kernel
theorem dX10_firstByte_29 : decode cX10_firstByte 29 = .ok (.istore 4, 2) := by decide +kernel
theorem dX10_firstByte_31 : decode cX10_firstByte 31 = .ok (.iload 4, 2) := by decide +kernel
theorem dX10_firstByte_33 : decode cX10_firstByte 33 = .ok (.iconst 1, 1) := by decide +kernel
theorem dX10_firstByte_34 : decode cX10_firstByte 34 = .ok (.if_icmp .lt 99, 3) := by decide +kernel
theorem dX10_firstByte_37 : decode cX10_firstByte 37 = .ok (.iconst 0, 1) := by decide +kernel
theorem dX10_firstByte_38 : decode cX10_firstByte 38 = .ok (.istore 5, 2) := by decide +kernel
theorem dX10_firstByte_40 : decode cX10_firstByte 40 = .ok (.iload 5, 2) := by decide +kernel
theorem dX10_firstByte_42 : decode cX10_firstByte 42 = .ok (.aload_n 0, 1) := by decide +kernel
theorem dX10_firstByte_43 : decode cX10_firstByte 43 = .ok (.getfield 29, 3) := by decide +kernel
theorem dX10_firstByte_46 : decode cX10_firstByte 46 = .ok (.iload_n 1, 1) := by decide +kernel
theorem dX10_firstByte_47 : decode cX10_firstByte 47 = .ok (.iaload, 1) := by decide +kernel
theorem dX10_firstByte_48 : decode cX10_firstByte 48 = .ok (.if_icmp .ge 76, 3) := by decide +kernel
theorem dX10_firstByte_51 : decode cX10_firstByte 51 = .ok (.iload_n 1, 1) := by decide +kernel
theorem dX10_firstByte_52 : decode cX10_firstByte 52 = .ok (.bipush 6, 2) := by decide +kernel
theorem dX10_firstByte_54 : decode cX10_firstByte 54 = .ok (.imul, 1) := by decide +kernel
theorem dX10_firstByte_55 : decode cX10_firstByte 55 = .ok (.iload 5, 2) := by decide +kernel
theorem dX10_firstByte_57 : decode cX10_firstByte 57 = .ok (.iadd, 1) := by decide +kernel
theorem dX10_firstByte_58 : decode cX10_firstByte 58 = .ok (.istore 6, 2) := by decide +kernel
theorem dX10_firstByte_60 : decode cX10_firstByte 60 = .ok (.aload_n 0, 1) := by decide +kernel
theorem dX10_firstByte_61 : decode cX10_firstByte 61 = .ok (.getfield 50, 3) := by decide +kernel
theorem dX10_firstByte_64 : decode cX10_firstByte 64 = .ok (.iload 6, 2) := by decide +kernel
theorem dX10_firstByte_66 : decode cX10_firstByte 66 = .ok (.baload, 1) := by decide +kernel
theorem dX10_firstByte_67 : decode cX10_firstByte 67 = .ok (.ifCond .ne 51, 3) := by decide +kernel
theorem dX10_firstByte_70 : decode cX10_firstByte 70 = .ok (.getstatic 83, 3) := by decide +kernel
theorem dX10_firstByte_73 : decode cX10_firstByte 73 = .ok (.aload_n 0, 1) := by decide +kernel
theorem dX10_firstByte_74 : decode cX10_firstByte 74 = .ok (.getfield 44, 3) := by decide +kernel
theorem dX10_firstByte_77 : decode cX10_firstByte 77 = .ok (.iload 6, 2) := by decide +kernel
theorem dX10_firstByte_79 : decode cX10_firstByte 79 = .ok (.iaload, 1) := by decide +kernel
theorem dX10_firstByte_80 : decode cX10_firstByte 80 = .ok (.iaload, 1) := by decide +kernel
theorem dX10_firstByte_81 : decode cX10_firstByte 81 = .ok (.iload 4, 2) := by decide +kernel
theorem dX10_firstByte_83 : decode cX10_firstByte 83 = .ok (.if_icmp .eq 6, 3) := by decide +kernel
theorem dX10_firstByte_86 : decode cX10_firstByte 86 = .ok (.goto 32, 3) := by decide +kernel
theorem dX10_firstByte_89 : decode cX10_firstByte 89 = .ok (.iload_n 3, 1) := by decide +kernel
theorem dX10_firstByte_90 : decode cX10_firstByte 90 = .ok (.iload 4, 2) := by decide +kernel
theorem dX10_firstByte_92 : decode cX10_firstByte 92 = .ok (.iadd, 1) := by decide +kernel
theorem dX10_firstByte_93 : decode cX10_firstByte 93 = .ok (.iconst 1, 1) := by decide +kernel
theorem dX10_firstByte_94 : decode cX10_firstByte 94 = .ok (.isub, 1) := by decide +kernel
theorem dX10_firstByte_95 : decode cX10_firstByte 95 = .ok (.iload 4, 2) := by decide +kernel
theorem dX10_firstByte_97 : decode cX10_firstByte 97 = .ok (.idiv, 1) := by decide +kernel
theorem dX10_firstByte_98 : decode cX10_firstByte 98 = .ok (.iload 4, 2) := by decide +kernel
theorem dX10_firstByte_100 : decode cX10_firstByte 100 = .ok (.imul, 1) := by decide +kernel
theorem dX10_firstByte_101 : decode cX10_firstByte 101 = .ok (.istore 7, 2) := by decide +kernel
theorem dX10_firstByte_103 : decode cX10_firstByte 103 = .ok (.iload 5, 2) := by decide +kernel
theorem dX10_firstByte_105 : decode cX10_firstByte 105 = .ok (.iload_n 2, 1) := by decide +kernel
theorem dX10_firstByte_106 : decode cX10_firstByte 106 = .ok (.if_icmp .ne 6, 3) := by decide +kernel
theorem dX10_firstByte_109 : decode cX10_firstByte 109 = .ok (.iload 7, 2) := by decide +kernel
theorem dX10_firstByte_111 : decode cX10_firstByte 111 = .ok (.ireturn, 1) := by decide +kernel
theorem dX10_firstByte_112 : decode cX10_firstByte 112 = .ok (.iload 7, 2) := by decide +kernel
theorem dX10_firstByte_114 : decode cX10_firstByte 114 = .ok (.iload 4, 2) := by decide +kernel
theorem dX10_firstByte_116 : decode cX10_firstByte 116 = .ok (.iadd, 1) := by decide +kernel
theorem dX10_firstByte_117 : decode cX10_firstByte 117 = .ok (.istore_n 3, 1) := by decide +kernel
theorem dX10_firstByte_118 : decode cX10_firstByte 118 = .ok (.iinc 5 1, 3) := by decide +kernel
theorem dX10_firstByte_121 : decode cX10_firstByte 121 = .ok (.goto (-81), 3) := by decide +kernel
theorem dX10_firstByte_124 : decode cX10_firstByte 124 = .ok (.iload 4, 2) := by decide +kernel
theorem dX10_firstByte_126 : decode cX10_firstByte 126 = .ok (.iconst 2, 1) := by decide +kernel
theorem dX10_firstByte_127 : decode cX10_firstByte 127 = .ok (.idiv, 1) := by decide +kernel
theorem dX10_firstByte_128 : decode cX10_firstByte 128 = .ok (.istore 4, 2) := by decide +kernel
theorem dX10_firstByte_130 : decode cX10_firstByte 130 = .ok (.goto (-99), 3) := by decide +kernel
theorem dX10_firstByte_133 : decode cX10_firstByte 133 = .ok (.iload_n 3, 1) := by decide +kernel
theorem dX10_firstByte_134 : decode cX10_firstByte 134 = .ok (.ireturn, 1) := by decide +kernel
theorem dX10_firstValue_0 : decode cX10_firstValue 0 = .ok (.iload_n 0, 1) := by decide +kernel
theorem dX10_firstValue_1 : decode cX10_firstValue 1 = .ok (.iconst 5, 1) := by decide +kernel
theorem dX10_firstValue_2 : decode cX10_firstValue 2 = .ok (.if_icmp .ne 9, 3) := by decide +kernel
theorem dX10_firstValue_5 : decode cX10_firstValue 5 = .ok (.ldc2_w 96, 3) := by decide +kernel
theorem dX10_firstValue_8 : decode cX10_firstValue 8 = .ok (.goto 4, 3) := by decide +kernel
theorem dX10_firstValue_11 : decode cX10_firstValue 11 = .ok (.lconst 0, 1) := by decide +kernel
theorem dX10_firstValue_12 : decode cX10_firstValue 12 = .ok (.lreturn, 1) := by decide +kernel
theorem dX10_fits_0 : decode cX10_fits 0 = .ok (.iload_n 2, 1) := by decide +kernel
theorem dX10_fits_1 : decode cX10_fits 1 = .ok (.iconst (-1), 1) := by decide +kernel
theorem dX10_fits_2 : decode cX10_fits 2 = .ok (.if_icmp .eq 8, 3) := by decide +kernel
theorem dX10_fits_5 : decode cX10_fits 5 = .ok (.iload_n 2, 1) := by decide +kernel
theorem dX10_fits_6 : decode cX10_fits 6 = .ok (.iload_n 1, 1) := by decide +kernel
theorem dX10_fits_7 : decode cX10_fits 7 = .ok (.if_icmp .ne 5, 3) := by decide +kernel
theorem dX10_fits_10 : decode cX10_fits 10 = .ok (.iconst 1, 1) := by decide +kernel
theorem dX10_fits_11 : decode cX10_fits 11 = .ok (.ireturn, 1) := by decide +kernel
theorem dX10_fits_12 : decode cX10_fits 12 = .ok (.iload_n 1, 1) := by decide +kernel
theorem dX10_fits_13 : decode cX10_fits 13 = .ok (.invokestatic 86, 3) := by decide +kernel
theorem dX10_fits_16 : decode cX10_fits 16 = .ok (.ifCond .ne 25, 3) := by decide +kernel
theorem dX10_fits_19 : decode cX10_fits 19 = .ok (.iload_n 2, 1) := by decide +kernel
theorem dX10_fits_20 : decode cX10_fits 20 = .ok (.invokestatic 86, 3) := by decide +kernel
theorem dX10_fits_23 : decode cX10_fits 23 = .ok (.ifCond .ne 16, 3) := by decide +kernel
theorem dX10_fits_26 : decode cX10_fits 26 = .ok (.aload_n 0, 1) := by decide +kernel
theorem dX10_fits_27 : decode cX10_fits 27 = .ok (.iload_n 1, 1) := by decide +kernel
theorem dX10_fits_28 : decode cX10_fits 28 = .ok (.iload_n 2, 1) := by decide +kernel
theorem dX10_fits_29 : decode cX10_fits 29 = .ok (.invokevirtual 92, 3) := by decide +kernel
theorem dX10_fits_32 : decode cX10_fits 32 = .ok (.ifCond .eq 7, 3) := by decide +kernel
theorem dX10_fits_35 : decode cX10_fits 35 = .ok (.iconst 1, 1) := by decide +kernel
theorem dX10_fits_36 : decode cX10_fits 36 = .ok (.goto 4, 3) := by decide +kernel
theorem dX10_fits_39 : decode cX10_fits 39 = .ok (.iconst 0, 1) := by decide +kernel
theorem dX10_fits_40 : decode cX10_fits 40 = .ok (.ireturn, 1) := by decide +kernel
theorem dX10_fits_41 : decode cX10_fits 41 = .ok (.iload_n 1, 1) := by decide +kernel
theorem dX10_fits_42 : decode cX10_fits 42 = .ok (.bipush 30, 2) := by decide +kernel
theorem dX10_fits_44 : decode cX10_fits 44 = .ok (.if_icmp .ge 5, 3) := by decide +kernel
theorem dX10_fits_47 : decode cX10_fits 47 = .ok (.iconst 0, 1) := by decide +kernel
theorem dX10_fits_48 : decode cX10_fits 48 = .ok (.ireturn, 1) := by decide +kernel
theorem dX10_fits_49 : decode cX10_fits 49 = .ok (.iload_n 2, 1) := by decide +kernel
theorem dX10_fits_50 : decode cX10_fits 50 = .ok (.bipush 29, 2) := by decide +kernel
theorem dX10_fits_52 : decode cX10_fits 52 = .ok (.if_icmp .eq 24, 3) := by decide +kernel
theorem dX10_fits_55 : decode cX10_fits 55 = .ok (.iload_n 2, 1) := by decide +kernel
theorem dX10_fits_56 : decode cX10_fits 56 = .ok (.bipush 30, 2) := by decide +kernel
theorem dX10_fits_58 : decode cX10_fits 58 = .ok (.if_icmp .lt 22, 3) := by decide +kernel
theorem dX10_fits_61 : decode cX10_fits 61 = .ok (.aload_n 0, 1) := by decide +kernel
theorem dX10_fits_62 : decode cX10_fits 62 = .ok (.iload_n 1, 1) := by decide +kernel
theorem dX10_fits_63 : decode cX10_fits 63 = .ok (.bipush 30, 2) := by decide +kernel
theorem dX10_fits_65 : decode cX10_fits 65 = .ok (.isub, 1) := by decide +kernel
theorem dX10_fits_66 : decode cX10_fits 66 = .ok (.iload_n 2, 1) := by decide +kernel
theorem dX10_fits_67 : decode cX10_fits 67 = .ok (.bipush 30, 2) := by decide +kernel
theorem dX10_fits_69 : decode cX10_fits 69 = .ok (.isub, 1) := by decide +kernel
theorem dX10_fits_70 : decode cX10_fits 70 = .ok (.invokevirtual 92, 3) := by decide +kernel
theorem dX10_fits_73 : decode cX10_fits 73 = .ok (.ifCond .eq 7, 3) := by decide +kernel
theorem dX10_fits_76 : decode cX10_fits 76 = .ok (.iconst 1, 1) := by decide +kernel
theorem dX10_fits_77 : decode cX10_fits 77 = .ok (.goto 4, 3) := by decide +kernel
theorem dX10_fits_80 : decode cX10_fits 80 = .ok (.iconst 0, 1) := by decide +kernel
theorem dX10_fits_81 : decode cX10_fits 81 = .ok (.ireturn, 1) := by decide +kernel
theorem dX10_hasField_0 : decode cX10_hasField 0 = .ok (.aload_n 0, 1) := by decide +kernel
theorem dX10_hasField_1 : decode cX10_hasField 1 = .ok (.iload_n 1, 1) := by decide +kernel
theorem dX10_hasField_2 : decode cX10_hasField 2 = .ok (.invokevirtual 69, 3) := by decide +kernel
theorem dX10_hasField_5 : decode cX10_hasField 5 = .ok (.ifCond .eq 21, 3) := by decide +kernel
theorem dX10_hasField_8 : decode cX10_hasField 8 = .ok (.iload_n 2, 1) := by decide +kernel
theorem dX10_hasField_9 : decode cX10_hasField 9 = .ok (.ifCond .lt 17, 3) := by decide +kernel
theorem dX10_hasField_12 : decode cX10_hasField 12 = .ok (.iload_n 2, 1) := by decide +kernel
theorem dX10_hasField_13 : decode cX10_hasField 13 = .ok (.aload_n 0, 1) := by decide +kernel
theorem dX10_hasField_14 : decode cX10_hasField 14 = .ok (.getfield 29, 3) := by decide +kernel
theorem dX10_hasField_17 : decode cX10_hasField 17 = .ok (.iload_n 1, 1) := by decide +kernel
theorem dX10_hasField_18 : decode cX10_hasField 18 = .ok (.iaload, 1) := by decide +kernel
theorem dX10_hasField_19 : decode cX10_hasField 19 = .ok (.if_icmp .ge 7, 3) := by decide +kernel
theorem dX10_hasField_22 : decode cX10_hasField 22 = .ok (.iconst 1, 1) := by decide +kernel
theorem dX10_hasField_23 : decode cX10_hasField 23 = .ok (.goto 4, 3) := by decide +kernel
theorem dX10_hasField_26 : decode cX10_hasField 26 = .ok (.iconst 0, 1) := by decide +kernel
theorem dX10_hasField_27 : decode cX10_hasField 27 = .ok (.ireturn, 1) := by decide +kernel
theorem dX10_hasFieldNamed_0 : decode cX10_hasFieldNamed 0 = .ok (.iconst 0, 1) := by decide +kernel
theorem dX10_hasFieldNamed_1 : decode cX10_hasFieldNamed 1 = .ok (.istore 4, 2) := by decide +kernel
theorem dX10_hasFieldNamed_3 : decode cX10_hasFieldNamed 3 = .ok (.iload 4, 2) := by decide +kernel
theorem dX10_hasFieldNamed_5 : decode cX10_hasFieldNamed 5 = .ok (.aload_n 0, 1) := by decide +kernel
theorem dX10_hasFieldNamed_6 : decode cX10_hasFieldNamed 6 = .ok (.getfield 29, 3) := by decide +kernel
theorem dX10_hasFieldNamed_9 : decode cX10_hasFieldNamed 9 = .ok (.iload_n 1, 1) := by decide +kernel
theorem dX10_hasFieldNamed_10 : decode cX10_hasFieldNamed 10 = .ok (.iaload, 1) := by decide +kernel
theorem dX10_hasFieldNamed_11 : decode cX10_hasFieldNamed 11 = .ok (.if_icmp .ge 28, 3) := by decide +kernel
theorem dX10_hasFieldNamed_14 : decode cX10_hasFieldNamed 14 = .ok (.aload_n 0, 1) := by decide +kernel
theorem dX10_hasFieldNamed_15 : decode cX10_hasFieldNamed 15 = .ok (.getfield 41, 3) := by decide +kernel
theorem dX10_hasFieldNamed_18 : decode cX10_hasFieldNamed 18 = .ok (.iload_n 1, 1) := by decide +kernel
theorem dX10_hasFieldNamed_19 : decode cX10_hasFieldNamed 19 = .ok (.bipush 6, 2) := by decide +kernel
theorem dX10_hasFieldNamed_21 : decode cX10_hasFieldNamed 21 = .ok (.imul, 1) := by decide +kernel
theorem dX10_hasFieldNamed_22 : decode cX10_hasFieldNamed 22 = .ok (.iload 4, 2) := by decide +kernel
theorem dX10_hasFieldNamed_24 : decode cX10_hasFieldNamed 24 = .ok (.iadd, 1) := by decide +kernel
theorem dX10_hasFieldNamed_25 : decode cX10_hasFieldNamed 25 = .ok (.laload, 1) := by decide +kernel
theorem dX10_hasFieldNamed_26 : decode cX10_hasFieldNamed 26 = .ok (.lload_n 2, 1) := by decide +kernel
theorem dX10_hasFieldNamed_27 : decode cX10_hasFieldNamed 27 = .ok (.lcmp, 1) := by decide +kernel
theorem dX10_hasFieldNamed_28 : decode cX10_hasFieldNamed 28 = .ok (.ifCond .ne 5, 3) := by decide +kernel
theorem dX10_hasFieldNamed_31 : decode cX10_hasFieldNamed 31 = .ok (.iconst 1, 1) := by decide +kernel
theorem dX10_hasFieldNamed_32 : decode cX10_hasFieldNamed 32 = .ok (.ireturn, 1) := by decide +kernel
theorem dX10_hasFieldNamed_33 : decode cX10_hasFieldNamed 33 = .ok (.iinc 4 1, 3) := by decide +kernel
theorem dX10_hasFieldNamed_36 : decode cX10_hasFieldNamed 36 = .ok (.goto (-33), 3) := by decide +kernel
theorem dX10_hasFieldNamed_39 : decode cX10_hasFieldNamed 39 = .ok (.iconst 0, 1) := by decide +kernel
theorem dX10_hasFieldNamed_40 : decode cX10_hasFieldNamed 40 = .ok (.ireturn, 1) := by decide +kernel
theorem dX10_hasName_0 : decode cX10_hasName 0 = .ok (.iconst 0, 1) := by decide +kernel
theorem dX10_hasName_1 : decode cX10_hasName 1 = .ok (.istore 4, 2) := by decide +kernel
theorem dX10_hasName_3 : decode cX10_hasName 3 = .ok (.iload 4, 2) := by decide +kernel
theorem dX10_hasName_5 : decode cX10_hasName 5 = .ok (.aload_n 0, 1) := by decide +kernel
theorem dX10_hasName_6 : decode cX10_hasName 6 = .ok (.getfield 65, 3) := by decide +kernel
theorem dX10_hasName_9 : decode cX10_hasName 9 = .ok (.if_icmp .ge 34, 3) := by decide +kernel
theorem dX10_hasName_12 : decode cX10_hasName 12 = .ok (.aload_n 0, 1) := by decide +kernel
theorem dX10_hasName_13 : decode cX10_hasName 13 = .ok (.getfield 15, 3) := by decide +kernel
theorem dX10_hasName_16 : decode cX10_hasName 16 = .ok (.iload 4, 2) := by decide +kernel
theorem dX10_hasName_18 : decode cX10_hasName 18 = .ok (.iaload, 1) := by decide +kernel
theorem dX10_hasName_19 : decode cX10_hasName 19 = .ok (.iload_n 1, 1) := by decide +kernel
theorem dX10_hasName_20 : decode cX10_hasName 20 = .ok (.if_icmp .ne 17, 3) := by decide +kernel
theorem dX10_hasName_23 : decode cX10_hasName 23 = .ok (.aload_n 0, 1) := by decide +kernel
theorem dX10_hasName_24 : decode cX10_hasName 24 = .ok (.getfield 11, 3) := by decide +kernel
theorem dX10_hasName_27 : decode cX10_hasName 27 = .ok (.iload 4, 2) := by decide +kernel
theorem dX10_hasName_29 : decode cX10_hasName 29 = .ok (.laload, 1) := by decide +kernel
theorem dX10_hasName_30 : decode cX10_hasName 30 = .ok (.lload_n 2, 1) := by decide +kernel
theorem dX10_hasName_31 : decode cX10_hasName 31 = .ok (.lcmp, 1) := by decide +kernel
theorem dX10_hasName_32 : decode cX10_hasName 32 = .ok (.ifCond .ne 5, 3) := by decide +kernel
theorem dX10_hasName_35 : decode cX10_hasName 35 = .ok (.iconst 1, 1) := by decide +kernel
theorem dX10_hasName_36 : decode cX10_hasName 36 = .ok (.ireturn, 1) := by decide +kernel
theorem dX10_hasName_37 : decode cX10_hasName 37 = .ok (.iinc 4 1, 3) := by decide +kernel
theorem dX10_hasName_40 : decode cX10_hasName 40 = .ok (.goto (-37), 3) := by decide +kernel
theorem dX10_hasName_43 : decode cX10_hasName 43 = .ok (.iconst 0, 1) := by decide +kernel
theorem dX10_hasName_44 : decode cX10_hasName 44 = .ok (.ireturn, 1) := by decide +kernel
theorem dX10_isApart_0 : decode cX10_isApart 0 = .ok (.iload_n 1, 1) := by decide +kernel
theorem dX10_isApart_1 : decode cX10_isApart 1 = .ok (.invokestatic 86, 3) := by decide +kernel
theorem dX10_isApart_4 : decode cX10_isApart 4 = .ok (.ifCond .eq 7, 3) := by decide +kernel
theorem dX10_isApart_7 : decode cX10_isApart 7 = .ok (.iconst (-1), 1) := by decide +kernel
theorem dX10_isApart_8 : decode cX10_isApart 8 = .ok (.goto 4, 3) := by decide +kernel
theorem dX10_isApart_11 : decode cX10_isApart 11 = .ok (.iload_n 1, 1) := by decide +kernel
theorem dX10_isApart_12 : decode cX10_isApart 12 = .ok (.istore_n 2, 1) := by decide +kernel
theorem dX10_isApart_13 : decode cX10_isApart 13 = .ok (.iconst 0, 1) := by decide +kernel
theorem dX10_isApart_14 : decode cX10_isApart 14 = .ok (.istore_n 3, 1) := by decide +kernel
theorem dX10_isApart_15 : decode cX10_isApart 15 = .ok (.iload_n 3, 1) := by decide +kernel
theorem dX10_isApart_16 : decode cX10_isApart 16 = .ok (.bipush 16, 2) := by decide +kernel
theorem dX10_isApart_18 : decode cX10_isApart 18 = .ok (.if_icmp .ge 32, 3) := by decide +kernel
theorem dX10_isApart_21 : decode cX10_isApart 21 = .ok (.iload_n 2, 1) := by decide +kernel
theorem dX10_isApart_22 : decode cX10_isApart 22 = .ok (.iconst (-1), 1) := by decide +kernel
theorem dX10_isApart_23 : decode cX10_isApart 23 = .ok (.if_icmp .eq 27, 3) := by decide +kernel
theorem dX10_isApart_26 : decode cX10_isApart 26 = .ok (.aload_n 0, 1) := by decide +kernel
theorem dX10_isApart_27 : decode cX10_isApart 27 = .ok (.getfield 26, 3) := by decide +kernel
theorem dX10_isApart_30 : decode cX10_isApart 30 = .ok (.iload_n 2, 1) := by decide +kernel
theorem dX10_isApart_31 : decode cX10_isApart 31 = .ok (.baload, 1) := by decide +kernel
theorem dX10_isApart_32 : decode cX10_isApart 32 = .ok (.ifCond .eq 5, 3) := by decide +kernel
theorem dX10_isApart_35 : decode cX10_isApart 35 = .ok (.iconst 1, 1) := by decide +kernel
theorem dX10_isApart_36 : decode cX10_isApart 36 = .ok (.ireturn, 1) := by decide +kernel
theorem dX10_isApart_37 : decode cX10_isApart 37 = .ok (.aload_n 0, 1) := by decide +kernel
theorem dX10_isApart_38 : decode cX10_isApart 38 = .ok (.getfield 19, 3) := by decide +kernel
theorem dX10_isApart_41 : decode cX10_isApart 41 = .ok (.iload_n 2, 1) := by decide +kernel
theorem dX10_isApart_42 : decode cX10_isApart 42 = .ok (.iaload, 1) := by decide +kernel
theorem dX10_isApart_43 : decode cX10_isApart 43 = .ok (.istore_n 2, 1) := by decide +kernel
theorem dX10_isApart_44 : decode cX10_isApart 44 = .ok (.iinc 3 1, 3) := by decide +kernel
theorem dX10_isApart_47 : decode cX10_isApart 47 = .ok (.goto (-32), 3) := by decide +kernel
theorem dX10_isApart_50 : decode cX10_isApart 50 = .ok (.iconst 0, 1) := by decide +kernel
theorem dX10_isApart_51 : decode cX10_isApart 51 = .ok (.ireturn, 1) := by decide +kernel
theorem dX10_isArray_0 : decode cX10_isArray 0 = .ok (.iload_n 0, 1) := by decide +kernel
theorem dX10_isArray_1 : decode cX10_isArray 1 = .ok (.bipush 20, 2) := by decide +kernel
theorem dX10_isArray_3 : decode cX10_isArray 3 = .ok (.if_icmp .lt 7, 3) := by decide +kernel
theorem dX10_isArray_6 : decode cX10_isArray 6 = .ok (.iconst 1, 1) := by decide +kernel
theorem dX10_isArray_7 : decode cX10_isArray 7 = .ok (.goto 4, 3) := by decide +kernel
theorem dX10_isArray_10 : decode cX10_isArray 10 = .ok (.iconst 0, 1) := by decide +kernel
theorem dX10_isArray_11 : decode cX10_isArray 11 = .ok (.ireturn, 1) := by decide +kernel
theorem dX10_isClass_0 : decode cX10_isClass 0 = .ok (.iload_n 1, 1) := by decide +kernel
theorem dX10_isClass_1 : decode cX10_isClass 1 = .ok (.ifCond .lt 15, 3) := by decide +kernel
theorem dX10_isClass_4 : decode cX10_isClass 4 = .ok (.iload_n 1, 1) := by decide +kernel
theorem dX10_isClass_5 : decode cX10_isClass 5 = .ok (.aload_n 0, 1) := by decide +kernel
theorem dX10_isClass_6 : decode cX10_isClass 6 = .ok (.getfield 65, 3) := by decide +kernel
theorem dX10_isClass_9 : decode cX10_isClass 9 = .ok (.if_icmp .ge 7, 3) := by decide +kernel
theorem dX10_isClass_12 : decode cX10_isClass 12 = .ok (.iconst 1, 1) := by decide +kernel
theorem dX10_isClass_13 : decode cX10_isClass 13 = .ok (.goto 4, 3) := by decide +kernel
theorem dX10_isClass_16 : decode cX10_isClass 16 = .ok (.iconst 0, 1) := by decide +kernel
theorem dX10_isClass_17 : decode cX10_isClass 17 = .ok (.ireturn, 1) := by decide +kernel
theorem dX10_isHeir_0 : decode cX10_isHeir 0 = .ok (.iload_n 1, 1) := by decide +kernel
theorem dX10_isHeir_1 : decode cX10_isHeir 1 = .ok (.istore_n 3, 1) := by decide +kernel
theorem dX10_isHeir_2 : decode cX10_isHeir 2 = .ok (.iconst 0, 1) := by decide +kernel
theorem dX10_isHeir_3 : decode cX10_isHeir 3 = .ok (.istore 4, 2) := by decide +kernel
theorem dX10_isHeir_5 : decode cX10_isHeir 5 = .ok (.iload 4, 2) := by decide +kernel
theorem dX10_isHeir_7 : decode cX10_isHeir 7 = .ok (.bipush 16, 2) := by decide +kernel
theorem dX10_isHeir_9 : decode cX10_isHeir 9 = .ok (.if_icmp .ge 28, 3) := by decide +kernel
theorem dX10_isHeir_12 : decode cX10_isHeir 12 = .ok (.iload_n 3, 1) := by decide +kernel
theorem dX10_isHeir_13 : decode cX10_isHeir 13 = .ok (.iconst (-1), 1) := by decide +kernel
theorem dX10_isHeir_14 : decode cX10_isHeir 14 = .ok (.if_icmp .eq 23, 3) := by decide +kernel
theorem dX10_isHeir_17 : decode cX10_isHeir 17 = .ok (.iload_n 3, 1) := by decide +kernel
theorem dX10_isHeir_18 : decode cX10_isHeir 18 = .ok (.iload_n 2, 1) := by decide +kernel
theorem dX10_isHeir_19 : decode cX10_isHeir 19 = .ok (.if_icmp .ne 5, 3) := by decide +kernel
theorem dX10_isHeir_22 : decode cX10_isHeir 22 = .ok (.iconst 1, 1) := by decide +kernel
theorem dX10_isHeir_23 : decode cX10_isHeir 23 = .ok (.ireturn, 1) := by decide +kernel
theorem dX10_isHeir_24 : decode cX10_isHeir 24 = .ok (.aload_n 0, 1) := by decide +kernel
theorem dX10_isHeir_25 : decode cX10_isHeir 25 = .ok (.getfield 19, 3) := by decide +kernel
theorem dX10_isHeir_28 : decode cX10_isHeir 28 = .ok (.iload_n 3, 1) := by decide +kernel
theorem dX10_isHeir_29 : decode cX10_isHeir 29 = .ok (.iaload, 1) := by decide +kernel
theorem dX10_isHeir_30 : decode cX10_isHeir 30 = .ok (.istore_n 3, 1) := by decide +kernel
theorem dX10_isHeir_31 : decode cX10_isHeir 31 = .ok (.iinc 4 1, 3) := by decide +kernel
theorem dX10_isHeir_34 : decode cX10_isHeir 34 = .ok (.goto (-29), 3) := by decide +kernel
theorem dX10_isHeir_37 : decode cX10_isHeir 37 = .ok (.iconst 0, 1) := by decide +kernel
theorem dX10_isHeir_38 : decode cX10_isHeir 38 = .ok (.ireturn, 1) := by decide +kernel
theorem dX10_isLinkStatic_0 : decode cX10_isLinkStatic 0 = .ok (.aload_n 0, 1) := by decide +kernel
theorem dX10_isLinkStatic_1 : decode cX10_isLinkStatic 1 = .ok (.getfield 50, 3) := by decide +kernel
theorem dX10_isLinkStatic_4 : decode cX10_isLinkStatic 4 = .ok (.iload_n 1, 1) := by decide +kernel
theorem dX10_isLinkStatic_5 : decode cX10_isLinkStatic 5 = .ok (.baload, 1) := by decide +kernel
theorem dX10_isLinkStatic_6 : decode cX10_isLinkStatic 6 = .ok (.ifCond .eq 17, 3) := by decide +kernel
theorem dX10_isLinkStatic_9 : decode cX10_isLinkStatic 9 = .ok (.aload_n 0, 1) := by decide +kernel
theorem dX10_isLinkStatic_10 : decode cX10_isLinkStatic 10 = .ok (.getfield 44, 3) := by decide +kernel
theorem dX10_isLinkStatic_13 : decode cX10_isLinkStatic 13 = .ok (.iload_n 1, 1) := by decide +kernel
theorem dX10_isLinkStatic_14 : decode cX10_isLinkStatic 14 = .ok (.iaload, 1) := by decide +kernel
theorem dX10_isLinkStatic_15 : decode cX10_isLinkStatic 15 = .ok (.iconst 5, 1) := by decide +kernel
theorem dX10_isLinkStatic_16 : decode cX10_isLinkStatic 16 = .ok (.if_icmp .ne 7, 3) := by decide +kernel
theorem dX10_isLinkStatic_19 : decode cX10_isLinkStatic 19 = .ok (.iconst 1, 1) := by decide +kernel
theorem dX10_isLinkStatic_20 : decode cX10_isLinkStatic 20 = .ok (.goto 4, 3) := by decide +kernel
theorem dX10_isLinkStatic_23 : decode cX10_isLinkStatic 23 = .ok (.iconst 0, 1) := by decide +kernel
theorem dX10_isLinkStatic_24 : decode cX10_isLinkStatic 24 = .ok (.ireturn, 1) := by decide +kernel
theorem dX10_isNamed_0 : decode cX10_isNamed 0 = .ok (.iload_n 1, 1) := by decide +kernel
theorem dX10_isNamed_1 : decode cX10_isNamed 1 = .ok (.invokestatic 86, 3) := by decide +kernel
theorem dX10_isNamed_4 : decode cX10_isNamed 4 = .ok (.ifCond .eq 7, 3) := by decide +kernel
theorem dX10_isNamed_7 : decode cX10_isNamed 7 = .ok (.iconst (-1), 1) := by decide +kernel
theorem dX10_isNamed_8 : decode cX10_isNamed 8 = .ok (.goto 4, 3) := by decide +kernel
theorem dX10_isNamed_11 : decode cX10_isNamed 11 = .ok (.iload_n 1, 1) := by decide +kernel
theorem dX10_isNamed_12 : decode cX10_isNamed 12 = .ok (.istore 4, 2) := by decide +kernel
theorem dX10_isNamed_14 : decode cX10_isNamed 14 = .ok (.iconst 0, 1) := by decide +kernel
theorem dX10_isNamed_15 : decode cX10_isNamed 15 = .ok (.istore 5, 2) := by decide +kernel
theorem dX10_isNamed_17 : decode cX10_isNamed 17 = .ok (.iload 5, 2) := by decide +kernel
theorem dX10_isNamed_19 : decode cX10_isNamed 19 = .ok (.bipush 16, 2) := by decide +kernel
theorem dX10_isNamed_21 : decode cX10_isNamed 21 = .ok (.if_icmp .ge 38, 3) := by decide +kernel
theorem dX10_isNamed_24 : decode cX10_isNamed 24 = .ok (.iload 4, 2) := by decide +kernel
theorem dX10_isNamed_26 : decode cX10_isNamed 26 = .ok (.iconst (-1), 1) := by decide +kernel
theorem dX10_isNamed_27 : decode cX10_isNamed 27 = .ok (.if_icmp .eq 32, 3) := by decide +kernel
theorem dX10_isNamed_30 : decode cX10_isNamed 30 = .ok (.aload_n 0, 1) := by decide +kernel
theorem dX10_isNamed_31 : decode cX10_isNamed 31 = .ok (.getfield 11, 3) := by decide +kernel
theorem dX10_isNamed_34 : decode cX10_isNamed 34 = .ok (.iload 4, 2) := by decide +kernel
theorem dX10_isNamed_36 : decode cX10_isNamed 36 = .ok (.laload, 1) := by decide +kernel
theorem dX10_isNamed_37 : decode cX10_isNamed 37 = .ok (.lload_n 2, 1) := by decide +kernel
theorem dX10_isNamed_38 : decode cX10_isNamed 38 = .ok (.lcmp, 1) := by decide +kernel
theorem dX10_isNamed_39 : decode cX10_isNamed 39 = .ok (.ifCond .ne 5, 3) := by decide +kernel
theorem dX10_isNamed_42 : decode cX10_isNamed 42 = .ok (.iconst 1, 1) := by decide +kernel
theorem dX10_isNamed_43 : decode cX10_isNamed 43 = .ok (.ireturn, 1) := by decide +kernel
theorem dX10_isNamed_44 : decode cX10_isNamed 44 = .ok (.aload_n 0, 1) := by decide +kernel
theorem dX10_isNamed_45 : decode cX10_isNamed 45 = .ok (.getfield 19, 3) := by decide +kernel
theorem dX10_isNamed_48 : decode cX10_isNamed 48 = .ok (.iload 4, 2) := by decide +kernel
theorem dX10_isNamed_50 : decode cX10_isNamed 50 = .ok (.iaload, 1) := by decide +kernel
theorem dX10_isNamed_51 : decode cX10_isNamed 51 = .ok (.istore 4, 2) := by decide +kernel
theorem dX10_isNamed_53 : decode cX10_isNamed 53 = .ok (.iinc 5 1, 3) := by decide +kernel
theorem dX10_isNamed_56 : decode cX10_isNamed 56 = .ok (.goto (-39), 3) := by decide +kernel
theorem dX10_isNamed_59 : decode cX10_isNamed 59 = .ok (.iconst 0, 1) := by decide +kernel
theorem dX10_isNamed_60 : decode cX10_isNamed 60 = .ok (.ireturn, 1) := by decide +kernel
theorem dX10_isNumber_0 : decode cX10_isNumber 0 = .ok (.iload_n 0, 1) := by decide +kernel
theorem dX10_isNumber_1 : decode cX10_isNumber 1 = .ok (.ifCond .ne 21, 3) := by decide +kernel
theorem dX10_isNumber_4 : decode cX10_isNumber 4 = .ok (.lload_n 1, 1) := by decide +kernel
theorem dX10_isNumber_5 : decode cX10_isNumber 5 = .ok (.lconst 0, 1) := by decide +kernel
theorem dX10_isNumber_6 : decode cX10_isNumber 6 = .ok (.lcmp, 1) := by decide +kernel
theorem dX10_isNumber_7 : decode cX10_isNumber 7 = .ok (.ifCond .eq 9, 3) := by decide +kernel
theorem dX10_isNumber_10 : decode cX10_isNumber 10 = .ok (.lload_n 1, 1) := by decide +kernel
theorem dX10_isNumber_11 : decode cX10_isNumber 11 = .ok (.lconst 1, 1) := by decide +kernel
theorem dX10_isNumber_12 : decode cX10_isNumber 12 = .ok (.lcmp, 1) := by decide +kernel
theorem dX10_isNumber_13 : decode cX10_isNumber 13 = .ok (.ifCond .ne 7, 3) := by decide +kernel
theorem dX10_isNumber_16 : decode cX10_isNumber 16 = .ok (.iconst 1, 1) := by decide +kernel
theorem dX10_isNumber_17 : decode cX10_isNumber 17 = .ok (.goto 4, 3) := by decide +kernel
theorem dX10_isNumber_20 : decode cX10_isNumber 20 = .ok (.iconst 0, 1) := by decide +kernel
theorem dX10_isNumber_21 : decode cX10_isNumber 21 = .ok (.ireturn, 1) := by decide +kernel
theorem dX10_isNumber_22 : decode cX10_isNumber 22 = .ok (.bipush 8, 2) := by decide +kernel
theorem dX10_isNumber_24 : decode cX10_isNumber 24 = .ok (.getstatic 83, 3) := by decide +kernel
theorem dX10_isNumber_27 : decode cX10_isNumber 27 = .ok (.iload_n 0, 1) := by decide +kernel
theorem dX10_isNumber_28 : decode cX10_isNumber 28 = .ok (.iaload, 1) := by decide +kernel
theorem dX10_isNumber_29 : decode cX10_isNumber 29 = .ok (.imul, 1) := by decide +kernel
theorem dX10_isNumber_30 : decode cX10_isNumber 30 = .ok (.istore_n 3, 1) := by decide +kernel
theorem dX10_isNumber_31 : decode cX10_isNumber 31 = .ok (.iload_n 3, 1) := by decide +kernel
theorem dX10_isNumber_32 : decode cX10_isNumber 32 = .ok (.bipush 64, 2) := by decide +kernel
theorem dX10_isNumber_34 : decode cX10_isNumber 34 = .ok (.if_icmp .eq 24, 3) := by decide +kernel
theorem dX10_isNumber_37 : decode cX10_isNumber 37 = .ok (.lload_n 1, 1) := by decide +kernel
theorem dX10_isNumber_38 : decode cX10_isNumber 38 = .ok (.lconst 1, 1) := by decide +kernel
theorem dX10_isNumber_39 : decode cX10_isNumber 39 = .ok (.iload_n 3, 1) := by decide +kernel
theorem dX10_isNumber_40 : decode cX10_isNumber 40 = .ok (.iconst 1, 1) := by decide +kernel
theorem dX10_isNumber_41 : decode cX10_isNumber 41 = .ok (.isub, 1) := by decide +kernel
theorem dX10_isNumber_42 : decode cX10_isNumber 42 = .ok (.lshl, 1) := by decide +kernel
theorem dX10_isNumber_43 : decode cX10_isNumber 43 = .ok (.lneg, 1) := by decide +kernel
theorem dX10_isNumber_44 : decode cX10_isNumber 44 = .ok (.lcmp, 1) := by decide +kernel
theorem dX10_isNumber_45 : decode cX10_isNumber 45 = .ok (.ifCond .lt 17, 3) := by decide +kernel
theorem dX10_isNumber_48 : decode cX10_isNumber 48 = .ok (.lload_n 1, 1) := by decide +kernel
theorem dX10_isNumber_49 : decode cX10_isNumber 49 = .ok (.lconst 1, 1) := by decide +kernel
theorem dX10_isNumber_50 : decode cX10_isNumber 50 = .ok (.iload_n 3, 1) := by decide +kernel
theorem dX10_isNumber_51 : decode cX10_isNumber 51 = .ok (.iconst 1, 1) := by decide +kernel
theorem dX10_isNumber_52 : decode cX10_isNumber 52 = .ok (.isub, 1) := by decide +kernel
theorem dX10_isNumber_53 : decode cX10_isNumber 53 = .ok (.lshl, 1) := by decide +kernel
theorem dX10_isNumber_54 : decode cX10_isNumber 54 = .ok (.lcmp, 1) := by decide +kernel
theorem dX10_isNumber_55 : decode cX10_isNumber 55 = .ok (.ifCond .ge 7, 3) := by decide +kernel
theorem dX10_isNumber_58 : decode cX10_isNumber 58 = .ok (.iconst 1, 1) := by decide +kernel
theorem dX10_isNumber_59 : decode cX10_isNumber 59 = .ok (.goto 4, 3) := by decide +kernel
theorem dX10_isNumber_62 : decode cX10_isNumber 62 = .ok (.iconst 0, 1) := by decide +kernel
theorem dX10_isNumber_63 : decode cX10_isNumber 63 = .ok (.ireturn, 1) := by decide +kernel
theorem dX10_isType_0 : decode cX10_isType 0 = .ok (.aload_n 0, 1) := by decide +kernel
theorem dX10_isType_1 : decode cX10_isType 1 = .ok (.iload_n 1, 1) := by decide +kernel
theorem dX10_isType_2 : decode cX10_isType 2 = .ok (.invokevirtual 69, 3) := by decide +kernel
theorem dX10_isType_5 : decode cX10_isType 5 = .ok (.ifCond .ne 38, 3) := by decide +kernel
theorem dX10_isType_8 : decode cX10_isType 8 = .ok (.iload_n 1, 1) := by decide +kernel
theorem dX10_isType_9 : decode cX10_isType 9 = .ok (.bipush 20, 2) := by decide +kernel
theorem dX10_isType_11 : decode cX10_isType 11 = .ok (.if_icmp .lt 9, 3) := by decide +kernel
theorem dX10_isType_14 : decode cX10_isType 14 = .ok (.iload_n 1, 1) := by decide +kernel
theorem dX10_isType_15 : decode cX10_isType 15 = .ok (.bipush 24, 2) := by decide +kernel
theorem dX10_isType_17 : decode cX10_isType 17 = .ok (.if_icmp .le 26, 3) := by decide +kernel
theorem dX10_isType_20 : decode cX10_isType 20 = .ok (.iload_n 1, 1) := by decide +kernel
theorem dX10_isType_21 : decode cX10_isType 21 = .ok (.bipush 29, 2) := by decide +kernel
theorem dX10_isType_23 : decode cX10_isType 23 = .ok (.if_icmp .eq 20, 3) := by decide +kernel
theorem dX10_isType_26 : decode cX10_isType 26 = .ok (.iload_n 1, 1) := by decide +kernel
theorem dX10_isType_27 : decode cX10_isType 27 = .ok (.bipush 30, 2) := by decide +kernel
theorem dX10_isType_29 : decode cX10_isType 29 = .ok (.if_icmp .lt 18, 3) := by decide +kernel
theorem dX10_isType_32 : decode cX10_isType 32 = .ok (.aload_n 0, 1) := by decide +kernel
theorem dX10_isType_33 : decode cX10_isType 33 = .ok (.iload_n 1, 1) := by decide +kernel
theorem dX10_isType_34 : decode cX10_isType 34 = .ok (.bipush 30, 2) := by decide +kernel
theorem dX10_isType_36 : decode cX10_isType 36 = .ok (.isub, 1) := by decide +kernel
theorem dX10_isType_37 : decode cX10_isType 37 = .ok (.invokevirtual 69, 3) := by decide +kernel
theorem dX10_isType_40 : decode cX10_isType 40 = .ok (.ifCond .eq 7, 3) := by decide +kernel
theorem dX10_isType_43 : decode cX10_isType 43 = .ok (.iconst 1, 1) := by decide +kernel
theorem dX10_isType_44 : decode cX10_isType 44 = .ok (.goto 4, 3) := by decide +kernel
theorem dX10_isType_47 : decode cX10_isType 47 = .ok (.iconst 0, 1) := by decide +kernel
theorem dX10_isType_48 : decode cX10_isType 48 = .ok (.ireturn, 1) := by decide +kernel
theorem dX10_kindAt_0 : decode cX10_kindAt 0 = .ok (.iload_n 1, 1) := by decide +kernel
theorem dX10_kindAt_1 : decode cX10_kindAt 1 = .ok (.bipush 29, 2) := by decide +kernel
theorem dX10_kindAt_3 : decode cX10_kindAt 3 = .ok (.if_icmp .lt 5, 3) := by decide +kernel
theorem dX10_kindAt_6 : decode cX10_kindAt 6 = .ok (.iconst 5, 1) := by decide +kernel
theorem dX10_kindAt_7 : decode cX10_kindAt 7 = .ok (.ireturn, 1) := by decide +kernel
theorem dX10_kindAt_8 : decode cX10_kindAt 8 = .ok (.iload_n 1, 1) := by decide +kernel
theorem dX10_kindAt_9 : decode cX10_kindAt 9 = .ok (.bipush 20, 2) := by decide +kernel
theorem dX10_kindAt_11 : decode cX10_kindAt 11 = .ok (.if_icmp .lt 10, 3) := by decide +kernel
theorem dX10_kindAt_14 : decode cX10_kindAt 14 = .ok (.iload_n 1, 1) := by decide +kernel
theorem dX10_kindAt_15 : decode cX10_kindAt 15 = .ok (.bipush 20, 2) := by decide +kernel
theorem dX10_kindAt_17 : decode cX10_kindAt 17 = .ok (.isub, 1) := by decide +kernel
theorem dX10_kindAt_18 : decode cX10_kindAt 18 = .ok (.goto 14, 3) := by decide +kernel
theorem dX10_kindAt_21 : decode cX10_kindAt 21 = .ok (.aload_n 0, 1) := by decide +kernel
theorem dX10_kindAt_22 : decode cX10_kindAt 22 = .ok (.getfield 59, 3) := by decide +kernel
theorem dX10_kindAt_25 : decode cX10_kindAt 25 = .ok (.iload_n 1, 1) := by decide +kernel
theorem dX10_kindAt_26 : decode cX10_kindAt 26 = .ok (.bipush 96, 2) := by decide +kernel
theorem dX10_kindAt_28 : decode cX10_kindAt 28 = .ok (.imul, 1) := by decide +kernel
theorem dX10_kindAt_29 : decode cX10_kindAt 29 = .ok (.iload_n 2, 1) := by decide +kernel
theorem dX10_kindAt_30 : decode cX10_kindAt 30 = .ok (.iadd, 1) := by decide +kernel
theorem dX10_kindAt_31 : decode cX10_kindAt 31 = .ok (.iaload, 1) := by decide +kernel
theorem dX10_kindAt_32 : decode cX10_kindAt 32 = .ok (.ireturn, 1) := by decide +kernel
theorem dX10_linkAt_0 : decode cX10_linkAt 0 = .ok (.iload_n 1, 1) := by decide +kernel
theorem dX10_linkAt_1 : decode cX10_linkAt 1 = .ok (.bipush 30, 2) := by decide +kernel
theorem dX10_linkAt_3 : decode cX10_linkAt 3 = .ok (.if_icmp .lt 8, 3) := by decide +kernel
theorem dX10_linkAt_6 : decode cX10_linkAt 6 = .ok (.iload_n 1, 1) := by decide +kernel
theorem dX10_linkAt_7 : decode cX10_linkAt 7 = .ok (.bipush 30, 2) := by decide +kernel
theorem dX10_linkAt_9 : decode cX10_linkAt 9 = .ok (.isub, 1) := by decide +kernel
theorem dX10_linkAt_10 : decode cX10_linkAt 10 = .ok (.ireturn, 1) := by decide +kernel
theorem dX10_linkAt_11 : decode cX10_linkAt 11 = .ok (.iload_n 1, 1) := by decide +kernel
theorem dX10_linkAt_12 : decode cX10_linkAt 12 = .ok (.bipush 20, 2) := by decide +kernel
theorem dX10_linkAt_14 : decode cX10_linkAt 14 = .ok (.if_icmp .lt 7, 3) := by decide +kernel
