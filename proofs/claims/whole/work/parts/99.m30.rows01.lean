theorem dX10_linkAt_17 : decode cX10_linkAt 17 = .ok (.iconst (-1), 1) := by decide +kernel
theorem dX10_linkAt_18 : decode cX10_linkAt 18 = .ok (.goto 14, 3) := by decide +kernel
theorem dX10_linkAt_21 : decode cX10_linkAt 21 = .ok (.aload_n 0, 1) := by decide +kernel
theorem dX10_linkAt_22 : decode cX10_linkAt 22 = .ok (.getfield 62, 3) := by decide +kernel
theorem dX10_linkAt_25 : decode cX10_linkAt 25 = .ok (.iload_n 1, 1) := by decide +kernel
theorem dX10_linkAt_26 : decode cX10_linkAt 26 = .ok (.bipush 96, 2) := by decide +kernel
theorem dX10_linkAt_28 : decode cX10_linkAt 28 = .ok (.imul, 1) := by decide +kernel
theorem dX10_linkAt_29 : decode cX10_linkAt 29 = .ok (.iload_n 2, 1) := by decide +kernel
theorem dX10_linkAt_30 : decode cX10_linkAt 30 = .ok (.iadd, 1) := by decide +kernel
theorem dX10_linkAt_31 : decode cX10_linkAt 31 = .ok (.iaload, 1) := by decide +kernel
theorem dX10_linkAt_32 : decode cX10_linkAt 32 = .ok (.ireturn, 1) := by decide +kernel
theorem dX10_ownFields_0 : decode cX10_ownFields 0 = .ok (.aload_n 0, 1) := by decide +kernel
theorem dX10_ownFields_1 : decode cX10_ownFields 1 = .ok (.getfield 65, 3) := by decide +kernel
theorem dX10_ownFields_4 : decode cX10_ownFields 4 = .ok (.bipush 6, 2) := by decide +kernel
theorem dX10_ownFields_6 : decode cX10_ownFields 6 = .ok (.imul, 1) := by decide +kernel
theorem dX10_ownFields_7 : decode cX10_ownFields 7 = .ok (.ireturn, 1) := by decide +kernel
theorem dX10_sizeOf_0 : decode cX10_sizeOf 0 = .ok (.iload_n 1, 1) := by decide +kernel
theorem dX10_sizeOf_1 : decode cX10_sizeOf 1 = .ok (.invokestatic 86, 3) := by decide +kernel
theorem dX10_sizeOf_4 : decode cX10_sizeOf 4 = .ok (.ifCond .eq 21, 3) := by decide +kernel
theorem dX10_sizeOf_7 : decode cX10_sizeOf 7 = .ok (.bipush 16, 2) := by decide +kernel
theorem dX10_sizeOf_9 : decode cX10_sizeOf 9 = .ok (.iload_n 2, 1) := by decide +kernel
theorem dX10_sizeOf_10 : decode cX10_sizeOf 10 = .ok (.getstatic 83, 3) := by decide +kernel
theorem dX10_sizeOf_13 : decode cX10_sizeOf 13 = .ok (.aload_n 0, 1) := by decide +kernel
theorem dX10_sizeOf_14 : decode cX10_sizeOf 14 = .ok (.iload_n 1, 1) := by decide +kernel
theorem dX10_sizeOf_15 : decode cX10_sizeOf 15 = .ok (.iconst 0, 1) := by decide +kernel
theorem dX10_sizeOf_16 : decode cX10_sizeOf 16 = .ok (.invokevirtual 89, 3) := by decide +kernel
theorem dX10_sizeOf_19 : decode cX10_sizeOf 19 = .ok (.iaload, 1) := by decide +kernel
theorem dX10_sizeOf_20 : decode cX10_sizeOf 20 = .ok (.imul, 1) := by decide +kernel
theorem dX10_sizeOf_21 : decode cX10_sizeOf 21 = .ok (.iadd, 1) := by decide +kernel
theorem dX10_sizeOf_22 : decode cX10_sizeOf 22 = .ok (.goto 9, 3) := by decide +kernel
theorem dX10_sizeOf_25 : decode cX10_sizeOf 25 = .ok (.aload_n 0, 1) := by decide +kernel
theorem dX10_sizeOf_26 : decode cX10_sizeOf 26 = .ok (.getfield 38, 3) := by decide +kernel
theorem dX10_sizeOf_29 : decode cX10_sizeOf 29 = .ok (.iload_n 1, 1) := by decide +kernel
theorem dX10_sizeOf_30 : decode cX10_sizeOf 30 = .ok (.iaload, 1) := by decide +kernel
theorem dX10_sizeOf_31 : decode cX10_sizeOf 31 = .ok (.istore_n 3, 1) := by decide +kernel
theorem dX10_sizeOf_32 : decode cX10_sizeOf 32 = .ok (.iload_n 3, 1) := by decide +kernel
theorem dX10_sizeOf_33 : decode cX10_sizeOf 33 = .ok (.bipush 7, 2) := by decide +kernel
theorem dX10_sizeOf_35 : decode cX10_sizeOf 35 = .ok (.iadd, 1) := by decide +kernel
theorem dX10_sizeOf_36 : decode cX10_sizeOf 36 = .ok (.bipush 8, 2) := by decide +kernel
theorem dX10_sizeOf_38 : decode cX10_sizeOf 38 = .ok (.idiv, 1) := by decide +kernel
theorem dX10_sizeOf_39 : decode cX10_sizeOf 39 = .ok (.bipush 8, 2) := by decide +kernel
theorem dX10_sizeOf_41 : decode cX10_sizeOf 41 = .ok (.imul, 1) := by decide +kernel
theorem dX10_sizeOf_42 : decode cX10_sizeOf 42 = .ok (.ireturn, 1) := by decide +kernel
theorem dX10_slotNamed_0 : decode cX10_slotNamed 0 = .ok (.aload_n 0, 1) := by decide +kernel
theorem dX10_slotNamed_1 : decode cX10_slotNamed 1 = .ok (.getfield 35, 3) := by decide +kernel
theorem dX10_slotNamed_4 : decode cX10_slotNamed 4 = .ok (.iload_n 1, 1) := by decide +kernel
theorem dX10_slotNamed_5 : decode cX10_slotNamed 5 = .ok (.iaload, 1) := by decide +kernel
theorem dX10_slotNamed_6 : decode cX10_slotNamed 6 = .ok (.iconst 1, 1) := by decide +kernel
theorem dX10_slotNamed_7 : decode cX10_slotNamed 7 = .ok (.isub, 1) := by decide +kernel
theorem dX10_slotNamed_8 : decode cX10_slotNamed 8 = .ok (.istore 4, 2) := by decide +kernel
theorem dX10_slotNamed_10 : decode cX10_slotNamed 10 = .ok (.iload 4, 2) := by decide +kernel
theorem dX10_slotNamed_12 : decode cX10_slotNamed 12 = .ok (.ifCond .lt 29, 3) := by decide +kernel
theorem dX10_slotNamed_15 : decode cX10_slotNamed 15 = .ok (.aload_n 0, 1) := by decide +kernel
theorem dX10_slotNamed_16 : decode cX10_slotNamed 16 = .ok (.getfield 56, 3) := by decide +kernel
theorem dX10_slotNamed_19 : decode cX10_slotNamed 19 = .ok (.iload_n 1, 1) := by decide +kernel
theorem dX10_slotNamed_20 : decode cX10_slotNamed 20 = .ok (.bipush 96, 2) := by decide +kernel
theorem dX10_slotNamed_22 : decode cX10_slotNamed 22 = .ok (.imul, 1) := by decide +kernel
theorem dX10_slotNamed_23 : decode cX10_slotNamed 23 = .ok (.iload 4, 2) := by decide +kernel
theorem dX10_slotNamed_25 : decode cX10_slotNamed 25 = .ok (.iadd, 1) := by decide +kernel
theorem dX10_slotNamed_26 : decode cX10_slotNamed 26 = .ok (.laload, 1) := by decide +kernel
theorem dX10_slotNamed_27 : decode cX10_slotNamed 27 = .ok (.lload_n 2, 1) := by decide +kernel
theorem dX10_slotNamed_28 : decode cX10_slotNamed 28 = .ok (.lcmp, 1) := by decide +kernel
theorem dX10_slotNamed_29 : decode cX10_slotNamed 29 = .ok (.ifCond .ne 6, 3) := by decide +kernel
theorem dX10_slotNamed_32 : decode cX10_slotNamed 32 = .ok (.iload 4, 2) := by decide +kernel
theorem dX10_slotNamed_34 : decode cX10_slotNamed 34 = .ok (.ireturn, 1) := by decide +kernel
theorem dX10_slotNamed_35 : decode cX10_slotNamed 35 = .ok (.iinc 4 (-1), 3) := by decide +kernel
theorem dX10_slotNamed_38 : decode cX10_slotNamed 38 = .ok (.goto (-28), 3) := by decide +kernel
theorem dX10_slotNamed_41 : decode cX10_slotNamed 41 = .ok (.iconst (-1), 1) := by decide +kernel
theorem dX10_slotNamed_42 : decode cX10_slotNamed 42 = .ok (.ireturn, 1) := by decide +kernel
theorem dX10_slotsOf_0 : decode cX10_slotsOf 0 = .ok (.iload_n 1, 1) := by decide +kernel
theorem dX10_slotsOf_1 : decode cX10_slotsOf 1 = .ok (.invokestatic 86, 3) := by decide +kernel
theorem dX10_slotsOf_4 : decode cX10_slotsOf 4 = .ok (.ifCond .eq 7, 3) := by decide +kernel
theorem dX10_slotsOf_7 : decode cX10_slotsOf 7 = .ok (.iload_n 2, 1) := by decide +kernel
theorem dX10_slotsOf_8 : decode cX10_slotsOf 8 = .ok (.goto 9, 3) := by decide +kernel
theorem dX10_slotsOf_11 : decode cX10_slotsOf 11 = .ok (.aload_n 0, 1) := by decide +kernel
theorem dX10_slotsOf_12 : decode cX10_slotsOf 12 = .ok (.getfield 35, 3) := by decide +kernel
theorem dX10_slotsOf_15 : decode cX10_slotsOf 15 = .ok (.iload_n 1, 1) := by decide +kernel
theorem dX10_slotsOf_16 : decode cX10_slotsOf 16 = .ok (.iaload, 1) := by decide +kernel
theorem dX10_slotsOf_17 : decode cX10_slotsOf 17 = .ok (.ireturn, 1) := by decide +kernel
theorem dX10_staticField_0 : decode cX10_staticField 0 = .ok (.aload_n 0, 1) := by decide +kernel
theorem dX10_staticField_1 : decode cX10_staticField 1 = .ok (.iload_n 1, 1) := by decide +kernel
theorem dX10_staticField_2 : decode cX10_staticField 2 = .ok (.invokevirtual 69, 3) := by decide +kernel
theorem dX10_staticField_5 : decode cX10_staticField 5 = .ok (.ifCond .eq 17, 3) := by decide +kernel
theorem dX10_staticField_8 : decode cX10_staticField 8 = .ok (.iload_n 2, 1) := by decide +kernel
theorem dX10_staticField_9 : decode cX10_staticField 9 = .ok (.ifCond .lt 13, 3) := by decide +kernel
theorem dX10_staticField_12 : decode cX10_staticField 12 = .ok (.iload_n 2, 1) := by decide +kernel
theorem dX10_staticField_13 : decode cX10_staticField 13 = .ok (.aload_n 0, 1) := by decide +kernel
theorem dX10_staticField_14 : decode cX10_staticField 14 = .ok (.getfield 32, 3) := by decide +kernel
theorem dX10_staticField_17 : decode cX10_staticField 17 = .ok (.iload_n 1, 1) := by decide +kernel
theorem dX10_staticField_18 : decode cX10_staticField 18 = .ok (.iaload, 1) := by decide +kernel
theorem dX10_staticField_19 : decode cX10_staticField 19 = .ok (.if_icmp .lt 5, 3) := by decide +kernel
theorem dX10_staticField_22 : decode cX10_staticField 22 = .ok (.iconst (-1), 1) := by decide +kernel
theorem dX10_staticField_23 : decode cX10_staticField 23 = .ok (.ireturn, 1) := by decide +kernel
theorem dX10_staticField_24 : decode cX10_staticField 24 = .ok (.iconst 0, 1) := by decide +kernel
theorem dX10_staticField_25 : decode cX10_staticField 25 = .ok (.istore_n 3, 1) := by decide +kernel
theorem dX10_staticField_26 : decode cX10_staticField 26 = .ok (.iload_n 3, 1) := by decide +kernel
theorem dX10_staticField_27 : decode cX10_staticField 27 = .ok (.aload_n 0, 1) := by decide +kernel
theorem dX10_staticField_28 : decode cX10_staticField 28 = .ok (.getfield 29, 3) := by decide +kernel
theorem dX10_staticField_31 : decode cX10_staticField 31 = .ok (.iload_n 1, 1) := by decide +kernel
theorem dX10_staticField_32 : decode cX10_staticField 32 = .ok (.iaload, 1) := by decide +kernel
theorem dX10_staticField_33 : decode cX10_staticField 33 = .ok (.if_icmp .ge 40, 3) := by decide +kernel
theorem dX10_staticField_36 : decode cX10_staticField 36 = .ok (.iload_n 1, 1) := by decide +kernel
theorem dX10_staticField_37 : decode cX10_staticField 37 = .ok (.bipush 6, 2) := by decide +kernel
theorem dX10_staticField_39 : decode cX10_staticField 39 = .ok (.imul, 1) := by decide +kernel
theorem dX10_staticField_40 : decode cX10_staticField 40 = .ok (.iload_n 3, 1) := by decide +kernel
theorem dX10_staticField_41 : decode cX10_staticField 41 = .ok (.iadd, 1) := by decide +kernel
theorem dX10_staticField_42 : decode cX10_staticField 42 = .ok (.istore 4, 2) := by decide +kernel
theorem dX10_staticField_44 : decode cX10_staticField 44 = .ok (.aload_n 0, 1) := by decide +kernel
theorem dX10_staticField_45 : decode cX10_staticField 45 = .ok (.getfield 50, 3) := by decide +kernel
theorem dX10_staticField_48 : decode cX10_staticField 48 = .ok (.iload 4, 2) := by decide +kernel
theorem dX10_staticField_50 : decode cX10_staticField 50 = .ok (.baload, 1) := by decide +kernel
theorem dX10_staticField_51 : decode cX10_staticField 51 = .ok (.ifCond .eq 16, 3) := by decide +kernel
theorem dX10_staticField_54 : decode cX10_staticField 54 = .ok (.aload_n 0, 1) := by decide +kernel
theorem dX10_staticField_55 : decode cX10_staticField 55 = .ok (.getfield 53, 3) := by decide +kernel
theorem dX10_staticField_58 : decode cX10_staticField 58 = .ok (.iload 4, 2) := by decide +kernel
theorem dX10_staticField_60 : decode cX10_staticField 60 = .ok (.iaload, 1) := by decide +kernel
theorem dX10_staticField_61 : decode cX10_staticField 61 = .ok (.iload_n 2, 1) := by decide +kernel
theorem dX10_staticField_62 : decode cX10_staticField 62 = .ok (.if_icmp .ne 5, 3) := by decide +kernel
theorem dX10_staticField_65 : decode cX10_staticField 65 = .ok (.iload_n 3, 1) := by decide +kernel
theorem dX10_staticField_66 : decode cX10_staticField 66 = .ok (.ireturn, 1) := by decide +kernel
theorem dX10_staticField_67 : decode cX10_staticField 67 = .ok (.iinc 3 1, 3) := by decide +kernel
theorem dX10_staticField_70 : decode cX10_staticField 70 = .ok (.goto (-44), 3) := by decide +kernel
theorem dX10_staticField_73 : decode cX10_staticField 73 = .ok (.iconst (-1), 1) := by decide +kernel
theorem dX10_staticField_74 : decode cX10_staticField 74 = .ok (.ireturn, 1) := by decide +kernel
theorem dX10_use_0 : decode cX10_use 0 = .ok (.aload_n 0, 1) := by decide +kernel
theorem dX10_use_1 : decode cX10_use 1 = .ok (.iload_n 1, 1) := by decide +kernel
theorem dX10_use_2 : decode cX10_use 2 = .ok (.invokevirtual 69, 3) := by decide +kernel
theorem dX10_use_5 : decode cX10_use 5 = .ok (.ifCond .eq 10, 3) := by decide +kernel
theorem dX10_use_8 : decode cX10_use 8 = .ok (.aload_n 0, 1) := by decide +kernel
theorem dX10_use_9 : decode cX10_use 9 = .ok (.getfield 22, 3) := by decide +kernel
theorem dX10_use_12 : decode cX10_use 12 = .ok (.iload_n 1, 1) := by decide +kernel
theorem dX10_use_13 : decode cX10_use 13 = .ok (.iconst 1, 1) := by decide +kernel
theorem dX10_use_14 : decode cX10_use 14 = .ok (.bastore, 1) := by decide +kernel
theorem dX10_use_15 : decode cX10_use 15 = .ok (.return_, 1) := by decide +kernel
theorem dX11_about_0 : decode cX11_about 0 = .ok (.iload_n 1, 1) := by decide +kernel
theorem dX11_about_1 : decode cX11_about 1 = .ok (.tableswitch 168 0 12 #[67, 75, 83, 91, 99, 107, 115, 123, 131, 139, 147, 152, 160], 67) := by decide +kernel
theorem dX11_about_68 : decode cX11_about 68 = .ok (.aload_n 0, 1) := by decide +kernel
theorem dX11_about_69 : decode cX11_about 69 = .ok (.getfield 12, 3) := by decide +kernel
theorem dX11_about_72 : decode cX11_about 72 = .ok (.getfield 110, 3) := by decide +kernel
theorem dX11_about_75 : decode cX11_about 75 = .ok (.ireturn, 1) := by decide +kernel
theorem dX11_about_76 : decode cX11_about 76 = .ok (.aload_n 0, 1) := by decide +kernel
theorem dX11_about_77 : decode cX11_about 77 = .ok (.getfield 19, 3) := by decide +kernel
theorem dX11_about_80 : decode cX11_about 80 = .ok (.getfield 130, 3) := by decide +kernel
theorem dX11_about_83 : decode cX11_about 83 = .ok (.ireturn, 1) := by decide +kernel
theorem dX11_about_84 : decode cX11_about 84 = .ok (.aload_n 0, 1) := by decide +kernel
theorem dX11_about_85 : decode cX11_about 85 = .ok (.getfield 28, 3) := by decide +kernel
theorem dX11_about_88 : decode cX11_about 88 = .ok (.getfield 541, 3) := by decide +kernel
theorem dX11_about_91 : decode cX11_about 91 = .ok (.ireturn, 1) := by decide +kernel
theorem dX11_about_92 : decode cX11_about 92 = .ok (.aload_n 0, 1) := by decide +kernel
theorem dX11_about_93 : decode cX11_about 93 = .ok (.getfield 28, 3) := by decide +kernel
theorem dX11_about_96 : decode cX11_about 96 = .ok (.getfield 544, 3) := by decide +kernel
theorem dX11_about_99 : decode cX11_about 99 = .ok (.ireturn, 1) := by decide +kernel
theorem dX11_about_100 : decode cX11_about 100 = .ok (.aload_n 0, 1) := by decide +kernel
theorem dX11_about_101 : decode cX11_about 101 = .ok (.getfield 28, 3) := by decide +kernel
theorem dX11_about_104 : decode cX11_about 104 = .ok (.getfield 228, 3) := by decide +kernel
theorem dX11_about_107 : decode cX11_about 107 = .ok (.ireturn, 1) := by decide +kernel
theorem dX11_about_108 : decode cX11_about 108 = .ok (.aload_n 0, 1) := by decide +kernel
theorem dX11_about_109 : decode cX11_about 109 = .ok (.getfield 35, 3) := by decide +kernel
theorem dX11_about_112 : decode cX11_about 112 = .ok (.getfield 301, 3) := by decide +kernel
theorem dX11_about_115 : decode cX11_about 115 = .ok (.ireturn, 1) := by decide +kernel
theorem dX11_about_116 : decode cX11_about 116 = .ok (.aload_n 0, 1) := by decide +kernel
theorem dX11_about_117 : decode cX11_about 117 = .ok (.getfield 35, 3) := by decide +kernel
theorem dX11_about_120 : decode cX11_about 120 = .ok (.getfield 547, 3) := by decide +kernel
theorem dX11_about_123 : decode cX11_about 123 = .ok (.ireturn, 1) := by decide +kernel
theorem dX11_about_124 : decode cX11_about 124 = .ok (.aload_n 0, 1) := by decide +kernel
theorem dX11_about_125 : decode cX11_about 125 = .ok (.getfield 91, 3) := by decide +kernel
theorem dX11_about_128 : decode cX11_about 128 = .ok (.getfield 530, 3) := by decide +kernel
theorem dX11_about_131 : decode cX11_about 131 = .ok (.ireturn, 1) := by decide +kernel
theorem dX11_about_132 : decode cX11_about 132 = .ok (.aload_n 0, 1) := by decide +kernel
theorem dX11_about_133 : decode cX11_about 133 = .ok (.getfield 91, 3) := by decide +kernel
theorem dX11_about_136 : decode cX11_about 136 = .ok (.getfield 550, 3) := by decide +kernel
theorem dX11_about_139 : decode cX11_about 139 = .ok (.ireturn, 1) := by decide +kernel
theorem dX11_about_140 : decode cX11_about 140 = .ok (.aload_n 0, 1) := by decide +kernel
theorem dX11_about_141 : decode cX11_about 141 = .ok (.getfield 35, 3) := by decide +kernel
theorem dX11_about_144 : decode cX11_about 144 = .ok (.getfield 310, 3) := by decide +kernel
theorem dX11_about_147 : decode cX11_about 147 = .ok (.ireturn, 1) := by decide +kernel
theorem dX11_about_148 : decode cX11_about 148 = .ok (.aload_n 0, 1) := by decide +kernel
theorem dX11_about_149 : decode cX11_about 149 = .ok (.getfield 327, 3) := by decide +kernel
theorem dX11_about_152 : decode cX11_about 152 = .ok (.ireturn, 1) := by decide +kernel
theorem dX11_about_153 : decode cX11_about 153 = .ok (.aload_n 0, 1) := by decide +kernel
theorem dX11_about_154 : decode cX11_about 154 = .ok (.getfield 62, 3) := by decide +kernel
theorem dX11_about_157 : decode cX11_about 157 = .ok (.getfield 465, 3) := by decide +kernel
theorem dX11_about_160 : decode cX11_about 160 = .ok (.ireturn, 1) := by decide +kernel
theorem dX11_about_161 : decode cX11_about 161 = .ok (.aload_n 0, 1) := by decide +kernel
theorem dX11_about_162 : decode cX11_about 162 = .ok (.getfield 77, 3) := by decide +kernel
theorem dX11_about_165 : decode cX11_about 165 = .ok (.getfield 491, 3) := by decide +kernel
theorem dX11_about_168 : decode cX11_about 168 = .ok (.ireturn, 1) := by decide +kernel
theorem dX11_about_169 : decode cX11_about 169 = .ok (.iconst (-1), 1) := by decide +kernel
theorem dX11_about_170 : decode cX11_about 170 = .ok (.ireturn, 1) := by decide +kernel
theorem dX11_answer_0 : decode cX11_answer 0 = .ok (.iload_n 1, 1) := by decide +kernel
theorem dX11_answer_1 : decode cX11_answer 1 = .ok (.ifCond .lt 23, 3) := by decide +kernel
theorem dX11_answer_4 : decode cX11_answer 4 = .ok (.iload_n 1, 1) := by decide +kernel
theorem dX11_answer_5 : decode cX11_answer 5 = .ok (.aload_n 0, 1) := by decide +kernel
theorem dX11_answer_6 : decode cX11_answer 6 = .ok (.getfield 62, 3) := by decide +kernel
theorem dX11_answer_9 : decode cX11_answer 9 = .ok (.getfield 465, 3) := by decide +kernel
theorem dX11_answer_12 : decode cX11_answer 12 = .ok (.if_icmp .ge 12, 3) := by decide +kernel
theorem dX11_answer_15 : decode cX11_answer 15 = .ok (.iload_n 2, 1) := by decide +kernel
theorem dX11_answer_16 : decode cX11_answer 16 = .ok (.ifCond .lt 8, 3) := by decide +kernel
theorem dX11_answer_19 : decode cX11_answer 19 = .ok (.iload_n 2, 1) := by decide +kernel
theorem dX11_answer_20 : decode cX11_answer 20 = .ok (.iconst 2, 1) := by decide +kernel
theorem dX11_answer_21 : decode cX11_answer 21 = .ok (.if_icmp .le 11, 3) := by decide +kernel
theorem dX11_answer_24 : decode cX11_answer 24 = .ok (.new 222, 3) := by decide +kernel
theorem dX11_answer_27 : decode cX11_answer 27 = .ok (.dup, 1) := by decide +kernel
theorem dX11_answer_28 : decode cX11_answer 28 = .ok (.invokespecial 224, 3) := by decide +kernel
theorem dX11_answer_31 : decode cX11_answer 31 = .ok (.athrow, 1) := by decide +kernel
theorem dX11_answer_32 : decode cX11_answer 32 = .ok (.iload_n 2, 1) := by decide +kernel
theorem dX11_answer_33 : decode cX11_answer 33 = .ok (.ifCond .ne 14, 3) := by decide +kernel
theorem dX11_answer_36 : decode cX11_answer 36 = .ok (.aload_n 0, 1) := by decide +kernel
theorem dX11_answer_37 : decode cX11_answer 37 = .ok (.getfield 62, 3) := by decide +kernel
theorem dX11_answer_40 : decode cX11_answer 40 = .ok (.getfield 473, 3) := by decide +kernel
theorem dX11_answer_43 : decode cX11_answer 43 = .ok (.iload_n 1, 1) := by decide +kernel
theorem dX11_answer_44 : decode cX11_answer 44 = .ok (.iaload, 1) := by decide +kernel
theorem dX11_answer_45 : decode cX11_answer 45 = .ok (.i2l, 1) := by decide +kernel
theorem dX11_answer_46 : decode cX11_answer 46 = .ok (.lreturn, 1) := by decide +kernel
theorem dX11_answer_47 : decode cX11_answer 47 = .ok (.iload_n 2, 1) := by decide +kernel
theorem dX11_answer_48 : decode cX11_answer 48 = .ok (.iconst 1, 1) := by decide +kernel
theorem dX11_answer_49 : decode cX11_answer 49 = .ok (.if_icmp .ne 16, 3) := by decide +kernel
theorem dX11_answer_52 : decode cX11_answer 52 = .ok (.aload_n 0, 1) := by decide +kernel
theorem dX11_answer_53 : decode cX11_answer 53 = .ok (.getfield 62, 3) := by decide +kernel
theorem dX11_answer_56 : decode cX11_answer 56 = .ok (.getfield 476, 3) := by decide +kernel
theorem dX11_answer_59 : decode cX11_answer 59 = .ok (.iload_n 1, 1) := by decide +kernel
theorem dX11_answer_60 : decode cX11_answer 60 = .ok (.iaload, 1) := by decide +kernel
theorem dX11_answer_61 : decode cX11_answer 61 = .ok (.i2l, 1) := by decide +kernel
theorem dX11_answer_62 : decode cX11_answer 62 = .ok (.goto 12, 3) := by decide +kernel
theorem dX11_answer_65 : decode cX11_answer 65 = .ok (.aload_n 0, 1) := by decide +kernel
theorem dX11_answer_66 : decode cX11_answer 66 = .ok (.getfield 62, 3) := by decide +kernel
theorem dX11_answer_69 : decode cX11_answer 69 = .ok (.getfield 479, 3) := by decide +kernel
theorem dX11_answer_72 : decode cX11_answer 72 = .ok (.iload_n 1, 1) := by decide +kernel
theorem dX11_answer_73 : decode cX11_answer 73 = .ok (.laload, 1) := by decide +kernel
theorem dX11_answer_74 : decode cX11_answer 74 = .ok (.lreturn, 1) := by decide +kernel
theorem dX11_apart_0 : decode cX11_apart 0 = .ok (.aload_n 0, 1) := by decide +kernel
theorem dX11_apart_1 : decode cX11_apart 1 = .ok (.getfield 19, 3) := by decide +kernel
theorem dX11_apart_4 : decode cX11_apart 4 = .ok (.iload_n 1, 1) := by decide +kernel
theorem dX11_apart_5 : decode cX11_apart 5 = .ok (.invokevirtual 116, 3) := by decide +kernel
theorem dX11_apart_8 : decode cX11_apart 8 = .ok (.ifCond .ne 5, 3) := by decide +kernel
theorem dX11_apart_11 : decode cX11_apart 11 = .ok (.iconst 0, 1) := by decide +kernel
theorem dX11_apart_12 : decode cX11_apart 12 = .ok (.ireturn, 1) := by decide +kernel
theorem dX11_apart_13 : decode cX11_apart 13 = .ok (.aload_n 0, 1) := by decide +kernel
theorem dX11_apart_14 : decode cX11_apart 14 = .ok (.getfield 19, 3) := by decide +kernel
theorem dX11_apart_17 : decode cX11_apart 17 = .ok (.getfield 307, 3) := by decide +kernel
theorem dX11_apart_20 : decode cX11_apart 20 = .ok (.iload_n 1, 1) := by decide +kernel
theorem dX11_apart_21 : decode cX11_apart 21 = .ok (.iload_n 2, 1) := by decide +kernel
theorem dX11_apart_22 : decode cX11_apart 22 = .ok (.bastore, 1) := by decide +kernel
theorem dX11_apart_23 : decode cX11_apart 23 = .ok (.iconst 1, 1) := by decide +kernel
theorem dX11_apart_24 : decode cX11_apart 24 = .ok (.ireturn, 1) := by decide +kernel
theorem dX11_ask_0 : decode cX11_ask 0 = .ok (.iload_n 1, 1) := by decide +kernel
theorem dX11_ask_1 : decode cX11_ask 1 = .ok (.invokestatic 354, 3) := by decide +kernel
theorem dX11_ask_4 : decode cX11_ask 4 = .ok (.aload_n 0, 1) := by decide +kernel
theorem dX11_ask_5 : decode cX11_ask 5 = .ok (.getfield 62, 3) := by decide +kernel
theorem dX11_ask_8 : decode cX11_ask 8 = .ok (.iconst 0, 1) := by decide +kernel
theorem dX11_ask_9 : decode cX11_ask 9 = .ok (.putfield 465, 3) := by decide +kernel
theorem dX11_ask_12 : decode cX11_ask 12 = .ok (.aload_n 0, 1) := by decide +kernel
theorem dX11_ask_13 : decode cX11_ask 13 = .ok (.getfield 55, 3) := by decide +kernel
theorem dX11_ask_16 : decode cX11_ask 16 = .ok (.invokevirtual 467, 3) := by decide +kernel
theorem dX11_ask_19 : decode cX11_ask 19 = .ok (.istore_n 2, 1) := by decide +kernel
theorem dX11_ask_20 : decode cX11_ask 20 = .ok (.aload_n 0, 1) := by decide +kernel
theorem dX11_ask_21 : decode cX11_ask 21 = .ok (.aload_n 0, 1) := by decide +kernel
theorem dX11_ask_22 : decode cX11_ask 22 = .ok (.getfield 55, 3) := by decide +kernel
theorem dX11_ask_25 : decode cX11_ask 25 = .ok (.getfield 334, 3) := by decide +kernel
theorem dX11_ask_28 : decode cX11_ask 28 = .ok (.aload_n 0, 1) := by decide +kernel
theorem dX11_ask_29 : decode cX11_ask 29 = .ok (.getfield 55, 3) := by decide +kernel
theorem dX11_ask_32 : decode cX11_ask 32 = .ok (.getfield 337, 3) := by decide +kernel
theorem dX11_ask_35 : decode cX11_ask 35 = .ok (.invokevirtual 340, 3) := by decide +kernel
theorem dX11_ask_38 : decode cX11_ask 38 = .ok (.iload_n 2, 1) := by decide +kernel
theorem dX11_ask_39 : decode cX11_ask 39 = .ok (.ifCond .eq 37, 3) := by decide +kernel
theorem dX11_ask_42 : decode cX11_ask 42 = .ok (.aload_n 0, 1) := by decide +kernel
theorem dX11_ask_43 : decode cX11_ask 43 = .ok (.getfield 62, 3) := by decide +kernel
theorem dX11_ask_46 : decode cX11_ask 46 = .ok (.aload_n 0, 1) := by decide +kernel
theorem dX11_ask_47 : decode cX11_ask 47 = .ok (.getfield 55, 3) := by decide +kernel
theorem dX11_ask_50 : decode cX11_ask 50 = .ok (.aload_n 0, 1) := by decide +kernel
theorem dX11_ask_51 : decode cX11_ask 51 = .ok (.getfield 41, 3) := by decide +kernel
theorem dX11_ask_54 : decode cX11_ask 54 = .ok (.iload_n 1, 1) := by decide +kernel
theorem dX11_ask_55 : decode cX11_ask 55 = .ok (.aaload, 1) := by decide +kernel
theorem dX11_ask_56 : decode cX11_ask 56 = .ok (.invokevirtual 347, 3) := by decide +kernel
theorem dX11_ask_59 : decode cX11_ask 59 = .ok (.ifCond .ne 17, 3) := by decide +kernel
theorem dX11_ask_62 : decode cX11_ask 62 = .ok (.aload_n 0, 1) := by decide +kernel
theorem dX11_ask_63 : decode cX11_ask 63 = .ok (.getfield 62, 3) := by decide +kernel
theorem dX11_ask_66 : decode cX11_ask 66 = .ok (.iconst 0, 1) := by decide +kernel
theorem dX11_ask_67 : decode cX11_ask 67 = .ok (.putfield 465, 3) := by decide +kernel
theorem dX11_ask_70 : decode cX11_ask 70 = .ok (.aload_n 0, 1) := by decide +kernel
theorem dX11_ask_71 : decode cX11_ask 71 = .ok (.iconst 5, 1) := by decide +kernel
theorem dX11_ask_72 : decode cX11_ask 72 = .ok (.iconst (-1), 1) := by decide +kernel
theorem dX11_ask_73 : decode cX11_ask 73 = .ok (.invokevirtual 340, 3) := by decide +kernel
theorem dX11_ask_76 : decode cX11_ask 76 = .ok (.aload_n 0, 1) := by decide +kernel
theorem dX11_ask_77 : decode cX11_ask 77 = .ok (.getfield 470, 3) := by decide +kernel
theorem dX11_ask_80 : decode cX11_ask 80 = .ok (.ifCond .eq 11, 3) := by decide +kernel
theorem dX11_ask_83 : decode cX11_ask 83 = .ok (.new 127, 3) := by decide +kernel
theorem dX11_ask_86 : decode cX11_ask 86 = .ok (.dup, 1) := by decide +kernel
theorem dX11_ask_87 : decode cX11_ask 87 = .ok (.invokespecial 129, 3) := by decide +kernel
theorem dX11_ask_90 : decode cX11_ask 90 = .ok (.athrow, 1) := by decide +kernel
theorem dX11_ask_91 : decode cX11_ask 91 = .ok (.aload_n 0, 1) := by decide +kernel
theorem dX11_ask_92 : decode cX11_ask 92 = .ok (.getfield 62, 3) := by decide +kernel
theorem dX11_ask_95 : decode cX11_ask 95 = .ok (.getfield 465, 3) := by decide +kernel
theorem dX11_ask_98 : decode cX11_ask 98 = .ok (.ireturn, 1) := by decide +kernel
theorem dX11_broken_0 : decode cX11_broken 0 = .ok (.iload_n 1, 1) := by decide +kernel
theorem dX11_broken_1 : decode cX11_broken 1 = .ok (.ifCond .lt 11, 3) := by decide +kernel
theorem dX11_broken_4 : decode cX11_broken 4 = .ok (.iload_n 1, 1) := by decide +kernel
theorem dX11_broken_5 : decode cX11_broken 5 = .ok (.aload_n 0, 1) := by decide +kernel
theorem dX11_broken_6 : decode cX11_broken 6 = .ok (.getfield 327, 3) := by decide +kernel
theorem dX11_broken_9 : decode cX11_broken 9 = .ok (.if_icmp .lt 11, 3) := by decide +kernel
theorem dX11_broken_12 : decode cX11_broken 12 = .ok (.new 222, 3) := by decide +kernel
theorem dX11_broken_15 : decode cX11_broken 15 = .ok (.dup, 1) := by decide +kernel
theorem dX11_broken_16 : decode cX11_broken 16 = .ok (.invokespecial 224, 3) := by decide +kernel
theorem dX11_broken_19 : decode cX11_broken 19 = .ok (.athrow, 1) := by decide +kernel
theorem dX11_broken_20 : decode cX11_broken 20 = .ok (.aload_n 0, 1) := by decide +kernel
theorem dX11_broken_21 : decode cX11_broken 21 = .ok (.getfield 70, 3) := by decide +kernel
theorem dX11_broken_24 : decode cX11_broken 24 = .ok (.iload_n 1, 1) := by decide +kernel
theorem dX11_broken_25 : decode cX11_broken 25 = .ok (.iaload, 1) := by decide +kernel
theorem dX11_broken_26 : decode cX11_broken 26 = .ok (.ireturn, 1) := by decide +kernel
theorem dX11_bytes_0 : decode cX11_bytes 0 = .ok (.iload_n 1, 1) := by decide +kernel
theorem dX11_bytes_1 : decode cX11_bytes 1 = .ok (.invokestatic 354, 3) := by decide +kernel
theorem dX11_bytes_4 : decode cX11_bytes 4 = .ok (.aload_n 0, 1) := by decide +kernel
theorem dX11_bytes_5 : decode cX11_bytes 5 = .ok (.getfield 91, 3) := by decide +kernel
theorem dX11_bytes_8 : decode cX11_bytes 8 = .ok (.aload_n 0, 1) := by decide +kernel
theorem dX11_bytes_9 : decode cX11_bytes 9 = .ok (.getfield 41, 3) := by decide +kernel
theorem dX11_bytes_12 : decode cX11_bytes 12 = .ok (.iload_n 1, 1) := by decide +kernel
theorem dX11_bytes_13 : decode cX11_bytes 13 = .ok (.aaload, 1) := by decide +kernel
theorem dX11_bytes_14 : decode cX11_bytes 14 = .ok (.invokevirtual 502, 3) := by decide +kernel
theorem dX11_bytes_17 : decode cX11_bytes 17 = .ok (.istore_n 2, 1) := by decide +kernel
theorem dX11_bytes_18 : decode cX11_bytes 18 = .ok (.iload_n 2, 1) := by decide +kernel
theorem dX11_bytes_19 : decode cX11_bytes 19 = .ok (.sipush 4000, 3) := by decide +kernel
theorem dX11_bytes_22 : decode cX11_bytes 22 = .ok (.if_icmp .le 11, 3) := by decide +kernel
theorem dX11_bytes_25 : decode cX11_bytes 25 = .ok (.new 137, 3) := by decide +kernel
theorem dX11_bytes_28 : decode cX11_bytes 28 = .ok (.dup, 1) := by decide +kernel
theorem dX11_bytes_29 : decode cX11_bytes 29 = .ok (.invokespecial 139, 3) := by decide +kernel
theorem dX11_bytes_32 : decode cX11_bytes 32 = .ok (.athrow, 1) := by decide +kernel
theorem dX11_bytes_33 : decode cX11_bytes 33 = .ok (.aload_n 0, 1) := by decide +kernel
theorem dX11_bytes_34 : decode cX11_bytes 34 = .ok (.getfield 91, 3) := by decide +kernel
theorem dX11_bytes_37 : decode cX11_bytes 37 = .ok (.getfield 506, 3) := by decide +kernel
theorem dX11_bytes_40 : decode cX11_bytes 40 = .ok (.iconst 0, 1) := by decide +kernel
theorem dX11_bytes_41 : decode cX11_bytes 41 = .ok (.aload_n 0, 1) := by decide +kernel
theorem dX11_bytes_42 : decode cX11_bytes 42 = .ok (.getfield 12, 3) := by decide +kernel
theorem dX11_bytes_45 : decode cX11_bytes 45 = .ok (.getfield 113, 3) := by decide +kernel
theorem dX11_bytes_48 : decode cX11_bytes 48 = .ok (.iconst 0, 1) := by decide +kernel
theorem dX11_bytes_49 : decode cX11_bytes 49 = .ok (.iload_n 2, 1) := by decide +kernel
theorem dX11_bytes_50 : decode cX11_bytes 50 = .ok (.invokestatic 509, 3) := by decide +kernel
theorem dX11_bytes_53 : decode cX11_bytes 53 = .ok (.aload_n 0, 1) := by decide +kernel
theorem dX11_bytes_54 : decode cX11_bytes 54 = .ok (.getfield 12, 3) := by decide +kernel
theorem dX11_bytes_57 : decode cX11_bytes 57 = .ok (.iload_n 2, 1) := by decide +kernel
theorem dX11_bytes_58 : decode cX11_bytes 58 = .ok (.putfield 110, 3) := by decide +kernel
theorem dX11_bytes_61 : decode cX11_bytes 61 = .ok (.iload_n 2, 1) := by decide +kernel
theorem dX11_bytes_62 : decode cX11_bytes 62 = .ok (.ireturn, 1) := by decide +kernel
theorem dX11_checkPromises_0 : decode cX11_checkPromises 0 = .ok (.iconst 0, 1) := by decide +kernel
theorem dX11_checkPromises_1 : decode cX11_checkPromises 1 = .ok (.istore_n 2, 1) := by decide +kernel
theorem dX11_checkPromises_2 : decode cX11_checkPromises 2 = .ok (.iconst 0, 1) := by decide +kernel
theorem dX11_checkPromises_3 : decode cX11_checkPromises 3 = .ok (.istore_n 3, 1) := by decide +kernel
theorem dX11_checkPromises_4 : decode cX11_checkPromises 4 = .ok (.iload_n 3, 1) := by decide +kernel
theorem dX11_checkPromises_5 : decode cX11_checkPromises 5 = .ok (.aload_n 0, 1) := by decide +kernel
theorem dX11_checkPromises_6 : decode cX11_checkPromises 6 = .ok (.getfield 327, 3) := by decide +kernel
theorem dX11_checkPromises_9 : decode cX11_checkPromises 9 = .ok (.if_icmp .ge 77, 3) := by decide +kernel
theorem dX11_checkPromises_12 : decode cX11_checkPromises 12 = .ok (.aload_n 0, 1) := by decide +kernel
theorem dX11_checkPromises_13 : decode cX11_checkPromises 13 = .ok (.getfield 70, 3) := by decide +kernel
theorem dX11_checkPromises_16 : decode cX11_checkPromises 16 = .ok (.iload_n 3, 1) := by decide +kernel
theorem dX11_checkPromises_17 : decode cX11_checkPromises 17 = .ok (.iaload, 1) := by decide +kernel
theorem dX11_checkPromises_18 : decode cX11_checkPromises 18 = .ok (.bipush (-2), 2) := by decide +kernel
theorem dX11_checkPromises_20 : decode cX11_checkPromises 20 = .ok (.if_icmp .eq 6, 3) := by decide +kernel
theorem dX11_checkPromises_23 : decode cX11_checkPromises 23 = .ok (.goto 57, 3) := by decide +kernel
theorem dX11_checkPromises_26 : decode cX11_checkPromises 26 = .ok (.iload_n 2, 1) := by decide +kernel
theorem dX11_checkPromises_27 : decode cX11_checkPromises 27 = .ok (.ifCond .ne 16, 3) := by decide +kernel
theorem dX11_checkPromises_30 : decode cX11_checkPromises 30 = .ok (.aload_n 0, 1) := by decide +kernel
theorem dX11_checkPromises_31 : decode cX11_checkPromises 31 = .ok (.getfield 46, 3) := by decide +kernel
theorem dX11_checkPromises_34 : decode cX11_checkPromises 34 = .ok (.aload_n 0, 1) := by decide +kernel
theorem dX11_checkPromises_35 : decode cX11_checkPromises 35 = .ok (.getfield 28, 3) := by decide +kernel
theorem dX11_checkPromises_38 : decode cX11_checkPromises 38 = .ok (.invokevirtual 343, 3) := by decide +kernel
theorem dX11_checkPromises_41 : decode cX11_checkPromises 41 = .ok (.iconst 1, 1) := by decide +kernel
theorem dX11_checkPromises_42 : decode cX11_checkPromises 42 = .ok (.istore_n 2, 1) := by decide +kernel
theorem dX11_checkPromises_43 : decode cX11_checkPromises 43 = .ok (.aload_n 0, 1) := by decide +kernel
theorem dX11_checkPromises_44 : decode cX11_checkPromises 44 = .ok (.getfield 62, 3) := by decide +kernel
theorem dX11_checkPromises_47 : decode cX11_checkPromises 47 = .ok (.aload_n 0, 1) := by decide +kernel
theorem dX11_checkPromises_48 : decode cX11_checkPromises 48 = .ok (.getfield 66, 3) := by decide +kernel
theorem dX11_checkPromises_51 : decode cX11_checkPromises 51 = .ok (.iload_n 3, 1) := by decide +kernel
theorem dX11_checkPromises_52 : decode cX11_checkPromises 52 = .ok (.aaload, 1) := by decide +kernel
theorem dX11_checkPromises_53 : decode cX11_checkPromises 53 = .ok (.aload_n 0, 1) := by decide +kernel
theorem dX11_checkPromises_54 : decode cX11_checkPromises 54 = .ok (.getfield 46, 3) := by decide +kernel
theorem dX11_checkPromises_57 : decode cX11_checkPromises 57 = .ok (.invokevirtual 347, 3) := by decide +kernel
theorem dX11_checkPromises_60 : decode cX11_checkPromises 60 = .ok (.ifCond .eq 13, 3) := by decide +kernel
theorem dX11_checkPromises_63 : decode cX11_checkPromises 63 = .ok (.aload_n 0, 1) := by decide +kernel
theorem dX11_checkPromises_64 : decode cX11_checkPromises 64 = .ok (.getfield 62, 3) := by decide +kernel
theorem dX11_checkPromises_67 : decode cX11_checkPromises 67 = .ok (.invokevirtual 351, 3) := by decide +kernel
theorem dX11_checkPromises_70 : decode cX11_checkPromises 70 = .ok (.ifCond .ne 10, 3) := by decide +kernel
theorem dX11_checkPromises_73 : decode cX11_checkPromises 73 = .ok (.aload_n 0, 1) := by decide +kernel
theorem dX11_checkPromises_74 : decode cX11_checkPromises 74 = .ok (.getfield 70, 3) := by decide +kernel
theorem dX11_checkPromises_77 : decode cX11_checkPromises 77 = .ok (.iload_n 3, 1) := by decide +kernel
theorem dX11_checkPromises_78 : decode cX11_checkPromises 78 = .ok (.iload_n 1, 1) := by decide +kernel
theorem dX11_checkPromises_79 : decode cX11_checkPromises 79 = .ok (.iastore, 1) := by decide +kernel
theorem dX11_checkPromises_80 : decode cX11_checkPromises 80 = .ok (.iinc 3 1, 3) := by decide +kernel
theorem dX11_checkPromises_83 : decode cX11_checkPromises 83 = .ok (.goto (-79), 3) := by decide +kernel
theorem dX11_checkPromises_86 : decode cX11_checkPromises 86 = .ok (.return_, 1) := by decide +kernel
theorem dX11_choose_0 : decode cX11_choose 0 = .ok (.aload_n 0, 1) := by decide +kernel
theorem dX11_choose_1 : decode cX11_choose 1 = .ok (.iload_n 1, 1) := by decide +kernel
theorem dX11_choose_2 : decode cX11_choose 2 = .ok (.iload_n 2, 1) := by decide +kernel
theorem dX11_choose_3 : decode cX11_choose 3 = .ok (.invokevirtual 360, 3) := by decide +kernel
theorem dX11_choose_6 : decode cX11_choose 6 = .ok (.ifCond .ne 5, 3) := by decide +kernel
theorem dX11_choose_9 : decode cX11_choose 9 = .ok (.iconst 0, 1) := by decide +kernel
theorem dX11_choose_10 : decode cX11_choose 10 = .ok (.ireturn, 1) := by decide +kernel
theorem dX11_choose_11 : decode cX11_choose 11 = .ok (.aload_n 0, 1) := by decide +kernel
theorem dX11_choose_12 : decode cX11_choose 12 = .ok (.getfield 41, 3) := by decide +kernel
theorem dX11_choose_15 : decode cX11_choose 15 = .ok (.iload_n 1, 1) := by decide +kernel
theorem dX11_choose_16 : decode cX11_choose 16 = .ok (.aaload, 1) := by decide +kernel
theorem dX11_choose_17 : decode cX11_choose 17 = .ok (.getfield 439, 3) := by decide +kernel
theorem dX11_choose_20 : decode cX11_choose 20 = .ok (.iload_n 2, 1) := by decide +kernel
theorem dX11_choose_21 : decode cX11_choose 21 = .ok (.iload_n 3, 1) := by decide +kernel
theorem dX11_choose_22 : decode cX11_choose 22 = .ok (.bastore, 1) := by decide +kernel
theorem dX11_choose_23 : decode cX11_choose 23 = .ok (.iconst 1, 1) := by decide +kernel
theorem dX11_choose_24 : decode cX11_choose 24 = .ok (.ireturn, 1) := by decide +kernel
theorem dX11_collect_0 : decode cX11_collect 0 = .ok (.aload_n 0, 1) := by decide +kernel
theorem dX11_collect_1 : decode cX11_collect 1 = .ok (.getfield 35, 3) := by decide +kernel
theorem dX11_collect_4 : decode cX11_collect 4 = .ok (.invokevirtual 277, 3) := by decide +kernel
theorem dX11_collect_7 : decode cX11_collect 7 = .ok (.aload_n 0, 1) := by decide +kernel
theorem dX11_collect_8 : decode cX11_collect 8 = .ok (.getfield 28, 3) := by decide +kernel
theorem dX11_collect_11 : decode cX11_collect 11 = .ok (.invokevirtual 280, 3) := by decide +kernel
theorem dX11_collect_14 : decode cX11_collect 14 = .ok (.ireturn, 1) := by decide +kernel
theorem dX11_copy_0 : decode cX11_copy 0 = .ok (.aload_n 0, 1) := by decide +kernel
theorem dX11_copy_1 : decode cX11_copy 1 = .ok (.getfield 28, 3) := by decide +kernel
theorem dX11_copy_4 : decode cX11_copy 4 = .ok (.iload_n 1, 1) := by decide +kernel
theorem dX11_copy_5 : decode cX11_copy 5 = .ok (.invokevirtual 219, 3) := by decide +kernel
theorem dX11_copy_8 : decode cX11_copy 8 = .ok (.ifCond .ne 11, 3) := by decide +kernel
theorem dX11_copy_11 : decode cX11_copy 11 = .ok (.new 222, 3) := by decide +kernel
theorem dX11_copy_14 : decode cX11_copy 14 = .ok (.dup, 1) := by decide +kernel
theorem dX11_copy_15 : decode cX11_copy 15 = .ok (.invokespecial 224, 3) := by decide +kernel
theorem dX11_copy_18 : decode cX11_copy 18 = .ok (.athrow, 1) := by decide +kernel
theorem dX11_copy_19 : decode cX11_copy 19 = .ok (.iload_n 2, 1) := by decide +kernel
theorem dX11_copy_20 : decode cX11_copy 20 = .ok (.ifCond .lt 8, 3) := by decide +kernel
theorem dX11_copy_23 : decode cX11_copy 23 = .ok (.iload_n 2, 1) := by decide +kernel
theorem dX11_copy_24 : decode cX11_copy 24 = .ok (.iconst 2, 1) := by decide +kernel
theorem dX11_copy_25 : decode cX11_copy 25 = .ok (.if_icmp .le 11, 3) := by decide +kernel
theorem dX11_copy_28 : decode cX11_copy 28 = .ok (.new 127, 3) := by decide +kernel
theorem dX11_copy_31 : decode cX11_copy 31 = .ok (.dup, 1) := by decide +kernel
theorem dX11_copy_32 : decode cX11_copy 32 = .ok (.invokespecial 129, 3) := by decide +kernel
theorem dX11_copy_35 : decode cX11_copy 35 = .ok (.athrow, 1) := by decide +kernel
theorem dX11_copy_36 : decode cX11_copy 36 = .ok (.aload_n 0, 1) := by decide +kernel
theorem dX11_copy_37 : decode cX11_copy 37 = .ok (.getfield 28, 3) := by decide +kernel
theorem dX11_copy_40 : decode cX11_copy 40 = .ok (.iload_n 1, 1) := by decide +kernel
theorem dX11_copy_41 : decode cX11_copy 41 = .ok (.iload_n 2, 1) := by decide +kernel
theorem dX11_copy_42 : decode cX11_copy 42 = .ok (.invokevirtual 304, 3) := by decide +kernel
theorem dX11_copy_45 : decode cX11_copy 45 = .ok (.istore_n 3, 1) := by decide +kernel
theorem dX11_copy_46 : decode cX11_copy 46 = .ok (.iload_n 3, 1) := by decide +kernel
theorem dX11_copy_47 : decode cX11_copy 47 = .ok (.iconst (-1), 1) := by decide +kernel
theorem dX11_copy_48 : decode cX11_copy 48 = .ok (.if_icmp .ne 11, 3) := by decide +kernel
theorem dX11_copy_51 : decode cX11_copy 51 = .ok (.new 137, 3) := by decide +kernel
theorem dX11_copy_54 : decode cX11_copy 54 = .ok (.dup, 1) := by decide +kernel
theorem dX11_copy_55 : decode cX11_copy 55 = .ok (.invokespecial 139, 3) := by decide +kernel
theorem dX11_copy_58 : decode cX11_copy 58 = .ok (.athrow, 1) := by decide +kernel
theorem dX11_copy_59 : decode cX11_copy 59 = .ok (.iload_n 3, 1) := by decide +kernel
theorem dX11_copy_60 : decode cX11_copy 60 = .ok (.ireturn, 1) := by decide +kernel
theorem dX11_cut_0 : decode cX11_cut 0 = .ok (.iload_n 1, 1) := by decide +kernel
theorem dX11_cut_1 : decode cX11_cut 1 = .ok (.ifCond .lt 14, 3) := by decide +kernel
theorem dX11_cut_4 : decode cX11_cut 4 = .ok (.iload_n 1, 1) := by decide +kernel
theorem dX11_cut_5 : decode cX11_cut 5 = .ok (.aload_n 0, 1) := by decide +kernel
theorem dX11_cut_6 : decode cX11_cut 6 = .ok (.getfield 12, 3) := by decide +kernel
theorem dX11_cut_9 : decode cX11_cut 9 = .ok (.getfield 110, 3) := by decide +kernel
theorem dX11_cut_12 : decode cX11_cut 12 = .ok (.if_icmp .le 5, 3) := by decide +kernel
theorem dX11_cut_15 : decode cX11_cut 15 = .ok (.iconst 0, 1) := by decide +kernel
theorem dX11_cut_16 : decode cX11_cut 16 = .ok (.ireturn, 1) := by decide +kernel
theorem dX11_cut_17 : decode cX11_cut 17 = .ok (.aload_n 0, 1) := by decide +kernel
theorem dX11_cut_18 : decode cX11_cut 18 = .ok (.getfield 12, 3) := by decide +kernel
theorem dX11_cut_21 : decode cX11_cut 21 = .ok (.iload_n 1, 1) := by decide +kernel
theorem dX11_cut_22 : decode cX11_cut 22 = .ok (.putfield 110, 3) := by decide +kernel
theorem dX11_cut_25 : decode cX11_cut 25 = .ok (.iconst 1, 1) := by decide +kernel
theorem dX11_cut_26 : decode cX11_cut 26 = .ok (.ireturn, 1) := by decide +kernel
theorem dX11_end_0 : decode cX11_end 0 = .ok (.aload_n 0, 1) := by decide +kernel
theorem dX11_end_1 : decode cX11_end 1 = .ok (.getfield 12, 3) := by decide +kernel
theorem dX11_end_4 : decode cX11_end 4 = .ok (.iload_n 1, 1) := by decide +kernel
theorem dX11_end_5 : decode cX11_end 5 = .ok (.invokevirtual 106, 3) := by decide +kernel
theorem dX11_end_8 : decode cX11_end 8 = .ok (.ireturn, 1) := by decide +kernel
theorem dX11_exchange_0 : decode cX11_exchange 0 = .ok (.aload_n 0, 1) := by decide +kernel
theorem dX11_exchange_1 : decode cX11_exchange 1 = .ok (.getfield 41, 3) := by decide +kernel
theorem dX11_exchange_4 : decode cX11_exchange 4 = .ok (.iload_n 1, 1) := by decide +kernel
theorem dX11_exchange_5 : decode cX11_exchange 5 = .ok (.aaload, 1) := by decide +kernel
theorem dX11_exchange_6 : decode cX11_exchange 6 = .ok (.astore_n 2, 1) := by decide +kernel
theorem dX11_exchange_7 : decode cX11_exchange 7 = .ok (.aload_n 0, 1) := by decide +kernel
theorem dX11_exchange_8 : decode cX11_exchange 8 = .ok (.getfield 41, 3) := by decide +kernel
theorem dX11_exchange_11 : decode cX11_exchange 11 = .ok (.iload_n 1, 1) := by decide +kernel
theorem dX11_exchange_12 : decode cX11_exchange 12 = .ok (.aload_n 0, 1) := by decide +kernel
theorem dX11_exchange_13 : decode cX11_exchange 13 = .ok (.getfield 46, 3) := by decide +kernel
theorem dX11_exchange_16 : decode cX11_exchange 16 = .ok (.aastore, 1) := by decide +kernel
theorem dX11_exchange_17 : decode cX11_exchange 17 = .ok (.aload_n 0, 1) := by decide +kernel
theorem dX11_exchange_18 : decode cX11_exchange 18 = .ok (.aload_n 2, 1) := by decide +kernel
theorem dX11_exchange_19 : decode cX11_exchange 19 = .ok (.putfield 46, 3) := by decide +kernel
theorem dX11_exchange_22 : decode cX11_exchange 22 = .ok (.aload_n 0, 1) := by decide +kernel
theorem dX11_exchange_23 : decode cX11_exchange 23 = .ok (.getfield 41, 3) := by decide +kernel
theorem dX11_exchange_26 : decode cX11_exchange 26 = .ok (.iload_n 1, 1) := by decide +kernel
theorem dX11_exchange_27 : decode cX11_exchange 27 = .ok (.aaload, 1) := by decide +kernel
theorem dX11_exchange_28 : decode cX11_exchange 28 = .ok (.getfield 357, 3) := by decide +kernel
theorem dX11_exchange_31 : decode cX11_exchange 31 = .ok (.ireturn, 1) := by decide +kernel
theorem dX11_facts_0 : decode cX11_facts 0 = .ok (.iload_n 1, 1) := by decide +kernel
theorem dX11_facts_1 : decode cX11_facts 1 = .ok (.ifCond .lt 25, 3) := by decide +kernel
theorem dX11_facts_4 : decode cX11_facts 4 = .ok (.iload_n 1, 1) := by decide +kernel
theorem dX11_facts_5 : decode cX11_facts 5 = .ok (.aload_n 0, 1) := by decide +kernel
theorem dX11_facts_6 : decode cX11_facts 6 = .ok (.getfield 77, 3) := by decide +kernel
theorem dX11_facts_9 : decode cX11_facts 9 = .ok (.getfield 491, 3) := by decide +kernel
theorem dX11_facts_12 : decode cX11_facts 12 = .ok (.if_icmp .ge 14, 3) := by decide +kernel
theorem dX11_facts_15 : decode cX11_facts 15 = .ok (.aload_n 0, 1) := by decide +kernel
theorem dX11_facts_16 : decode cX11_facts 16 = .ok (.getfield 84, 3) := by decide +kernel
theorem dX11_facts_19 : decode cX11_facts 19 = .ok (.iload_n 1, 1) := by decide +kernel
theorem dX11_facts_20 : decode cX11_facts 20 = .ok (.invokevirtual 494, 3) := by decide +kernel
theorem dX11_facts_23 : decode cX11_facts 23 = .ok (.goto 4, 3) := by decide +kernel
theorem dX11_facts_26 : decode cX11_facts 26 = .ok (.iconst (-1), 1) := by decide +kernel
theorem dX11_facts_27 : decode cX11_facts 27 = .ok (.ireturn, 1) := by decide +kernel
theorem dX11_fault_0 : decode cX11_fault 0 = .ok (.iload_n 1, 1) := by decide +kernel
theorem dX11_fault_1 : decode cX11_fault 1 = .ok (.ifCond .ne 8, 3) := by decide +kernel
theorem dX11_fault_4 : decode cX11_fault 4 = .ok (.aload_n 0, 1) := by decide +kernel
theorem dX11_fault_5 : decode cX11_fault 5 = .ok (.getfield 470, 3) := by decide +kernel
theorem dX11_fault_8 : decode cX11_fault 8 = .ok (.ireturn, 1) := by decide +kernel
theorem dX11_fault_9 : decode cX11_fault 9 = .ok (.iload_n 1, 1) := by decide +kernel
theorem dX11_fault_10 : decode cX11_fault 10 = .ok (.iconst 1, 1) := by decide +kernel
theorem dX11_fault_11 : decode cX11_fault 11 = .ok (.if_icmp .ne 10, 3) := by decide +kernel
theorem dX11_fault_14 : decode cX11_fault 14 = .ok (.aload_n 0, 1) := by decide +kernel
theorem dX11_fault_15 : decode cX11_fault 15 = .ok (.getfield 98, 3) := by decide +kernel
theorem dX11_fault_18 : decode cX11_fault 18 = .ok (.goto 4, 3) := by decide +kernel
theorem dX11_fault_21 : decode cX11_fault 21 = .ok (.iconst (-1), 1) := by decide +kernel
theorem dX11_fault_22 : decode cX11_fault 22 = .ok (.ireturn, 1) := by decide +kernel
theorem dX11_feed_0 : decode cX11_feed 0 = .ok (.aload_n 0, 1) := by decide +kernel
theorem dX11_feed_1 : decode cX11_feed 1 = .ok (.getfield 12, 3) := by decide +kernel
theorem dX11_feed_4 : decode cX11_feed 4 = .ok (.iconst 0, 1) := by decide +kernel
theorem dX11_feed_5 : decode cX11_feed 5 = .ok (.iload_n 1, 1) := by decide +kernel
theorem dX11_feed_6 : decode cX11_feed 6 = .ok (.invokevirtual 102, 3) := by decide +kernel
theorem dX11_feed_9 : decode cX11_feed 9 = .ok (.aload_n 0, 1) := by decide +kernel
theorem dX11_feed_10 : decode cX11_feed 10 = .ok (.getfield 12, 3) := by decide +kernel
theorem dX11_feed_13 : decode cX11_feed 13 = .ok (.iconst 4, 1) := by decide +kernel
theorem dX11_feed_14 : decode cX11_feed 14 = .ok (.iload_n 2, 1) := by decide +kernel
theorem dX11_feed_15 : decode cX11_feed 15 = .ok (.invokevirtual 102, 3) := by decide +kernel
theorem dX11_feed_18 : decode cX11_feed 18 = .ok (.aload_n 0, 1) := by decide +kernel
theorem dX11_feed_19 : decode cX11_feed 19 = .ok (.getfield 12, 3) := by decide +kernel
theorem dX11_feed_22 : decode cX11_feed 22 = .ok (.bipush 8, 2) := by decide +kernel
theorem dX11_feed_24 : decode cX11_feed 24 = .ok (.iload_n 3, 1) := by decide +kernel
theorem dX11_feed_25 : decode cX11_feed 25 = .ok (.invokevirtual 102, 3) := by decide +kernel
theorem dX11_feed_28 : decode cX11_feed 28 = .ok (.aload_n 0, 1) := by decide +kernel
theorem dX11_feed_29 : decode cX11_feed 29 = .ok (.getfield 12, 3) := by decide +kernel
theorem dX11_feed_32 : decode cX11_feed 32 = .ok (.bipush 12, 2) := by decide +kernel
theorem dX11_feed_34 : decode cX11_feed 34 = .ok (.iload 4, 2) := by decide +kernel
theorem dX11_feed_36 : decode cX11_feed 36 = .ok (.invokevirtual 102, 3) := by decide +kernel
theorem dX11_feed_39 : decode cX11_feed 39 = .ok (.aload_n 0, 1) := by decide +kernel
theorem dX11_feed_40 : decode cX11_feed 40 = .ok (.getfield 12, 3) := by decide +kernel
theorem dX11_feed_43 : decode cX11_feed 43 = .ok (.bipush 16, 2) := by decide +kernel
theorem dX11_feed_45 : decode cX11_feed 45 = .ok (.iload 5, 2) := by decide +kernel
theorem dX11_feed_47 : decode cX11_feed 47 = .ok (.invokevirtual 102, 3) := by decide +kernel
theorem dX11_feed_50 : decode cX11_feed 50 = .ok (.return_, 1) := by decide +kernel
theorem dX11_field_0 : decode cX11_field 0 = .ok (.aload_n 0, 1) := by decide +kernel
theorem dX11_field_1 : decode cX11_field 1 = .ok (.getfield 19, 3) := by decide +kernel
theorem dX11_field_4 : decode cX11_field 4 = .ok (.iload_n 1, 1) := by decide +kernel
theorem dX11_field_5 : decode cX11_field 5 = .ok (.invokevirtual 116, 3) := by decide +kernel
theorem dX11_field_8 : decode cX11_field 8 = .ok (.ifCond .ne 11, 3) := by decide +kernel
theorem dX11_field_11 : decode cX11_field 11 = .ok (.new 120, 3) := by decide +kernel
theorem dX11_field_14 : decode cX11_field 14 = .ok (.dup, 1) := by decide +kernel
theorem dX11_field_15 : decode cX11_field 15 = .ok (.invokespecial 122, 3) := by decide +kernel
theorem dX11_field_18 : decode cX11_field 18 = .ok (.athrow, 1) := by decide +kernel
theorem dX11_field_19 : decode cX11_field 19 = .ok (.aload_n 0, 1) := by decide +kernel
theorem dX11_field_20 : decode cX11_field 20 = .ok (.getfield 12, 3) := by decide +kernel
theorem dX11_field_23 : decode cX11_field 23 = .ok (.invokevirtual 123, 3) := by decide +kernel
theorem dX11_field_26 : decode cX11_field 26 = .ok (.lstore 5, 2) := by decide +kernel
theorem dX11_field_28 : decode cX11_field 28 = .ok (.lload 5, 2) := by decide +kernel
theorem dX11_field_30 : decode cX11_field 30 = .ok (.lconst 0, 1) := by decide +kernel
theorem dX11_field_31 : decode cX11_field 31 = .ok (.lcmp, 1) := by decide +kernel
theorem dX11_field_32 : decode cX11_field 32 = .ok (.ifCond .eq 33, 3) := by decide +kernel
theorem dX11_field_35 : decode cX11_field 35 = .ok (.iload_n 2, 1) := by decide +kernel
theorem dX11_field_36 : decode cX11_field 36 = .ok (.ifCond .lt 29, 3) := by decide +kernel
theorem dX11_field_39 : decode cX11_field 39 = .ok (.iload_n 2, 1) := by decide +kernel
theorem dX11_field_40 : decode cX11_field 40 = .ok (.iconst 5, 1) := by decide +kernel
theorem dX11_field_41 : decode cX11_field 41 = .ok (.if_icmp .gt 24, 3) := by decide +kernel
theorem dX11_field_44 : decode cX11_field 44 = .ok (.iload_n 2, 1) := by decide +kernel
theorem dX11_field_45 : decode cX11_field 45 = .ok (.iconst 5, 1) := by decide +kernel
theorem dX11_field_46 : decode cX11_field 46 = .ok (.if_icmp .ne 27, 3) := by decide +kernel
theorem dX11_field_49 : decode cX11_field 49 = .ok (.iload_n 3, 1) := by decide +kernel
theorem dX11_field_50 : decode cX11_field 50 = .ok (.iconst (-1), 1) := by decide +kernel
theorem dX11_field_51 : decode cX11_field 51 = .ok (.if_icmp .eq 22, 3) := by decide +kernel
theorem dX11_field_54 : decode cX11_field 54 = .ok (.aload_n 0, 1) := by decide +kernel
theorem dX11_field_55 : decode cX11_field 55 = .ok (.getfield 19, 3) := by decide +kernel
theorem dX11_field_58 : decode cX11_field 58 = .ok (.iload_n 3, 1) := by decide +kernel
theorem dX11_field_59 : decode cX11_field 59 = .ok (.invokevirtual 144, 3) := by decide +kernel
theorem dX11_field_62 : decode cX11_field 62 = .ok (.ifCond .ne 11, 3) := by decide +kernel
theorem dX11_field_65 : decode cX11_field 65 = .ok (.new 127, 3) := by decide +kernel
theorem dX11_field_68 : decode cX11_field 68 = .ok (.dup, 1) := by decide +kernel
theorem dX11_field_69 : decode cX11_field 69 = .ok (.invokespecial 129, 3) := by decide +kernel
theorem dX11_field_72 : decode cX11_field 72 = .ok (.athrow, 1) := by decide +kernel
theorem dX11_field_73 : decode cX11_field 73 = .ok (.aload_n 0, 1) := by decide +kernel
theorem dX11_field_74 : decode cX11_field 74 = .ok (.getfield 19, 3) := by decide +kernel
theorem dX11_field_77 : decode cX11_field 77 = .ok (.getfield 147, 3) := by decide +kernel
theorem dX11_field_80 : decode cX11_field 80 = .ok (.iload_n 1, 1) := by decide +kernel
theorem dX11_field_81 : decode cX11_field 81 = .ok (.baload, 1) := by decide +kernel
theorem dX11_field_82 : decode cX11_field 82 = .ok (.ifCond .ne 30, 3) := by decide +kernel
theorem dX11_field_85 : decode cX11_field 85 = .ok (.aload_n 0, 1) := by decide +kernel
theorem dX11_field_86 : decode cX11_field 86 = .ok (.getfield 19, 3) := by decide +kernel
theorem dX11_field_89 : decode cX11_field 89 = .ok (.getfield 151, 3) := by decide +kernel
theorem dX11_field_92 : decode cX11_field 92 = .ok (.iload_n 1, 1) := by decide +kernel
theorem dX11_field_93 : decode cX11_field 93 = .ok (.iaload, 1) := by decide +kernel
theorem dX11_field_94 : decode cX11_field 94 = .ok (.bipush 6, 2) := by decide +kernel
theorem dX11_field_96 : decode cX11_field 96 = .ok (.if_icmp .eq 16, 3) := by decide +kernel
theorem dX11_field_99 : decode cX11_field 99 = .ok (.aload_n 0, 1) := by decide +kernel
theorem dX11_field_100 : decode cX11_field 100 = .ok (.getfield 19, 3) := by decide +kernel
theorem dX11_field_103 : decode cX11_field 103 = .ok (.iload_n 1, 1) := by decide +kernel
theorem dX11_field_104 : decode cX11_field 104 = .ok (.lload 5, 2) := by decide +kernel
theorem dX11_field_106 : decode cX11_field 106 = .ok (.invokevirtual 154, 3) := by decide +kernel
theorem dX11_field_109 : decode cX11_field 109 = .ok (.ifCond .eq 11, 3) := by decide +kernel
theorem dX11_field_112 : decode cX11_field 112 = .ok (.new 137, 3) := by decide +kernel
theorem dX11_field_115 : decode cX11_field 115 = .ok (.dup, 1) := by decide +kernel
theorem dX11_field_116 : decode cX11_field 116 = .ok (.invokespecial 139, 3) := by decide +kernel
theorem dX11_field_119 : decode cX11_field 119 = .ok (.athrow, 1) := by decide +kernel
theorem dX11_field_120 : decode cX11_field 120 = .ok (.aload_n 0, 1) := by decide +kernel
theorem dX11_field_121 : decode cX11_field 121 = .ok (.getfield 12, 3) := by decide +kernel
theorem dX11_field_124 : decode cX11_field 124 = .ok (.iconst 0, 1) := by decide +kernel
theorem dX11_field_125 : decode cX11_field 125 = .ok (.putfield 110, 3) := by decide +kernel
theorem dX11_field_128 : decode cX11_field 128 = .ok (.aload_n 0, 1) := by decide +kernel
theorem dX11_field_129 : decode cX11_field 129 = .ok (.getfield 19, 3) := by decide +kernel
theorem dX11_field_132 : decode cX11_field 132 = .ok (.iload_n 1, 1) := by decide +kernel
theorem dX11_field_133 : decode cX11_field 133 = .ok (.lload 5, 2) := by decide +kernel
theorem dX11_field_135 : decode cX11_field 135 = .ok (.iload_n 2, 1) := by decide +kernel
theorem dX11_field_136 : decode cX11_field 136 = .ok (.iload_n 2, 1) := by decide +kernel
theorem dX11_field_137 : decode cX11_field 137 = .ok (.iconst 5, 1) := by decide +kernel
theorem dX11_field_138 : decode cX11_field 138 = .ok (.if_icmp .ne 7, 3) := by decide +kernel
theorem dX11_field_141 : decode cX11_field 141 = .ok (.iload_n 3, 1) := by decide +kernel
theorem dX11_field_142 : decode cX11_field 142 = .ok (.goto 4, 3) := by decide +kernel
theorem dX11_field_145 : decode cX11_field 145 = .ok (.iconst (-1), 1) := by decide +kernel
theorem dX11_field_146 : decode cX11_field 146 = .ok (.iload 4, 2) := by decide +kernel
theorem dX11_field_148 : decode cX11_field 148 = .ok (.invokevirtual 157, 3) := by decide +kernel
theorem dX11_field_151 : decode cX11_field 151 = .ok (.istore 7, 2) := by decide +kernel
theorem dX11_field_153 : decode cX11_field 153 = .ok (.aload_n 0, 1) := by decide +kernel
theorem dX11_field_154 : decode cX11_field 154 = .ok (.getfield 28, 3) := by decide +kernel
theorem dX11_field_157 : decode cX11_field 157 = .ok (.getfield 161, 3) := by decide +kernel
theorem dX11_field_160 : decode cX11_field 160 = .ok (.iload_n 1, 1) := by decide +kernel
theorem dX11_field_161 : decode cX11_field 161 = .ok (.bipush 6, 2) := by decide +kernel
theorem dX11_field_163 : decode cX11_field 163 = .ok (.imul, 1) := by decide +kernel
theorem dX11_field_164 : decode cX11_field 164 = .ok (.iload 7, 2) := by decide +kernel
theorem dX11_field_166 : decode cX11_field 166 = .ok (.iadd, 1) := by decide +kernel
theorem dX11_field_167 : decode cX11_field 167 = .ok (.iload_n 2, 1) := by decide +kernel
theorem dX11_field_168 : decode cX11_field 168 = .ok (.invokestatic 165, 3) := by decide +kernel
theorem dX11_field_171 : decode cX11_field 171 = .ok (.lastore, 1) := by decide +kernel
theorem dX11_field_172 : decode cX11_field 172 = .ok (.iload 7, 2) := by decide +kernel
theorem dX11_field_174 : decode cX11_field 174 = .ok (.ireturn, 1) := by decide +kernel
theorem dX11_fieldLook_0 : decode cX11_fieldLook 0 = .ok (.aload_n 0, 1) := by decide +kernel
theorem dX11_fieldLook_1 : decode cX11_fieldLook 1 = .ok (.getfield 19, 3) := by decide +kernel
theorem dX11_fieldLook_4 : decode cX11_fieldLook 4 = .ok (.iload_n 1, 1) := by decide +kernel
theorem dX11_fieldLook_5 : decode cX11_fieldLook 5 = .ok (.iload_n 2, 1) := by decide +kernel
theorem dX11_fieldLook_6 : decode cX11_fieldLook 6 = .ok (.invokevirtual 188, 3) := by decide +kernel
theorem dX11_fieldLook_9 : decode cX11_fieldLook 9 = .ok (.ifCond .ne 5, 3) := by decide +kernel
theorem dX11_fieldLook_12 : decode cX11_fieldLook 12 = .ok (.iconst (-1), 1) := by decide +kernel
theorem dX11_fieldLook_13 : decode cX11_fieldLook 13 = .ok (.ireturn, 1) := by decide +kernel
theorem dX11_fieldLook_14 : decode cX11_fieldLook 14 = .ok (.iload_n 1, 1) := by decide +kernel
theorem dX11_fieldLook_15 : decode cX11_fieldLook 15 = .ok (.bipush 6, 2) := by decide +kernel
theorem dX11_fieldLook_17 : decode cX11_fieldLook 17 = .ok (.imul, 1) := by decide +kernel
theorem dX11_fieldLook_18 : decode cX11_fieldLook 18 = .ok (.iload_n 2, 1) := by decide +kernel
theorem dX11_fieldLook_19 : decode cX11_fieldLook 19 = .ok (.iadd, 1) := by decide +kernel
theorem dX11_fieldLook_20 : decode cX11_fieldLook 20 = .ok (.istore 4, 2) := by decide +kernel
theorem dX11_fieldLook_22 : decode cX11_fieldLook 22 = .ok (.iload_n 3, 1) := by decide +kernel
theorem dX11_fieldLook_23 : decode cX11_fieldLook 23 = .ok (.tableswitch 112 0 4 #[33, 44, 55, 74, 85], 33) := by decide +kernel
theorem dX11_fieldLook_56 : decode cX11_fieldLook 56 = .ok (.aload_n 0, 1) := by decide +kernel
theorem dX11_fieldLook_57 : decode cX11_fieldLook 57 = .ok (.getfield 19, 3) := by decide +kernel
theorem dX11_fieldLook_60 : decode cX11_fieldLook 60 = .ok (.getfield 192, 3) := by decide +kernel
theorem dX11_fieldLook_63 : decode cX11_fieldLook 63 = .ok (.iload 4, 2) := by decide +kernel
theorem dX11_fieldLook_65 : decode cX11_fieldLook 65 = .ok (.iaload, 1) := by decide +kernel
theorem dX11_fieldLook_66 : decode cX11_fieldLook 66 = .ok (.ireturn, 1) := by decide +kernel
theorem dX11_fieldLook_67 : decode cX11_fieldLook 67 = .ok (.aload_n 0, 1) := by decide +kernel
theorem dX11_fieldLook_68 : decode cX11_fieldLook 68 = .ok (.getfield 19, 3) := by decide +kernel
theorem dX11_fieldLook_71 : decode cX11_fieldLook 71 = .ok (.getfield 195, 3) := by decide +kernel
theorem dX11_fieldLook_74 : decode cX11_fieldLook 74 = .ok (.iload 4, 2) := by decide +kernel
theorem dX11_fieldLook_76 : decode cX11_fieldLook 76 = .ok (.iaload, 1) := by decide +kernel
theorem dX11_fieldLook_77 : decode cX11_fieldLook 77 = .ok (.ireturn, 1) := by decide +kernel
theorem dX11_fieldLook_78 : decode cX11_fieldLook 78 = .ok (.aload_n 0, 1) := by decide +kernel
theorem dX11_fieldLook_79 : decode cX11_fieldLook 79 = .ok (.getfield 19, 3) := by decide +kernel
theorem dX11_fieldLook_82 : decode cX11_fieldLook 82 = .ok (.getfield 198, 3) := by decide +kernel
theorem dX11_fieldLook_85 : decode cX11_fieldLook 85 = .ok (.iload 4, 2) := by decide +kernel
theorem dX11_fieldLook_87 : decode cX11_fieldLook 87 = .ok (.baload, 1) := by decide +kernel
theorem dX11_fieldLook_88 : decode cX11_fieldLook 88 = .ok (.ifCond .eq 7, 3) := by decide +kernel
theorem dX11_fieldLook_91 : decode cX11_fieldLook 91 = .ok (.iconst 1, 1) := by decide +kernel
theorem dX11_fieldLook_92 : decode cX11_fieldLook 92 = .ok (.goto 4, 3) := by decide +kernel
theorem dX11_fieldLook_95 : decode cX11_fieldLook 95 = .ok (.iconst 0, 1) := by decide +kernel
theorem dX11_fieldLook_96 : decode cX11_fieldLook 96 = .ok (.ireturn, 1) := by decide +kernel
theorem dX11_fieldLook_97 : decode cX11_fieldLook 97 = .ok (.aload_n 0, 1) := by decide +kernel
theorem dX11_fieldLook_98 : decode cX11_fieldLook 98 = .ok (.getfield 19, 3) := by decide +kernel
theorem dX11_fieldLook_101 : decode cX11_fieldLook 101 = .ok (.getfield 201, 3) := by decide +kernel
theorem dX11_fieldLook_104 : decode cX11_fieldLook 104 = .ok (.iload 4, 2) := by decide +kernel
theorem dX11_fieldLook_106 : decode cX11_fieldLook 106 = .ok (.iaload, 1) := by decide +kernel
theorem dX11_fieldLook_107 : decode cX11_fieldLook 107 = .ok (.ireturn, 1) := by decide +kernel
theorem dX11_fieldLook_108 : decode cX11_fieldLook 108 = .ok (.aload_n 0, 1) := by decide +kernel
theorem dX11_fieldLook_109 : decode cX11_fieldLook 109 = .ok (.getfield 19, 3) := by decide +kernel
theorem dX11_fieldLook_112 : decode cX11_fieldLook 112 = .ok (.getfield 198, 3) := by decide +kernel
theorem dX11_fieldLook_115 : decode cX11_fieldLook 115 = .ok (.iload 4, 2) := by decide +kernel
theorem dX11_fieldLook_117 : decode cX11_fieldLook 117 = .ok (.baload, 1) := by decide +kernel
theorem dX11_fieldLook_118 : decode cX11_fieldLook 118 = .ok (.ifCond .eq 7, 3) := by decide +kernel
theorem dX11_fieldLook_121 : decode cX11_fieldLook 121 = .ok (.iconst (-1), 1) := by decide +kernel
theorem dX11_fieldLook_122 : decode cX11_fieldLook 122 = .ok (.goto 12, 3) := by decide +kernel
theorem dX11_fieldLook_125 : decode cX11_fieldLook 125 = .ok (.aload_n 0, 1) := by decide +kernel
theorem dX11_fieldLook_126 : decode cX11_fieldLook 126 = .ok (.getfield 19, 3) := by decide +kernel
theorem dX11_fieldLook_129 : decode cX11_fieldLook 129 = .ok (.iload_n 1, 1) := by decide +kernel
theorem dX11_fieldLook_130 : decode cX11_fieldLook 130 = .ok (.iload_n 2, 1) := by decide +kernel
theorem dX11_fieldLook_131 : decode cX11_fieldLook 131 = .ok (.invokevirtual 204, 3) := by decide +kernel
theorem dX11_fieldLook_134 : decode cX11_fieldLook 134 = .ok (.ireturn, 1) := by decide +kernel
theorem dX11_fieldLook_135 : decode cX11_fieldLook 135 = .ok (.iconst (-1), 1) := by decide +kernel
theorem dX11_fieldLook_136 : decode cX11_fieldLook 136 = .ok (.ireturn, 1) := by decide +kernel
theorem dX11_flip_0 : decode cX11_flip 0 = .ok (.iload_n 1, 1) := by decide +kernel
theorem dX11_flip_1 : decode cX11_flip 1 = .ok (.ifCond .lt 24, 3) := by decide +kernel
theorem dX11_flip_4 : decode cX11_flip 4 = .ok (.iload_n 1, 1) := by decide +kernel
theorem dX11_flip_5 : decode cX11_flip 5 = .ok (.aload_n 0, 1) := by decide +kernel
theorem dX11_flip_6 : decode cX11_flip 6 = .ok (.getfield 12, 3) := by decide +kernel
theorem dX11_flip_9 : decode cX11_flip 9 = .ok (.getfield 110, 3) := by decide +kernel
theorem dX11_flip_12 : decode cX11_flip 12 = .ok (.if_icmp .ge 13, 3) := by decide +kernel
theorem dX11_flip_15 : decode cX11_flip 15 = .ok (.iload_n 2, 1) := by decide +kernel
theorem dX11_flip_16 : decode cX11_flip 16 = .ok (.ifCond .lt 9, 3) := by decide +kernel
theorem dX11_flip_19 : decode cX11_flip 19 = .ok (.iload_n 2, 1) := by decide +kernel
theorem dX11_flip_20 : decode cX11_flip 20 = .ok (.bipush 7, 2) := by decide +kernel
theorem dX11_flip_22 : decode cX11_flip 22 = .ok (.if_icmp .le 5, 3) := by decide +kernel
theorem dX11_flip_25 : decode cX11_flip 25 = .ok (.iconst 0, 1) := by decide +kernel
theorem dX11_flip_26 : decode cX11_flip 26 = .ok (.ireturn, 1) := by decide +kernel
theorem dX11_flip_27 : decode cX11_flip 27 = .ok (.aload_n 0, 1) := by decide +kernel
theorem dX11_flip_28 : decode cX11_flip 28 = .ok (.getfield 12, 3) := by decide +kernel
theorem dX11_flip_31 : decode cX11_flip 31 = .ok (.getfield 113, 3) := by decide +kernel
theorem dX11_flip_34 : decode cX11_flip 34 = .ok (.iload_n 1, 1) := by decide +kernel
theorem dX11_flip_35 : decode cX11_flip 35 = .ok (.dup2, 1) := by decide +kernel
theorem dX11_flip_36 : decode cX11_flip 36 = .ok (.iaload, 1) := by decide +kernel
theorem dX11_flip_37 : decode cX11_flip 37 = .ok (.iconst 1, 1) := by decide +kernel
theorem dX11_flip_38 : decode cX11_flip 38 = .ok (.iload_n 2, 1) := by decide +kernel
theorem dX11_flip_39 : decode cX11_flip 39 = .ok (.ishl, 1) := by decide +kernel
theorem dX11_flip_40 : decode cX11_flip 40 = .ok (.ixor, 1) := by decide +kernel
theorem dX11_flip_41 : decode cX11_flip 41 = .ok (.iastore, 1) := by decide +kernel
theorem dX11_flip_42 : decode cX11_flip 42 = .ok (.iconst 1, 1) := by decide +kernel
theorem dX11_flip_43 : decode cX11_flip 43 = .ok (.ireturn, 1) := by decide +kernel
theorem dX11_get_0 : decode cX11_get 0 = .ok (.aload_n 0, 1) := by decide +kernel
theorem dX11_get_1 : decode cX11_get 1 = .ok (.getfield 28, 3) := by decide +kernel
theorem dX11_get_4 : decode cX11_get 4 = .ok (.iload_n 1, 1) := by decide +kernel
theorem dX11_get_5 : decode cX11_get 5 = .ok (.iload_n 2, 1) := by decide +kernel
theorem dX11_get_6 : decode cX11_get 6 = .ok (.invokevirtual 238, 3) := by decide +kernel
theorem dX11_get_9 : decode cX11_get 9 = .ok (.ifCond .ne 11, 3) := by decide +kernel
theorem dX11_get_12 : decode cX11_get 12 = .ok (.new 222, 3) := by decide +kernel
theorem dX11_get_15 : decode cX11_get 15 = .ok (.dup, 1) := by decide +kernel
theorem dX11_get_16 : decode cX11_get 16 = .ok (.invokespecial 224, 3) := by decide +kernel
theorem dX11_get_19 : decode cX11_get 19 = .ok (.athrow, 1) := by decide +kernel
theorem dX11_get_20 : decode cX11_get 20 = .ok (.aload_n 0, 1) := by decide +kernel
theorem dX11_get_21 : decode cX11_get 21 = .ok (.getfield 28, 3) := by decide +kernel
theorem dX11_get_24 : decode cX11_get 24 = .ok (.getfield 268, 3) := by decide +kernel
theorem dX11_get_27 : decode cX11_get 27 = .ok (.aload_n 0, 1) := by decide +kernel
theorem dX11_get_28 : decode cX11_get 28 = .ok (.getfield 28, 3) := by decide +kernel
theorem dX11_get_31 : decode cX11_get 31 = .ok (.getfield 271, 3) := by decide +kernel
theorem dX11_get_34 : decode cX11_get 34 = .ok (.iload_n 1, 1) := by decide +kernel
theorem dX11_get_35 : decode cX11_get 35 = .ok (.iaload, 1) := by decide +kernel
theorem dX11_get_36 : decode cX11_get 36 = .ok (.iload_n 2, 1) := by decide +kernel
theorem dX11_get_37 : decode cX11_get 37 = .ok (.iadd, 1) := by decide +kernel
theorem dX11_get_38 : decode cX11_get 38 = .ok (.laload, 1) := by decide +kernel
theorem dX11_get_39 : decode cX11_get 39 = .ok (.lreturn, 1) := by decide +kernel
theorem dX11_getStatic_0 : decode cX11_getStatic 0 = .ok (.aload_n 0, 1) := by decide +kernel
theorem dX11_getStatic_1 : decode cX11_getStatic 1 = .ok (.getfield 19, 3) := by decide +kernel
theorem dX11_getStatic_4 : decode cX11_getStatic 4 = .ok (.iload_n 1, 1) := by decide +kernel
theorem dX11_getStatic_5 : decode cX11_getStatic 5 = .ok (.iload_n 2, 1) := by decide +kernel
theorem dX11_getStatic_6 : decode cX11_getStatic 6 = .ok (.invokevirtual 261, 3) := by decide +kernel
theorem dX11_getStatic_9 : decode cX11_getStatic 9 = .ok (.istore_n 3, 1) := by decide +kernel
theorem dX11_getStatic_10 : decode cX11_getStatic 10 = .ok (.iload_n 3, 1) := by decide +kernel
theorem dX11_getStatic_11 : decode cX11_getStatic 11 = .ok (.iconst (-1), 1) := by decide +kernel
theorem dX11_getStatic_12 : decode cX11_getStatic 12 = .ok (.if_icmp .ne 11, 3) := by decide +kernel
theorem dX11_getStatic_15 : decode cX11_getStatic 15 = .ok (.new 222, 3) := by decide +kernel
theorem dX11_getStatic_18 : decode cX11_getStatic 18 = .ok (.dup, 1) := by decide +kernel
theorem dX11_getStatic_19 : decode cX11_getStatic 19 = .ok (.invokespecial 224, 3) := by decide +kernel
theorem dX11_getStatic_22 : decode cX11_getStatic 22 = .ok (.athrow, 1) := by decide +kernel
theorem dX11_getStatic_23 : decode cX11_getStatic 23 = .ok (.aload_n 0, 1) := by decide +kernel
theorem dX11_getStatic_24 : decode cX11_getStatic 24 = .ok (.getfield 28, 3) := by decide +kernel
theorem dX11_getStatic_27 : decode cX11_getStatic 27 = .ok (.getfield 161, 3) := by decide +kernel
theorem dX11_getStatic_30 : decode cX11_getStatic 30 = .ok (.iload_n 1, 1) := by decide +kernel
theorem dX11_getStatic_31 : decode cX11_getStatic 31 = .ok (.bipush 6, 2) := by decide +kernel
theorem dX11_getStatic_33 : decode cX11_getStatic 33 = .ok (.imul, 1) := by decide +kernel
theorem dX11_getStatic_34 : decode cX11_getStatic 34 = .ok (.iload_n 3, 1) := by decide +kernel
theorem dX11_getStatic_35 : decode cX11_getStatic 35 = .ok (.iadd, 1) := by decide +kernel
theorem dX11_getStatic_36 : decode cX11_getStatic 36 = .ok (.laload, 1) := by decide +kernel
theorem dX11_getStatic_37 : decode cX11_getStatic 37 = .ok (.lreturn, 1) := by decide +kernel
theorem dX11_grown_0 : decode cX11_grown 0 = .ok (.iload_n 1, 1) := by decide +kernel
theorem dX11_grown_1 : decode cX11_grown 1 = .ok (.ifCond .lt 20, 3) := by decide +kernel
theorem dX11_grown_4 : decode cX11_grown 4 = .ok (.iload_n 1, 1) := by decide +kernel
theorem dX11_grown_5 : decode cX11_grown 5 = .ok (.aload_n 0, 1) := by decide +kernel
theorem dX11_grown_6 : decode cX11_grown 6 = .ok (.getfield 455, 3) := by decide +kernel
theorem dX11_grown_9 : decode cX11_grown 9 = .ok (.if_icmp .ge 12, 3) := by decide +kernel
theorem dX11_grown_12 : decode cX11_grown 12 = .ok (.aload_n 0, 1) := by decide +kernel
theorem dX11_grown_13 : decode cX11_grown 13 = .ok (.getfield 95, 3) := by decide +kernel
theorem dX11_grown_16 : decode cX11_grown 16 = .ok (.iload_n 1, 1) := by decide +kernel
theorem dX11_grown_17 : decode cX11_grown 17 = .ok (.iaload, 1) := by decide +kernel
theorem dX11_grown_18 : decode cX11_grown 18 = .ok (.goto 4, 3) := by decide +kernel
theorem dX11_grown_21 : decode cX11_grown 21 = .ok (.iconst (-1), 1) := by decide +kernel
theorem dX11_grown_22 : decode cX11_grown 22 = .ok (.ireturn, 1) := by decide +kernel
theorem dX11_growth_0 : decode cX11_growth 0 = .ok (.iload_n 1, 1) := by decide +kernel
theorem dX11_growth_1 : decode cX11_growth 1 = .ok (.invokestatic 354, 3) := by decide +kernel
theorem dX11_growth_4 : decode cX11_growth 4 = .ok (.iload_n 2, 1) := by decide +kernel
theorem dX11_growth_5 : decode cX11_growth 5 = .ok (.invokestatic 354, 3) := by decide +kernel
theorem dX11_growth_8 : decode cX11_growth 8 = .ok (.iload_n 3, 1) := by decide +kernel
theorem dX11_growth_9 : decode cX11_growth 9 = .ok (.ifCond .lt 8, 3) := by decide +kernel
theorem dX11_growth_12 : decode cX11_growth 12 = .ok (.iload_n 3, 1) := by decide +kernel
theorem dX11_growth_13 : decode cX11_growth 13 = .ok (.iconst 2, 1) := by decide +kernel
theorem dX11_growth_14 : decode cX11_growth 14 = .ok (.if_icmp .le 11, 3) := by decide +kernel
theorem dX11_growth_17 : decode cX11_growth 17 = .ok (.new 120, 3) := by decide +kernel
theorem dX11_growth_20 : decode cX11_growth 20 = .ok (.dup, 1) := by decide +kernel
theorem dX11_growth_21 : decode cX11_growth 21 = .ok (.invokespecial 122, 3) := by decide +kernel
theorem dX11_growth_24 : decode cX11_growth 24 = .ok (.athrow, 1) := by decide +kernel
theorem dX11_growth_25 : decode cX11_growth 25 = .ok (.iload_n 3, 1) := by decide +kernel
theorem dX11_growth_26 : decode cX11_growth 26 = .ok (.ifCond .ne 29, 3) := by decide +kernel
theorem dX11_growth_29 : decode cX11_growth 29 = .ok (.aload_n 0, 1) := by decide +kernel
theorem dX11_growth_30 : decode cX11_growth 30 = .ok (.aload_n 0, 1) := by decide +kernel
theorem dX11_growth_31 : decode cX11_growth 31 = .ok (.getfield 41, 3) := by decide +kernel
theorem dX11_growth_34 : decode cX11_growth 34 = .ok (.iload_n 2, 1) := by decide +kernel
theorem dX11_growth_35 : decode cX11_growth 35 = .ok (.aaload, 1) := by decide +kernel
theorem dX11_growth_36 : decode cX11_growth 36 = .ok (.aload_n 0, 1) := by decide +kernel
theorem dX11_growth_37 : decode cX11_growth 37 = .ok (.getfield 41, 3) := by decide +kernel
theorem dX11_growth_40 : decode cX11_growth 40 = .ok (.iload_n 1, 1) := by decide +kernel
theorem dX11_growth_41 : decode cX11_growth 41 = .ok (.aaload, 1) := by decide +kernel
theorem dX11_growth_42 : decode cX11_growth 42 = .ok (.aload_n 0, 1) := by decide +kernel
theorem dX11_growth_43 : decode cX11_growth 43 = .ok (.getfield 95, 3) := by decide +kernel
theorem dX11_growth_46 : decode cX11_growth 46 = .ok (.invokevirtual 451, 3) := by decide +kernel
theorem dX11_growth_49 : decode cX11_growth 49 = .ok (.putfield 455, 3) := by decide +kernel
theorem dX11_growth_52 : decode cX11_growth 52 = .ok (.goto 57, 3) := by decide +kernel
theorem dX11_growth_55 : decode cX11_growth 55 = .ok (.iload_n 3, 1) := by decide +kernel
theorem dX11_growth_56 : decode cX11_growth 56 = .ok (.iconst 1, 1) := by decide +kernel
theorem dX11_growth_57 : decode cX11_growth 57 = .ok (.if_icmp .ne 29, 3) := by decide +kernel
theorem dX11_growth_60 : decode cX11_growth 60 = .ok (.aload_n 0, 1) := by decide +kernel
theorem dX11_growth_61 : decode cX11_growth 61 = .ok (.aload_n 0, 1) := by decide +kernel
theorem dX11_growth_62 : decode cX11_growth 62 = .ok (.getfield 41, 3) := by decide +kernel
theorem dX11_growth_65 : decode cX11_growth 65 = .ok (.iload_n 1, 1) := by decide +kernel
theorem dX11_growth_66 : decode cX11_growth 66 = .ok (.aaload, 1) := by decide +kernel
theorem dX11_growth_67 : decode cX11_growth 67 = .ok (.aload_n 0, 1) := by decide +kernel
theorem dX11_growth_68 : decode cX11_growth 68 = .ok (.getfield 41, 3) := by decide +kernel
theorem dX11_growth_71 : decode cX11_growth 71 = .ok (.iload_n 2, 1) := by decide +kernel
theorem dX11_growth_72 : decode cX11_growth 72 = .ok (.aaload, 1) := by decide +kernel
theorem dX11_growth_73 : decode cX11_growth 73 = .ok (.aload_n 0, 1) := by decide +kernel
theorem dX11_growth_74 : decode cX11_growth 74 = .ok (.getfield 95, 3) := by decide +kernel
theorem dX11_growth_77 : decode cX11_growth 77 = .ok (.invokevirtual 451, 3) := by decide +kernel
theorem dX11_growth_80 : decode cX11_growth 80 = .ok (.putfield 455, 3) := by decide +kernel
theorem dX11_growth_83 : decode cX11_growth 83 = .ok (.goto 26, 3) := by decide +kernel
theorem dX11_growth_86 : decode cX11_growth 86 = .ok (.aload_n 0, 1) := by decide +kernel
theorem dX11_growth_87 : decode cX11_growth 87 = .ok (.aload_n 0, 1) := by decide +kernel
theorem dX11_growth_88 : decode cX11_growth 88 = .ok (.getfield 41, 3) := by decide +kernel
theorem dX11_growth_91 : decode cX11_growth 91 = .ok (.iload_n 2, 1) := by decide +kernel
theorem dX11_growth_92 : decode cX11_growth 92 = .ok (.aaload, 1) := by decide +kernel
theorem dX11_growth_93 : decode cX11_growth 93 = .ok (.aload_n 0, 1) := by decide +kernel
theorem dX11_growth_94 : decode cX11_growth 94 = .ok (.getfield 41, 3) := by decide +kernel
theorem dX11_growth_97 : decode cX11_growth 97 = .ok (.iload_n 1, 1) := by decide +kernel
theorem dX11_growth_98 : decode cX11_growth 98 = .ok (.aaload, 1) := by decide +kernel
theorem dX11_growth_99 : decode cX11_growth 99 = .ok (.aload_n 0, 1) := by decide +kernel
theorem dX11_growth_100 : decode cX11_growth 100 = .ok (.getfield 95, 3) := by decide +kernel
theorem dX11_growth_103 : decode cX11_growth 103 = .ok (.invokevirtual 458, 3) := by decide +kernel
theorem dX11_growth_106 : decode cX11_growth 106 = .ok (.putfield 455, 3) := by decide +kernel
theorem dX11_growth_109 : decode cX11_growth 109 = .ok (.aload_n 0, 1) := by decide +kernel
theorem dX11_growth_110 : decode cX11_growth 110 = .ok (.getfield 455, 3) := by decide +kernel
theorem dX11_growth_113 : decode cX11_growth 113 = .ok (.ireturn, 1) := by decide +kernel
theorem dX11_holder_0 : decode cX11_holder 0 = .ok (.aload_n 0, 1) := by decide +kernel
theorem dX11_holder_1 : decode cX11_holder 1 = .ok (.iload_n 1, 1) := by decide +kernel
theorem dX11_holder_2 : decode cX11_holder 2 = .ok (.iload_n 2, 1) := by decide +kernel
theorem dX11_holder_3 : decode cX11_holder 3 = .ok (.invokevirtual 360, 3) := by decide +kernel
theorem dX11_holder_6 : decode cX11_holder 6 = .ok (.ifCond .eq 32, 3) := by decide +kernel
theorem dX11_holder_9 : decode cX11_holder 9 = .ok (.iload_n 3, 1) := by decide +kernel
theorem dX11_holder_10 : decode cX11_holder 10 = .ok (.ifCond .lt 28, 3) := by decide +kernel
theorem dX11_holder_13 : decode cX11_holder 13 = .ok (.iload_n 3, 1) := by decide +kernel
theorem dX11_holder_14 : decode cX11_holder 14 = .ok (.aload_n 0, 1) := by decide +kernel
theorem dX11_holder_15 : decode cX11_holder 15 = .ok (.getfield 41, 3) := by decide +kernel
theorem dX11_holder_18 : decode cX11_holder 18 = .ok (.iload_n 1, 1) := by decide +kernel
theorem dX11_holder_19 : decode cX11_holder 19 = .ok (.aaload, 1) := by decide +kernel
theorem dX11_holder_20 : decode cX11_holder 20 = .ok (.iload_n 2, 1) := by decide +kernel
theorem dX11_holder_21 : decode cX11_holder 21 = .ok (.invokevirtual 377, 3) := by decide +kernel
theorem dX11_holder_24 : decode cX11_holder 24 = .ok (.if_icmp .ge 14, 3) := by decide +kernel
theorem dX11_holder_27 : decode cX11_holder 27 = .ok (.iload 4, 2) := by decide +kernel
theorem dX11_holder_29 : decode cX11_holder 29 = .ok (.ifCond .lt 9, 3) := by decide +kernel
theorem dX11_holder_32 : decode cX11_holder 32 = .ok (.iload 4, 2) := by decide +kernel
theorem dX11_holder_34 : decode cX11_holder 34 = .ok (.iconst 1, 1) := by decide +kernel
theorem dX11_holder_35 : decode cX11_holder 35 = .ok (.if_icmp .le 11, 3) := by decide +kernel
theorem dX11_holder_38 : decode cX11_holder 38 = .ok (.new 222, 3) := by decide +kernel
theorem dX11_holder_41 : decode cX11_holder 41 = .ok (.dup, 1) := by decide +kernel
theorem dX11_holder_42 : decode cX11_holder 42 = .ok (.invokespecial 224, 3) := by decide +kernel
theorem dX11_holder_45 : decode cX11_holder 45 = .ok (.athrow, 1) := by decide +kernel
theorem dX11_holder_46 : decode cX11_holder 46 = .ok (.aload_n 0, 1) := by decide +kernel
theorem dX11_holder_47 : decode cX11_holder 47 = .ok (.getfield 41, 3) := by decide +kernel
theorem dX11_holder_50 : decode cX11_holder 50 = .ok (.iload_n 1, 1) := by decide +kernel
theorem dX11_holder_51 : decode cX11_holder 51 = .ok (.aaload, 1) := by decide +kernel
theorem dX11_holder_52 : decode cX11_holder 52 = .ok (.getfield 397, 3) := by decide +kernel
theorem dX11_holder_55 : decode cX11_holder 55 = .ok (.astore 5, 2) := by decide +kernel
theorem dX11_holder_57 : decode cX11_holder 57 = .ok (.aload 5, 2) := by decide +kernel
theorem dX11_holder_59 : decode cX11_holder 59 = .ok (.getfield 401, 3) := by decide +kernel
theorem dX11_holder_62 : decode cX11_holder 62 = .ok (.iload_n 2, 1) := by decide +kernel
theorem dX11_holder_63 : decode cX11_holder 63 = .ok (.iaload, 1) := by decide +kernel
theorem dX11_holder_64 : decode cX11_holder 64 = .ok (.iload_n 3, 1) := by decide +kernel
theorem dX11_holder_65 : decode cX11_holder 65 = .ok (.iadd, 1) := by decide +kernel
theorem dX11_holder_66 : decode cX11_holder 66 = .ok (.istore 6, 2) := by decide +kernel
theorem dX11_holder_68 : decode cX11_holder 68 = .ok (.iload 4, 2) := by decide +kernel
theorem dX11_holder_70 : decode cX11_holder 70 = .ok (.ifCond .ne 14, 3) := by decide +kernel
theorem dX11_holder_73 : decode cX11_holder 73 = .ok (.aload 5, 2) := by decide +kernel
theorem dX11_holder_75 : decode cX11_holder 75 = .ok (.getfield 406, 3) := by decide +kernel
theorem dX11_holder_78 : decode cX11_holder 78 = .ok (.iload 6, 2) := by decide +kernel
theorem dX11_holder_80 : decode cX11_holder 80 = .ok (.iaload, 1) := by decide +kernel
theorem dX11_holder_81 : decode cX11_holder 81 = .ok (.goto 11, 3) := by decide +kernel
theorem dX11_holder_84 : decode cX11_holder 84 = .ok (.aload 5, 2) := by decide +kernel
theorem dX11_holder_86 : decode cX11_holder 86 = .ok (.getfield 409, 3) := by decide +kernel
theorem dX11_holder_89 : decode cX11_holder 89 = .ok (.iload 6, 2) := by decide +kernel
theorem dX11_holder_91 : decode cX11_holder 91 = .ok (.iaload, 1) := by decide +kernel
theorem dX11_holder_92 : decode cX11_holder 92 = .ok (.ireturn, 1) := by decide +kernel
theorem dX11_isFact_0 : decode cX11_isFact 0 = .ok (.iload_n 1, 1) := by decide +kernel
theorem dX11_isFact_1 : decode cX11_isFact 1 = .ok (.ifCond .lt 14, 3) := by decide +kernel
theorem dX11_isFact_4 : decode cX11_isFact 4 = .ok (.iload_n 1, 1) := by decide +kernel
theorem dX11_isFact_5 : decode cX11_isFact 5 = .ok (.aload_n 0, 1) := by decide +kernel
theorem dX11_isFact_6 : decode cX11_isFact 6 = .ok (.getfield 77, 3) := by decide +kernel
theorem dX11_isFact_9 : decode cX11_isFact 9 = .ok (.getfield 491, 3) := by decide +kernel
theorem dX11_isFact_12 : decode cX11_isFact 12 = .ok (.if_icmp .lt 11, 3) := by decide +kernel
theorem dX11_isFact_15 : decode cX11_isFact 15 = .ok (.new 222, 3) := by decide +kernel
theorem dX11_isFact_18 : decode cX11_isFact 18 = .ok (.dup, 1) := by decide +kernel
theorem dX11_isFact_19 : decode cX11_isFact 19 = .ok (.invokespecial 224, 3) := by decide +kernel
theorem dX11_isFact_22 : decode cX11_isFact 22 = .ok (.athrow, 1) := by decide +kernel
theorem dX11_isFact_23 : decode cX11_isFact 23 = .ok (.aload_n 0, 1) := by decide +kernel
theorem dX11_isFact_24 : decode cX11_isFact 24 = .ok (.getfield 84, 3) := by decide +kernel
theorem dX11_isFact_27 : decode cX11_isFact 27 = .ok (.iload_n 1, 1) := by decide +kernel
theorem dX11_isFact_28 : decode cX11_isFact 28 = .ok (.iload_n 2, 1) := by decide +kernel
theorem dX11_isFact_29 : decode cX11_isFact 29 = .ok (.aload_n 0, 1) := by decide +kernel
theorem dX11_isFact_30 : decode cX11_isFact 30 = .ok (.getfield 77, 3) := by decide +kernel
theorem dX11_isFact_33 : decode cX11_isFact 33 = .ok (.getfield 495, 3) := by decide +kernel
theorem dX11_isFact_36 : decode cX11_isFact 36 = .ok (.iload_n 1, 1) := by decide +kernel
theorem dX11_isFact_37 : decode cX11_isFact 37 = .ok (.iaload, 1) := by decide +kernel
theorem dX11_isFact_38 : decode cX11_isFact 38 = .ok (.iconst 1, 1) := by decide +kernel
theorem dX11_isFact_39 : decode cX11_isFact 39 = .ok (.if_icmp .ne 7, 3) := by decide +kernel
theorem dX11_isFact_42 : decode cX11_isFact 42 = .ok (.iload_n 2, 1) := by decide +kernel
theorem dX11_isFact_43 : decode cX11_isFact 43 = .ok (.goto 4, 3) := by decide +kernel
theorem dX11_isFact_46 : decode cX11_isFact 46 = .ok (.iload_n 3, 1) := by decide +kernel
theorem dX11_isFact_47 : decode cX11_isFact 47 = .ok (.invokevirtual 498, 3) := by decide +kernel
theorem dX11_isFact_50 : decode cX11_isFact 50 = .ok (.ireturn, 1) := by decide +kernel
theorem dX11_isPicture_0 : decode cX11_isPicture 0 = .ok (.iload_n 0, 1) := by decide +kernel
theorem dX11_isPicture_1 : decode cX11_isPicture 1 = .ok (.ifCond .lt 12, 3) := by decide +kernel
theorem dX11_isPicture_4 : decode cX11_isPicture 4 = .ok (.iload_n 0, 1) := by decide +kernel
theorem dX11_isPicture_5 : decode cX11_isPicture 5 = .ok (.iconst 4, 1) := by decide +kernel
theorem dX11_isPicture_6 : decode cX11_isPicture 6 = .ok (.if_icmp .ge 7, 3) := by decide +kernel
theorem dX11_isPicture_9 : decode cX11_isPicture 9 = .ok (.iconst 1, 1) := by decide +kernel
theorem dX11_isPicture_10 : decode cX11_isPicture 10 = .ok (.goto 4, 3) := by decide +kernel
theorem dX11_isPicture_13 : decode cX11_isPicture 13 = .ok (.iconst 0, 1) := by decide +kernel
theorem dX11_isPicture_14 : decode cX11_isPicture 14 = .ok (.ireturn, 1) := by decide +kernel
theorem dX11_isThing_0 : decode cX11_isThing 0 = .ok (.iload_n 1, 1) := by decide +kernel
theorem dX11_isThing_1 : decode cX11_isThing 1 = .ok (.invokestatic 412, 3) := by decide +kernel
theorem dX11_isThing_4 : decode cX11_isThing 4 = .ok (.ifCond .eq 24, 3) := by decide +kernel
theorem dX11_isThing_7 : decode cX11_isThing 7 = .ok (.iload_n 2, 1) := by decide +kernel
theorem dX11_isThing_8 : decode cX11_isThing 8 = .ok (.ifCond .lt 20, 3) := by decide +kernel
theorem dX11_isThing_11 : decode cX11_isThing 11 = .ok (.iload_n 2, 1) := by decide +kernel
theorem dX11_isThing_12 : decode cX11_isThing 12 = .ok (.aload_n 0, 1) := by decide +kernel
theorem dX11_isThing_13 : decode cX11_isThing 13 = .ok (.getfield 41, 3) := by decide +kernel
theorem dX11_isThing_16 : decode cX11_isThing 16 = .ok (.iload_n 1, 1) := by decide +kernel
theorem dX11_isThing_17 : decode cX11_isThing 17 = .ok (.aaload, 1) := by decide +kernel
theorem dX11_isThing_18 : decode cX11_isThing 18 = .ok (.getfield 357, 3) := by decide +kernel
theorem dX11_isThing_21 : decode cX11_isThing 21 = .ok (.if_icmp .ge 7, 3) := by decide +kernel
theorem dX11_isThing_24 : decode cX11_isThing 24 = .ok (.iconst 1, 1) := by decide +kernel
theorem dX11_isThing_25 : decode cX11_isThing 25 = .ok (.goto 4, 3) := by decide +kernel
theorem dX11_isThing_28 : decode cX11_isThing 28 = .ok (.iconst 0, 1) := by decide +kernel
theorem dX11_isThing_29 : decode cX11_isThing 29 = .ok (.ireturn, 1) := by decide +kernel
theorem dX11_keep_0 : decode cX11_keep 0 = .ok (.iload_n 1, 1) := by decide +kernel
theorem dX11_keep_1 : decode cX11_keep 1 = .ok (.invokestatic 354, 3) := by decide +kernel
theorem dX11_keep_4 : decode cX11_keep 4 = .ok (.aload_n 0, 1) := by decide +kernel
theorem dX11_keep_5 : decode cX11_keep 5 = .ok (.getfield 91, 3) := by decide +kernel
theorem dX11_keep_8 : decode cX11_keep 8 = .ok (.aload_n 0, 1) := by decide +kernel
theorem dX11_keep_9 : decode cX11_keep 9 = .ok (.getfield 41, 3) := by decide +kernel
theorem dX11_keep_12 : decode cX11_keep 12 = .ok (.iload_n 1, 1) := by decide +kernel
theorem dX11_keep_13 : decode cX11_keep 13 = .ok (.aaload, 1) := by decide +kernel
theorem dX11_keep_14 : decode cX11_keep 14 = .ok (.invokevirtual 502, 3) := by decide +kernel
theorem dX11_keep_17 : decode cX11_keep 17 = .ok (.istore_n 2, 1) := by decide +kernel
theorem dX11_keep_18 : decode cX11_keep 18 = .ok (.iload_n 2, 1) := by decide +kernel
theorem dX11_keep_19 : decode cX11_keep 19 = .ok (.sipush 4000, 3) := by decide +kernel
theorem dX11_keep_22 : decode cX11_keep 22 = .ok (.if_icmp .gt 14, 3) := by decide +kernel
theorem dX11_keep_25 : decode cX11_keep 25 = .ok (.aload_n 0, 1) := by decide +kernel
theorem dX11_keep_26 : decode cX11_keep 26 = .ok (.getfield 91, 3) := by decide +kernel
theorem dX11_keep_29 : decode cX11_keep 29 = .ok (.iload_n 2, 1) := by decide +kernel
theorem dX11_keep_30 : decode cX11_keep 30 = .ok (.invokevirtual 527, 3) := by decide +kernel
theorem dX11_keep_33 : decode cX11_keep 33 = .ok (.ifCond .ne 11, 3) := by decide +kernel
theorem dX11_keep_36 : decode cX11_keep 36 = .ok (.new 137, 3) := by decide +kernel
theorem dX11_keep_39 : decode cX11_keep 39 = .ok (.dup, 1) := by decide +kernel
theorem dX11_keep_40 : decode cX11_keep 40 = .ok (.invokespecial 139, 3) := by decide +kernel
theorem dX11_keep_43 : decode cX11_keep 43 = .ok (.athrow, 1) := by decide +kernel
theorem dX11_keep_44 : decode cX11_keep 44 = .ok (.aload_n 0, 1) := by decide +kernel
theorem dX11_keep_45 : decode cX11_keep 45 = .ok (.getfield 91, 3) := by decide +kernel
theorem dX11_keep_48 : decode cX11_keep 48 = .ok (.getfield 530, 3) := by decide +kernel
theorem dX11_keep_51 : decode cX11_keep 51 = .ok (.ireturn, 1) := by decide +kernel
theorem dX11_letter_0 : decode cX11_letter 0 = .ok (.iload_n 1, 1) := by decide +kernel
theorem dX11_letter_1 : decode cX11_letter 1 = .ok (.ifCond .lt 26, 3) := by decide +kernel
theorem dX11_letter_4 : decode cX11_letter 4 = .ok (.iload_n 1, 1) := by decide +kernel
theorem dX11_letter_5 : decode cX11_letter 5 = .ok (.aload_n 0, 1) := by decide +kernel
theorem dX11_letter_6 : decode cX11_letter 6 = .ok (.getfield 12, 3) := by decide +kernel
theorem dX11_letter_9 : decode cX11_letter 9 = .ok (.getfield 110, 3) := by decide +kernel
theorem dX11_letter_12 : decode cX11_letter 12 = .ok (.if_icmp .ge 15, 3) := by decide +kernel
theorem dX11_letter_15 : decode cX11_letter 15 = .ok (.aload_n 0, 1) := by decide +kernel
theorem dX11_letter_16 : decode cX11_letter 16 = .ok (.getfield 12, 3) := by decide +kernel
theorem dX11_letter_19 : decode cX11_letter 19 = .ok (.getfield 113, 3) := by decide +kernel
theorem dX11_letter_22 : decode cX11_letter 22 = .ok (.iload_n 1, 1) := by decide +kernel
theorem dX11_letter_23 : decode cX11_letter 23 = .ok (.iaload, 1) := by decide +kernel
theorem dX11_letter_24 : decode cX11_letter 24 = .ok (.goto 4, 3) := by decide +kernel
theorem dX11_letter_27 : decode cX11_letter 27 = .ok (.iconst (-1), 1) := by decide +kernel
theorem dX11_letter_28 : decode cX11_letter 28 = .ok (.ireturn, 1) := by decide +kernel
theorem dX11_like_0 : decode cX11_like 0 = .ok (.aload_n 0, 1) := by decide +kernel
theorem dX11_like_1 : decode cX11_like 1 = .ok (.iload_n 1, 1) := by decide +kernel
theorem dX11_like_2 : decode cX11_like 2 = .ok (.iload_n 2, 1) := by decide +kernel
theorem dX11_like_3 : decode cX11_like 3 = .ok (.invokevirtual 360, 3) := by decide +kernel
theorem dX11_like_6 : decode cX11_like 6 = .ok (.ifCond .eq 13, 3) := by decide +kernel
theorem dX11_like_9 : decode cX11_like 9 = .ok (.aload_n 0, 1) := by decide +kernel
theorem dX11_like_10 : decode cX11_like 10 = .ok (.iload_n 3, 1) := by decide +kernel
theorem dX11_like_11 : decode cX11_like 11 = .ok (.iload 4, 2) := by decide +kernel
theorem dX11_like_13 : decode cX11_like 13 = .ok (.invokevirtual 360, 3) := by decide +kernel
theorem dX11_like_16 : decode cX11_like 16 = .ok (.ifCond .ne 11, 3) := by decide +kernel
theorem dX11_like_19 : decode cX11_like 19 = .ok (.new 222, 3) := by decide +kernel
theorem dX11_like_22 : decode cX11_like 22 = .ok (.dup, 1) := by decide +kernel
theorem dX11_like_23 : decode cX11_like 23 = .ok (.invokespecial 224, 3) := by decide +kernel
theorem dX11_like_26 : decode cX11_like 26 = .ok (.athrow, 1) := by decide +kernel
theorem dX11_like_27 : decode cX11_like 27 = .ok (.aload_n 0, 1) := by decide +kernel
theorem dX11_like_28 : decode cX11_like 28 = .ok (.getfield 41, 3) := by decide +kernel
theorem dX11_like_31 : decode cX11_like 31 = .ok (.iload_n 1, 1) := by decide +kernel
theorem dX11_like_32 : decode cX11_like 32 = .ok (.aaload, 1) := by decide +kernel
theorem dX11_like_33 : decode cX11_like 33 = .ok (.iload_n 2, 1) := by decide +kernel
theorem dX11_like_34 : decode cX11_like 34 = .ok (.aload_n 0, 1) := by decide +kernel
theorem dX11_like_35 : decode cX11_like 35 = .ok (.getfield 41, 3) := by decide +kernel
theorem dX11_like_38 : decode cX11_like 38 = .ok (.iload_n 3, 1) := by decide +kernel
theorem dX11_like_39 : decode cX11_like 39 = .ok (.aaload, 1) := by decide +kernel
theorem dX11_like_40 : decode cX11_like 40 = .ok (.iload 4, 2) := by decide +kernel
theorem dX11_like_42 : decode cX11_like 42 = .ok (.invokevirtual 461, 3) := by decide +kernel
theorem dX11_like_45 : decode cX11_like 45 = .ok (.ireturn, 1) := by decide +kernel
theorem dX11_load_0 : decode cX11_load 0 = .ok (.iload_n 1, 1) := by decide +kernel
theorem dX11_load_1 : decode cX11_load 1 = .ok (.invokestatic 354, 3) := by decide +kernel
theorem dX11_load_4 : decode cX11_load 4 = .ok (.aload_n 0, 1) := by decide +kernel
theorem dX11_load_5 : decode cX11_load 5 = .ok (.getfield 91, 3) := by decide +kernel
theorem dX11_load_8 : decode cX11_load 8 = .ok (.aload_n 0, 1) := by decide +kernel
theorem dX11_load_9 : decode cX11_load 9 = .ok (.getfield 12, 3) := by decide +kernel
theorem dX11_load_12 : decode cX11_load 12 = .ok (.getfield 113, 3) := by decide +kernel
theorem dX11_load_15 : decode cX11_load 15 = .ok (.iconst 0, 1) := by decide +kernel
theorem dX11_load_16 : decode cX11_load 16 = .ok (.aload_n 0, 1) := by decide +kernel
theorem dX11_load_17 : decode cX11_load 17 = .ok (.getfield 12, 3) := by decide +kernel
theorem dX11_load_20 : decode cX11_load 20 = .ok (.getfield 110, 3) := by decide +kernel
theorem dX11_load_23 : decode cX11_load 23 = .ok (.aload_n 0, 1) := by decide +kernel
theorem dX11_load_24 : decode cX11_load 24 = .ok (.getfield 46, 3) := by decide +kernel
theorem dX11_load_27 : decode cX11_load 27 = .ok (.invokevirtual 515, 3) := by decide +kernel
theorem dX11_load_30 : decode cX11_load 30 = .ok (.istore_n 2, 1) := by decide +kernel
theorem dX11_load_31 : decode cX11_load 31 = .ok (.aload_n 0, 1) := by decide +kernel
theorem dX11_load_32 : decode cX11_load 32 = .ok (.aload_n 0, 1) := by decide +kernel
theorem dX11_load_33 : decode cX11_load 33 = .ok (.getfield 91, 3) := by decide +kernel
theorem dX11_load_36 : decode cX11_load 36 = .ok (.getfield 519, 3) := by decide +kernel
theorem dX11_load_39 : decode cX11_load 39 = .ok (.aload_n 0, 1) := by decide +kernel
theorem dX11_load_40 : decode cX11_load 40 = .ok (.getfield 91, 3) := by decide +kernel
theorem dX11_load_43 : decode cX11_load 43 = .ok (.getfield 520, 3) := by decide +kernel
theorem dX11_load_46 : decode cX11_load 46 = .ok (.invokevirtual 340, 3) := by decide +kernel
theorem dX11_load_49 : decode cX11_load 49 = .ok (.iload_n 2, 1) := by decide +kernel
theorem dX11_load_50 : decode cX11_load 50 = .ok (.ifCond .ne 11, 3) := by decide +kernel
theorem dX11_load_53 : decode cX11_load 53 = .ok (.new 127, 3) := by decide +kernel
theorem dX11_load_56 : decode cX11_load 56 = .ok (.dup, 1) := by decide +kernel
theorem dX11_load_57 : decode cX11_load 57 = .ok (.invokespecial 129, 3) := by decide +kernel
theorem dX11_load_60 : decode cX11_load 60 = .ok (.athrow, 1) := by decide +kernel
theorem dX11_load_61 : decode cX11_load 61 = .ok (.iconst 0, 1) := by decide +kernel
theorem dX11_load_62 : decode cX11_load 62 = .ok (.istore_n 3, 1) := by decide +kernel
theorem dX11_load_63 : decode cX11_load 63 = .ok (.iload_n 3, 1) := by decide +kernel
theorem dX11_load_64 : decode cX11_load 64 = .ok (.aload_n 0, 1) := by decide +kernel
theorem dX11_load_65 : decode cX11_load 65 = .ok (.getfield 46, 3) := by decide +kernel
theorem dX11_load_68 : decode cX11_load 68 = .ok (.getfield 357, 3) := by decide +kernel
theorem dX11_load_71 : decode cX11_load 71 = .ok (.if_icmp .ge 25, 3) := by decide +kernel
theorem dX11_load_74 : decode cX11_load 74 = .ok (.aload_n 0, 1) := by decide +kernel
theorem dX11_load_75 : decode cX11_load 75 = .ok (.getfield 19, 3) := by decide +kernel
theorem dX11_load_78 : decode cX11_load 78 = .ok (.aload_n 0, 1) := by decide +kernel
theorem dX11_load_79 : decode cX11_load 79 = .ok (.getfield 46, 3) := by decide +kernel
theorem dX11_load_82 : decode cX11_load 82 = .ok (.getfield 366, 3) := by decide +kernel
theorem dX11_load_85 : decode cX11_load 85 = .ok (.iload_n 3, 1) := by decide +kernel
theorem dX11_load_86 : decode cX11_load 86 = .ok (.iaload, 1) := by decide +kernel
theorem dX11_load_87 : decode cX11_load 87 = .ok (.invokevirtual 521, 3) := by decide +kernel
theorem dX11_load_90 : decode cX11_load 90 = .ok (.iinc 3 1, 3) := by decide +kernel
theorem dX11_load_93 : decode cX11_load 93 = .ok (.goto (-30), 3) := by decide +kernel
theorem dX11_load_96 : decode cX11_load 96 = .ok (.aload_n 0, 1) := by decide +kernel
theorem dX11_load_97 : decode cX11_load 97 = .ok (.iload_n 1, 1) := by decide +kernel
theorem dX11_load_98 : decode cX11_load 98 = .ok (.invokevirtual 524, 3) := by decide +kernel
theorem dX11_load_101 : decode cX11_load 101 = .ok (.ireturn, 1) := by decide +kernel
theorem dX11_lost_0 : decode cX11_lost 0 = .ok (.iload_n 1, 1) := by decide +kernel
theorem dX11_lost_1 : decode cX11_lost 1 = .ok (.invokestatic 354, 3) := by decide +kernel
theorem dX11_lost_4 : decode cX11_lost 4 = .ok (.aload_n 0, 1) := by decide +kernel
theorem dX11_lost_5 : decode cX11_lost 5 = .ok (.getfield 41, 3) := by decide +kernel
theorem dX11_lost_8 : decode cX11_lost 8 = .ok (.iload_n 1, 1) := by decide +kernel
theorem dX11_lost_9 : decode cX11_lost 9 = .ok (.aaload, 1) := by decide +kernel
theorem dX11_lost_10 : decode cX11_lost 10 = .ok (.invokevirtual 442, 3) := by decide +kernel
theorem dX11_lost_13 : decode cX11_lost 13 = .ok (.ireturn, 1) := by decide +kernel
theorem dX11_lostThing_0 : decode cX11_lostThing 0 = .ok (.iload_n 1, 1) := by decide +kernel
theorem dX11_lostThing_1 : decode cX11_lostThing 1 = .ok (.invokestatic 412, 3) := by decide +kernel
theorem dX11_lostThing_4 : decode cX11_lostThing 4 = .ok (.ifCond .eq 34, 3) := by decide +kernel
theorem dX11_lostThing_7 : decode cX11_lostThing 7 = .ok (.iload_n 2, 1) := by decide +kernel
theorem dX11_lostThing_8 : decode cX11_lostThing 8 = .ok (.ifCond .lt 30, 3) := by decide +kernel
theorem dX11_lostThing_11 : decode cX11_lostThing 11 = .ok (.iload_n 2, 1) := by decide +kernel
theorem dX11_lostThing_12 : decode cX11_lostThing 12 = .ok (.aload_n 0, 1) := by decide +kernel
theorem dX11_lostThing_13 : decode cX11_lostThing 13 = .ok (.getfield 41, 3) := by decide +kernel
theorem dX11_lostThing_16 : decode cX11_lostThing 16 = .ok (.iload_n 1, 1) := by decide +kernel
theorem dX11_lostThing_17 : decode cX11_lostThing 17 = .ok (.aaload, 1) := by decide +kernel
theorem dX11_lostThing_18 : decode cX11_lostThing 18 = .ok (.getfield 445, 3) := by decide +kernel
theorem dX11_lostThing_21 : decode cX11_lostThing 21 = .ok (.if_icmp .ge 17, 3) := by decide +kernel
theorem dX11_lostThing_24 : decode cX11_lostThing 24 = .ok (.aload_n 0, 1) := by decide +kernel
theorem dX11_lostThing_25 : decode cX11_lostThing 25 = .ok (.getfield 41, 3) := by decide +kernel
theorem dX11_lostThing_28 : decode cX11_lostThing 28 = .ok (.iload_n 1, 1) := by decide +kernel
theorem dX11_lostThing_29 : decode cX11_lostThing 29 = .ok (.aaload, 1) := by decide +kernel
theorem dX11_lostThing_30 : decode cX11_lostThing 30 = .ok (.getfield 448, 3) := by decide +kernel
theorem dX11_lostThing_33 : decode cX11_lostThing 33 = .ok (.iload_n 2, 1) := by decide +kernel
theorem dX11_lostThing_34 : decode cX11_lostThing 34 = .ok (.iaload, 1) := by decide +kernel
theorem dX11_lostThing_35 : decode cX11_lostThing 35 = .ok (.goto 4, 3) := by decide +kernel
theorem dX11_lostThing_38 : decode cX11_lostThing 38 = .ok (.iconst (-1), 1) := by decide +kernel
theorem dX11_lostThing_39 : decode cX11_lostThing 39 = .ok (.ireturn, 1) := by decide +kernel
theorem dX11_make_0 : decode cX11_make 0 = .ok (.aload_n 0, 1) := by decide +kernel
theorem dX11_make_1 : decode cX11_make 1 = .ok (.getfield 19, 3) := by decide +kernel
theorem dX11_make_4 : decode cX11_make 4 = .ok (.iload_n 1, 1) := by decide +kernel
theorem dX11_make_5 : decode cX11_make 5 = .ok (.invokevirtual 144, 3) := by decide +kernel
theorem dX11_make_8 : decode cX11_make 8 = .ok (.ifCond .eq 20, 3) := by decide +kernel
theorem dX11_make_11 : decode cX11_make 11 = .ok (.iload_n 1, 1) := by decide +kernel
theorem dX11_make_12 : decode cX11_make 12 = .ok (.invokestatic 207, 3) := by decide +kernel
theorem dX11_make_15 : decode cX11_make 15 = .ok (.ifCond .eq 21, 3) := by decide +kernel
theorem dX11_make_18 : decode cX11_make 18 = .ok (.iload_n 2, 1) := by decide +kernel
theorem dX11_make_19 : decode cX11_make 19 = .ok (.ifCond .lt 9, 3) := by decide +kernel
theorem dX11_make_22 : decode cX11_make 22 = .ok (.iload_n 2, 1) := by decide +kernel
theorem dX11_make_23 : decode cX11_make 23 = .ok (.bipush 60, 2) := by decide +kernel
theorem dX11_make_25 : decode cX11_make 25 = .ok (.if_icmp .le 11, 3) := by decide +kernel
theorem dX11_make_28 : decode cX11_make 28 = .ok (.new 127, 3) := by decide +kernel
theorem dX11_make_31 : decode cX11_make 31 = .ok (.dup, 1) := by decide +kernel
theorem dX11_make_32 : decode cX11_make 32 = .ok (.invokespecial 129, 3) := by decide +kernel
theorem dX11_make_35 : decode cX11_make 35 = .ok (.athrow, 1) := by decide +kernel
theorem dX11_make_36 : decode cX11_make 36 = .ok (.iload_n 1, 1) := by decide +kernel
theorem dX11_make_37 : decode cX11_make 37 = .ok (.invokestatic 207, 3) := by decide +kernel
theorem dX11_make_40 : decode cX11_make 40 = .ok (.ifCond .eq 7, 3) := by decide +kernel
theorem dX11_make_43 : decode cX11_make 43 = .ok (.iload_n 2, 1) := by decide +kernel
theorem dX11_make_44 : decode cX11_make 44 = .ok (.goto 4, 3) := by decide +kernel
theorem dX11_make_47 : decode cX11_make 47 = .ok (.iconst 0, 1) := by decide +kernel
theorem dX11_make_48 : decode cX11_make 48 = .ok (.istore_n 3, 1) := by decide +kernel
theorem dX11_make_49 : decode cX11_make 49 = .ok (.aload_n 0, 1) := by decide +kernel
theorem dX11_make_50 : decode cX11_make 50 = .ok (.getfield 28, 3) := by decide +kernel
theorem dX11_make_53 : decode cX11_make 53 = .ok (.iconst 1, 1) := by decide +kernel
theorem dX11_make_54 : decode cX11_make 54 = .ok (.aload_n 0, 1) := by decide +kernel
theorem dX11_make_55 : decode cX11_make 55 = .ok (.getfield 19, 3) := by decide +kernel
theorem dX11_make_58 : decode cX11_make 58 = .ok (.iload_n 1, 1) := by decide +kernel
theorem dX11_make_59 : decode cX11_make 59 = .ok (.iload_n 3, 1) := by decide +kernel
theorem dX11_make_60 : decode cX11_make 60 = .ok (.invokevirtual 210, 3) := by decide +kernel
theorem dX11_make_63 : decode cX11_make 63 = .ok (.invokevirtual 213, 3) := by decide +kernel
theorem dX11_make_66 : decode cX11_make 66 = .ok (.ifCond .ne 11, 3) := by decide +kernel
theorem dX11_make_69 : decode cX11_make 69 = .ok (.new 137, 3) := by decide +kernel
theorem dX11_make_72 : decode cX11_make 72 = .ok (.dup, 1) := by decide +kernel
theorem dX11_make_73 : decode cX11_make 73 = .ok (.invokespecial 139, 3) := by decide +kernel
theorem dX11_make_76 : decode cX11_make 76 = .ok (.athrow, 1) := by decide +kernel
theorem dX11_make_77 : decode cX11_make 77 = .ok (.aload_n 0, 1) := by decide +kernel
theorem dX11_make_78 : decode cX11_make 78 = .ok (.getfield 28, 3) := by decide +kernel
theorem dX11_make_81 : decode cX11_make 81 = .ok (.iload_n 1, 1) := by decide +kernel
theorem dX11_make_82 : decode cX11_make 82 = .ok (.iload_n 3, 1) := by decide +kernel
theorem dX11_make_83 : decode cX11_make 83 = .ok (.invokevirtual 216, 3) := by decide +kernel
theorem dX11_make_86 : decode cX11_make 86 = .ok (.ireturn, 1) := by decide +kernel
theorem dX11_member_0 : decode cX11_member 0 = .ok (.iload_n 1, 1) := by decide +kernel
theorem dX11_member_1 : decode cX11_member 1 = .ok (.invokestatic 412, 3) := by decide +kernel
theorem dX11_member_4 : decode cX11_member 4 = .ok (.ifCond .eq 21, 3) := by decide +kernel
theorem dX11_member_7 : decode cX11_member 7 = .ok (.iload_n 2, 1) := by decide +kernel
theorem dX11_member_8 : decode cX11_member 8 = .ok (.ifCond .lt 17, 3) := by decide +kernel
theorem dX11_member_11 : decode cX11_member 11 = .ok (.iload_n 2, 1) := by decide +kernel
theorem dX11_member_12 : decode cX11_member 12 = .ok (.iconst 1, 1) := by decide +kernel
theorem dX11_member_13 : decode cX11_member 13 = .ok (.if_icmp .gt 12, 3) := by decide +kernel
theorem dX11_member_16 : decode cX11_member 16 = .ok (.iload_n 3, 1) := by decide +kernel
theorem dX11_member_17 : decode cX11_member 17 = .ok (.ifCond .lt 8, 3) := by decide +kernel
theorem dX11_member_20 : decode cX11_member 20 = .ok (.iload 4, 2) := by decide +kernel
theorem dX11_member_22 : decode cX11_member 22 = .ok (.ifCond .ge 11, 3) := by decide +kernel
theorem dX11_member_25 : decode cX11_member 25 = .ok (.new 222, 3) := by decide +kernel
theorem dX11_member_28 : decode cX11_member 28 = .ok (.dup, 1) := by decide +kernel
theorem dX11_member_29 : decode cX11_member 29 = .ok (.invokespecial 224, 3) := by decide +kernel
theorem dX11_member_32 : decode cX11_member 32 = .ok (.athrow, 1) := by decide +kernel
theorem dX11_member_33 : decode cX11_member 33 = .ok (.iload_n 2, 1) := by decide +kernel
theorem dX11_member_34 : decode cX11_member 34 = .ok (.ifCond .ne 18, 3) := by decide +kernel
theorem dX11_member_37 : decode cX11_member 37 = .ok (.aload_n 0, 1) := by decide +kernel
theorem dX11_member_38 : decode cX11_member 38 = .ok (.getfield 41, 3) := by decide +kernel
theorem dX11_member_41 : decode cX11_member 41 = .ok (.iload_n 1, 1) := by decide +kernel
theorem dX11_member_42 : decode cX11_member 42 = .ok (.aaload, 1) := by decide +kernel
theorem dX11_member_43 : decode cX11_member 43 = .ok (.iload_n 3, 1) := by decide +kernel
theorem dX11_member_44 : decode cX11_member 44 = .ok (.iload 4, 2) := by decide +kernel
theorem dX11_member_46 : decode cX11_member 46 = .ok (.invokevirtual 433, 3) := by decide +kernel
theorem dX11_member_49 : decode cX11_member 49 = .ok (.goto 15, 3) := by decide +kernel
theorem dX11_member_52 : decode cX11_member 52 = .ok (.aload_n 0, 1) := by decide +kernel
theorem dX11_member_53 : decode cX11_member 53 = .ok (.getfield 41, 3) := by decide +kernel
theorem dX11_member_56 : decode cX11_member 56 = .ok (.iload_n 1, 1) := by decide +kernel
theorem dX11_member_57 : decode cX11_member 57 = .ok (.aaload, 1) := by decide +kernel
theorem dX11_member_58 : decode cX11_member 58 = .ok (.iload_n 3, 1) := by decide +kernel
theorem dX11_member_59 : decode cX11_member 59 = .ok (.iload 4, 2) := by decide +kernel
theorem dX11_member_61 : decode cX11_member 61 = .ok (.invokevirtual 436, 3) := by decide +kernel
theorem dX11_member_64 : decode cX11_member 64 = .ok (.istore 5, 2) := by decide +kernel
theorem dX11_member_66 : decode cX11_member 66 = .ok (.iload 5, 2) := by decide +kernel
theorem dX11_member_68 : decode cX11_member 68 = .ok (.iconst (-1), 1) := by decide +kernel
theorem dX11_member_69 : decode cX11_member 69 = .ok (.if_icmp .ne 11, 3) := by decide +kernel
theorem dX11_member_72 : decode cX11_member 72 = .ok (.new 222, 3) := by decide +kernel
theorem dX11_member_75 : decode cX11_member 75 = .ok (.dup, 1) := by decide +kernel
theorem dX11_member_76 : decode cX11_member 76 = .ok (.invokespecial 224, 3) := by decide +kernel
theorem dX11_member_79 : decode cX11_member 79 = .ok (.athrow, 1) := by decide +kernel
theorem dX11_member_80 : decode cX11_member 80 = .ok (.iload 5, 2) := by decide +kernel
theorem dX11_member_82 : decode cX11_member 82 = .ok (.ireturn, 1) := by decide +kernel
theorem dX11_needPicture_0 : decode cX11_needPicture 0 = .ok (.iload_n 0, 1) := by decide +kernel
theorem dX11_needPicture_1 : decode cX11_needPicture 1 = .ok (.invokestatic 412, 3) := by decide +kernel
theorem dX11_needPicture_4 : decode cX11_needPicture 4 = .ok (.ifCond .ne 11, 3) := by decide +kernel
theorem dX11_needPicture_7 : decode cX11_needPicture 7 = .ok (.new 120, 3) := by decide +kernel
theorem dX11_needPicture_10 : decode cX11_needPicture 10 = .ok (.dup, 1) := by decide +kernel
theorem dX11_needPicture_11 : decode cX11_needPicture 11 = .ok (.invokespecial 122, 3) := by decide +kernel
theorem dX11_needPicture_14 : decode cX11_needPicture 14 = .ok (.athrow, 1) := by decide +kernel
theorem dX11_needPicture_15 : decode cX11_needPicture 15 = .ok (.return_, 1) := by decide +kernel
theorem dX11_object_0 : decode cX11_object 0 = .ok (.aload_n 0, 1) := by decide +kernel
theorem dX11_object_1 : decode cX11_object 1 = .ok (.getfield 28, 3) := by decide +kernel
theorem dX11_object_4 : decode cX11_object 4 = .ok (.iload_n 1, 1) := by decide +kernel
theorem dX11_object_5 : decode cX11_object 5 = .ok (.invokevirtual 219, 3) := by decide +kernel
theorem dX11_object_8 : decode cX11_object 8 = .ok (.ifCond .ne 5, 3) := by decide +kernel
theorem dX11_object_11 : decode cX11_object 11 = .ok (.iconst (-1), 1) := by decide +kernel
theorem dX11_object_12 : decode cX11_object 12 = .ok (.ireturn, 1) := by decide +kernel
theorem dX11_object_13 : decode cX11_object 13 = .ok (.iload_n 2, 1) := by decide +kernel
theorem dX11_object_14 : decode cX11_object 14 = .ok (.tableswitch 72 0 2 #[26, 36, 46], 26) := by decide +kernel
theorem dX11_object_40 : decode cX11_object 40 = .ok (.aload_n 0, 1) := by decide +kernel
theorem dX11_object_41 : decode cX11_object 41 = .ok (.getfield 28, 3) := by decide +kernel
theorem dX11_object_44 : decode cX11_object 44 = .ok (.getfield 241, 3) := by decide +kernel
theorem dX11_object_47 : decode cX11_object 47 = .ok (.iload_n 1, 1) := by decide +kernel
theorem dX11_object_48 : decode cX11_object 48 = .ok (.iaload, 1) := by decide +kernel
theorem dX11_object_49 : decode cX11_object 49 = .ok (.ireturn, 1) := by decide +kernel
theorem dX11_object_50 : decode cX11_object 50 = .ok (.aload_n 0, 1) := by decide +kernel
theorem dX11_object_51 : decode cX11_object 51 = .ok (.getfield 28, 3) := by decide +kernel
theorem dX11_object_54 : decode cX11_object 54 = .ok (.getfield 274, 3) := by decide +kernel
theorem dX11_object_57 : decode cX11_object 57 = .ok (.iload_n 1, 1) := by decide +kernel
theorem dX11_object_58 : decode cX11_object 58 = .ok (.iaload, 1) := by decide +kernel
theorem dX11_object_59 : decode cX11_object 59 = .ok (.ireturn, 1) := by decide +kernel
theorem dX11_object_60 : decode cX11_object 60 = .ok (.aload_n 0, 1) := by decide +kernel
theorem dX11_object_61 : decode cX11_object 61 = .ok (.getfield 19, 3) := by decide +kernel
theorem dX11_object_64 : decode cX11_object 64 = .ok (.aload_n 0, 1) := by decide +kernel
theorem dX11_object_65 : decode cX11_object 65 = .ok (.getfield 28, 3) := by decide +kernel
theorem dX11_object_68 : decode cX11_object 68 = .ok (.getfield 241, 3) := by decide +kernel
theorem dX11_object_71 : decode cX11_object 71 = .ok (.iload_n 1, 1) := by decide +kernel
theorem dX11_object_72 : decode cX11_object 72 = .ok (.iaload, 1) := by decide +kernel
theorem dX11_object_73 : decode cX11_object 73 = .ok (.aload_n 0, 1) := by decide +kernel
theorem dX11_object_74 : decode cX11_object 74 = .ok (.getfield 28, 3) := by decide +kernel
theorem dX11_object_77 : decode cX11_object 77 = .ok (.getfield 274, 3) := by decide +kernel
theorem dX11_object_80 : decode cX11_object 80 = .ok (.iload_n 1, 1) := by decide +kernel
theorem dX11_object_81 : decode cX11_object 81 = .ok (.iaload, 1) := by decide +kernel
theorem dX11_object_82 : decode cX11_object 82 = .ok (.invokevirtual 178, 3) := by decide +kernel
theorem dX11_object_85 : decode cX11_object 85 = .ok (.ireturn, 1) := by decide +kernel
theorem dX11_object_86 : decode cX11_object 86 = .ok (.iconst (-1), 1) := by decide +kernel
theorem dX11_object_87 : decode cX11_object 87 = .ok (.ireturn, 1) := by decide +kernel
theorem dX11_picture_0 : decode cX11_picture 0 = .ok (.iload_n 1, 1) := by decide +kernel
theorem dX11_picture_1 : decode cX11_picture 1 = .ok (.invokestatic 412, 3) := by decide +kernel
theorem dX11_picture_4 : decode cX11_picture 4 = .ok (.ifCond .ne 5, 3) := by decide +kernel
theorem dX11_picture_7 : decode cX11_picture 7 = .ok (.iconst (-1), 1) := by decide +kernel
theorem dX11_picture_8 : decode cX11_picture 8 = .ok (.ireturn, 1) := by decide +kernel
theorem dX11_picture_9 : decode cX11_picture 9 = .ok (.aload_n 0, 1) := by decide +kernel
theorem dX11_picture_10 : decode cX11_picture 10 = .ok (.getfield 41, 3) := by decide +kernel
theorem dX11_picture_13 : decode cX11_picture 13 = .ok (.iload_n 1, 1) := by decide +kernel
theorem dX11_picture_14 : decode cX11_picture 14 = .ok (.aaload, 1) := by decide +kernel
theorem dX11_picture_15 : decode cX11_picture 15 = .ok (.astore_n 3, 1) := by decide +kernel
theorem dX11_picture_16 : decode cX11_picture 16 = .ok (.iload_n 2, 1) := by decide +kernel
theorem dX11_picture_17 : decode cX11_picture 17 = .ok (.tableswitch 95 0 5 #[39, 44, 49, 54, 63, 72], 39) := by decide +kernel
theorem dX11_picture_56 : decode cX11_picture 56 = .ok (.aload_n 3, 1) := by decide +kernel
theorem dX11_picture_57 : decode cX11_picture 57 = .ok (.getfield 357, 3) := by decide +kernel
theorem dX11_picture_60 : decode cX11_picture 60 = .ok (.ireturn, 1) := by decide +kernel
theorem dX11_picture_61 : decode cX11_picture 61 = .ok (.aload_n 3, 1) := by decide +kernel
theorem dX11_picture_62 : decode cX11_picture 62 = .ok (.invokevirtual 415, 3) := by decide +kernel
theorem dX11_picture_65 : decode cX11_picture 65 = .ok (.ireturn, 1) := by decide +kernel
theorem dX11_picture_66 : decode cX11_picture 66 = .ok (.aload_n 3, 1) := by decide +kernel
theorem dX11_picture_67 : decode cX11_picture 67 = .ok (.invokevirtual 418, 3) := by decide +kernel
theorem dX11_picture_70 : decode cX11_picture 70 = .ok (.ireturn, 1) := by decide +kernel
theorem dX11_picture_71 : decode cX11_picture 71 = .ok (.aload_n 3, 1) := by decide +kernel
theorem dX11_picture_72 : decode cX11_picture 72 = .ok (.aload_n 0, 1) := by decide +kernel
theorem dX11_picture_73 : decode cX11_picture 73 = .ok (.getfield 19, 3) := by decide +kernel
theorem dX11_picture_76 : decode cX11_picture 76 = .ok (.invokevirtual 421, 3) := by decide +kernel
theorem dX11_picture_79 : decode cX11_picture 79 = .ok (.ireturn, 1) := by decide +kernel
theorem dX11_picture_80 : decode cX11_picture 80 = .ok (.aload_n 3, 1) := by decide +kernel
theorem dX11_picture_81 : decode cX11_picture 81 = .ok (.aload_n 0, 1) := by decide +kernel
theorem dX11_picture_82 : decode cX11_picture 82 = .ok (.getfield 19, 3) := by decide +kernel
theorem dX11_picture_85 : decode cX11_picture 85 = .ok (.invokevirtual 425, 3) := by decide +kernel
theorem dX11_picture_88 : decode cX11_picture 88 = .ok (.ireturn, 1) := by decide +kernel
theorem dX11_picture_89 : decode cX11_picture 89 = .ok (.aload_n 3, 1) := by decide +kernel
theorem dX11_picture_90 : decode cX11_picture 90 = .ok (.getfield 357, 3) := by decide +kernel
theorem dX11_picture_93 : decode cX11_picture 93 = .ok (.ifCond .ne 7, 3) := by decide +kernel
theorem dX11_picture_96 : decode cX11_picture 96 = .ok (.iconst (-1), 1) := by decide +kernel
theorem dX11_picture_97 : decode cX11_picture 97 = .ok (.goto 14, 3) := by decide +kernel
theorem dX11_picture_100 : decode cX11_picture 100 = .ok (.aload_n 3, 1) := by decide +kernel
theorem dX11_picture_101 : decode cX11_picture 101 = .ok (.getfield 368, 3) := by decide +kernel
theorem dX11_picture_104 : decode cX11_picture 104 = .ok (.aload_n 3, 1) := by decide +kernel
theorem dX11_picture_105 : decode cX11_picture 105 = .ok (.getfield 357, 3) := by decide +kernel
theorem dX11_picture_108 : decode cX11_picture 108 = .ok (.iconst 1, 1) := by decide +kernel
theorem dX11_picture_109 : decode cX11_picture 109 = .ok (.isub, 1) := by decide +kernel
theorem dX11_picture_110 : decode cX11_picture 110 = .ok (.iaload, 1) := by decide +kernel
theorem dX11_picture_111 : decode cX11_picture 111 = .ok (.ireturn, 1) := by decide +kernel
theorem dX11_picture_112 : decode cX11_picture 112 = .ok (.iload_n 2, 1) := by decide +kernel
theorem dX11_picture_113 : decode cX11_picture 113 = .ok (.sipush 200, 3) := by decide +kernel
theorem dX11_picture_116 : decode cX11_picture 116 = .ok (.if_icmp .lt 36, 3) := by decide +kernel
theorem dX11_picture_119 : decode cX11_picture 119 = .ok (.aload_n 0, 1) := by decide +kernel
theorem dX11_picture_120 : decode cX11_picture 120 = .ok (.getfield 19, 3) := by decide +kernel
theorem dX11_picture_123 : decode cX11_picture 123 = .ok (.iload_n 2, 1) := by decide +kernel
theorem dX11_picture_124 : decode cX11_picture 124 = .ok (.sipush 200, 3) := by decide +kernel
theorem dX11_picture_127 : decode cX11_picture 127 = .ok (.isub, 1) := by decide +kernel
theorem dX11_picture_128 : decode cX11_picture 128 = .ok (.invokevirtual 116, 3) := by decide +kernel
theorem dX11_picture_131 : decode cX11_picture 131 = .ok (.ifCond .eq 19, 3) := by decide +kernel
theorem dX11_picture_134 : decode cX11_picture 134 = .ok (.aload_n 3, 1) := by decide +kernel
theorem dX11_picture_135 : decode cX11_picture 135 = .ok (.aload_n 0, 1) := by decide +kernel
theorem dX11_picture_136 : decode cX11_picture 136 = .ok (.getfield 19, 3) := by decide +kernel
theorem dX11_picture_139 : decode cX11_picture 139 = .ok (.iload_n 2, 1) := by decide +kernel
theorem dX11_picture_140 : decode cX11_picture 140 = .ok (.sipush 200, 3) := by decide +kernel
theorem dX11_picture_143 : decode cX11_picture 143 = .ok (.isub, 1) := by decide +kernel
theorem dX11_picture_144 : decode cX11_picture 144 = .ok (.invokevirtual 428, 3) := by decide +kernel
theorem dX11_picture_147 : decode cX11_picture 147 = .ok (.goto 4, 3) := by decide +kernel
theorem dX11_picture_150 : decode cX11_picture 150 = .ok (.iconst (-1), 1) := by decide +kernel
theorem dX11_picture_151 : decode cX11_picture 151 = .ok (.ireturn, 1) := by decide +kernel
theorem dX11_picture_152 : decode cX11_picture 152 = .ok (.iload_n 2, 1) := by decide +kernel
theorem dX11_picture_153 : decode cX11_picture 153 = .ok (.bipush 100, 2) := by decide +kernel
theorem dX11_picture_155 : decode cX11_picture 155 = .ok (.if_icmp .lt 28, 3) := by decide +kernel
theorem dX11_picture_158 : decode cX11_picture 158 = .ok (.aload_n 0, 1) := by decide +kernel
theorem dX11_picture_159 : decode cX11_picture 159 = .ok (.getfield 19, 3) := by decide +kernel
theorem dX11_picture_162 : decode cX11_picture 162 = .ok (.iload_n 2, 1) := by decide +kernel
theorem dX11_picture_163 : decode cX11_picture 163 = .ok (.bipush 100, 2) := by decide +kernel
theorem dX11_picture_165 : decode cX11_picture 165 = .ok (.isub, 1) := by decide +kernel
theorem dX11_picture_166 : decode cX11_picture 166 = .ok (.invokevirtual 116, 3) := by decide +kernel
theorem dX11_picture_169 : decode cX11_picture 169 = .ok (.ifCond .eq 14, 3) := by decide +kernel
theorem dX11_picture_172 : decode cX11_picture 172 = .ok (.aload_n 3, 1) := by decide +kernel
theorem dX11_picture_173 : decode cX11_picture 173 = .ok (.iload_n 2, 1) := by decide +kernel
theorem dX11_picture_174 : decode cX11_picture 174 = .ok (.bipush 100, 2) := by decide +kernel
theorem dX11_picture_176 : decode cX11_picture 176 = .ok (.isub, 1) := by decide +kernel
theorem dX11_picture_177 : decode cX11_picture 177 = .ok (.invokevirtual 432, 3) := by decide +kernel
theorem dX11_picture_180 : decode cX11_picture 180 = .ok (.goto 4, 3) := by decide +kernel
theorem dX11_picture_183 : decode cX11_picture 183 = .ok (.iconst (-1), 1) := by decide +kernel
theorem dX11_picture_184 : decode cX11_picture 184 = .ok (.ireturn, 1) := by decide +kernel
theorem dX11_promise_0 : decode cX11_promise 0 = .ok (.aload_n 0, 1) := by decide +kernel
theorem dX11_promise_1 : decode cX11_promise 1 = .ok (.getfield 327, 3) := by decide +kernel
theorem dX11_promise_4 : decode cX11_promise 4 = .ok (.iconst 3, 1) := by decide +kernel
theorem dX11_promise_5 : decode cX11_promise 5 = .ok (.if_icmp .ne 11, 3) := by decide +kernel
theorem dX11_promise_8 : decode cX11_promise 8 = .ok (.new 137, 3) := by decide +kernel
theorem dX11_promise_11 : decode cX11_promise 11 = .ok (.dup, 1) := by decide +kernel
theorem dX11_promise_12 : decode cX11_promise 12 = .ok (.invokespecial 139, 3) := by decide +kernel
theorem dX11_promise_15 : decode cX11_promise 15 = .ok (.athrow, 1) := by decide +kernel
theorem dX11_promise_16 : decode cX11_promise 16 = .ok (.aload_n 0, 1) := by decide +kernel
theorem dX11_promise_17 : decode cX11_promise 17 = .ok (.getfield 66, 3) := by decide +kernel
theorem dX11_promise_20 : decode cX11_promise 20 = .ok (.aload_n 0, 1) := by decide +kernel
theorem dX11_promise_21 : decode cX11_promise 21 = .ok (.getfield 327, 3) := by decide +kernel
theorem dX11_promise_24 : decode cX11_promise 24 = .ok (.aaload, 1) := by decide +kernel
theorem dX11_promise_25 : decode cX11_promise 25 = .ok (.astore_n 1, 1) := by decide +kernel
theorem dX11_promise_26 : decode cX11_promise 26 = .ok (.aload_n 1, 1) := by decide +kernel
theorem dX11_promise_27 : decode cX11_promise 27 = .ok (.invokevirtual 330, 3) := by decide +kernel
theorem dX11_promise_30 : decode cX11_promise 30 = .ok (.istore_n 2, 1) := by decide +kernel
theorem dX11_promise_31 : decode cX11_promise 31 = .ok (.aload_n 0, 1) := by decide +kernel
theorem dX11_promise_32 : decode cX11_promise 32 = .ok (.aload_n 1, 1) := by decide +kernel
theorem dX11_promise_33 : decode cX11_promise 33 = .ok (.getfield 334, 3) := by decide +kernel
theorem dX11_promise_36 : decode cX11_promise 36 = .ok (.aload_n 1, 1) := by decide +kernel
theorem dX11_promise_37 : decode cX11_promise 37 = .ok (.getfield 337, 3) := by decide +kernel
theorem dX11_promise_40 : decode cX11_promise 40 = .ok (.invokevirtual 340, 3) := by decide +kernel
theorem dX11_promise_43 : decode cX11_promise 43 = .ok (.iload_n 2, 1) := by decide +kernel
theorem dX11_promise_44 : decode cX11_promise 44 = .ok (.ifCond .ne 11, 3) := by decide +kernel
theorem dX11_promise_47 : decode cX11_promise 47 = .ok (.new 127, 3) := by decide +kernel
theorem dX11_promise_50 : decode cX11_promise 50 = .ok (.dup, 1) := by decide +kernel
theorem dX11_promise_51 : decode cX11_promise 51 = .ok (.invokespecial 129, 3) := by decide +kernel
theorem dX11_promise_54 : decode cX11_promise 54 = .ok (.athrow, 1) := by decide +kernel
theorem dX11_promise_55 : decode cX11_promise 55 = .ok (.aload_n 0, 1) := by decide +kernel
theorem dX11_promise_56 : decode cX11_promise 56 = .ok (.getfield 46, 3) := by decide +kernel
theorem dX11_promise_59 : decode cX11_promise 59 = .ok (.aload_n 0, 1) := by decide +kernel
theorem dX11_promise_60 : decode cX11_promise 60 = .ok (.getfield 28, 3) := by decide +kernel
theorem dX11_promise_63 : decode cX11_promise 63 = .ok (.invokevirtual 343, 3) := by decide +kernel
theorem dX11_promise_66 : decode cX11_promise 66 = .ok (.aload_n 0, 1) := by decide +kernel
theorem dX11_promise_67 : decode cX11_promise 67 = .ok (.getfield 70, 3) := by decide +kernel
theorem dX11_promise_70 : decode cX11_promise 70 = .ok (.aload_n 0, 1) := by decide +kernel
theorem dX11_promise_71 : decode cX11_promise 71 = .ok (.getfield 327, 3) := by decide +kernel
theorem dX11_promise_74 : decode cX11_promise 74 = .ok (.aload_n 0, 1) := by decide +kernel
theorem dX11_promise_75 : decode cX11_promise 75 = .ok (.getfield 62, 3) := by decide +kernel
theorem dX11_promise_78 : decode cX11_promise 78 = .ok (.aload_n 1, 1) := by decide +kernel
theorem dX11_promise_79 : decode cX11_promise 79 = .ok (.aload_n 0, 1) := by decide +kernel
theorem dX11_promise_80 : decode cX11_promise 80 = .ok (.getfield 46, 3) := by decide +kernel
theorem dX11_promise_83 : decode cX11_promise 83 = .ok (.invokevirtual 347, 3) := by decide +kernel
theorem dX11_promise_86 : decode cX11_promise 86 = .ok (.ifCond .eq 18, 3) := by decide +kernel
theorem dX11_promise_89 : decode cX11_promise 89 = .ok (.aload_n 0, 1) := by decide +kernel
theorem dX11_promise_90 : decode cX11_promise 90 = .ok (.getfield 62, 3) := by decide +kernel
theorem dX11_promise_93 : decode cX11_promise 93 = .ok (.invokevirtual 351, 3) := by decide +kernel
theorem dX11_promise_96 : decode cX11_promise 96 = .ok (.ifCond .eq 8, 3) := by decide +kernel
theorem dX11_promise_99 : decode cX11_promise 99 = .ok (.bipush (-2), 2) := by decide +kernel
theorem dX11_promise_101 : decode cX11_promise 101 = .ok (.goto 4, 3) := by decide +kernel
theorem dX11_promise_104 : decode cX11_promise 104 = .ok (.iconst (-1), 1) := by decide +kernel
theorem dX11_promise_105 : decode cX11_promise 105 = .ok (.iastore, 1) := by decide +kernel
theorem dX11_promise_106 : decode cX11_promise 106 = .ok (.aload_n 0, 1) := by decide +kernel
theorem dX11_promise_107 : decode cX11_promise 107 = .ok (.dup, 1) := by decide +kernel
theorem dX11_promise_108 : decode cX11_promise 108 = .ok (.getfield 327, 3) := by decide +kernel
theorem dX11_promise_111 : decode cX11_promise 111 = .ok (.iconst 1, 1) := by decide +kernel
theorem dX11_promise_112 : decode cX11_promise 112 = .ok (.iadd, 1) := by decide +kernel
theorem dX11_promise_113 : decode cX11_promise 113 = .ok (.putfield 327, 3) := by decide +kernel
theorem dX11_promise_116 : decode cX11_promise 116 = .ok (.aload_n 0, 1) := by decide +kernel
theorem dX11_promise_117 : decode cX11_promise 117 = .ok (.getfield 327, 3) := by decide +kernel
theorem dX11_promise_120 : decode cX11_promise 120 = .ok (.iconst 1, 1) := by decide +kernel
theorem dX11_promise_121 : decode cX11_promise 121 = .ok (.isub, 1) := by decide +kernel
theorem dX11_promise_122 : decode cX11_promise 122 = .ok (.ireturn, 1) := by decide +kernel
theorem dX11_recall_0 : decode cX11_recall 0 = .ok (.iload_n 1, 1) := by decide +kernel
theorem dX11_recall_1 : decode cX11_recall 1 = .ok (.invokestatic 354, 3) := by decide +kernel
theorem dX11_recall_4 : decode cX11_recall 4 = .ok (.iload_n 2, 1) := by decide +kernel
theorem dX11_recall_5 : decode cX11_recall 5 = .ok (.ifCond .lt 29, 3) := by decide +kernel
theorem dX11_recall_8 : decode cX11_recall 8 = .ok (.iload_n 2, 1) := by decide +kernel
theorem dX11_recall_9 : decode cX11_recall 9 = .ok (.aload_n 0, 1) := by decide +kernel
theorem dX11_recall_10 : decode cX11_recall 10 = .ok (.getfield 91, 3) := by decide +kernel
theorem dX11_recall_13 : decode cX11_recall 13 = .ok (.getfield 530, 3) := by decide +kernel
theorem dX11_recall_16 : decode cX11_recall 16 = .ok (.if_icmp .ge 18, 3) := by decide +kernel
theorem dX11_recall_19 : decode cX11_recall 19 = .ok (.aload_n 0, 1) := by decide +kernel
theorem dX11_recall_20 : decode cX11_recall 20 = .ok (.getfield 91, 3) := by decide +kernel
theorem dX11_recall_23 : decode cX11_recall 23 = .ok (.iload_n 2, 1) := by decide +kernel
theorem dX11_recall_24 : decode cX11_recall 24 = .ok (.aload_n 0, 1) := by decide +kernel
theorem dX11_recall_25 : decode cX11_recall 25 = .ok (.getfield 46, 3) := by decide +kernel
theorem dX11_recall_28 : decode cX11_recall 28 = .ok (.invokevirtual 537, 3) := by decide +kernel
theorem dX11_recall_31 : decode cX11_recall 31 = .ok (.ifCond .ne 11, 3) := by decide +kernel
theorem dX11_recall_34 : decode cX11_recall 34 = .ok (.new 222, 3) := by decide +kernel
theorem dX11_recall_37 : decode cX11_recall 37 = .ok (.dup, 1) := by decide +kernel
theorem dX11_recall_38 : decode cX11_recall 38 = .ok (.invokespecial 224, 3) := by decide +kernel
theorem dX11_recall_41 : decode cX11_recall 41 = .ok (.athrow, 1) := by decide +kernel
theorem dX11_recall_42 : decode cX11_recall 42 = .ok (.aload_n 0, 1) := by decide +kernel
theorem dX11_recall_43 : decode cX11_recall 43 = .ok (.iload_n 1, 1) := by decide +kernel
theorem dX11_recall_44 : decode cX11_recall 44 = .ok (.invokevirtual 524, 3) := by decide +kernel
theorem dX11_recall_47 : decode cX11_recall 47 = .ok (.ireturn, 1) := by decide +kernel
theorem dX11_reopen_0 : decode cX11_reopen 0 = .ok (.aload_n 0, 1) := by decide +kernel
theorem dX11_reopen_1 : decode cX11_reopen 1 = .ok (.getfield 91, 3) := by decide +kernel
theorem dX11_reopen_4 : decode cX11_reopen 4 = .ok (.iload_n 1, 1) := by decide +kernel
theorem dX11_reopen_5 : decode cX11_reopen 5 = .ok (.aload_n 0, 1) := by decide +kernel
theorem dX11_reopen_6 : decode cX11_reopen 6 = .ok (.getfield 46, 3) := by decide +kernel
theorem dX11_reopen_9 : decode cX11_reopen 9 = .ok (.invokevirtual 533, 3) := by decide +kernel
theorem dX11_reopen_12 : decode cX11_reopen 12 = .ok (.ireturn, 1) := by decide +kernel
theorem dX11_root_0 : decode cX11_root 0 = .ok (.aload_n 0, 1) := by decide +kernel
theorem dX11_root_1 : decode cX11_root 1 = .ok (.getfield 28, 3) := by decide +kernel
theorem dX11_root_4 : decode cX11_root 4 = .ok (.iload_n 1, 1) := by decide +kernel
theorem dX11_root_5 : decode cX11_root 5 = .ok (.invokevirtual 219, 3) := by decide +kernel
theorem dX11_root_8 : decode cX11_root 8 = .ok (.ifCond .ne 11, 3) := by decide +kernel
theorem dX11_root_11 : decode cX11_root 11 = .ok (.new 222, 3) := by decide +kernel
theorem dX11_root_14 : decode cX11_root 14 = .ok (.dup, 1) := by decide +kernel
theorem dX11_root_15 : decode cX11_root 15 = .ok (.invokespecial 224, 3) := by decide +kernel
theorem dX11_root_18 : decode cX11_root 18 = .ok (.athrow, 1) := by decide +kernel
theorem dX11_root_19 : decode cX11_root 19 = .ok (.aload_n 0, 1) := by decide +kernel
theorem dX11_root_20 : decode cX11_root 20 = .ok (.getfield 28, 3) := by decide +kernel
theorem dX11_root_23 : decode cX11_root 23 = .ok (.iload_n 1, 1) := by decide +kernel
theorem dX11_root_24 : decode cX11_root 24 = .ok (.invokevirtual 225, 3) := by decide +kernel
theorem dX11_root_27 : decode cX11_root 27 = .ok (.istore_n 3, 1) := by decide +kernel
theorem dX11_root_28 : decode cX11_root 28 = .ok (.iload_n 2, 1) := by decide +kernel
theorem dX11_root_29 : decode cX11_root 29 = .ok (.ifCond .eq 57, 3) := by decide +kernel
theorem dX11_root_32 : decode cX11_root 32 = .ok (.iload_n 3, 1) := by decide +kernel
theorem dX11_root_33 : decode cX11_root 33 = .ok (.iconst (-1), 1) := by decide +kernel
theorem dX11_root_34 : decode cX11_root 34 = .ok (.if_icmp .ne 52, 3) := by decide +kernel
theorem dX11_root_37 : decode cX11_root 37 = .ok (.aload_n 0, 1) := by decide +kernel
theorem dX11_root_38 : decode cX11_root 38 = .ok (.getfield 28, 3) := by decide +kernel
theorem dX11_root_41 : decode cX11_root 41 = .ok (.getfield 228, 3) := by decide +kernel
theorem dX11_root_44 : decode cX11_root 44 = .ok (.bipush 12, 2) := by decide +kernel
theorem dX11_root_46 : decode cX11_root 46 = .ok (.if_icmp .ne 11, 3) := by decide +kernel
theorem dX11_root_49 : decode cX11_root 49 = .ok (.new 137, 3) := by decide +kernel
theorem dX11_root_52 : decode cX11_root 52 = .ok (.dup, 1) := by decide +kernel
theorem dX11_root_53 : decode cX11_root 53 = .ok (.invokespecial 139, 3) := by decide +kernel
theorem dX11_root_56 : decode cX11_root 56 = .ok (.athrow, 1) := by decide +kernel
theorem dX11_root_57 : decode cX11_root 57 = .ok (.aload_n 0, 1) := by decide +kernel
theorem dX11_root_58 : decode cX11_root 58 = .ok (.getfield 28, 3) := by decide +kernel
theorem dX11_root_61 : decode cX11_root 61 = .ok (.getfield 231, 3) := by decide +kernel
theorem dX11_root_64 : decode cX11_root 64 = .ok (.aload_n 0, 1) := by decide +kernel
theorem dX11_root_65 : decode cX11_root 65 = .ok (.getfield 28, 3) := by decide +kernel
theorem dX11_root_68 : decode cX11_root 68 = .ok (.getfield 228, 3) := by decide +kernel
theorem dX11_root_71 : decode cX11_root 71 = .ok (.iload_n 1, 1) := by decide +kernel
theorem dX11_root_72 : decode cX11_root 72 = .ok (.iastore, 1) := by decide +kernel
theorem dX11_root_73 : decode cX11_root 73 = .ok (.aload_n 0, 1) := by decide +kernel
theorem dX11_root_74 : decode cX11_root 74 = .ok (.getfield 28, 3) := by decide +kernel
theorem dX11_root_77 : decode cX11_root 77 = .ok (.dup, 1) := by decide +kernel
theorem dX11_root_78 : decode cX11_root 78 = .ok (.getfield 228, 3) := by decide +kernel
theorem dX11_root_81 : decode cX11_root 81 = .ok (.iconst 1, 1) := by decide +kernel
theorem dX11_root_82 : decode cX11_root 82 = .ok (.iadd, 1) := by decide +kernel
theorem dX11_root_83 : decode cX11_root 83 = .ok (.putfield 228, 3) := by decide +kernel
theorem dX11_root_86 : decode cX11_root 86 = .ok (.iload_n 2, 1) := by decide +kernel
theorem dX11_root_87 : decode cX11_root 87 = .ok (.ifCond .ne 16, 3) := by decide +kernel
theorem dX11_root_90 : decode cX11_root 90 = .ok (.iload_n 3, 1) := by decide +kernel
theorem dX11_root_91 : decode cX11_root 91 = .ok (.iconst (-1), 1) := by decide +kernel
theorem dX11_root_92 : decode cX11_root 92 = .ok (.if_icmp .eq 11, 3) := by decide +kernel
theorem dX11_root_95 : decode cX11_root 95 = .ok (.aload_n 0, 1) := by decide +kernel
theorem dX11_root_96 : decode cX11_root 96 = .ok (.getfield 28, 3) := by decide +kernel
theorem dX11_root_99 : decode cX11_root 99 = .ok (.iload_n 3, 1) := by decide +kernel
theorem dX11_root_100 : decode cX11_root 100 = .ok (.invokevirtual 234, 3) := by decide +kernel
theorem dX11_root_103 : decode cX11_root 103 = .ok (.return_, 1) := by decide +kernel
theorem dX11_row_0 : decode cX11_row 0 = .ok (.iload_n 2, 1) := by decide +kernel
theorem dX11_row_1 : decode cX11_row 1 = .ok (.ifCond .lt 21, 3) := by decide +kernel
theorem dX11_row_4 : decode cX11_row 4 = .ok (.iload_n 2, 1) := by decide +kernel
theorem dX11_row_5 : decode cX11_row 5 = .ok (.aload_n 0, 1) := by decide +kernel
theorem dX11_row_6 : decode cX11_row 6 = .ok (.iload_n 1, 1) := by decide +kernel
theorem dX11_row_7 : decode cX11_row 7 = .ok (.invokevirtual 320, 3) := by decide +kernel
theorem dX11_row_10 : decode cX11_row 10 = .ok (.if_icmp .ge 12, 3) := by decide +kernel
theorem dX11_row_13 : decode cX11_row 13 = .ok (.iload_n 3, 1) := by decide +kernel
theorem dX11_row_14 : decode cX11_row 14 = .ok (.ifCond .lt 8, 3) := by decide +kernel
theorem dX11_row_17 : decode cX11_row 17 = .ok (.iload_n 3, 1) := by decide +kernel
theorem dX11_row_18 : decode cX11_row 18 = .ok (.iconst 4, 1) := by decide +kernel
theorem dX11_row_19 : decode cX11_row 19 = .ok (.if_icmp .lt 11, 3) := by decide +kernel
theorem dX11_row_22 : decode cX11_row 22 = .ok (.new 222, 3) := by decide +kernel
theorem dX11_row_25 : decode cX11_row 25 = .ok (.dup, 1) := by decide +kernel
theorem dX11_row_26 : decode cX11_row 26 = .ok (.invokespecial 224, 3) := by decide +kernel
theorem dX11_row_29 : decode cX11_row 29 = .ok (.athrow, 1) := by decide +kernel
theorem dX11_row_30 : decode cX11_row 30 = .ok (.aload_n 0, 1) := by decide +kernel
theorem dX11_row_31 : decode cX11_row 31 = .ok (.getfield 35, 3) := by decide +kernel
theorem dX11_row_34 : decode cX11_row 34 = .ok (.iload_n 1, 1) := by decide +kernel
theorem dX11_row_35 : decode cX11_row 35 = .ok (.iload_n 2, 1) := by decide +kernel
theorem dX11_row_36 : decode cX11_row 36 = .ok (.iload_n 3, 1) := by decide +kernel
theorem dX11_row_37 : decode cX11_row 37 = .ok (.invokevirtual 323, 3) := by decide +kernel
theorem dX11_row_40 : decode cX11_row 40 = .ok (.lreturn, 1) := by decide +kernel
theorem dX11_rows_0 : decode cX11_rows 0 = .ok (.iload_n 1, 1) := by decide +kernel
theorem dX11_rows_1 : decode cX11_rows 1 = .ok (.ifCond .lt 26, 3) := by decide +kernel
theorem dX11_rows_4 : decode cX11_rows 4 = .ok (.iload_n 1, 1) := by decide +kernel
theorem dX11_rows_5 : decode cX11_rows 5 = .ok (.aload_n 0, 1) := by decide +kernel
theorem dX11_rows_6 : decode cX11_rows 6 = .ok (.getfield 35, 3) := by decide +kernel
theorem dX11_rows_9 : decode cX11_rows 9 = .ok (.getfield 310, 3) := by decide +kernel
theorem dX11_rows_12 : decode cX11_rows 12 = .ok (.if_icmp .ge 15, 3) := by decide +kernel
theorem dX11_rows_15 : decode cX11_rows 15 = .ok (.aload_n 0, 1) := by decide +kernel
theorem dX11_rows_16 : decode cX11_rows 16 = .ok (.getfield 35, 3) := by decide +kernel
theorem dX11_rows_19 : decode cX11_rows 19 = .ok (.getfield 317, 3) := by decide +kernel
theorem dX11_rows_22 : decode cX11_rows 22 = .ok (.iload_n 1, 1) := by decide +kernel
theorem dX11_rows_23 : decode cX11_rows 23 = .ok (.iaload, 1) := by decide +kernel
theorem dX11_rows_24 : decode cX11_rows 24 = .ok (.goto 4, 3) := by decide +kernel
theorem dX11_rows_27 : decode cX11_rows 27 = .ok (.iconst (-1), 1) := by decide +kernel
theorem dX11_rows_28 : decode cX11_rows 28 = .ok (.ireturn, 1) := by decide +kernel
theorem dX11_rules_0 : decode cX11_rules 0 = .ok (.iload_n 1, 1) := by decide +kernel
theorem dX11_rules_1 : decode cX11_rules 1 = .ok (.invokestatic 354, 3) := by decide +kernel
theorem dX11_rules_4 : decode cX11_rules 4 = .ok (.aload_n 0, 1) := by decide +kernel
theorem dX11_rules_5 : decode cX11_rules 5 = .ok (.getfield 41, 3) := by decide +kernel
theorem dX11_rules_8 : decode cX11_rules 8 = .ok (.iload_n 1, 1) := by decide +kernel
theorem dX11_rules_9 : decode cX11_rules 9 = .ok (.aaload, 1) := by decide +kernel
theorem dX11_rules_10 : decode cX11_rules 10 = .ok (.getfield 357, 3) := by decide +kernel
theorem dX11_rules_13 : decode cX11_rules 13 = .ok (.bipush 40, 2) := by decide +kernel
theorem dX11_rules_15 : decode cX11_rules 15 = .ok (.if_icmp .le 11, 3) := by decide +kernel
theorem dX11_rules_18 : decode cX11_rules 18 = .ok (.new 137, 3) := by decide +kernel
theorem dX11_rules_21 : decode cX11_rules 21 = .ok (.dup, 1) := by decide +kernel
theorem dX11_rules_22 : decode cX11_rules 22 = .ok (.invokespecial 139, 3) := by decide +kernel
theorem dX11_rules_25 : decode cX11_rules 25 = .ok (.athrow, 1) := by decide +kernel
theorem dX11_rules_26 : decode cX11_rules 26 = .ok (.aload_n 0, 1) := by decide +kernel
theorem dX11_rules_27 : decode cX11_rules 27 = .ok (.getfield 77, 3) := by decide +kernel
theorem dX11_rules_30 : decode cX11_rules 30 = .ok (.invokevirtual 482, 3) := by decide +kernel
theorem dX11_rules_33 : decode cX11_rules 33 = .ok (.istore_n 2, 1) := by decide +kernel
theorem dX11_rules_34 : decode cX11_rules 34 = .ok (.aload_n 0, 1) := by decide +kernel
theorem dX11_rules_35 : decode cX11_rules 35 = .ok (.aload_n 0, 1) := by decide +kernel
theorem dX11_rules_36 : decode cX11_rules 36 = .ok (.getfield 77, 3) := by decide +kernel
theorem dX11_rules_39 : decode cX11_rules 39 = .ok (.getfield 485, 3) := by decide +kernel
theorem dX11_rules_42 : decode cX11_rules 42 = .ok (.aload_n 0, 1) := by decide +kernel
theorem dX11_rules_43 : decode cX11_rules 43 = .ok (.getfield 77, 3) := by decide +kernel
theorem dX11_rules_46 : decode cX11_rules 46 = .ok (.getfield 486, 3) := by decide +kernel
theorem dX11_rules_49 : decode cX11_rules 49 = .ok (.invokevirtual 340, 3) := by decide +kernel
theorem dX11_rules_52 : decode cX11_rules 52 = .ok (.iload_n 2, 1) := by decide +kernel
theorem dX11_rules_53 : decode cX11_rules 53 = .ok (.ifCond .ne 11, 3) := by decide +kernel
theorem dX11_rules_56 : decode cX11_rules 56 = .ok (.new 127, 3) := by decide +kernel
theorem dX11_rules_59 : decode cX11_rules 59 = .ok (.dup, 1) := by decide +kernel
theorem dX11_rules_60 : decode cX11_rules 60 = .ok (.invokespecial 129, 3) := by decide +kernel
theorem dX11_rules_63 : decode cX11_rules 63 = .ok (.athrow, 1) := by decide +kernel
theorem dX11_rules_64 : decode cX11_rules 64 = .ok (.aload_n 0, 1) := by decide +kernel
theorem dX11_rules_65 : decode cX11_rules 65 = .ok (.getfield 84, 3) := by decide +kernel
theorem dX11_rules_68 : decode cX11_rules 68 = .ok (.aload_n 0, 1) := by decide +kernel
theorem dX11_rules_69 : decode cX11_rules 69 = .ok (.getfield 77, 3) := by decide +kernel
theorem dX11_rules_72 : decode cX11_rules 72 = .ok (.aload_n 0, 1) := by decide +kernel
theorem dX11_rules_73 : decode cX11_rules 73 = .ok (.getfield 41, 3) := by decide +kernel
theorem dX11_rules_76 : decode cX11_rules 76 = .ok (.iload_n 1, 1) := by decide +kernel
theorem dX11_rules_77 : decode cX11_rules 77 = .ok (.aaload, 1) := by decide +kernel
theorem dX11_rules_78 : decode cX11_rules 78 = .ok (.invokevirtual 487, 3) := by decide +kernel
theorem dX11_rules_81 : decode cX11_rules 81 = .ok (.iconst 0, 1) := by decide +kernel
theorem dX11_rules_82 : decode cX11_rules 82 = .ok (.istore_n 3, 1) := by decide +kernel
theorem dX11_rules_83 : decode cX11_rules 83 = .ok (.iconst 0, 1) := by decide +kernel
theorem dX11_rules_84 : decode cX11_rules 84 = .ok (.istore 4, 2) := by decide +kernel
theorem dX11_rules_86 : decode cX11_rules 86 = .ok (.iload 4, 2) := by decide +kernel
theorem dX11_rules_88 : decode cX11_rules 88 = .ok (.aload_n 0, 1) := by decide +kernel
theorem dX11_rules_89 : decode cX11_rules 89 = .ok (.getfield 77, 3) := by decide +kernel
theorem dX11_rules_92 : decode cX11_rules 92 = .ok (.getfield 491, 3) := by decide +kernel
theorem dX11_rules_95 : decode cX11_rules 95 = .ok (.if_icmp .ge 21, 3) := by decide +kernel
theorem dX11_rules_98 : decode cX11_rules 98 = .ok (.iload_n 3, 1) := by decide +kernel
theorem dX11_rules_99 : decode cX11_rules 99 = .ok (.aload_n 0, 1) := by decide +kernel
theorem dX11_rules_100 : decode cX11_rules 100 = .ok (.getfield 84, 3) := by decide +kernel
theorem dX11_rules_103 : decode cX11_rules 103 = .ok (.iload 4, 2) := by decide +kernel
theorem dX11_rules_105 : decode cX11_rules 105 = .ok (.invokevirtual 494, 3) := by decide +kernel
theorem dX11_rules_108 : decode cX11_rules 108 = .ok (.iadd, 1) := by decide +kernel
theorem dX11_rules_109 : decode cX11_rules 109 = .ok (.istore_n 3, 1) := by decide +kernel
theorem dX11_rules_110 : decode cX11_rules 110 = .ok (.iinc 4 1, 3) := by decide +kernel
theorem dX11_rules_113 : decode cX11_rules 113 = .ok (.goto (-27), 3) := by decide +kernel
theorem dX11_rules_116 : decode cX11_rules 116 = .ok (.iload_n 3, 1) := by decide +kernel
theorem dX11_rules_117 : decode cX11_rules 117 = .ok (.ireturn, 1) := by decide +kernel
theorem dX11_set_0 : decode cX11_set 0 = .ok (.aload_n 0, 1) := by decide +kernel
theorem dX11_set_1 : decode cX11_set 1 = .ok (.getfield 28, 3) := by decide +kernel
theorem dX11_set_4 : decode cX11_set 4 = .ok (.iload_n 1, 1) := by decide +kernel
theorem dX11_set_5 : decode cX11_set 5 = .ok (.iload_n 2, 1) := by decide +kernel
theorem dX11_set_6 : decode cX11_set 6 = .ok (.invokevirtual 238, 3) := by decide +kernel
theorem dX11_set_9 : decode cX11_set 9 = .ok (.ifCond .ne 11, 3) := by decide +kernel
theorem dX11_set_12 : decode cX11_set 12 = .ok (.new 222, 3) := by decide +kernel
theorem dX11_set_15 : decode cX11_set 15 = .ok (.dup, 1) := by decide +kernel
theorem dX11_set_16 : decode cX11_set 16 = .ok (.invokespecial 224, 3) := by decide +kernel
theorem dX11_set_19 : decode cX11_set 19 = .ok (.athrow, 1) := by decide +kernel
theorem dX11_set_20 : decode cX11_set 20 = .ok (.aload_n 0, 1) := by decide +kernel
theorem dX11_set_21 : decode cX11_set 21 = .ok (.getfield 28, 3) := by decide +kernel
theorem dX11_set_24 : decode cX11_set 24 = .ok (.getfield 241, 3) := by decide +kernel
theorem dX11_set_27 : decode cX11_set 27 = .ok (.iload_n 1, 1) := by decide +kernel
theorem dX11_set_28 : decode cX11_set 28 = .ok (.iaload, 1) := by decide +kernel
theorem dX11_set_29 : decode cX11_set 29 = .ok (.istore 5, 2) := by decide +kernel
theorem dX11_set_31 : decode cX11_set 31 = .ok (.aload_n 0, 1) := by decide +kernel
theorem dX11_set_32 : decode cX11_set 32 = .ok (.getfield 28, 3) := by decide +kernel
theorem dX11_set_35 : decode cX11_set 35 = .ok (.aload_n 0, 1) := by decide +kernel
theorem dX11_set_36 : decode cX11_set 36 = .ok (.getfield 19, 3) := by decide +kernel
theorem dX11_set_39 : decode cX11_set 39 = .ok (.iload 5, 2) := by decide +kernel
theorem dX11_set_41 : decode cX11_set 41 = .ok (.iload_n 2, 1) := by decide +kernel
theorem dX11_set_42 : decode cX11_set 42 = .ok (.invokevirtual 244, 3) := by decide +kernel
theorem dX11_set_45 : decode cX11_set 45 = .ok (.aload_n 0, 1) := by decide +kernel
theorem dX11_set_46 : decode cX11_set 46 = .ok (.getfield 19, 3) := by decide +kernel
theorem dX11_set_49 : decode cX11_set 49 = .ok (.iload 5, 2) := by decide +kernel
theorem dX11_set_51 : decode cX11_set 51 = .ok (.iload_n 2, 1) := by decide +kernel
theorem dX11_set_52 : decode cX11_set 52 = .ok (.invokevirtual 247, 3) := by decide +kernel
theorem dX11_set_55 : decode cX11_set 55 = .ok (.lload_n 3, 1) := by decide +kernel
theorem dX11_set_56 : decode cX11_set 56 = .ok (.invokevirtual 250, 3) := by decide +kernel
theorem dX11_set_59 : decode cX11_set 59 = .ok (.ifCond .ne 11, 3) := by decide +kernel
theorem dX11_set_62 : decode cX11_set 62 = .ok (.new 127, 3) := by decide +kernel
theorem dX11_set_65 : decode cX11_set 65 = .ok (.dup, 1) := by decide +kernel
theorem dX11_set_66 : decode cX11_set 66 = .ok (.invokespecial 129, 3) := by decide +kernel
theorem dX11_set_69 : decode cX11_set 69 = .ok (.athrow, 1) := by decide +kernel
theorem dX11_set_70 : decode cX11_set 70 = .ok (.aload_n 0, 1) := by decide +kernel
theorem dX11_set_71 : decode cX11_set 71 = .ok (.getfield 35, 3) := by decide +kernel
theorem dX11_set_74 : decode cX11_set 74 = .ok (.aload_n 0, 1) := by decide +kernel
theorem dX11_set_75 : decode cX11_set 75 = .ok (.getfield 28, 3) := by decide +kernel
theorem dX11_set_78 : decode cX11_set 78 = .ok (.iload_n 1, 1) := by decide +kernel
theorem dX11_set_79 : decode cX11_set 79 = .ok (.iload_n 2, 1) := by decide +kernel
theorem dX11_set_80 : decode cX11_set 80 = .ok (.lload_n 3, 1) := by decide +kernel
theorem dX11_set_81 : decode cX11_set 81 = .ok (.invokevirtual 254, 3) := by decide +kernel
theorem dX11_set_84 : decode cX11_set 84 = .ok (.istore 6, 2) := by decide +kernel
theorem dX11_set_86 : decode cX11_set 86 = .ok (.aload_n 0, 1) := by decide +kernel
theorem dX11_set_87 : decode cX11_set 87 = .ok (.iload 6, 2) := by decide +kernel
theorem dX11_set_89 : decode cX11_set 89 = .ok (.invokevirtual 258, 3) := by decide +kernel
theorem dX11_set_92 : decode cX11_set 92 = .ok (.iload 6, 2) := by decide +kernel
theorem dX11_set_94 : decode cX11_set 94 = .ok (.ireturn, 1) := by decide +kernel
theorem dX11_setStatic_0 : decode cX11_setStatic 0 = .ok (.aload_n 0, 1) := by decide +kernel
theorem dX11_setStatic_1 : decode cX11_setStatic 1 = .ok (.getfield 19, 3) := by decide +kernel
theorem dX11_setStatic_4 : decode cX11_setStatic 4 = .ok (.iload_n 1, 1) := by decide +kernel
theorem dX11_setStatic_5 : decode cX11_setStatic 5 = .ok (.iload_n 2, 1) := by decide +kernel
theorem dX11_setStatic_6 : decode cX11_setStatic 6 = .ok (.invokevirtual 261, 3) := by decide +kernel
theorem dX11_setStatic_9 : decode cX11_setStatic 9 = .ok (.istore 5, 2) := by decide +kernel
theorem dX11_setStatic_11 : decode cX11_setStatic 11 = .ok (.iload 5, 2) := by decide +kernel
theorem dX11_setStatic_13 : decode cX11_setStatic 13 = .ok (.iconst (-1), 1) := by decide +kernel
theorem dX11_setStatic_14 : decode cX11_setStatic 14 = .ok (.if_icmp .ne 11, 3) := by decide +kernel
theorem dX11_setStatic_17 : decode cX11_setStatic 17 = .ok (.new 222, 3) := by decide +kernel
theorem dX11_setStatic_20 : decode cX11_setStatic 20 = .ok (.dup, 1) := by decide +kernel
theorem dX11_setStatic_21 : decode cX11_setStatic 21 = .ok (.invokespecial 224, 3) := by decide +kernel
theorem dX11_setStatic_24 : decode cX11_setStatic 24 = .ok (.athrow, 1) := by decide +kernel
theorem dX11_setStatic_25 : decode cX11_setStatic 25 = .ok (.iload_n 1, 1) := by decide +kernel
theorem dX11_setStatic_26 : decode cX11_setStatic 26 = .ok (.bipush 6, 2) := by decide +kernel
theorem dX11_setStatic_28 : decode cX11_setStatic 28 = .ok (.imul, 1) := by decide +kernel
theorem dX11_setStatic_29 : decode cX11_setStatic 29 = .ok (.iload 5, 2) := by decide +kernel
theorem dX11_setStatic_31 : decode cX11_setStatic 31 = .ok (.iadd, 1) := by decide +kernel
theorem dX11_setStatic_32 : decode cX11_setStatic 32 = .ok (.istore 6, 2) := by decide +kernel
theorem dX11_setStatic_34 : decode cX11_setStatic 34 = .ok (.aload_n 0, 1) := by decide +kernel
theorem dX11_setStatic_35 : decode cX11_setStatic 35 = .ok (.getfield 28, 3) := by decide +kernel
theorem dX11_setStatic_38 : decode cX11_setStatic 38 = .ok (.aload_n 0, 1) := by decide +kernel
theorem dX11_setStatic_39 : decode cX11_setStatic 39 = .ok (.getfield 19, 3) := by decide +kernel
theorem dX11_setStatic_42 : decode cX11_setStatic 42 = .ok (.getfield 192, 3) := by decide +kernel
theorem dX11_setStatic_45 : decode cX11_setStatic 45 = .ok (.iload 6, 2) := by decide +kernel
theorem dX11_setStatic_47 : decode cX11_setStatic 47 = .ok (.iaload, 1) := by decide +kernel
theorem dX11_setStatic_48 : decode cX11_setStatic 48 = .ok (.aload_n 0, 1) := by decide +kernel
theorem dX11_setStatic_49 : decode cX11_setStatic 49 = .ok (.getfield 19, 3) := by decide +kernel
theorem dX11_setStatic_52 : decode cX11_setStatic 52 = .ok (.getfield 195, 3) := by decide +kernel
theorem dX11_setStatic_55 : decode cX11_setStatic 55 = .ok (.iload 6, 2) := by decide +kernel
theorem dX11_setStatic_57 : decode cX11_setStatic 57 = .ok (.iaload, 1) := by decide +kernel
theorem dX11_setStatic_58 : decode cX11_setStatic 58 = .ok (.lload_n 3, 1) := by decide +kernel
theorem dX11_setStatic_59 : decode cX11_setStatic 59 = .ok (.invokevirtual 250, 3) := by decide +kernel
theorem dX11_setStatic_62 : decode cX11_setStatic 62 = .ok (.ifCond .ne 11, 3) := by decide +kernel
theorem dX11_setStatic_65 : decode cX11_setStatic 65 = .ok (.new 127, 3) := by decide +kernel
theorem dX11_setStatic_68 : decode cX11_setStatic 68 = .ok (.dup, 1) := by decide +kernel
theorem dX11_setStatic_69 : decode cX11_setStatic 69 = .ok (.invokespecial 129, 3) := by decide +kernel
theorem dX11_setStatic_72 : decode cX11_setStatic 72 = .ok (.athrow, 1) := by decide +kernel
theorem dX11_setStatic_73 : decode cX11_setStatic 73 = .ok (.aload_n 0, 1) := by decide +kernel
theorem dX11_setStatic_74 : decode cX11_setStatic 74 = .ok (.getfield 35, 3) := by decide +kernel
theorem dX11_setStatic_77 : decode cX11_setStatic 77 = .ok (.aload_n 0, 1) := by decide +kernel
theorem dX11_setStatic_78 : decode cX11_setStatic 78 = .ok (.getfield 28, 3) := by decide +kernel
theorem dX11_setStatic_81 : decode cX11_setStatic 81 = .ok (.iload 6, 2) := by decide +kernel
theorem dX11_setStatic_83 : decode cX11_setStatic 83 = .ok (.lload_n 3, 1) := by decide +kernel
theorem dX11_setStatic_84 : decode cX11_setStatic 84 = .ok (.invokevirtual 264, 3) := by decide +kernel
theorem dX11_setStatic_87 : decode cX11_setStatic 87 = .ok (.istore 7, 2) := by decide +kernel
theorem dX11_setStatic_89 : decode cX11_setStatic 89 = .ok (.aload_n 0, 1) := by decide +kernel
theorem dX11_setStatic_90 : decode cX11_setStatic 90 = .ok (.iload 7, 2) := by decide +kernel
theorem dX11_setStatic_92 : decode cX11_setStatic 92 = .ok (.invokevirtual 258, 3) := by decide +kernel
theorem dX11_setStatic_95 : decode cX11_setStatic 95 = .ok (.iload 7, 2) := by decide +kernel
theorem dX11_setStatic_97 : decode cX11_setStatic 97 = .ok (.ireturn, 1) := by decide +kernel
theorem dX11_slot_0 : decode cX11_slot 0 = .ok (.aload_n 0, 1) := by decide +kernel
theorem dX11_slot_1 : decode cX11_slot 1 = .ok (.iload_n 1, 1) := by decide +kernel
theorem dX11_slot_2 : decode cX11_slot 2 = .ok (.iload_n 2, 1) := by decide +kernel
theorem dX11_slot_3 : decode cX11_slot 3 = .ok (.invokevirtual 360, 3) := by decide +kernel
theorem dX11_slot_6 : decode cX11_slot 6 = .ok (.ifCond .eq 36, 3) := by decide +kernel
theorem dX11_slot_9 : decode cX11_slot 9 = .ok (.iload_n 3, 1) := by decide +kernel
theorem dX11_slot_10 : decode cX11_slot 10 = .ok (.ifCond .lt 32, 3) := by decide +kernel
theorem dX11_slot_13 : decode cX11_slot 13 = .ok (.iload_n 3, 1) := by decide +kernel
theorem dX11_slot_14 : decode cX11_slot 14 = .ok (.aload_n 0, 1) := by decide +kernel
theorem dX11_slot_15 : decode cX11_slot 15 = .ok (.getfield 41, 3) := by decide +kernel
theorem dX11_slot_18 : decode cX11_slot 18 = .ok (.iload_n 1, 1) := by decide +kernel
theorem dX11_slot_19 : decode cX11_slot 19 = .ok (.aaload, 1) := by decide +kernel
theorem dX11_slot_20 : decode cX11_slot 20 = .ok (.getfield 395, 3) := by decide +kernel
theorem dX11_slot_23 : decode cX11_slot 23 = .ok (.iload_n 2, 1) := by decide +kernel
theorem dX11_slot_24 : decode cX11_slot 24 = .ok (.iconst 1, 1) := by decide +kernel
theorem dX11_slot_25 : decode cX11_slot 25 = .ok (.iadd, 1) := by decide +kernel
theorem dX11_slot_26 : decode cX11_slot 26 = .ok (.iaload, 1) := by decide +kernel
theorem dX11_slot_27 : decode cX11_slot 27 = .ok (.aload_n 0, 1) := by decide +kernel
theorem dX11_slot_28 : decode cX11_slot 28 = .ok (.getfield 41, 3) := by decide +kernel
theorem dX11_slot_31 : decode cX11_slot 31 = .ok (.iload_n 1, 1) := by decide +kernel
theorem dX11_slot_32 : decode cX11_slot 32 = .ok (.aaload, 1) := by decide +kernel
theorem dX11_slot_33 : decode cX11_slot 33 = .ok (.getfield 395, 3) := by decide +kernel
theorem dX11_slot_36 : decode cX11_slot 36 = .ok (.iload_n 2, 1) := by decide +kernel
theorem dX11_slot_37 : decode cX11_slot 37 = .ok (.iaload, 1) := by decide +kernel
theorem dX11_slot_38 : decode cX11_slot 38 = .ok (.isub, 1) := by decide +kernel
theorem dX11_slot_39 : decode cX11_slot 39 = .ok (.if_icmp .lt 11, 3) := by decide +kernel
theorem dX11_slot_42 : decode cX11_slot 42 = .ok (.new 222, 3) := by decide +kernel
theorem dX11_slot_45 : decode cX11_slot 45 = .ok (.dup, 1) := by decide +kernel
theorem dX11_slot_46 : decode cX11_slot 46 = .ok (.invokespecial 224, 3) := by decide +kernel
theorem dX11_slot_49 : decode cX11_slot 49 = .ok (.athrow, 1) := by decide +kernel
theorem dX11_slot_50 : decode cX11_slot 50 = .ok (.aload_n 0, 1) := by decide +kernel
theorem dX11_slot_51 : decode cX11_slot 51 = .ok (.getfield 41, 3) := by decide +kernel
theorem dX11_slot_54 : decode cX11_slot 54 = .ok (.iload_n 1, 1) := by decide +kernel
theorem dX11_slot_55 : decode cX11_slot 55 = .ok (.aaload, 1) := by decide +kernel
theorem dX11_slot_56 : decode cX11_slot 56 = .ok (.getfield 396, 3) := by decide +kernel
theorem dX11_slot_59 : decode cX11_slot 59 = .ok (.aload_n 0, 1) := by decide +kernel
theorem dX11_slot_60 : decode cX11_slot 60 = .ok (.getfield 41, 3) := by decide +kernel
theorem dX11_slot_63 : decode cX11_slot 63 = .ok (.iload_n 1, 1) := by decide +kernel
theorem dX11_slot_64 : decode cX11_slot 64 = .ok (.aaload, 1) := by decide +kernel
theorem dX11_slot_65 : decode cX11_slot 65 = .ok (.getfield 395, 3) := by decide +kernel
theorem dX11_slot_68 : decode cX11_slot 68 = .ok (.iload_n 2, 1) := by decide +kernel
theorem dX11_slot_69 : decode cX11_slot 69 = .ok (.iaload, 1) := by decide +kernel
theorem dX11_slot_70 : decode cX11_slot 70 = .ok (.iload_n 3, 1) := by decide +kernel
theorem dX11_slot_71 : decode cX11_slot 71 = .ok (.iadd, 1) := by decide +kernel
theorem dX11_slot_72 : decode cX11_slot 72 = .ok (.laload, 1) := by decide +kernel
theorem dX11_slot_73 : decode cX11_slot 73 = .ok (.lreturn, 1) := by decide +kernel
theorem dX11_swap_0 : decode cX11_swap 0 = .ok (.aload_n 0, 1) := by decide +kernel
theorem dX11_swap_1 : decode cX11_swap 1 = .ok (.getfield 28, 3) := by decide +kernel
theorem dX11_swap_4 : decode cX11_swap 4 = .ok (.iload_n 1, 1) := by decide +kernel
theorem dX11_swap_5 : decode cX11_swap 5 = .ok (.invokevirtual 219, 3) := by decide +kernel
theorem dX11_swap_8 : decode cX11_swap 8 = .ok (.ifCond .eq 14, 3) := by decide +kernel
theorem dX11_swap_11 : decode cX11_swap 11 = .ok (.aload_n 0, 1) := by decide +kernel
theorem dX11_swap_12 : decode cX11_swap 12 = .ok (.getfield 28, 3) := by decide +kernel
theorem dX11_swap_15 : decode cX11_swap 15 = .ok (.iload_n 2, 1) := by decide +kernel
theorem dX11_swap_16 : decode cX11_swap 16 = .ok (.invokevirtual 219, 3) := by decide +kernel
theorem dX11_swap_19 : decode cX11_swap 19 = .ok (.ifCond .ne 11, 3) := by decide +kernel
theorem dX11_swap_22 : decode cX11_swap 22 = .ok (.new 222, 3) := by decide +kernel
theorem dX11_swap_25 : decode cX11_swap 25 = .ok (.dup, 1) := by decide +kernel
theorem dX11_swap_26 : decode cX11_swap 26 = .ok (.invokespecial 224, 3) := by decide +kernel
theorem dX11_swap_29 : decode cX11_swap 29 = .ok (.athrow, 1) := by decide +kernel
theorem dX11_swap_30 : decode cX11_swap 30 = .ok (.iload_n 1, 1) := by decide +kernel
theorem dX11_swap_31 : decode cX11_swap 31 = .ok (.iload_n 2, 1) := by decide +kernel
theorem dX11_swap_32 : decode cX11_swap 32 = .ok (.if_icmp .eq 15, 3) := by decide +kernel
theorem dX11_swap_35 : decode cX11_swap 35 = .ok (.aload_n 0, 1) := by decide +kernel
theorem dX11_swap_36 : decode cX11_swap 36 = .ok (.getfield 28, 3) := by decide +kernel
theorem dX11_swap_39 : decode cX11_swap 39 = .ok (.iload_n 1, 1) := by decide +kernel
theorem dX11_swap_40 : decode cX11_swap 40 = .ok (.iload_n 2, 1) := by decide +kernel
theorem dX11_swap_41 : decode cX11_swap 41 = .ok (.invokevirtual 288, 3) := by decide +kernel
theorem dX11_swap_44 : decode cX11_swap 44 = .ok (.ifCond .ne 11, 3) := by decide +kernel
theorem dX11_swap_47 : decode cX11_swap 47 = .ok (.new 127, 3) := by decide +kernel
theorem dX11_swap_50 : decode cX11_swap 50 = .ok (.dup, 1) := by decide +kernel
theorem dX11_swap_51 : decode cX11_swap 51 = .ok (.invokespecial 129, 3) := by decide +kernel
theorem dX11_swap_54 : decode cX11_swap 54 = .ok (.athrow, 1) := by decide +kernel
theorem dX11_swap_55 : decode cX11_swap 55 = .ok (.aload_n 0, 1) := by decide +kernel
theorem dX11_swap_56 : decode cX11_swap 56 = .ok (.getfield 35, 3) := by decide +kernel
theorem dX11_swap_59 : decode cX11_swap 59 = .ok (.aload_n 0, 1) := by decide +kernel
theorem dX11_swap_60 : decode cX11_swap 60 = .ok (.getfield 28, 3) := by decide +kernel
theorem dX11_swap_63 : decode cX11_swap 63 = .ok (.iload_n 1, 1) := by decide +kernel
theorem dX11_swap_64 : decode cX11_swap 64 = .ok (.iload_n 2, 1) := by decide +kernel
theorem dX11_swap_65 : decode cX11_swap 65 = .ok (.invokevirtual 291, 3) := by decide +kernel
theorem dX11_swap_68 : decode cX11_swap 68 = .ok (.aload_n 0, 1) := by decide +kernel
theorem dX11_swap_69 : decode cX11_swap 69 = .ok (.getfield 35, 3) := by decide +kernel
theorem dX11_swap_72 : decode cX11_swap 72 = .ok (.aload_n 0, 1) := by decide +kernel
theorem dX11_swap_73 : decode cX11_swap 73 = .ok (.getfield 28, 3) := by decide +kernel
theorem dX11_swap_76 : decode cX11_swap 76 = .ok (.iload_n 1, 1) := by decide +kernel
theorem dX11_swap_77 : decode cX11_swap 77 = .ok (.iload_n 2, 1) := by decide +kernel
theorem dX11_swap_78 : decode cX11_swap 78 = .ok (.invokevirtual 295, 3) := by decide +kernel
theorem dX11_swap_81 : decode cX11_swap 81 = .ok (.iadd, 1) := by decide +kernel
theorem dX11_swap_82 : decode cX11_swap 82 = .ok (.istore_n 3, 1) := by decide +kernel
theorem dX11_swap_83 : decode cX11_swap 83 = .ok (.aload_n 0, 1) := by decide +kernel
theorem dX11_swap_84 : decode cX11_swap 84 = .ok (.getfield 28, 3) := by decide +kernel
theorem dX11_swap_87 : decode cX11_swap 87 = .ok (.iload_n 1, 1) := by decide +kernel
theorem dX11_swap_88 : decode cX11_swap 88 = .ok (.iload_n 2, 1) := by decide +kernel
theorem dX11_swap_89 : decode cX11_swap 89 = .ok (.invokevirtual 298, 3) := by decide +kernel
theorem dX11_swap_92 : decode cX11_swap 92 = .ok (.iload_n 3, 1) := by decide +kernel
theorem dX11_swap_93 : decode cX11_swap 93 = .ok (.ifCond .le 16, 3) := by decide +kernel
theorem dX11_swap_96 : decode cX11_swap 96 = .ok (.aload_n 0, 1) := by decide +kernel
theorem dX11_swap_97 : decode cX11_swap 97 = .ok (.aload_n 0, 1) := by decide +kernel
theorem dX11_swap_98 : decode cX11_swap 98 = .ok (.getfield 35, 3) := by decide +kernel
theorem dX11_swap_101 : decode cX11_swap 101 = .ok (.getfield 301, 3) := by decide +kernel
theorem dX11_swap_104 : decode cX11_swap 104 = .ok (.iconst 1, 1) := by decide +kernel
theorem dX11_swap_105 : decode cX11_swap 105 = .ok (.isub, 1) := by decide +kernel
theorem dX11_swap_106 : decode cX11_swap 106 = .ok (.invokevirtual 258, 3) := by decide +kernel
theorem dX11_swap_109 : decode cX11_swap 109 = .ok (.iload_n 3, 1) := by decide +kernel
theorem dX11_swap_110 : decode cX11_swap 110 = .ok (.ireturn, 1) := by decide +kernel
theorem dX11_take_0 : decode cX11_take 0 = .ok (.iload_n 1, 1) := by decide +kernel
theorem dX11_take_1 : decode cX11_take 1 = .ok (.invokestatic 354, 3) := by decide +kernel
theorem dX11_take_4 : decode cX11_take 4 = .ok (.aload_n 0, 1) := by decide +kernel
theorem dX11_take_5 : decode cX11_take 5 = .ok (.getfield 41, 3) := by decide +kernel
theorem dX11_take_8 : decode cX11_take 8 = .ok (.iload_n 1, 1) := by decide +kernel
theorem dX11_take_9 : decode cX11_take 9 = .ok (.aaload, 1) := by decide +kernel
theorem dX11_take_10 : decode cX11_take 10 = .ok (.aload_n 0, 1) := by decide +kernel
theorem dX11_take_11 : decode cX11_take 11 = .ok (.getfield 28, 3) := by decide +kernel
theorem dX11_take_14 : decode cX11_take 14 = .ok (.invokevirtual 343, 3) := by decide +kernel
theorem dX11_take_17 : decode cX11_take 17 = .ok (.aload_n 0, 1) := by decide +kernel
theorem dX11_take_18 : decode cX11_take 18 = .ok (.getfield 41, 3) := by decide +kernel
theorem dX11_take_21 : decode cX11_take 21 = .ok (.iload_n 1, 1) := by decide +kernel
theorem dX11_take_22 : decode cX11_take 22 = .ok (.aaload, 1) := by decide +kernel
theorem dX11_take_23 : decode cX11_take 23 = .ok (.getfield 357, 3) := by decide +kernel
theorem dX11_take_26 : decode cX11_take 26 = .ok (.ireturn, 1) := by decide +kernel
theorem dX11_tellFault_0 : decode cX11_tellFault 0 = .ok (.aload_n 0, 1) := by decide +kernel
theorem dX11_tellFault_1 : decode cX11_tellFault 1 = .ok (.iload_n 1, 1) := by decide +kernel
theorem dX11_tellFault_2 : decode cX11_tellFault 2 = .ok (.putfield 470, 3) := by decide +kernel
theorem dX11_tellFault_5 : decode cX11_tellFault 5 = .ok (.aload_n 0, 1) := by decide +kernel
theorem dX11_tellFault_6 : decode cX11_tellFault 6 = .ok (.iload_n 1, 1) := by decide +kernel
theorem dX11_tellFault_7 : decode cX11_tellFault 7 = .ok (.ifCond .ne 7, 3) := by decide +kernel
theorem dX11_tellFault_10 : decode cX11_tellFault 10 = .ok (.iconst (-1), 1) := by decide +kernel
theorem dX11_tellFault_11 : decode cX11_tellFault 11 = .ok (.goto 4, 3) := by decide +kernel
theorem dX11_tellFault_14 : decode cX11_tellFault 14 = .ok (.iload_n 2, 1) := by decide +kernel
theorem dX11_tellFault_15 : decode cX11_tellFault 15 = .ok (.putfield 98, 3) := by decide +kernel
theorem dX11_tellFault_18 : decode cX11_tellFault 18 = .ok (.return_, 1) := by decide +kernel
theorem dX11_thing_0 : decode cX11_thing 0 = .ok (.aload_n 0, 1) := by decide +kernel
theorem dX11_thing_1 : decode cX11_thing 1 = .ok (.iload_n 1, 1) := by decide +kernel
theorem dX11_thing_2 : decode cX11_thing 2 = .ok (.iload_n 2, 1) := by decide +kernel
theorem dX11_thing_3 : decode cX11_thing 3 = .ok (.invokevirtual 360, 3) := by decide +kernel
theorem dX11_thing_6 : decode cX11_thing 6 = .ok (.ifCond .ne 5, 3) := by decide +kernel
theorem dX11_thing_9 : decode cX11_thing 9 = .ok (.iconst (-1), 1) := by decide +kernel
theorem dX11_thing_10 : decode cX11_thing 10 = .ok (.ireturn, 1) := by decide +kernel
theorem dX11_thing_11 : decode cX11_thing 11 = .ok (.aload_n 0, 1) := by decide +kernel
theorem dX11_thing_12 : decode cX11_thing 12 = .ok (.getfield 41, 3) := by decide +kernel
theorem dX11_thing_15 : decode cX11_thing 15 = .ok (.iload_n 1, 1) := by decide +kernel
theorem dX11_thing_16 : decode cX11_thing 16 = .ok (.aaload, 1) := by decide +kernel
theorem dX11_thing_17 : decode cX11_thing 17 = .ok (.astore 4, 2) := by decide +kernel
theorem dX11_thing_19 : decode cX11_thing 19 = .ok (.iload_n 3, 1) := by decide +kernel
theorem dX11_thing_20 : decode cX11_thing 20 = .ok (.tableswitch 180 0 12 #[68, 76, 84, 92, 114, 122, 130, 138, 145, 152, 159, 166, 173], 68) := by decide +kernel
