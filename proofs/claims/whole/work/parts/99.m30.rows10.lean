theorem dX3_writeSlot_166 : decode cX3_writeSlot 166 = .ok (.iinc 9 1, 3) := by decide +kernel
theorem dX3_writeSlot_169 : decode cX3_writeSlot 169 = .ok (.goto (-130), 3) := by decide +kernel
theorem dX3_writeSlot_172 : decode cX3_writeSlot 172 = .ok (.aload_n 0, 1) := by decide +kernel
theorem dX3_writeSlot_173 : decode cX3_writeSlot 173 = .ok (.dup, 1) := by decide +kernel
theorem dX3_writeSlot_174 : decode cX3_writeSlot 174 = .ok (.getfield 85, 3) := by decide +kernel
theorem dX3_writeSlot_177 : decode cX3_writeSlot 177 = .ok (.iconst 1, 1) := by decide +kernel
theorem dX3_writeSlot_178 : decode cX3_writeSlot 178 = .ok (.iadd, 1) := by decide +kernel
theorem dX3_writeSlot_179 : decode cX3_writeSlot 179 = .ok (.putfield 85, 3) := by decide +kernel
theorem dX3_writeSlot_182 : decode cX3_writeSlot 182 = .ok (.aload_n 0, 1) := by decide +kernel
theorem dX3_writeSlot_183 : decode cX3_writeSlot 183 = .ok (.getfield 85, 3) := by decide +kernel
theorem dX3_writeSlot_186 : decode cX3_writeSlot 186 = .ok (.iconst 1, 1) := by decide +kernel
theorem dX3_writeSlot_187 : decode cX3_writeSlot 187 = .ok (.isub, 1) := by decide +kernel
theorem dX3_writeSlot_188 : decode cX3_writeSlot 188 = .ok (.ireturn, 1) := by decide +kernel
theorem dX3_writeStatic_0 : decode cX3_writeStatic 0 = .ok (.aload_n 1, 1) := by decide +kernel
theorem dX3_writeStatic_1 : decode cX3_writeStatic 1 = .ok (.getfield 88, 3) := by decide +kernel
theorem dX3_writeStatic_4 : decode cX3_writeStatic 4 = .ok (.iload_n 2, 1) := by decide +kernel
theorem dX3_writeStatic_5 : decode cX3_writeStatic 5 = .ok (.laload, 1) := by decide +kernel
theorem dX3_writeStatic_6 : decode cX3_writeStatic 6 = .ok (.lstore 5, 2) := by decide +kernel
theorem dX3_writeStatic_8 : decode cX3_writeStatic 8 = .ok (.aload_n 1, 1) := by decide +kernel
theorem dX3_writeStatic_9 : decode cX3_writeStatic 9 = .ok (.getfield 88, 3) := by decide +kernel
theorem dX3_writeStatic_12 : decode cX3_writeStatic 12 = .ok (.iload_n 2, 1) := by decide +kernel
theorem dX3_writeStatic_13 : decode cX3_writeStatic 13 = .ok (.lload_n 3, 1) := by decide +kernel
theorem dX3_writeStatic_14 : decode cX3_writeStatic 14 = .ok (.lastore, 1) := by decide +kernel
theorem dX3_writeStatic_15 : decode cX3_writeStatic 15 = .ok (.aload_n 0, 1) := by decide +kernel
theorem dX3_writeStatic_16 : decode cX3_writeStatic 16 = .ok (.iconst (-1), 1) := by decide +kernel
theorem dX3_writeStatic_17 : decode cX3_writeStatic 17 = .ok (.iload_n 2, 1) := by decide +kernel
theorem dX3_writeStatic_18 : decode cX3_writeStatic 18 = .ok (.isub, 1) := by decide +kernel
theorem dX3_writeStatic_19 : decode cX3_writeStatic 19 = .ok (.lload 5, 2) := by decide +kernel
theorem dX3_writeStatic_21 : decode cX3_writeStatic 21 = .ok (.invokevirtual 49, 3) := by decide +kernel
theorem dX3_writeStatic_24 : decode cX3_writeStatic 24 = .ok (.iconst 0, 1) := by decide +kernel
theorem dX3_writeStatic_25 : decode cX3_writeStatic 25 = .ok (.istore 7, 2) := by decide +kernel
theorem dX3_writeStatic_27 : decode cX3_writeStatic 27 = .ok (.iload 7, 2) := by decide +kernel
theorem dX3_writeStatic_29 : decode cX3_writeStatic 29 = .ok (.aload_n 0, 1) := by decide +kernel
theorem dX3_writeStatic_30 : decode cX3_writeStatic 30 = .ok (.getfield 53, 3) := by decide +kernel
theorem dX3_writeStatic_33 : decode cX3_writeStatic 33 = .ok (.if_icmp .ge 53, 3) := by decide +kernel
theorem dX3_writeStatic_36 : decode cX3_writeStatic 36 = .ok (.aload_n 0, 1) := by decide +kernel
theorem dX3_writeStatic_37 : decode cX3_writeStatic 37 = .ok (.getfield 26, 3) := by decide +kernel
theorem dX3_writeStatic_40 : decode cX3_writeStatic 40 = .ok (.iload 7, 2) := by decide +kernel
theorem dX3_writeStatic_42 : decode cX3_writeStatic 42 = .ok (.iaload, 1) := by decide +kernel
theorem dX3_writeStatic_43 : decode cX3_writeStatic 43 = .ok (.bipush 6, 2) := by decide +kernel
theorem dX3_writeStatic_45 : decode cX3_writeStatic 45 = .ok (.imul, 1) := by decide +kernel
theorem dX3_writeStatic_46 : decode cX3_writeStatic 46 = .ok (.aload_n 0, 1) := by decide +kernel
theorem dX3_writeStatic_47 : decode cX3_writeStatic 47 = .ok (.getfield 29, 3) := by decide +kernel
theorem dX3_writeStatic_50 : decode cX3_writeStatic 50 = .ok (.iload 7, 2) := by decide +kernel
theorem dX3_writeStatic_52 : decode cX3_writeStatic 52 = .ok (.iaload, 1) := by decide +kernel
theorem dX3_writeStatic_53 : decode cX3_writeStatic 53 = .ok (.iadd, 1) := by decide +kernel
theorem dX3_writeStatic_54 : decode cX3_writeStatic 54 = .ok (.iload_n 2, 1) := by decide +kernel
theorem dX3_writeStatic_55 : decode cX3_writeStatic 55 = .ok (.if_icmp .ne 25, 3) := by decide +kernel
theorem dX3_writeStatic_58 : decode cX3_writeStatic 58 = .ok (.aload_n 0, 1) := by decide +kernel
theorem dX3_writeStatic_59 : decode cX3_writeStatic 59 = .ok (.iload 7, 2) := by decide +kernel
theorem dX3_writeStatic_61 : decode cX3_writeStatic 61 = .ok (.lload 5, 2) := by decide +kernel
theorem dX3_writeStatic_63 : decode cX3_writeStatic 63 = .ok (.lload_n 3, 1) := by decide +kernel
theorem dX3_writeStatic_64 : decode cX3_writeStatic 64 = .ok (.invokevirtual 77, 3) := by decide +kernel
theorem dX3_writeStatic_67 : decode cX3_writeStatic 67 = .ok (.ifCond .eq 13, 3) := by decide +kernel
theorem dX3_writeStatic_70 : decode cX3_writeStatic 70 = .ok (.aload_n 0, 1) := by decide +kernel
theorem dX3_writeStatic_71 : decode cX3_writeStatic 71 = .ok (.iload 7, 2) := by decide +kernel
theorem dX3_writeStatic_73 : decode cX3_writeStatic 73 = .ok (.iconst (-1), 1) := by decide +kernel
theorem dX3_writeStatic_74 : decode cX3_writeStatic 74 = .ok (.lload 5, 2) := by decide +kernel
theorem dX3_writeStatic_76 : decode cX3_writeStatic 76 = .ok (.lload_n 3, 1) := by decide +kernel
theorem dX3_writeStatic_77 : decode cX3_writeStatic 77 = .ok (.invokevirtual 81, 3) := by decide +kernel
theorem dX3_writeStatic_80 : decode cX3_writeStatic 80 = .ok (.iinc 7 1, 3) := by decide +kernel
theorem dX3_writeStatic_83 : decode cX3_writeStatic 83 = .ok (.goto (-56), 3) := by decide +kernel
theorem dX3_writeStatic_86 : decode cX3_writeStatic 86 = .ok (.aload_n 0, 1) := by decide +kernel
theorem dX3_writeStatic_87 : decode cX3_writeStatic 87 = .ok (.dup, 1) := by decide +kernel
theorem dX3_writeStatic_88 : decode cX3_writeStatic 88 = .ok (.getfield 85, 3) := by decide +kernel
theorem dX3_writeStatic_91 : decode cX3_writeStatic 91 = .ok (.iconst 1, 1) := by decide +kernel
theorem dX3_writeStatic_92 : decode cX3_writeStatic 92 = .ok (.iadd, 1) := by decide +kernel
theorem dX3_writeStatic_93 : decode cX3_writeStatic 93 = .ok (.putfield 85, 3) := by decide +kernel
theorem dX3_writeStatic_96 : decode cX3_writeStatic 96 = .ok (.aload_n 0, 1) := by decide +kernel
theorem dX3_writeStatic_97 : decode cX3_writeStatic 97 = .ok (.getfield 85, 3) := by decide +kernel
theorem dX3_writeStatic_100 : decode cX3_writeStatic 100 = .ok (.iconst 1, 1) := by decide +kernel
theorem dX3_writeStatic_101 : decode cX3_writeStatic 101 = .ok (.isub, 1) := by decide +kernel
theorem dX3_writeStatic_102 : decode cX3_writeStatic 102 = .ok (.ireturn, 1) := by decide +kernel
theorem dX4_addNumber_0 : decode cX4_addNumber 0 = .ok (.iload_n 2, 1) := by decide +kernel
theorem dX4_addNumber_1 : decode cX4_addNumber 1 = .ok (.bipush 45, 2) := by decide +kernel
theorem dX4_addNumber_3 : decode cX4_addNumber 3 = .ok (.if_icmp .ne 16, 3) := by decide +kernel
theorem dX4_addNumber_6 : decode cX4_addNumber 6 = .ok (.aload_n 0, 1) := by decide +kernel
theorem dX4_addNumber_7 : decode cX4_addNumber 7 = .ok (.getfield 42, 3) := by decide +kernel
theorem dX4_addNumber_10 : decode cX4_addNumber 10 = .ok (.iload_n 1, 1) := by decide +kernel
theorem dX4_addNumber_11 : decode cX4_addNumber 11 = .ok (.dup2, 1) := by decide +kernel
theorem dX4_addNumber_12 : decode cX4_addNumber 12 = .ok (.laload, 1) := by decide +kernel
theorem dX4_addNumber_13 : decode cX4_addNumber 13 = .ok (.lload_n 3, 1) := by decide +kernel
theorem dX4_addNumber_14 : decode cX4_addNumber 14 = .ok (.ladd, 1) := by decide +kernel
theorem dX4_addNumber_15 : decode cX4_addNumber 15 = .ok (.lastore, 1) := by decide +kernel
theorem dX4_addNumber_16 : decode cX4_addNumber 16 = .ok (.goto 50, 3) := by decide +kernel
theorem dX4_addNumber_19 : decode cX4_addNumber 19 = .ok (.aload_n 0, 1) := by decide +kernel
theorem dX4_addNumber_20 : decode cX4_addNumber 20 = .ok (.getfield 45, 3) := by decide +kernel
theorem dX4_addNumber_23 : decode cX4_addNumber 23 = .ok (.iload_n 1, 1) := by decide +kernel
theorem dX4_addNumber_24 : decode cX4_addNumber 24 = .ok (.baload, 1) := by decide +kernel
theorem dX4_addNumber_25 : decode cX4_addNumber 25 = .ok (.ifCond .eq 34, 3) := by decide +kernel
theorem dX4_addNumber_28 : decode cX4_addNumber 28 = .ok (.iload_n 2, 1) := by decide +kernel
theorem dX4_addNumber_29 : decode cX4_addNumber 29 = .ok (.bipush 46, 2) := by decide +kernel
theorem dX4_addNumber_31 : decode cX4_addNumber 31 = .ok (.if_icmp .ne 17, 3) := by decide +kernel
theorem dX4_addNumber_34 : decode cX4_addNumber 34 = .ok (.lload_n 3, 1) := by decide +kernel
theorem dX4_addNumber_35 : decode cX4_addNumber 35 = .ok (.aload_n 0, 1) := by decide +kernel
theorem dX4_addNumber_36 : decode cX4_addNumber 36 = .ok (.getfield 42, 3) := by decide +kernel
theorem dX4_addNumber_39 : decode cX4_addNumber 39 = .ok (.iload_n 1, 1) := by decide +kernel
theorem dX4_addNumber_40 : decode cX4_addNumber 40 = .ok (.laload, 1) := by decide +kernel
theorem dX4_addNumber_41 : decode cX4_addNumber 41 = .ok (.lcmp, 1) := by decide +kernel
theorem dX4_addNumber_42 : decode cX4_addNumber 42 = .ok (.ifCond .le 24, 3) := by decide +kernel
theorem dX4_addNumber_45 : decode cX4_addNumber 45 = .ok (.goto 14, 3) := by decide +kernel
theorem dX4_addNumber_48 : decode cX4_addNumber 48 = .ok (.lload_n 3, 1) := by decide +kernel
theorem dX4_addNumber_49 : decode cX4_addNumber 49 = .ok (.aload_n 0, 1) := by decide +kernel
theorem dX4_addNumber_50 : decode cX4_addNumber 50 = .ok (.getfield 42, 3) := by decide +kernel
theorem dX4_addNumber_53 : decode cX4_addNumber 53 = .ok (.iload_n 1, 1) := by decide +kernel
theorem dX4_addNumber_54 : decode cX4_addNumber 54 = .ok (.laload, 1) := by decide +kernel
theorem dX4_addNumber_55 : decode cX4_addNumber 55 = .ok (.lcmp, 1) := by decide +kernel
theorem dX4_addNumber_56 : decode cX4_addNumber 56 = .ok (.ifCond .ge 10, 3) := by decide +kernel
theorem dX4_addNumber_59 : decode cX4_addNumber 59 = .ok (.aload_n 0, 1) := by decide +kernel
theorem dX4_addNumber_60 : decode cX4_addNumber 60 = .ok (.getfield 42, 3) := by decide +kernel
theorem dX4_addNumber_63 : decode cX4_addNumber 63 = .ok (.iload_n 1, 1) := by decide +kernel
theorem dX4_addNumber_64 : decode cX4_addNumber 64 = .ok (.lload_n 3, 1) := by decide +kernel
theorem dX4_addNumber_65 : decode cX4_addNumber 65 = .ok (.lastore, 1) := by decide +kernel
theorem dX4_addNumber_66 : decode cX4_addNumber 66 = .ok (.aload_n 0, 1) := by decide +kernel
theorem dX4_addNumber_67 : decode cX4_addNumber 67 = .ok (.getfield 45, 3) := by decide +kernel
theorem dX4_addNumber_70 : decode cX4_addNumber 70 = .ok (.iload_n 1, 1) := by decide +kernel
theorem dX4_addNumber_71 : decode cX4_addNumber 71 = .ok (.iconst 1, 1) := by decide +kernel
theorem dX4_addNumber_72 : decode cX4_addNumber 72 = .ok (.bastore, 1) := by decide +kernel
theorem dX4_addNumber_73 : decode cX4_addNumber 73 = .ok (.return_, 1) := by decide +kernel
theorem dX4_addReached_0 : decode cX4_addReached 0 = .ok (.aload_n 0, 1) := by decide +kernel
theorem dX4_addReached_1 : decode cX4_addReached 1 = .ok (.getfield 52, 3) := by decide +kernel
theorem dX4_addReached_4 : decode cX4_addReached 4 = .ok (.iload_n 1, 1) := by decide +kernel
theorem dX4_addReached_5 : decode cX4_addReached 5 = .ok (.sipush 400, 3) := by decide +kernel
theorem dX4_addReached_8 : decode cX4_addReached 8 = .ok (.imul, 1) := by decide +kernel
theorem dX4_addReached_9 : decode cX4_addReached 9 = .ok (.iload_n 2, 1) := by decide +kernel
theorem dX4_addReached_10 : decode cX4_addReached 10 = .ok (.iadd, 1) := by decide +kernel
theorem dX4_addReached_11 : decode cX4_addReached 11 = .ok (.iaload, 1) := by decide +kernel
theorem dX4_addReached_12 : decode cX4_addReached 12 = .ok (.aload_n 0, 1) := by decide +kernel
theorem dX4_addReached_13 : decode cX4_addReached 13 = .ok (.getfield 55, 3) := by decide +kernel
theorem dX4_addReached_16 : decode cX4_addReached 16 = .ok (.iload_n 1, 1) := by decide +kernel
theorem dX4_addReached_17 : decode cX4_addReached 17 = .ok (.iaload, 1) := by decide +kernel
theorem dX4_addReached_18 : decode cX4_addReached 18 = .ok (.if_icmp .eq 49, 3) := by decide +kernel
theorem dX4_addReached_21 : decode cX4_addReached 21 = .ok (.aload_n 0, 1) := by decide +kernel
theorem dX4_addReached_22 : decode cX4_addReached 22 = .ok (.getfield 52, 3) := by decide +kernel
theorem dX4_addReached_25 : decode cX4_addReached 25 = .ok (.iload_n 1, 1) := by decide +kernel
theorem dX4_addReached_26 : decode cX4_addReached 26 = .ok (.sipush 400, 3) := by decide +kernel
theorem dX4_addReached_29 : decode cX4_addReached 29 = .ok (.imul, 1) := by decide +kernel
theorem dX4_addReached_30 : decode cX4_addReached 30 = .ok (.iload_n 2, 1) := by decide +kernel
theorem dX4_addReached_31 : decode cX4_addReached 31 = .ok (.iadd, 1) := by decide +kernel
theorem dX4_addReached_32 : decode cX4_addReached 32 = .ok (.aload_n 0, 1) := by decide +kernel
theorem dX4_addReached_33 : decode cX4_addReached 33 = .ok (.getfield 55, 3) := by decide +kernel
theorem dX4_addReached_36 : decode cX4_addReached 36 = .ok (.iload_n 1, 1) := by decide +kernel
theorem dX4_addReached_37 : decode cX4_addReached 37 = .ok (.iaload, 1) := by decide +kernel
theorem dX4_addReached_38 : decode cX4_addReached 38 = .ok (.iastore, 1) := by decide +kernel
theorem dX4_addReached_39 : decode cX4_addReached 39 = .ok (.aload_n 0, 1) := by decide +kernel
theorem dX4_addReached_40 : decode cX4_addReached 40 = .ok (.getfield 49, 3) := by decide +kernel
theorem dX4_addReached_43 : decode cX4_addReached 43 = .ok (.iload_n 1, 1) := by decide +kernel
theorem dX4_addReached_44 : decode cX4_addReached 44 = .ok (.sipush 400, 3) := by decide +kernel
theorem dX4_addReached_47 : decode cX4_addReached 47 = .ok (.imul, 1) := by decide +kernel
theorem dX4_addReached_48 : decode cX4_addReached 48 = .ok (.aload_n 0, 1) := by decide +kernel
theorem dX4_addReached_49 : decode cX4_addReached 49 = .ok (.getfield 36, 3) := by decide +kernel
theorem dX4_addReached_52 : decode cX4_addReached 52 = .ok (.iload_n 1, 1) := by decide +kernel
theorem dX4_addReached_53 : decode cX4_addReached 53 = .ok (.iaload, 1) := by decide +kernel
theorem dX4_addReached_54 : decode cX4_addReached 54 = .ok (.iadd, 1) := by decide +kernel
theorem dX4_addReached_55 : decode cX4_addReached 55 = .ok (.iload_n 2, 1) := by decide +kernel
theorem dX4_addReached_56 : decode cX4_addReached 56 = .ok (.iastore, 1) := by decide +kernel
theorem dX4_addReached_57 : decode cX4_addReached 57 = .ok (.aload_n 0, 1) := by decide +kernel
theorem dX4_addReached_58 : decode cX4_addReached 58 = .ok (.getfield 36, 3) := by decide +kernel
theorem dX4_addReached_61 : decode cX4_addReached 61 = .ok (.iload_n 1, 1) := by decide +kernel
theorem dX4_addReached_62 : decode cX4_addReached 62 = .ok (.dup2, 1) := by decide +kernel
theorem dX4_addReached_63 : decode cX4_addReached 63 = .ok (.iaload, 1) := by decide +kernel
theorem dX4_addReached_64 : decode cX4_addReached 64 = .ok (.iconst 1, 1) := by decide +kernel
theorem dX4_addReached_65 : decode cX4_addReached 65 = .ok (.iadd, 1) := by decide +kernel
theorem dX4_addReached_66 : decode cX4_addReached 66 = .ok (.iastore, 1) := by decide +kernel
theorem dX4_addReached_67 : decode cX4_addReached 67 = .ok (.return_, 1) := by decide +kernel
theorem dX4_addRow_0 : decode cX4_addRow 0 = .ok (.iload_n 1, 1) := by decide +kernel
theorem dX4_addRow_1 : decode cX4_addRow 1 = .ok (.bipush 41, 2) := by decide +kernel
theorem dX4_addRow_3 : decode cX4_addRow 3 = .ok (.if_icmp .ne 15, 3) := by decide +kernel
theorem dX4_addRow_6 : decode cX4_addRow 6 = .ok (.aload_n 0, 1) := by decide +kernel
theorem dX4_addRow_7 : decode cX4_addRow 7 = .ok (.iconst 2, 1) := by decide +kernel
theorem dX4_addRow_8 : decode cX4_addRow 8 = .ok (.aload_n 0, 1) := by decide +kernel
theorem dX4_addRow_9 : decode cX4_addRow 9 = .ok (.getfield 39, 3) := by decide +kernel
theorem dX4_addRow_12 : decode cX4_addRow 12 = .ok (.iconst 0, 1) := by decide +kernel
theorem dX4_addRow_13 : decode cX4_addRow 13 = .ok (.iaload, 1) := by decide +kernel
theorem dX4_addRow_14 : decode cX4_addRow 14 = .ok (.i2l, 1) := by decide +kernel
theorem dX4_addRow_15 : decode cX4_addRow 15 = .ok (.invokevirtual 139, 3) := by decide +kernel
theorem dX4_addRow_18 : decode cX4_addRow 18 = .ok (.aload_n 0, 1) := by decide +kernel
theorem dX4_addRow_19 : decode cX4_addRow 19 = .ok (.iconst 0, 1) := by decide +kernel
theorem dX4_addRow_20 : decode cX4_addRow 20 = .ok (.aload_n 0, 1) := by decide +kernel
theorem dX4_addRow_21 : decode cX4_addRow 21 = .ok (.getfield 67, 3) := by decide +kernel
theorem dX4_addRow_24 : decode cX4_addRow 24 = .ok (.iconst 1, 1) := by decide +kernel
theorem dX4_addRow_25 : decode cX4_addRow 25 = .ok (.isub, 1) := by decide +kernel
theorem dX4_addRow_26 : decode cX4_addRow 26 = .ok (.invokestatic 221, 3) := by decide +kernel
theorem dX4_addRow_29 : decode cX4_addRow 29 = .ok (.putfield 67, 3) := by decide +kernel
theorem dX4_addRow_32 : decode cX4_addRow 32 = .ok (.aload_n 0, 1) := by decide +kernel
theorem dX4_addRow_33 : decode cX4_addRow 33 = .ok (.getfield 277, 3) := by decide +kernel
theorem dX4_addRow_36 : decode cX4_addRow 36 = .ok (.sipush 4000, 3) := by decide +kernel
theorem dX4_addRow_39 : decode cX4_addRow 39 = .ok (.if_icmp .ge 74, 3) := by decide +kernel
theorem dX4_addRow_42 : decode cX4_addRow 42 = .ok (.aload_n 0, 1) := by decide +kernel
theorem dX4_addRow_43 : decode cX4_addRow 43 = .ok (.getfield 83, 3) := by decide +kernel
theorem dX4_addRow_46 : decode cX4_addRow 46 = .ok (.sipush 30000, 3) := by decide +kernel
theorem dX4_addRow_49 : decode cX4_addRow 49 = .ok (.if_icmp .gt 64, 3) := by decide +kernel
theorem dX4_addRow_52 : decode cX4_addRow 52 = .ok (.aload_n 0, 1) := by decide +kernel
theorem dX4_addRow_53 : decode cX4_addRow 53 = .ok (.getfield 58, 3) := by decide +kernel
theorem dX4_addRow_56 : decode cX4_addRow 56 = .ok (.aload_n 0, 1) := by decide +kernel
theorem dX4_addRow_57 : decode cX4_addRow 57 = .ok (.getfield 277, 3) := by decide +kernel
theorem dX4_addRow_60 : decode cX4_addRow 60 = .ok (.aload_n 0, 1) := by decide +kernel
theorem dX4_addRow_61 : decode cX4_addRow 61 = .ok (.getfield 39, 3) := by decide +kernel
theorem dX4_addRow_64 : decode cX4_addRow 64 = .ok (.iconst 0, 1) := by decide +kernel
theorem dX4_addRow_65 : decode cX4_addRow 65 = .ok (.iaload, 1) := by decide +kernel
theorem dX4_addRow_66 : decode cX4_addRow 66 = .ok (.iastore, 1) := by decide +kernel
theorem dX4_addRow_67 : decode cX4_addRow 67 = .ok (.aload_n 0, 1) := by decide +kernel
theorem dX4_addRow_68 : decode cX4_addRow 68 = .ok (.getfield 61, 3) := by decide +kernel
theorem dX4_addRow_71 : decode cX4_addRow 71 = .ok (.aload_n 0, 1) := by decide +kernel
theorem dX4_addRow_72 : decode cX4_addRow 72 = .ok (.getfield 277, 3) := by decide +kernel
theorem dX4_addRow_75 : decode cX4_addRow 75 = .ok (.aload_n 0, 1) := by decide +kernel
theorem dX4_addRow_76 : decode cX4_addRow 76 = .ok (.getfield 19, 3) := by decide +kernel
theorem dX4_addRow_79 : decode cX4_addRow 79 = .ok (.aload_n 0, 1) := by decide +kernel
theorem dX4_addRow_80 : decode cX4_addRow 80 = .ok (.getfield 67, 3) := by decide +kernel
theorem dX4_addRow_83 : decode cX4_addRow 83 = .ok (.iaload, 1) := by decide +kernel
theorem dX4_addRow_84 : decode cX4_addRow 84 = .ok (.iastore, 1) := by decide +kernel
theorem dX4_addRow_85 : decode cX4_addRow 85 = .ok (.aload_n 0, 1) := by decide +kernel
theorem dX4_addRow_86 : decode cX4_addRow 86 = .ok (.getfield 64, 3) := by decide +kernel
theorem dX4_addRow_89 : decode cX4_addRow 89 = .ok (.aload_n 0, 1) := by decide +kernel
theorem dX4_addRow_90 : decode cX4_addRow 90 = .ok (.getfield 277, 3) := by decide +kernel
theorem dX4_addRow_93 : decode cX4_addRow 93 = .ok (.aload_n 0, 1) := by decide +kernel
theorem dX4_addRow_94 : decode cX4_addRow 94 = .ok (.getfield 23, 3) := by decide +kernel
theorem dX4_addRow_97 : decode cX4_addRow 97 = .ok (.aload_n 0, 1) := by decide +kernel
theorem dX4_addRow_98 : decode cX4_addRow 98 = .ok (.getfield 67, 3) := by decide +kernel
theorem dX4_addRow_101 : decode cX4_addRow 101 = .ok (.laload, 1) := by decide +kernel
theorem dX4_addRow_102 : decode cX4_addRow 102 = .ok (.lastore, 1) := by decide +kernel
theorem dX4_addRow_103 : decode cX4_addRow 103 = .ok (.aload_n 0, 1) := by decide +kernel
theorem dX4_addRow_104 : decode cX4_addRow 104 = .ok (.dup, 1) := by decide +kernel
theorem dX4_addRow_105 : decode cX4_addRow 105 = .ok (.getfield 277, 3) := by decide +kernel
theorem dX4_addRow_108 : decode cX4_addRow 108 = .ok (.iconst 1, 1) := by decide +kernel
theorem dX4_addRow_109 : decode cX4_addRow 109 = .ok (.iadd, 1) := by decide +kernel
theorem dX4_addRow_110 : decode cX4_addRow 110 = .ok (.putfield 277, 3) := by decide +kernel
theorem dX4_addRow_113 : decode cX4_addRow 113 = .ok (.return_, 1) := by decide +kernel
theorem dX4_addUp_0 : decode cX4_addUp 0 = .ok (.aload_n 0, 1) := by decide +kernel
theorem dX4_addUp_1 : decode cX4_addUp 1 = .ok (.getfield 75, 3) := by decide +kernel
theorem dX4_addUp_4 : decode cX4_addUp 4 = .ok (.getfield 145, 3) := by decide +kernel
theorem dX4_addUp_7 : decode cX4_addUp 7 = .ok (.iload_n 1, 1) := by decide +kernel
theorem dX4_addUp_8 : decode cX4_addUp 8 = .ok (.iaload, 1) := by decide +kernel
theorem dX4_addUp_9 : decode cX4_addUp 9 = .ok (.istore_n 2, 1) := by decide +kernel
theorem dX4_addUp_10 : decode cX4_addUp 10 = .ok (.aload_n 0, 1) := by decide +kernel
theorem dX4_addUp_11 : decode cX4_addUp 11 = .ok (.getfield 75, 3) := by decide +kernel
theorem dX4_addUp_14 : decode cX4_addUp 14 = .ok (.getfield 121, 3) := by decide +kernel
theorem dX4_addUp_17 : decode cX4_addUp 17 = .ok (.iload_n 1, 1) := by decide +kernel
theorem dX4_addUp_18 : decode cX4_addUp 18 = .ok (.laload, 1) := by decide +kernel
theorem dX4_addUp_19 : decode cX4_addUp 19 = .ok (.l2i, 1) := by decide +kernel
theorem dX4_addUp_20 : decode cX4_addUp 20 = .ok (.istore_n 3, 1) := by decide +kernel
theorem dX4_addUp_21 : decode cX4_addUp 21 = .ok (.iload_n 3, 1) := by decide +kernel
theorem dX4_addUp_22 : decode cX4_addUp 22 = .ok (.bipush 44, 2) := by decide +kernel
theorem dX4_addUp_24 : decode cX4_addUp 24 = .ok (.if_icmp .ne 23, 3) := by decide +kernel
theorem dX4_addUp_27 : decode cX4_addUp 27 = .ok (.aload_n 0, 1) := by decide +kernel
theorem dX4_addUp_28 : decode cX4_addUp 28 = .ok (.getfield 42, 3) := by decide +kernel
theorem dX4_addUp_31 : decode cX4_addUp 31 = .ok (.iload_n 2, 1) := by decide +kernel
theorem dX4_addUp_32 : decode cX4_addUp 32 = .ok (.dup2, 1) := by decide +kernel
theorem dX4_addUp_33 : decode cX4_addUp 33 = .ok (.laload, 1) := by decide +kernel
theorem dX4_addUp_34 : decode cX4_addUp 34 = .ok (.lconst 1, 1) := by decide +kernel
theorem dX4_addUp_35 : decode cX4_addUp 35 = .ok (.ladd, 1) := by decide +kernel
theorem dX4_addUp_36 : decode cX4_addUp 36 = .ok (.lastore, 1) := by decide +kernel
theorem dX4_addUp_37 : decode cX4_addUp 37 = .ok (.aload_n 0, 1) := by decide +kernel
theorem dX4_addUp_38 : decode cX4_addUp 38 = .ok (.getfield 75, 3) := by decide +kernel
theorem dX4_addUp_41 : decode cX4_addUp 41 = .ok (.getfield 260, 3) := by decide +kernel
theorem dX4_addUp_44 : decode cX4_addUp 44 = .ok (.iload_n 1, 1) := by decide +kernel
theorem dX4_addUp_45 : decode cX4_addUp 45 = .ok (.iaload, 1) := by decide +kernel
theorem dX4_addUp_46 : decode cX4_addUp 46 = .ok (.ireturn, 1) := by decide +kernel
theorem dX4_addUp_47 : decode cX4_addUp 47 = .ok (.aload_n 0, 1) := by decide +kernel
theorem dX4_addUp_48 : decode cX4_addUp 48 = .ok (.iconst 0, 1) := by decide +kernel
theorem dX4_addUp_49 : decode cX4_addUp 49 = .ok (.aload_n 0, 1) := by decide +kernel
theorem dX4_addUp_50 : decode cX4_addUp 50 = .ok (.getfield 67, 3) := by decide +kernel
theorem dX4_addUp_53 : decode cX4_addUp 53 = .ok (.iconst 1, 1) := by decide +kernel
theorem dX4_addUp_54 : decode cX4_addUp 54 = .ok (.isub, 1) := by decide +kernel
theorem dX4_addUp_55 : decode cX4_addUp 55 = .ok (.invokestatic 221, 3) := by decide +kernel
theorem dX4_addUp_58 : decode cX4_addUp 58 = .ok (.putfield 67, 3) := by decide +kernel
theorem dX4_addUp_61 : decode cX4_addUp 61 = .ok (.iload_n 3, 1) := by decide +kernel
theorem dX4_addUp_62 : decode cX4_addUp 62 = .ok (.bipush 48, 2) := by decide +kernel
theorem dX4_addUp_64 : decode cX4_addUp 64 = .ok (.if_icmp .eq 9, 3) := by decide +kernel
theorem dX4_addUp_67 : decode cX4_addUp 67 = .ok (.iload_n 3, 1) := by decide +kernel
theorem dX4_addUp_68 : decode cX4_addUp 68 = .ok (.bipush 49, 2) := by decide +kernel
theorem dX4_addUp_70 : decode cX4_addUp 70 = .ok (.if_icmp .ne 61, 3) := by decide +kernel
theorem dX4_addUp_73 : decode cX4_addUp 73 = .ok (.aload_n 0, 1) := by decide +kernel
theorem dX4_addUp_74 : decode cX4_addUp 74 = .ok (.getfield 45, 3) := by decide +kernel
theorem dX4_addUp_77 : decode cX4_addUp 77 = .ok (.iload_n 2, 1) := by decide +kernel
theorem dX4_addUp_78 : decode cX4_addUp 78 = .ok (.aload_n 0, 1) := by decide +kernel
theorem dX4_addUp_79 : decode cX4_addUp 79 = .ok (.aload_n 0, 1) := by decide +kernel
theorem dX4_addUp_80 : decode cX4_addUp 80 = .ok (.getfield 67, 3) := by decide +kernel
theorem dX4_addUp_83 : decode cX4_addUp 83 = .ok (.invokevirtual 71, 3) := by decide +kernel
theorem dX4_addUp_86 : decode cX4_addUp 86 = .ok (.iload_n 3, 1) := by decide +kernel
theorem dX4_addUp_87 : decode cX4_addUp 87 = .ok (.bipush 48, 2) := by decide +kernel
theorem dX4_addUp_89 : decode cX4_addUp 89 = .ok (.if_icmp .ne 7, 3) := by decide +kernel
theorem dX4_addUp_92 : decode cX4_addUp 92 = .ok (.iconst 1, 1) := by decide +kernel
theorem dX4_addUp_93 : decode cX4_addUp 93 = .ok (.goto 4, 3) := by decide +kernel
theorem dX4_addUp_96 : decode cX4_addUp 96 = .ok (.iconst 0, 1) := by decide +kernel
theorem dX4_addUp_97 : decode cX4_addUp 97 = .ok (.if_icmp .ne 7, 3) := by decide +kernel
theorem dX4_addUp_100 : decode cX4_addUp 100 = .ok (.iconst 1, 1) := by decide +kernel
theorem dX4_addUp_101 : decode cX4_addUp 101 = .ok (.goto 4, 3) := by decide +kernel
theorem dX4_addUp_104 : decode cX4_addUp 104 = .ok (.iconst 0, 1) := by decide +kernel
theorem dX4_addUp_105 : decode cX4_addUp 105 = .ok (.bastore, 1) := by decide +kernel
theorem dX4_addUp_106 : decode cX4_addUp 106 = .ok (.aload_n 0, 1) := by decide +kernel
theorem dX4_addUp_107 : decode cX4_addUp 107 = .ok (.getfield 45, 3) := by decide +kernel
theorem dX4_addUp_110 : decode cX4_addUp 110 = .ok (.iload_n 2, 1) := by decide +kernel
theorem dX4_addUp_111 : decode cX4_addUp 111 = .ok (.baload, 1) := by decide +kernel
theorem dX4_addUp_112 : decode cX4_addUp 112 = .ok (.ifCond .eq 9, 3) := by decide +kernel
theorem dX4_addUp_115 : decode cX4_addUp 115 = .ok (.iload_n 1, 1) := by decide +kernel
theorem dX4_addUp_116 : decode cX4_addUp 116 = .ok (.iconst 1, 1) := by decide +kernel
theorem dX4_addUp_117 : decode cX4_addUp 117 = .ok (.iadd, 1) := by decide +kernel
theorem dX4_addUp_118 : decode cX4_addUp 118 = .ok (.goto 12, 3) := by decide +kernel
theorem dX4_addUp_121 : decode cX4_addUp 121 = .ok (.aload_n 0, 1) := by decide +kernel
theorem dX4_addUp_122 : decode cX4_addUp 122 = .ok (.getfield 75, 3) := by decide +kernel
theorem dX4_addUp_125 : decode cX4_addUp 125 = .ok (.getfield 260, 3) := by decide +kernel
theorem dX4_addUp_128 : decode cX4_addUp 128 = .ok (.iload_n 1, 1) := by decide +kernel
theorem dX4_addUp_129 : decode cX4_addUp 129 = .ok (.iaload, 1) := by decide +kernel
theorem dX4_addUp_130 : decode cX4_addUp 130 = .ok (.ireturn, 1) := by decide +kernel
theorem dX4_addUp_131 : decode cX4_addUp 131 = .ok (.aload_n 0, 1) := by decide +kernel
theorem dX4_addUp_132 : decode cX4_addUp 132 = .ok (.getfield 19, 3) := by decide +kernel
theorem dX4_addUp_135 : decode cX4_addUp 135 = .ok (.aload_n 0, 1) := by decide +kernel
theorem dX4_addUp_136 : decode cX4_addUp 136 = .ok (.getfield 67, 3) := by decide +kernel
theorem dX4_addUp_139 : decode cX4_addUp 139 = .ok (.iaload, 1) := by decide +kernel
theorem dX4_addUp_140 : decode cX4_addUp 140 = .ok (.ifCond .ne 18, 3) := by decide +kernel
theorem dX4_addUp_143 : decode cX4_addUp 143 = .ok (.aload_n 0, 1) := by decide +kernel
theorem dX4_addUp_144 : decode cX4_addUp 144 = .ok (.iload_n 2, 1) := by decide +kernel
theorem dX4_addUp_145 : decode cX4_addUp 145 = .ok (.iload_n 3, 1) := by decide +kernel
theorem dX4_addUp_146 : decode cX4_addUp 146 = .ok (.aload_n 0, 1) := by decide +kernel
theorem dX4_addUp_147 : decode cX4_addUp 147 = .ok (.getfield 23, 3) := by decide +kernel
theorem dX4_addUp_150 : decode cX4_addUp 150 = .ok (.aload_n 0, 1) := by decide +kernel
theorem dX4_addUp_151 : decode cX4_addUp 151 = .ok (.getfield 67, 3) := by decide +kernel
theorem dX4_addUp_154 : decode cX4_addUp 154 = .ok (.laload, 1) := by decide +kernel
theorem dX4_addUp_155 : decode cX4_addUp 155 = .ok (.invokevirtual 274, 3) := by decide +kernel
theorem dX4_addUp_158 : decode cX4_addUp 158 = .ok (.aload_n 0, 1) := by decide +kernel
theorem dX4_addUp_159 : decode cX4_addUp 159 = .ok (.getfield 75, 3) := by decide +kernel
theorem dX4_addUp_162 : decode cX4_addUp 162 = .ok (.getfield 260, 3) := by decide +kernel
theorem dX4_addUp_165 : decode cX4_addUp 165 = .ok (.iload_n 1, 1) := by decide +kernel
theorem dX4_addUp_166 : decode cX4_addUp 166 = .ok (.iaload, 1) := by decide +kernel
theorem dX4_addUp_167 : decode cX4_addUp 167 = .ok (.ireturn, 1) := by decide +kernel
theorem dX4_beginFrom_0 : decode cX4_beginFrom 0 = .ok (.iload_n 1, 1) := by decide +kernel
theorem dX4_beginFrom_1 : decode cX4_beginFrom 1 = .ok (.bipush 30, 2) := by decide +kernel
theorem dX4_beginFrom_3 : decode cX4_beginFrom 3 = .ok (.if_icmp .ne 38, 3) := by decide +kernel
theorem dX4_beginFrom_6 : decode cX4_beginFrom 6 = .ok (.aload_n 0, 1) := by decide +kernel
theorem dX4_beginFrom_7 : decode cX4_beginFrom 7 = .ok (.getfield 33, 3) := by decide +kernel
theorem dX4_beginFrom_10 : decode cX4_beginFrom 10 = .ok (.iload_n 2, 1) := by decide +kernel
theorem dX4_beginFrom_11 : decode cX4_beginFrom 11 = .ok (.aload_n 0, 1) := by decide +kernel
theorem dX4_beginFrom_12 : decode cX4_beginFrom 12 = .ok (.getfield 79, 3) := by decide +kernel
theorem dX4_beginFrom_15 : decode cX4_beginFrom 15 = .ok (.getfield 191, 3) := by decide +kernel
theorem dX4_beginFrom_18 : decode cX4_beginFrom 18 = .ok (.iload_n 3, 1) := by decide +kernel
theorem dX4_beginFrom_19 : decode cX4_beginFrom 19 = .ok (.iaload, 1) := by decide +kernel
theorem dX4_beginFrom_20 : decode cX4_beginFrom 20 = .ok (.iastore, 1) := by decide +kernel
theorem dX4_beginFrom_21 : decode cX4_beginFrom 21 = .ok (.aload_n 0, 1) := by decide +kernel
theorem dX4_beginFrom_22 : decode cX4_beginFrom 22 = .ok (.getfield 36, 3) := by decide +kernel
theorem dX4_beginFrom_25 : decode cX4_beginFrom 25 = .ok (.iload_n 2, 1) := by decide +kernel
theorem dX4_beginFrom_26 : decode cX4_beginFrom 26 = .ok (.aload_n 0, 1) := by decide +kernel
theorem dX4_beginFrom_27 : decode cX4_beginFrom 27 = .ok (.getfield 79, 3) := by decide +kernel
theorem dX4_beginFrom_30 : decode cX4_beginFrom 30 = .ok (.getfield 191, 3) := by decide +kernel
theorem dX4_beginFrom_33 : decode cX4_beginFrom 33 = .ok (.iload_n 3, 1) := by decide +kernel
theorem dX4_beginFrom_34 : decode cX4_beginFrom 34 = .ok (.iconst 1, 1) := by decide +kernel
theorem dX4_beginFrom_35 : decode cX4_beginFrom 35 = .ok (.iadd, 1) := by decide +kernel
theorem dX4_beginFrom_36 : decode cX4_beginFrom 36 = .ok (.iaload, 1) := by decide +kernel
theorem dX4_beginFrom_37 : decode cX4_beginFrom 37 = .ok (.iastore, 1) := by decide +kernel
theorem dX4_beginFrom_38 : decode cX4_beginFrom 38 = .ok (.goto 73, 3) := by decide +kernel
theorem dX4_beginFrom_41 : decode cX4_beginFrom 41 = .ok (.iload_n 1, 1) := by decide +kernel
theorem dX4_beginFrom_42 : decode cX4_beginFrom 42 = .ok (.bipush 31, 2) := by decide +kernel
theorem dX4_beginFrom_44 : decode cX4_beginFrom 44 = .ok (.if_icmp .ne 44, 3) := by decide +kernel
theorem dX4_beginFrom_47 : decode cX4_beginFrom 47 = .ok (.aload_n 0, 1) := by decide +kernel
theorem dX4_beginFrom_48 : decode cX4_beginFrom 48 = .ok (.getfield 33, 3) := by decide +kernel
theorem dX4_beginFrom_51 : decode cX4_beginFrom 51 = .ok (.iload_n 2, 1) := by decide +kernel
theorem dX4_beginFrom_52 : decode cX4_beginFrom 52 = .ok (.aload_n 0, 1) := by decide +kernel
theorem dX4_beginFrom_53 : decode cX4_beginFrom 53 = .ok (.getfield 79, 3) := by decide +kernel
theorem dX4_beginFrom_56 : decode cX4_beginFrom 56 = .ok (.getfield 90, 3) := by decide +kernel
theorem dX4_beginFrom_59 : decode cX4_beginFrom 59 = .ok (.getfield 236, 3) := by decide +kernel
theorem dX4_beginFrom_62 : decode cX4_beginFrom 62 = .ok (.iload_n 3, 1) := by decide +kernel
theorem dX4_beginFrom_63 : decode cX4_beginFrom 63 = .ok (.iaload, 1) := by decide +kernel
theorem dX4_beginFrom_64 : decode cX4_beginFrom 64 = .ok (.iastore, 1) := by decide +kernel
theorem dX4_beginFrom_65 : decode cX4_beginFrom 65 = .ok (.aload_n 0, 1) := by decide +kernel
theorem dX4_beginFrom_66 : decode cX4_beginFrom 66 = .ok (.getfield 36, 3) := by decide +kernel
theorem dX4_beginFrom_69 : decode cX4_beginFrom 69 = .ok (.iload_n 2, 1) := by decide +kernel
theorem dX4_beginFrom_70 : decode cX4_beginFrom 70 = .ok (.aload_n 0, 1) := by decide +kernel
theorem dX4_beginFrom_71 : decode cX4_beginFrom 71 = .ok (.getfield 79, 3) := by decide +kernel
theorem dX4_beginFrom_74 : decode cX4_beginFrom 74 = .ok (.getfield 90, 3) := by decide +kernel
theorem dX4_beginFrom_77 : decode cX4_beginFrom 77 = .ok (.getfield 236, 3) := by decide +kernel
theorem dX4_beginFrom_80 : decode cX4_beginFrom 80 = .ok (.iload_n 3, 1) := by decide +kernel
theorem dX4_beginFrom_81 : decode cX4_beginFrom 81 = .ok (.iconst 1, 1) := by decide +kernel
theorem dX4_beginFrom_82 : decode cX4_beginFrom 82 = .ok (.iadd, 1) := by decide +kernel
theorem dX4_beginFrom_83 : decode cX4_beginFrom 83 = .ok (.iaload, 1) := by decide +kernel
theorem dX4_beginFrom_84 : decode cX4_beginFrom 84 = .ok (.iastore, 1) := by decide +kernel
theorem dX4_beginFrom_85 : decode cX4_beginFrom 85 = .ok (.goto 26, 3) := by decide +kernel
theorem dX4_beginFrom_88 : decode cX4_beginFrom 88 = .ok (.aload_n 0, 1) := by decide +kernel
theorem dX4_beginFrom_89 : decode cX4_beginFrom 89 = .ok (.getfield 55, 3) := by decide +kernel
theorem dX4_beginFrom_92 : decode cX4_beginFrom 92 = .ok (.iload_n 2, 1) := by decide +kernel
theorem dX4_beginFrom_93 : decode cX4_beginFrom 93 = .ok (.dup2, 1) := by decide +kernel
theorem dX4_beginFrom_94 : decode cX4_beginFrom 94 = .ok (.iaload, 1) := by decide +kernel
theorem dX4_beginFrom_95 : decode cX4_beginFrom 95 = .ok (.iconst 1, 1) := by decide +kernel
theorem dX4_beginFrom_96 : decode cX4_beginFrom 96 = .ok (.iadd, 1) := by decide +kernel
theorem dX4_beginFrom_97 : decode cX4_beginFrom 97 = .ok (.iastore, 1) := by decide +kernel
theorem dX4_beginFrom_98 : decode cX4_beginFrom 98 = .ok (.aload_n 0, 1) := by decide +kernel
theorem dX4_beginFrom_99 : decode cX4_beginFrom 99 = .ok (.getfield 30, 3) := by decide +kernel
theorem dX4_beginFrom_102 : decode cX4_beginFrom 102 = .ok (.iload_n 2, 1) := by decide +kernel
theorem dX4_beginFrom_103 : decode cX4_beginFrom 103 = .ok (.iconst 0, 1) := by decide +kernel
theorem dX4_beginFrom_104 : decode cX4_beginFrom 104 = .ok (.iastore, 1) := by decide +kernel
theorem dX4_beginFrom_105 : decode cX4_beginFrom 105 = .ok (.aload_n 0, 1) := by decide +kernel
theorem dX4_beginFrom_106 : decode cX4_beginFrom 106 = .ok (.iload_n 2, 1) := by decide +kernel
theorem dX4_beginFrom_107 : decode cX4_beginFrom 107 = .ok (.iload_n 3, 1) := by decide +kernel
theorem dX4_beginFrom_108 : decode cX4_beginFrom 108 = .ok (.invokevirtual 239, 3) := by decide +kernel
theorem dX4_beginFrom_111 : decode cX4_beginFrom 111 = .ok (.return_, 1) := by decide +kernel
theorem dX4_beginSet_0 : decode cX4_beginSet 0 = .ok (.aload_n 0, 1) := by decide +kernel
theorem dX4_beginSet_1 : decode cX4_beginSet 1 = .ok (.getfield 75, 3) := by decide +kernel
theorem dX4_beginSet_4 : decode cX4_beginSet 4 = .ok (.getfield 145, 3) := by decide +kernel
theorem dX4_beginSet_7 : decode cX4_beginSet 7 = .ok (.iload_n 2, 1) := by decide +kernel
theorem dX4_beginSet_8 : decode cX4_beginSet 8 = .ok (.iaload, 1) := by decide +kernel
theorem dX4_beginSet_9 : decode cX4_beginSet 9 = .ok (.istore_n 3, 1) := by decide +kernel
theorem dX4_beginSet_10 : decode cX4_beginSet 10 = .ok (.aload_n 0, 1) := by decide +kernel
theorem dX4_beginSet_11 : decode cX4_beginSet 11 = .ok (.getfield 27, 3) := by decide +kernel
theorem dX4_beginSet_14 : decode cX4_beginSet 14 = .ok (.iload_n 3, 1) := by decide +kernel
theorem dX4_beginSet_15 : decode cX4_beginSet 15 = .ok (.iload_n 1, 1) := by decide +kernel
theorem dX4_beginSet_16 : decode cX4_beginSet 16 = .ok (.iastore, 1) := by decide +kernel
theorem dX4_beginSet_17 : decode cX4_beginSet 17 = .ok (.aload_n 0, 1) := by decide +kernel
theorem dX4_beginSet_18 : decode cX4_beginSet 18 = .ok (.getfield 33, 3) := by decide +kernel
theorem dX4_beginSet_21 : decode cX4_beginSet 21 = .ok (.iload_n 3, 1) := by decide +kernel
theorem dX4_beginSet_22 : decode cX4_beginSet 22 = .ok (.iconst 0, 1) := by decide +kernel
theorem dX4_beginSet_23 : decode cX4_beginSet 23 = .ok (.iastore, 1) := by decide +kernel
theorem dX4_beginSet_24 : decode cX4_beginSet 24 = .ok (.aload_n 0, 1) := by decide +kernel
theorem dX4_beginSet_25 : decode cX4_beginSet 25 = .ok (.getfield 36, 3) := by decide +kernel
theorem dX4_beginSet_28 : decode cX4_beginSet 28 = .ok (.iload_n 3, 1) := by decide +kernel
theorem dX4_beginSet_29 : decode cX4_beginSet 29 = .ok (.aload_n 0, 1) := by decide +kernel
theorem dX4_beginSet_30 : decode cX4_beginSet 30 = .ok (.getfield 79, 3) := by decide +kernel
theorem dX4_beginSet_33 : decode cX4_beginSet 33 = .ok (.getfield 142, 3) := by decide +kernel
theorem dX4_beginSet_36 : decode cX4_beginSet 36 = .ok (.iastore, 1) := by decide +kernel
theorem dX4_beginSet_37 : decode cX4_beginSet 37 = .ok (.iload_n 1, 1) := by decide +kernel
theorem dX4_beginSet_38 : decode cX4_beginSet 38 = .ok (.bipush 27, 2) := by decide +kernel
theorem dX4_beginSet_40 : decode cX4_beginSet 40 = .ok (.if_icmp .eq 9, 3) := by decide +kernel
theorem dX4_beginSet_43 : decode cX4_beginSet 43 = .ok (.iload_n 1, 1) := by decide +kernel
theorem dX4_beginSet_44 : decode cX4_beginSet 44 = .ok (.bipush 28, 2) := by decide +kernel
theorem dX4_beginSet_46 : decode cX4_beginSet 46 = .ok (.if_icmp .ne 36, 3) := by decide +kernel
theorem dX4_beginSet_49 : decode cX4_beginSet 49 = .ok (.aload_n 0, 1) := by decide +kernel
theorem dX4_beginSet_50 : decode cX4_beginSet 50 = .ok (.getfield 30, 3) := by decide +kernel
theorem dX4_beginSet_53 : decode cX4_beginSet 53 = .ok (.iload_n 3, 1) := by decide +kernel
theorem dX4_beginSet_54 : decode cX4_beginSet 54 = .ok (.aload_n 0, 1) := by decide +kernel
theorem dX4_beginSet_55 : decode cX4_beginSet 55 = .ok (.aload_n 0, 1) := by decide +kernel
theorem dX4_beginSet_56 : decode cX4_beginSet 56 = .ok (.getfield 75, 3) := by decide +kernel
theorem dX4_beginSet_59 : decode cX4_beginSet 59 = .ok (.getfield 121, 3) := by decide +kernel
theorem dX4_beginSet_62 : decode cX4_beginSet 62 = .ok (.iload_n 2, 1) := by decide +kernel
theorem dX4_beginSet_63 : decode cX4_beginSet 63 = .ok (.laload, 1) := by decide +kernel
theorem dX4_beginSet_64 : decode cX4_beginSet 64 = .ok (.iload_n 1, 1) := by decide +kernel
theorem dX4_beginSet_65 : decode cX4_beginSet 65 = .ok (.bipush 28, 2) := by decide +kernel
theorem dX4_beginSet_67 : decode cX4_beginSet 67 = .ok (.if_icmp .ne 7, 3) := by decide +kernel
theorem dX4_beginSet_70 : decode cX4_beginSet 70 = .ok (.iconst 1, 1) := by decide +kernel
theorem dX4_beginSet_71 : decode cX4_beginSet 71 = .ok (.goto 4, 3) := by decide +kernel
theorem dX4_beginSet_74 : decode cX4_beginSet 74 = .ok (.iconst 0, 1) := by decide +kernel
theorem dX4_beginSet_75 : decode cX4_beginSet 75 = .ok (.invokevirtual 217, 3) := by decide +kernel
theorem dX4_beginSet_78 : decode cX4_beginSet 78 = .ok (.iastore, 1) := by decide +kernel
theorem dX4_beginSet_79 : decode cX4_beginSet 79 = .ok (.goto 59, 3) := by decide +kernel
theorem dX4_beginSet_82 : decode cX4_beginSet 82 = .ok (.iload_n 1, 1) := by decide +kernel
theorem dX4_beginSet_83 : decode cX4_beginSet 83 = .ok (.bipush 29, 2) := by decide +kernel
theorem dX4_beginSet_85 : decode cX4_beginSet 85 = .ok (.if_icmp .eq 53, 3) := by decide +kernel
theorem dX4_beginSet_88 : decode cX4_beginSet 88 = .ok (.aload_n 0, 1) := by decide +kernel
theorem dX4_beginSet_89 : decode cX4_beginSet 89 = .ok (.iconst 0, 1) := by decide +kernel
theorem dX4_beginSet_90 : decode cX4_beginSet 90 = .ok (.aload_n 0, 1) := by decide +kernel
theorem dX4_beginSet_91 : decode cX4_beginSet 91 = .ok (.getfield 67, 3) := by decide +kernel
theorem dX4_beginSet_94 : decode cX4_beginSet 94 = .ok (.iconst 1, 1) := by decide +kernel
theorem dX4_beginSet_95 : decode cX4_beginSet 95 = .ok (.isub, 1) := by decide +kernel
theorem dX4_beginSet_96 : decode cX4_beginSet 96 = .ok (.invokestatic 221, 3) := by decide +kernel
theorem dX4_beginSet_99 : decode cX4_beginSet 99 = .ok (.putfield 67, 3) := by decide +kernel
theorem dX4_beginSet_102 : decode cX4_beginSet 102 = .ok (.aload_n 0, 1) := by decide +kernel
theorem dX4_beginSet_103 : decode cX4_beginSet 103 = .ok (.getfield 36, 3) := by decide +kernel
theorem dX4_beginSet_106 : decode cX4_beginSet 106 = .ok (.iload_n 3, 1) := by decide +kernel
theorem dX4_beginSet_107 : decode cX4_beginSet 107 = .ok (.iconst 0, 1) := by decide +kernel
theorem dX4_beginSet_108 : decode cX4_beginSet 108 = .ok (.iastore, 1) := by decide +kernel
theorem dX4_beginSet_109 : decode cX4_beginSet 109 = .ok (.aload_n 0, 1) := by decide +kernel
theorem dX4_beginSet_110 : decode cX4_beginSet 110 = .ok (.getfield 19, 3) := by decide +kernel
theorem dX4_beginSet_113 : decode cX4_beginSet 113 = .ok (.aload_n 0, 1) := by decide +kernel
theorem dX4_beginSet_114 : decode cX4_beginSet 114 = .ok (.getfield 67, 3) := by decide +kernel
theorem dX4_beginSet_117 : decode cX4_beginSet 117 = .ok (.iaload, 1) := by decide +kernel
theorem dX4_beginSet_118 : decode cX4_beginSet 118 = .ok (.iconst 2, 1) := by decide +kernel
theorem dX4_beginSet_119 : decode cX4_beginSet 119 = .ok (.if_icmp .ne 19, 3) := by decide +kernel
theorem dX4_beginSet_122 : decode cX4_beginSet 122 = .ok (.aload_n 0, 1) := by decide +kernel
theorem dX4_beginSet_123 : decode cX4_beginSet 123 = .ok (.iload_n 1, 1) := by decide +kernel
theorem dX4_beginSet_124 : decode cX4_beginSet 124 = .ok (.iload_n 3, 1) := by decide +kernel
theorem dX4_beginSet_125 : decode cX4_beginSet 125 = .ok (.aload_n 0, 1) := by decide +kernel
theorem dX4_beginSet_126 : decode cX4_beginSet 126 = .ok (.getfield 23, 3) := by decide +kernel
theorem dX4_beginSet_129 : decode cX4_beginSet 129 = .ok (.aload_n 0, 1) := by decide +kernel
theorem dX4_beginSet_130 : decode cX4_beginSet 130 = .ok (.getfield 67, 3) := by decide +kernel
theorem dX4_beginSet_133 : decode cX4_beginSet 133 = .ok (.laload, 1) := by decide +kernel
theorem dX4_beginSet_134 : decode cX4_beginSet 134 = .ok (.l2i, 1) := by decide +kernel
theorem dX4_beginSet_135 : decode cX4_beginSet 135 = .ok (.invokevirtual 226, 3) := by decide +kernel
theorem dX4_beginSet_138 : decode cX4_beginSet 138 = .ok (.return_, 1) := by decide +kernel
theorem dX4_classesNamed_0 : decode cX4_classesNamed 0 = .ok (.iconst 0, 1) := by decide +kernel
theorem dX4_classesNamed_1 : decode cX4_classesNamed 1 = .ok (.istore 4, 2) := by decide +kernel
theorem dX4_classesNamed_3 : decode cX4_classesNamed 3 = .ok (.iconst 0, 1) := by decide +kernel
theorem dX4_classesNamed_4 : decode cX4_classesNamed 4 = .ok (.istore 5, 2) := by decide +kernel
theorem dX4_classesNamed_6 : decode cX4_classesNamed 6 = .ok (.iload 5, 2) := by decide +kernel
theorem dX4_classesNamed_8 : decode cX4_classesNamed 8 = .ok (.aload_n 0, 1) := by decide +kernel
theorem dX4_classesNamed_9 : decode cX4_classesNamed 9 = .ok (.getfield 11, 3) := by decide +kernel
theorem dX4_classesNamed_12 : decode cX4_classesNamed 12 = .ok (.getfield 230, 3) := by decide +kernel
theorem dX4_classesNamed_15 : decode cX4_classesNamed 15 = .ok (.if_icmp .ge 53, 3) := by decide +kernel
theorem dX4_classesNamed_18 : decode cX4_classesNamed 18 = .ok (.iload_n 3, 1) := by decide +kernel
theorem dX4_classesNamed_19 : decode cX4_classesNamed 19 = .ok (.ifCond .eq 21, 3) := by decide +kernel
theorem dX4_classesNamed_22 : decode cX4_classesNamed 22 = .ok (.aload_n 0, 1) := by decide +kernel
theorem dX4_classesNamed_23 : decode cX4_classesNamed 23 = .ok (.getfield 11, 3) := by decide +kernel
theorem dX4_classesNamed_26 : decode cX4_classesNamed 26 = .ok (.getfield 233, 3) := by decide +kernel
theorem dX4_classesNamed_29 : decode cX4_classesNamed 29 = .ok (.iload 5, 2) := by decide +kernel
theorem dX4_classesNamed_31 : decode cX4_classesNamed 31 = .ok (.laload, 1) := by decide +kernel
theorem dX4_classesNamed_32 : decode cX4_classesNamed 32 = .ok (.lload_n 1, 1) := by decide +kernel
theorem dX4_classesNamed_33 : decode cX4_classesNamed 33 = .ok (.lcmp, 1) := by decide +kernel
theorem dX4_classesNamed_34 : decode cX4_classesNamed 34 = .ok (.ifCond .ne 28, 3) := by decide +kernel
theorem dX4_classesNamed_37 : decode cX4_classesNamed 37 = .ok (.goto 16, 3) := by decide +kernel
theorem dX4_classesNamed_40 : decode cX4_classesNamed 40 = .ok (.aload_n 0, 1) := by decide +kernel
theorem dX4_classesNamed_41 : decode cX4_classesNamed 41 = .ok (.getfield 11, 3) := by decide +kernel
theorem dX4_classesNamed_44 : decode cX4_classesNamed 44 = .ok (.iload 5, 2) := by decide +kernel
theorem dX4_classesNamed_46 : decode cX4_classesNamed 46 = .ok (.lload_n 1, 1) := by decide +kernel
theorem dX4_classesNamed_47 : decode cX4_classesNamed 47 = .ok (.invokevirtual 180, 3) := by decide +kernel
theorem dX4_classesNamed_50 : decode cX4_classesNamed 50 = .ok (.ifCond .eq 12, 3) := by decide +kernel
theorem dX4_classesNamed_53 : decode cX4_classesNamed 53 = .ok (.iload 4, 2) := by decide +kernel
theorem dX4_classesNamed_55 : decode cX4_classesNamed 55 = .ok (.iconst 1, 1) := by decide +kernel
theorem dX4_classesNamed_56 : decode cX4_classesNamed 56 = .ok (.iload 5, 2) := by decide +kernel
theorem dX4_classesNamed_58 : decode cX4_classesNamed 58 = .ok (.ishl, 1) := by decide +kernel
theorem dX4_classesNamed_59 : decode cX4_classesNamed 59 = .ok (.ior, 1) := by decide +kernel
theorem dX4_classesNamed_60 : decode cX4_classesNamed 60 = .ok (.istore 4, 2) := by decide +kernel
theorem dX4_classesNamed_62 : decode cX4_classesNamed 62 = .ok (.iinc 5 1, 3) := by decide +kernel
theorem dX4_classesNamed_65 : decode cX4_classesNamed 65 = .ok (.goto (-59), 3) := by decide +kernel
theorem dX4_classesNamed_68 : decode cX4_classesNamed 68 = .ok (.iload 4, 2) := by decide +kernel
theorem dX4_classesNamed_70 : decode cX4_classesNamed 70 = .ok (.ireturn, 1) := by decide +kernel
theorem dX4_compare_0 : decode cX4_compare 0 = .ok (.iload_n 2, 1) := by decide +kernel
theorem dX4_compare_1 : decode cX4_compare 1 = .ok (.invokestatic 211, 3) := by decide +kernel
theorem dX4_compare_4 : decode cX4_compare 4 = .ok (.ifCond .eq 14, 3) := by decide +kernel
theorem dX4_compare_7 : decode cX4_compare 7 = .ok (.iload_n 3, 1) := by decide +kernel
theorem dX4_compare_8 : decode cX4_compare 8 = .ok (.invokestatic 211, 3) := by decide +kernel
theorem dX4_compare_11 : decode cX4_compare 11 = .ok (.ifCond .eq 7, 3) := by decide +kernel
theorem dX4_compare_14 : decode cX4_compare 14 = .ok (.iconst 1, 1) := by decide +kernel
theorem dX4_compare_15 : decode cX4_compare 15 = .ok (.goto 4, 3) := by decide +kernel
theorem dX4_compare_18 : decode cX4_compare 18 = .ok (.iconst 0, 1) := by decide +kernel
theorem dX4_compare_19 : decode cX4_compare 19 = .ok (.istore 5, 2) := by decide +kernel
theorem dX4_compare_21 : decode cX4_compare 21 = .ok (.iload_n 2, 1) := by decide +kernel
theorem dX4_compare_22 : decode cX4_compare 22 = .ok (.iconst 4, 1) := by decide +kernel
theorem dX4_compare_23 : decode cX4_compare 23 = .ok (.if_icmp .eq 13, 3) := by decide +kernel
theorem dX4_compare_26 : decode cX4_compare 26 = .ok (.iload_n 2, 1) := by decide +kernel
theorem dX4_compare_27 : decode cX4_compare 27 = .ok (.iload_n 3, 1) := by decide +kernel
theorem dX4_compare_28 : decode cX4_compare 28 = .ok (.if_icmp .eq 15, 3) := by decide +kernel
theorem dX4_compare_31 : decode cX4_compare 31 = .ok (.iload 5, 2) := by decide +kernel
theorem dX4_compare_33 : decode cX4_compare 33 = .ok (.ifCond .ne 10, 3) := by decide +kernel
theorem dX4_compare_36 : decode cX4_compare 36 = .ok (.aload_n 0, 1) := by decide +kernel
theorem dX4_compare_37 : decode cX4_compare 37 = .ok (.iconst 4, 1) := by decide +kernel
theorem dX4_compare_38 : decode cX4_compare 38 = .ok (.lconst 0, 1) := by decide +kernel
theorem dX4_compare_39 : decode cX4_compare 39 = .ok (.invokevirtual 139, 3) := by decide +kernel
theorem dX4_compare_42 : decode cX4_compare 42 = .ok (.return_, 1) := by decide +kernel
theorem dX4_compare_43 : decode cX4_compare 43 = .ok (.aload_n 0, 1) := by decide +kernel
theorem dX4_compare_44 : decode cX4_compare 44 = .ok (.iload_n 2, 1) := by decide +kernel
theorem dX4_compare_45 : decode cX4_compare 45 = .ok (.iload_n 3, 1) := by decide +kernel
theorem dX4_compare_46 : decode cX4_compare 46 = .ok (.if_icmp .ne 12, 3) := by decide +kernel
theorem dX4_compare_49 : decode cX4_compare 49 = .ok (.iload 4, 2) := by decide +kernel
theorem dX4_compare_51 : decode cX4_compare 51 = .ok (.ifCond .eq 7, 3) := by decide +kernel
theorem dX4_compare_54 : decode cX4_compare 54 = .ok (.iconst 1, 1) := by decide +kernel
theorem dX4_compare_55 : decode cX4_compare 55 = .ok (.goto 4, 3) := by decide +kernel
theorem dX4_compare_58 : decode cX4_compare 58 = .ok (.iconst 0, 1) := by decide +kernel
theorem dX4_compare_59 : decode cX4_compare 59 = .ok (.iload_n 1, 1) := by decide +kernel
theorem dX4_compare_60 : decode cX4_compare 60 = .ok (.bipush 16, 2) := by decide +kernel
theorem dX4_compare_62 : decode cX4_compare 62 = .ok (.if_icmp .ne 7, 3) := by decide +kernel
theorem dX4_compare_65 : decode cX4_compare 65 = .ok (.iconst 1, 1) := by decide +kernel
theorem dX4_compare_66 : decode cX4_compare 66 = .ok (.goto 4, 3) := by decide +kernel
theorem dX4_compare_69 : decode cX4_compare 69 = .ok (.iconst 0, 1) := by decide +kernel
theorem dX4_compare_70 : decode cX4_compare 70 = .ok (.if_icmp .ne 7, 3) := by decide +kernel
theorem dX4_compare_73 : decode cX4_compare 73 = .ok (.iconst 1, 1) := by decide +kernel
theorem dX4_compare_74 : decode cX4_compare 74 = .ok (.goto 4, 3) := by decide +kernel
theorem dX4_compare_77 : decode cX4_compare 77 = .ok (.iconst 0, 1) := by decide +kernel
theorem dX4_compare_78 : decode cX4_compare 78 = .ok (.invokevirtual 148, 3) := by decide +kernel
theorem dX4_compare_81 : decode cX4_compare 81 = .ok (.return_, 1) := by decide +kernel
theorem dX4_decide_0 : decode cX4_decide 0 = .ok (.aload_n 0, 1) := by decide +kernel
theorem dX4_decide_1 : decode cX4_decide 1 = .ok (.getfield 67, 3) := by decide +kernel
theorem dX4_decide_4 : decode cX4_decide 4 = .ok (.ifCond .ne 7, 3) := by decide +kernel
theorem dX4_decide_7 : decode cX4_decide 7 = .ok (.iload_n 1, 1) := by decide +kernel
theorem dX4_decide_8 : decode cX4_decide 8 = .ok (.iconst 1, 1) := by decide +kernel
theorem dX4_decide_9 : decode cX4_decide 9 = .ok (.iadd, 1) := by decide +kernel
theorem dX4_decide_10 : decode cX4_decide 10 = .ok (.ireturn, 1) := by decide +kernel
theorem dX4_decide_11 : decode cX4_decide 11 = .ok (.aload_n 0, 1) := by decide +kernel
theorem dX4_decide_12 : decode cX4_decide 12 = .ok (.getfield 19, 3) := by decide +kernel
theorem dX4_decide_15 : decode cX4_decide 15 = .ok (.aload_n 0, 1) := by decide +kernel
theorem dX4_decide_16 : decode cX4_decide 16 = .ok (.getfield 67, 3) := by decide +kernel
theorem dX4_decide_19 : decode cX4_decide 19 = .ok (.iconst 1, 1) := by decide +kernel
theorem dX4_decide_20 : decode cX4_decide 20 = .ok (.isub, 1) := by decide +kernel
theorem dX4_decide_21 : decode cX4_decide 21 = .ok (.iaload, 1) := by decide +kernel
theorem dX4_decide_22 : decode cX4_decide 22 = .ok (.iconst 1, 1) := by decide +kernel
theorem dX4_decide_23 : decode cX4_decide 23 = .ok (.if_icmp .eq 29, 3) := by decide +kernel
theorem dX4_decide_26 : decode cX4_decide 26 = .ok (.aload_n 0, 1) := by decide +kernel
theorem dX4_decide_27 : decode cX4_decide 27 = .ok (.dup, 1) := by decide +kernel
theorem dX4_decide_28 : decode cX4_decide 28 = .ok (.getfield 67, 3) := by decide +kernel
theorem dX4_decide_31 : decode cX4_decide 31 = .ok (.iconst 1, 1) := by decide +kernel
theorem dX4_decide_32 : decode cX4_decide 32 = .ok (.isub, 1) := by decide +kernel
theorem dX4_decide_33 : decode cX4_decide 33 = .ok (.putfield 67, 3) := by decide +kernel
theorem dX4_decide_36 : decode cX4_decide 36 = .ok (.aload_n 0, 1) := by decide +kernel
theorem dX4_decide_37 : decode cX4_decide 37 = .ok (.iconst 4, 1) := by decide +kernel
theorem dX4_decide_38 : decode cX4_decide 38 = .ok (.lconst 0, 1) := by decide +kernel
theorem dX4_decide_39 : decode cX4_decide 39 = .ok (.invokevirtual 139, 3) := by decide +kernel
theorem dX4_decide_42 : decode cX4_decide 42 = .ok (.aload_n 0, 1) := by decide +kernel
theorem dX4_decide_43 : decode cX4_decide 43 = .ok (.getfield 75, 3) := by decide +kernel
theorem dX4_decide_46 : decode cX4_decide 46 = .ok (.getfield 260, 3) := by decide +kernel
theorem dX4_decide_49 : decode cX4_decide 49 = .ok (.iload_n 1, 1) := by decide +kernel
theorem dX4_decide_50 : decode cX4_decide 50 = .ok (.iaload, 1) := by decide +kernel
theorem dX4_decide_51 : decode cX4_decide 51 = .ok (.ireturn, 1) := by decide +kernel
theorem dX4_decide_52 : decode cX4_decide 52 = .ok (.aload_n 0, 1) := by decide +kernel
theorem dX4_decide_53 : decode cX4_decide 53 = .ok (.getfield 23, 3) := by decide +kernel
theorem dX4_decide_56 : decode cX4_decide 56 = .ok (.aload_n 0, 1) := by decide +kernel
theorem dX4_decide_57 : decode cX4_decide 57 = .ok (.getfield 67, 3) := by decide +kernel
theorem dX4_decide_60 : decode cX4_decide 60 = .ok (.iconst 1, 1) := by decide +kernel
theorem dX4_decide_61 : decode cX4_decide 61 = .ok (.isub, 1) := by decide +kernel
theorem dX4_decide_62 : decode cX4_decide 62 = .ok (.laload, 1) := by decide +kernel
theorem dX4_decide_63 : decode cX4_decide 63 = .ok (.lload_n 2, 1) := by decide +kernel
theorem dX4_decide_64 : decode cX4_decide 64 = .ok (.lcmp, 1) := by decide +kernel
theorem dX4_decide_65 : decode cX4_decide 65 = .ok (.ifCond .ne 13, 3) := by decide +kernel
theorem dX4_decide_68 : decode cX4_decide 68 = .ok (.aload_n 0, 1) := by decide +kernel
theorem dX4_decide_69 : decode cX4_decide 69 = .ok (.getfield 75, 3) := by decide +kernel
theorem dX4_decide_72 : decode cX4_decide 72 = .ok (.getfield 260, 3) := by decide +kernel
theorem dX4_decide_75 : decode cX4_decide 75 = .ok (.iload_n 1, 1) := by decide +kernel
theorem dX4_decide_76 : decode cX4_decide 76 = .ok (.iaload, 1) := by decide +kernel
theorem dX4_decide_77 : decode cX4_decide 77 = .ok (.ireturn, 1) := by decide +kernel
theorem dX4_decide_78 : decode cX4_decide 78 = .ok (.aload_n 0, 1) := by decide +kernel
theorem dX4_decide_79 : decode cX4_decide 79 = .ok (.dup, 1) := by decide +kernel
theorem dX4_decide_80 : decode cX4_decide 80 = .ok (.getfield 67, 3) := by decide +kernel
theorem dX4_decide_83 : decode cX4_decide 83 = .ok (.iconst 1, 1) := by decide +kernel
theorem dX4_decide_84 : decode cX4_decide 84 = .ok (.isub, 1) := by decide +kernel
theorem dX4_decide_85 : decode cX4_decide 85 = .ok (.putfield 67, 3) := by decide +kernel
theorem dX4_decide_88 : decode cX4_decide 88 = .ok (.iload_n 1, 1) := by decide +kernel
theorem dX4_decide_89 : decode cX4_decide 89 = .ok (.iconst 1, 1) := by decide +kernel
theorem dX4_decide_90 : decode cX4_decide 90 = .ok (.iadd, 1) := by decide +kernel
theorem dX4_decide_91 : decode cX4_decide 91 = .ok (.ireturn, 1) := by decide +kernel
theorem dX4_divide_0 : decode cX4_divide 0 = .ok (.lload 4, 2) := by decide +kernel
theorem dX4_divide_2 : decode cX4_divide 2 = .ok (.lconst 0, 1) := by decide +kernel
theorem dX4_divide_3 : decode cX4_divide 3 = .ok (.lcmp, 1) := by decide +kernel
theorem dX4_divide_4 : decode cX4_divide 4 = .ok (.ifCond .ne 12, 3) := by decide +kernel
theorem dX4_divide_7 : decode cX4_divide 7 = .ok (.aload_n 0, 1) := by decide +kernel
theorem dX4_divide_8 : decode cX4_divide 8 = .ok (.iconst 4, 1) := by decide +kernel
theorem dX4_divide_9 : decode cX4_divide 9 = .ok (.lconst 0, 1) := by decide +kernel
theorem dX4_divide_10 : decode cX4_divide 10 = .ok (.invokevirtual 139, 3) := by decide +kernel
theorem dX4_divide_13 : decode cX4_divide 13 = .ok (.goto 25, 3) := by decide +kernel
theorem dX4_divide_16 : decode cX4_divide 16 = .ok (.aload_n 0, 1) := by decide +kernel
theorem dX4_divide_17 : decode cX4_divide 17 = .ok (.iconst 0, 1) := by decide +kernel
theorem dX4_divide_18 : decode cX4_divide 18 = .ok (.iload_n 1, 1) := by decide +kernel
theorem dX4_divide_19 : decode cX4_divide 19 = .ok (.bipush 25, 2) := by decide +kernel
theorem dX4_divide_21 : decode cX4_divide 21 = .ok (.if_icmp .ne 10, 3) := by decide +kernel
theorem dX4_divide_24 : decode cX4_divide 24 = .ok (.lload_n 2, 1) := by decide +kernel
theorem dX4_divide_25 : decode cX4_divide 25 = .ok (.lload 4, 2) := by decide +kernel
theorem dX4_divide_27 : decode cX4_divide 27 = .ok (.ldiv, 1) := by decide +kernel
theorem dX4_divide_28 : decode cX4_divide 28 = .ok (.goto 7, 3) := by decide +kernel
theorem dX4_divide_31 : decode cX4_divide 31 = .ok (.lload_n 2, 1) := by decide +kernel
theorem dX4_divide_32 : decode cX4_divide 32 = .ok (.lload 4, 2) := by decide +kernel
theorem dX4_divide_34 : decode cX4_divide 34 = .ok (.lrem, 1) := by decide +kernel
theorem dX4_divide_35 : decode cX4_divide 35 = .ok (.invokevirtual 139, 3) := by decide +kernel
theorem dX4_divide_38 : decode cX4_divide 38 = .ok (.return_, 1) := by decide +kernel
theorem dX4_doLeaf_0 : decode cX4_doLeaf 0 = .ok (.aload_n 0, 1) := by decide +kernel
theorem dX4_doLeaf_1 : decode cX4_doLeaf 1 = .ok (.getfield 75, 3) := by decide +kernel
theorem dX4_doLeaf_4 : decode cX4_doLeaf 4 = .ok (.getfield 145, 3) := by decide +kernel
theorem dX4_doLeaf_7 : decode cX4_doLeaf 7 = .ok (.iload_n 2, 1) := by decide +kernel
theorem dX4_doLeaf_8 : decode cX4_doLeaf 8 = .ok (.iaload, 1) := by decide +kernel
theorem dX4_doLeaf_9 : decode cX4_doLeaf 9 = .ok (.istore_n 3, 1) := by decide +kernel
theorem dX4_doLeaf_10 : decode cX4_doLeaf 10 = .ok (.aload_n 0, 1) := by decide +kernel
theorem dX4_doLeaf_11 : decode cX4_doLeaf 11 = .ok (.getfield 75, 3) := by decide +kernel
theorem dX4_doLeaf_14 : decode cX4_doLeaf 14 = .ok (.getfield 121, 3) := by decide +kernel
theorem dX4_doLeaf_17 : decode cX4_doLeaf 17 = .ok (.iload_n 2, 1) := by decide +kernel
theorem dX4_doLeaf_18 : decode cX4_doLeaf 18 = .ok (.laload, 1) := by decide +kernel
theorem dX4_doLeaf_19 : decode cX4_doLeaf 19 = .ok (.lstore 4, 2) := by decide +kernel
theorem dX4_doLeaf_21 : decode cX4_doLeaf 21 = .ok (.iload_n 1, 1) := by decide +kernel
theorem dX4_doLeaf_22 : decode cX4_doLeaf 22 = .ok (.tableswitch 97 0 5 #[38, 48, 57, 65, 73, 82], 38) := by decide +kernel
theorem dX4_doLeaf_60 : decode cX4_doLeaf 60 = .ok (.aload_n 0, 1) := by decide +kernel
theorem dX4_doLeaf_61 : decode cX4_doLeaf 61 = .ok (.iconst 0, 1) := by decide +kernel
theorem dX4_doLeaf_62 : decode cX4_doLeaf 62 = .ok (.lload 4, 2) := by decide +kernel
theorem dX4_doLeaf_64 : decode cX4_doLeaf 64 = .ok (.invokevirtual 139, 3) := by decide +kernel
theorem dX4_doLeaf_67 : decode cX4_doLeaf 67 = .ok (.goto 66, 3) := by decide +kernel
theorem dX4_doLeaf_70 : decode cX4_doLeaf 70 = .ok (.aload_n 0, 1) := by decide +kernel
theorem dX4_doLeaf_71 : decode cX4_doLeaf 71 = .ok (.iconst 3, 1) := by decide +kernel
theorem dX4_doLeaf_72 : decode cX4_doLeaf 72 = .ok (.lconst 0, 1) := by decide +kernel
theorem dX4_doLeaf_73 : decode cX4_doLeaf 73 = .ok (.invokevirtual 139, 3) := by decide +kernel
theorem dX4_doLeaf_76 : decode cX4_doLeaf 76 = .ok (.goto 57, 3) := by decide +kernel
theorem dX4_doLeaf_79 : decode cX4_doLeaf 79 = .ok (.aload_n 0, 1) := by decide +kernel
theorem dX4_doLeaf_80 : decode cX4_doLeaf 80 = .ok (.iconst 1, 1) := by decide +kernel
theorem dX4_doLeaf_81 : decode cX4_doLeaf 81 = .ok (.invokevirtual 148, 3) := by decide +kernel
theorem dX4_doLeaf_84 : decode cX4_doLeaf 84 = .ok (.goto 49, 3) := by decide +kernel
theorem dX4_doLeaf_87 : decode cX4_doLeaf 87 = .ok (.aload_n 0, 1) := by decide +kernel
theorem dX4_doLeaf_88 : decode cX4_doLeaf 88 = .ok (.iconst 0, 1) := by decide +kernel
theorem dX4_doLeaf_89 : decode cX4_doLeaf 89 = .ok (.invokevirtual 148, 3) := by decide +kernel
theorem dX4_doLeaf_92 : decode cX4_doLeaf 92 = .ok (.goto 41, 3) := by decide +kernel
theorem dX4_doLeaf_95 : decode cX4_doLeaf 95 = .ok (.aload_n 0, 1) := by decide +kernel
theorem dX4_doLeaf_96 : decode cX4_doLeaf 96 = .ok (.lload 4, 2) := by decide +kernel
theorem dX4_doLeaf_98 : decode cX4_doLeaf 98 = .ok (.invokevirtual 152, 3) := by decide +kernel
theorem dX4_doLeaf_101 : decode cX4_doLeaf 101 = .ok (.goto 32, 3) := by decide +kernel
theorem dX4_doLeaf_104 : decode cX4_doLeaf 104 = .ok (.aload_n 0, 1) := by decide +kernel
theorem dX4_doLeaf_105 : decode cX4_doLeaf 105 = .ok (.iconst 2, 1) := by decide +kernel
theorem dX4_doLeaf_106 : decode cX4_doLeaf 106 = .ok (.aload_n 0, 1) := by decide +kernel
theorem dX4_doLeaf_107 : decode cX4_doLeaf 107 = .ok (.getfield 39, 3) := by decide +kernel
theorem dX4_doLeaf_110 : decode cX4_doLeaf 110 = .ok (.iload_n 3, 1) := by decide +kernel
theorem dX4_doLeaf_111 : decode cX4_doLeaf 111 = .ok (.iaload, 1) := by decide +kernel
theorem dX4_doLeaf_112 : decode cX4_doLeaf 112 = .ok (.i2l, 1) := by decide +kernel
theorem dX4_doLeaf_113 : decode cX4_doLeaf 113 = .ok (.invokevirtual 139, 3) := by decide +kernel
theorem dX4_doLeaf_116 : decode cX4_doLeaf 116 = .ok (.goto 17, 3) := by decide +kernel
theorem dX4_doLeaf_119 : decode cX4_doLeaf 119 = .ok (.aload_n 0, 1) := by decide +kernel
theorem dX4_doLeaf_120 : decode cX4_doLeaf 120 = .ok (.getfield 42, 3) := by decide +kernel
theorem dX4_doLeaf_123 : decode cX4_doLeaf 123 = .ok (.iload_n 3, 1) := by decide +kernel
theorem dX4_doLeaf_124 : decode cX4_doLeaf 124 = .ok (.lconst 0, 1) := by decide +kernel
theorem dX4_doLeaf_125 : decode cX4_doLeaf 125 = .ok (.lastore, 1) := by decide +kernel
theorem dX4_doLeaf_126 : decode cX4_doLeaf 126 = .ok (.aload_n 0, 1) := by decide +kernel
theorem dX4_doLeaf_127 : decode cX4_doLeaf 127 = .ok (.getfield 45, 3) := by decide +kernel
theorem dX4_doLeaf_130 : decode cX4_doLeaf 130 = .ok (.iload_n 3, 1) := by decide +kernel
theorem dX4_doLeaf_131 : decode cX4_doLeaf 131 = .ok (.iconst 0, 1) := by decide +kernel
theorem dX4_doLeaf_132 : decode cX4_doLeaf 132 = .ok (.bastore, 1) := by decide +kernel
theorem dX4_doLeaf_133 : decode cX4_doLeaf 133 = .ok (.return_, 1) := by decide +kernel
theorem dX4_doOne_0 : decode cX4_doOne 0 = .ok (.aload_n 0, 1) := by decide +kernel
theorem dX4_doOne_1 : decode cX4_doOne 1 = .ok (.getfield 67, 3) := by decide +kernel
theorem dX4_doOne_4 : decode cX4_doOne 4 = .ok (.ifCond .ne 4, 3) := by decide +kernel
theorem dX4_doOne_7 : decode cX4_doOne 7 = .ok (.return_, 1) := by decide +kernel
theorem dX4_doOne_8 : decode cX4_doOne 8 = .ok (.aload_n 0, 1) := by decide +kernel
theorem dX4_doOne_9 : decode cX4_doOne 9 = .ok (.dup, 1) := by decide +kernel
theorem dX4_doOne_10 : decode cX4_doOne 10 = .ok (.getfield 67, 3) := by decide +kernel
theorem dX4_doOne_13 : decode cX4_doOne 13 = .ok (.iconst 1, 1) := by decide +kernel
theorem dX4_doOne_14 : decode cX4_doOne 14 = .ok (.isub, 1) := by decide +kernel
theorem dX4_doOne_15 : decode cX4_doOne 15 = .ok (.putfield 67, 3) := by decide +kernel
theorem dX4_doOne_18 : decode cX4_doOne 18 = .ok (.aload_n 0, 1) := by decide +kernel
theorem dX4_doOne_19 : decode cX4_doOne 19 = .ok (.getfield 19, 3) := by decide +kernel
theorem dX4_doOne_22 : decode cX4_doOne 22 = .ok (.aload_n 0, 1) := by decide +kernel
theorem dX4_doOne_23 : decode cX4_doOne 23 = .ok (.getfield 67, 3) := by decide +kernel
theorem dX4_doOne_26 : decode cX4_doOne 26 = .ok (.iaload, 1) := by decide +kernel
theorem dX4_doOne_27 : decode cX4_doOne 27 = .ok (.istore 4, 2) := by decide +kernel
theorem dX4_doOne_29 : decode cX4_doOne 29 = .ok (.aload_n 0, 1) := by decide +kernel
theorem dX4_doOne_30 : decode cX4_doOne 30 = .ok (.getfield 23, 3) := by decide +kernel
theorem dX4_doOne_33 : decode cX4_doOne 33 = .ok (.aload_n 0, 1) := by decide +kernel
theorem dX4_doOne_34 : decode cX4_doOne 34 = .ok (.getfield 67, 3) := by decide +kernel
theorem dX4_doOne_37 : decode cX4_doOne 37 = .ok (.laload, 1) := by decide +kernel
theorem dX4_doOne_38 : decode cX4_doOne 38 = .ok (.lstore 5, 2) := by decide +kernel
theorem dX4_doOne_40 : decode cX4_doOne 40 = .ok (.iload_n 1, 1) := by decide +kernel
theorem dX4_doOne_41 : decode cX4_doOne 41 = .ok (.bipush 12, 2) := by decide +kernel
theorem dX4_doOne_43 : decode cX4_doOne 43 = .ok (.if_icmp .ne 19, 3) := by decide +kernel
theorem dX4_doOne_46 : decode cX4_doOne 46 = .ok (.iload 4, 2) := by decide +kernel
theorem dX4_doOne_48 : decode cX4_doOne 48 = .ok (.ifCond .ne 14, 3) := by decide +kernel
theorem dX4_doOne_51 : decode cX4_doOne 51 = .ok (.aload_n 0, 1) := by decide +kernel
theorem dX4_doOne_52 : decode cX4_doOne 52 = .ok (.iconst 0, 1) := by decide +kernel
theorem dX4_doOne_53 : decode cX4_doOne 53 = .ok (.lload 5, 2) := by decide +kernel
theorem dX4_doOne_55 : decode cX4_doOne 55 = .ok (.lneg, 1) := by decide +kernel
theorem dX4_doOne_56 : decode cX4_doOne 56 = .ok (.invokevirtual 139, 3) := by decide +kernel
theorem dX4_doOne_59 : decode cX4_doOne 59 = .ok (.goto 70, 3) := by decide +kernel
theorem dX4_doOne_62 : decode cX4_doOne 62 = .ok (.iload_n 1, 1) := by decide +kernel
theorem dX4_doOne_63 : decode cX4_doOne 63 = .ok (.bipush 13, 2) := by decide +kernel
theorem dX4_doOne_65 : decode cX4_doOne 65 = .ok (.if_icmp .ne 28, 3) := by decide +kernel
theorem dX4_doOne_68 : decode cX4_doOne 68 = .ok (.iload 4, 2) := by decide +kernel
theorem dX4_doOne_70 : decode cX4_doOne 70 = .ok (.iconst 1, 1) := by decide +kernel
theorem dX4_doOne_71 : decode cX4_doOne 71 = .ok (.if_icmp .ne 22, 3) := by decide +kernel
theorem dX4_doOne_74 : decode cX4_doOne 74 = .ok (.aload_n 0, 1) := by decide +kernel
theorem dX4_doOne_75 : decode cX4_doOne 75 = .ok (.lload 5, 2) := by decide +kernel
theorem dX4_doOne_77 : decode cX4_doOne 77 = .ok (.lconst 0, 1) := by decide +kernel
theorem dX4_doOne_78 : decode cX4_doOne 78 = .ok (.lcmp, 1) := by decide +kernel
theorem dX4_doOne_79 : decode cX4_doOne 79 = .ok (.ifCond .ne 7, 3) := by decide +kernel
theorem dX4_doOne_82 : decode cX4_doOne 82 = .ok (.iconst 1, 1) := by decide +kernel
theorem dX4_doOne_83 : decode cX4_doOne 83 = .ok (.goto 4, 3) := by decide +kernel
theorem dX4_doOne_86 : decode cX4_doOne 86 = .ok (.iconst 0, 1) := by decide +kernel
theorem dX4_doOne_87 : decode cX4_doOne 87 = .ok (.invokevirtual 148, 3) := by decide +kernel
theorem dX4_doOne_90 : decode cX4_doOne 90 = .ok (.goto 39, 3) := by decide +kernel
theorem dX4_doOne_93 : decode cX4_doOne 93 = .ok (.iload_n 1, 1) := by decide +kernel
theorem dX4_doOne_94 : decode cX4_doOne 94 = .ok (.bipush 12, 2) := by decide +kernel
theorem dX4_doOne_96 : decode cX4_doOne 96 = .ok (.if_icmp .eq 27, 3) := by decide +kernel
theorem dX4_doOne_99 : decode cX4_doOne 99 = .ok (.iload_n 1, 1) := by decide +kernel
theorem dX4_doOne_100 : decode cX4_doOne 100 = .ok (.bipush 13, 2) := by decide +kernel
theorem dX4_doOne_102 : decode cX4_doOne 102 = .ok (.if_icmp .eq 21, 3) := by decide +kernel
theorem dX4_doOne_105 : decode cX4_doOne 105 = .ok (.iload 4, 2) := by decide +kernel
theorem dX4_doOne_107 : decode cX4_doOne 107 = .ok (.iconst 2, 1) := by decide +kernel
theorem dX4_doOne_108 : decode cX4_doOne 108 = .ok (.if_icmp .ne 15, 3) := by decide +kernel
theorem dX4_doOne_111 : decode cX4_doOne 111 = .ok (.aload_n 0, 1) := by decide +kernel
theorem dX4_doOne_112 : decode cX4_doOne 112 = .ok (.iload_n 1, 1) := by decide +kernel
theorem dX4_doOne_113 : decode cX4_doOne 113 = .ok (.lload 5, 2) := by decide +kernel
theorem dX4_doOne_115 : decode cX4_doOne 115 = .ok (.l2i, 1) := by decide +kernel
theorem dX4_doOne_116 : decode cX4_doOne 116 = .ok (.lload_n 2, 1) := by decide +kernel
theorem dX4_doOne_117 : decode cX4_doOne 117 = .ok (.invokevirtual 156, 3) := by decide +kernel
theorem dX4_doOne_120 : decode cX4_doOne 120 = .ok (.goto 9, 3) := by decide +kernel
theorem dX4_doOne_123 : decode cX4_doOne 123 = .ok (.aload_n 0, 1) := by decide +kernel
theorem dX4_doOne_124 : decode cX4_doOne 124 = .ok (.iconst 4, 1) := by decide +kernel
theorem dX4_doOne_125 : decode cX4_doOne 125 = .ok (.lconst 0, 1) := by decide +kernel
theorem dX4_doOne_126 : decode cX4_doOne 126 = .ok (.invokevirtual 139, 3) := by decide +kernel
theorem dX4_doOne_129 : decode cX4_doOne 129 = .ok (.return_, 1) := by decide +kernel
theorem dX4_doTwo_0 : decode cX4_doTwo 0 = .ok (.aload_n 0, 1) := by decide +kernel
theorem dX4_doTwo_1 : decode cX4_doTwo 1 = .ok (.getfield 67, 3) := by decide +kernel
theorem dX4_doTwo_4 : decode cX4_doTwo 4 = .ok (.iconst 2, 1) := by decide +kernel
theorem dX4_doTwo_5 : decode cX4_doTwo 5 = .ok (.if_icmp .ge 4, 3) := by decide +kernel
theorem dX4_doTwo_8 : decode cX4_doTwo 8 = .ok (.return_, 1) := by decide +kernel
theorem dX4_doTwo_9 : decode cX4_doTwo 9 = .ok (.aload_n 0, 1) := by decide +kernel
theorem dX4_doTwo_10 : decode cX4_doTwo 10 = .ok (.dup, 1) := by decide +kernel
theorem dX4_doTwo_11 : decode cX4_doTwo 11 = .ok (.getfield 67, 3) := by decide +kernel
theorem dX4_doTwo_14 : decode cX4_doTwo 14 = .ok (.iconst 2, 1) := by decide +kernel
theorem dX4_doTwo_15 : decode cX4_doTwo 15 = .ok (.isub, 1) := by decide +kernel
theorem dX4_doTwo_16 : decode cX4_doTwo 16 = .ok (.putfield 67, 3) := by decide +kernel
theorem dX4_doTwo_19 : decode cX4_doTwo 19 = .ok (.aload_n 0, 1) := by decide +kernel
theorem dX4_doTwo_20 : decode cX4_doTwo 20 = .ok (.getfield 19, 3) := by decide +kernel
theorem dX4_doTwo_23 : decode cX4_doTwo 23 = .ok (.aload_n 0, 1) := by decide +kernel
theorem dX4_doTwo_24 : decode cX4_doTwo 24 = .ok (.getfield 67, 3) := by decide +kernel
theorem dX4_doTwo_27 : decode cX4_doTwo 27 = .ok (.iaload, 1) := by decide +kernel
theorem dX4_doTwo_28 : decode cX4_doTwo 28 = .ok (.istore_n 2, 1) := by decide +kernel
theorem dX4_doTwo_29 : decode cX4_doTwo 29 = .ok (.aload_n 0, 1) := by decide +kernel
theorem dX4_doTwo_30 : decode cX4_doTwo 30 = .ok (.getfield 19, 3) := by decide +kernel
theorem dX4_doTwo_33 : decode cX4_doTwo 33 = .ok (.aload_n 0, 1) := by decide +kernel
theorem dX4_doTwo_34 : decode cX4_doTwo 34 = .ok (.getfield 67, 3) := by decide +kernel
theorem dX4_doTwo_37 : decode cX4_doTwo 37 = .ok (.iconst 1, 1) := by decide +kernel
theorem dX4_doTwo_38 : decode cX4_doTwo 38 = .ok (.iadd, 1) := by decide +kernel
theorem dX4_doTwo_39 : decode cX4_doTwo 39 = .ok (.iaload, 1) := by decide +kernel
theorem dX4_doTwo_40 : decode cX4_doTwo 40 = .ok (.istore_n 3, 1) := by decide +kernel
theorem dX4_doTwo_41 : decode cX4_doTwo 41 = .ok (.aload_n 0, 1) := by decide +kernel
theorem dX4_doTwo_42 : decode cX4_doTwo 42 = .ok (.getfield 23, 3) := by decide +kernel
theorem dX4_doTwo_45 : decode cX4_doTwo 45 = .ok (.aload_n 0, 1) := by decide +kernel
theorem dX4_doTwo_46 : decode cX4_doTwo 46 = .ok (.getfield 67, 3) := by decide +kernel
theorem dX4_doTwo_49 : decode cX4_doTwo 49 = .ok (.laload, 1) := by decide +kernel
theorem dX4_doTwo_50 : decode cX4_doTwo 50 = .ok (.lstore 4, 2) := by decide +kernel
theorem dX4_doTwo_52 : decode cX4_doTwo 52 = .ok (.aload_n 0, 1) := by decide +kernel
theorem dX4_doTwo_53 : decode cX4_doTwo 53 = .ok (.getfield 23, 3) := by decide +kernel
theorem dX4_doTwo_56 : decode cX4_doTwo 56 = .ok (.aload_n 0, 1) := by decide +kernel
theorem dX4_doTwo_57 : decode cX4_doTwo 57 = .ok (.getfield 67, 3) := by decide +kernel
theorem dX4_doTwo_60 : decode cX4_doTwo 60 = .ok (.iconst 1, 1) := by decide +kernel
theorem dX4_doTwo_61 : decode cX4_doTwo 61 = .ok (.iadd, 1) := by decide +kernel
theorem dX4_doTwo_62 : decode cX4_doTwo 62 = .ok (.laload, 1) := by decide +kernel
theorem dX4_doTwo_63 : decode cX4_doTwo 63 = .ok (.lstore 6, 2) := by decide +kernel
theorem dX4_doTwo_65 : decode cX4_doTwo 65 = .ok (.iload_n 1, 1) := by decide +kernel
theorem dX4_doTwo_66 : decode cX4_doTwo 66 = .ok (.bipush 16, 2) := by decide +kernel
theorem dX4_doTwo_68 : decode cX4_doTwo 68 = .ok (.if_icmp .eq 9, 3) := by decide +kernel
theorem dX4_doTwo_71 : decode cX4_doTwo 71 = .ok (.iload_n 1, 1) := by decide +kernel
theorem dX4_doTwo_72 : decode cX4_doTwo 72 = .ok (.bipush 17, 2) := by decide +kernel
theorem dX4_doTwo_74 : decode cX4_doTwo 74 = .ok (.if_icmp .ne 26, 3) := by decide +kernel
theorem dX4_doTwo_77 : decode cX4_doTwo 77 = .ok (.aload_n 0, 1) := by decide +kernel
theorem dX4_doTwo_78 : decode cX4_doTwo 78 = .ok (.iload_n 1, 1) := by decide +kernel
theorem dX4_doTwo_79 : decode cX4_doTwo 79 = .ok (.iload_n 2, 1) := by decide +kernel
theorem dX4_doTwo_80 : decode cX4_doTwo 80 = .ok (.iload_n 3, 1) := by decide +kernel
theorem dX4_doTwo_81 : decode cX4_doTwo 81 = .ok (.lload 4, 2) := by decide +kernel
theorem dX4_doTwo_83 : decode cX4_doTwo 83 = .ok (.lload 6, 2) := by decide +kernel
theorem dX4_doTwo_85 : decode cX4_doTwo 85 = .ok (.lcmp, 1) := by decide +kernel
theorem dX4_doTwo_86 : decode cX4_doTwo 86 = .ok (.ifCond .ne 7, 3) := by decide +kernel
theorem dX4_doTwo_89 : decode cX4_doTwo 89 = .ok (.iconst 1, 1) := by decide +kernel
theorem dX4_doTwo_90 : decode cX4_doTwo 90 = .ok (.goto 4, 3) := by decide +kernel
theorem dX4_doTwo_93 : decode cX4_doTwo 93 = .ok (.iconst 0, 1) := by decide +kernel
theorem dX4_doTwo_94 : decode cX4_doTwo 94 = .ok (.invokevirtual 200, 3) := by decide +kernel
theorem dX4_doTwo_97 : decode cX4_doTwo 97 = .ok (.goto 67, 3) := by decide +kernel
theorem dX4_doTwo_100 : decode cX4_doTwo 100 = .ok (.iload_n 3, 1) := by decide +kernel
theorem dX4_doTwo_101 : decode cX4_doTwo 101 = .ok (.ifCond .eq 12, 3) := by decide +kernel
theorem dX4_doTwo_104 : decode cX4_doTwo 104 = .ok (.aload_n 0, 1) := by decide +kernel
theorem dX4_doTwo_105 : decode cX4_doTwo 105 = .ok (.iconst 4, 1) := by decide +kernel
theorem dX4_doTwo_106 : decode cX4_doTwo 106 = .ok (.lconst 0, 1) := by decide +kernel
theorem dX4_doTwo_107 : decode cX4_doTwo 107 = .ok (.invokevirtual 139, 3) := by decide +kernel
theorem dX4_doTwo_110 : decode cX4_doTwo 110 = .ok (.goto 54, 3) := by decide +kernel
theorem dX4_doTwo_113 : decode cX4_doTwo 113 = .ok (.iload_n 1, 1) := by decide +kernel
theorem dX4_doTwo_114 : decode cX4_doTwo 114 = .ok (.bipush 15, 2) := by decide +kernel
theorem dX4_doTwo_116 : decode cX4_doTwo 116 = .ok (.if_icmp .ne 20, 3) := by decide +kernel
theorem dX4_doTwo_119 : decode cX4_doTwo 119 = .ok (.iload_n 2, 1) := by decide +kernel
theorem dX4_doTwo_120 : decode cX4_doTwo 120 = .ok (.iconst 2, 1) := by decide +kernel
theorem dX4_doTwo_121 : decode cX4_doTwo 121 = .ok (.if_icmp .ne 15, 3) := by decide +kernel
theorem dX4_doTwo_124 : decode cX4_doTwo 124 = .ok (.aload_n 0, 1) := by decide +kernel
theorem dX4_doTwo_125 : decode cX4_doTwo 125 = .ok (.lload 4, 2) := by decide +kernel
theorem dX4_doTwo_127 : decode cX4_doTwo 127 = .ok (.l2i, 1) := by decide +kernel
theorem dX4_doTwo_128 : decode cX4_doTwo 128 = .ok (.lload 6, 2) := by decide +kernel
theorem dX4_doTwo_130 : decode cX4_doTwo 130 = .ok (.invokevirtual 204, 3) := by decide +kernel
theorem dX4_doTwo_133 : decode cX4_doTwo 133 = .ok (.goto 31, 3) := by decide +kernel
theorem dX4_doTwo_136 : decode cX4_doTwo 136 = .ok (.iload_n 1, 1) := by decide +kernel
theorem dX4_doTwo_137 : decode cX4_doTwo 137 = .ok (.bipush 15, 2) := by decide +kernel
theorem dX4_doTwo_139 : decode cX4_doTwo 139 = .ok (.if_icmp .eq 19, 3) := by decide +kernel
theorem dX4_doTwo_142 : decode cX4_doTwo 142 = .ok (.iload_n 2, 1) := by decide +kernel
theorem dX4_doTwo_143 : decode cX4_doTwo 143 = .ok (.ifCond .ne 15, 3) := by decide +kernel
theorem dX4_doTwo_146 : decode cX4_doTwo 146 = .ok (.aload_n 0, 1) := by decide +kernel
theorem dX4_doTwo_147 : decode cX4_doTwo 147 = .ok (.iload_n 1, 1) := by decide +kernel
theorem dX4_doTwo_148 : decode cX4_doTwo 148 = .ok (.lload 4, 2) := by decide +kernel
theorem dX4_doTwo_150 : decode cX4_doTwo 150 = .ok (.lload 6, 2) := by decide +kernel
theorem dX4_doTwo_152 : decode cX4_doTwo 152 = .ok (.invokevirtual 207, 3) := by decide +kernel
theorem dX4_doTwo_155 : decode cX4_doTwo 155 = .ok (.goto 9, 3) := by decide +kernel
theorem dX4_doTwo_158 : decode cX4_doTwo 158 = .ok (.aload_n 0, 1) := by decide +kernel
theorem dX4_doTwo_159 : decode cX4_doTwo 159 = .ok (.iconst 4, 1) := by decide +kernel
theorem dX4_doTwo_160 : decode cX4_doTwo 160 = .ok (.lconst 0, 1) := by decide +kernel
theorem dX4_doTwo_161 : decode cX4_doTwo 161 = .ok (.invokevirtual 139, 3) := by decide +kernel
theorem dX4_doTwo_164 : decode cX4_doTwo 164 = .ok (.return_, 1) := by decide +kernel
theorem dX4_execute_0 : decode cX4_execute 0 = .ok (.aload_n 0, 1) := by decide +kernel
theorem dX4_execute_1 : decode cX4_execute 1 = .ok (.getfield 75, 3) := by decide +kernel
theorem dX4_execute_4 : decode cX4_execute 4 = .ok (.getfield 114, 3) := by decide +kernel
theorem dX4_execute_7 : decode cX4_execute 7 = .ok (.iload_n 1, 1) := by decide +kernel
theorem dX4_execute_8 : decode cX4_execute 8 = .ok (.iaload, 1) := by decide +kernel
theorem dX4_execute_9 : decode cX4_execute 9 = .ok (.istore_n 2, 1) := by decide +kernel
theorem dX4_execute_10 : decode cX4_execute 10 = .ok (.iload_n 2, 1) := by decide +kernel
theorem dX4_execute_11 : decode cX4_execute 11 = .ok (.bipush 35, 2) := by decide +kernel
theorem dX4_execute_13 : decode cX4_execute 13 = .ok (.if_icmp .ge 13, 3) := by decide +kernel
theorem dX4_execute_16 : decode cX4_execute 16 = .ok (.aload_n 0, 1) := by decide +kernel
theorem dX4_execute_17 : decode cX4_execute 17 = .ok (.dup, 1) := by decide +kernel
theorem dX4_execute_18 : decode cX4_execute 18 = .ok (.getfield 83, 3) := by decide +kernel
theorem dX4_execute_21 : decode cX4_execute 21 = .ok (.iconst 1, 1) := by decide +kernel
theorem dX4_execute_22 : decode cX4_execute 22 = .ok (.iadd, 1) := by decide +kernel
theorem dX4_execute_23 : decode cX4_execute 23 = .ok (.putfield 83, 3) := by decide +kernel
theorem dX4_execute_26 : decode cX4_execute 26 = .ok (.iload_n 2, 1) := by decide +kernel
theorem dX4_execute_27 : decode cX4_execute 27 = .ok (.bipush 7, 2) := by decide +kernel
theorem dX4_execute_29 : decode cX4_execute 29 = .ok (.if_icmp .ge 12, 3) := by decide +kernel
theorem dX4_execute_32 : decode cX4_execute 32 = .ok (.aload_n 0, 1) := by decide +kernel
theorem dX4_execute_33 : decode cX4_execute 33 = .ok (.iload_n 2, 1) := by decide +kernel
theorem dX4_execute_34 : decode cX4_execute 34 = .ok (.iload_n 1, 1) := by decide +kernel
theorem dX4_execute_35 : decode cX4_execute 35 = .ok (.invokevirtual 117, 3) := by decide +kernel
theorem dX4_execute_38 : decode cX4_execute 38 = .ok (.goto 62, 3) := by decide +kernel
theorem dX4_execute_41 : decode cX4_execute 41 = .ok (.iload_n 2, 1) := by decide +kernel
theorem dX4_execute_42 : decode cX4_execute 42 = .ok (.bipush 15, 2) := by decide +kernel
theorem dX4_execute_44 : decode cX4_execute 44 = .ok (.if_icmp .ge 20, 3) := by decide +kernel
theorem dX4_execute_47 : decode cX4_execute 47 = .ok (.aload_n 0, 1) := by decide +kernel
theorem dX4_execute_48 : decode cX4_execute 48 = .ok (.iload_n 2, 1) := by decide +kernel
theorem dX4_execute_49 : decode cX4_execute 49 = .ok (.aload_n 0, 1) := by decide +kernel
theorem dX4_execute_50 : decode cX4_execute 50 = .ok (.getfield 75, 3) := by decide +kernel
theorem dX4_execute_53 : decode cX4_execute 53 = .ok (.getfield 121, 3) := by decide +kernel
theorem dX4_execute_56 : decode cX4_execute 56 = .ok (.iload_n 1, 1) := by decide +kernel
theorem dX4_execute_57 : decode cX4_execute 57 = .ok (.laload, 1) := by decide +kernel
theorem dX4_execute_58 : decode cX4_execute 58 = .ok (.invokevirtual 124, 3) := by decide +kernel
theorem dX4_execute_61 : decode cX4_execute 61 = .ok (.goto 39, 3) := by decide +kernel
theorem dX4_execute_64 : decode cX4_execute 64 = .ok (.iload_n 2, 1) := by decide +kernel
theorem dX4_execute_65 : decode cX4_execute 65 = .ok (.bipush 27, 2) := by decide +kernel
theorem dX4_execute_67 : decode cX4_execute 67 = .ok (.if_icmp .ge 11, 3) := by decide +kernel
theorem dX4_execute_70 : decode cX4_execute 70 = .ok (.aload_n 0, 1) := by decide +kernel
theorem dX4_execute_71 : decode cX4_execute 71 = .ok (.iload_n 2, 1) := by decide +kernel
theorem dX4_execute_72 : decode cX4_execute 72 = .ok (.invokevirtual 128, 3) := by decide +kernel
theorem dX4_execute_75 : decode cX4_execute 75 = .ok (.goto 25, 3) := by decide +kernel
theorem dX4_execute_78 : decode cX4_execute 78 = .ok (.iload_n 2, 1) := by decide +kernel
theorem dX4_execute_79 : decode cX4_execute 79 = .ok (.bipush 33, 2) := by decide +kernel
theorem dX4_execute_81 : decode cX4_execute 81 = .ok (.if_icmp .ge 12, 3) := by decide +kernel
theorem dX4_execute_84 : decode cX4_execute 84 = .ok (.aload_n 0, 1) := by decide +kernel
theorem dX4_execute_85 : decode cX4_execute 85 = .ok (.iload_n 2, 1) := by decide +kernel
theorem dX4_execute_86 : decode cX4_execute 86 = .ok (.iload_n 1, 1) := by decide +kernel
theorem dX4_execute_87 : decode cX4_execute 87 = .ok (.invokevirtual 132, 3) := by decide +kernel
theorem dX4_execute_90 : decode cX4_execute 90 = .ok (.goto 10, 3) := by decide +kernel
theorem dX4_execute_93 : decode cX4_execute 93 = .ok (.aload_n 0, 1) := by decide +kernel
theorem dX4_execute_94 : decode cX4_execute 94 = .ok (.iload_n 2, 1) := by decide +kernel
theorem dX4_execute_95 : decode cX4_execute 95 = .ok (.iload_n 1, 1) := by decide +kernel
theorem dX4_execute_96 : decode cX4_execute 96 = .ok (.invokevirtual 135, 3) := by decide +kernel
theorem dX4_execute_99 : decode cX4_execute 99 = .ok (.ireturn, 1) := by decide +kernel
theorem dX4_execute_100 : decode cX4_execute 100 = .ok (.iload_n 1, 1) := by decide +kernel
theorem dX4_execute_101 : decode cX4_execute 101 = .ok (.iconst 1, 1) := by decide +kernel
theorem dX4_execute_102 : decode cX4_execute 102 = .ok (.iadd, 1) := by decide +kernel
theorem dX4_execute_103 : decode cX4_execute 103 = .ok (.ireturn, 1) := by decide +kernel
theorem dX4_finish_0 : decode cX4_finish 0 = .ok (.aload_n 0, 1) := by decide +kernel
theorem dX4_finish_1 : decode cX4_finish 1 = .ok (.getfield 75, 3) := by decide +kernel
theorem dX4_finish_4 : decode cX4_finish 4 = .ok (.getfield 145, 3) := by decide +kernel
theorem dX4_finish_7 : decode cX4_finish 7 = .ok (.iload_n 1, 1) := by decide +kernel
theorem dX4_finish_8 : decode cX4_finish 8 = .ok (.iaload, 1) := by decide +kernel
theorem dX4_finish_9 : decode cX4_finish 9 = .ok (.istore_n 2, 1) := by decide +kernel
theorem dX4_finish_10 : decode cX4_finish 10 = .ok (.aload_n 0, 1) := by decide +kernel
theorem dX4_finish_11 : decode cX4_finish 11 = .ok (.getfield 75, 3) := by decide +kernel
theorem dX4_finish_14 : decode cX4_finish 14 = .ok (.getfield 121, 3) := by decide +kernel
theorem dX4_finish_17 : decode cX4_finish 17 = .ok (.iload_n 1, 1) := by decide +kernel
theorem dX4_finish_18 : decode cX4_finish 18 = .ok (.laload, 1) := by decide +kernel
theorem dX4_finish_19 : decode cX4_finish 19 = .ok (.l2i, 1) := by decide +kernel
theorem dX4_finish_20 : decode cX4_finish 20 = .ok (.istore_n 3, 1) := by decide +kernel
theorem dX4_finish_21 : decode cX4_finish 21 = .ok (.iload_n 3, 1) := by decide +kernel
theorem dX4_finish_22 : decode cX4_finish 22 = .ok (.bipush 48, 2) := by decide +kernel
theorem dX4_finish_24 : decode cX4_finish 24 = .ok (.if_icmp .eq 9, 3) := by decide +kernel
theorem dX4_finish_27 : decode cX4_finish 27 = .ok (.iload_n 3, 1) := by decide +kernel
theorem dX4_finish_28 : decode cX4_finish 28 = .ok (.bipush 49, 2) := by decide +kernel
theorem dX4_finish_30 : decode cX4_finish 30 = .ok (.if_icmp .ne 35, 3) := by decide +kernel
theorem dX4_finish_33 : decode cX4_finish 33 = .ok (.aload_n 0, 1) := by decide +kernel
theorem dX4_finish_34 : decode cX4_finish 34 = .ok (.aload_n 0, 1) := by decide +kernel
theorem dX4_finish_35 : decode cX4_finish 35 = .ok (.getfield 45, 3) := by decide +kernel
theorem dX4_finish_38 : decode cX4_finish 38 = .ok (.iload_n 2, 1) := by decide +kernel
theorem dX4_finish_39 : decode cX4_finish 39 = .ok (.baload, 1) := by decide +kernel
theorem dX4_finish_40 : decode cX4_finish 40 = .ok (.iload_n 3, 1) := by decide +kernel
theorem dX4_finish_41 : decode cX4_finish 41 = .ok (.bipush 48, 2) := by decide +kernel
theorem dX4_finish_43 : decode cX4_finish 43 = .ok (.if_icmp .ne 7, 3) := by decide +kernel
theorem dX4_finish_46 : decode cX4_finish 46 = .ok (.iconst 1, 1) := by decide +kernel
theorem dX4_finish_47 : decode cX4_finish 47 = .ok (.goto 4, 3) := by decide +kernel
theorem dX4_finish_50 : decode cX4_finish 50 = .ok (.iconst 0, 1) := by decide +kernel
theorem dX4_finish_51 : decode cX4_finish 51 = .ok (.if_icmp .ne 7, 3) := by decide +kernel
theorem dX4_finish_54 : decode cX4_finish 54 = .ok (.iconst 1, 1) := by decide +kernel
theorem dX4_finish_55 : decode cX4_finish 55 = .ok (.goto 4, 3) := by decide +kernel
theorem dX4_finish_58 : decode cX4_finish 58 = .ok (.iconst 0, 1) := by decide +kernel
theorem dX4_finish_59 : decode cX4_finish 59 = .ok (.invokevirtual 148, 3) := by decide +kernel
theorem dX4_finish_62 : decode cX4_finish 62 = .ok (.goto 44, 3) := by decide +kernel
theorem dX4_finish_65 : decode cX4_finish 65 = .ok (.aload_n 0, 1) := by decide +kernel
theorem dX4_finish_66 : decode cX4_finish 66 = .ok (.getfield 45, 3) := by decide +kernel
theorem dX4_finish_69 : decode cX4_finish 69 = .ok (.iload_n 2, 1) := by decide +kernel
theorem dX4_finish_70 : decode cX4_finish 70 = .ok (.baload, 1) := by decide +kernel
theorem dX4_finish_71 : decode cX4_finish 71 = .ok (.ifCond .ne 15, 3) := by decide +kernel
theorem dX4_finish_74 : decode cX4_finish 74 = .ok (.iload_n 3, 1) := by decide +kernel
theorem dX4_finish_75 : decode cX4_finish 75 = .ok (.bipush 44, 2) := by decide +kernel
theorem dX4_finish_77 : decode cX4_finish 77 = .ok (.if_icmp .eq 9, 3) := by decide +kernel
theorem dX4_finish_80 : decode cX4_finish 80 = .ok (.iload_n 3, 1) := by decide +kernel
theorem dX4_finish_81 : decode cX4_finish 81 = .ok (.bipush 45, 2) := by decide +kernel
theorem dX4_finish_83 : decode cX4_finish 83 = .ok (.if_icmp .ne 17, 3) := by decide +kernel
theorem dX4_finish_86 : decode cX4_finish 86 = .ok (.aload_n 0, 1) := by decide +kernel
theorem dX4_finish_87 : decode cX4_finish 87 = .ok (.iconst 0, 1) := by decide +kernel
theorem dX4_finish_88 : decode cX4_finish 88 = .ok (.aload_n 0, 1) := by decide +kernel
theorem dX4_finish_89 : decode cX4_finish 89 = .ok (.getfield 42, 3) := by decide +kernel
theorem dX4_finish_92 : decode cX4_finish 92 = .ok (.iload_n 2, 1) := by decide +kernel
theorem dX4_finish_93 : decode cX4_finish 93 = .ok (.laload, 1) := by decide +kernel
theorem dX4_finish_94 : decode cX4_finish 94 = .ok (.invokevirtual 139, 3) := by decide +kernel
theorem dX4_finish_97 : decode cX4_finish 97 = .ok (.goto 9, 3) := by decide +kernel
theorem dX4_finish_100 : decode cX4_finish 100 = .ok (.aload_n 0, 1) := by decide +kernel
theorem dX4_finish_101 : decode cX4_finish 101 = .ok (.iconst 4, 1) := by decide +kernel
theorem dX4_finish_102 : decode cX4_finish 102 = .ok (.lconst 0, 1) := by decide +kernel
theorem dX4_finish_103 : decode cX4_finish 103 = .ok (.invokevirtual 139, 3) := by decide +kernel
theorem dX4_finish_106 : decode cX4_finish 106 = .ok (.return_, 1) := by decide +kernel
theorem dX4_giveAt_0 : decode cX4_giveAt 0 = .ok (.aload_n 0, 1) := by decide +kernel
theorem dX4_giveAt_1 : decode cX4_giveAt 1 = .ok (.getfield 27, 3) := by decide +kernel
theorem dX4_giveAt_4 : decode cX4_giveAt 4 = .ok (.iload_n 1, 1) := by decide +kernel
theorem dX4_giveAt_5 : decode cX4_giveAt 5 = .ok (.iaload, 1) := by decide +kernel
theorem dX4_giveAt_6 : decode cX4_giveAt 6 = .ok (.tableswitch 68 29 31 #[26, 28, 55], 26) := by decide +kernel
theorem dX4_giveAt_32 : decode cX4_giveAt 32 = .ok (.iload_n 2, 1) := by decide +kernel
theorem dX4_giveAt_33 : decode cX4_giveAt 33 = .ok (.ireturn, 1) := by decide +kernel
theorem dX4_giveAt_34 : decode cX4_giveAt 34 = .ok (.aload_n 0, 1) := by decide +kernel
theorem dX4_giveAt_35 : decode cX4_giveAt 35 = .ok (.getfield 79, 3) := by decide +kernel
theorem dX4_giveAt_38 : decode cX4_giveAt 38 = .ok (.getfield 194, 3) := by decide +kernel
theorem dX4_giveAt_41 : decode cX4_giveAt 41 = .ok (.iload_n 2, 1) := by decide +kernel
theorem dX4_giveAt_42 : decode cX4_giveAt 42 = .ok (.baload, 1) := by decide +kernel
theorem dX4_giveAt_43 : decode cX4_giveAt 43 = .ok (.ifCond .eq 16, 3) := by decide +kernel
theorem dX4_giveAt_46 : decode cX4_giveAt 46 = .ok (.aload_n 0, 1) := by decide +kernel
theorem dX4_giveAt_47 : decode cX4_giveAt 47 = .ok (.getfield 79, 3) := by decide +kernel
theorem dX4_giveAt_50 : decode cX4_giveAt 50 = .ok (.getfield 197, 3) := by decide +kernel
theorem dX4_giveAt_53 : decode cX4_giveAt 53 = .ok (.iload_n 2, 1) := by decide +kernel
theorem dX4_giveAt_54 : decode cX4_giveAt 54 = .ok (.laload, 1) := by decide +kernel
theorem dX4_giveAt_55 : decode cX4_giveAt 55 = .ok (.l2i, 1) := by decide +kernel
theorem dX4_giveAt_56 : decode cX4_giveAt 56 = .ok (.goto 4, 3) := by decide +kernel
theorem dX4_giveAt_59 : decode cX4_giveAt 59 = .ok (.iconst (-1), 1) := by decide +kernel
theorem dX4_giveAt_60 : decode cX4_giveAt 60 = .ok (.ireturn, 1) := by decide +kernel
theorem dX4_giveAt_61 : decode cX4_giveAt 61 = .ok (.aload_n 0, 1) := by decide +kernel
theorem dX4_giveAt_62 : decode cX4_giveAt 62 = .ok (.getfield 79, 3) := by decide +kernel
theorem dX4_giveAt_65 : decode cX4_giveAt 65 = .ok (.getfield 90, 3) := by decide +kernel
theorem dX4_giveAt_68 : decode cX4_giveAt 68 = .ok (.getfield 245, 3) := by decide +kernel
theorem dX4_giveAt_71 : decode cX4_giveAt 71 = .ok (.iload_n 2, 1) := by decide +kernel
theorem dX4_giveAt_72 : decode cX4_giveAt 72 = .ok (.iaload, 1) := by decide +kernel
theorem dX4_giveAt_73 : decode cX4_giveAt 73 = .ok (.ireturn, 1) := by decide +kernel
theorem dX4_giveAt_74 : decode cX4_giveAt 74 = .ok (.aload_n 0, 1) := by decide +kernel
theorem dX4_giveAt_75 : decode cX4_giveAt 75 = .ok (.getfield 79, 3) := by decide +kernel
theorem dX4_giveAt_78 : decode cX4_giveAt 78 = .ok (.getfield 160, 3) := by decide +kernel
theorem dX4_giveAt_81 : decode cX4_giveAt 81 = .ok (.iload_n 2, 1) := by decide +kernel
theorem dX4_giveAt_82 : decode cX4_giveAt 82 = .ok (.iaload, 1) := by decide +kernel
theorem dX4_giveAt_83 : decode cX4_giveAt 83 = .ok (.istore_n 3, 1) := by decide +kernel
theorem dX4_giveAt_84 : decode cX4_giveAt 84 = .ok (.iload_n 3, 1) := by decide +kernel
theorem dX4_giveAt_85 : decode cX4_giveAt 85 = .ok (.bipush 20, 2) := by decide +kernel
theorem dX4_giveAt_87 : decode cX4_giveAt 87 = .ok (.if_icmp .ge 20, 3) := by decide +kernel
theorem dX4_giveAt_90 : decode cX4_giveAt 90 = .ok (.aload_n 0, 1) := by decide +kernel
theorem dX4_giveAt_91 : decode cX4_giveAt 91 = .ok (.getfield 30, 3) := by decide +kernel
theorem dX4_giveAt_94 : decode cX4_giveAt 94 = .ok (.iload_n 1, 1) := by decide +kernel
theorem dX4_giveAt_95 : decode cX4_giveAt 95 = .ok (.iaload, 1) := by decide +kernel
theorem dX4_giveAt_96 : decode cX4_giveAt 96 = .ok (.iload_n 3, 1) := by decide +kernel
theorem dX4_giveAt_97 : decode cX4_giveAt 97 = .ok (.ishr, 1) := by decide +kernel
theorem dX4_giveAt_98 : decode cX4_giveAt 98 = .ok (.iconst 1, 1) := by decide +kernel
theorem dX4_giveAt_99 : decode cX4_giveAt 99 = .ok (.iand, 1) := by decide +kernel
theorem dX4_giveAt_100 : decode cX4_giveAt 100 = .ok (.ifCond .eq 7, 3) := by decide +kernel
theorem dX4_giveAt_103 : decode cX4_giveAt 103 = .ok (.iload_n 2, 1) := by decide +kernel
theorem dX4_giveAt_104 : decode cX4_giveAt 104 = .ok (.goto 4, 3) := by decide +kernel
theorem dX4_giveAt_107 : decode cX4_giveAt 107 = .ok (.iconst (-1), 1) := by decide +kernel
theorem dX4_giveAt_108 : decode cX4_giveAt 108 = .ok (.ireturn, 1) := by decide +kernel
theorem dX4_giveNext_0 : decode cX4_giveNext 0 = .ok (.aload_n 0, 1) := by decide +kernel
theorem dX4_giveNext_1 : decode cX4_giveNext 1 = .ok (.getfield 75, 3) := by decide +kernel
theorem dX4_giveNext_4 : decode cX4_giveNext 4 = .ok (.getfield 145, 3) := by decide +kernel
theorem dX4_giveNext_7 : decode cX4_giveNext 7 = .ok (.iload_n 1, 1) := by decide +kernel
theorem dX4_giveNext_8 : decode cX4_giveNext 8 = .ok (.iaload, 1) := by decide +kernel
theorem dX4_giveNext_9 : decode cX4_giveNext 9 = .ok (.istore_n 2, 1) := by decide +kernel
theorem dX4_giveNext_10 : decode cX4_giveNext 10 = .ok (.aload_n 0, 1) := by decide +kernel
theorem dX4_giveNext_11 : decode cX4_giveNext 11 = .ok (.getfield 27, 3) := by decide +kernel
theorem dX4_giveNext_14 : decode cX4_giveNext 14 = .ok (.iload_n 2, 1) := by decide +kernel
theorem dX4_giveNext_15 : decode cX4_giveNext 15 = .ok (.iaload, 1) := by decide +kernel
theorem dX4_giveNext_16 : decode cX4_giveNext 16 = .ok (.bipush 32, 2) := by decide +kernel
theorem dX4_giveNext_18 : decode cX4_giveNext 18 = .ok (.if_icmp .ne 11, 3) := by decide +kernel
theorem dX4_giveNext_21 : decode cX4_giveNext 21 = .ok (.aload_n 0, 1) := by decide +kernel
theorem dX4_giveNext_22 : decode cX4_giveNext 22 = .ok (.iload_n 2, 1) := by decide +kernel
theorem dX4_giveNext_23 : decode cX4_giveNext 23 = .ok (.invokevirtual 266, 3) := by decide +kernel
theorem dX4_giveNext_26 : decode cX4_giveNext 26 = .ok (.goto 8, 3) := by decide +kernel
theorem dX4_giveNext_29 : decode cX4_giveNext 29 = .ok (.aload_n 0, 1) := by decide +kernel
theorem dX4_giveNext_30 : decode cX4_giveNext 30 = .ok (.iload_n 2, 1) := by decide +kernel
theorem dX4_giveNext_31 : decode cX4_giveNext 31 = .ok (.invokevirtual 269, 3) := by decide +kernel
theorem dX4_giveNext_34 : decode cX4_giveNext 34 = .ok (.istore_n 3, 1) := by decide +kernel
theorem dX4_giveNext_35 : decode cX4_giveNext 35 = .ok (.iload_n 3, 1) := by decide +kernel
theorem dX4_giveNext_36 : decode cX4_giveNext 36 = .ok (.iconst (-1), 1) := by decide +kernel
theorem dX4_giveNext_37 : decode cX4_giveNext 37 = .ok (.if_icmp .ne 13, 3) := by decide +kernel
theorem dX4_giveNext_40 : decode cX4_giveNext 40 = .ok (.aload_n 0, 1) := by decide +kernel
theorem dX4_giveNext_41 : decode cX4_giveNext 41 = .ok (.getfield 75, 3) := by decide +kernel
theorem dX4_giveNext_44 : decode cX4_giveNext 44 = .ok (.getfield 260, 3) := by decide +kernel
theorem dX4_giveNext_47 : decode cX4_giveNext 47 = .ok (.iload_n 1, 1) := by decide +kernel
theorem dX4_giveNext_48 : decode cX4_giveNext 48 = .ok (.iaload, 1) := by decide +kernel
theorem dX4_giveNext_49 : decode cX4_giveNext 49 = .ok (.ireturn, 1) := by decide +kernel
theorem dX4_giveNext_50 : decode cX4_giveNext 50 = .ok (.aload_n 0, 1) := by decide +kernel
theorem dX4_giveNext_51 : decode cX4_giveNext 51 = .ok (.dup, 1) := by decide +kernel
theorem dX4_giveNext_52 : decode cX4_giveNext 52 = .ok (.getfield 83, 3) := by decide +kernel
theorem dX4_giveNext_55 : decode cX4_giveNext 55 = .ok (.iconst 1, 1) := by decide +kernel
theorem dX4_giveNext_56 : decode cX4_giveNext 56 = .ok (.iadd, 1) := by decide +kernel
theorem dX4_giveNext_57 : decode cX4_giveNext 57 = .ok (.putfield 83, 3) := by decide +kernel
theorem dX4_giveNext_60 : decode cX4_giveNext 60 = .ok (.aload_n 0, 1) := by decide +kernel
theorem dX4_giveNext_61 : decode cX4_giveNext 61 = .ok (.getfield 39, 3) := by decide +kernel
theorem dX4_giveNext_64 : decode cX4_giveNext 64 = .ok (.iload_n 2, 1) := by decide +kernel
theorem dX4_giveNext_65 : decode cX4_giveNext 65 = .ok (.iload_n 3, 1) := by decide +kernel
theorem dX4_giveNext_66 : decode cX4_giveNext 66 = .ok (.iastore, 1) := by decide +kernel
theorem dX4_giveNext_67 : decode cX4_giveNext 67 = .ok (.iload_n 1, 1) := by decide +kernel
theorem dX4_giveNext_68 : decode cX4_giveNext 68 = .ok (.iconst 1, 1) := by decide +kernel
theorem dX4_giveNext_69 : decode cX4_giveNext 69 = .ok (.iadd, 1) := by decide +kernel
theorem dX4_giveNext_70 : decode cX4_giveNext 70 = .ok (.ireturn, 1) := by decide +kernel
theorem dX4_isLink_0 : decode cX4_isLink 0 = .ok (.iload_n 0, 1) := by decide +kernel
theorem dX4_isLink_1 : decode cX4_isLink 1 = .ok (.iconst 2, 1) := by decide +kernel
theorem dX4_isLink_2 : decode cX4_isLink 2 = .ok (.if_icmp .eq 8, 3) := by decide +kernel
theorem dX4_isLink_5 : decode cX4_isLink 5 = .ok (.iload_n 0, 1) := by decide +kernel
theorem dX4_isLink_6 : decode cX4_isLink 6 = .ok (.iconst 3, 1) := by decide +kernel
theorem dX4_isLink_7 : decode cX4_isLink 7 = .ok (.if_icmp .ne 7, 3) := by decide +kernel
theorem dX4_isLink_10 : decode cX4_isLink 10 = .ok (.iconst 1, 1) := by decide +kernel
theorem dX4_isLink_11 : decode cX4_isLink 11 = .ok (.goto 4, 3) := by decide +kernel
theorem dX4_isLink_14 : decode cX4_isLink 14 = .ok (.iconst 0, 1) := by decide +kernel
theorem dX4_isLink_15 : decode cX4_isLink 15 = .ok (.ireturn, 1) := by decide +kernel
theorem dX4_isTrue_0 : decode cX4_isTrue 0 = .ok (.iload_n 1, 1) := by decide +kernel
theorem dX4_isTrue_1 : decode cX4_isTrue 1 = .ok (.ifCond .lt 28, 3) := by decide +kernel
theorem dX4_isTrue_4 : decode cX4_isTrue 4 = .ok (.aload_n 0, 1) := by decide +kernel
theorem dX4_isTrue_5 : decode cX4_isTrue 5 = .ok (.getfield 19, 3) := by decide +kernel
theorem dX4_isTrue_8 : decode cX4_isTrue 8 = .ok (.iload_n 1, 1) := by decide +kernel
theorem dX4_isTrue_9 : decode cX4_isTrue 9 = .ok (.iaload, 1) := by decide +kernel
theorem dX4_isTrue_10 : decode cX4_isTrue 10 = .ok (.iconst 1, 1) := by decide +kernel
theorem dX4_isTrue_11 : decode cX4_isTrue 11 = .ok (.if_icmp .ne 18, 3) := by decide +kernel
theorem dX4_isTrue_14 : decode cX4_isTrue 14 = .ok (.aload_n 0, 1) := by decide +kernel
theorem dX4_isTrue_15 : decode cX4_isTrue 15 = .ok (.getfield 23, 3) := by decide +kernel
theorem dX4_isTrue_18 : decode cX4_isTrue 18 = .ok (.iload_n 1, 1) := by decide +kernel
theorem dX4_isTrue_19 : decode cX4_isTrue 19 = .ok (.laload, 1) := by decide +kernel
theorem dX4_isTrue_20 : decode cX4_isTrue 20 = .ok (.lconst 1, 1) := by decide +kernel
theorem dX4_isTrue_21 : decode cX4_isTrue 21 = .ok (.lcmp, 1) := by decide +kernel
theorem dX4_isTrue_22 : decode cX4_isTrue 22 = .ok (.ifCond .ne 7, 3) := by decide +kernel
theorem dX4_isTrue_25 : decode cX4_isTrue 25 = .ok (.iconst 1, 1) := by decide +kernel
theorem dX4_isTrue_26 : decode cX4_isTrue 26 = .ok (.goto 4, 3) := by decide +kernel
theorem dX4_isTrue_29 : decode cX4_isTrue 29 = .ok (.iconst 0, 1) := by decide +kernel
theorem dX4_isTrue_30 : decode cX4_isTrue 30 = .ok (.ireturn, 1) := by decide +kernel
theorem dX4_jump_0 : decode cX4_jump 0 = .ok (.iload_n 1, 1) := by decide +kernel
theorem dX4_jump_1 : decode cX4_jump 1 = .ok (.tableswitch 161 33 39 #[43, 50, 119, 57, 78, 63, 69], 43) := by decide +kernel
theorem dX4_jump_44 : decode cX4_jump 44 = .ok (.aload_n 0, 1) := by decide +kernel
theorem dX4_jump_45 : decode cX4_jump 45 = .ok (.iload_n 2, 1) := by decide +kernel
theorem dX4_jump_46 : decode cX4_jump 46 = .ok (.lconst 0, 1) := by decide +kernel
theorem dX4_jump_47 : decode cX4_jump 47 = .ok (.invokevirtual 248, 3) := by decide +kernel
theorem dX4_jump_50 : decode cX4_jump 50 = .ok (.ireturn, 1) := by decide +kernel
theorem dX4_jump_51 : decode cX4_jump 51 = .ok (.aload_n 0, 1) := by decide +kernel
theorem dX4_jump_52 : decode cX4_jump 52 = .ok (.iload_n 2, 1) := by decide +kernel
theorem dX4_jump_53 : decode cX4_jump 53 = .ok (.lconst 1, 1) := by decide +kernel
theorem dX4_jump_54 : decode cX4_jump 54 = .ok (.invokevirtual 248, 3) := by decide +kernel
theorem dX4_jump_57 : decode cX4_jump 57 = .ok (.ireturn, 1) := by decide +kernel
theorem dX4_jump_58 : decode cX4_jump 58 = .ok (.aload_n 0, 1) := by decide +kernel
theorem dX4_jump_59 : decode cX4_jump 59 = .ok (.iload_n 2, 1) := by decide +kernel
theorem dX4_jump_60 : decode cX4_jump 60 = .ok (.invokevirtual 251, 3) := by decide +kernel
theorem dX4_jump_63 : decode cX4_jump 63 = .ok (.ireturn, 1) := by decide +kernel
theorem dX4_jump_64 : decode cX4_jump 64 = .ok (.aload_n 0, 1) := by decide +kernel
theorem dX4_jump_65 : decode cX4_jump 65 = .ok (.iload_n 2, 1) := by decide +kernel
theorem dX4_jump_66 : decode cX4_jump 66 = .ok (.invokevirtual 254, 3) := by decide +kernel
theorem dX4_jump_69 : decode cX4_jump 69 = .ok (.ireturn, 1) := by decide +kernel
theorem dX4_jump_70 : decode cX4_jump 70 = .ok (.aload_n 0, 1) := by decide +kernel
theorem dX4_jump_71 : decode cX4_jump 71 = .ok (.iload_n 2, 1) := by decide +kernel
theorem dX4_jump_72 : decode cX4_jump 72 = .ok (.invokevirtual 257, 3) := by decide +kernel
theorem dX4_jump_75 : decode cX4_jump 75 = .ok (.iload_n 2, 1) := by decide +kernel
theorem dX4_jump_76 : decode cX4_jump 76 = .ok (.iconst 1, 1) := by decide +kernel
theorem dX4_jump_77 : decode cX4_jump 77 = .ok (.iadd, 1) := by decide +kernel
theorem dX4_jump_78 : decode cX4_jump 78 = .ok (.ireturn, 1) := by decide +kernel
theorem dX4_jump_79 : decode cX4_jump 79 = .ok (.aload_n 0, 1) := by decide +kernel
theorem dX4_jump_80 : decode cX4_jump 80 = .ok (.iconst 0, 1) := by decide +kernel
theorem dX4_jump_81 : decode cX4_jump 81 = .ok (.aload_n 0, 1) := by decide +kernel
theorem dX4_jump_82 : decode cX4_jump 82 = .ok (.getfield 67, 3) := by decide +kernel
theorem dX4_jump_85 : decode cX4_jump 85 = .ok (.iconst 1, 1) := by decide +kernel
theorem dX4_jump_86 : decode cX4_jump 86 = .ok (.isub, 1) := by decide +kernel
theorem dX4_jump_87 : decode cX4_jump 87 = .ok (.invokestatic 221, 3) := by decide +kernel
theorem dX4_jump_90 : decode cX4_jump 90 = .ok (.putfield 67, 3) := by decide +kernel
theorem dX4_jump_93 : decode cX4_jump 93 = .ok (.aload_n 0, 1) := by decide +kernel
theorem dX4_jump_94 : decode cX4_jump 94 = .ok (.aload_n 0, 1) := by decide +kernel
theorem dX4_jump_95 : decode cX4_jump 95 = .ok (.getfield 67, 3) := by decide +kernel
theorem dX4_jump_98 : decode cX4_jump 98 = .ok (.invokevirtual 71, 3) := by decide +kernel
theorem dX4_jump_101 : decode cX4_jump 101 = .ok (.ifCond .eq 9, 3) := by decide +kernel
theorem dX4_jump_104 : decode cX4_jump 104 = .ok (.iload_n 2, 1) := by decide +kernel
theorem dX4_jump_105 : decode cX4_jump 105 = .ok (.iconst 1, 1) := by decide +kernel
theorem dX4_jump_106 : decode cX4_jump 106 = .ok (.iadd, 1) := by decide +kernel
theorem dX4_jump_107 : decode cX4_jump 107 = .ok (.goto 12, 3) := by decide +kernel
theorem dX4_jump_110 : decode cX4_jump 110 = .ok (.aload_n 0, 1) := by decide +kernel
theorem dX4_jump_111 : decode cX4_jump 111 = .ok (.getfield 75, 3) := by decide +kernel
theorem dX4_jump_114 : decode cX4_jump 114 = .ok (.getfield 260, 3) := by decide +kernel
theorem dX4_jump_117 : decode cX4_jump 117 = .ok (.iload_n 2, 1) := by decide +kernel
theorem dX4_jump_118 : decode cX4_jump 118 = .ok (.iaload, 1) := by decide +kernel
theorem dX4_jump_119 : decode cX4_jump 119 = .ok (.ireturn, 1) := by decide +kernel
theorem dX4_jump_120 : decode cX4_jump 120 = .ok (.aload_n 0, 1) := by decide +kernel
theorem dX4_jump_121 : decode cX4_jump 121 = .ok (.getfield 67, 3) := by decide +kernel
theorem dX4_jump_124 : decode cX4_jump 124 = .ok (.ifCond .le 34, 3) := by decide +kernel
theorem dX4_jump_127 : decode cX4_jump 127 = .ok (.aload_n 0, 1) := by decide +kernel
theorem dX4_jump_128 : decode cX4_jump 128 = .ok (.getfield 19, 3) := by decide +kernel
theorem dX4_jump_131 : decode cX4_jump 131 = .ok (.aload_n 0, 1) := by decide +kernel
theorem dX4_jump_132 : decode cX4_jump 132 = .ok (.getfield 67, 3) := by decide +kernel
theorem dX4_jump_135 : decode cX4_jump 135 = .ok (.iconst 1, 1) := by decide +kernel
theorem dX4_jump_136 : decode cX4_jump 136 = .ok (.isub, 1) := by decide +kernel
theorem dX4_jump_137 : decode cX4_jump 137 = .ok (.iaload, 1) := by decide +kernel
theorem dX4_jump_138 : decode cX4_jump 138 = .ok (.iconst 1, 1) := by decide +kernel
theorem dX4_jump_139 : decode cX4_jump 139 = .ok (.if_icmp .eq 19, 3) := by decide +kernel
theorem dX4_jump_142 : decode cX4_jump 142 = .ok (.aload_n 0, 1) := by decide +kernel
theorem dX4_jump_143 : decode cX4_jump 143 = .ok (.dup, 1) := by decide +kernel
theorem dX4_jump_144 : decode cX4_jump 144 = .ok (.getfield 67, 3) := by decide +kernel
theorem dX4_jump_147 : decode cX4_jump 147 = .ok (.iconst 1, 1) := by decide +kernel
theorem dX4_jump_148 : decode cX4_jump 148 = .ok (.isub, 1) := by decide +kernel
theorem dX4_jump_149 : decode cX4_jump 149 = .ok (.putfield 67, 3) := by decide +kernel
theorem dX4_jump_152 : decode cX4_jump 152 = .ok (.aload_n 0, 1) := by decide +kernel
theorem dX4_jump_153 : decode cX4_jump 153 = .ok (.iconst 4, 1) := by decide +kernel
theorem dX4_jump_154 : decode cX4_jump 154 = .ok (.lconst 0, 1) := by decide +kernel
theorem dX4_jump_155 : decode cX4_jump 155 = .ok (.invokevirtual 139, 3) := by decide +kernel
theorem dX4_jump_158 : decode cX4_jump 158 = .ok (.iload_n 2, 1) := by decide +kernel
theorem dX4_jump_159 : decode cX4_jump 159 = .ok (.iconst 1, 1) := by decide +kernel
theorem dX4_jump_160 : decode cX4_jump 160 = .ok (.iadd, 1) := by decide +kernel
theorem dX4_jump_161 : decode cX4_jump 161 = .ok (.ireturn, 1) := by decide +kernel
theorem dX4_jump_162 : decode cX4_jump 162 = .ok (.aload_n 0, 1) := by decide +kernel
theorem dX4_jump_163 : decode cX4_jump 163 = .ok (.iload_n 1, 1) := by decide +kernel
theorem dX4_jump_164 : decode cX4_jump 164 = .ok (.invokevirtual 263, 3) := by decide +kernel
theorem dX4_jump_167 : decode cX4_jump 167 = .ok (.aload_n 0, 1) := by decide +kernel
theorem dX4_jump_168 : decode cX4_jump 168 = .ok (.getfield 75, 3) := by decide +kernel
theorem dX4_jump_171 : decode cX4_jump 171 = .ok (.getfield 260, 3) := by decide +kernel
theorem dX4_jump_174 : decode cX4_jump 174 = .ok (.iload_n 2, 1) := by decide +kernel
theorem dX4_jump_175 : decode cX4_jump 175 = .ok (.iaload, 1) := by decide +kernel
theorem dX4_jump_176 : decode cX4_jump 176 = .ok (.ireturn, 1) := by decide +kernel
theorem dX4_lookAt_0 : decode cX4_lookAt 0 = .ok (.aload_n 0, 1) := by decide +kernel
theorem dX4_lookAt_1 : decode cX4_lookAt 1 = .ok (.getfield 79, 3) := by decide +kernel
theorem dX4_lookAt_4 : decode cX4_lookAt 4 = .ok (.getfield 160, 3) := by decide +kernel
theorem dX4_lookAt_7 : decode cX4_lookAt 7 = .ok (.iload_n 2, 1) := by decide +kernel
theorem dX4_lookAt_8 : decode cX4_lookAt 8 = .ok (.iaload, 1) := by decide +kernel
theorem dX4_lookAt_9 : decode cX4_lookAt 9 = .ok (.istore 5, 2) := by decide +kernel
theorem dX4_lookAt_11 : decode cX4_lookAt 11 = .ok (.iload 5, 2) := by decide +kernel
theorem dX4_lookAt_13 : decode cX4_lookAt 13 = .ok (.invokestatic 163, 3) := by decide +kernel
theorem dX4_lookAt_16 : decode cX4_lookAt 16 = .ok (.istore 6, 2) := by decide +kernel
theorem dX4_lookAt_18 : decode cX4_lookAt 18 = .ok (.iload_n 1, 1) := by decide +kernel
theorem dX4_lookAt_19 : decode cX4_lookAt 19 = .ok (.tableswitch 164 7 14 #[45, 72, 93, 111, 164, 164, 164, 147], 45) := by decide +kernel
theorem dX4_lookAt_64 : decode cX4_lookAt 64 = .ok (.aload_n 0, 1) := by decide +kernel
theorem dX4_lookAt_65 : decode cX4_lookAt 65 = .ok (.iconst 0, 1) := by decide +kernel
theorem dX4_lookAt_66 : decode cX4_lookAt 66 = .ok (.aload_n 0, 1) := by decide +kernel
theorem dX4_lookAt_67 : decode cX4_lookAt 67 = .ok (.getfield 11, 3) := by decide +kernel
theorem dX4_lookAt_70 : decode cX4_lookAt 70 = .ok (.iload 5, 2) := by decide +kernel
theorem dX4_lookAt_72 : decode cX4_lookAt 72 = .ok (.aload_n 0, 1) := by decide +kernel
theorem dX4_lookAt_73 : decode cX4_lookAt 73 = .ok (.getfield 79, 3) := by decide +kernel
theorem dX4_lookAt_76 : decode cX4_lookAt 76 = .ok (.getfield 168, 3) := by decide +kernel
theorem dX4_lookAt_79 : decode cX4_lookAt 79 = .ok (.iload_n 2, 1) := by decide +kernel
theorem dX4_lookAt_80 : decode cX4_lookAt 80 = .ok (.iaload, 1) := by decide +kernel
theorem dX4_lookAt_81 : decode cX4_lookAt 81 = .ok (.invokevirtual 171, 3) := by decide +kernel
theorem dX4_lookAt_84 : decode cX4_lookAt 84 = .ok (.i2l, 1) := by decide +kernel
theorem dX4_lookAt_85 : decode cX4_lookAt 85 = .ok (.invokevirtual 139, 3) := by decide +kernel
theorem dX4_lookAt_88 : decode cX4_lookAt 88 = .ok (.goto 119, 3) := by decide +kernel
theorem dX4_lookAt_91 : decode cX4_lookAt 91 = .ok (.aload_n 0, 1) := by decide +kernel
theorem dX4_lookAt_92 : decode cX4_lookAt 92 = .ok (.iconst 0, 1) := by decide +kernel
theorem dX4_lookAt_93 : decode cX4_lookAt 93 = .ok (.aload_n 0, 1) := by decide +kernel
theorem dX4_lookAt_94 : decode cX4_lookAt 94 = .ok (.getfield 79, 3) := by decide +kernel
theorem dX4_lookAt_97 : decode cX4_lookAt 97 = .ok (.getfield 90, 3) := by decide +kernel
theorem dX4_lookAt_100 : decode cX4_lookAt 100 = .ok (.getfield 174, 3) := by decide +kernel
theorem dX4_lookAt_103 : decode cX4_lookAt 103 = .ok (.iload_n 2, 1) := by decide +kernel
theorem dX4_lookAt_104 : decode cX4_lookAt 104 = .ok (.iaload, 1) := by decide +kernel
theorem dX4_lookAt_105 : decode cX4_lookAt 105 = .ok (.i2l, 1) := by decide +kernel
theorem dX4_lookAt_106 : decode cX4_lookAt 106 = .ok (.invokevirtual 139, 3) := by decide +kernel
theorem dX4_lookAt_109 : decode cX4_lookAt 109 = .ok (.goto 98, 3) := by decide +kernel
theorem dX4_lookAt_112 : decode cX4_lookAt 112 = .ok (.aload_n 0, 1) := by decide +kernel
theorem dX4_lookAt_113 : decode cX4_lookAt 113 = .ok (.iconst 0, 1) := by decide +kernel
theorem dX4_lookAt_114 : decode cX4_lookAt 114 = .ok (.aload_n 0, 1) := by decide +kernel
theorem dX4_lookAt_115 : decode cX4_lookAt 115 = .ok (.getfield 79, 3) := by decide +kernel
theorem dX4_lookAt_118 : decode cX4_lookAt 118 = .ok (.getfield 177, 3) := by decide +kernel
theorem dX4_lookAt_121 : decode cX4_lookAt 121 = .ok (.iload_n 2, 1) := by decide +kernel
theorem dX4_lookAt_122 : decode cX4_lookAt 122 = .ok (.iaload, 1) := by decide +kernel
theorem dX4_lookAt_123 : decode cX4_lookAt 123 = .ok (.i2l, 1) := by decide +kernel
theorem dX4_lookAt_124 : decode cX4_lookAt 124 = .ok (.invokevirtual 139, 3) := by decide +kernel
theorem dX4_lookAt_127 : decode cX4_lookAt 127 = .ok (.goto 80, 3) := by decide +kernel
theorem dX4_lookAt_130 : decode cX4_lookAt 130 = .ok (.aload_n 0, 1) := by decide +kernel
theorem dX4_lookAt_131 : decode cX4_lookAt 131 = .ok (.iload 6, 2) := by decide +kernel
theorem dX4_lookAt_133 : decode cX4_lookAt 133 = .ok (.ifCond .eq 7, 3) := by decide +kernel
theorem dX4_lookAt_136 : decode cX4_lookAt 136 = .ok (.iconst 0, 1) := by decide +kernel
theorem dX4_lookAt_137 : decode cX4_lookAt 137 = .ok (.goto 4, 3) := by decide +kernel
theorem dX4_lookAt_140 : decode cX4_lookAt 140 = .ok (.iconst 4, 1) := by decide +kernel
theorem dX4_lookAt_141 : decode cX4_lookAt 141 = .ok (.iload 6, 2) := by decide +kernel
theorem dX4_lookAt_143 : decode cX4_lookAt 143 = .ok (.ifCond .eq 16, 3) := by decide +kernel
theorem dX4_lookAt_146 : decode cX4_lookAt 146 = .ok (.aload_n 0, 1) := by decide +kernel
theorem dX4_lookAt_147 : decode cX4_lookAt 147 = .ok (.getfield 79, 3) := by decide +kernel
theorem dX4_lookAt_150 : decode cX4_lookAt 150 = .ok (.getfield 168, 3) := by decide +kernel
theorem dX4_lookAt_153 : decode cX4_lookAt 153 = .ok (.iload_n 2, 1) := by decide +kernel
theorem dX4_lookAt_154 : decode cX4_lookAt 154 = .ok (.iaload, 1) := by decide +kernel
theorem dX4_lookAt_155 : decode cX4_lookAt 155 = .ok (.i2l, 1) := by decide +kernel
theorem dX4_lookAt_156 : decode cX4_lookAt 156 = .ok (.goto 4, 3) := by decide +kernel
theorem dX4_lookAt_159 : decode cX4_lookAt 159 = .ok (.lconst 0, 1) := by decide +kernel
theorem dX4_lookAt_160 : decode cX4_lookAt 160 = .ok (.invokevirtual 139, 3) := by decide +kernel
theorem dX4_lookAt_163 : decode cX4_lookAt 163 = .ok (.goto 44, 3) := by decide +kernel
theorem dX4_lookAt_166 : decode cX4_lookAt 166 = .ok (.aload_n 0, 1) := by decide +kernel
theorem dX4_lookAt_167 : decode cX4_lookAt 167 = .ok (.aload_n 0, 1) := by decide +kernel
theorem dX4_lookAt_168 : decode cX4_lookAt 168 = .ok (.getfield 11, 3) := by decide +kernel
theorem dX4_lookAt_171 : decode cX4_lookAt 171 = .ok (.iload 5, 2) := by decide +kernel
theorem dX4_lookAt_173 : decode cX4_lookAt 173 = .ok (.lload_n 3, 1) := by decide +kernel
theorem dX4_lookAt_174 : decode cX4_lookAt 174 = .ok (.invokevirtual 180, 3) := by decide +kernel
theorem dX4_lookAt_177 : decode cX4_lookAt 177 = .ok (.invokevirtual 148, 3) := by decide +kernel
theorem dX4_lookAt_180 : decode cX4_lookAt 180 = .ok (.goto 27, 3) := by decide +kernel
theorem dX4_lookAt_183 : decode cX4_lookAt 183 = .ok (.aload_n 0, 1) := by decide +kernel
theorem dX4_lookAt_184 : decode cX4_lookAt 184 = .ok (.iload_n 2, 1) := by decide +kernel
theorem dX4_lookAt_185 : decode cX4_lookAt 185 = .ok (.iload 6, 2) := by decide +kernel
theorem dX4_lookAt_187 : decode cX4_lookAt 187 = .ok (.ifCond .eq 7, 3) := by decide +kernel
theorem dX4_lookAt_190 : decode cX4_lookAt 190 = .ok (.iconst (-1), 1) := by decide +kernel
theorem dX4_lookAt_191 : decode cX4_lookAt 191 = .ok (.goto 13, 3) := by decide +kernel
theorem dX4_lookAt_194 : decode cX4_lookAt 194 = .ok (.aload_n 0, 1) := by decide +kernel
theorem dX4_lookAt_195 : decode cX4_lookAt 195 = .ok (.getfield 11, 3) := by decide +kernel
theorem dX4_lookAt_198 : decode cX4_lookAt 198 = .ok (.iload 5, 2) := by decide +kernel
theorem dX4_lookAt_200 : decode cX4_lookAt 200 = .ok (.lload_n 3, 1) := by decide +kernel
theorem dX4_lookAt_201 : decode cX4_lookAt 201 = .ok (.invokevirtual 184, 3) := by decide +kernel
theorem dX4_lookAt_204 : decode cX4_lookAt 204 = .ok (.invokevirtual 188, 3) := by decide +kernel
theorem dX4_lookAt_207 : decode cX4_lookAt 207 = .ok (.return_, 1) := by decide +kernel
theorem dX4_nextReached_0 : decode cX4_nextReached 0 = .ok (.aload_n 0, 1) := by decide +kernel
theorem dX4_nextReached_1 : decode cX4_nextReached 1 = .ok (.getfield 33, 3) := by decide +kernel
theorem dX4_nextReached_4 : decode cX4_nextReached 4 = .ok (.iload_n 1, 1) := by decide +kernel
theorem dX4_nextReached_5 : decode cX4_nextReached 5 = .ok (.iaload, 1) := by decide +kernel
theorem dX4_nextReached_6 : decode cX4_nextReached 6 = .ok (.aload_n 0, 1) := by decide +kernel
theorem dX4_nextReached_7 : decode cX4_nextReached 7 = .ok (.getfield 36, 3) := by decide +kernel
theorem dX4_nextReached_10 : decode cX4_nextReached 10 = .ok (.iload_n 1, 1) := by decide +kernel
theorem dX4_nextReached_11 : decode cX4_nextReached 11 = .ok (.iaload, 1) := by decide +kernel
theorem dX4_nextReached_12 : decode cX4_nextReached 12 = .ok (.if_icmp .ne 139, 3) := by decide +kernel
theorem dX4_nextReached_15 : decode cX4_nextReached 15 = .ok (.aload_n 0, 1) := by decide +kernel
theorem dX4_nextReached_16 : decode cX4_nextReached 16 = .ok (.getfield 30, 3) := by decide +kernel
theorem dX4_nextReached_19 : decode cX4_nextReached 19 = .ok (.iload_n 1, 1) := by decide +kernel
theorem dX4_nextReached_20 : decode cX4_nextReached 20 = .ok (.iaload, 1) := by decide +kernel
theorem dX4_nextReached_21 : decode cX4_nextReached 21 = .ok (.aload_n 0, 1) := by decide +kernel
theorem dX4_nextReached_22 : decode cX4_nextReached 22 = .ok (.getfield 36, 3) := by decide +kernel
theorem dX4_nextReached_25 : decode cX4_nextReached 25 = .ok (.iload_n 1, 1) := by decide +kernel
theorem dX4_nextReached_26 : decode cX4_nextReached 26 = .ok (.iaload, 1) := by decide +kernel
theorem dX4_nextReached_27 : decode cX4_nextReached 27 = .ok (.if_icmp .ge 124, 3) := by decide +kernel
theorem dX4_nextReached_30 : decode cX4_nextReached 30 = .ok (.aload_n 0, 1) := by decide +kernel
theorem dX4_nextReached_31 : decode cX4_nextReached 31 = .ok (.getfield 30, 3) := by decide +kernel
theorem dX4_nextReached_34 : decode cX4_nextReached 34 = .ok (.iload_n 1, 1) := by decide +kernel
theorem dX4_nextReached_35 : decode cX4_nextReached 35 = .ok (.iaload, 1) := by decide +kernel
theorem dX4_nextReached_36 : decode cX4_nextReached 36 = .ok (.aload_n 0, 1) := by decide +kernel
theorem dX4_nextReached_37 : decode cX4_nextReached 37 = .ok (.getfield 79, 3) := by decide +kernel
theorem dX4_nextReached_40 : decode cX4_nextReached 40 = .ok (.getfield 142, 3) := by decide +kernel
theorem dX4_nextReached_43 : decode cX4_nextReached 43 = .ok (.if_icmp .ge 108, 3) := by decide +kernel
theorem dX4_nextReached_46 : decode cX4_nextReached 46 = .ok (.aload_n 0, 1) := by decide +kernel
theorem dX4_nextReached_47 : decode cX4_nextReached 47 = .ok (.getfield 49, 3) := by decide +kernel
theorem dX4_nextReached_50 : decode cX4_nextReached 50 = .ok (.iload_n 1, 1) := by decide +kernel
theorem dX4_nextReached_51 : decode cX4_nextReached 51 = .ok (.sipush 400, 3) := by decide +kernel
theorem dX4_nextReached_54 : decode cX4_nextReached 54 = .ok (.imul, 1) := by decide +kernel
theorem dX4_nextReached_55 : decode cX4_nextReached 55 = .ok (.aload_n 0, 1) := by decide +kernel
theorem dX4_nextReached_56 : decode cX4_nextReached 56 = .ok (.getfield 30, 3) := by decide +kernel
theorem dX4_nextReached_59 : decode cX4_nextReached 59 = .ok (.iload_n 1, 1) := by decide +kernel
theorem dX4_nextReached_60 : decode cX4_nextReached 60 = .ok (.iaload, 1) := by decide +kernel
theorem dX4_nextReached_61 : decode cX4_nextReached 61 = .ok (.iadd, 1) := by decide +kernel
theorem dX4_nextReached_62 : decode cX4_nextReached 62 = .ok (.iaload, 1) := by decide +kernel
theorem dX4_nextReached_63 : decode cX4_nextReached 63 = .ok (.istore_n 2, 1) := by decide +kernel
theorem dX4_nextReached_64 : decode cX4_nextReached 64 = .ok (.aload_n 0, 1) := by decide +kernel
theorem dX4_nextReached_65 : decode cX4_nextReached 65 = .ok (.getfield 30, 3) := by decide +kernel
theorem dX4_nextReached_68 : decode cX4_nextReached 68 = .ok (.iload_n 1, 1) := by decide +kernel
theorem dX4_nextReached_69 : decode cX4_nextReached 69 = .ok (.dup2, 1) := by decide +kernel
theorem dX4_nextReached_70 : decode cX4_nextReached 70 = .ok (.iaload, 1) := by decide +kernel
theorem dX4_nextReached_71 : decode cX4_nextReached 71 = .ok (.iconst 1, 1) := by decide +kernel
theorem dX4_nextReached_72 : decode cX4_nextReached 72 = .ok (.iadd, 1) := by decide +kernel
theorem dX4_nextReached_73 : decode cX4_nextReached 73 = .ok (.iastore, 1) := by decide +kernel
theorem dX4_nextReached_74 : decode cX4_nextReached 74 = .ok (.aload_n 0, 1) := by decide +kernel
theorem dX4_nextReached_75 : decode cX4_nextReached 75 = .ok (.getfield 79, 3) := by decide +kernel
theorem dX4_nextReached_78 : decode cX4_nextReached 78 = .ok (.getfield 191, 3) := by decide +kernel
theorem dX4_nextReached_81 : decode cX4_nextReached 81 = .ok (.iload_n 2, 1) := by decide +kernel
theorem dX4_nextReached_82 : decode cX4_nextReached 82 = .ok (.iaload, 1) := by decide +kernel
theorem dX4_nextReached_83 : decode cX4_nextReached 83 = .ok (.istore_n 3, 1) := by decide +kernel
theorem dX4_nextReached_84 : decode cX4_nextReached 84 = .ok (.iload_n 3, 1) := by decide +kernel
theorem dX4_nextReached_85 : decode cX4_nextReached 85 = .ok (.aload_n 0, 1) := by decide +kernel
theorem dX4_nextReached_86 : decode cX4_nextReached 86 = .ok (.getfield 79, 3) := by decide +kernel
theorem dX4_nextReached_89 : decode cX4_nextReached 89 = .ok (.getfield 191, 3) := by decide +kernel
theorem dX4_nextReached_92 : decode cX4_nextReached 92 = .ok (.iload_n 2, 1) := by decide +kernel
theorem dX4_nextReached_93 : decode cX4_nextReached 93 = .ok (.iconst 1, 1) := by decide +kernel
theorem dX4_nextReached_94 : decode cX4_nextReached 94 = .ok (.iadd, 1) := by decide +kernel
theorem dX4_nextReached_95 : decode cX4_nextReached 95 = .ok (.iaload, 1) := by decide +kernel
theorem dX4_nextReached_96 : decode cX4_nextReached 96 = .ok (.if_icmp .ge 52, 3) := by decide +kernel
theorem dX4_nextReached_99 : decode cX4_nextReached 99 = .ok (.aload_n 0, 1) := by decide +kernel
theorem dX4_nextReached_100 : decode cX4_nextReached 100 = .ok (.getfield 79, 3) := by decide +kernel
theorem dX4_nextReached_103 : decode cX4_nextReached 103 = .ok (.getfield 194, 3) := by decide +kernel
theorem dX4_nextReached_106 : decode cX4_nextReached 106 = .ok (.iload_n 3, 1) := by decide +kernel
theorem dX4_nextReached_107 : decode cX4_nextReached 107 = .ok (.baload, 1) := by decide +kernel
theorem dX4_nextReached_108 : decode cX4_nextReached 108 = .ok (.ifCond .eq 34, 3) := by decide +kernel
theorem dX4_nextReached_111 : decode cX4_nextReached 111 = .ok (.aload_n 0, 1) := by decide +kernel
theorem dX4_nextReached_112 : decode cX4_nextReached 112 = .ok (.getfield 79, 3) := by decide +kernel
theorem dX4_nextReached_115 : decode cX4_nextReached 115 = .ok (.getfield 197, 3) := by decide +kernel
theorem dX4_nextReached_118 : decode cX4_nextReached 118 = .ok (.iload_n 3, 1) := by decide +kernel
theorem dX4_nextReached_119 : decode cX4_nextReached 119 = .ok (.laload, 1) := by decide +kernel
theorem dX4_nextReached_120 : decode cX4_nextReached 120 = .ok (.ldc2_w 198, 3) := by decide +kernel
theorem dX4_nextReached_123 : decode cX4_nextReached 123 = .ok (.lcmp, 1) := by decide +kernel
theorem dX4_nextReached_124 : decode cX4_nextReached 124 = .ok (.ifCond .eq 18, 3) := by decide +kernel
theorem dX4_nextReached_127 : decode cX4_nextReached 127 = .ok (.aload_n 0, 1) := by decide +kernel
theorem dX4_nextReached_128 : decode cX4_nextReached 128 = .ok (.iload_n 1, 1) := by decide +kernel
theorem dX4_nextReached_129 : decode cX4_nextReached 129 = .ok (.aload_n 0, 1) := by decide +kernel
theorem dX4_nextReached_130 : decode cX4_nextReached 130 = .ok (.getfield 79, 3) := by decide +kernel
theorem dX4_nextReached_133 : decode cX4_nextReached 133 = .ok (.getfield 197, 3) := by decide +kernel
theorem dX4_nextReached_136 : decode cX4_nextReached 136 = .ok (.iload_n 3, 1) := by decide +kernel
theorem dX4_nextReached_137 : decode cX4_nextReached 137 = .ok (.laload, 1) := by decide +kernel
theorem dX4_nextReached_138 : decode cX4_nextReached 138 = .ok (.l2i, 1) := by decide +kernel
theorem dX4_nextReached_139 : decode cX4_nextReached 139 = .ok (.invokevirtual 239, 3) := by decide +kernel
theorem dX4_nextReached_142 : decode cX4_nextReached 142 = .ok (.iinc 3 1, 3) := by decide +kernel
theorem dX4_nextReached_145 : decode cX4_nextReached 145 = .ok (.goto (-61), 3) := by decide +kernel
theorem dX4_nextReached_148 : decode cX4_nextReached 148 = .ok (.goto (-148), 3) := by decide +kernel
theorem dX4_nextReached_151 : decode cX4_nextReached 151 = .ok (.aload_n 0, 1) := by decide +kernel
theorem dX4_nextReached_152 : decode cX4_nextReached 152 = .ok (.getfield 33, 3) := by decide +kernel
theorem dX4_nextReached_155 : decode cX4_nextReached 155 = .ok (.iload_n 1, 1) := by decide +kernel
theorem dX4_nextReached_156 : decode cX4_nextReached 156 = .ok (.iaload, 1) := by decide +kernel
theorem dX4_nextReached_157 : decode cX4_nextReached 157 = .ok (.aload_n 0, 1) := by decide +kernel
theorem dX4_nextReached_158 : decode cX4_nextReached 158 = .ok (.getfield 36, 3) := by decide +kernel
theorem dX4_nextReached_161 : decode cX4_nextReached 161 = .ok (.iload_n 1, 1) := by decide +kernel
theorem dX4_nextReached_162 : decode cX4_nextReached 162 = .ok (.iaload, 1) := by decide +kernel
theorem dX4_nextReached_163 : decode cX4_nextReached 163 = .ok (.if_icmp .ne 5, 3) := by decide +kernel
theorem dX4_nextReached_166 : decode cX4_nextReached 166 = .ok (.iconst (-1), 1) := by decide +kernel
theorem dX4_nextReached_167 : decode cX4_nextReached 167 = .ok (.ireturn, 1) := by decide +kernel
theorem dX4_nextReached_168 : decode cX4_nextReached 168 = .ok (.aload_n 0, 1) := by decide +kernel
theorem dX4_nextReached_169 : decode cX4_nextReached 169 = .ok (.getfield 33, 3) := by decide +kernel
theorem dX4_nextReached_172 : decode cX4_nextReached 172 = .ok (.iload_n 1, 1) := by decide +kernel
theorem dX4_nextReached_173 : decode cX4_nextReached 173 = .ok (.dup2, 1) := by decide +kernel
theorem dX4_nextReached_174 : decode cX4_nextReached 174 = .ok (.iaload, 1) := by decide +kernel
theorem dX4_nextReached_175 : decode cX4_nextReached 175 = .ok (.iconst 1, 1) := by decide +kernel
theorem dX4_nextReached_176 : decode cX4_nextReached 176 = .ok (.iadd, 1) := by decide +kernel
theorem dX4_nextReached_177 : decode cX4_nextReached 177 = .ok (.iastore, 1) := by decide +kernel
theorem dX4_nextReached_178 : decode cX4_nextReached 178 = .ok (.aload_n 0, 1) := by decide +kernel
theorem dX4_nextReached_179 : decode cX4_nextReached 179 = .ok (.getfield 49, 3) := by decide +kernel
theorem dX4_nextReached_182 : decode cX4_nextReached 182 = .ok (.iload_n 1, 1) := by decide +kernel
theorem dX4_nextReached_183 : decode cX4_nextReached 183 = .ok (.sipush 400, 3) := by decide +kernel
theorem dX4_nextReached_186 : decode cX4_nextReached 186 = .ok (.imul, 1) := by decide +kernel
theorem dX4_nextReached_187 : decode cX4_nextReached 187 = .ok (.aload_n 0, 1) := by decide +kernel
theorem dX4_nextReached_188 : decode cX4_nextReached 188 = .ok (.getfield 33, 3) := by decide +kernel
theorem dX4_nextReached_191 : decode cX4_nextReached 191 = .ok (.iload_n 1, 1) := by decide +kernel
theorem dX4_nextReached_192 : decode cX4_nextReached 192 = .ok (.iaload, 1) := by decide +kernel
theorem dX4_nextReached_193 : decode cX4_nextReached 193 = .ok (.iadd, 1) := by decide +kernel
theorem dX4_nextReached_194 : decode cX4_nextReached 194 = .ok (.iconst 1, 1) := by decide +kernel
theorem dX4_nextReached_195 : decode cX4_nextReached 195 = .ok (.isub, 1) := by decide +kernel
theorem dX4_nextReached_196 : decode cX4_nextReached 196 = .ok (.iaload, 1) := by decide +kernel
theorem dX4_nextReached_197 : decode cX4_nextReached 197 = .ok (.ireturn, 1) := by decide +kernel
theorem dX4_nextThing_0 : decode cX4_nextThing 0 = .ok (.aload_n 0, 1) := by decide +kernel
theorem dX4_nextThing_1 : decode cX4_nextThing 1 = .ok (.getfield 33, 3) := by decide +kernel
theorem dX4_nextThing_4 : decode cX4_nextThing 4 = .ok (.iload_n 1, 1) := by decide +kernel
theorem dX4_nextThing_5 : decode cX4_nextThing 5 = .ok (.iaload, 1) := by decide +kernel
theorem dX4_nextThing_6 : decode cX4_nextThing 6 = .ok (.aload_n 0, 1) := by decide +kernel
theorem dX4_nextThing_7 : decode cX4_nextThing 7 = .ok (.getfield 36, 3) := by decide +kernel
theorem dX4_nextThing_10 : decode cX4_nextThing 10 = .ok (.iload_n 1, 1) := by decide +kernel
theorem dX4_nextThing_11 : decode cX4_nextThing 11 = .ok (.iaload, 1) := by decide +kernel
theorem dX4_nextThing_12 : decode cX4_nextThing 12 = .ok (.if_icmp .ge 37, 3) := by decide +kernel
theorem dX4_nextThing_15 : decode cX4_nextThing 15 = .ok (.aload_n 0, 1) := by decide +kernel
theorem dX4_nextThing_16 : decode cX4_nextThing 16 = .ok (.getfield 33, 3) := by decide +kernel
theorem dX4_nextThing_19 : decode cX4_nextThing 19 = .ok (.iload_n 1, 1) := by decide +kernel
theorem dX4_nextThing_20 : decode cX4_nextThing 20 = .ok (.iaload, 1) := by decide +kernel
theorem dX4_nextThing_21 : decode cX4_nextThing 21 = .ok (.istore_n 2, 1) := by decide +kernel
theorem dX4_nextThing_22 : decode cX4_nextThing 22 = .ok (.aload_n 0, 1) := by decide +kernel
theorem dX4_nextThing_23 : decode cX4_nextThing 23 = .ok (.getfield 33, 3) := by decide +kernel
theorem dX4_nextThing_26 : decode cX4_nextThing 26 = .ok (.iload_n 1, 1) := by decide +kernel
theorem dX4_nextThing_27 : decode cX4_nextThing 27 = .ok (.dup2, 1) := by decide +kernel
theorem dX4_nextThing_28 : decode cX4_nextThing 28 = .ok (.iaload, 1) := by decide +kernel
theorem dX4_nextThing_29 : decode cX4_nextThing 29 = .ok (.iconst 1, 1) := by decide +kernel
theorem dX4_nextThing_30 : decode cX4_nextThing 30 = .ok (.iadd, 1) := by decide +kernel
theorem dX4_nextThing_31 : decode cX4_nextThing 31 = .ok (.iastore, 1) := by decide +kernel
theorem dX4_nextThing_32 : decode cX4_nextThing 32 = .ok (.aload_n 0, 1) := by decide +kernel
theorem dX4_nextThing_33 : decode cX4_nextThing 33 = .ok (.iload_n 1, 1) := by decide +kernel
theorem dX4_nextThing_34 : decode cX4_nextThing 34 = .ok (.iload_n 2, 1) := by decide +kernel
theorem dX4_nextThing_35 : decode cX4_nextThing 35 = .ok (.invokevirtual 242, 3) := by decide +kernel
theorem dX4_nextThing_38 : decode cX4_nextThing 38 = .ok (.istore_n 3, 1) := by decide +kernel
theorem dX4_nextThing_39 : decode cX4_nextThing 39 = .ok (.iload_n 3, 1) := by decide +kernel
theorem dX4_nextThing_40 : decode cX4_nextThing 40 = .ok (.iconst (-1), 1) := by decide +kernel
theorem dX4_nextThing_41 : decode cX4_nextThing 41 = .ok (.if_icmp .eq 5, 3) := by decide +kernel
theorem dX4_nextThing_44 : decode cX4_nextThing 44 = .ok (.iload_n 3, 1) := by decide +kernel
theorem dX4_nextThing_45 : decode cX4_nextThing 45 = .ok (.ireturn, 1) := by decide +kernel
theorem dX4_nextThing_46 : decode cX4_nextThing 46 = .ok (.goto (-46), 3) := by decide +kernel
theorem dX4_nextThing_49 : decode cX4_nextThing 49 = .ok (.iconst (-1), 1) := by decide +kernel
theorem dX4_nextThing_50 : decode cX4_nextThing 50 = .ok (.ireturn, 1) := by decide +kernel
theorem dX4_push_0 : decode cX4_push 0 = .ok (.aload_n 0, 1) := by decide +kernel
theorem dX4_push_1 : decode cX4_push 1 = .ok (.getfield 67, 3) := by decide +kernel
theorem dX4_push_4 : decode cX4_push 4 = .ok (.aload_n 0, 1) := by decide +kernel
theorem dX4_push_5 : decode cX4_push 5 = .ok (.getfield 19, 3) := by decide +kernel
theorem dX4_push_8 : decode cX4_push 8 = .ok (.arraylength, 1) := by decide +kernel
theorem dX4_push_9 : decode cX4_push 9 = .ok (.if_icmp .ge 33, 3) := by decide +kernel
theorem dX4_push_12 : decode cX4_push 12 = .ok (.aload_n 0, 1) := by decide +kernel
theorem dX4_push_13 : decode cX4_push 13 = .ok (.getfield 19, 3) := by decide +kernel
theorem dX4_push_16 : decode cX4_push 16 = .ok (.aload_n 0, 1) := by decide +kernel
theorem dX4_push_17 : decode cX4_push 17 = .ok (.getfield 67, 3) := by decide +kernel
theorem dX4_push_20 : decode cX4_push 20 = .ok (.iload_n 1, 1) := by decide +kernel
theorem dX4_push_21 : decode cX4_push 21 = .ok (.iastore, 1) := by decide +kernel
theorem dX4_push_22 : decode cX4_push 22 = .ok (.aload_n 0, 1) := by decide +kernel
theorem dX4_push_23 : decode cX4_push 23 = .ok (.getfield 23, 3) := by decide +kernel
theorem dX4_push_26 : decode cX4_push 26 = .ok (.aload_n 0, 1) := by decide +kernel
theorem dX4_push_27 : decode cX4_push 27 = .ok (.getfield 67, 3) := by decide +kernel
theorem dX4_push_30 : decode cX4_push 30 = .ok (.lload_n 2, 1) := by decide +kernel
theorem dX4_push_31 : decode cX4_push 31 = .ok (.lastore, 1) := by decide +kernel
theorem dX4_push_32 : decode cX4_push 32 = .ok (.aload_n 0, 1) := by decide +kernel
theorem dX4_push_33 : decode cX4_push 33 = .ok (.dup, 1) := by decide +kernel
theorem dX4_push_34 : decode cX4_push 34 = .ok (.getfield 67, 3) := by decide +kernel
theorem dX4_push_37 : decode cX4_push 37 = .ok (.iconst 1, 1) := by decide +kernel
theorem dX4_push_38 : decode cX4_push 38 = .ok (.iadd, 1) := by decide +kernel
theorem dX4_push_39 : decode cX4_push 39 = .ok (.putfield 67, 3) := by decide +kernel
theorem dX4_push_42 : decode cX4_push 42 = .ok (.return_, 1) := by decide +kernel
theorem dX4_pushElement_0 : decode cX4_pushElement 0 = .ok (.aload_n 0, 1) := by decide +kernel
theorem dX4_pushElement_1 : decode cX4_pushElement 1 = .ok (.getfield 79, 3) := by decide +kernel
theorem dX4_pushElement_4 : decode cX4_pushElement 4 = .ok (.getfield 160, 3) := by decide +kernel
theorem dX4_pushElement_7 : decode cX4_pushElement 7 = .ok (.iload_n 1, 1) := by decide +kernel
theorem dX4_pushElement_8 : decode cX4_pushElement 8 = .ok (.iaload, 1) := by decide +kernel
theorem dX4_pushElement_9 : decode cX4_pushElement 9 = .ok (.invokestatic 163, 3) := by decide +kernel
theorem dX4_pushElement_12 : decode cX4_pushElement 12 = .ok (.ifCond .eq 28, 3) := by decide +kernel
theorem dX4_pushElement_15 : decode cX4_pushElement 15 = .ok (.lload_n 2, 1) := by decide +kernel
theorem dX4_pushElement_16 : decode cX4_pushElement 16 = .ok (.lconst 0, 1) := by decide +kernel
theorem dX4_pushElement_17 : decode cX4_pushElement 17 = .ok (.lcmp, 1) := by decide +kernel
theorem dX4_pushElement_18 : decode cX4_pushElement 18 = .ok (.ifCond .lt 22, 3) := by decide +kernel
theorem dX4_pushElement_21 : decode cX4_pushElement 21 = .ok (.lload_n 2, 1) := by decide +kernel
theorem dX4_pushElement_22 : decode cX4_pushElement 22 = .ok (.aload_n 0, 1) := by decide +kernel
theorem dX4_pushElement_23 : decode cX4_pushElement 23 = .ok (.getfield 79, 3) := by decide +kernel
theorem dX4_pushElement_26 : decode cX4_pushElement 26 = .ok (.getfield 168, 3) := by decide +kernel
theorem dX4_pushElement_29 : decode cX4_pushElement 29 = .ok (.iload_n 1, 1) := by decide +kernel
theorem dX4_pushElement_30 : decode cX4_pushElement 30 = .ok (.iaload, 1) := by decide +kernel
theorem dX4_pushElement_31 : decode cX4_pushElement 31 = .ok (.i2l, 1) := by decide +kernel
theorem dX4_pushElement_32 : decode cX4_pushElement 32 = .ok (.lcmp, 1) := by decide +kernel
theorem dX4_pushElement_33 : decode cX4_pushElement 33 = .ok (.ifCond .ge 7, 3) := by decide +kernel
theorem dX4_pushElement_36 : decode cX4_pushElement 36 = .ok (.iconst 1, 1) := by decide +kernel
theorem dX4_pushElement_37 : decode cX4_pushElement 37 = .ok (.goto 4, 3) := by decide +kernel
theorem dX4_pushElement_40 : decode cX4_pushElement 40 = .ok (.iconst 0, 1) := by decide +kernel
theorem dX4_pushElement_41 : decode cX4_pushElement 41 = .ok (.istore 4, 2) := by decide +kernel
theorem dX4_pushElement_43 : decode cX4_pushElement 43 = .ok (.aload_n 0, 1) := by decide +kernel
theorem dX4_pushElement_44 : decode cX4_pushElement 44 = .ok (.iload_n 1, 1) := by decide +kernel
theorem dX4_pushElement_45 : decode cX4_pushElement 45 = .ok (.iload 4, 2) := by decide +kernel
theorem dX4_pushElement_47 : decode cX4_pushElement 47 = .ok (.ifCond .eq 8, 3) := by decide +kernel
theorem dX4_pushElement_50 : decode cX4_pushElement 50 = .ok (.lload_n 2, 1) := by decide +kernel
theorem dX4_pushElement_51 : decode cX4_pushElement 51 = .ok (.l2i, 1) := by decide +kernel
theorem dX4_pushElement_52 : decode cX4_pushElement 52 = .ok (.goto 4, 3) := by decide +kernel
theorem dX4_pushElement_55 : decode cX4_pushElement 55 = .ok (.iconst (-1), 1) := by decide +kernel
theorem dX4_pushElement_56 : decode cX4_pushElement 56 = .ok (.invokevirtual 188, 3) := by decide +kernel
theorem dX4_pushElement_59 : decode cX4_pushElement 59 = .ok (.return_, 1) := by decide +kernel
theorem dX4_pushSlot_0 : decode cX4_pushSlot 0 = .ok (.iload_n 2, 1) := by decide +kernel
theorem dX4_pushSlot_1 : decode cX4_pushSlot 1 = .ok (.iconst (-1), 1) := by decide +kernel
theorem dX4_pushSlot_2 : decode cX4_pushSlot 2 = .ok (.if_icmp .ne 10, 3) := by decide +kernel
theorem dX4_pushSlot_5 : decode cX4_pushSlot 5 = .ok (.aload_n 0, 1) := by decide +kernel
theorem dX4_pushSlot_6 : decode cX4_pushSlot 6 = .ok (.iconst 4, 1) := by decide +kernel
theorem dX4_pushSlot_7 : decode cX4_pushSlot 7 = .ok (.lconst 0, 1) := by decide +kernel
theorem dX4_pushSlot_8 : decode cX4_pushSlot 8 = .ok (.invokevirtual 139, 3) := by decide +kernel
theorem dX4_pushSlot_11 : decode cX4_pushSlot 11 = .ok (.return_, 1) := by decide +kernel
theorem dX4_pushSlot_12 : decode cX4_pushSlot 12 = .ok (.aload_n 0, 1) := by decide +kernel
theorem dX4_pushSlot_13 : decode cX4_pushSlot 13 = .ok (.getfield 79, 3) := by decide +kernel
theorem dX4_pushSlot_16 : decode cX4_pushSlot 16 = .ok (.getfield 191, 3) := by decide +kernel
theorem dX4_pushSlot_19 : decode cX4_pushSlot 19 = .ok (.iload_n 1, 1) := by decide +kernel
theorem dX4_pushSlot_20 : decode cX4_pushSlot 20 = .ok (.iaload, 1) := by decide +kernel
theorem dX4_pushSlot_21 : decode cX4_pushSlot 21 = .ok (.iload_n 2, 1) := by decide +kernel
theorem dX4_pushSlot_22 : decode cX4_pushSlot 22 = .ok (.iadd, 1) := by decide +kernel
theorem dX4_pushSlot_23 : decode cX4_pushSlot 23 = .ok (.istore_n 3, 1) := by decide +kernel
theorem dX4_pushSlot_24 : decode cX4_pushSlot 24 = .ok (.aload_n 0, 1) := by decide +kernel
theorem dX4_pushSlot_25 : decode cX4_pushSlot 25 = .ok (.getfield 79, 3) := by decide +kernel
theorem dX4_pushSlot_28 : decode cX4_pushSlot 28 = .ok (.getfield 194, 3) := by decide +kernel
theorem dX4_pushSlot_31 : decode cX4_pushSlot 31 = .ok (.iload_n 3, 1) := by decide +kernel
theorem dX4_pushSlot_32 : decode cX4_pushSlot 32 = .ok (.baload, 1) := by decide +kernel
theorem dX4_pushSlot_33 : decode cX4_pushSlot 33 = .ok (.ifCond .ne 20, 3) := by decide +kernel
theorem dX4_pushSlot_36 : decode cX4_pushSlot 36 = .ok (.aload_n 0, 1) := by decide +kernel
theorem dX4_pushSlot_37 : decode cX4_pushSlot 37 = .ok (.iconst 0, 1) := by decide +kernel
theorem dX4_pushSlot_38 : decode cX4_pushSlot 38 = .ok (.aload_n 0, 1) := by decide +kernel
theorem dX4_pushSlot_39 : decode cX4_pushSlot 39 = .ok (.getfield 79, 3) := by decide +kernel
theorem dX4_pushSlot_42 : decode cX4_pushSlot 42 = .ok (.getfield 197, 3) := by decide +kernel
theorem dX4_pushSlot_45 : decode cX4_pushSlot 45 = .ok (.iload_n 3, 1) := by decide +kernel
theorem dX4_pushSlot_46 : decode cX4_pushSlot 46 = .ok (.laload, 1) := by decide +kernel
theorem dX4_pushSlot_47 : decode cX4_pushSlot 47 = .ok (.invokevirtual 139, 3) := by decide +kernel
theorem dX4_pushSlot_50 : decode cX4_pushSlot 50 = .ok (.goto 42, 3) := by decide +kernel
theorem dX4_pushSlot_53 : decode cX4_pushSlot 53 = .ok (.aload_n 0, 1) := by decide +kernel
theorem dX4_pushSlot_54 : decode cX4_pushSlot 54 = .ok (.getfield 79, 3) := by decide +kernel
theorem dX4_pushSlot_57 : decode cX4_pushSlot 57 = .ok (.getfield 197, 3) := by decide +kernel
theorem dX4_pushSlot_60 : decode cX4_pushSlot 60 = .ok (.iload_n 3, 1) := by decide +kernel
theorem dX4_pushSlot_61 : decode cX4_pushSlot 61 = .ok (.laload, 1) := by decide +kernel
theorem dX4_pushSlot_62 : decode cX4_pushSlot 62 = .ok (.ldc2_w 198, 3) := by decide +kernel
theorem dX4_pushSlot_65 : decode cX4_pushSlot 65 = .ok (.lcmp, 1) := by decide +kernel
theorem dX4_pushSlot_66 : decode cX4_pushSlot 66 = .ok (.ifCond .ne 12, 3) := by decide +kernel
theorem dX4_pushSlot_69 : decode cX4_pushSlot 69 = .ok (.aload_n 0, 1) := by decide +kernel
theorem dX4_pushSlot_70 : decode cX4_pushSlot 70 = .ok (.iconst 3, 1) := by decide +kernel
theorem dX4_pushSlot_71 : decode cX4_pushSlot 71 = .ok (.lconst 0, 1) := by decide +kernel
theorem dX4_pushSlot_72 : decode cX4_pushSlot 72 = .ok (.invokevirtual 139, 3) := by decide +kernel
theorem dX4_pushSlot_75 : decode cX4_pushSlot 75 = .ok (.goto 17, 3) := by decide +kernel
theorem dX4_pushSlot_78 : decode cX4_pushSlot 78 = .ok (.aload_n 0, 1) := by decide +kernel
theorem dX4_pushSlot_79 : decode cX4_pushSlot 79 = .ok (.iconst 2, 1) := by decide +kernel
theorem dX4_pushSlot_80 : decode cX4_pushSlot 80 = .ok (.aload_n 0, 1) := by decide +kernel
theorem dX4_pushSlot_81 : decode cX4_pushSlot 81 = .ok (.getfield 79, 3) := by decide +kernel
theorem dX4_pushSlot_84 : decode cX4_pushSlot 84 = .ok (.getfield 197, 3) := by decide +kernel
theorem dX4_pushSlot_87 : decode cX4_pushSlot 87 = .ok (.iload_n 3, 1) := by decide +kernel
theorem dX4_pushSlot_88 : decode cX4_pushSlot 88 = .ok (.laload, 1) := by decide +kernel
theorem dX4_pushSlot_89 : decode cX4_pushSlot 89 = .ok (.invokevirtual 139, 3) := by decide +kernel
theorem dX4_pushSlot_92 : decode cX4_pushSlot 92 = .ok (.return_, 1) := by decide +kernel
theorem dX4_pushThing_0 : decode cX4_pushThing 0 = .ok (.lload_n 1, 1) := by decide +kernel
theorem dX4_pushThing_1 : decode cX4_pushThing 1 = .ok (.aload_n 0, 1) := by decide +kernel
theorem dX4_pushThing_2 : decode cX4_pushThing 2 = .ok (.getfield 79, 3) := by decide +kernel
theorem dX4_pushThing_5 : decode cX4_pushThing 5 = .ok (.getfield 142, 3) := by decide +kernel
theorem dX4_pushThing_8 : decode cX4_pushThing 8 = .ok (.i2l, 1) := by decide +kernel
theorem dX4_pushThing_9 : decode cX4_pushThing 9 = .ok (.lcmp, 1) := by decide +kernel
theorem dX4_pushThing_10 : decode cX4_pushThing 10 = .ok (.ifCond .ge 7, 3) := by decide +kernel
theorem dX4_pushThing_13 : decode cX4_pushThing 13 = .ok (.iconst 1, 1) := by decide +kernel
theorem dX4_pushThing_14 : decode cX4_pushThing 14 = .ok (.goto 4, 3) := by decide +kernel
theorem dX4_pushThing_17 : decode cX4_pushThing 17 = .ok (.iconst 0, 1) := by decide +kernel
theorem dX4_pushThing_18 : decode cX4_pushThing 18 = .ok (.istore_n 3, 1) := by decide +kernel
theorem dX4_pushThing_19 : decode cX4_pushThing 19 = .ok (.aload_n 0, 1) := by decide +kernel
theorem dX4_pushThing_20 : decode cX4_pushThing 20 = .ok (.iload_n 3, 1) := by decide +kernel
theorem dX4_pushThing_21 : decode cX4_pushThing 21 = .ok (.ifCond .eq 7, 3) := by decide +kernel
theorem dX4_pushThing_24 : decode cX4_pushThing 24 = .ok (.iconst 2, 1) := by decide +kernel
theorem dX4_pushThing_25 : decode cX4_pushThing 25 = .ok (.goto 4, 3) := by decide +kernel
theorem dX4_pushThing_28 : decode cX4_pushThing 28 = .ok (.iconst 4, 1) := by decide +kernel
theorem dX4_pushThing_29 : decode cX4_pushThing 29 = .ok (.iload_n 3, 1) := by decide +kernel
theorem dX4_pushThing_30 : decode cX4_pushThing 30 = .ok (.ifCond .eq 7, 3) := by decide +kernel
theorem dX4_pushThing_33 : decode cX4_pushThing 33 = .ok (.lload_n 1, 1) := by decide +kernel
theorem dX4_pushThing_34 : decode cX4_pushThing 34 = .ok (.goto 4, 3) := by decide +kernel
theorem dX4_pushThing_37 : decode cX4_pushThing 37 = .ok (.lconst 0, 1) := by decide +kernel
theorem dX4_pushThing_38 : decode cX4_pushThing 38 = .ok (.invokevirtual 139, 3) := by decide +kernel
theorem dX4_pushThing_41 : decode cX4_pushThing 41 = .ok (.return_, 1) := by decide +kernel
theorem dX4_pushTruth_0 : decode cX4_pushTruth 0 = .ok (.aload_n 0, 1) := by decide +kernel
theorem dX4_pushTruth_1 : decode cX4_pushTruth 1 = .ok (.iconst 1, 1) := by decide +kernel
theorem dX4_pushTruth_2 : decode cX4_pushTruth 2 = .ok (.iload_n 1, 1) := by decide +kernel
theorem dX4_pushTruth_3 : decode cX4_pushTruth 3 = .ok (.ifCond .eq 7, 3) := by decide +kernel
theorem dX4_pushTruth_6 : decode cX4_pushTruth 6 = .ok (.lconst 1, 1) := by decide +kernel
theorem dX4_pushTruth_7 : decode cX4_pushTruth 7 = .ok (.goto 4, 3) := by decide +kernel
theorem dX4_pushTruth_10 : decode cX4_pushTruth 10 = .ok (.lconst 0, 1) := by decide +kernel
theorem dX4_pushTruth_11 : decode cX4_pushTruth 11 = .ok (.invokevirtual 139, 3) := by decide +kernel
theorem dX4_pushTruth_14 : decode cX4_pushTruth 14 = .ok (.return_, 1) := by decide +kernel
theorem dX4_reckon_0 : decode cX4_reckon 0 = .ok (.iload_n 1, 1) := by decide +kernel
theorem dX4_reckon_1 : decode cX4_reckon 1 = .ok (.tableswitch 155 18 24 #[43, 62, 81, 100, 119, 131, 143], 43) := by decide +kernel
theorem dX4_reckon_44 : decode cX4_reckon 44 = .ok (.aload_n 0, 1) := by decide +kernel
theorem dX4_reckon_45 : decode cX4_reckon 45 = .ok (.lload_n 2, 1) := by decide +kernel
theorem dX4_reckon_46 : decode cX4_reckon 46 = .ok (.lload 4, 2) := by decide +kernel
theorem dX4_reckon_48 : decode cX4_reckon 48 = .ok (.lcmp, 1) := by decide +kernel
theorem dX4_reckon_49 : decode cX4_reckon 49 = .ok (.ifCond .ge 7, 3) := by decide +kernel
theorem dX4_reckon_52 : decode cX4_reckon 52 = .ok (.iconst 1, 1) := by decide +kernel
theorem dX4_reckon_53 : decode cX4_reckon 53 = .ok (.goto 4, 3) := by decide +kernel
theorem dX4_reckon_56 : decode cX4_reckon 56 = .ok (.iconst 0, 1) := by decide +kernel
theorem dX4_reckon_57 : decode cX4_reckon 57 = .ok (.invokevirtual 148, 3) := by decide +kernel
theorem dX4_reckon_60 : decode cX4_reckon 60 = .ok (.goto 104, 3) := by decide +kernel
theorem dX4_reckon_63 : decode cX4_reckon 63 = .ok (.aload_n 0, 1) := by decide +kernel
theorem dX4_reckon_64 : decode cX4_reckon 64 = .ok (.lload_n 2, 1) := by decide +kernel
theorem dX4_reckon_65 : decode cX4_reckon 65 = .ok (.lload 4, 2) := by decide +kernel
theorem dX4_reckon_67 : decode cX4_reckon 67 = .ok (.lcmp, 1) := by decide +kernel
theorem dX4_reckon_68 : decode cX4_reckon 68 = .ok (.ifCond .gt 7, 3) := by decide +kernel
theorem dX4_reckon_71 : decode cX4_reckon 71 = .ok (.iconst 1, 1) := by decide +kernel
theorem dX4_reckon_72 : decode cX4_reckon 72 = .ok (.goto 4, 3) := by decide +kernel
theorem dX4_reckon_75 : decode cX4_reckon 75 = .ok (.iconst 0, 1) := by decide +kernel
theorem dX4_reckon_76 : decode cX4_reckon 76 = .ok (.invokevirtual 148, 3) := by decide +kernel
theorem dX4_reckon_79 : decode cX4_reckon 79 = .ok (.goto 85, 3) := by decide +kernel
theorem dX4_reckon_82 : decode cX4_reckon 82 = .ok (.aload_n 0, 1) := by decide +kernel
theorem dX4_reckon_83 : decode cX4_reckon 83 = .ok (.lload_n 2, 1) := by decide +kernel
theorem dX4_reckon_84 : decode cX4_reckon 84 = .ok (.lload 4, 2) := by decide +kernel
theorem dX4_reckon_86 : decode cX4_reckon 86 = .ok (.lcmp, 1) := by decide +kernel
theorem dX4_reckon_87 : decode cX4_reckon 87 = .ok (.ifCond .le 7, 3) := by decide +kernel
theorem dX4_reckon_90 : decode cX4_reckon 90 = .ok (.iconst 1, 1) := by decide +kernel
theorem dX4_reckon_91 : decode cX4_reckon 91 = .ok (.goto 4, 3) := by decide +kernel
theorem dX4_reckon_94 : decode cX4_reckon 94 = .ok (.iconst 0, 1) := by decide +kernel
theorem dX4_reckon_95 : decode cX4_reckon 95 = .ok (.invokevirtual 148, 3) := by decide +kernel
theorem dX4_reckon_98 : decode cX4_reckon 98 = .ok (.goto 66, 3) := by decide +kernel
theorem dX4_reckon_101 : decode cX4_reckon 101 = .ok (.aload_n 0, 1) := by decide +kernel
theorem dX4_reckon_102 : decode cX4_reckon 102 = .ok (.lload_n 2, 1) := by decide +kernel
theorem dX4_reckon_103 : decode cX4_reckon 103 = .ok (.lload 4, 2) := by decide +kernel
theorem dX4_reckon_105 : decode cX4_reckon 105 = .ok (.lcmp, 1) := by decide +kernel
theorem dX4_reckon_106 : decode cX4_reckon 106 = .ok (.ifCond .lt 7, 3) := by decide +kernel
theorem dX4_reckon_109 : decode cX4_reckon 109 = .ok (.iconst 1, 1) := by decide +kernel
theorem dX4_reckon_110 : decode cX4_reckon 110 = .ok (.goto 4, 3) := by decide +kernel
theorem dX4_reckon_113 : decode cX4_reckon 113 = .ok (.iconst 0, 1) := by decide +kernel
theorem dX4_reckon_114 : decode cX4_reckon 114 = .ok (.invokevirtual 148, 3) := by decide +kernel
theorem dX4_reckon_117 : decode cX4_reckon 117 = .ok (.goto 47, 3) := by decide +kernel
theorem dX4_reckon_120 : decode cX4_reckon 120 = .ok (.aload_n 0, 1) := by decide +kernel
theorem dX4_reckon_121 : decode cX4_reckon 121 = .ok (.iconst 0, 1) := by decide +kernel
theorem dX4_reckon_122 : decode cX4_reckon 122 = .ok (.lload_n 2, 1) := by decide +kernel
theorem dX4_reckon_123 : decode cX4_reckon 123 = .ok (.lload 4, 2) := by decide +kernel
theorem dX4_reckon_125 : decode cX4_reckon 125 = .ok (.ladd, 1) := by decide +kernel
theorem dX4_reckon_126 : decode cX4_reckon 126 = .ok (.invokevirtual 139, 3) := by decide +kernel
theorem dX4_reckon_129 : decode cX4_reckon 129 = .ok (.goto 35, 3) := by decide +kernel
theorem dX4_reckon_132 : decode cX4_reckon 132 = .ok (.aload_n 0, 1) := by decide +kernel
theorem dX4_reckon_133 : decode cX4_reckon 133 = .ok (.iconst 0, 1) := by decide +kernel
theorem dX4_reckon_134 : decode cX4_reckon 134 = .ok (.lload_n 2, 1) := by decide +kernel
theorem dX4_reckon_135 : decode cX4_reckon 135 = .ok (.lload 4, 2) := by decide +kernel
theorem dX4_reckon_137 : decode cX4_reckon 137 = .ok (.lsub, 1) := by decide +kernel
theorem dX4_reckon_138 : decode cX4_reckon 138 = .ok (.invokevirtual 139, 3) := by decide +kernel
theorem dX4_reckon_141 : decode cX4_reckon 141 = .ok (.goto 23, 3) := by decide +kernel
theorem dX4_reckon_144 : decode cX4_reckon 144 = .ok (.aload_n 0, 1) := by decide +kernel
theorem dX4_reckon_145 : decode cX4_reckon 145 = .ok (.iconst 0, 1) := by decide +kernel
theorem dX4_reckon_146 : decode cX4_reckon 146 = .ok (.lload_n 2, 1) := by decide +kernel
theorem dX4_reckon_147 : decode cX4_reckon 147 = .ok (.lload 4, 2) := by decide +kernel
theorem dX4_reckon_149 : decode cX4_reckon 149 = .ok (.lmul, 1) := by decide +kernel
theorem dX4_reckon_150 : decode cX4_reckon 150 = .ok (.invokevirtual 139, 3) := by decide +kernel
theorem dX4_reckon_153 : decode cX4_reckon 153 = .ok (.goto 11, 3) := by decide +kernel
theorem dX4_reckon_156 : decode cX4_reckon 156 = .ok (.aload_n 0, 1) := by decide +kernel
theorem dX4_reckon_157 : decode cX4_reckon 157 = .ok (.iload_n 1, 1) := by decide +kernel
theorem dX4_reckon_158 : decode cX4_reckon 158 = .ok (.lload_n 2, 1) := by decide +kernel
theorem dX4_reckon_159 : decode cX4_reckon 159 = .ok (.lload 4, 2) := by decide +kernel
theorem dX4_reckon_161 : decode cX4_reckon 161 = .ok (.invokevirtual 214, 3) := by decide +kernel
theorem dX4_reckon_164 : decode cX4_reckon 164 = .ok (.return_, 1) := by decide +kernel
theorem dX4_run_0 : decode cX4_run 0 = .ok (.aload_n 0, 1) := by decide +kernel
theorem dX4_run_1 : decode cX4_run 1 = .ok (.aload_n 1, 1) := by decide +kernel
theorem dX4_run_2 : decode cX4_run 2 = .ok (.putfield 75, 3) := by decide +kernel
theorem dX4_run_5 : decode cX4_run 5 = .ok (.aload_n 0, 1) := by decide +kernel
theorem dX4_run_6 : decode cX4_run 6 = .ok (.aload_n 2, 1) := by decide +kernel
theorem dX4_run_7 : decode cX4_run 7 = .ok (.putfield 79, 3) := by decide +kernel
theorem dX4_run_10 : decode cX4_run 10 = .ok (.aload_n 0, 1) := by decide +kernel
theorem dX4_run_11 : decode cX4_run 11 = .ok (.iconst 0, 1) := by decide +kernel
theorem dX4_run_12 : decode cX4_run 12 = .ok (.putfield 83, 3) := by decide +kernel
theorem dX4_run_15 : decode cX4_run 15 = .ok (.aload_n 0, 1) := by decide +kernel
theorem dX4_run_16 : decode cX4_run 16 = .ok (.iconst 0, 1) := by decide +kernel
theorem dX4_run_17 : decode cX4_run 17 = .ok (.putfield 67, 3) := by decide +kernel
theorem dX4_run_20 : decode cX4_run 20 = .ok (.aload_n 1, 1) := by decide +kernel
theorem dX4_run_21 : decode cX4_run 21 = .ok (.getfield 86, 3) := by decide +kernel
theorem dX4_run_24 : decode cX4_run 24 = .ok (.ifCond .eq 11, 3) := by decide +kernel
theorem dX4_run_27 : decode cX4_run 27 = .ok (.aload_n 2, 1) := by decide +kernel
theorem dX4_run_28 : decode cX4_run 28 = .ok (.getfield 90, 3) := by decide +kernel
theorem dX4_run_31 : decode cX4_run 31 = .ok (.aload_n 2, 1) := by decide +kernel
theorem dX4_run_32 : decode cX4_run 32 = .ok (.invokevirtual 94, 3) := by decide +kernel
theorem dX4_run_35 : decode cX4_run 35 = .ok (.aload_n 1, 1) := by decide +kernel
theorem dX4_run_36 : decode cX4_run 36 = .ok (.getfield 100, 3) := by decide +kernel
theorem dX4_run_39 : decode cX4_run 39 = .ok (.ifCond .eq 11, 3) := by decide +kernel
theorem dX4_run_42 : decode cX4_run 42 = .ok (.aload_n 2, 1) := by decide +kernel
theorem dX4_run_43 : decode cX4_run 43 = .ok (.getfield 90, 3) := by decide +kernel
theorem dX4_run_46 : decode cX4_run 46 = .ok (.aload_n 2, 1) := by decide +kernel
theorem dX4_run_47 : decode cX4_run 47 = .ok (.invokevirtual 103, 3) := by decide +kernel
theorem dX4_run_50 : decode cX4_run 50 = .ok (.iconst 0, 1) := by decide +kernel
theorem dX4_run_51 : decode cX4_run 51 = .ok (.istore_n 3, 1) := by decide +kernel
theorem dX4_run_52 : decode cX4_run 52 = .ok (.iconst 0, 1) := by decide +kernel
theorem dX4_run_53 : decode cX4_run 53 = .ok (.istore 4, 2) := by decide +kernel
theorem dX4_run_55 : decode cX4_run 55 = .ok (.iload 4, 2) := by decide +kernel
theorem dX4_run_57 : decode cX4_run 57 = .ok (.ldc 106, 2) := by decide +kernel
theorem dX4_run_59 : decode cX4_run 59 = .ok (.if_icmp .ge 36, 3) := by decide +kernel
theorem dX4_run_62 : decode cX4_run 62 = .ok (.iload_n 3, 1) := by decide +kernel
theorem dX4_run_63 : decode cX4_run 63 = .ok (.aload_n 0, 1) := by decide +kernel
theorem dX4_run_64 : decode cX4_run 64 = .ok (.getfield 75, 3) := by decide +kernel
theorem dX4_run_67 : decode cX4_run 67 = .ok (.getfield 107, 3) := by decide +kernel
theorem dX4_run_70 : decode cX4_run 70 = .ok (.if_icmp .ge 25, 3) := by decide +kernel
theorem dX4_run_73 : decode cX4_run 73 = .ok (.aload_n 0, 1) := by decide +kernel
theorem dX4_run_74 : decode cX4_run 74 = .ok (.getfield 83, 3) := by decide +kernel
theorem dX4_run_77 : decode cX4_run 77 = .ok (.sipush 30000, 3) := by decide +kernel
theorem dX4_run_80 : decode cX4_run 80 = .ok (.if_icmp .gt 15, 3) := by decide +kernel
theorem dX4_run_83 : decode cX4_run 83 = .ok (.aload_n 0, 1) := by decide +kernel
theorem dX4_run_84 : decode cX4_run 84 = .ok (.iload_n 3, 1) := by decide +kernel
theorem dX4_run_85 : decode cX4_run 85 = .ok (.invokevirtual 110, 3) := by decide +kernel
theorem dX4_run_88 : decode cX4_run 88 = .ok (.istore_n 3, 1) := by decide +kernel
theorem dX4_run_89 : decode cX4_run 89 = .ok (.iinc 4 1, 3) := by decide +kernel
theorem dX4_run_92 : decode cX4_run 92 = .ok (.goto (-37), 3) := by decide +kernel
theorem dX4_run_95 : decode cX4_run 95 = .ok (.iload_n 3, 1) := by decide +kernel
theorem dX4_run_96 : decode cX4_run 96 = .ok (.aload_n 0, 1) := by decide +kernel
theorem dX4_run_97 : decode cX4_run 97 = .ok (.getfield 75, 3) := by decide +kernel
theorem dX4_run_100 : decode cX4_run 100 = .ok (.getfield 107, 3) := by decide +kernel
theorem dX4_run_103 : decode cX4_run 103 = .ok (.if_icmp .lt 17, 3) := by decide +kernel
theorem dX4_run_106 : decode cX4_run 106 = .ok (.aload_n 0, 1) := by decide +kernel
theorem dX4_run_107 : decode cX4_run 107 = .ok (.getfield 83, 3) := by decide +kernel
theorem dX4_run_110 : decode cX4_run 110 = .ok (.sipush 30000, 3) := by decide +kernel
theorem dX4_run_113 : decode cX4_run 113 = .ok (.if_icmp .gt 7, 3) := by decide +kernel
theorem dX4_run_116 : decode cX4_run 116 = .ok (.iconst 1, 1) := by decide +kernel
theorem dX4_run_117 : decode cX4_run 117 = .ok (.goto 4, 3) := by decide +kernel
theorem dX4_run_120 : decode cX4_run 120 = .ok (.iconst 0, 1) := by decide +kernel
theorem dX4_run_121 : decode cX4_run 121 = .ok (.ireturn, 1) := by decide +kernel
theorem dX4_saysTrue_0 : decode cX4_saysTrue 0 = .ok (.aload_n 0, 1) := by decide +kernel
theorem dX4_saysTrue_1 : decode cX4_saysTrue 1 = .ok (.getfield 67, 3) := by decide +kernel
theorem dX4_saysTrue_4 : decode cX4_saysTrue 4 = .ok (.iconst 1, 1) := by decide +kernel
theorem dX4_saysTrue_5 : decode cX4_saysTrue 5 = .ok (.if_icmp .ne 15, 3) := by decide +kernel
theorem dX4_saysTrue_8 : decode cX4_saysTrue 8 = .ok (.aload_n 0, 1) := by decide +kernel
theorem dX4_saysTrue_9 : decode cX4_saysTrue 9 = .ok (.iconst 0, 1) := by decide +kernel
theorem dX4_saysTrue_10 : decode cX4_saysTrue 10 = .ok (.invokevirtual 71, 3) := by decide +kernel
theorem dX4_saysTrue_13 : decode cX4_saysTrue 13 = .ok (.ifCond .eq 7, 3) := by decide +kernel
theorem dX4_saysTrue_16 : decode cX4_saysTrue 16 = .ok (.iconst 1, 1) := by decide +kernel
theorem dX4_saysTrue_17 : decode cX4_saysTrue 17 = .ok (.goto 4, 3) := by decide +kernel
theorem dX4_saysTrue_20 : decode cX4_saysTrue 20 = .ok (.iconst 0, 1) := by decide +kernel
theorem dX4_saysTrue_21 : decode cX4_saysTrue 21 = .ok (.ireturn, 1) := by decide +kernel
theorem dX5_addRoot_0 : decode cX5_addRoot 0 = .ok (.aload_n 0, 1) := by decide +kernel
theorem dX5_addRoot_1 : decode cX5_addRoot 1 = .ok (.getfield 52, 3) := by decide +kernel
theorem dX5_addRoot_4 : decode cX5_addRoot 4 = .ok (.aload_n 0, 1) := by decide +kernel
theorem dX5_addRoot_5 : decode cX5_addRoot 5 = .ok (.getfield 86, 3) := by decide +kernel
theorem dX5_addRoot_8 : decode cX5_addRoot 8 = .ok (.iload_n 1, 1) := by decide +kernel
theorem dX5_addRoot_9 : decode cX5_addRoot 9 = .ok (.iastore, 1) := by decide +kernel
theorem dX5_addRoot_10 : decode cX5_addRoot 10 = .ok (.aload_n 0, 1) := by decide +kernel
theorem dX5_addRoot_11 : decode cX5_addRoot 11 = .ok (.getfield 55, 3) := by decide +kernel
theorem dX5_addRoot_14 : decode cX5_addRoot 14 = .ok (.aload_n 0, 1) := by decide +kernel
theorem dX5_addRoot_15 : decode cX5_addRoot 15 = .ok (.getfield 86, 3) := by decide +kernel
theorem dX5_addRoot_18 : decode cX5_addRoot 18 = .ok (.iload_n 2, 1) := by decide +kernel
theorem dX5_addRoot_19 : decode cX5_addRoot 19 = .ok (.iastore, 1) := by decide +kernel
theorem dX5_addRoot_20 : decode cX5_addRoot 20 = .ok (.aload_n 0, 1) := by decide +kernel
theorem dX5_addRoot_21 : decode cX5_addRoot 21 = .ok (.dup, 1) := by decide +kernel
theorem dX5_addRoot_22 : decode cX5_addRoot 22 = .ok (.getfield 86, 3) := by decide +kernel
theorem dX5_addRoot_25 : decode cX5_addRoot 25 = .ok (.iconst 1, 1) := by decide +kernel
theorem dX5_addRoot_26 : decode cX5_addRoot 26 = .ok (.iadd, 1) := by decide +kernel
theorem dX5_addRoot_27 : decode cX5_addRoot 27 = .ok (.putfield 86, 3) := by decide +kernel
theorem dX5_addRoot_30 : decode cX5_addRoot 30 = .ok (.return_, 1) := by decide +kernel
theorem dX5_addThing_0 : decode cX5_addThing 0 = .ok (.aload_n 0, 1) := by decide +kernel
theorem dX5_addThing_1 : decode cX5_addThing 1 = .ok (.getfield 82, 3) := by decide +kernel
theorem dX5_addThing_4 : decode cX5_addThing 4 = .ok (.istore 5, 2) := by decide +kernel
theorem dX5_addThing_6 : decode cX5_addThing 6 = .ok (.aload_n 0, 1) := by decide +kernel
theorem dX5_addThing_7 : decode cX5_addThing 7 = .ok (.dup, 1) := by decide +kernel
theorem dX5_addThing_8 : decode cX5_addThing 8 = .ok (.getfield 82, 3) := by decide +kernel
theorem dX5_addThing_11 : decode cX5_addThing 11 = .ok (.iconst 1, 1) := by decide +kernel
theorem dX5_addThing_12 : decode cX5_addThing 12 = .ok (.iadd, 1) := by decide +kernel
theorem dX5_addThing_13 : decode cX5_addThing 13 = .ok (.putfield 82, 3) := by decide +kernel
theorem dX5_addThing_16 : decode cX5_addThing 16 = .ok (.aload_n 0, 1) := by decide +kernel
theorem dX5_addThing_17 : decode cX5_addThing 17 = .ok (.getfield 35, 3) := by decide +kernel
theorem dX5_addThing_20 : decode cX5_addThing 20 = .ok (.iload_n 1, 1) := by decide +kernel
theorem dX5_addThing_21 : decode cX5_addThing 21 = .ok (.iload 5, 2) := by decide +kernel
theorem dX5_addThing_23 : decode cX5_addThing 23 = .ok (.iastore, 1) := by decide +kernel
theorem dX5_addThing_24 : decode cX5_addThing 24 = .ok (.aload_n 0, 1) := by decide +kernel
theorem dX5_addThing_25 : decode cX5_addThing 25 = .ok (.getfield 11, 3) := by decide +kernel
theorem dX5_addThing_28 : decode cX5_addThing 28 = .ok (.iload 5, 2) := by decide +kernel
theorem dX5_addThing_30 : decode cX5_addThing 30 = .ok (.iload_n 1, 1) := by decide +kernel
theorem dX5_addThing_31 : decode cX5_addThing 31 = .ok (.iastore, 1) := by decide +kernel
theorem dX5_addThing_32 : decode cX5_addThing 32 = .ok (.aload_n 0, 1) := by decide +kernel
theorem dX5_addThing_33 : decode cX5_addThing 33 = .ok (.getfield 15, 3) := by decide +kernel
theorem dX5_addThing_36 : decode cX5_addThing 36 = .ok (.iload 5, 2) := by decide +kernel
theorem dX5_addThing_38 : decode cX5_addThing 38 = .ok (.iload_n 2, 1) := by decide +kernel
theorem dX5_addThing_39 : decode cX5_addThing 39 = .ok (.iastore, 1) := by decide +kernel
theorem dX5_addThing_40 : decode cX5_addThing 40 = .ok (.aload_n 0, 1) := by decide +kernel
theorem dX5_addThing_41 : decode cX5_addThing 41 = .ok (.getfield 18, 3) := by decide +kernel
theorem dX5_addThing_44 : decode cX5_addThing 44 = .ok (.iload 5, 2) := by decide +kernel
theorem dX5_addThing_46 : decode cX5_addThing 46 = .ok (.iload_n 3, 1) := by decide +kernel
theorem dX5_addThing_47 : decode cX5_addThing 47 = .ok (.iastore, 1) := by decide +kernel
theorem dX5_addThing_48 : decode cX5_addThing 48 = .ok (.aload_n 0, 1) := by decide +kernel
theorem dX5_addThing_49 : decode cX5_addThing 49 = .ok (.getfield 21, 3) := by decide +kernel
theorem dX5_addThing_52 : decode cX5_addThing 52 = .ok (.iload 5, 2) := by decide +kernel
theorem dX5_addThing_54 : decode cX5_addThing 54 = .ok (.iconst 1, 1) := by decide +kernel
theorem dX5_addThing_55 : decode cX5_addThing 55 = .ok (.iadd, 1) := by decide +kernel
theorem dX5_addThing_56 : decode cX5_addThing 56 = .ok (.aload_n 0, 1) := by decide +kernel
theorem dX5_addThing_57 : decode cX5_addThing 57 = .ok (.getfield 21, 3) := by decide +kernel
theorem dX5_addThing_60 : decode cX5_addThing 60 = .ok (.iload 5, 2) := by decide +kernel
theorem dX5_addThing_62 : decode cX5_addThing 62 = .ok (.iaload, 1) := by decide +kernel
theorem dX5_addThing_63 : decode cX5_addThing 63 = .ok (.iload 4, 2) := by decide +kernel
theorem dX5_addThing_65 : decode cX5_addThing 65 = .ok (.iadd, 1) := by decide +kernel
theorem dX5_addThing_66 : decode cX5_addThing 66 = .ok (.iastore, 1) := by decide +kernel
theorem dX5_addThing_67 : decode cX5_addThing 67 = .ok (.iload 5, 2) := by decide +kernel
theorem dX5_addThing_69 : decode cX5_addThing 69 = .ok (.ireturn, 1) := by decide +kernel
theorem dX5_allSizes_0 : decode cX5_allSizes 0 = .ok (.iconst 0, 1) := by decide +kernel
theorem dX5_allSizes_1 : decode cX5_allSizes 1 = .ok (.istore_n 2, 1) := by decide +kernel
theorem dX5_allSizes_2 : decode cX5_allSizes 2 = .ok (.iconst 0, 1) := by decide +kernel
theorem dX5_allSizes_3 : decode cX5_allSizes 3 = .ok (.istore_n 3, 1) := by decide +kernel
theorem dX5_allSizes_4 : decode cX5_allSizes 4 = .ok (.iload_n 3, 1) := by decide +kernel
theorem dX5_allSizes_5 : decode cX5_allSizes 5 = .ok (.aload_n 0, 1) := by decide +kernel
theorem dX5_allSizes_6 : decode cX5_allSizes 6 = .ok (.getfield 82, 3) := by decide +kernel
theorem dX5_allSizes_9 : decode cX5_allSizes 9 = .ok (.if_icmp .ge 28, 3) := by decide +kernel
theorem dX5_allSizes_12 : decode cX5_allSizes 12 = .ok (.iload_n 2, 1) := by decide +kernel
theorem dX5_allSizes_13 : decode cX5_allSizes 13 = .ok (.aload_n 1, 1) := by decide +kernel
theorem dX5_allSizes_14 : decode cX5_allSizes 14 = .ok (.aload_n 0, 1) := by decide +kernel
theorem dX5_allSizes_15 : decode cX5_allSizes 15 = .ok (.getfield 15, 3) := by decide +kernel
