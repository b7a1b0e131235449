theorem dX8_init_24 : decode cX8_init 24 = .ok (.putfield 21, 3) := by decide +kernel
theorem dX8_init_27 : decode cX8_init 27 = .ok (.aload_n 0, 1) := by decide +kernel
theorem dX8_init_28 : decode cX8_init 28 = .ok (.sipush 4108, 3) := by decide +kernel
theorem dX8_init_31 : decode cX8_init 31 = .ok (.newarray .int, 2) := by decide +kernel
theorem dX8_init_33 : decode cX8_init 33 = .ok (.putfield 24, 3) := by decide +kernel
theorem dX8_init_36 : decode cX8_init 36 = .ok (.aload_n 0, 1) := by decide +kernel
theorem dX8_init_37 : decode cX8_init 37 = .ok (.sipush 400, 3) := by decide +kernel
theorem dX8_init_40 : decode cX8_init 40 = .ok (.newarray .int, 2) := by decide +kernel
theorem dX8_init_42 : decode cX8_init 42 = .ok (.putfield 27, 3) := by decide +kernel
theorem dX8_init_45 : decode cX8_init 45 = .ok (.aload_n 0, 1) := by decide +kernel
theorem dX8_init_46 : decode cX8_init 46 = .ok (.sipush 400, 3) := by decide +kernel
theorem dX8_init_49 : decode cX8_init 49 = .ok (.newarray .int, 2) := by decide +kernel
theorem dX8_init_51 : decode cX8_init 51 = .ok (.putfield 30, 3) := by decide +kernel
theorem dX8_init_54 : decode cX8_init 54 = .ok (.aload_n 0, 1) := by decide +kernel
theorem dX8_init_55 : decode cX8_init 55 = .ok (.sipush 400, 3) := by decide +kernel
theorem dX8_init_58 : decode cX8_init 58 = .ok (.newarray .int, 2) := by decide +kernel
theorem dX8_init_60 : decode cX8_init 60 = .ok (.putfield 33, 3) := by decide +kernel
theorem dX8_init_63 : decode cX8_init 63 = .ok (.aload_n 0, 1) := by decide +kernel
theorem dX8_init_64 : decode cX8_init 64 = .ok (.sipush 400, 3) := by decide +kernel
theorem dX8_init_67 : decode cX8_init 67 = .ok (.newarray .int, 2) := by decide +kernel
theorem dX8_init_69 : decode cX8_init 69 = .ok (.putfield 36, 3) := by decide +kernel
theorem dX8_init_72 : decode cX8_init 72 = .ok (.aload_n 0, 1) := by decide +kernel
theorem dX8_init_73 : decode cX8_init 73 = .ok (.sipush 400, 3) := by decide +kernel
theorem dX8_init_76 : decode cX8_init 76 = .ok (.newarray .int, 2) := by decide +kernel
theorem dX8_init_78 : decode cX8_init 78 = .ok (.putfield 39, 3) := by decide +kernel
theorem dX8_init_81 : decode cX8_init 81 = .ok (.aload_n 0, 1) := by decide +kernel
theorem dX8_init_82 : decode cX8_init 82 = .ok (.sipush 400, 3) := by decide +kernel
theorem dX8_init_85 : decode cX8_init 85 = .ok (.newarray .int, 2) := by decide +kernel
theorem dX8_init_87 : decode cX8_init 87 = .ok (.putfield 42, 3) := by decide +kernel
theorem dX8_init_90 : decode cX8_init 90 = .ok (.aload_n 0, 1) := by decide +kernel
theorem dX8_init_91 : decode cX8_init 91 = .ok (.sipush 400, 3) := by decide +kernel
theorem dX8_init_94 : decode cX8_init 94 = .ok (.newarray .int, 2) := by decide +kernel
theorem dX8_init_96 : decode cX8_init 96 = .ok (.putfield 45, 3) := by decide +kernel
theorem dX8_init_99 : decode cX8_init 99 = .ok (.aload_n 0, 1) := by decide +kernel
theorem dX8_init_100 : decode cX8_init 100 = .ok (.sipush 400, 3) := by decide +kernel
theorem dX8_init_103 : decode cX8_init 103 = .ok (.newarray .int, 2) := by decide +kernel
theorem dX8_init_105 : decode cX8_init 105 = .ok (.putfield 48, 3) := by decide +kernel
theorem dX8_init_108 : decode cX8_init 108 = .ok (.aload_n 0, 1) := by decide +kernel
theorem dX8_init_109 : decode cX8_init 109 = .ok (.sipush 400, 3) := by decide +kernel
theorem dX8_init_112 : decode cX8_init 112 = .ok (.newarray .int, 2) := by decide +kernel
theorem dX8_init_114 : decode cX8_init 114 = .ok (.putfield 51, 3) := by decide +kernel
theorem dX8_init_117 : decode cX8_init 117 = .ok (.aload_n 0, 1) := by decide +kernel
theorem dX8_init_118 : decode cX8_init 118 = .ok (.sipush 400, 3) := by decide +kernel
theorem dX8_init_121 : decode cX8_init 121 = .ok (.newarray .int, 2) := by decide +kernel
theorem dX8_init_123 : decode cX8_init 123 = .ok (.putfield 54, 3) := by decide +kernel
theorem dX8_init_126 : decode cX8_init 126 = .ok (.aload_n 0, 1) := by decide +kernel
theorem dX8_init_127 : decode cX8_init 127 = .ok (.sipush 512, 3) := by decide +kernel
theorem dX8_init_130 : decode cX8_init 130 = .ok (.newarray .int, 2) := by decide +kernel
theorem dX8_init_132 : decode cX8_init 132 = .ok (.putfield 57, 3) := by decide +kernel
theorem dX8_init_135 : decode cX8_init 135 = .ok (.return_, 1) := by decide +kernel
theorem dX9_codeOf_0 : decode cX9_codeOf 0 = .ok (.lconst 0, 1) := by decide +kernel
theorem dX9_codeOf_1 : decode cX9_codeOf 1 = .ok (.lstore_n 1, 1) := by decide +kernel
theorem dX9_codeOf_2 : decode cX9_codeOf 2 = .ok (.iconst 0, 1) := by decide +kernel
theorem dX9_codeOf_3 : decode cX9_codeOf 3 = .ok (.istore_n 3, 1) := by decide +kernel
theorem dX9_codeOf_4 : decode cX9_codeOf 4 = .ok (.iload_n 3, 1) := by decide +kernel
theorem dX9_codeOf_5 : decode cX9_codeOf 5 = .ok (.aload_n 0, 1) := by decide +kernel
theorem dX9_codeOf_6 : decode cX9_codeOf 6 = .ok (.invokevirtual 33, 3) := by decide +kernel
theorem dX9_codeOf_9 : decode cX9_codeOf 9 = .ok (.if_icmp .ge 25, 3) := by decide +kernel
theorem dX9_codeOf_12 : decode cX9_codeOf 12 = .ok (.lload_n 1, 1) := by decide +kernel
theorem dX9_codeOf_13 : decode cX9_codeOf 13 = .ok (.ldc2_w 43, 3) := by decide +kernel
theorem dX9_codeOf_16 : decode cX9_codeOf 16 = .ok (.lmul, 1) := by decide +kernel
theorem dX9_codeOf_17 : decode cX9_codeOf 17 = .ok (.aload_n 0, 1) := by decide +kernel
theorem dX9_codeOf_18 : decode cX9_codeOf 18 = .ok (.iload_n 3, 1) := by decide +kernel
theorem dX9_codeOf_19 : decode cX9_codeOf 19 = .ok (.invokevirtual 39, 3) := by decide +kernel
theorem dX9_codeOf_22 : decode cX9_codeOf 22 = .ok (.invokestatic 45, 3) := by decide +kernel
theorem dX9_codeOf_25 : decode cX9_codeOf 25 = .ok (.i2l, 1) := by decide +kernel
theorem dX9_codeOf_26 : decode cX9_codeOf 26 = .ok (.ladd, 1) := by decide +kernel
theorem dX9_codeOf_27 : decode cX9_codeOf 27 = .ok (.lstore_n 1, 1) := by decide +kernel
theorem dX9_codeOf_28 : decode cX9_codeOf 28 = .ok (.iinc 3 1, 3) := by decide +kernel
theorem dX9_codeOf_31 : decode cX9_codeOf 31 = .ok (.goto (-27), 3) := by decide +kernel
theorem dX9_codeOf_34 : decode cX9_codeOf 34 = .ok (.lload_n 1, 1) := by decide +kernel
theorem dX9_codeOf_35 : decode cX9_codeOf 35 = .ok (.lreturn, 1) := by decide +kernel
theorem dX9_init_0 : decode cX9_init 0 = .ok (.aload_n 0, 1) := by decide +kernel
theorem dX9_init_1 : decode cX9_init 1 = .ok (.invokespecial 3, 3) := by decide +kernel
theorem dX9_init_4 : decode cX9_init 4 = .ok (.aload_n 0, 1) := by decide +kernel
theorem dX9_init_5 : decode cX9_init 5 = .ok (.sipush 4000, 3) := by decide +kernel
theorem dX9_init_8 : decode cX9_init 8 = .ok (.newarray .int, 2) := by decide +kernel
theorem dX9_init_10 : decode cX9_init 10 = .ok (.putfield 11, 3) := by decide +kernel
theorem dX9_init_13 : decode cX9_init 13 = .ok (.aload_n 0, 1) := by decide +kernel
theorem dX9_init_14 : decode cX9_init 14 = .ok (.bipush 20, 2) := by decide +kernel
theorem dX9_init_16 : decode cX9_init 16 = .ok (.newarray .int, 2) := by decide +kernel
theorem dX9_init_18 : decode cX9_init 18 = .ok (.putfield 15, 3) := by decide +kernel
theorem dX9_init_21 : decode cX9_init 21 = .ok (.aload_n 0, 1) := by decide +kernel
theorem dX9_init_22 : decode cX9_init 22 = .ok (.sipush 4001, 3) := by decide +kernel
theorem dX9_init_25 : decode cX9_init 25 = .ok (.newarray .int, 2) := by decide +kernel
theorem dX9_init_27 : decode cX9_init 27 = .ok (.putfield 18, 3) := by decide +kernel
theorem dX9_init_30 : decode cX9_init 30 = .ok (.aload_n 0, 1) := by decide +kernel
theorem dX9_init_31 : decode cX9_init 31 = .ok (.sipush 4001, 3) := by decide +kernel
theorem dX9_init_34 : decode cX9_init 34 = .ok (.newarray .int, 2) := by decide +kernel
theorem dX9_init_36 : decode cX9_init 36 = .ok (.putfield 21, 3) := by decide +kernel
theorem dX9_init_39 : decode cX9_init 39 = .ok (.aload_n 0, 1) := by decide +kernel
theorem dX9_init_40 : decode cX9_init 40 = .ok (.sipush 4001, 3) := by decide +kernel
theorem dX9_init_43 : decode cX9_init 43 = .ok (.newarray .long, 2) := by decide +kernel
theorem dX9_init_45 : decode cX9_init 45 = .ok (.putfield 24, 3) := by decide +kernel
theorem dX9_init_48 : decode cX9_init 48 = .ok (.aload_n 0, 1) := by decide +kernel
theorem dX9_init_49 : decode cX9_init 49 = .ok (.bipush 29, 2) := by decide +kernel
theorem dX9_init_51 : decode cX9_init 51 = .ok (.newarray .long, 2) := by decide +kernel
theorem dX9_init_53 : decode cX9_init 53 = .ok (.putfield 28, 3) := by decide +kernel
theorem dX9_init_56 : decode cX9_init 56 = .ok (.iconst 0, 1) := by decide +kernel
theorem dX9_init_57 : decode cX9_init 57 = .ok (.istore_n 1, 1) := by decide +kernel
theorem dX9_init_58 : decode cX9_init 58 = .ok (.lconst 0, 1) := by decide +kernel
theorem dX9_init_59 : decode cX9_init 59 = .ok (.lstore_n 2, 1) := by decide +kernel
theorem dX9_init_60 : decode cX9_init 60 = .ok (.iconst 0, 1) := by decide +kernel
theorem dX9_init_61 : decode cX9_init 61 = .ok (.istore 4, 2) := by decide +kernel
theorem dX9_init_63 : decode cX9_init 63 = .ok (.iload 4, 2) := by decide +kernel
theorem dX9_init_65 : decode cX9_init 65 = .ok (.ldc 31, 2) := by decide +kernel
theorem dX9_init_67 : decode cX9_init 67 = .ok (.invokevirtual 33, 3) := by decide +kernel
theorem dX9_init_70 : decode cX9_init 70 = .ok (.if_icmp .ge 60, 3) := by decide +kernel
theorem dX9_init_73 : decode cX9_init 73 = .ok (.ldc 31, 2) := by decide +kernel
theorem dX9_init_75 : decode cX9_init 75 = .ok (.iload 4, 2) := by decide +kernel
theorem dX9_init_77 : decode cX9_init 77 = .ok (.invokevirtual 39, 3) := by decide +kernel
theorem dX9_init_80 : decode cX9_init 80 = .ok (.bipush 32, 2) := by decide +kernel
theorem dX9_init_82 : decode cX9_init 82 = .ok (.if_icmp .eq 24, 3) := by decide +kernel
theorem dX9_init_85 : decode cX9_init 85 = .ok (.lload_n 2, 1) := by decide +kernel
theorem dX9_init_86 : decode cX9_init 86 = .ok (.ldc2_w 43, 3) := by decide +kernel
theorem dX9_init_89 : decode cX9_init 89 = .ok (.lmul, 1) := by decide +kernel
theorem dX9_init_90 : decode cX9_init 90 = .ok (.ldc 31, 2) := by decide +kernel
theorem dX9_init_92 : decode cX9_init 92 = .ok (.iload 4, 2) := by decide +kernel
theorem dX9_init_94 : decode cX9_init 94 = .ok (.invokevirtual 39, 3) := by decide +kernel
theorem dX9_init_97 : decode cX9_init 97 = .ok (.invokestatic 45, 3) := by decide +kernel
theorem dX9_init_100 : decode cX9_init 100 = .ok (.i2l, 1) := by decide +kernel
theorem dX9_init_101 : decode cX9_init 101 = .ok (.ladd, 1) := by decide +kernel
theorem dX9_init_102 : decode cX9_init 102 = .ok (.lstore_n 2, 1) := by decide +kernel
theorem dX9_init_103 : decode cX9_init 103 = .ok (.goto 21, 3) := by decide +kernel
theorem dX9_init_106 : decode cX9_init 106 = .ok (.iload_n 1, 1) := by decide +kernel
theorem dX9_init_107 : decode cX9_init 107 = .ok (.bipush 29, 2) := by decide +kernel
theorem dX9_init_109 : decode cX9_init 109 = .ok (.if_icmp .ge 15, 3) := by decide +kernel
theorem dX9_init_112 : decode cX9_init 112 = .ok (.aload_n 0, 1) := by decide +kernel
theorem dX9_init_113 : decode cX9_init 113 = .ok (.getfield 28, 3) := by decide +kernel
theorem dX9_init_116 : decode cX9_init 116 = .ok (.iload_n 1, 1) := by decide +kernel
theorem dX9_init_117 : decode cX9_init 117 = .ok (.lload_n 2, 1) := by decide +kernel
theorem dX9_init_118 : decode cX9_init 118 = .ok (.lastore, 1) := by decide +kernel
theorem dX9_init_119 : decode cX9_init 119 = .ok (.lconst 0, 1) := by decide +kernel
theorem dX9_init_120 : decode cX9_init 120 = .ok (.lstore_n 2, 1) := by decide +kernel
theorem dX9_init_121 : decode cX9_init 121 = .ok (.iinc 1 1, 3) := by decide +kernel
theorem dX9_init_124 : decode cX9_init 124 = .ok (.iinc 4 1, 3) := by decide +kernel
theorem dX9_init_127 : decode cX9_init 127 = .ok (.goto (-64), 3) := by decide +kernel
theorem dX9_init_130 : decode cX9_init 130 = .ok (.return_, 1) := by decide +kernel
theorem dX9_isDigit_0 : decode cX9_isDigit 0 = .ok (.iload_n 0, 1) := by decide +kernel
theorem dX9_isDigit_1 : decode cX9_isDigit 1 = .ok (.bipush 48, 2) := by decide +kernel
theorem dX9_isDigit_3 : decode cX9_isDigit 3 = .ok (.if_icmp .lt 13, 3) := by decide +kernel
theorem dX9_isDigit_6 : decode cX9_isDigit 6 = .ok (.iload_n 0, 1) := by decide +kernel
theorem dX9_isDigit_7 : decode cX9_isDigit 7 = .ok (.bipush 57, 2) := by decide +kernel
theorem dX9_isDigit_9 : decode cX9_isDigit 9 = .ok (.if_icmp .gt 7, 3) := by decide +kernel
theorem dX9_isDigit_12 : decode cX9_isDigit 12 = .ok (.iconst 1, 1) := by decide +kernel
theorem dX9_isDigit_13 : decode cX9_isDigit 13 = .ok (.goto 4, 3) := by decide +kernel
theorem dX9_isDigit_16 : decode cX9_isDigit 16 = .ok (.iconst 0, 1) := by decide +kernel
theorem dX9_isDigit_17 : decode cX9_isDigit 17 = .ok (.ireturn, 1) := by decide +kernel
theorem dX9_symbolOf_0 : decode cX9_symbolOf 0 = .ok (.iload_n 0, 1) := by decide +kernel
theorem dX9_symbolOf_1 : decode cX9_symbolOf 1 = .ok (.bipush 65, 2) := by decide +kernel
theorem dX9_symbolOf_3 : decode cX9_symbolOf 3 = .ok (.if_icmp .lt 16, 3) := by decide +kernel
theorem dX9_symbolOf_6 : decode cX9_symbolOf 6 = .ok (.iload_n 0, 1) := by decide +kernel
theorem dX9_symbolOf_7 : decode cX9_symbolOf 7 = .ok (.bipush 90, 2) := by decide +kernel
theorem dX9_symbolOf_9 : decode cX9_symbolOf 9 = .ok (.if_icmp .gt 10, 3) := by decide +kernel
theorem dX9_symbolOf_12 : decode cX9_symbolOf 12 = .ok (.iload_n 0, 1) := by decide +kernel
theorem dX9_symbolOf_13 : decode cX9_symbolOf 13 = .ok (.bipush 65, 2) := by decide +kernel
theorem dX9_symbolOf_15 : decode cX9_symbolOf 15 = .ok (.isub, 1) := by decide +kernel
theorem dX9_symbolOf_16 : decode cX9_symbolOf 16 = .ok (.iconst 1, 1) := by decide +kernel
theorem dX9_symbolOf_17 : decode cX9_symbolOf 17 = .ok (.iadd, 1) := by decide +kernel
theorem dX9_symbolOf_18 : decode cX9_symbolOf 18 = .ok (.ireturn, 1) := by decide +kernel
theorem dX9_symbolOf_19 : decode cX9_symbolOf 19 = .ok (.iload_n 0, 1) := by decide +kernel
theorem dX9_symbolOf_20 : decode cX9_symbolOf 20 = .ok (.bipush 97, 2) := by decide +kernel
theorem dX9_symbolOf_22 : decode cX9_symbolOf 22 = .ok (.if_icmp .lt 17, 3) := by decide +kernel
theorem dX9_symbolOf_25 : decode cX9_symbolOf 25 = .ok (.iload_n 0, 1) := by decide +kernel
theorem dX9_symbolOf_26 : decode cX9_symbolOf 26 = .ok (.bipush 122, 2) := by decide +kernel
theorem dX9_symbolOf_28 : decode cX9_symbolOf 28 = .ok (.if_icmp .gt 11, 3) := by decide +kernel
theorem dX9_symbolOf_31 : decode cX9_symbolOf 31 = .ok (.iload_n 0, 1) := by decide +kernel
theorem dX9_symbolOf_32 : decode cX9_symbolOf 32 = .ok (.bipush 97, 2) := by decide +kernel
theorem dX9_symbolOf_34 : decode cX9_symbolOf 34 = .ok (.isub, 1) := by decide +kernel
theorem dX9_symbolOf_35 : decode cX9_symbolOf 35 = .ok (.bipush 27, 2) := by decide +kernel
theorem dX9_symbolOf_37 : decode cX9_symbolOf 37 = .ok (.iadd, 1) := by decide +kernel
theorem dX9_symbolOf_38 : decode cX9_symbolOf 38 = .ok (.ireturn, 1) := by decide +kernel
theorem dX9_symbolOf_39 : decode cX9_symbolOf 39 = .ok (.iload_n 0, 1) := by decide +kernel
theorem dX9_symbolOf_40 : decode cX9_symbolOf 40 = .ok (.invokestatic 65, 3) := by decide +kernel
theorem dX9_symbolOf_43 : decode cX9_symbolOf 43 = .ok (.ifCond .eq 13, 3) := by decide +kernel
theorem dX9_symbolOf_46 : decode cX9_symbolOf 46 = .ok (.iload_n 0, 1) := by decide +kernel
theorem dX9_symbolOf_47 : decode cX9_symbolOf 47 = .ok (.bipush 48, 2) := by decide +kernel
theorem dX9_symbolOf_49 : decode cX9_symbolOf 49 = .ok (.isub, 1) := by decide +kernel
theorem dX9_symbolOf_50 : decode cX9_symbolOf 50 = .ok (.bipush 53, 2) := by decide +kernel
theorem dX9_symbolOf_52 : decode cX9_symbolOf 52 = .ok (.iadd, 1) := by decide +kernel
theorem dX9_symbolOf_53 : decode cX9_symbolOf 53 = .ok (.goto 4, 3) := by decide +kernel
theorem dX9_symbolOf_56 : decode cX9_symbolOf 56 = .ok (.iconst 0, 1) := by decide +kernel
theorem dX9_symbolOf_57 : decode cX9_symbolOf 57 = .ok (.ireturn, 1) := by decide +kernel
