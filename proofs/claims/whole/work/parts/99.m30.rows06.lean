theorem dX12_readCompared_19 : decode cX12_readCompared 19 = .ok (.iload_n 2, 1) := by decide +kernel
theorem dX12_readCompared_20 : decode cX12_readCompared 20 = .ok (.iconst (-1), 1) := by decide +kernel
theorem dX12_readCompared_21 : decode cX12_readCompared 21 = .ok (.if_icmp .eq 32, 3) := by decide +kernel
theorem dX12_readCompared_24 : decode cX12_readCompared 24 = .ok (.aload_n 0, 1) := by decide +kernel
theorem dX12_readCompared_25 : decode cX12_readCompared 25 = .ok (.iload_n 2, 1) := by decide +kernel
theorem dX12_readCompared_26 : decode cX12_readCompared 26 = .ok (.invokevirtual 683, 3) := by decide +kernel
theorem dX12_readCompared_29 : decode cX12_readCompared 29 = .ok (.istore_n 3, 1) := by decide +kernel
theorem dX12_readCompared_30 : decode cX12_readCompared 30 = .ok (.aload_n 0, 1) := by decide +kernel
theorem dX12_readCompared_31 : decode cX12_readCompared 31 = .ok (.invokevirtual 661, 3) := by decide +kernel
theorem dX12_readCompared_34 : decode cX12_readCompared 34 = .ok (.aload_n 0, 1) := by decide +kernel
theorem dX12_readCompared_35 : decode cX12_readCompared 35 = .ok (.getfield 275, 3) := by decide +kernel
theorem dX12_readCompared_38 : decode cX12_readCompared 38 = .ok (.iload_n 3, 1) := by decide +kernel
theorem dX12_readCompared_39 : decode cX12_readCompared 39 = .ok (.iload_n 1, 1) := by decide +kernel
theorem dX12_readCompared_40 : decode cX12_readCompared 40 = .ok (.iastore, 1) := by decide +kernel
theorem dX12_readCompared_41 : decode cX12_readCompared 41 = .ok (.aload_n 0, 1) := by decide +kernel
theorem dX12_readCompared_42 : decode cX12_readCompared 42 = .ok (.getfield 278, 3) := by decide +kernel
theorem dX12_readCompared_45 : decode cX12_readCompared 45 = .ok (.iload_n 3, 1) := by decide +kernel
theorem dX12_readCompared_46 : decode cX12_readCompared 46 = .ok (.aload_n 0, 1) := by decide +kernel
theorem dX12_readCompared_47 : decode cX12_readCompared 47 = .ok (.invokevirtual 704, 3) := by decide +kernel
theorem dX12_readCompared_50 : decode cX12_readCompared 50 = .ok (.iastore, 1) := by decide +kernel
theorem dX12_readCompared_51 : decode cX12_readCompared 51 = .ok (.iload_n 3, 1) := by decide +kernel
theorem dX12_readCompared_52 : decode cX12_readCompared 52 = .ok (.ireturn, 1) := by decide +kernel
theorem dX12_readCompared_53 : decode cX12_readCompared 53 = .ok (.aload_n 0, 1) := by decide +kernel
theorem dX12_readCompared_54 : decode cX12_readCompared 54 = .ok (.bipush 11, 2) := by decide +kernel
theorem dX12_readCompared_56 : decode cX12_readCompared 56 = .ok (.invokevirtual 667, 3) := by decide +kernel
theorem dX12_readCompared_59 : decode cX12_readCompared 59 = .ok (.ifCond .ne 5, 3) := by decide +kernel
theorem dX12_readCompared_62 : decode cX12_readCompared 62 = .ok (.iload_n 1, 1) := by decide +kernel
theorem dX12_readCompared_63 : decode cX12_readCompared 63 = .ok (.ireturn, 1) := by decide +kernel
theorem dX12_readCompared_64 : decode cX12_readCompared 64 = .ok (.aload_n 0, 1) := by decide +kernel
theorem dX12_readCompared_65 : decode cX12_readCompared 65 = .ok (.bipush 11, 2) := by decide +kernel
theorem dX12_readCompared_67 : decode cX12_readCompared 67 = .ok (.invokevirtual 683, 3) := by decide +kernel
theorem dX12_readCompared_70 : decode cX12_readCompared 70 = .ok (.istore_n 3, 1) := by decide +kernel
theorem dX12_readCompared_71 : decode cX12_readCompared 71 = .ok (.aload_n 0, 1) := by decide +kernel
theorem dX12_readCompared_72 : decode cX12_readCompared 72 = .ok (.invokevirtual 661, 3) := by decide +kernel
theorem dX12_readCompared_75 : decode cX12_readCompared 75 = .ok (.aload_n 0, 1) := by decide +kernel
theorem dX12_readCompared_76 : decode cX12_readCompared 76 = .ok (.getfield 625, 3) := by decide +kernel
theorem dX12_readCompared_79 : decode cX12_readCompared 79 = .ok (.ifCond .ne 14, 3) := by decide +kernel
theorem dX12_readCompared_82 : decode cX12_readCompared 82 = .ok (.aload_n 0, 1) := by decide +kernel
theorem dX12_readCompared_83 : decode cX12_readCompared 83 = .ok (.invokevirtual 710, 3) := by decide +kernel
theorem dX12_readCompared_86 : decode cX12_readCompared 86 = .ok (.ifCond .ne 7, 3) := by decide +kernel
theorem dX12_readCompared_89 : decode cX12_readCompared 89 = .ok (.aload_n 0, 1) := by decide +kernel
theorem dX12_readCompared_90 : decode cX12_readCompared 90 = .ok (.invokevirtual 664, 3) := by decide +kernel
theorem dX12_readCompared_93 : decode cX12_readCompared 93 = .ok (.aload_n 0, 1) := by decide +kernel
theorem dX12_readCompared_94 : decode cX12_readCompared 94 = .ok (.getfield 275, 3) := by decide +kernel
theorem dX12_readCompared_97 : decode cX12_readCompared 97 = .ok (.iload_n 3, 1) := by decide +kernel
theorem dX12_readCompared_98 : decode cX12_readCompared 98 = .ok (.iload_n 1, 1) := by decide +kernel
theorem dX12_readCompared_99 : decode cX12_readCompared 99 = .ok (.iastore, 1) := by decide +kernel
theorem dX12_readCompared_100 : decode cX12_readCompared 100 = .ok (.aload_n 0, 1) := by decide +kernel
theorem dX12_readCompared_101 : decode cX12_readCompared 101 = .ok (.getfield 284, 3) := by decide +kernel
theorem dX12_readCompared_104 : decode cX12_readCompared 104 = .ok (.iload_n 3, 1) := by decide +kernel
theorem dX12_readCompared_105 : decode cX12_readCompared 105 = .ok (.aload_n 0, 1) := by decide +kernel
theorem dX12_readCompared_106 : decode cX12_readCompared 106 = .ok (.getfield 640, 3) := by decide +kernel
theorem dX12_readCompared_109 : decode cX12_readCompared 109 = .ok (.lastore, 1) := by decide +kernel
theorem dX12_readCompared_110 : decode cX12_readCompared 110 = .ok (.aload_n 0, 1) := by decide +kernel
theorem dX12_readCompared_111 : decode cX12_readCompared 111 = .ok (.getfield 625, 3) := by decide +kernel
theorem dX12_readCompared_114 : decode cX12_readCompared 114 = .ok (.ifCond .ne 7, 3) := by decide +kernel
theorem dX12_readCompared_117 : decode cX12_readCompared 117 = .ok (.aload_n 0, 1) := by decide +kernel
theorem dX12_readCompared_118 : decode cX12_readCompared 118 = .ok (.invokevirtual 661, 3) := by decide +kernel
theorem dX12_readCompared_121 : decode cX12_readCompared 121 = .ok (.iload_n 3, 1) := by decide +kernel
theorem dX12_readCompared_122 : decode cX12_readCompared 122 = .ok (.ireturn, 1) := by decide +kernel
theorem dX12_readE_0 : decode cX12_readE 0 = .ok (.aload_n 0, 1) := by decide +kernel
theorem dX12_readE_1 : decode cX12_readE 1 = .ok (.invokevirtual 679, 3) := by decide +kernel
theorem dX12_readE_4 : decode cX12_readE 4 = .ok (.istore_n 1, 1) := by decide +kernel
theorem dX12_readE_5 : decode cX12_readE 5 = .ok (.aload_n 0, 1) := by decide +kernel
theorem dX12_readE_6 : decode cX12_readE 6 = .ok (.getfield 625, 3) := by decide +kernel
theorem dX12_readE_9 : decode cX12_readE 9 = .ok (.ifCond .ne 45, 3) := by decide +kernel
theorem dX12_readE_12 : decode cX12_readE 12 = .ok (.aload_n 0, 1) := by decide +kernel
theorem dX12_readE_13 : decode cX12_readE 13 = .ok (.bipush 6, 2) := by decide +kernel
theorem dX12_readE_15 : decode cX12_readE 15 = .ok (.invokevirtual 667, 3) := by decide +kernel
theorem dX12_readE_18 : decode cX12_readE 18 = .ok (.ifCond .eq 36, 3) := by decide +kernel
theorem dX12_readE_21 : decode cX12_readE 21 = .ok (.aload_n 0, 1) := by decide +kernel
theorem dX12_readE_22 : decode cX12_readE 22 = .ok (.bipush 6, 2) := by decide +kernel
theorem dX12_readE_24 : decode cX12_readE 24 = .ok (.invokevirtual 683, 3) := by decide +kernel
theorem dX12_readE_27 : decode cX12_readE 27 = .ok (.istore_n 2, 1) := by decide +kernel
theorem dX12_readE_28 : decode cX12_readE 28 = .ok (.aload_n 0, 1) := by decide +kernel
theorem dX12_readE_29 : decode cX12_readE 29 = .ok (.invokevirtual 661, 3) := by decide +kernel
theorem dX12_readE_32 : decode cX12_readE 32 = .ok (.aload_n 0, 1) := by decide +kernel
theorem dX12_readE_33 : decode cX12_readE 33 = .ok (.getfield 275, 3) := by decide +kernel
theorem dX12_readE_36 : decode cX12_readE 36 = .ok (.iload_n 2, 1) := by decide +kernel
theorem dX12_readE_37 : decode cX12_readE 37 = .ok (.iload_n 1, 1) := by decide +kernel
theorem dX12_readE_38 : decode cX12_readE 38 = .ok (.iastore, 1) := by decide +kernel
theorem dX12_readE_39 : decode cX12_readE 39 = .ok (.aload_n 0, 1) := by decide +kernel
theorem dX12_readE_40 : decode cX12_readE 40 = .ok (.getfield 278, 3) := by decide +kernel
theorem dX12_readE_43 : decode cX12_readE 43 = .ok (.iload_n 2, 1) := by decide +kernel
theorem dX12_readE_44 : decode cX12_readE 44 = .ok (.aload_n 0, 1) := by decide +kernel
theorem dX12_readE_45 : decode cX12_readE 45 = .ok (.invokevirtual 679, 3) := by decide +kernel
theorem dX12_readE_48 : decode cX12_readE 48 = .ok (.iastore, 1) := by decide +kernel
theorem dX12_readE_49 : decode cX12_readE 49 = .ok (.iload_n 2, 1) := by decide +kernel
theorem dX12_readE_50 : decode cX12_readE 50 = .ok (.istore_n 1, 1) := by decide +kernel
theorem dX12_readE_51 : decode cX12_readE 51 = .ok (.goto (-46), 3) := by decide +kernel
theorem dX12_readE_54 : decode cX12_readE 54 = .ok (.iload_n 1, 1) := by decide +kernel
theorem dX12_readE_55 : decode cX12_readE 55 = .ok (.ireturn, 1) := by decide +kernel
theorem dX12_readFold_0 : decode cX12_readFold 0 = .ok (.aload_n 0, 1) := by decide +kernel
theorem dX12_readFold_1 : decode cX12_readFold 1 = .ok (.iload_n 1, 1) := by decide +kernel
theorem dX12_readFold_2 : decode cX12_readFold 2 = .ok (.invokevirtual 683, 3) := by decide +kernel
theorem dX12_readFold_5 : decode cX12_readFold 5 = .ok (.istore_n 2, 1) := by decide +kernel
theorem dX12_readFold_6 : decode cX12_readFold 6 = .ok (.aload_n 0, 1) := by decide +kernel
theorem dX12_readFold_7 : decode cX12_readFold 7 = .ok (.invokevirtual 740, 3) := by decide +kernel
theorem dX12_readFold_10 : decode cX12_readFold 10 = .ok (.aload_n 0, 1) := by decide +kernel
theorem dX12_readFold_11 : decode cX12_readFold 11 = .ok (.getfield 625, 3) := by decide +kernel
theorem dX12_readFold_14 : decode cX12_readFold 14 = .ok (.ifCond .ne 7, 3) := by decide +kernel
theorem dX12_readFold_17 : decode cX12_readFold 17 = .ok (.aload_n 0, 1) := by decide +kernel
theorem dX12_readFold_18 : decode cX12_readFold 18 = .ok (.invokevirtual 661, 3) := by decide +kernel
theorem dX12_readFold_21 : decode cX12_readFold 21 = .ok (.aload_n 0, 1) := by decide +kernel
theorem dX12_readFold_22 : decode cX12_readFold 22 = .ok (.ldc2_w 754, 3) := by decide +kernel
theorem dX12_readFold_25 : decode cX12_readFold 25 = .ok (.invokevirtual 748, 3) := by decide +kernel
theorem dX12_readFold_28 : decode cX12_readFold 28 = .ok (.aload_n 0, 1) := by decide +kernel
theorem dX12_readFold_29 : decode cX12_readFold 29 = .ok (.getfield 625, 3) := by decide +kernel
theorem dX12_readFold_32 : decode cX12_readFold 32 = .ok (.ifCond .ne 14, 3) := by decide +kernel
theorem dX12_readFold_35 : decode cX12_readFold 35 = .ok (.aload_n 0, 1) := by decide +kernel
theorem dX12_readFold_36 : decode cX12_readFold 36 = .ok (.invokevirtual 710, 3) := by decide +kernel
theorem dX12_readFold_39 : decode cX12_readFold 39 = .ok (.ifCond .ne 7, 3) := by decide +kernel
theorem dX12_readFold_42 : decode cX12_readFold 42 = .ok (.aload_n 0, 1) := by decide +kernel
theorem dX12_readFold_43 : decode cX12_readFold 43 = .ok (.invokevirtual 664, 3) := by decide +kernel
theorem dX12_readFold_46 : decode cX12_readFold 46 = .ok (.aload_n 0, 1) := by decide +kernel
theorem dX12_readFold_47 : decode cX12_readFold 47 = .ok (.getfield 640, 3) := by decide +kernel
theorem dX12_readFold_50 : decode cX12_readFold 50 = .ok (.lstore_n 3, 1) := by decide +kernel
theorem dX12_readFold_51 : decode cX12_readFold 51 = .ok (.aload_n 0, 1) := by decide +kernel
theorem dX12_readFold_52 : decode cX12_readFold 52 = .ok (.getfield 625, 3) := by decide +kernel
theorem dX12_readFold_55 : decode cX12_readFold 55 = .ok (.ifCond .ne 7, 3) := by decide +kernel
theorem dX12_readFold_58 : decode cX12_readFold 58 = .ok (.aload_n 0, 1) := by decide +kernel
theorem dX12_readFold_59 : decode cX12_readFold 59 = .ok (.invokevirtual 661, 3) := by decide +kernel
theorem dX12_readFold_62 : decode cX12_readFold 62 = .ok (.aload_n 0, 1) := by decide +kernel
theorem dX12_readFold_63 : decode cX12_readFold 63 = .ok (.getfield 625, 3) := by decide +kernel
theorem dX12_readFold_66 : decode cX12_readFold 66 = .ok (.ifCond .ne 16, 3) := by decide +kernel
theorem dX12_readFold_69 : decode cX12_readFold 69 = .ok (.aload_n 0, 1) := by decide +kernel
theorem dX12_readFold_70 : decode cX12_readFold 70 = .ok (.bipush 12, 2) := by decide +kernel
theorem dX12_readFold_72 : decode cX12_readFold 72 = .ok (.invokevirtual 768, 3) := by decide +kernel
theorem dX12_readFold_75 : decode cX12_readFold 75 = .ok (.ifCond .ne 7, 3) := by decide +kernel
theorem dX12_readFold_78 : decode cX12_readFold 78 = .ok (.aload_n 0, 1) := by decide +kernel
theorem dX12_readFold_79 : decode cX12_readFold 79 = .ok (.invokevirtual 664, 3) := by decide +kernel
theorem dX12_readFold_82 : decode cX12_readFold 82 = .ok (.aload_n 0, 1) := by decide +kernel
theorem dX12_readFold_83 : decode cX12_readFold 83 = .ok (.getfield 275, 3) := by decide +kernel
theorem dX12_readFold_86 : decode cX12_readFold 86 = .ok (.iload_n 2, 1) := by decide +kernel
theorem dX12_readFold_87 : decode cX12_readFold 87 = .ok (.aload_n 0, 1) := by decide +kernel
theorem dX12_readFold_88 : decode cX12_readFold 88 = .ok (.invokevirtual 771, 3) := by decide +kernel
theorem dX12_readFold_91 : decode cX12_readFold 91 = .ok (.iastore, 1) := by decide +kernel
theorem dX12_readFold_92 : decode cX12_readFold 92 = .ok (.aload_n 0, 1) := by decide +kernel
theorem dX12_readFold_93 : decode cX12_readFold 93 = .ok (.getfield 287, 3) := by decide +kernel
theorem dX12_readFold_96 : decode cX12_readFold 96 = .ok (.aload_n 0, 1) := by decide +kernel
theorem dX12_readFold_97 : decode cX12_readFold 97 = .ok (.getfield 761, 3) := by decide +kernel
theorem dX12_readFold_100 : decode cX12_readFold 100 = .ok (.lload_n 3, 1) := by decide +kernel
theorem dX12_readFold_101 : decode cX12_readFold 101 = .ok (.lastore, 1) := by decide +kernel
theorem dX12_readFold_102 : decode cX12_readFold 102 = .ok (.aload_n 0, 1) := by decide +kernel
theorem dX12_readFold_103 : decode cX12_readFold 103 = .ok (.dup, 1) := by decide +kernel
theorem dX12_readFold_104 : decode cX12_readFold 104 = .ok (.getfield 761, 3) := by decide +kernel
theorem dX12_readFold_107 : decode cX12_readFold 107 = .ok (.iconst 1, 1) := by decide +kernel
theorem dX12_readFold_108 : decode cX12_readFold 108 = .ok (.iadd, 1) := by decide +kernel
theorem dX12_readFold_109 : decode cX12_readFold 109 = .ok (.putfield 761, 3) := by decide +kernel
theorem dX12_readFold_112 : decode cX12_readFold 112 = .ok (.aload_n 0, 1) := by decide +kernel
theorem dX12_readFold_113 : decode cX12_readFold 113 = .ok (.iconst 3, 1) := by decide +kernel
theorem dX12_readFold_114 : decode cX12_readFold 114 = .ok (.invokevirtual 768, 3) := by decide +kernel
theorem dX12_readFold_117 : decode cX12_readFold 117 = .ok (.ifCond .eq 13, 3) := by decide +kernel
theorem dX12_readFold_120 : decode cX12_readFold 120 = .ok (.aload_n 0, 1) := by decide +kernel
theorem dX12_readFold_121 : decode cX12_readFold 121 = .ok (.getfield 278, 3) := by decide +kernel
theorem dX12_readFold_124 : decode cX12_readFold 124 = .ok (.iload_n 2, 1) := by decide +kernel
theorem dX12_readFold_125 : decode cX12_readFold 125 = .ok (.aload_n 0, 1) := by decide +kernel
theorem dX12_readFold_126 : decode cX12_readFold 126 = .ok (.invokevirtual 743, 3) := by decide +kernel
theorem dX12_readFold_129 : decode cX12_readFold 129 = .ok (.iastore, 1) := by decide +kernel
theorem dX12_readFold_130 : decode cX12_readFold 130 = .ok (.iload_n 1, 1) := by decide +kernel
theorem dX12_readFold_131 : decode cX12_readFold 131 = .ok (.bipush 13, 2) := by decide +kernel
theorem dX12_readFold_133 : decode cX12_readFold 133 = .ok (.if_icmp .eq 31, 3) := by decide +kernel
theorem dX12_readFold_136 : decode cX12_readFold 136 = .ok (.aload_n 0, 1) := by decide +kernel
theorem dX12_readFold_137 : decode cX12_readFold 137 = .ok (.ldc2_w 774, 3) := by decide +kernel
theorem dX12_readFold_140 : decode cX12_readFold 140 = .ok (.invokevirtual 748, 3) := by decide +kernel
theorem dX12_readFold_143 : decode cX12_readFold 143 = .ok (.aload_n 0, 1) := by decide +kernel
theorem dX12_readFold_144 : decode cX12_readFold 144 = .ok (.getfield 281, 3) := by decide +kernel
theorem dX12_readFold_147 : decode cX12_readFold 147 = .ok (.iload_n 2, 1) := by decide +kernel
theorem dX12_readFold_148 : decode cX12_readFold 148 = .ok (.aload_n 0, 1) := by decide +kernel
theorem dX12_readFold_149 : decode cX12_readFold 149 = .ok (.getfield 625, 3) := by decide +kernel
theorem dX12_readFold_152 : decode cX12_readFold 152 = .ok (.ifCond .ne 10, 3) := by decide +kernel
theorem dX12_readFold_155 : decode cX12_readFold 155 = .ok (.aload_n 0, 1) := by decide +kernel
theorem dX12_readFold_156 : decode cX12_readFold 156 = .ok (.invokevirtual 743, 3) := by decide +kernel
theorem dX12_readFold_159 : decode cX12_readFold 159 = .ok (.goto 4, 3) := by decide +kernel
theorem dX12_readFold_162 : decode cX12_readFold 162 = .ok (.iconst (-1), 1) := by decide +kernel
theorem dX12_readFold_163 : decode cX12_readFold 163 = .ok (.iastore, 1) := by decide +kernel
theorem dX12_readFold_164 : decode cX12_readFold 164 = .ok (.aload_n 0, 1) := by decide +kernel
theorem dX12_readFold_165 : decode cX12_readFold 165 = .ok (.ldc2_w 756, 3) := by decide +kernel
theorem dX12_readFold_168 : decode cX12_readFold 168 = .ok (.invokevirtual 748, 3) := by decide +kernel
theorem dX12_readFold_171 : decode cX12_readFold 171 = .ok (.aload_n 0, 1) := by decide +kernel
theorem dX12_readFold_172 : decode cX12_readFold 172 = .ok (.dup, 1) := by decide +kernel
theorem dX12_readFold_173 : decode cX12_readFold 173 = .ok (.getfield 761, 3) := by decide +kernel
theorem dX12_readFold_176 : decode cX12_readFold 176 = .ok (.iconst 1, 1) := by decide +kernel
theorem dX12_readFold_177 : decode cX12_readFold 177 = .ok (.isub, 1) := by decide +kernel
theorem dX12_readFold_178 : decode cX12_readFold 178 = .ok (.putfield 761, 3) := by decide +kernel
theorem dX12_readFold_181 : decode cX12_readFold 181 = .ok (.aload_n 0, 1) := by decide +kernel
theorem dX12_readFold_182 : decode cX12_readFold 182 = .ok (.dup, 1) := by decide +kernel
theorem dX12_readFold_183 : decode cX12_readFold 183 = .ok (.getfield 676, 3) := by decide +kernel
theorem dX12_readFold_186 : decode cX12_readFold 186 = .ok (.iconst 1, 1) := by decide +kernel
theorem dX12_readFold_187 : decode cX12_readFold 187 = .ok (.isub, 1) := by decide +kernel
theorem dX12_readFold_188 : decode cX12_readFold 188 = .ok (.putfield 676, 3) := by decide +kernel
theorem dX12_readFold_191 : decode cX12_readFold 191 = .ok (.iload_n 2, 1) := by decide +kernel
theorem dX12_readFold_192 : decode cX12_readFold 192 = .ok (.ireturn, 1) := by decide +kernel
theorem dX12_readNot_0 : decode cX12_readNot 0 = .ok (.aload_n 0, 1) := by decide +kernel
theorem dX12_readNot_1 : decode cX12_readNot 1 = .ok (.getfield 625, 3) := by decide +kernel
theorem dX12_readNot_4 : decode cX12_readNot 4 = .ok (.ifCond .gt 12, 3) := by decide +kernel
theorem dX12_readNot_7 : decode cX12_readNot 7 = .ok (.aload_n 0, 1) := by decide +kernel
theorem dX12_readNot_8 : decode cX12_readNot 8 = .ok (.bipush 7, 2) := by decide +kernel
theorem dX12_readNot_10 : decode cX12_readNot 10 = .ok (.invokevirtual 667, 3) := by decide +kernel
theorem dX12_readNot_13 : decode cX12_readNot 13 = .ok (.ifCond .ne 8, 3) := by decide +kernel
theorem dX12_readNot_16 : decode cX12_readNot 16 = .ok (.aload_n 0, 1) := by decide +kernel
theorem dX12_readNot_17 : decode cX12_readNot 17 = .ok (.invokevirtual 689, 3) := by decide +kernel
theorem dX12_readNot_20 : decode cX12_readNot 20 = .ok (.ireturn, 1) := by decide +kernel
theorem dX12_readNot_21 : decode cX12_readNot 21 = .ok (.aload_n 0, 1) := by decide +kernel
theorem dX12_readNot_22 : decode cX12_readNot 22 = .ok (.bipush 7, 2) := by decide +kernel
theorem dX12_readNot_24 : decode cX12_readNot 24 = .ok (.invokevirtual 683, 3) := by decide +kernel
theorem dX12_readNot_27 : decode cX12_readNot 27 = .ok (.istore_n 1, 1) := by decide +kernel
theorem dX12_readNot_28 : decode cX12_readNot 28 = .ok (.aload_n 0, 1) := by decide +kernel
theorem dX12_readNot_29 : decode cX12_readNot 29 = .ok (.invokevirtual 661, 3) := by decide +kernel
theorem dX12_readNot_32 : decode cX12_readNot 32 = .ok (.aload_n 0, 1) := by decide +kernel
theorem dX12_readNot_33 : decode cX12_readNot 33 = .ok (.getfield 275, 3) := by decide +kernel
theorem dX12_readNot_36 : decode cX12_readNot 36 = .ok (.iload_n 1, 1) := by decide +kernel
theorem dX12_readNot_37 : decode cX12_readNot 37 = .ok (.aload_n 0, 1) := by decide +kernel
theorem dX12_readNot_38 : decode cX12_readNot 38 = .ok (.invokevirtual 686, 3) := by decide +kernel
theorem dX12_readNot_41 : decode cX12_readNot 41 = .ok (.iastore, 1) := by decide +kernel
theorem dX12_readNot_42 : decode cX12_readNot 42 = .ok (.iload_n 1, 1) := by decide +kernel
theorem dX12_readNot_43 : decode cX12_readNot 43 = .ok (.ireturn, 1) := by decide +kernel
theorem dX12_readP_0 : decode cX12_readP 0 = .ok (.aload_n 0, 1) := by decide +kernel
theorem dX12_readP_1 : decode cX12_readP 1 = .ok (.invokevirtual 733, 3) := by decide +kernel
theorem dX12_readP_4 : decode cX12_readP 4 = .ok (.istore_n 1, 1) := by decide +kernel
theorem dX12_readP_5 : decode cX12_readP 5 = .ok (.aload_n 0, 1) := by decide +kernel
theorem dX12_readP_6 : decode cX12_readP 6 = .ok (.getfield 625, 3) := by decide +kernel
theorem dX12_readP_9 : decode cX12_readP 9 = .ok (.ifCond .ne 162, 3) := by decide +kernel
theorem dX12_readP_12 : decode cX12_readP 12 = .ok (.aload_n 0, 1) := by decide +kernel
theorem dX12_readP_13 : decode cX12_readP 13 = .ok (.ldc2_w 736, 3) := by decide +kernel
theorem dX12_readP_16 : decode cX12_readP 16 = .ok (.invokevirtual 657, 3) := by decide +kernel
theorem dX12_readP_19 : decode cX12_readP 19 = .ok (.ifCond .ne 13, 3) := by decide +kernel
theorem dX12_readP_22 : decode cX12_readP 22 = .ok (.aload_n 0, 1) := by decide +kernel
theorem dX12_readP_23 : decode cX12_readP 23 = .ok (.ldc2_w 738, 3) := by decide +kernel
theorem dX12_readP_26 : decode cX12_readP 26 = .ok (.invokevirtual 657, 3) := by decide +kernel
theorem dX12_readP_29 : decode cX12_readP 29 = .ok (.ifCond .eq 142, 3) := by decide +kernel
theorem dX12_readP_32 : decode cX12_readP 32 = .ok (.aload_n 0, 1) := by decide +kernel
theorem dX12_readP_33 : decode cX12_readP 33 = .ok (.ldc2_w 736, 3) := by decide +kernel
theorem dX12_readP_36 : decode cX12_readP 36 = .ok (.invokevirtual 657, 3) := by decide +kernel
theorem dX12_readP_39 : decode cX12_readP 39 = .ok (.istore_n 2, 1) := by decide +kernel
theorem dX12_readP_40 : decode cX12_readP 40 = .ok (.aload_n 0, 1) := by decide +kernel
theorem dX12_readP_41 : decode cX12_readP 41 = .ok (.iload_n 2, 1) := by decide +kernel
theorem dX12_readP_42 : decode cX12_readP 42 = .ok (.ifCond .eq 8, 3) := by decide +kernel
theorem dX12_readP_45 : decode cX12_readP 45 = .ok (.bipush 114, 2) := by decide +kernel
theorem dX12_readP_47 : decode cX12_readP 47 = .ok (.goto 5, 3) := by decide +kernel
theorem dX12_readP_50 : decode cX12_readP 50 = .ok (.bipush 115, 2) := by decide +kernel
theorem dX12_readP_52 : decode cX12_readP 52 = .ok (.invokevirtual 683, 3) := by decide +kernel
theorem dX12_readP_55 : decode cX12_readP 55 = .ok (.istore_n 3, 1) := by decide +kernel
theorem dX12_readP_56 : decode cX12_readP 56 = .ok (.iload_n 2, 1) := by decide +kernel
theorem dX12_readP_57 : decode cX12_readP 57 = .ok (.ifCond .ne 7, 3) := by decide +kernel
theorem dX12_readP_60 : decode cX12_readP 60 = .ok (.aload_n 0, 1) := by decide +kernel
theorem dX12_readP_61 : decode cX12_readP 61 = .ok (.invokevirtual 740, 3) := by decide +kernel
theorem dX12_readP_64 : decode cX12_readP 64 = .ok (.aload_n 0, 1) := by decide +kernel
theorem dX12_readP_65 : decode cX12_readP 65 = .ok (.getfield 625, 3) := by decide +kernel
theorem dX12_readP_68 : decode cX12_readP 68 = .ok (.ifCond .ne 7, 3) := by decide +kernel
theorem dX12_readP_71 : decode cX12_readP 71 = .ok (.aload_n 0, 1) := by decide +kernel
theorem dX12_readP_72 : decode cX12_readP 72 = .ok (.invokevirtual 661, 3) := by decide +kernel
theorem dX12_readP_75 : decode cX12_readP 75 = .ok (.aload_n 0, 1) := by decide +kernel
theorem dX12_readP_76 : decode cX12_readP 76 = .ok (.getfield 275, 3) := by decide +kernel
theorem dX12_readP_79 : decode cX12_readP 79 = .ok (.iload_n 3, 1) := by decide +kernel
theorem dX12_readP_80 : decode cX12_readP 80 = .ok (.iload_n 1, 1) := by decide +kernel
theorem dX12_readP_81 : decode cX12_readP 81 = .ok (.iastore, 1) := by decide +kernel
theorem dX12_readP_82 : decode cX12_readP 82 = .ok (.iload_n 2, 1) := by decide +kernel
theorem dX12_readP_83 : decode cX12_readP 83 = .ok (.ifCond .eq 45, 3) := by decide +kernel
theorem dX12_readP_86 : decode cX12_readP 86 = .ok (.aload_n 0, 1) := by decide +kernel
theorem dX12_readP_87 : decode cX12_readP 87 = .ok (.getfield 625, 3) := by decide +kernel
theorem dX12_readP_90 : decode cX12_readP 90 = .ok (.ifCond .ne 14, 3) := by decide +kernel
theorem dX12_readP_93 : decode cX12_readP 93 = .ok (.aload_n 0, 1) := by decide +kernel
theorem dX12_readP_94 : decode cX12_readP 94 = .ok (.invokevirtual 710, 3) := by decide +kernel
theorem dX12_readP_97 : decode cX12_readP 97 = .ok (.ifCond .ne 7, 3) := by decide +kernel
theorem dX12_readP_100 : decode cX12_readP 100 = .ok (.aload_n 0, 1) := by decide +kernel
theorem dX12_readP_101 : decode cX12_readP 101 = .ok (.invokevirtual 664, 3) := by decide +kernel
theorem dX12_readP_104 : decode cX12_readP 104 = .ok (.aload_n 0, 1) := by decide +kernel
theorem dX12_readP_105 : decode cX12_readP 105 = .ok (.getfield 284, 3) := by decide +kernel
theorem dX12_readP_108 : decode cX12_readP 108 = .ok (.iload_n 3, 1) := by decide +kernel
theorem dX12_readP_109 : decode cX12_readP 109 = .ok (.aload_n 0, 1) := by decide +kernel
theorem dX12_readP_110 : decode cX12_readP 110 = .ok (.getfield 640, 3) := by decide +kernel
theorem dX12_readP_113 : decode cX12_readP 113 = .ok (.lastore, 1) := by decide +kernel
theorem dX12_readP_114 : decode cX12_readP 114 = .ok (.aload_n 0, 1) := by decide +kernel
theorem dX12_readP_115 : decode cX12_readP 115 = .ok (.getfield 625, 3) := by decide +kernel
theorem dX12_readP_118 : decode cX12_readP 118 = .ok (.ifCond .ne 48, 3) := by decide +kernel
theorem dX12_readP_121 : decode cX12_readP 121 = .ok (.aload_n 0, 1) := by decide +kernel
theorem dX12_readP_122 : decode cX12_readP 122 = .ok (.invokevirtual 661, 3) := by decide +kernel
theorem dX12_readP_125 : decode cX12_readP 125 = .ok (.goto 41, 3) := by decide +kernel
theorem dX12_readP_128 : decode cX12_readP 128 = .ok (.aload_n 0, 1) := by decide +kernel
theorem dX12_readP_129 : decode cX12_readP 129 = .ok (.getfield 278, 3) := by decide +kernel
theorem dX12_readP_132 : decode cX12_readP 132 = .ok (.iload_n 3, 1) := by decide +kernel
theorem dX12_readP_133 : decode cX12_readP 133 = .ok (.aload_n 0, 1) := by decide +kernel
theorem dX12_readP_134 : decode cX12_readP 134 = .ok (.getfield 625, 3) := by decide +kernel
theorem dX12_readP_137 : decode cX12_readP 137 = .ok (.ifCond .ne 10, 3) := by decide +kernel
theorem dX12_readP_140 : decode cX12_readP 140 = .ok (.aload_n 0, 1) := by decide +kernel
theorem dX12_readP_141 : decode cX12_readP 141 = .ok (.invokevirtual 743, 3) := by decide +kernel
theorem dX12_readP_144 : decode cX12_readP 144 = .ok (.goto 4, 3) := by decide +kernel
theorem dX12_readP_147 : decode cX12_readP 147 = .ok (.iconst (-1), 1) := by decide +kernel
theorem dX12_readP_148 : decode cX12_readP 148 = .ok (.iastore, 1) := by decide +kernel
theorem dX12_readP_149 : decode cX12_readP 149 = .ok (.aload_n 0, 1) := by decide +kernel
theorem dX12_readP_150 : decode cX12_readP 150 = .ok (.ldc2_w 746, 3) := by decide +kernel
theorem dX12_readP_153 : decode cX12_readP 153 = .ok (.invokevirtual 748, 3) := by decide +kernel
theorem dX12_readP_156 : decode cX12_readP 156 = .ok (.aload_n 0, 1) := by decide +kernel
theorem dX12_readP_157 : decode cX12_readP 157 = .ok (.dup, 1) := by decide +kernel
theorem dX12_readP_158 : decode cX12_readP 158 = .ok (.getfield 676, 3) := by decide +kernel
theorem dX12_readP_161 : decode cX12_readP 161 = .ok (.iconst 1, 1) := by decide +kernel
theorem dX12_readP_162 : decode cX12_readP 162 = .ok (.isub, 1) := by decide +kernel
theorem dX12_readP_163 : decode cX12_readP 163 = .ok (.putfield 676, 3) := by decide +kernel
theorem dX12_readP_166 : decode cX12_readP 166 = .ok (.iload_n 3, 1) := by decide +kernel
theorem dX12_readP_167 : decode cX12_readP 167 = .ok (.istore_n 1, 1) := by decide +kernel
theorem dX12_readP_168 : decode cX12_readP 168 = .ok (.goto (-163), 3) := by decide +kernel
theorem dX12_readP_171 : decode cX12_readP 171 = .ok (.iload_n 1, 1) := by decide +kernel
theorem dX12_readP_172 : decode cX12_readP 172 = .ok (.ireturn, 1) := by decide +kernel
theorem dX12_readPlaces_0 : decode cX12_readPlaces 0 = .ok (.aload_n 0, 1) := by decide +kernel
theorem dX12_readPlaces_1 : decode cX12_readPlaces 1 = .ok (.ldc2_w 754, 3) := by decide +kernel
theorem dX12_readPlaces_4 : decode cX12_readPlaces 4 = .ok (.invokevirtual 748, 3) := by decide +kernel
theorem dX12_readPlaces_7 : decode cX12_readPlaces 7 = .ok (.aload_n 0, 1) := by decide +kernel
theorem dX12_readPlaces_8 : decode cX12_readPlaces 8 = .ok (.aload_n 0, 1) := by decide +kernel
theorem dX12_readPlaces_9 : decode cX12_readPlaces 9 = .ok (.invokevirtual 891, 3) := by decide +kernel
theorem dX12_readPlaces_12 : decode cX12_readPlaces 12 = .ok (.putfield 894, 3) := by decide +kernel
theorem dX12_readPlaces_15 : decode cX12_readPlaces 15 = .ok (.aload_n 0, 1) := by decide +kernel
theorem dX12_readPlaces_16 : decode cX12_readPlaces 16 = .ok (.iconst (-1), 1) := by decide +kernel
theorem dX12_readPlaces_17 : decode cX12_readPlaces 17 = .ok (.putfield 897, 3) := by decide +kernel
theorem dX12_readPlaces_20 : decode cX12_readPlaces 20 = .ok (.aload_n 0, 1) := by decide +kernel
theorem dX12_readPlaces_21 : decode cX12_readPlaces 21 = .ok (.getfield 625, 3) := by decide +kernel
theorem dX12_readPlaces_24 : decode cX12_readPlaces 24 = .ok (.ifCond .le 4, 3) := by decide +kernel
theorem dX12_readPlaces_27 : decode cX12_readPlaces 27 = .ok (.return_, 1) := by decide +kernel
theorem dX12_readPlaces_28 : decode cX12_readPlaces 28 = .ok (.aload_n 0, 1) := by decide +kernel
theorem dX12_readPlaces_29 : decode cX12_readPlaces 29 = .ok (.ldc2_w 900, 3) := by decide +kernel
theorem dX12_readPlaces_32 : decode cX12_readPlaces 32 = .ok (.invokevirtual 657, 3) := by decide +kernel
theorem dX12_readPlaces_35 : decode cX12_readPlaces 35 = .ok (.istore 4, 2) := by decide +kernel
theorem dX12_readPlaces_37 : decode cX12_readPlaces 37 = .ok (.iload_n 3, 1) := by decide +kernel
theorem dX12_readPlaces_38 : decode cX12_readPlaces 38 = .ok (.ifCond .eq 8, 3) := by decide +kernel
theorem dX12_readPlaces_41 : decode cX12_readPlaces 41 = .ok (.iload 4, 2) := by decide +kernel
theorem dX12_readPlaces_43 : decode cX12_readPlaces 43 = .ok (.ifCond .eq 18, 3) := by decide +kernel
theorem dX12_readPlaces_46 : decode cX12_readPlaces 46 = .ok (.iload 4, 2) := by decide +kernel
theorem dX12_readPlaces_48 : decode cX12_readPlaces 48 = .ok (.ifCond .ne 18, 3) := by decide +kernel
theorem dX12_readPlaces_51 : decode cX12_readPlaces 51 = .ok (.aload_n 0, 1) := by decide +kernel
theorem dX12_readPlaces_52 : decode cX12_readPlaces 52 = .ok (.ldc2_w 756, 3) := by decide +kernel
theorem dX12_readPlaces_55 : decode cX12_readPlaces 55 = .ok (.invokevirtual 657, 3) := by decide +kernel
theorem dX12_readPlaces_58 : decode cX12_readPlaces 58 = .ok (.ifCond .ne 8, 3) := by decide +kernel
theorem dX12_readPlaces_61 : decode cX12_readPlaces 61 = .ok (.aload_n 0, 1) := by decide +kernel
theorem dX12_readPlaces_62 : decode cX12_readPlaces 62 = .ok (.invokevirtual 664, 3) := by decide +kernel
theorem dX12_readPlaces_65 : decode cX12_readPlaces 65 = .ok (.return_, 1) := by decide +kernel
theorem dX12_readPlaces_66 : decode cX12_readPlaces 66 = .ok (.iload_n 1, 1) := by decide +kernel
theorem dX12_readPlaces_67 : decode cX12_readPlaces 67 = .ok (.iconst (-1), 1) := by decide +kernel
theorem dX12_readPlaces_68 : decode cX12_readPlaces 68 = .ok (.if_icmp .eq 28, 3) := by decide +kernel
theorem dX12_readPlaces_71 : decode cX12_readPlaces 71 = .ok (.aload_n 0, 1) := by decide +kernel
theorem dX12_readPlaces_72 : decode cX12_readPlaces 72 = .ok (.getfield 324, 3) := by decide +kernel
theorem dX12_readPlaces_75 : decode cX12_readPlaces 75 = .ok (.iload_n 1, 1) := by decide +kernel
theorem dX12_readPlaces_76 : decode cX12_readPlaces 76 = .ok (.iaload, 1) := by decide +kernel
theorem dX12_readPlaces_77 : decode cX12_readPlaces 77 = .ok (.ifCond .ne 19, 3) := by decide +kernel
theorem dX12_readPlaces_80 : decode cX12_readPlaces 80 = .ok (.aload_n 0, 1) := by decide +kernel
theorem dX12_readPlaces_81 : decode cX12_readPlaces 81 = .ok (.getfield 324, 3) := by decide +kernel
theorem dX12_readPlaces_84 : decode cX12_readPlaces 84 = .ok (.iload_n 1, 1) := by decide +kernel
theorem dX12_readPlaces_85 : decode cX12_readPlaces 85 = .ok (.iload 4, 2) := by decide +kernel
theorem dX12_readPlaces_87 : decode cX12_readPlaces 87 = .ok (.ifCond .eq 7, 3) := by decide +kernel
theorem dX12_readPlaces_90 : decode cX12_readPlaces 90 = .ok (.iconst 2, 1) := by decide +kernel
theorem dX12_readPlaces_91 : decode cX12_readPlaces 91 = .ok (.goto 4, 3) := by decide +kernel
theorem dX12_readPlaces_94 : decode cX12_readPlaces 94 = .ok (.iconst 1, 1) := by decide +kernel
theorem dX12_readPlaces_95 : decode cX12_readPlaces 95 = .ok (.iastore, 1) := by decide +kernel
theorem dX12_readPlaces_96 : decode cX12_readPlaces 96 = .ok (.iload_n 1, 1) := by decide +kernel
theorem dX12_readPlaces_97 : decode cX12_readPlaces 97 = .ok (.iconst (-1), 1) := by decide +kernel
theorem dX12_readPlaces_98 : decode cX12_readPlaces 98 = .ok (.if_icmp .eq 28, 3) := by decide +kernel
theorem dX12_readPlaces_101 : decode cX12_readPlaces 101 = .ok (.aload_n 0, 1) := by decide +kernel
theorem dX12_readPlaces_102 : decode cX12_readPlaces 102 = .ok (.getfield 324, 3) := by decide +kernel
theorem dX12_readPlaces_105 : decode cX12_readPlaces 105 = .ok (.iload_n 1, 1) := by decide +kernel
theorem dX12_readPlaces_106 : decode cX12_readPlaces 106 = .ok (.iaload, 1) := by decide +kernel
theorem dX12_readPlaces_107 : decode cX12_readPlaces 107 = .ok (.iload 4, 2) := by decide +kernel
theorem dX12_readPlaces_109 : decode cX12_readPlaces 109 = .ok (.ifCond .eq 7, 3) := by decide +kernel
theorem dX12_readPlaces_112 : decode cX12_readPlaces 112 = .ok (.iconst 2, 1) := by decide +kernel
theorem dX12_readPlaces_113 : decode cX12_readPlaces 113 = .ok (.goto 4, 3) := by decide +kernel
theorem dX12_readPlaces_116 : decode cX12_readPlaces 116 = .ok (.iconst 1, 1) := by decide +kernel
theorem dX12_readPlaces_117 : decode cX12_readPlaces 117 = .ok (.if_icmp .eq 9, 3) := by decide +kernel
theorem dX12_readPlaces_120 : decode cX12_readPlaces 120 = .ok (.aload_n 0, 1) := by decide +kernel
theorem dX12_readPlaces_121 : decode cX12_readPlaces 121 = .ok (.iconst 3, 1) := by decide +kernel
theorem dX12_readPlaces_122 : decode cX12_readPlaces 122 = .ok (.iload_n 2, 1) := by decide +kernel
theorem dX12_readPlaces_123 : decode cX12_readPlaces 123 = .ok (.invokevirtual 653, 3) := by decide +kernel
theorem dX12_readPlaces_126 : decode cX12_readPlaces 126 = .ok (.aload_n 0, 1) := by decide +kernel
theorem dX12_readPlaces_127 : decode cX12_readPlaces 127 = .ok (.ldc2_w 900, 3) := by decide +kernel
theorem dX12_readPlaces_130 : decode cX12_readPlaces 130 = .ok (.invokevirtual 902, 3) := by decide +kernel
theorem dX12_readPlaces_133 : decode cX12_readPlaces 133 = .ok (.ifCond .eq 11, 3) := by decide +kernel
theorem dX12_readPlaces_136 : decode cX12_readPlaces 136 = .ok (.aload_n 0, 1) := by decide +kernel
theorem dX12_readPlaces_137 : decode cX12_readPlaces 137 = .ok (.aload_n 0, 1) := by decide +kernel
theorem dX12_readPlaces_138 : decode cX12_readPlaces 138 = .ok (.invokevirtual 891, 3) := by decide +kernel
theorem dX12_readPlaces_141 : decode cX12_readPlaces 141 = .ok (.putfield 897, 3) := by decide +kernel
theorem dX12_readPlaces_144 : decode cX12_readPlaces 144 = .ok (.aload_n 0, 1) := by decide +kernel
theorem dX12_readPlaces_145 : decode cX12_readPlaces 145 = .ok (.ldc2_w 756, 3) := by decide +kernel
theorem dX12_readPlaces_148 : decode cX12_readPlaces 148 = .ok (.invokevirtual 748, 3) := by decide +kernel
theorem dX12_readPlaces_151 : decode cX12_readPlaces 151 = .ok (.return_, 1) := by decide +kernel
theorem dX12_readProduct_0 : decode cX12_readProduct 0 = .ok (.aload_n 0, 1) := by decide +kernel
theorem dX12_readProduct_1 : decode cX12_readProduct 1 = .ok (.invokevirtual 721, 3) := by decide +kernel
theorem dX12_readProduct_4 : decode cX12_readProduct 4 = .ok (.istore_n 1, 1) := by decide +kernel
theorem dX12_readProduct_5 : decode cX12_readProduct 5 = .ok (.aload_n 0, 1) := by decide +kernel
theorem dX12_readProduct_6 : decode cX12_readProduct 6 = .ok (.getfield 625, 3) := by decide +kernel
theorem dX12_readProduct_9 : decode cX12_readProduct 9 = .ok (.ifCond .ne 96, 3) := by decide +kernel
theorem dX12_readProduct_12 : decode cX12_readProduct 12 = .ok (.aload_n 0, 1) := by decide +kernel
theorem dX12_readProduct_13 : decode cX12_readProduct 13 = .ok (.ldc2_w 724, 3) := by decide +kernel
theorem dX12_readProduct_16 : decode cX12_readProduct 16 = .ok (.invokevirtual 657, 3) := by decide +kernel
theorem dX12_readProduct_19 : decode cX12_readProduct 19 = .ok (.ifCond .ne 23, 3) := by decide +kernel
theorem dX12_readProduct_22 : decode cX12_readProduct 22 = .ok (.aload_n 0, 1) := by decide +kernel
theorem dX12_readProduct_23 : decode cX12_readProduct 23 = .ok (.ldc2_w 726, 3) := by decide +kernel
theorem dX12_readProduct_26 : decode cX12_readProduct 26 = .ok (.invokevirtual 657, 3) := by decide +kernel
theorem dX12_readProduct_29 : decode cX12_readProduct 29 = .ok (.ifCond .ne 13, 3) := by decide +kernel
theorem dX12_readProduct_32 : decode cX12_readProduct 32 = .ok (.aload_n 0, 1) := by decide +kernel
theorem dX12_readProduct_33 : decode cX12_readProduct 33 = .ok (.ldc2_w 728, 3) := by decide +kernel
theorem dX12_readProduct_36 : decode cX12_readProduct 36 = .ok (.invokevirtual 657, 3) := by decide +kernel
theorem dX12_readProduct_39 : decode cX12_readProduct 39 = .ok (.ifCond .eq 66, 3) := by decide +kernel
theorem dX12_readProduct_42 : decode cX12_readProduct 42 = .ok (.aload_n 0, 1) := by decide +kernel
theorem dX12_readProduct_43 : decode cX12_readProduct 43 = .ok (.aload_n 0, 1) := by decide +kernel
theorem dX12_readProduct_44 : decode cX12_readProduct 44 = .ok (.ldc2_w 724, 3) := by decide +kernel
theorem dX12_readProduct_47 : decode cX12_readProduct 47 = .ok (.invokevirtual 657, 3) := by decide +kernel
theorem dX12_readProduct_50 : decode cX12_readProduct 50 = .ok (.ifCond .eq 8, 3) := by decide +kernel
theorem dX12_readProduct_53 : decode cX12_readProduct 53 = .ok (.bipush 110, 2) := by decide +kernel
theorem dX12_readProduct_55 : decode cX12_readProduct 55 = .ok (.goto 20, 3) := by decide +kernel
theorem dX12_readProduct_58 : decode cX12_readProduct 58 = .ok (.aload_n 0, 1) := by decide +kernel
theorem dX12_readProduct_59 : decode cX12_readProduct 59 = .ok (.ldc2_w 726, 3) := by decide +kernel
theorem dX12_readProduct_62 : decode cX12_readProduct 62 = .ok (.invokevirtual 657, 3) := by decide +kernel
theorem dX12_readProduct_65 : decode cX12_readProduct 65 = .ok (.ifCond .eq 8, 3) := by decide +kernel
theorem dX12_readProduct_68 : decode cX12_readProduct 68 = .ok (.bipush 111, 2) := by decide +kernel
theorem dX12_readProduct_70 : decode cX12_readProduct 70 = .ok (.goto 5, 3) := by decide +kernel
theorem dX12_readProduct_73 : decode cX12_readProduct 73 = .ok (.bipush 112, 2) := by decide +kernel
theorem dX12_readProduct_75 : decode cX12_readProduct 75 = .ok (.invokevirtual 683, 3) := by decide +kernel
theorem dX12_readProduct_78 : decode cX12_readProduct 78 = .ok (.istore_n 2, 1) := by decide +kernel
theorem dX12_readProduct_79 : decode cX12_readProduct 79 = .ok (.aload_n 0, 1) := by decide +kernel
theorem dX12_readProduct_80 : decode cX12_readProduct 80 = .ok (.invokevirtual 661, 3) := by decide +kernel
theorem dX12_readProduct_83 : decode cX12_readProduct 83 = .ok (.aload_n 0, 1) := by decide +kernel
theorem dX12_readProduct_84 : decode cX12_readProduct 84 = .ok (.getfield 275, 3) := by decide +kernel
theorem dX12_readProduct_87 : decode cX12_readProduct 87 = .ok (.iload_n 2, 1) := by decide +kernel
theorem dX12_readProduct_88 : decode cX12_readProduct 88 = .ok (.iload_n 1, 1) := by decide +kernel
theorem dX12_readProduct_89 : decode cX12_readProduct 89 = .ok (.iastore, 1) := by decide +kernel
theorem dX12_readProduct_90 : decode cX12_readProduct 90 = .ok (.aload_n 0, 1) := by decide +kernel
theorem dX12_readProduct_91 : decode cX12_readProduct 91 = .ok (.getfield 278, 3) := by decide +kernel
theorem dX12_readProduct_94 : decode cX12_readProduct 94 = .ok (.iload_n 2, 1) := by decide +kernel
theorem dX12_readProduct_95 : decode cX12_readProduct 95 = .ok (.aload_n 0, 1) := by decide +kernel
theorem dX12_readProduct_96 : decode cX12_readProduct 96 = .ok (.invokevirtual 721, 3) := by decide +kernel
theorem dX12_readProduct_99 : decode cX12_readProduct 99 = .ok (.iastore, 1) := by decide +kernel
theorem dX12_readProduct_100 : decode cX12_readProduct 100 = .ok (.iload_n 2, 1) := by decide +kernel
theorem dX12_readProduct_101 : decode cX12_readProduct 101 = .ok (.istore_n 1, 1) := by decide +kernel
theorem dX12_readProduct_102 : decode cX12_readProduct 102 = .ok (.goto (-97), 3) := by decide +kernel
theorem dX12_readProduct_105 : decode cX12_readProduct 105 = .ok (.iload_n 1, 1) := by decide +kernel
theorem dX12_readProduct_106 : decode cX12_readProduct 106 = .ok (.ireturn, 1) := by decide +kernel
theorem dX12_readRelation_0 : decode cX12_readRelation 0 = .ok (.aload_n 0, 1) := by decide +kernel
theorem dX12_readRelation_1 : decode cX12_readRelation 1 = .ok (.getfield 631, 3) := by decide +kernel
theorem dX12_readRelation_4 : decode cX12_readRelation 4 = .ok (.istore 5, 2) := by decide +kernel
theorem dX12_readRelation_6 : decode cX12_readRelation 6 = .ok (.aload_n 0, 1) := by decide +kernel
theorem dX12_readRelation_7 : decode cX12_readRelation 7 = .ok (.iload 4, 2) := by decide +kernel
theorem dX12_readRelation_9 : decode cX12_readRelation 9 = .ok (.putfield 631, 3) := by decide +kernel
theorem dX12_readRelation_12 : decode cX12_readRelation 12 = .ok (.aload_n 0, 1) := by decide +kernel
theorem dX12_readRelation_13 : decode cX12_readRelation 13 = .ok (.invokevirtual 661, 3) := by decide +kernel
theorem dX12_readRelation_16 : decode cX12_readRelation 16 = .ok (.aload_n 0, 1) := by decide +kernel
theorem dX12_readRelation_17 : decode cX12_readRelation 17 = .ok (.getfield 339, 3) := by decide +kernel
theorem dX12_readRelation_20 : decode cX12_readRelation 20 = .ok (.iload_n 1, 1) := by decide +kernel
theorem dX12_readRelation_21 : decode cX12_readRelation 21 = .ok (.iconst 0, 1) := by decide +kernel
theorem dX12_readRelation_22 : decode cX12_readRelation 22 = .ok (.iastore, 1) := by decide +kernel
theorem dX12_readRelation_23 : decode cX12_readRelation 23 = .ok (.aload_n 0, 1) := by decide +kernel
theorem dX12_readRelation_24 : decode cX12_readRelation 24 = .ok (.getfield 342, 3) := by decide +kernel
theorem dX12_readRelation_27 : decode cX12_readRelation 27 = .ok (.iload_n 1, 1) := by decide +kernel
theorem dX12_readRelation_28 : decode cX12_readRelation 28 = .ok (.aload_n 0, 1) := by decide +kernel
theorem dX12_readRelation_29 : decode cX12_readRelation 29 = .ok (.invokevirtual 911, 3) := by decide +kernel
theorem dX12_readRelation_32 : decode cX12_readRelation 32 = .ok (.iastore, 1) := by decide +kernel
theorem dX12_readRelation_33 : decode cX12_readRelation 33 = .ok (.aload_n 0, 1) := by decide +kernel
theorem dX12_readRelation_34 : decode cX12_readRelation 34 = .ok (.getfield 625, 3) := by decide +kernel
theorem dX12_readRelation_37 : decode cX12_readRelation 37 = .ok (.ifCond .le 4, 3) := by decide +kernel
theorem dX12_readRelation_40 : decode cX12_readRelation 40 = .ok (.return_, 1) := by decide +kernel
theorem dX12_readRelation_41 : decode cX12_readRelation 41 = .ok (.aload_n 0, 1) := by decide +kernel
theorem dX12_readRelation_42 : decode cX12_readRelation 42 = .ok (.invokevirtual 661, 3) := by decide +kernel
theorem dX12_readRelation_45 : decode cX12_readRelation 45 = .ok (.aload_n 0, 1) := by decide +kernel
theorem dX12_readRelation_46 : decode cX12_readRelation 46 = .ok (.aload_n 0, 1) := by decide +kernel
theorem dX12_readRelation_47 : decode cX12_readRelation 47 = .ok (.getfield 342, 3) := by decide +kernel
theorem dX12_readRelation_50 : decode cX12_readRelation 50 = .ok (.iload_n 1, 1) := by decide +kernel
theorem dX12_readRelation_51 : decode cX12_readRelation 51 = .ok (.iaload, 1) := by decide +kernel
theorem dX12_readRelation_52 : decode cX12_readRelation 52 = .ok (.iload 4, 2) := by decide +kernel
theorem dX12_readRelation_54 : decode cX12_readRelation 54 = .ok (.iconst 0, 1) := by decide +kernel
theorem dX12_readRelation_55 : decode cX12_readRelation 55 = .ok (.invokevirtual 914, 3) := by decide +kernel
theorem dX12_readRelation_58 : decode cX12_readRelation 58 = .ok (.aload_n 0, 1) := by decide +kernel
theorem dX12_readRelation_59 : decode cX12_readRelation 59 = .ok (.getfield 345, 3) := by decide +kernel
theorem dX12_readRelation_62 : decode cX12_readRelation 62 = .ok (.iload_n 1, 1) := by decide +kernel
theorem dX12_readRelation_63 : decode cX12_readRelation 63 = .ok (.aload_n 0, 1) := by decide +kernel
theorem dX12_readRelation_64 : decode cX12_readRelation 64 = .ok (.getfield 894, 3) := by decide +kernel
theorem dX12_readRelation_67 : decode cX12_readRelation 67 = .ok (.iastore, 1) := by decide +kernel
theorem dX12_readRelation_68 : decode cX12_readRelation 68 = .ok (.aload_n 0, 1) := by decide +kernel
theorem dX12_readRelation_69 : decode cX12_readRelation 69 = .ok (.getfield 348, 3) := by decide +kernel
theorem dX12_readRelation_72 : decode cX12_readRelation 72 = .ok (.iload_n 1, 1) := by decide +kernel
theorem dX12_readRelation_73 : decode cX12_readRelation 73 = .ok (.aload_n 0, 1) := by decide +kernel
theorem dX12_readRelation_74 : decode cX12_readRelation 74 = .ok (.getfield 897, 3) := by decide +kernel
theorem dX12_readRelation_77 : decode cX12_readRelation 77 = .ok (.iastore, 1) := by decide +kernel
theorem dX12_readRelation_78 : decode cX12_readRelation 78 = .ok (.return_, 1) := by decide +kernel
theorem dX12_readRule_0 : decode cX12_readRule 0 = .ok (.aload_n 0, 1) := by decide +kernel
theorem dX12_readRule_1 : decode cX12_readRule 1 = .ok (.invokevirtual 885, 3) := by decide +kernel
theorem dX12_readRule_4 : decode cX12_readRule 4 = .ok (.ifCond .ne 7, 3) := by decide +kernel
theorem dX12_readRule_7 : decode cX12_readRule 7 = .ok (.aload_n 0, 1) := by decide +kernel
theorem dX12_readRule_8 : decode cX12_readRule 8 = .ok (.invokevirtual 664, 3) := by decide +kernel
theorem dX12_readRule_11 : decode cX12_readRule 11 = .ok (.aload_n 0, 1) := by decide +kernel
theorem dX12_readRule_12 : decode cX12_readRule 12 = .ok (.getfield 625, 3) := by decide +kernel
theorem dX12_readRule_15 : decode cX12_readRule 15 = .ok (.ifCond .ne 21, 3) := by decide +kernel
theorem dX12_readRule_18 : decode cX12_readRule 18 = .ok (.aload_n 0, 1) := by decide +kernel
theorem dX12_readRule_19 : decode cX12_readRule 19 = .ok (.getfield 908, 3) := by decide +kernel
theorem dX12_readRule_22 : decode cX12_readRule 22 = .ok (.bipush 12, 2) := by decide +kernel
theorem dX12_readRule_24 : decode cX12_readRule 24 = .ok (.if_icmp .ne 12, 3) := by decide +kernel
theorem dX12_readRule_27 : decode cX12_readRule 27 = .ok (.aload_n 0, 1) := by decide +kernel
theorem dX12_readRule_28 : decode cX12_readRule 28 = .ok (.iconst 4, 1) := by decide +kernel
theorem dX12_readRule_29 : decode cX12_readRule 29 = .ok (.aload_n 0, 1) := by decide +kernel
theorem dX12_readRule_30 : decode cX12_readRule 30 = .ok (.getfield 637, 3) := by decide +kernel
theorem dX12_readRule_33 : decode cX12_readRule 33 = .ok (.invokevirtual 653, 3) := by decide +kernel
theorem dX12_readRule_36 : decode cX12_readRule 36 = .ok (.aload_n 0, 1) := by decide +kernel
theorem dX12_readRule_37 : decode cX12_readRule 37 = .ok (.getfield 625, 3) := by decide +kernel
theorem dX12_readRule_40 : decode cX12_readRule 40 = .ok (.ifCond .le 4, 3) := by decide +kernel
theorem dX12_readRule_43 : decode cX12_readRule 43 = .ok (.return_, 1) := by decide +kernel
theorem dX12_readRule_44 : decode cX12_readRule 44 = .ok (.aload_n 0, 1) := by decide +kernel
theorem dX12_readRule_45 : decode cX12_readRule 45 = .ok (.getfield 908, 3) := by decide +kernel
theorem dX12_readRule_48 : decode cX12_readRule 48 = .ok (.istore_n 1, 1) := by decide +kernel
theorem dX12_readRule_49 : decode cX12_readRule 49 = .ok (.aload_n 0, 1) := by decide +kernel
theorem dX12_readRule_50 : decode cX12_readRule 50 = .ok (.getfield 637, 3) := by decide +kernel
theorem dX12_readRule_53 : decode cX12_readRule 53 = .ok (.istore_n 2, 1) := by decide +kernel
theorem dX12_readRule_54 : decode cX12_readRule 54 = .ok (.aload_n 0, 1) := by decide +kernel
theorem dX12_readRule_55 : decode cX12_readRule 55 = .ok (.iconst 0, 1) := by decide +kernel
theorem dX12_readRule_56 : decode cX12_readRule 56 = .ok (.putfield 888, 3) := by decide +kernel
theorem dX12_readRule_59 : decode cX12_readRule 59 = .ok (.aload_n 0, 1) := by decide +kernel
theorem dX12_readRule_60 : decode cX12_readRule 60 = .ok (.getfield 327, 3) := by decide +kernel
theorem dX12_readRule_63 : decode cX12_readRule 63 = .ok (.iload_n 1, 1) := by decide +kernel
theorem dX12_readRule_64 : decode cX12_readRule 64 = .ok (.aload_n 0, 1) := by decide +kernel
theorem dX12_readRule_65 : decode cX12_readRule 65 = .ok (.invokevirtual 911, 3) := by decide +kernel
theorem dX12_readRule_68 : decode cX12_readRule 68 = .ok (.iastore, 1) := by decide +kernel
theorem dX12_readRule_69 : decode cX12_readRule 69 = .ok (.aload_n 0, 1) := by decide +kernel
theorem dX12_readRule_70 : decode cX12_readRule 70 = .ok (.getfield 625, 3) := by decide +kernel
theorem dX12_readRule_73 : decode cX12_readRule 73 = .ok (.ifCond .le 4, 3) := by decide +kernel
theorem dX12_readRule_76 : decode cX12_readRule 76 = .ok (.return_, 1) := by decide +kernel
theorem dX12_readRule_77 : decode cX12_readRule 77 = .ok (.aload_n 0, 1) := by decide +kernel
theorem dX12_readRule_78 : decode cX12_readRule 78 = .ok (.invokevirtual 661, 3) := by decide +kernel
theorem dX12_readRule_81 : decode cX12_readRule 81 = .ok (.aload_n 0, 1) := by decide +kernel
theorem dX12_readRule_82 : decode cX12_readRule 82 = .ok (.aload_n 0, 1) := by decide +kernel
theorem dX12_readRule_83 : decode cX12_readRule 83 = .ok (.getfield 327, 3) := by decide +kernel
theorem dX12_readRule_86 : decode cX12_readRule 86 = .ok (.iload_n 1, 1) := by decide +kernel
theorem dX12_readRule_87 : decode cX12_readRule 87 = .ok (.iaload, 1) := by decide +kernel
theorem dX12_readRule_88 : decode cX12_readRule 88 = .ok (.iload_n 2, 1) := by decide +kernel
theorem dX12_readRule_89 : decode cX12_readRule 89 = .ok (.iconst 0, 1) := by decide +kernel
theorem dX12_readRule_90 : decode cX12_readRule 90 = .ok (.invokevirtual 914, 3) := by decide +kernel
theorem dX12_readRule_93 : decode cX12_readRule 93 = .ok (.aload_n 0, 1) := by decide +kernel
theorem dX12_readRule_94 : decode cX12_readRule 94 = .ok (.getfield 330, 3) := by decide +kernel
theorem dX12_readRule_97 : decode cX12_readRule 97 = .ok (.iload_n 1, 1) := by decide +kernel
theorem dX12_readRule_98 : decode cX12_readRule 98 = .ok (.aload_n 0, 1) := by decide +kernel
theorem dX12_readRule_99 : decode cX12_readRule 99 = .ok (.getfield 894, 3) := by decide +kernel
theorem dX12_readRule_102 : decode cX12_readRule 102 = .ok (.iastore, 1) := by decide +kernel
theorem dX12_readRule_103 : decode cX12_readRule 103 = .ok (.aload_n 0, 1) := by decide +kernel
theorem dX12_readRule_104 : decode cX12_readRule 104 = .ok (.getfield 333, 3) := by decide +kernel
theorem dX12_readRule_107 : decode cX12_readRule 107 = .ok (.iload_n 1, 1) := by decide +kernel
theorem dX12_readRule_108 : decode cX12_readRule 108 = .ok (.aload_n 0, 1) := by decide +kernel
theorem dX12_readRule_109 : decode cX12_readRule 109 = .ok (.getfield 897, 3) := by decide +kernel
theorem dX12_readRule_112 : decode cX12_readRule 112 = .ok (.iastore, 1) := by decide +kernel
theorem dX12_readRule_113 : decode cX12_readRule 113 = .ok (.aload_n 0, 1) := by decide +kernel
theorem dX12_readRule_114 : decode cX12_readRule 114 = .ok (.getfield 625, 3) := by decide +kernel
theorem dX12_readRule_117 : decode cX12_readRule 117 = .ok (.ifCond .ne 29, 3) := by decide +kernel
theorem dX12_readRule_120 : decode cX12_readRule 120 = .ok (.aload_n 0, 1) := by decide +kernel
theorem dX12_readRule_121 : decode cX12_readRule 121 = .ok (.getfield 644, 3) := by decide +kernel
theorem dX12_readRule_124 : decode cX12_readRule 124 = .ok (.iconst 1, 1) := by decide +kernel
theorem dX12_readRule_125 : decode cX12_readRule 125 = .ok (.if_icmp .ne 17, 3) := by decide +kernel
theorem dX12_readRule_128 : decode cX12_readRule 128 = .ok (.aload_n 0, 1) := by decide +kernel
theorem dX12_readRule_129 : decode cX12_readRule 129 = .ok (.getfield 640, 3) := by decide +kernel
theorem dX12_readRule_132 : decode cX12_readRule 132 = .ok (.ldc2_w 881, 3) := by decide +kernel
theorem dX12_readRule_135 : decode cX12_readRule 135 = .ok (.invokestatic 384, 3) := by decide +kernel
theorem dX12_readRule_138 : decode cX12_readRule 138 = .ok (.lcmp, 1) := by decide +kernel
theorem dX12_readRule_139 : decode cX12_readRule 139 = .ok (.ifCond .eq 7, 3) := by decide +kernel
theorem dX12_readRule_142 : decode cX12_readRule 142 = .ok (.aload_n 0, 1) := by decide +kernel
theorem dX12_readRule_143 : decode cX12_readRule 143 = .ok (.invokevirtual 664, 3) := by decide +kernel
theorem dX12_readRule_146 : decode cX12_readRule 146 = .ok (.aload_n 0, 1) := by decide +kernel
theorem dX12_readRule_147 : decode cX12_readRule 147 = .ok (.getfield 625, 3) := by decide +kernel
theorem dX12_readRule_150 : decode cX12_readRule 150 = .ok (.ifCond .ne 7, 3) := by decide +kernel
theorem dX12_readRule_153 : decode cX12_readRule 153 = .ok (.aload_n 0, 1) := by decide +kernel
theorem dX12_readRule_154 : decode cX12_readRule 154 = .ok (.invokevirtual 661, 3) := by decide +kernel
theorem dX12_readRule_157 : decode cX12_readRule 157 = .ok (.aload_n 0, 1) := by decide +kernel
theorem dX12_readRule_158 : decode cX12_readRule 158 = .ok (.getfield 336, 3) := by decide +kernel
theorem dX12_readRule_161 : decode cX12_readRule 161 = .ok (.iload_n 1, 1) := by decide +kernel
theorem dX12_readRule_162 : decode cX12_readRule 162 = .ok (.iconst 0, 1) := by decide +kernel
theorem dX12_readRule_163 : decode cX12_readRule 163 = .ok (.iastore, 1) := by decide +kernel
theorem dX12_readRule_164 : decode cX12_readRule 164 = .ok (.iconst 1, 1) := by decide +kernel
theorem dX12_readRule_165 : decode cX12_readRule 165 = .ok (.istore_n 3, 1) := by decide +kernel
theorem dX12_readRule_166 : decode cX12_readRule 166 = .ok (.iload_n 3, 1) := by decide +kernel
theorem dX12_readRule_167 : decode cX12_readRule 167 = .ok (.ifCond .eq 26, 3) := by decide +kernel
theorem dX12_readRule_170 : decode cX12_readRule 170 = .ok (.aload_n 0, 1) := by decide +kernel
theorem dX12_readRule_171 : decode cX12_readRule 171 = .ok (.getfield 625, 3) := by decide +kernel
theorem dX12_readRule_174 : decode cX12_readRule 174 = .ok (.ifCond .ne 19, 3) := by decide +kernel
theorem dX12_readRule_177 : decode cX12_readRule 177 = .ok (.aload_n 0, 1) := by decide +kernel
theorem dX12_readRule_178 : decode cX12_readRule 178 = .ok (.iload_n 1, 1) := by decide +kernel
theorem dX12_readRule_179 : decode cX12_readRule 179 = .ok (.invokevirtual 918, 3) := by decide +kernel
theorem dX12_readRule_182 : decode cX12_readRule 182 = .ok (.aload_n 0, 1) := by decide +kernel
theorem dX12_readRule_183 : decode cX12_readRule 183 = .ok (.ldc2_w 900, 3) := by decide +kernel
theorem dX12_readRule_186 : decode cX12_readRule 186 = .ok (.invokevirtual 902, 3) := by decide +kernel
theorem dX12_readRule_189 : decode cX12_readRule 189 = .ok (.istore_n 3, 1) := by decide +kernel
theorem dX12_readRule_190 : decode cX12_readRule 190 = .ok (.goto (-24), 3) := by decide +kernel
theorem dX12_readRule_193 : decode cX12_readRule 193 = .ok (.aload_n 0, 1) := by decide +kernel
theorem dX12_readRule_194 : decode cX12_readRule 194 = .ok (.getfield 625, 3) := by decide +kernel
theorem dX12_readRule_197 : decode cX12_readRule 197 = .ok (.ifCond .ne 60, 3) := by decide +kernel
theorem dX12_readRule_200 : decode cX12_readRule 200 = .ok (.aload_n 0, 1) := by decide +kernel
theorem dX12_readRule_201 : decode cX12_readRule 201 = .ok (.ldc2_w 921, 3) := by decide +kernel
theorem dX12_readRule_204 : decode cX12_readRule 204 = .ok (.invokevirtual 657, 3) := by decide +kernel
theorem dX12_readRule_207 : decode cX12_readRule 207 = .ok (.ifCond .eq 50, 3) := by decide +kernel
theorem dX12_readRule_210 : decode cX12_readRule 210 = .ok (.aload_n 0, 1) := by decide +kernel
theorem dX12_readRule_211 : decode cX12_readRule 211 = .ok (.iload_n 1, 1) := by decide +kernel
theorem dX12_readRule_212 : decode cX12_readRule 212 = .ok (.aload_n 0, 1) := by decide +kernel
theorem dX12_readRule_213 : decode cX12_readRule 213 = .ok (.getfield 330, 3) := by decide +kernel
theorem dX12_readRule_216 : decode cX12_readRule 216 = .ok (.iload_n 1, 1) := by decide +kernel
theorem dX12_readRule_217 : decode cX12_readRule 217 = .ok (.iaload, 1) := by decide +kernel
theorem dX12_readRule_218 : decode cX12_readRule 218 = .ok (.invokevirtual 923, 3) := by decide +kernel
theorem dX12_readRule_221 : decode cX12_readRule 221 = .ok (.ifCond .eq 27, 3) := by decide +kernel
theorem dX12_readRule_224 : decode cX12_readRule 224 = .ok (.aload_n 0, 1) := by decide +kernel
theorem dX12_readRule_225 : decode cX12_readRule 225 = .ok (.getfield 333, 3) := by decide +kernel
theorem dX12_readRule_228 : decode cX12_readRule 228 = .ok (.iload_n 1, 1) := by decide +kernel
theorem dX12_readRule_229 : decode cX12_readRule 229 = .ok (.iaload, 1) := by decide +kernel
theorem dX12_readRule_230 : decode cX12_readRule 230 = .ok (.iconst (-1), 1) := by decide +kernel
theorem dX12_readRule_231 : decode cX12_readRule 231 = .ok (.if_icmp .eq 26, 3) := by decide +kernel
theorem dX12_readRule_234 : decode cX12_readRule 234 = .ok (.aload_n 0, 1) := by decide +kernel
theorem dX12_readRule_235 : decode cX12_readRule 235 = .ok (.iload_n 1, 1) := by decide +kernel
theorem dX12_readRule_236 : decode cX12_readRule 236 = .ok (.aload_n 0, 1) := by decide +kernel
theorem dX12_readRule_237 : decode cX12_readRule 237 = .ok (.getfield 333, 3) := by decide +kernel
theorem dX12_readRule_240 : decode cX12_readRule 240 = .ok (.iload_n 1, 1) := by decide +kernel
theorem dX12_readRule_241 : decode cX12_readRule 241 = .ok (.iaload, 1) := by decide +kernel
theorem dX12_readRule_242 : decode cX12_readRule 242 = .ok (.invokevirtual 923, 3) := by decide +kernel
theorem dX12_readRule_245 : decode cX12_readRule 245 = .ok (.ifCond .ne 12, 3) := by decide +kernel
theorem dX12_readRule_248 : decode cX12_readRule 248 = .ok (.aload_n 0, 1) := by decide +kernel
theorem dX12_readRule_249 : decode cX12_readRule 249 = .ok (.iconst 3, 1) := by decide +kernel
theorem dX12_readRule_250 : decode cX12_readRule 250 = .ok (.aload_n 0, 1) := by decide +kernel
theorem dX12_readRule_251 : decode cX12_readRule 251 = .ok (.getfield 637, 3) := by decide +kernel
theorem dX12_readRule_254 : decode cX12_readRule 254 = .ok (.invokevirtual 653, 3) := by decide +kernel
theorem dX12_readRule_257 : decode cX12_readRule 257 = .ok (.aload_n 0, 1) := by decide +kernel
theorem dX12_readRule_258 : decode cX12_readRule 258 = .ok (.ldc2_w 921, 3) := by decide +kernel
theorem dX12_readRule_261 : decode cX12_readRule 261 = .ok (.invokevirtual 748, 3) := by decide +kernel
theorem dX12_readRule_264 : decode cX12_readRule 264 = .ok (.aload_n 0, 1) := by decide +kernel
theorem dX12_readRule_265 : decode cX12_readRule 265 = .ok (.getfield 351, 3) := by decide +kernel
theorem dX12_readRule_268 : decode cX12_readRule 268 = .ok (.iload_n 1, 1) := by decide +kernel
theorem dX12_readRule_269 : decode cX12_readRule 269 = .ok (.aload_n 0, 1) := by decide +kernel
theorem dX12_readRule_270 : decode cX12_readRule 270 = .ok (.getfield 888, 3) := by decide +kernel
theorem dX12_readRule_273 : decode cX12_readRule 273 = .ok (.iastore, 1) := by decide +kernel
theorem dX12_readRule_274 : decode cX12_readRule 274 = .ok (.aload_n 0, 1) := by decide +kernel
theorem dX12_readRule_275 : decode cX12_readRule 275 = .ok (.dup, 1) := by decide +kernel
theorem dX12_readRule_276 : decode cX12_readRule 276 = .ok (.getfield 908, 3) := by decide +kernel
theorem dX12_readRule_279 : decode cX12_readRule 279 = .ok (.iconst 1, 1) := by decide +kernel
theorem dX12_readRule_280 : decode cX12_readRule 280 = .ok (.iadd, 1) := by decide +kernel
theorem dX12_readRule_281 : decode cX12_readRule 281 = .ok (.putfield 908, 3) := by decide +kernel
theorem dX12_readRule_284 : decode cX12_readRule 284 = .ok (.return_, 1) := by decide +kernel
theorem dX12_readSet_0 : decode cX12_readSet 0 = .ok (.aload_n 0, 1) := by decide +kernel
theorem dX12_readSet_1 : decode cX12_readSet 1 = .ok (.getfield 625, 3) := by decide +kernel
theorem dX12_readSet_4 : decode cX12_readSet 4 = .ok (.ifCond .le 8, 3) := by decide +kernel
theorem dX12_readSet_7 : decode cX12_readSet 7 = .ok (.aload_n 0, 1) := by decide +kernel
theorem dX12_readSet_8 : decode cX12_readSet 8 = .ok (.getfield 673, 3) := by decide +kernel
theorem dX12_readSet_11 : decode cX12_readSet 11 = .ok (.ireturn, 1) := by decide +kernel
theorem dX12_readSet_12 : decode cX12_readSet 12 = .ok (.aload_n 0, 1) := by decide +kernel
theorem dX12_readSet_13 : decode cX12_readSet 13 = .ok (.invokevirtual 751, 3) := by decide +kernel
theorem dX12_readSet_16 : decode cX12_readSet 16 = .ok (.istore_n 1, 1) := by decide +kernel
theorem dX12_readSet_17 : decode cX12_readSet 17 = .ok (.iload_n 1, 1) := by decide +kernel
theorem dX12_readSet_18 : decode cX12_readSet 18 = .ok (.ifCond .eq 31, 3) := by decide +kernel
theorem dX12_readSet_21 : decode cX12_readSet 21 = .ok (.iload_n 1, 1) := by decide +kernel
theorem dX12_readSet_22 : decode cX12_readSet 22 = .ok (.iconst 1, 1) := by decide +kernel
theorem dX12_readSet_23 : decode cX12_readSet 23 = .ok (.if_icmp .eq 26, 3) := by decide +kernel
theorem dX12_readSet_26 : decode cX12_readSet 26 = .ok (.iload_n 1, 1) := by decide +kernel
theorem dX12_readSet_27 : decode cX12_readSet 27 = .ok (.iconst 2, 1) := by decide +kernel
theorem dX12_readSet_28 : decode cX12_readSet 28 = .ok (.if_icmp .eq 21, 3) := by decide +kernel
theorem dX12_readSet_31 : decode cX12_readSet 31 = .ok (.iload_n 1, 1) := by decide +kernel
theorem dX12_readSet_32 : decode cX12_readSet 32 = .ok (.bipush 24, 2) := by decide +kernel
theorem dX12_readSet_34 : decode cX12_readSet 34 = .ok (.if_icmp .eq 15, 3) := by decide +kernel
theorem dX12_readSet_37 : decode cX12_readSet 37 = .ok (.iload_n 1, 1) := by decide +kernel
theorem dX12_readSet_38 : decode cX12_readSet 38 = .ok (.bipush 25, 2) := by decide +kernel
theorem dX12_readSet_40 : decode cX12_readSet 40 = .ok (.if_icmp .eq 9, 3) := by decide +kernel
theorem dX12_readSet_43 : decode cX12_readSet 43 = .ok (.iload_n 1, 1) := by decide +kernel
theorem dX12_readSet_44 : decode cX12_readSet 44 = .ok (.bipush 26, 2) := by decide +kernel
theorem dX12_readSet_46 : decode cX12_readSet 46 = .ok (.if_icmp .ne 7, 3) := by decide +kernel
theorem dX12_readSet_49 : decode cX12_readSet 49 = .ok (.iconst 1, 1) := by decide +kernel
theorem dX12_readSet_50 : decode cX12_readSet 50 = .ok (.goto 4, 3) := by decide +kernel
theorem dX12_readSet_53 : decode cX12_readSet 53 = .ok (.iconst 0, 1) := by decide +kernel
theorem dX12_readSet_54 : decode cX12_readSet 54 = .ok (.istore_n 2, 1) := by decide +kernel
theorem dX12_readSet_55 : decode cX12_readSet 55 = .ok (.iload_n 2, 1) := by decide +kernel
theorem dX12_readSet_56 : decode cX12_readSet 56 = .ok (.ifCond .ne 12, 3) := by decide +kernel
theorem dX12_readSet_59 : decode cX12_readSet 59 = .ok (.aload_n 0, 1) := by decide +kernel
theorem dX12_readSet_60 : decode cX12_readSet 60 = .ok (.invokevirtual 664, 3) := by decide +kernel
theorem dX12_readSet_63 : decode cX12_readSet 63 = .ok (.aload_n 0, 1) := by decide +kernel
theorem dX12_readSet_64 : decode cX12_readSet 64 = .ok (.getfield 673, 3) := by decide +kernel
theorem dX12_readSet_67 : decode cX12_readSet 67 = .ok (.ireturn, 1) := by decide +kernel
theorem dX12_readSet_68 : decode cX12_readSet 68 = .ok (.aload_n 0, 1) := by decide +kernel
theorem dX12_readSet_69 : decode cX12_readSet 69 = .ok (.iload_n 1, 1) := by decide +kernel
theorem dX12_readSet_70 : decode cX12_readSet 70 = .ok (.invokevirtual 683, 3) := by decide +kernel
theorem dX12_readSet_73 : decode cX12_readSet 73 = .ok (.istore_n 3, 1) := by decide +kernel
theorem dX12_readSet_74 : decode cX12_readSet 74 = .ok (.aload_n 0, 1) := by decide +kernel
theorem dX12_readSet_75 : decode cX12_readSet 75 = .ok (.getfield 625, 3) := by decide +kernel
theorem dX12_readSet_78 : decode cX12_readSet 78 = .ok (.ifCond .ne 7, 3) := by decide +kernel
theorem dX12_readSet_81 : decode cX12_readSet 81 = .ok (.aload_n 0, 1) := by decide +kernel
theorem dX12_readSet_82 : decode cX12_readSet 82 = .ok (.invokevirtual 661, 3) := by decide +kernel
theorem dX12_readSet_85 : decode cX12_readSet 85 = .ok (.iload_n 1, 1) := by decide +kernel
theorem dX12_readSet_86 : decode cX12_readSet 86 = .ok (.ifCond .eq 8, 3) := by decide +kernel
theorem dX12_readSet_89 : decode cX12_readSet 89 = .ok (.iload_n 1, 1) := by decide +kernel
theorem dX12_readSet_90 : decode cX12_readSet 90 = .ok (.iconst 1, 1) := by decide +kernel
theorem dX12_readSet_91 : decode cX12_readSet 91 = .ok (.if_icmp .ne 45, 3) := by decide +kernel
theorem dX12_readSet_94 : decode cX12_readSet 94 = .ok (.aload_n 0, 1) := by decide +kernel
theorem dX12_readSet_95 : decode cX12_readSet 95 = .ok (.getfield 625, 3) := by decide +kernel
theorem dX12_readSet_98 : decode cX12_readSet 98 = .ok (.ifCond .ne 14, 3) := by decide +kernel
theorem dX12_readSet_101 : decode cX12_readSet 101 = .ok (.aload_n 0, 1) := by decide +kernel
theorem dX12_readSet_102 : decode cX12_readSet 102 = .ok (.invokevirtual 710, 3) := by decide +kernel
theorem dX12_readSet_105 : decode cX12_readSet 105 = .ok (.ifCond .ne 7, 3) := by decide +kernel
theorem dX12_readSet_108 : decode cX12_readSet 108 = .ok (.aload_n 0, 1) := by decide +kernel
theorem dX12_readSet_109 : decode cX12_readSet 109 = .ok (.invokevirtual 664, 3) := by decide +kernel
theorem dX12_readSet_112 : decode cX12_readSet 112 = .ok (.aload_n 0, 1) := by decide +kernel
theorem dX12_readSet_113 : decode cX12_readSet 113 = .ok (.getfield 284, 3) := by decide +kernel
theorem dX12_readSet_116 : decode cX12_readSet 116 = .ok (.iload_n 3, 1) := by decide +kernel
theorem dX12_readSet_117 : decode cX12_readSet 117 = .ok (.aload_n 0, 1) := by decide +kernel
theorem dX12_readSet_118 : decode cX12_readSet 118 = .ok (.getfield 640, 3) := by decide +kernel
theorem dX12_readSet_121 : decode cX12_readSet 121 = .ok (.lastore, 1) := by decide +kernel
theorem dX12_readSet_122 : decode cX12_readSet 122 = .ok (.aload_n 0, 1) := by decide +kernel
theorem dX12_readSet_123 : decode cX12_readSet 123 = .ok (.getfield 625, 3) := by decide +kernel
theorem dX12_readSet_126 : decode cX12_readSet 126 = .ok (.ifCond .ne 25, 3) := by decide +kernel
theorem dX12_readSet_129 : decode cX12_readSet 129 = .ok (.aload_n 0, 1) := by decide +kernel
theorem dX12_readSet_130 : decode cX12_readSet 130 = .ok (.invokevirtual 661, 3) := by decide +kernel
theorem dX12_readSet_133 : decode cX12_readSet 133 = .ok (.goto 18, 3) := by decide +kernel
theorem dX12_readSet_136 : decode cX12_readSet 136 = .ok (.iload_n 1, 1) := by decide +kernel
theorem dX12_readSet_137 : decode cX12_readSet 137 = .ok (.iconst 2, 1) := by decide +kernel
theorem dX12_readSet_138 : decode cX12_readSet 138 = .ok (.if_icmp .eq 13, 3) := by decide +kernel
theorem dX12_readSet_141 : decode cX12_readSet 141 = .ok (.aload_n 0, 1) := by decide +kernel
theorem dX12_readSet_142 : decode cX12_readSet 142 = .ok (.getfield 275, 3) := by decide +kernel
theorem dX12_readSet_145 : decode cX12_readSet 145 = .ok (.iload_n 3, 1) := by decide +kernel
theorem dX12_readSet_146 : decode cX12_readSet 146 = .ok (.aload_n 0, 1) := by decide +kernel
theorem dX12_readSet_147 : decode cX12_readSet 147 = .ok (.invokevirtual 730, 3) := by decide +kernel
theorem dX12_readSet_150 : decode cX12_readSet 150 = .ok (.iastore, 1) := by decide +kernel
theorem dX12_readSet_151 : decode cX12_readSet 151 = .ok (.iload_n 3, 1) := by decide +kernel
theorem dX12_readSet_152 : decode cX12_readSet 152 = .ok (.ireturn, 1) := by decide +kernel
theorem dX12_readSum_0 : decode cX12_readSum 0 = .ok (.aload_n 0, 1) := by decide +kernel
theorem dX12_readSum_1 : decode cX12_readSum 1 = .ok (.invokevirtual 714, 3) := by decide +kernel
theorem dX12_readSum_4 : decode cX12_readSum 4 = .ok (.istore_n 1, 1) := by decide +kernel
theorem dX12_readSum_5 : decode cX12_readSum 5 = .ok (.aload_n 0, 1) := by decide +kernel
theorem dX12_readSum_6 : decode cX12_readSum 6 = .ok (.getfield 625, 3) := by decide +kernel
theorem dX12_readSum_9 : decode cX12_readSum 9 = .ok (.ifCond .ne 71, 3) := by decide +kernel
theorem dX12_readSum_12 : decode cX12_readSum 12 = .ok (.aload_n 0, 1) := by decide +kernel
theorem dX12_readSum_13 : decode cX12_readSum 13 = .ok (.ldc2_w 717, 3) := by decide +kernel
theorem dX12_readSum_16 : decode cX12_readSum 16 = .ok (.invokevirtual 657, 3) := by decide +kernel
theorem dX12_readSum_19 : decode cX12_readSum 19 = .ok (.ifCond .ne 13, 3) := by decide +kernel
theorem dX12_readSum_22 : decode cX12_readSum 22 = .ok (.aload_n 0, 1) := by decide +kernel
theorem dX12_readSum_23 : decode cX12_readSum 23 = .ok (.ldc2_w 719, 3) := by decide +kernel
theorem dX12_readSum_26 : decode cX12_readSum 26 = .ok (.invokevirtual 657, 3) := by decide +kernel
theorem dX12_readSum_29 : decode cX12_readSum 29 = .ok (.ifCond .eq 51, 3) := by decide +kernel
theorem dX12_readSum_32 : decode cX12_readSum 32 = .ok (.aload_n 0, 1) := by decide +kernel
theorem dX12_readSum_33 : decode cX12_readSum 33 = .ok (.aload_n 0, 1) := by decide +kernel
theorem dX12_readSum_34 : decode cX12_readSum 34 = .ok (.ldc2_w 717, 3) := by decide +kernel
theorem dX12_readSum_37 : decode cX12_readSum 37 = .ok (.invokevirtual 657, 3) := by decide +kernel
theorem dX12_readSum_40 : decode cX12_readSum 40 = .ok (.ifCond .eq 8, 3) := by decide +kernel
theorem dX12_readSum_43 : decode cX12_readSum 43 = .ok (.bipush 108, 2) := by decide +kernel
theorem dX12_readSum_45 : decode cX12_readSum 45 = .ok (.goto 5, 3) := by decide +kernel
theorem dX12_readSum_48 : decode cX12_readSum 48 = .ok (.bipush 109, 2) := by decide +kernel
theorem dX12_readSum_50 : decode cX12_readSum 50 = .ok (.invokevirtual 683, 3) := by decide +kernel
theorem dX12_readSum_53 : decode cX12_readSum 53 = .ok (.istore_n 2, 1) := by decide +kernel
theorem dX12_readSum_54 : decode cX12_readSum 54 = .ok (.aload_n 0, 1) := by decide +kernel
theorem dX12_readSum_55 : decode cX12_readSum 55 = .ok (.invokevirtual 661, 3) := by decide +kernel
theorem dX12_readSum_58 : decode cX12_readSum 58 = .ok (.aload_n 0, 1) := by decide +kernel
theorem dX12_readSum_59 : decode cX12_readSum 59 = .ok (.getfield 275, 3) := by decide +kernel
theorem dX12_readSum_62 : decode cX12_readSum 62 = .ok (.iload_n 2, 1) := by decide +kernel
theorem dX12_readSum_63 : decode cX12_readSum 63 = .ok (.iload_n 1, 1) := by decide +kernel
theorem dX12_readSum_64 : decode cX12_readSum 64 = .ok (.iastore, 1) := by decide +kernel
theorem dX12_readSum_65 : decode cX12_readSum 65 = .ok (.aload_n 0, 1) := by decide +kernel
theorem dX12_readSum_66 : decode cX12_readSum 66 = .ok (.getfield 278, 3) := by decide +kernel
theorem dX12_readSum_69 : decode cX12_readSum 69 = .ok (.iload_n 2, 1) := by decide +kernel
theorem dX12_readSum_70 : decode cX12_readSum 70 = .ok (.aload_n 0, 1) := by decide +kernel
theorem dX12_readSum_71 : decode cX12_readSum 71 = .ok (.invokevirtual 714, 3) := by decide +kernel
theorem dX12_readSum_74 : decode cX12_readSum 74 = .ok (.iastore, 1) := by decide +kernel
theorem dX12_readSum_75 : decode cX12_readSum 75 = .ok (.iload_n 2, 1) := by decide +kernel
theorem dX12_readSum_76 : decode cX12_readSum 76 = .ok (.istore_n 1, 1) := by decide +kernel
theorem dX12_readSum_77 : decode cX12_readSum 77 = .ok (.goto (-72), 3) := by decide +kernel
theorem dX12_readSum_80 : decode cX12_readSum 80 = .ok (.iload_n 1, 1) := by decide +kernel
theorem dX12_readSum_81 : decode cX12_readSum 81 = .ok (.ireturn, 1) := by decide +kernel
theorem dX12_readTurned_0 : decode cX12_readTurned 0 = .ok (.aload_n 0, 1) := by decide +kernel
theorem dX12_readTurned_1 : decode cX12_readTurned 1 = .ok (.getfield 625, 3) := by decide +kernel
theorem dX12_readTurned_4 : decode cX12_readTurned 4 = .ok (.ifCond .gt 13, 3) := by decide +kernel
theorem dX12_readTurned_7 : decode cX12_readTurned 7 = .ok (.aload_n 0, 1) := by decide +kernel
theorem dX12_readTurned_8 : decode cX12_readTurned 8 = .ok (.ldc2_w 719, 3) := by decide +kernel
theorem dX12_readTurned_11 : decode cX12_readTurned 11 = .ok (.invokevirtual 657, 3) := by decide +kernel
theorem dX12_readTurned_14 : decode cX12_readTurned 14 = .ok (.ifCond .ne 8, 3) := by decide +kernel
theorem dX12_readTurned_17 : decode cX12_readTurned 17 = .ok (.aload_n 0, 1) := by decide +kernel
theorem dX12_readTurned_18 : decode cX12_readTurned 18 = .ok (.invokevirtual 730, 3) := by decide +kernel
theorem dX12_readTurned_21 : decode cX12_readTurned 21 = .ok (.ireturn, 1) := by decide +kernel
theorem dX12_readTurned_22 : decode cX12_readTurned 22 = .ok (.aload_n 0, 1) := by decide +kernel
theorem dX12_readTurned_23 : decode cX12_readTurned 23 = .ok (.bipush 113, 2) := by decide +kernel
theorem dX12_readTurned_25 : decode cX12_readTurned 25 = .ok (.invokevirtual 683, 3) := by decide +kernel
theorem dX12_readTurned_28 : decode cX12_readTurned 28 = .ok (.istore_n 1, 1) := by decide +kernel
theorem dX12_readTurned_29 : decode cX12_readTurned 29 = .ok (.aload_n 0, 1) := by decide +kernel
theorem dX12_readTurned_30 : decode cX12_readTurned 30 = .ok (.invokevirtual 661, 3) := by decide +kernel
theorem dX12_readTurned_33 : decode cX12_readTurned 33 = .ok (.aload_n 0, 1) := by decide +kernel
theorem dX12_readTurned_34 : decode cX12_readTurned 34 = .ok (.getfield 275, 3) := by decide +kernel
theorem dX12_readTurned_37 : decode cX12_readTurned 37 = .ok (.iload_n 1, 1) := by decide +kernel
theorem dX12_readTurned_38 : decode cX12_readTurned 38 = .ok (.aload_n 0, 1) := by decide +kernel
theorem dX12_readTurned_39 : decode cX12_readTurned 39 = .ok (.invokevirtual 721, 3) := by decide +kernel
theorem dX12_readTurned_42 : decode cX12_readTurned 42 = .ok (.iastore, 1) := by decide +kernel
theorem dX12_readTurned_43 : decode cX12_readTurned 43 = .ok (.iload_n 1, 1) := by decide +kernel
theorem dX12_readTurned_44 : decode cX12_readTurned 44 = .ok (.ireturn, 1) := by decide +kernel
theorem dX12_readVariable_0 : decode cX12_readVariable 0 = .ok (.aload_n 0, 1) := by decide +kernel
theorem dX12_readVariable_1 : decode cX12_readVariable 1 = .ok (.getfield 625, 3) := by decide +kernel
theorem dX12_readVariable_4 : decode cX12_readVariable 4 = .ok (.ifCond .ne 14, 3) := by decide +kernel
theorem dX12_readVariable_7 : decode cX12_readVariable 7 = .ok (.aload_n 0, 1) := by decide +kernel
theorem dX12_readVariable_8 : decode cX12_readVariable 8 = .ok (.invokevirtual 885, 3) := by decide +kernel
theorem dX12_readVariable_11 : decode cX12_readVariable 11 = .ok (.ifCond .ne 7, 3) := by decide +kernel
theorem dX12_readVariable_14 : decode cX12_readVariable 14 = .ok (.aload_n 0, 1) := by decide +kernel
theorem dX12_readVariable_15 : decode cX12_readVariable 15 = .ok (.invokevirtual 664, 3) := by decide +kernel
theorem dX12_readVariable_18 : decode cX12_readVariable 18 = .ok (.aload_n 0, 1) := by decide +kernel
theorem dX12_readVariable_19 : decode cX12_readVariable 19 = .ok (.getfield 625, 3) := by decide +kernel
theorem dX12_readVariable_22 : decode cX12_readVariable 22 = .ok (.ifCond .le 5, 3) := by decide +kernel
theorem dX12_readVariable_25 : decode cX12_readVariable 25 = .ok (.iconst 0, 1) := by decide +kernel
theorem dX12_readVariable_26 : decode cX12_readVariable 26 = .ok (.ireturn, 1) := by decide +kernel
theorem dX12_readVariable_27 : decode cX12_readVariable 27 = .ok (.iconst (-1), 1) := by decide +kernel
theorem dX12_readVariable_28 : decode cX12_readVariable 28 = .ok (.istore_n 1, 1) := by decide +kernel
theorem dX12_readVariable_29 : decode cX12_readVariable 29 = .ok (.iconst 0, 1) := by decide +kernel
theorem dX12_readVariable_30 : decode cX12_readVariable 30 = .ok (.istore_n 2, 1) := by decide +kernel
theorem dX12_readVariable_31 : decode cX12_readVariable 31 = .ok (.iload_n 2, 1) := by decide +kernel
theorem dX12_readVariable_32 : decode cX12_readVariable 32 = .ok (.aload_n 0, 1) := by decide +kernel
theorem dX12_readVariable_33 : decode cX12_readVariable 33 = .ok (.getfield 888, 3) := by decide +kernel
theorem dX12_readVariable_36 : decode cX12_readVariable 36 = .ok (.if_icmp .ge 29, 3) := by decide +kernel
theorem dX12_readVariable_39 : decode cX12_readVariable 39 = .ok (.aload_n 0, 1) := by decide +kernel
theorem dX12_readVariable_40 : decode cX12_readVariable 40 = .ok (.getfield 318, 3) := by decide +kernel
theorem dX12_readVariable_43 : decode cX12_readVariable 43 = .ok (.iload_n 2, 1) := by decide +kernel
theorem dX12_readVariable_44 : decode cX12_readVariable 44 = .ok (.laload, 1) := by decide +kernel
theorem dX12_readVariable_45 : decode cX12_readVariable 45 = .ok (.aload_n 0, 1) := by decide +kernel
theorem dX12_readVariable_46 : decode cX12_readVariable 46 = .ok (.getfield 640, 3) := by decide +kernel
theorem dX12_readVariable_49 : decode cX12_readVariable 49 = .ok (.lcmp, 1) := by decide +kernel
theorem dX12_readVariable_50 : decode cX12_readVariable 50 = .ok (.ifCond .ne 7, 3) := by decide +kernel
theorem dX12_readVariable_53 : decode cX12_readVariable 53 = .ok (.iload_n 2, 1) := by decide +kernel
theorem dX12_readVariable_54 : decode cX12_readVariable 54 = .ok (.goto 4, 3) := by decide +kernel
theorem dX12_readVariable_57 : decode cX12_readVariable 57 = .ok (.iload_n 1, 1) := by decide +kernel
theorem dX12_readVariable_58 : decode cX12_readVariable 58 = .ok (.istore_n 1, 1) := by decide +kernel
theorem dX12_readVariable_59 : decode cX12_readVariable 59 = .ok (.iinc 2 1, 3) := by decide +kernel
theorem dX12_readVariable_62 : decode cX12_readVariable 62 = .ok (.goto (-31), 3) := by decide +kernel
theorem dX12_readVariable_65 : decode cX12_readVariable 65 = .ok (.iload_n 1, 1) := by decide +kernel
theorem dX12_readVariable_66 : decode cX12_readVariable 66 = .ok (.iconst (-1), 1) := by decide +kernel
theorem dX12_readVariable_67 : decode cX12_readVariable 67 = .ok (.if_icmp .ne 20, 3) := by decide +kernel
theorem dX12_readVariable_70 : decode cX12_readVariable 70 = .ok (.aload_n 0, 1) := by decide +kernel
theorem dX12_readVariable_71 : decode cX12_readVariable 71 = .ok (.getfield 888, 3) := by decide +kernel
theorem dX12_readVariable_74 : decode cX12_readVariable 74 = .ok (.iconst 3, 1) := by decide +kernel
theorem dX12_readVariable_75 : decode cX12_readVariable 75 = .ok (.if_icmp .ne 12, 3) := by decide +kernel
theorem dX12_readVariable_78 : decode cX12_readVariable 78 = .ok (.aload_n 0, 1) := by decide +kernel
theorem dX12_readVariable_79 : decode cX12_readVariable 79 = .ok (.iconst 4, 1) := by decide +kernel
theorem dX12_readVariable_80 : decode cX12_readVariable 80 = .ok (.aload_n 0, 1) := by decide +kernel
theorem dX12_readVariable_81 : decode cX12_readVariable 81 = .ok (.getfield 637, 3) := by decide +kernel
theorem dX12_readVariable_84 : decode cX12_readVariable 84 = .ok (.invokevirtual 653, 3) := by decide +kernel
theorem dX12_readVariable_87 : decode cX12_readVariable 87 = .ok (.aload_n 0, 1) := by decide +kernel
theorem dX12_readVariable_88 : decode cX12_readVariable 88 = .ok (.getfield 625, 3) := by decide +kernel
theorem dX12_readVariable_91 : decode cX12_readVariable 91 = .ok (.ifCond .le 5, 3) := by decide +kernel
theorem dX12_readVariable_94 : decode cX12_readVariable 94 = .ok (.iconst 0, 1) := by decide +kernel
theorem dX12_readVariable_95 : decode cX12_readVariable 95 = .ok (.ireturn, 1) := by decide +kernel
theorem dX12_readVariable_96 : decode cX12_readVariable 96 = .ok (.iload_n 1, 1) := by decide +kernel
theorem dX12_readVariable_97 : decode cX12_readVariable 97 = .ok (.iconst (-1), 1) := by decide +kernel
theorem dX12_readVariable_98 : decode cX12_readVariable 98 = .ok (.if_icmp .ne 28, 3) := by decide +kernel
theorem dX12_readVariable_101 : decode cX12_readVariable 101 = .ok (.aload_n 0, 1) := by decide +kernel
theorem dX12_readVariable_102 : decode cX12_readVariable 102 = .ok (.getfield 888, 3) := by decide +kernel
theorem dX12_readVariable_105 : decode cX12_readVariable 105 = .ok (.istore_n 1, 1) := by decide +kernel
theorem dX12_readVariable_106 : decode cX12_readVariable 106 = .ok (.aload_n 0, 1) := by decide +kernel
theorem dX12_readVariable_107 : decode cX12_readVariable 107 = .ok (.getfield 318, 3) := by decide +kernel
theorem dX12_readVariable_110 : decode cX12_readVariable 110 = .ok (.iload_n 1, 1) := by decide +kernel
theorem dX12_readVariable_111 : decode cX12_readVariable 111 = .ok (.aload_n 0, 1) := by decide +kernel
theorem dX12_readVariable_112 : decode cX12_readVariable 112 = .ok (.getfield 640, 3) := by decide +kernel
theorem dX12_readVariable_115 : decode cX12_readVariable 115 = .ok (.lastore, 1) := by decide +kernel
theorem dX12_readVariable_116 : decode cX12_readVariable 116 = .ok (.aload_n 0, 1) := by decide +kernel
theorem dX12_readVariable_117 : decode cX12_readVariable 117 = .ok (.dup, 1) := by decide +kernel
theorem dX12_readVariable_118 : decode cX12_readVariable 118 = .ok (.getfield 888, 3) := by decide +kernel
theorem dX12_readVariable_121 : decode cX12_readVariable 121 = .ok (.iconst 1, 1) := by decide +kernel
theorem dX12_readVariable_122 : decode cX12_readVariable 122 = .ok (.iadd, 1) := by decide +kernel
theorem dX12_readVariable_123 : decode cX12_readVariable 123 = .ok (.putfield 888, 3) := by decide +kernel
theorem dX12_readVariable_126 : decode cX12_readVariable 126 = .ok (.aload_n 0, 1) := by decide +kernel
theorem dX12_readVariable_127 : decode cX12_readVariable 127 = .ok (.invokevirtual 661, 3) := by decide +kernel
theorem dX12_readVariable_130 : decode cX12_readVariable 130 = .ok (.iload_n 1, 1) := by decide +kernel
theorem dX12_readVariable_131 : decode cX12_readVariable 131 = .ok (.ireturn, 1) := by decide +kernel
theorem dX12_recall_0 : decode cX12_recall 0 = .ok (.aload_n 0, 1) := by decide +kernel
theorem dX12_recall_1 : decode cX12_recall 1 = .ok (.aload_n 0, 1) := by decide +kernel
theorem dX12_recall_2 : decode cX12_recall 2 = .ok (.iload_n 1, 1) := by decide +kernel
theorem dX12_recall_3 : decode cX12_recall 3 = .ok (.invokevirtual 542, 3) := by decide +kernel
theorem dX12_recall_6 : decode cX12_recall 6 = .ok (.ifCond .eq 23, 3) := by decide +kernel
theorem dX12_recall_9 : decode cX12_recall 9 = .ok (.iload_n 2, 1) := by decide +kernel
theorem dX12_recall_10 : decode cX12_recall 10 = .ok (.ifCond .lt 11, 3) := by decide +kernel
theorem dX12_recall_13 : decode cX12_recall 13 = .ok (.iload_n 2, 1) := by decide +kernel
theorem dX12_recall_14 : decode cX12_recall 14 = .ok (.aload_n 0, 1) := by decide +kernel
theorem dX12_recall_15 : decode cX12_recall 15 = .ok (.getfield 1030, 3) := by decide +kernel
theorem dX12_recall_18 : decode cX12_recall 18 = .ok (.if_icmp .lt 7, 3) := by decide +kernel
theorem dX12_recall_21 : decode cX12_recall 21 = .ok (.iconst 2, 1) := by decide +kernel
theorem dX12_recall_22 : decode cX12_recall 22 = .ok (.goto 8, 3) := by decide +kernel
theorem dX12_recall_25 : decode cX12_recall 25 = .ok (.iconst 0, 1) := by decide +kernel
theorem dX12_recall_26 : decode cX12_recall 26 = .ok (.goto 4, 3) := by decide +kernel
theorem dX12_recall_29 : decode cX12_recall 29 = .ok (.iconst 1, 1) := by decide +kernel
theorem dX12_recall_30 : decode cX12_recall 30 = .ok (.putfield 388, 3) := by decide +kernel
theorem dX12_recall_33 : decode cX12_recall 33 = .ok (.aload_n 0, 1) := by decide +kernel
theorem dX12_recall_34 : decode cX12_recall 34 = .ok (.getfield 388, 3) := by decide +kernel
theorem dX12_recall_37 : decode cX12_recall 37 = .ok (.ifCond .le 5, 3) := by decide +kernel
theorem dX12_recall_40 : decode cX12_recall 40 = .ok (.iconst 0, 1) := by decide +kernel
theorem dX12_recall_41 : decode cX12_recall 41 = .ok (.ireturn, 1) := by decide +kernel
theorem dX12_recall_42 : decode cX12_recall 42 = .ok (.aload_n 0, 1) := by decide +kernel
theorem dX12_recall_43 : decode cX12_recall 43 = .ok (.aload_n 0, 1) := by decide +kernel
theorem dX12_recall_44 : decode cX12_recall 44 = .ok (.getfield 381, 3) := by decide +kernel
theorem dX12_recall_47 : decode cX12_recall 47 = .ok (.iload_n 2, 1) := by decide +kernel
theorem dX12_recall_48 : decode cX12_recall 48 = .ok (.iaload, 1) := by decide +kernel
theorem dX12_recall_49 : decode cX12_recall 49 = .ok (.invokevirtual 1033, 3) := by decide +kernel
theorem dX12_recall_52 : decode cX12_recall 52 = .ok (.aload_n 0, 1) := by decide +kernel
theorem dX12_recall_53 : decode cX12_recall 53 = .ok (.invokevirtual 1021, 3) := by decide +kernel
theorem dX12_recall_56 : decode cX12_recall 56 = .ok (.aload_n 0, 1) := by decide +kernel
theorem dX12_recall_57 : decode cX12_recall 57 = .ok (.iload_n 1, 1) := by decide +kernel
theorem dX12_recall_58 : decode cX12_recall 58 = .ok (.invokevirtual 1024, 3) := by decide +kernel
theorem dX12_recall_61 : decode cX12_recall 61 = .ok (.aload_n 0, 1) := by decide +kernel
theorem dX12_recall_62 : decode cX12_recall 62 = .ok (.getfield 183, 3) := by decide +kernel
theorem dX12_recall_65 : decode cX12_recall 65 = .ok (.iload_n 1, 1) := by decide +kernel
theorem dX12_recall_66 : decode cX12_recall 66 = .ok (.iaload, 1) := by decide +kernel
theorem dX12_recall_67 : decode cX12_recall 67 = .ok (.ireturn, 1) := by decide +kernel
theorem dX12_relationAtHand_0 : decode cX12_relationAtHand 0 = .ok (.iconst (-1), 1) := by decide +kernel
theorem dX12_relationAtHand_1 : decode cX12_relationAtHand 1 = .ok (.istore_n 1, 1) := by decide +kernel
theorem dX12_relationAtHand_2 : decode cX12_relationAtHand 2 = .ok (.iconst 0, 1) := by decide +kernel
theorem dX12_relationAtHand_3 : decode cX12_relationAtHand 3 = .ok (.istore_n 2, 1) := by decide +kernel
theorem dX12_relationAtHand_4 : decode cX12_relationAtHand 4 = .ok (.iload_n 2, 1) := by decide +kernel
theorem dX12_relationAtHand_5 : decode cX12_relationAtHand 5 = .ok (.aload_n 0, 1) := by decide +kernel
theorem dX12_relationAtHand_6 : decode cX12_relationAtHand 6 = .ok (.getfield 905, 3) := by decide +kernel
theorem dX12_relationAtHand_9 : decode cX12_relationAtHand 9 = .ok (.if_icmp .ge 29, 3) := by decide +kernel
theorem dX12_relationAtHand_12 : decode cX12_relationAtHand 12 = .ok (.aload_n 0, 1) := by decide +kernel
theorem dX12_relationAtHand_13 : decode cX12_relationAtHand 13 = .ok (.getfield 315, 3) := by decide +kernel
theorem dX12_relationAtHand_16 : decode cX12_relationAtHand 16 = .ok (.iload_n 2, 1) := by decide +kernel
theorem dX12_relationAtHand_17 : decode cX12_relationAtHand 17 = .ok (.laload, 1) := by decide +kernel
theorem dX12_relationAtHand_18 : decode cX12_relationAtHand 18 = .ok (.aload_n 0, 1) := by decide +kernel
theorem dX12_relationAtHand_19 : decode cX12_relationAtHand 19 = .ok (.getfield 640, 3) := by decide +kernel
theorem dX12_relationAtHand_22 : decode cX12_relationAtHand 22 = .ok (.lcmp, 1) := by decide +kernel
theorem dX12_relationAtHand_23 : decode cX12_relationAtHand 23 = .ok (.ifCond .ne 7, 3) := by decide +kernel
theorem dX12_relationAtHand_26 : decode cX12_relationAtHand 26 = .ok (.iload_n 2, 1) := by decide +kernel
theorem dX12_relationAtHand_27 : decode cX12_relationAtHand 27 = .ok (.goto 4, 3) := by decide +kernel
theorem dX12_relationAtHand_30 : decode cX12_relationAtHand 30 = .ok (.iload_n 1, 1) := by decide +kernel
theorem dX12_relationAtHand_31 : decode cX12_relationAtHand 31 = .ok (.istore_n 1, 1) := by decide +kernel
theorem dX12_relationAtHand_32 : decode cX12_relationAtHand 32 = .ok (.iinc 2 1, 3) := by decide +kernel
theorem dX12_relationAtHand_35 : decode cX12_relationAtHand 35 = .ok (.goto (-31), 3) := by decide +kernel
theorem dX12_relationAtHand_38 : decode cX12_relationAtHand 38 = .ok (.iload_n 1, 1) := by decide +kernel
theorem dX12_relationAtHand_39 : decode cX12_relationAtHand 39 = .ok (.iconst (-1), 1) := by decide +kernel
theorem dX12_relationAtHand_40 : decode cX12_relationAtHand 40 = .ok (.if_icmp .eq 5, 3) := by decide +kernel
theorem dX12_relationAtHand_43 : decode cX12_relationAtHand 43 = .ok (.iload_n 1, 1) := by decide +kernel
theorem dX12_relationAtHand_44 : decode cX12_relationAtHand 44 = .ok (.ireturn, 1) := by decide +kernel
theorem dX12_relationAtHand_45 : decode cX12_relationAtHand 45 = .ok (.aload_n 0, 1) := by decide +kernel
theorem dX12_relationAtHand_46 : decode cX12_relationAtHand 46 = .ok (.getfield 905, 3) := by decide +kernel
theorem dX12_relationAtHand_49 : decode cX12_relationAtHand 49 = .ok (.bipush 6, 2) := by decide +kernel
theorem dX12_relationAtHand_51 : decode cX12_relationAtHand 51 = .ok (.if_icmp .ne 12, 3) := by decide +kernel
theorem dX12_relationAtHand_54 : decode cX12_relationAtHand 54 = .ok (.aload_n 0, 1) := by decide +kernel
theorem dX12_relationAtHand_55 : decode cX12_relationAtHand 55 = .ok (.iconst 4, 1) := by decide +kernel
theorem dX12_relationAtHand_56 : decode cX12_relationAtHand 56 = .ok (.aload_n 0, 1) := by decide +kernel
theorem dX12_relationAtHand_57 : decode cX12_relationAtHand 57 = .ok (.getfield 637, 3) := by decide +kernel
theorem dX12_relationAtHand_60 : decode cX12_relationAtHand 60 = .ok (.invokevirtual 653, 3) := by decide +kernel
theorem dX12_relationAtHand_63 : decode cX12_relationAtHand 63 = .ok (.aload_n 0, 1) := by decide +kernel
theorem dX12_relationAtHand_64 : decode cX12_relationAtHand 64 = .ok (.getfield 625, 3) := by decide +kernel
theorem dX12_relationAtHand_67 : decode cX12_relationAtHand 67 = .ok (.ifCond .le 5, 3) := by decide +kernel
theorem dX12_relationAtHand_70 : decode cX12_relationAtHand 70 = .ok (.iconst 0, 1) := by decide +kernel
theorem dX12_relationAtHand_71 : decode cX12_relationAtHand 71 = .ok (.ireturn, 1) := by decide +kernel
theorem dX12_relationAtHand_72 : decode cX12_relationAtHand 72 = .ok (.aload_n 0, 1) := by decide +kernel
theorem dX12_relationAtHand_73 : decode cX12_relationAtHand 73 = .ok (.getfield 315, 3) := by decide +kernel
theorem dX12_relationAtHand_76 : decode cX12_relationAtHand 76 = .ok (.aload_n 0, 1) := by decide +kernel
theorem dX12_relationAtHand_77 : decode cX12_relationAtHand 77 = .ok (.getfield 905, 3) := by decide +kernel
theorem dX12_relationAtHand_80 : decode cX12_relationAtHand 80 = .ok (.aload_n 0, 1) := by decide +kernel
theorem dX12_relationAtHand_81 : decode cX12_relationAtHand 81 = .ok (.getfield 640, 3) := by decide +kernel
theorem dX12_relationAtHand_84 : decode cX12_relationAtHand 84 = .ok (.lastore, 1) := by decide +kernel
theorem dX12_relationAtHand_85 : decode cX12_relationAtHand 85 = .ok (.aload_n 0, 1) := by decide +kernel
theorem dX12_relationAtHand_86 : decode cX12_relationAtHand 86 = .ok (.getfield 324, 3) := by decide +kernel
theorem dX12_relationAtHand_89 : decode cX12_relationAtHand 89 = .ok (.aload_n 0, 1) := by decide +kernel
theorem dX12_relationAtHand_90 : decode cX12_relationAtHand 90 = .ok (.getfield 905, 3) := by decide +kernel
theorem dX12_relationAtHand_93 : decode cX12_relationAtHand 93 = .ok (.iconst 0, 1) := by decide +kernel
theorem dX12_relationAtHand_94 : decode cX12_relationAtHand 94 = .ok (.iastore, 1) := by decide +kernel
theorem dX12_relationAtHand_95 : decode cX12_relationAtHand 95 = .ok (.aload_n 0, 1) := by decide +kernel
theorem dX12_relationAtHand_96 : decode cX12_relationAtHand 96 = .ok (.dup, 1) := by decide +kernel
theorem dX12_relationAtHand_97 : decode cX12_relationAtHand 97 = .ok (.getfield 905, 3) := by decide +kernel
theorem dX12_relationAtHand_100 : decode cX12_relationAtHand 100 = .ok (.iconst 1, 1) := by decide +kernel
theorem dX12_relationAtHand_101 : decode cX12_relationAtHand 101 = .ok (.iadd, 1) := by decide +kernel
theorem dX12_relationAtHand_102 : decode cX12_relationAtHand 102 = .ok (.putfield 905, 3) := by decide +kernel
theorem dX12_relationAtHand_105 : decode cX12_relationAtHand 105 = .ok (.aload_n 0, 1) := by decide +kernel
theorem dX12_relationAtHand_106 : decode cX12_relationAtHand 106 = .ok (.getfield 905, 3) := by decide +kernel
theorem dX12_relationAtHand_109 : decode cX12_relationAtHand 109 = .ok (.iconst 1, 1) := by decide +kernel
theorem dX12_relationAtHand_110 : decode cX12_relationAtHand 110 = .ok (.isub, 1) := by decide +kernel
theorem dX12_relationAtHand_111 : decode cX12_relationAtHand 111 = .ok (.ireturn, 1) := by decide +kernel
theorem dX12_reopen_0 : decode cX12_reopen 0 = .ok (.aload_n 0, 1) := by decide +kernel
theorem dX12_reopen_1 : decode cX12_reopen 1 = .ok (.iconst 0, 1) := by decide +kernel
theorem dX12_reopen_2 : decode cX12_reopen 2 = .ok (.putfield 388, 3) := by decide +kernel
theorem dX12_reopen_5 : decode cX12_reopen 5 = .ok (.iload_n 1, 1) := by decide +kernel
theorem dX12_reopen_6 : decode cX12_reopen 6 = .ok (.ifCond .ge 7, 3) := by decide +kernel
theorem dX12_reopen_9 : decode cX12_reopen 9 = .ok (.iconst 0, 1) := by decide +kernel
theorem dX12_reopen_10 : decode cX12_reopen 10 = .ok (.goto 19, 3) := by decide +kernel
theorem dX12_reopen_13 : decode cX12_reopen 13 = .ok (.iload_n 1, 1) := by decide +kernel
theorem dX12_reopen_14 : decode cX12_reopen 14 = .ok (.aload_n 0, 1) := by decide +kernel
theorem dX12_reopen_15 : decode cX12_reopen 15 = .ok (.getfield 1027, 3) := by decide +kernel
theorem dX12_reopen_18 : decode cX12_reopen 18 = .ok (.if_icmp .ge 7, 3) := by decide +kernel
theorem dX12_reopen_21 : decode cX12_reopen 21 = .ok (.iload_n 1, 1) := by decide +kernel
theorem dX12_reopen_22 : decode cX12_reopen 22 = .ok (.goto 7, 3) := by decide +kernel
theorem dX12_reopen_25 : decode cX12_reopen 25 = .ok (.aload_n 0, 1) := by decide +kernel
theorem dX12_reopen_26 : decode cX12_reopen 26 = .ok (.getfield 1027, 3) := by decide +kernel
theorem dX12_reopen_29 : decode cX12_reopen 29 = .ok (.istore_n 2, 1) := by decide +kernel
theorem dX12_reopen_30 : decode cX12_reopen 30 = .ok (.aload_n 0, 1) := by decide +kernel
theorem dX12_reopen_31 : decode cX12_reopen 31 = .ok (.iconst 0, 1) := by decide +kernel
theorem dX12_reopen_32 : decode cX12_reopen 32 = .ok (.putfield 1030, 3) := by decide +kernel
theorem dX12_reopen_35 : decode cX12_reopen 35 = .ok (.aload_n 0, 1) := by decide +kernel
theorem dX12_reopen_36 : decode cX12_reopen 36 = .ok (.iconst 0, 1) := by decide +kernel
theorem dX12_reopen_37 : decode cX12_reopen 37 = .ok (.putfield 1027, 3) := by decide +kernel
theorem dX12_reopen_40 : decode cX12_reopen 40 = .ok (.iconst 1, 1) := by decide +kernel
theorem dX12_reopen_41 : decode cX12_reopen 41 = .ok (.istore_n 3, 1) := by decide +kernel
theorem dX12_reopen_42 : decode cX12_reopen 42 = .ok (.iload_n 3, 1) := by decide +kernel
theorem dX12_reopen_43 : decode cX12_reopen 43 = .ok (.ifCond .eq 151, 3) := by decide +kernel
theorem dX12_reopen_46 : decode cX12_reopen 46 = .ok (.aload_n 0, 1) := by decide +kernel
theorem dX12_reopen_47 : decode cX12_reopen 47 = .ok (.getfield 1027, 3) := by decide +kernel
theorem dX12_reopen_50 : decode cX12_reopen 50 = .ok (.iconst 2, 1) := by decide +kernel
theorem dX12_reopen_51 : decode cX12_reopen 51 = .ok (.iadd, 1) := by decide +kernel
theorem dX12_reopen_52 : decode cX12_reopen 52 = .ok (.iload_n 2, 1) := by decide +kernel
theorem dX12_reopen_53 : decode cX12_reopen 53 = .ok (.if_icmp .gt 39, 3) := by decide +kernel
theorem dX12_reopen_56 : decode cX12_reopen 56 = .ok (.aload_n 0, 1) := by decide +kernel
theorem dX12_reopen_57 : decode cX12_reopen 57 = .ok (.getfield 372, 3) := by decide +kernel
theorem dX12_reopen_60 : decode cX12_reopen 60 = .ok (.aload_n 0, 1) := by decide +kernel
theorem dX12_reopen_61 : decode cX12_reopen 61 = .ok (.getfield 1027, 3) := by decide +kernel
theorem dX12_reopen_64 : decode cX12_reopen 64 = .ok (.baload, 1) := by decide +kernel
theorem dX12_reopen_65 : decode cX12_reopen 65 = .ok (.sipush 255, 3) := by decide +kernel
theorem dX12_reopen_68 : decode cX12_reopen 68 = .ok (.iand, 1) := by decide +kernel
theorem dX12_reopen_69 : decode cX12_reopen 69 = .ok (.sipush 256, 3) := by decide +kernel
theorem dX12_reopen_72 : decode cX12_reopen 72 = .ok (.aload_n 0, 1) := by decide +kernel
theorem dX12_reopen_73 : decode cX12_reopen 73 = .ok (.getfield 372, 3) := by decide +kernel
theorem dX12_reopen_76 : decode cX12_reopen 76 = .ok (.aload_n 0, 1) := by decide +kernel
theorem dX12_reopen_77 : decode cX12_reopen 77 = .ok (.getfield 1027, 3) := by decide +kernel
theorem dX12_reopen_80 : decode cX12_reopen 80 = .ok (.iconst 1, 1) := by decide +kernel
theorem dX12_reopen_81 : decode cX12_reopen 81 = .ok (.iadd, 1) := by decide +kernel
theorem dX12_reopen_82 : decode cX12_reopen 82 = .ok (.baload, 1) := by decide +kernel
theorem dX12_reopen_83 : decode cX12_reopen 83 = .ok (.sipush 255, 3) := by decide +kernel
theorem dX12_reopen_86 : decode cX12_reopen 86 = .ok (.iand, 1) := by decide +kernel
theorem dX12_reopen_87 : decode cX12_reopen 87 = .ok (.imul, 1) := by decide +kernel
theorem dX12_reopen_88 : decode cX12_reopen 88 = .ok (.iadd, 1) := by decide +kernel
theorem dX12_reopen_89 : decode cX12_reopen 89 = .ok (.goto 6, 3) := by decide +kernel
theorem dX12_reopen_92 : decode cX12_reopen 92 = .ok (.sipush 9999, 3) := by decide +kernel
theorem dX12_reopen_95 : decode cX12_reopen 95 = .ok (.istore 4, 2) := by decide +kernel
theorem dX12_reopen_97 : decode cX12_reopen 97 = .ok (.aload_n 0, 1) := by decide +kernel
theorem dX12_reopen_98 : decode cX12_reopen 98 = .ok (.getfield 1027, 3) := by decide +kernel
theorem dX12_reopen_101 : decode cX12_reopen 101 = .ok (.iconst 2, 1) := by decide +kernel
theorem dX12_reopen_102 : decode cX12_reopen 102 = .ok (.iadd, 1) := by decide +kernel
theorem dX12_reopen_103 : decode cX12_reopen 103 = .ok (.iload 4, 2) := by decide +kernel
theorem dX12_reopen_105 : decode cX12_reopen 105 = .ok (.iadd, 1) := by decide +kernel
theorem dX12_reopen_106 : decode cX12_reopen 106 = .ok (.iload_n 2, 1) := by decide +kernel
theorem dX12_reopen_107 : decode cX12_reopen 107 = .ok (.if_icmp .gt 7, 3) := by decide +kernel
theorem dX12_reopen_110 : decode cX12_reopen 110 = .ok (.iconst 1, 1) := by decide +kernel
theorem dX12_reopen_111 : decode cX12_reopen 111 = .ok (.goto 4, 3) := by decide +kernel
theorem dX12_reopen_114 : decode cX12_reopen 114 = .ok (.iconst 0, 1) := by decide +kernel
theorem dX12_reopen_115 : decode cX12_reopen 115 = .ok (.istore_n 3, 1) := by decide +kernel
theorem dX12_reopen_116 : decode cX12_reopen 116 = .ok (.iload_n 3, 1) := by decide +kernel
theorem dX12_reopen_117 : decode cX12_reopen 117 = .ok (.ifCond .ne 6, 3) := by decide +kernel
theorem dX12_reopen_120 : decode cX12_reopen 120 = .ok (.goto (-78), 3) := by decide +kernel
theorem dX12_reopen_123 : decode cX12_reopen 123 = .ok (.aload_n 0, 1) := by decide +kernel
theorem dX12_reopen_124 : decode cX12_reopen 124 = .ok (.aload_n 0, 1) := by decide +kernel
theorem dX12_reopen_125 : decode cX12_reopen 125 = .ok (.getfield 1027, 3) := by decide +kernel
theorem dX12_reopen_128 : decode cX12_reopen 128 = .ok (.invokevirtual 1033, 3) := by decide +kernel
theorem dX12_reopen_131 : decode cX12_reopen 131 = .ok (.aload_n 0, 1) := by decide +kernel
theorem dX12_reopen_132 : decode cX12_reopen 132 = .ok (.invokevirtual 1021, 3) := by decide +kernel
theorem dX12_reopen_135 : decode cX12_reopen 135 = .ok (.aload_n 0, 1) := by decide +kernel
theorem dX12_reopen_136 : decode cX12_reopen 136 = .ok (.getfield 625, 3) := by decide +kernel
theorem dX12_reopen_139 : decode cX12_reopen 139 = .ok (.ifCond .ne 7, 3) := by decide +kernel
theorem dX12_reopen_142 : decode cX12_reopen 142 = .ok (.iconst 1, 1) := by decide +kernel
theorem dX12_reopen_143 : decode cX12_reopen 143 = .ok (.goto 4, 3) := by decide +kernel
theorem dX12_reopen_146 : decode cX12_reopen 146 = .ok (.iconst 0, 1) := by decide +kernel
theorem dX12_reopen_147 : decode cX12_reopen 147 = .ok (.istore_n 3, 1) := by decide +kernel
theorem dX12_reopen_148 : decode cX12_reopen 148 = .ok (.iload_n 3, 1) := by decide +kernel
theorem dX12_reopen_149 : decode cX12_reopen 149 = .ok (.ifCond .ne 6, 3) := by decide +kernel
theorem dX12_reopen_152 : decode cX12_reopen 152 = .ok (.goto (-110), 3) := by decide +kernel
theorem dX12_reopen_155 : decode cX12_reopen 155 = .ok (.aload_n 0, 1) := by decide +kernel
theorem dX12_reopen_156 : decode cX12_reopen 156 = .ok (.getfield 381, 3) := by decide +kernel
theorem dX12_reopen_159 : decode cX12_reopen 159 = .ok (.aload_n 0, 1) := by decide +kernel
theorem dX12_reopen_160 : decode cX12_reopen 160 = .ok (.getfield 1030, 3) := by decide +kernel
theorem dX12_reopen_163 : decode cX12_reopen 163 = .ok (.aload_n 0, 1) := by decide +kernel
theorem dX12_reopen_164 : decode cX12_reopen 164 = .ok (.getfield 1027, 3) := by decide +kernel
theorem dX12_reopen_167 : decode cX12_reopen 167 = .ok (.iastore, 1) := by decide +kernel
theorem dX12_reopen_168 : decode cX12_reopen 168 = .ok (.aload_n 0, 1) := by decide +kernel
theorem dX12_reopen_169 : decode cX12_reopen 169 = .ok (.dup, 1) := by decide +kernel
theorem dX12_reopen_170 : decode cX12_reopen 170 = .ok (.getfield 1030, 3) := by decide +kernel
theorem dX12_reopen_173 : decode cX12_reopen 173 = .ok (.iconst 1, 1) := by decide +kernel
theorem dX12_reopen_174 : decode cX12_reopen 174 = .ok (.iadd, 1) := by decide +kernel
theorem dX12_reopen_175 : decode cX12_reopen 175 = .ok (.putfield 1030, 3) := by decide +kernel
theorem dX12_reopen_178 : decode cX12_reopen 178 = .ok (.aload_n 0, 1) := by decide +kernel
theorem dX12_reopen_179 : decode cX12_reopen 179 = .ok (.dup, 1) := by decide +kernel
theorem dX12_reopen_180 : decode cX12_reopen 180 = .ok (.getfield 1027, 3) := by decide +kernel
theorem dX12_reopen_183 : decode cX12_reopen 183 = .ok (.iconst 2, 1) := by decide +kernel
theorem dX12_reopen_184 : decode cX12_reopen 184 = .ok (.iload 4, 2) := by decide +kernel
theorem dX12_reopen_186 : decode cX12_reopen 186 = .ok (.iadd, 1) := by decide +kernel
theorem dX12_reopen_187 : decode cX12_reopen 187 = .ok (.iadd, 1) := by decide +kernel
theorem dX12_reopen_188 : decode cX12_reopen 188 = .ok (.putfield 1027, 3) := by decide +kernel
theorem dX12_reopen_191 : decode cX12_reopen 191 = .ok (.goto (-149), 3) := by decide +kernel
theorem dX12_reopen_194 : decode cX12_reopen 194 = .ok (.aload_n 0, 1) := by decide +kernel
theorem dX12_reopen_195 : decode cX12_reopen 195 = .ok (.getfield 1030, 3) := by decide +kernel
theorem dX12_reopen_198 : decode cX12_reopen 198 = .ok (.ireturn, 1) := by decide +kernel
theorem dX12_root_0 : decode cX12_root 0 = .ok (.aload_n 0, 1) := by decide +kernel
theorem dX12_root_1 : decode cX12_root 1 = .ok (.aload_n 0, 1) := by decide +kernel
theorem dX12_root_2 : decode cX12_root 2 = .ok (.iload_n 1, 1) := by decide +kernel
theorem dX12_root_3 : decode cX12_root 3 = .ok (.invokevirtual 473, 3) := by decide +kernel
theorem dX12_root_6 : decode cX12_root 6 = .ok (.ifCond .eq 7, 3) := by decide +kernel
theorem dX12_root_9 : decode cX12_root 9 = .ok (.iconst 0, 1) := by decide +kernel
theorem dX12_root_10 : decode cX12_root 10 = .ok (.goto 4, 3) := by decide +kernel
theorem dX12_root_13 : decode cX12_root 13 = .ok (.iconst 1, 1) := by decide +kernel
theorem dX12_root_14 : decode cX12_root 14 = .ok (.putfield 388, 3) := by decide +kernel
theorem dX12_root_17 : decode cX12_root 17 = .ok (.aload_n 0, 1) := by decide +kernel
theorem dX12_root_18 : decode cX12_root 18 = .ok (.getfield 388, 3) := by decide +kernel
theorem dX12_root_21 : decode cX12_root 21 = .ok (.ifCond .le 4, 3) := by decide +kernel
theorem dX12_root_24 : decode cX12_root 24 = .ok (.return_, 1) := by decide +kernel
theorem dX12_root_25 : decode cX12_root 25 = .ok (.aload_n 0, 1) := by decide +kernel
theorem dX12_root_26 : decode cX12_root 26 = .ok (.iload_n 1, 1) := by decide +kernel
theorem dX12_root_27 : decode cX12_root 27 = .ok (.invokevirtual 476, 3) := by decide +kernel
theorem dX12_root_30 : decode cX12_root 30 = .ok (.istore_n 3, 1) := by decide +kernel
theorem dX12_root_31 : decode cX12_root 31 = .ok (.aload_n 0, 1) := by decide +kernel
theorem dX12_root_32 : decode cX12_root 32 = .ok (.iload_n 2, 1) := by decide +kernel
theorem dX12_root_33 : decode cX12_root 33 = .ok (.ifCond .eq 21, 3) := by decide +kernel
theorem dX12_root_36 : decode cX12_root 36 = .ok (.iload_n 3, 1) := by decide +kernel
theorem dX12_root_37 : decode cX12_root 37 = .ok (.iconst (-1), 1) := by decide +kernel
theorem dX12_root_38 : decode cX12_root 38 = .ok (.if_icmp .ne 16, 3) := by decide +kernel
theorem dX12_root_41 : decode cX12_root 41 = .ok (.aload_n 0, 1) := by decide +kernel
theorem dX12_root_42 : decode cX12_root 42 = .ok (.getfield 470, 3) := by decide +kernel
theorem dX12_root_45 : decode cX12_root 45 = .ok (.bipush 12, 2) := by decide +kernel
theorem dX12_root_47 : decode cX12_root 47 = .ok (.if_icmp .ne 7, 3) := by decide +kernel
theorem dX12_root_50 : decode cX12_root 50 = .ok (.iconst 2, 1) := by decide +kernel
theorem dX12_root_51 : decode cX12_root 51 = .ok (.goto 4, 3) := by decide +kernel
theorem dX12_root_54 : decode cX12_root 54 = .ok (.iconst 0, 1) := by decide +kernel
theorem dX12_root_55 : decode cX12_root 55 = .ok (.putfield 388, 3) := by decide +kernel
theorem dX12_root_58 : decode cX12_root 58 = .ok (.aload_n 0, 1) := by decide +kernel
theorem dX12_root_59 : decode cX12_root 59 = .ok (.getfield 388, 3) := by decide +kernel
theorem dX12_root_62 : decode cX12_root 62 = .ok (.ifCond .le 4, 3) := by decide +kernel
theorem dX12_root_65 : decode cX12_root 65 = .ok (.return_, 1) := by decide +kernel
theorem dX12_root_66 : decode cX12_root 66 = .ok (.iload_n 2, 1) := by decide +kernel
theorem dX12_root_67 : decode cX12_root 67 = .ok (.ifCond .eq 28, 3) := by decide +kernel
theorem dX12_root_70 : decode cX12_root 70 = .ok (.iload_n 3, 1) := by decide +kernel
theorem dX12_root_71 : decode cX12_root 71 = .ok (.iconst (-1), 1) := by decide +kernel
theorem dX12_root_72 : decode cX12_root 72 = .ok (.if_icmp .ne 23, 3) := by decide +kernel
theorem dX12_root_75 : decode cX12_root 75 = .ok (.aload_n 0, 1) := by decide +kernel
theorem dX12_root_76 : decode cX12_root 76 = .ok (.getfield 141, 3) := by decide +kernel
theorem dX12_root_79 : decode cX12_root 79 = .ok (.aload_n 0, 1) := by decide +kernel
theorem dX12_root_80 : decode cX12_root 80 = .ok (.getfield 470, 3) := by decide +kernel
theorem dX12_root_83 : decode cX12_root 83 = .ok (.iload_n 1, 1) := by decide +kernel
theorem dX12_root_84 : decode cX12_root 84 = .ok (.iastore, 1) := by decide +kernel
theorem dX12_root_85 : decode cX12_root 85 = .ok (.aload_n 0, 1) := by decide +kernel
theorem dX12_root_86 : decode cX12_root 86 = .ok (.dup, 1) := by decide +kernel
theorem dX12_root_87 : decode cX12_root 87 = .ok (.getfield 470, 3) := by decide +kernel
theorem dX12_root_90 : decode cX12_root 90 = .ok (.iconst 1, 1) := by decide +kernel
theorem dX12_root_91 : decode cX12_root 91 = .ok (.iadd, 1) := by decide +kernel
theorem dX12_root_92 : decode cX12_root 92 = .ok (.putfield 470, 3) := by decide +kernel
theorem dX12_root_95 : decode cX12_root 95 = .ok (.iload_n 2, 1) := by decide +kernel
theorem dX12_root_96 : decode cX12_root 96 = .ok (.ifCond .ne 8, 3) := by decide +kernel
theorem dX12_root_99 : decode cX12_root 99 = .ok (.iload_n 3, 1) := by decide +kernel
theorem dX12_root_100 : decode cX12_root 100 = .ok (.iconst (-1), 1) := by decide +kernel
theorem dX12_root_101 : decode cX12_root 101 = .ok (.if_icmp .ne 4, 3) := by decide +kernel
theorem dX12_root_104 : decode cX12_root 104 = .ok (.return_, 1) := by decide +kernel
theorem dX12_root_105 : decode cX12_root 105 = .ok (.iload_n 3, 1) := by decide +kernel
theorem dX12_root_106 : decode cX12_root 106 = .ok (.istore 4, 2) := by decide +kernel
theorem dX12_root_108 : decode cX12_root 108 = .ok (.iload 4, 2) := by decide +kernel
theorem dX12_root_110 : decode cX12_root 110 = .ok (.iconst 1, 1) := by decide +kernel
theorem dX12_root_111 : decode cX12_root 111 = .ok (.iadd, 1) := by decide +kernel
theorem dX12_root_112 : decode cX12_root 112 = .ok (.aload_n 0, 1) := by decide +kernel
theorem dX12_root_113 : decode cX12_root 113 = .ok (.getfield 470, 3) := by decide +kernel
theorem dX12_root_116 : decode cX12_root 116 = .ok (.if_icmp .ge 25, 3) := by decide +kernel
theorem dX12_root_119 : decode cX12_root 119 = .ok (.aload_n 0, 1) := by decide +kernel
theorem dX12_root_120 : decode cX12_root 120 = .ok (.getfield 141, 3) := by decide +kernel
theorem dX12_root_123 : decode cX12_root 123 = .ok (.iload 4, 2) := by decide +kernel
theorem dX12_root_125 : decode cX12_root 125 = .ok (.aload_n 0, 1) := by decide +kernel
theorem dX12_root_126 : decode cX12_root 126 = .ok (.getfield 141, 3) := by decide +kernel
theorem dX12_root_129 : decode cX12_root 129 = .ok (.iload 4, 2) := by decide +kernel
theorem dX12_root_131 : decode cX12_root 131 = .ok (.iconst 1, 1) := by decide +kernel
theorem dX12_root_132 : decode cX12_root 132 = .ok (.iadd, 1) := by decide +kernel
theorem dX12_root_133 : decode cX12_root 133 = .ok (.iaload, 1) := by decide +kernel
theorem dX12_root_134 : decode cX12_root 134 = .ok (.iastore, 1) := by decide +kernel
theorem dX12_root_135 : decode cX12_root 135 = .ok (.iinc 4 1, 3) := by decide +kernel
theorem dX12_root_138 : decode cX12_root 138 = .ok (.goto (-30), 3) := by decide +kernel
theorem dX12_root_141 : decode cX12_root 141 = .ok (.aload_n 0, 1) := by decide +kernel
theorem dX12_root_142 : decode cX12_root 142 = .ok (.dup, 1) := by decide +kernel
theorem dX12_root_143 : decode cX12_root 143 = .ok (.getfield 470, 3) := by decide +kernel
theorem dX12_root_146 : decode cX12_root 146 = .ok (.iconst 1, 1) := by decide +kernel
theorem dX12_root_147 : decode cX12_root 147 = .ok (.isub, 1) := by decide +kernel
theorem dX12_root_148 : decode cX12_root 148 = .ok (.putfield 470, 3) := by decide +kernel
theorem dX12_root_151 : decode cX12_root 151 = .ok (.return_, 1) := by decide +kernel
theorem dX12_rootAt_0 : decode cX12_rootAt 0 = .ok (.iconst (-1), 1) := by decide +kernel
theorem dX12_rootAt_1 : decode cX12_rootAt 1 = .ok (.istore_n 2, 1) := by decide +kernel
theorem dX12_rootAt_2 : decode cX12_rootAt 2 = .ok (.iconst 0, 1) := by decide +kernel
theorem dX12_rootAt_3 : decode cX12_rootAt 3 = .ok (.istore_n 3, 1) := by decide +kernel
theorem dX12_rootAt_4 : decode cX12_rootAt 4 = .ok (.iload_n 3, 1) := by decide +kernel
theorem dX12_rootAt_5 : decode cX12_rootAt 5 = .ok (.aload_n 0, 1) := by decide +kernel
theorem dX12_rootAt_6 : decode cX12_rootAt 6 = .ok (.getfield 470, 3) := by decide +kernel
theorem dX12_rootAt_9 : decode cX12_rootAt 9 = .ok (.if_icmp .ge 25, 3) := by decide +kernel
theorem dX12_rootAt_12 : decode cX12_rootAt 12 = .ok (.aload_n 0, 1) := by decide +kernel
theorem dX12_rootAt_13 : decode cX12_rootAt 13 = .ok (.getfield 141, 3) := by decide +kernel
theorem dX12_rootAt_16 : decode cX12_rootAt 16 = .ok (.iload_n 3, 1) := by decide +kernel
theorem dX12_rootAt_17 : decode cX12_rootAt 17 = .ok (.iaload, 1) := by decide +kernel
theorem dX12_rootAt_18 : decode cX12_rootAt 18 = .ok (.iload_n 1, 1) := by decide +kernel
theorem dX12_rootAt_19 : decode cX12_rootAt 19 = .ok (.if_icmp .ne 7, 3) := by decide +kernel
theorem dX12_rootAt_22 : decode cX12_rootAt 22 = .ok (.iload_n 3, 1) := by decide +kernel
theorem dX12_rootAt_23 : decode cX12_rootAt 23 = .ok (.goto 4, 3) := by decide +kernel
theorem dX12_rootAt_26 : decode cX12_rootAt 26 = .ok (.iload_n 2, 1) := by decide +kernel
theorem dX12_rootAt_27 : decode cX12_rootAt 27 = .ok (.istore_n 2, 1) := by decide +kernel
theorem dX12_rootAt_28 : decode cX12_rootAt 28 = .ok (.iinc 3 1, 3) := by decide +kernel
theorem dX12_rootAt_31 : decode cX12_rootAt 31 = .ok (.goto (-27), 3) := by decide +kernel
theorem dX12_rootAt_34 : decode cX12_rootAt 34 = .ok (.iload_n 2, 1) := by decide +kernel
theorem dX12_rootAt_35 : decode cX12_rootAt 35 = .ok (.ireturn, 1) := by decide +kernel
theorem dX12_row_0 : decode cX12_row 0 = .ok (.aload_n 0, 1) := by decide +kernel
theorem dX12_row_1 : decode cX12_row 1 = .ok (.iload_n 1, 1) := by decide +kernel
theorem dX12_row_2 : decode cX12_row 2 = .ok (.ifCond .lt 34, 3) := by decide +kernel
theorem dX12_row_5 : decode cX12_row 5 = .ok (.iload_n 1, 1) := by decide +kernel
theorem dX12_row_6 : decode cX12_row 6 = .ok (.aload_n 0, 1) := by decide +kernel
theorem dX12_row_7 : decode cX12_row 7 = .ok (.getfield 485, 3) := by decide +kernel
theorem dX12_row_10 : decode cX12_row 10 = .ok (.if_icmp .ge 26, 3) := by decide +kernel
theorem dX12_row_13 : decode cX12_row 13 = .ok (.iload_n 2, 1) := by decide +kernel
theorem dX12_row_14 : decode cX12_row 14 = .ok (.ifCond .lt 22, 3) := by decide +kernel
theorem dX12_row_17 : decode cX12_row 17 = .ok (.iload_n 2, 1) := by decide +kernel
theorem dX12_row_18 : decode cX12_row 18 = .ok (.aload_n 0, 1) := by decide +kernel
theorem dX12_row_19 : decode cX12_row 19 = .ok (.getfield 162, 3) := by decide +kernel
theorem dX12_row_22 : decode cX12_row 22 = .ok (.iload_n 1, 1) := by decide +kernel
theorem dX12_row_23 : decode cX12_row 23 = .ok (.iaload, 1) := by decide +kernel
theorem dX12_row_24 : decode cX12_row 24 = .ok (.if_icmp .ge 12, 3) := by decide +kernel
theorem dX12_row_27 : decode cX12_row 27 = .ok (.iload_n 3, 1) := by decide +kernel
theorem dX12_row_28 : decode cX12_row 28 = .ok (.ifCond .lt 8, 3) := by decide +kernel
theorem dX12_row_31 : decode cX12_row 31 = .ok (.iload_n 3, 1) := by decide +kernel
theorem dX12_row_32 : decode cX12_row 32 = .ok (.iconst 3, 1) := by decide +kernel
theorem dX12_row_33 : decode cX12_row 33 = .ok (.if_icmp .le 7, 3) := by decide +kernel
theorem dX12_row_36 : decode cX12_row 36 = .ok (.iconst 1, 1) := by decide +kernel
theorem dX12_row_37 : decode cX12_row 37 = .ok (.goto 4, 3) := by decide +kernel
theorem dX12_row_40 : decode cX12_row 40 = .ok (.iconst 0, 1) := by decide +kernel
theorem dX12_row_41 : decode cX12_row 41 = .ok (.putfield 388, 3) := by decide +kernel
theorem dX12_row_44 : decode cX12_row 44 = .ok (.aload_n 0, 1) := by decide +kernel
theorem dX12_row_45 : decode cX12_row 45 = .ok (.getfield 388, 3) := by decide +kernel
theorem dX12_row_48 : decode cX12_row 48 = .ok (.ifCond .le 5, 3) := by decide +kernel
theorem dX12_row_51 : decode cX12_row 51 = .ok (.lconst 0, 1) := by decide +kernel
theorem dX12_row_52 : decode cX12_row 52 = .ok (.lreturn, 1) := by decide +kernel
theorem dX12_row_53 : decode cX12_row 53 = .ok (.bipush 6, 2) := by decide +kernel
theorem dX12_row_55 : decode cX12_row 55 = .ok (.iload_n 1, 1) := by decide +kernel
theorem dX12_row_56 : decode cX12_row 56 = .ok (.imul, 1) := by decide +kernel
theorem dX12_row_57 : decode cX12_row 57 = .ok (.iload_n 2, 1) := by decide +kernel
theorem dX12_row_58 : decode cX12_row 58 = .ok (.iadd, 1) := by decide +kernel
theorem dX12_row_59 : decode cX12_row 59 = .ok (.istore 4, 2) := by decide +kernel
theorem dX12_row_61 : decode cX12_row 61 = .ok (.iload_n 3, 1) := by decide +kernel
theorem dX12_row_62 : decode cX12_row 62 = .ok (.ifCond .ne 14, 3) := by decide +kernel
theorem dX12_row_65 : decode cX12_row 65 = .ok (.aload_n 0, 1) := by decide +kernel
theorem dX12_row_66 : decode cX12_row 66 = .ok (.getfield 165, 3) := by decide +kernel
theorem dX12_row_69 : decode cX12_row 69 = .ok (.iload 4, 2) := by decide +kernel
theorem dX12_row_71 : decode cX12_row 71 = .ok (.iaload, 1) := by decide +kernel
theorem dX12_row_72 : decode cX12_row 72 = .ok (.i2l, 1) := by decide +kernel
theorem dX12_row_73 : decode cX12_row 73 = .ok (.goto 41, 3) := by decide +kernel
theorem dX12_row_76 : decode cX12_row 76 = .ok (.iload_n 3, 1) := by decide +kernel
theorem dX12_row_77 : decode cX12_row 77 = .ok (.iconst 1, 1) := by decide +kernel
theorem dX12_row_78 : decode cX12_row 78 = .ok (.if_icmp .ne 14, 3) := by decide +kernel
theorem dX12_row_81 : decode cX12_row 81 = .ok (.aload_n 0, 1) := by decide +kernel
theorem dX12_row_82 : decode cX12_row 82 = .ok (.getfield 168, 3) := by decide +kernel
theorem dX12_row_85 : decode cX12_row 85 = .ok (.iload 4, 2) := by decide +kernel
theorem dX12_row_87 : decode cX12_row 87 = .ok (.iaload, 1) := by decide +kernel
theorem dX12_row_88 : decode cX12_row 88 = .ok (.i2l, 1) := by decide +kernel
theorem dX12_row_89 : decode cX12_row 89 = .ok (.goto 25, 3) := by decide +kernel
theorem dX12_row_92 : decode cX12_row 92 = .ok (.iload_n 3, 1) := by decide +kernel
theorem dX12_row_93 : decode cX12_row 93 = .ok (.iconst 2, 1) := by decide +kernel
theorem dX12_row_94 : decode cX12_row 94 = .ok (.if_icmp .ne 13, 3) := by decide +kernel
theorem dX12_row_97 : decode cX12_row 97 = .ok (.aload_n 0, 1) := by decide +kernel
theorem dX12_row_98 : decode cX12_row 98 = .ok (.getfield 171, 3) := by decide +kernel
theorem dX12_row_101 : decode cX12_row 101 = .ok (.iload 4, 2) := by decide +kernel
theorem dX12_row_103 : decode cX12_row 103 = .ok (.laload, 1) := by decide +kernel
theorem dX12_row_104 : decode cX12_row 104 = .ok (.goto 10, 3) := by decide +kernel
theorem dX12_row_107 : decode cX12_row 107 = .ok (.aload_n 0, 1) := by decide +kernel
theorem dX12_row_108 : decode cX12_row 108 = .ok (.getfield 174, 3) := by decide +kernel
theorem dX12_row_111 : decode cX12_row 111 = .ok (.iload 4, 2) := by decide +kernel
theorem dX12_row_113 : decode cX12_row 113 = .ok (.laload, 1) := by decide +kernel
theorem dX12_row_114 : decode cX12_row 114 = .ok (.lreturn, 1) := by decide +kernel
theorem dX12_rows_0 : decode cX12_rows 0 = .ok (.aload_n 0, 1) := by decide +kernel
theorem dX12_rows_1 : decode cX12_rows 1 = .ok (.iconst 0, 1) := by decide +kernel
theorem dX12_rows_2 : decode cX12_rows 2 = .ok (.putfield 388, 3) := by decide +kernel
theorem dX12_rows_5 : decode cX12_rows 5 = .ok (.iload_n 1, 1) := by decide +kernel
theorem dX12_rows_6 : decode cX12_rows 6 = .ok (.ifCond .lt 20, 3) := by decide +kernel
theorem dX12_rows_9 : decode cX12_rows 9 = .ok (.iload_n 1, 1) := by decide +kernel
theorem dX12_rows_10 : decode cX12_rows 10 = .ok (.aload_n 0, 1) := by decide +kernel
theorem dX12_rows_11 : decode cX12_rows 11 = .ok (.getfield 485, 3) := by decide +kernel
theorem dX12_rows_14 : decode cX12_rows 14 = .ok (.if_icmp .ge 12, 3) := by decide +kernel
theorem dX12_rows_17 : decode cX12_rows 17 = .ok (.aload_n 0, 1) := by decide +kernel
theorem dX12_rows_18 : decode cX12_rows 18 = .ok (.getfield 162, 3) := by decide +kernel
theorem dX12_rows_21 : decode cX12_rows 21 = .ok (.iload_n 1, 1) := by decide +kernel
theorem dX12_rows_22 : decode cX12_rows 22 = .ok (.iaload, 1) := by decide +kernel
theorem dX12_rows_23 : decode cX12_rows 23 = .ok (.goto 4, 3) := by decide +kernel
theorem dX12_rows_26 : decode cX12_rows 26 = .ok (.iconst (-1), 1) := by decide +kernel
theorem dX12_rows_27 : decode cX12_rows 27 = .ok (.ireturn, 1) := by decide +kernel
theorem dX12_rules_0 : decode cX12_rules 0 = .ok (.aload_n 0, 1) := by decide +kernel
theorem dX12_rules_1 : decode cX12_rules 1 = .ok (.aload_n 0, 1) := by decide +kernel
theorem dX12_rules_2 : decode cX12_rules 2 = .ok (.iload_n 1, 1) := by decide +kernel
theorem dX12_rules_3 : decode cX12_rules 3 = .ok (.invokevirtual 542, 3) := by decide +kernel
theorem dX12_rules_6 : decode cX12_rules 6 = .ok (.ifCond .eq 22, 3) := by decide +kernel
theorem dX12_rules_9 : decode cX12_rules 9 = .ok (.aload_n 0, 1) := by decide +kernel
theorem dX12_rules_10 : decode cX12_rules 10 = .ok (.getfield 183, 3) := by decide +kernel
theorem dX12_rules_13 : decode cX12_rules 13 = .ok (.iload_n 1, 1) := by decide +kernel
theorem dX12_rules_14 : decode cX12_rules 14 = .ok (.iaload, 1) := by decide +kernel
theorem dX12_rules_15 : decode cX12_rules 15 = .ok (.bipush 40, 2) := by decide +kernel
theorem dX12_rules_17 : decode cX12_rules 17 = .ok (.if_icmp .le 7, 3) := by decide +kernel
theorem dX12_rules_20 : decode cX12_rules 20 = .ok (.iconst 2, 1) := by decide +kernel
theorem dX12_rules_21 : decode cX12_rules 21 = .ok (.goto 8, 3) := by decide +kernel
theorem dX12_rules_24 : decode cX12_rules 24 = .ok (.iconst 0, 1) := by decide +kernel
theorem dX12_rules_25 : decode cX12_rules 25 = .ok (.goto 4, 3) := by decide +kernel
theorem dX12_rules_28 : decode cX12_rules 28 = .ok (.iconst 1, 1) := by decide +kernel
theorem dX12_rules_29 : decode cX12_rules 29 = .ok (.putfield 388, 3) := by decide +kernel
theorem dX12_rules_32 : decode cX12_rules 32 = .ok (.aload_n 0, 1) := by decide +kernel
theorem dX12_rules_33 : decode cX12_rules 33 = .ok (.getfield 388, 3) := by decide +kernel
theorem dX12_rules_36 : decode cX12_rules 36 = .ok (.ifCond .le 5, 3) := by decide +kernel
theorem dX12_rules_39 : decode cX12_rules 39 = .ok (.iconst 0, 1) := by decide +kernel
theorem dX12_rules_40 : decode cX12_rules 40 = .ok (.ireturn, 1) := by decide +kernel
theorem dX12_rules_41 : decode cX12_rules 41 = .ok (.aload_n 0, 1) := by decide +kernel
theorem dX12_rules_42 : decode cX12_rules 42 = .ok (.iconst 0, 1) := by decide +kernel
theorem dX12_rules_43 : decode cX12_rules 43 = .ok (.putfield 905, 3) := by decide +kernel
theorem dX12_rules_46 : decode cX12_rules 46 = .ok (.aload_n 0, 1) := by decide +kernel
theorem dX12_rules_47 : decode cX12_rules 47 = .ok (.iconst 0, 1) := by decide +kernel
theorem dX12_rules_48 : decode cX12_rules 48 = .ok (.putfield 908, 3) := by decide +kernel
theorem dX12_rules_51 : decode cX12_rules 51 = .ok (.aload_n 0, 1) := by decide +kernel
theorem dX12_rules_52 : decode cX12_rules 52 = .ok (.iconst 0, 1) := by decide +kernel
theorem dX12_rules_53 : decode cX12_rules 53 = .ok (.invokevirtual 855, 3) := by decide +kernel
theorem dX12_rules_56 : decode cX12_rules 56 = .ok (.aload_n 0, 1) := by decide +kernel
theorem dX12_rules_57 : decode cX12_rules 57 = .ok (.getfield 625, 3) := by decide +kernel
theorem dX12_rules_60 : decode cX12_rules 60 = .ok (.ifCond .ne 17, 3) := by decide +kernel
theorem dX12_rules_63 : decode cX12_rules 63 = .ok (.aload_n 0, 1) := by decide +kernel
theorem dX12_rules_64 : decode cX12_rules 64 = .ok (.getfield 644, 3) := by decide +kernel
theorem dX12_rules_67 : decode cX12_rules 67 = .ok (.ifCond .eq 10, 3) := by decide +kernel
theorem dX12_rules_70 : decode cX12_rules 70 = .ok (.aload_n 0, 1) := by decide +kernel
theorem dX12_rules_71 : decode cX12_rules 71 = .ok (.invokevirtual 942, 3) := by decide +kernel
theorem dX12_rules_74 : decode cX12_rules 74 = .ok (.goto (-18), 3) := by decide +kernel
theorem dX12_rules_77 : decode cX12_rules 77 = .ok (.aload_n 0, 1) := by decide +kernel
theorem dX12_rules_78 : decode cX12_rules 78 = .ok (.invokevirtual 858, 3) := by decide +kernel
theorem dX12_rules_81 : decode cX12_rules 81 = .ok (.aload_n 0, 1) := by decide +kernel
theorem dX12_rules_82 : decode cX12_rules 82 = .ok (.aload_n 0, 1) := by decide +kernel
theorem dX12_rules_83 : decode cX12_rules 83 = .ok (.getfield 776, 3) := by decide +kernel
theorem dX12_rules_86 : decode cX12_rules 86 = .ok (.ifCond .le 7, 3) := by decide +kernel
theorem dX12_rules_89 : decode cX12_rules 89 = .ok (.iconst 3, 1) := by decide +kernel
theorem dX12_rules_90 : decode cX12_rules 90 = .ok (.goto 4, 3) := by decide +kernel
theorem dX12_rules_93 : decode cX12_rules 93 = .ok (.iconst 0, 1) := by decide +kernel
theorem dX12_rules_94 : decode cX12_rules 94 = .ok (.putfield 388, 3) := by decide +kernel
theorem dX12_rules_97 : decode cX12_rules 97 = .ok (.aload_n 0, 1) := by decide +kernel
theorem dX12_rules_98 : decode cX12_rules 98 = .ok (.getfield 388, 3) := by decide +kernel
theorem dX12_rules_101 : decode cX12_rules 101 = .ok (.ifCond .le 10, 3) := by decide +kernel
theorem dX12_rules_104 : decode cX12_rules 104 = .ok (.aload_n 0, 1) := by decide +kernel
theorem dX12_rules_105 : decode cX12_rules 105 = .ok (.iconst 0, 1) := by decide +kernel
theorem dX12_rules_106 : decode cX12_rules 106 = .ok (.putfield 905, 3) := by decide +kernel
theorem dX12_rules_109 : decode cX12_rules 109 = .ok (.iconst 0, 1) := by decide +kernel
theorem dX12_rules_110 : decode cX12_rules 110 = .ok (.ireturn, 1) := by decide +kernel
theorem dX12_rules_111 : decode cX12_rules 111 = .ok (.aload_n 0, 1) := by decide +kernel
theorem dX12_rules_112 : decode cX12_rules 112 = .ok (.iload_n 1, 1) := by decide +kernel
theorem dX12_rules_113 : decode cX12_rules 113 = .ok (.putfield 826, 3) := by decide +kernel
theorem dX12_rules_116 : decode cX12_rules 116 = .ok (.aload_n 0, 1) := by decide +kernel
theorem dX12_rules_117 : decode cX12_rules 117 = .ok (.iload_n 1, 1) := by decide +kernel
theorem dX12_rules_118 : decode cX12_rules 118 = .ok (.invokevirtual 945, 3) := by decide +kernel
theorem dX12_rules_121 : decode cX12_rules 121 = .ok (.iconst 0, 1) := by decide +kernel
theorem dX12_rules_122 : decode cX12_rules 122 = .ok (.istore_n 2, 1) := by decide +kernel
theorem dX12_rules_123 : decode cX12_rules 123 = .ok (.iload_n 2, 1) := by decide +kernel
theorem dX12_rules_124 : decode cX12_rules 124 = .ok (.sipush 240, 3) := by decide +kernel
theorem dX12_rules_127 : decode cX12_rules 127 = .ok (.if_icmp .ge 16, 3) := by decide +kernel
theorem dX12_rules_130 : decode cX12_rules 130 = .ok (.aload_n 0, 1) := by decide +kernel
theorem dX12_rules_131 : decode cX12_rules 131 = .ok (.getfield 357, 3) := by decide +kernel
theorem dX12_rules_134 : decode cX12_rules 134 = .ok (.iload_n 2, 1) := by decide +kernel
theorem dX12_rules_135 : decode cX12_rules 135 = .ok (.iconst 0, 1) := by decide +kernel
theorem dX12_rules_136 : decode cX12_rules 136 = .ok (.bastore, 1) := by decide +kernel
theorem dX12_rules_137 : decode cX12_rules 137 = .ok (.iinc 2 1, 3) := by decide +kernel
theorem dX12_rules_140 : decode cX12_rules 140 = .ok (.goto (-17), 3) := by decide +kernel
theorem dX12_rules_143 : decode cX12_rules 143 = .ok (.iconst 0, 1) := by decide +kernel
theorem dX12_rules_144 : decode cX12_rules 144 = .ok (.istore_n 2, 1) := by decide +kernel
theorem dX12_rules_145 : decode cX12_rules 145 = .ok (.iload_n 2, 1) := by decide +kernel
theorem dX12_rules_146 : decode cX12_rules 146 = .ok (.sipush 1600, 3) := by decide +kernel
theorem dX12_rules_149 : decode cX12_rules 149 = .ok (.aload_n 0, 1) := by decide +kernel
theorem dX12_rules_150 : decode cX12_rules 150 = .ok (.getfield 905, 3) := by decide +kernel
theorem dX12_rules_153 : decode cX12_rules 153 = .ok (.imul, 1) := by decide +kernel
theorem dX12_rules_154 : decode cX12_rules 154 = .ok (.if_icmp .ge 16, 3) := by decide +kernel
theorem dX12_rules_157 : decode cX12_rules 157 = .ok (.aload_n 0, 1) := by decide +kernel
theorem dX12_rules_158 : decode cX12_rules 158 = .ok (.getfield 360, 3) := by decide +kernel
theorem dX12_rules_161 : decode cX12_rules 161 = .ok (.iload_n 2, 1) := by decide +kernel
theorem dX12_rules_162 : decode cX12_rules 162 = .ok (.iconst 0, 1) := by decide +kernel
theorem dX12_rules_163 : decode cX12_rules 163 = .ok (.bastore, 1) := by decide +kernel
theorem dX12_rules_164 : decode cX12_rules 164 = .ok (.iinc 2 1, 3) := by decide +kernel
theorem dX12_rules_167 : decode cX12_rules 167 = .ok (.goto (-22), 3) := by decide +kernel
theorem dX12_rules_170 : decode cX12_rules 170 = .ok (.aload_n 0, 1) := by decide +kernel
theorem dX12_rules_171 : decode cX12_rules 171 = .ok (.iconst 1, 1) := by decide +kernel
theorem dX12_rules_172 : decode cX12_rules 172 = .ok (.putfield 933, 3) := by decide +kernel
theorem dX12_rules_175 : decode cX12_rules 175 = .ok (.aload_n 0, 1) := by decide +kernel
theorem dX12_rules_176 : decode cX12_rules 176 = .ok (.getfield 933, 3) := by decide +kernel
theorem dX12_rules_179 : decode cX12_rules 179 = .ok (.ifCond .eq 55, 3) := by decide +kernel
theorem dX12_rules_182 : decode cX12_rules 182 = .ok (.aload_n 0, 1) := by decide +kernel
theorem dX12_rules_183 : decode cX12_rules 183 = .ok (.iconst 0, 1) := by decide +kernel
theorem dX12_rules_184 : decode cX12_rules 184 = .ok (.putfield 933, 3) := by decide +kernel
theorem dX12_rules_187 : decode cX12_rules 187 = .ok (.iconst 0, 1) := by decide +kernel
theorem dX12_rules_188 : decode cX12_rules 188 = .ok (.istore_n 2, 1) := by decide +kernel
theorem dX12_rules_189 : decode cX12_rules 189 = .ok (.iload_n 2, 1) := by decide +kernel
theorem dX12_rules_190 : decode cX12_rules 190 = .ok (.aload_n 0, 1) := by decide +kernel
theorem dX12_rules_191 : decode cX12_rules 191 = .ok (.getfield 908, 3) := by decide +kernel
theorem dX12_rules_194 : decode cX12_rules 194 = .ok (.if_icmp .ge 37, 3) := by decide +kernel
theorem dX12_rules_197 : decode cX12_rules 197 = .ok (.iconst 0, 1) := by decide +kernel
theorem dX12_rules_198 : decode cX12_rules 198 = .ok (.istore_n 3, 1) := by decide +kernel
theorem dX12_rules_199 : decode cX12_rules 199 = .ok (.iload_n 3, 1) := by decide +kernel
theorem dX12_rules_200 : decode cX12_rules 200 = .ok (.bipush 9, 2) := by decide +kernel
theorem dX12_rules_202 : decode cX12_rules 202 = .ok (.if_icmp .ge 16, 3) := by decide +kernel
theorem dX12_rules_205 : decode cX12_rules 205 = .ok (.aload_n 0, 1) := by decide +kernel
theorem dX12_rules_206 : decode cX12_rules 206 = .ok (.getfield 363, 3) := by decide +kernel
theorem dX12_rules_209 : decode cX12_rules 209 = .ok (.iload_n 3, 1) := by decide +kernel
theorem dX12_rules_210 : decode cX12_rules 210 = .ok (.iconst 0, 1) := by decide +kernel
theorem dX12_rules_211 : decode cX12_rules 211 = .ok (.bastore, 1) := by decide +kernel
theorem dX12_rules_212 : decode cX12_rules 212 = .ok (.iinc 3 1, 3) := by decide +kernel
theorem dX12_rules_215 : decode cX12_rules 215 = .ok (.goto (-16), 3) := by decide +kernel
theorem dX12_rules_218 : decode cX12_rules 218 = .ok (.aload_n 0, 1) := by decide +kernel
theorem dX12_rules_219 : decode cX12_rules 219 = .ok (.iload_n 2, 1) := by decide +kernel
theorem dX12_rules_220 : decode cX12_rules 220 = .ok (.iconst 0, 1) := by decide +kernel
theorem dX12_rules_221 : decode cX12_rules 221 = .ok (.invokevirtual 939, 3) := by decide +kernel
theorem dX12_rules_224 : decode cX12_rules 224 = .ok (.istore_n 3, 1) := by decide +kernel
theorem dX12_rules_225 : decode cX12_rules 225 = .ok (.iinc 2 1, 3) := by decide +kernel
theorem dX12_rules_228 : decode cX12_rules 228 = .ok (.goto (-39), 3) := by decide +kernel
theorem dX12_rules_231 : decode cX12_rules 231 = .ok (.goto (-56), 3) := by decide +kernel
theorem dX12_rules_234 : decode cX12_rules 234 = .ok (.iconst 0, 1) := by decide +kernel
theorem dX12_rules_235 : decode cX12_rules 235 = .ok (.istore_n 2, 1) := by decide +kernel
theorem dX12_rules_236 : decode cX12_rules 236 = .ok (.iconst 0, 1) := by decide +kernel
theorem dX12_rules_237 : decode cX12_rules 237 = .ok (.istore_n 3, 1) := by decide +kernel
theorem dX12_rules_238 : decode cX12_rules 238 = .ok (.iload_n 3, 1) := by decide +kernel
theorem dX12_rules_239 : decode cX12_rules 239 = .ok (.aload_n 0, 1) := by decide +kernel
theorem dX12_rules_240 : decode cX12_rules 240 = .ok (.getfield 905, 3) := by decide +kernel
theorem dX12_rules_243 : decode cX12_rules 243 = .ok (.if_icmp .ge 17, 3) := by decide +kernel
theorem dX12_rules_246 : decode cX12_rules 246 = .ok (.iload_n 2, 1) := by decide +kernel
theorem dX12_rules_247 : decode cX12_rules 247 = .ok (.aload_n 0, 1) := by decide +kernel
theorem dX12_rules_248 : decode cX12_rules 248 = .ok (.iload_n 3, 1) := by decide +kernel
theorem dX12_rules_249 : decode cX12_rules 249 = .ok (.invokevirtual 948, 3) := by decide +kernel
theorem dX12_rules_252 : decode cX12_rules 252 = .ok (.iadd, 1) := by decide +kernel
theorem dX12_rules_253 : decode cX12_rules 253 = .ok (.istore_n 2, 1) := by decide +kernel
theorem dX12_rules_254 : decode cX12_rules 254 = .ok (.iinc 3 1, 3) := by decide +kernel
theorem dX12_rules_257 : decode cX12_rules 257 = .ok (.goto (-19), 3) := by decide +kernel
theorem dX12_rules_260 : decode cX12_rules 260 = .ok (.iload_n 2, 1) := by decide +kernel
theorem dX12_rules_261 : decode cX12_rules 261 = .ok (.ireturn, 1) := by decide +kernel
theorem dX12_set_0 : decode cX12_set 0 = .ok (.aload_n 0, 1) := by decide +kernel
theorem dX12_set_1 : decode cX12_set 1 = .ok (.aload_n 0, 1) := by decide +kernel
theorem dX12_set_2 : decode cX12_set 2 = .ok (.iload_n 1, 1) := by decide +kernel
theorem dX12_set_3 : decode cX12_set 3 = .ok (.invokevirtual 473, 3) := by decide +kernel
theorem dX12_set_6 : decode cX12_set 6 = .ok (.ifCond .eq 27, 3) := by decide +kernel
theorem dX12_set_9 : decode cX12_set 9 = .ok (.iload_n 2, 1) := by decide +kernel
theorem dX12_set_10 : decode cX12_set 10 = .ok (.ifCond .lt 23, 3) := by decide +kernel
theorem dX12_set_13 : decode cX12_set 13 = .ok (.iload_n 2, 1) := by decide +kernel
theorem dX12_set_14 : decode cX12_set 14 = .ok (.aload_n 0, 1) := by decide +kernel
theorem dX12_set_15 : decode cX12_set 15 = .ok (.aload_n 0, 1) := by decide +kernel
theorem dX12_set_16 : decode cX12_set 16 = .ok (.getfield 125, 3) := by decide +kernel
theorem dX12_set_19 : decode cX12_set 19 = .ok (.iload_n 1, 1) := by decide +kernel
theorem dX12_set_20 : decode cX12_set 20 = .ok (.iaload, 1) := by decide +kernel
theorem dX12_set_21 : decode cX12_set 21 = .ok (.aload_n 0, 1) := by decide +kernel
theorem dX12_set_22 : decode cX12_set 22 = .ok (.getfield 128, 3) := by decide +kernel
theorem dX12_set_25 : decode cX12_set 25 = .ok (.iload_n 1, 1) := by decide +kernel
theorem dX12_set_26 : decode cX12_set 26 = .ok (.iaload, 1) := by decide +kernel
theorem dX12_set_27 : decode cX12_set 27 = .ok (.invokevirtual 455, 3) := by decide +kernel
theorem dX12_set_30 : decode cX12_set 30 = .ok (.if_icmp .lt 7, 3) := by decide +kernel
theorem dX12_set_33 : decode cX12_set 33 = .ok (.iconst 1, 1) := by decide +kernel
theorem dX12_set_34 : decode cX12_set 34 = .ok (.goto 4, 3) := by decide +kernel
theorem dX12_set_37 : decode cX12_set 37 = .ok (.iconst 0, 1) := by decide +kernel
theorem dX12_set_38 : decode cX12_set 38 = .ok (.putfield 388, 3) := by decide +kernel
theorem dX12_set_41 : decode cX12_set 41 = .ok (.aload_n 0, 1) := by decide +kernel
theorem dX12_set_42 : decode cX12_set 42 = .ok (.getfield 388, 3) := by decide +kernel
theorem dX12_set_45 : decode cX12_set 45 = .ok (.ifCond .le 5, 3) := by decide +kernel
theorem dX12_set_48 : decode cX12_set 48 = .ok (.iconst 0, 1) := by decide +kernel
theorem dX12_set_49 : decode cX12_set 49 = .ok (.ireturn, 1) := by decide +kernel
theorem dX12_set_50 : decode cX12_set 50 = .ok (.aload_n 0, 1) := by decide +kernel
theorem dX12_set_51 : decode cX12_set 51 = .ok (.aload_n 0, 1) := by decide +kernel
theorem dX12_set_52 : decode cX12_set 52 = .ok (.aload_n 0, 1) := by decide +kernel
theorem dX12_set_53 : decode cX12_set 53 = .ok (.aload_n 0, 1) := by decide +kernel
theorem dX12_set_54 : decode cX12_set 54 = .ok (.getfield 125, 3) := by decide +kernel
theorem dX12_set_57 : decode cX12_set 57 = .ok (.iload_n 1, 1) := by decide +kernel
theorem dX12_set_58 : decode cX12_set 58 = .ok (.iaload, 1) := by decide +kernel
theorem dX12_set_59 : decode cX12_set 59 = .ok (.iload_n 2, 1) := by decide +kernel
theorem dX12_set_60 : decode cX12_set 60 = .ok (.invokevirtual 458, 3) := by decide +kernel
theorem dX12_set_63 : decode cX12_set 63 = .ok (.aload_n 0, 1) := by decide +kernel
theorem dX12_set_64 : decode cX12_set 64 = .ok (.aload_n 0, 1) := by decide +kernel
theorem dX12_set_65 : decode cX12_set 65 = .ok (.getfield 125, 3) := by decide +kernel
theorem dX12_set_68 : decode cX12_set 68 = .ok (.iload_n 1, 1) := by decide +kernel
theorem dX12_set_69 : decode cX12_set 69 = .ok (.iaload, 1) := by decide +kernel
theorem dX12_set_70 : decode cX12_set 70 = .ok (.iload_n 2, 1) := by decide +kernel
theorem dX12_set_71 : decode cX12_set 71 = .ok (.invokevirtual 458, 3) := by decide +kernel
theorem dX12_set_74 : decode cX12_set 74 = .ok (.iconst 5, 1) := by decide +kernel
theorem dX12_set_75 : decode cX12_set 75 = .ok (.if_icmp .ne 17, 3) := by decide +kernel
theorem dX12_set_78 : decode cX12_set 78 = .ok (.aload_n 0, 1) := by decide +kernel
theorem dX12_set_79 : decode cX12_set 79 = .ok (.aload_n 0, 1) := by decide +kernel
theorem dX12_set_80 : decode cX12_set 80 = .ok (.getfield 125, 3) := by decide +kernel
theorem dX12_set_83 : decode cX12_set 83 = .ok (.iload_n 1, 1) := by decide +kernel
theorem dX12_set_84 : decode cX12_set 84 = .ok (.iaload, 1) := by decide +kernel
theorem dX12_set_85 : decode cX12_set 85 = .ok (.iload_n 2, 1) := by decide +kernel
theorem dX12_set_86 : decode cX12_set 86 = .ok (.invokevirtual 492, 3) := by decide +kernel
theorem dX12_set_89 : decode cX12_set 89 = .ok (.goto 4, 3) := by decide +kernel
theorem dX12_set_92 : decode cX12_set 92 = .ok (.iconst (-1), 1) := by decide +kernel
theorem dX12_set_93 : decode cX12_set 93 = .ok (.lload_n 3, 1) := by decide +kernel
theorem dX12_set_94 : decode cX12_set 94 = .ok (.invokevirtual 495, 3) := by decide +kernel
theorem dX12_set_97 : decode cX12_set 97 = .ok (.ifCond .eq 7, 3) := by decide +kernel
theorem dX12_set_100 : decode cX12_set 100 = .ok (.iconst 0, 1) := by decide +kernel
theorem dX12_set_101 : decode cX12_set 101 = .ok (.goto 4, 3) := by decide +kernel
theorem dX12_set_104 : decode cX12_set 104 = .ok (.iconst 2, 1) := by decide +kernel
theorem dX12_set_105 : decode cX12_set 105 = .ok (.putfield 388, 3) := by decide +kernel
theorem dX12_set_108 : decode cX12_set 108 = .ok (.aload_n 0, 1) := by decide +kernel
theorem dX12_set_109 : decode cX12_set 109 = .ok (.getfield 388, 3) := by decide +kernel
theorem dX12_set_112 : decode cX12_set 112 = .ok (.ifCond .le 5, 3) := by decide +kernel
theorem dX12_set_115 : decode cX12_set 115 = .ok (.iconst 0, 1) := by decide +kernel
theorem dX12_set_116 : decode cX12_set 116 = .ok (.ireturn, 1) := by decide +kernel
theorem dX12_set_117 : decode cX12_set 117 = .ok (.aload_n 0, 1) := by decide +kernel
theorem dX12_set_118 : decode cX12_set 118 = .ok (.iload_n 1, 1) := by decide +kernel
theorem dX12_set_119 : decode cX12_set 119 = .ok (.iload_n 2, 1) := by decide +kernel
theorem dX12_set_120 : decode cX12_set 120 = .ok (.lload_n 3, 1) := by decide +kernel
theorem dX12_set_121 : decode cX12_set 121 = .ok (.invokevirtual 499, 3) := by decide +kernel
theorem dX12_set_124 : decode cX12_set 124 = .ok (.aload_n 0, 1) := by decide +kernel
theorem dX12_set_125 : decode cX12_set 125 = .ok (.aload_n 0, 1) := by decide +kernel
theorem dX12_set_126 : decode cX12_set 126 = .ok (.getfield 482, 3) := by decide +kernel
theorem dX12_set_129 : decode cX12_set 129 = .ok (.iconst 1, 1) := by decide +kernel
theorem dX12_set_130 : decode cX12_set 130 = .ok (.isub, 1) := by decide +kernel
theorem dX12_set_131 : decode cX12_set 131 = .ok (.invokevirtual 503, 3) := by decide +kernel
theorem dX12_set_134 : decode cX12_set 134 = .ok (.aload_n 0, 1) := by decide +kernel
theorem dX12_set_135 : decode cX12_set 135 = .ok (.getfield 482, 3) := by decide +kernel
theorem dX12_set_138 : decode cX12_set 138 = .ok (.iconst 1, 1) := by decide +kernel
theorem dX12_set_139 : decode cX12_set 139 = .ok (.isub, 1) := by decide +kernel
theorem dX12_set_140 : decode cX12_set 140 = .ok (.ireturn, 1) := by decide +kernel
theorem dX12_setStatic_0 : decode cX12_setStatic 0 = .ok (.aload_n 0, 1) := by decide +kernel
theorem dX12_setStatic_1 : decode cX12_setStatic 1 = .ok (.iload_n 1, 1) := by decide +kernel
theorem dX12_setStatic_2 : decode cX12_setStatic 2 = .ok (.iload_n 2, 1) := by decide +kernel
theorem dX12_setStatic_3 : decode cX12_setStatic 3 = .ok (.invokevirtual 506, 3) := by decide +kernel
theorem dX12_setStatic_6 : decode cX12_setStatic 6 = .ok (.istore 5, 2) := by decide +kernel
theorem dX12_setStatic_8 : decode cX12_setStatic 8 = .ok (.aload_n 0, 1) := by decide +kernel
theorem dX12_setStatic_9 : decode cX12_setStatic 9 = .ok (.iload 5, 2) := by decide +kernel
theorem dX12_setStatic_11 : decode cX12_setStatic 11 = .ok (.iconst (-1), 1) := by decide +kernel
theorem dX12_setStatic_12 : decode cX12_setStatic 12 = .ok (.if_icmp .ne 7, 3) := by decide +kernel
theorem dX12_setStatic_15 : decode cX12_setStatic 15 = .ok (.iconst 1, 1) := by decide +kernel
theorem dX12_setStatic_16 : decode cX12_setStatic 16 = .ok (.goto 4, 3) := by decide +kernel
theorem dX12_setStatic_19 : decode cX12_setStatic 19 = .ok (.iconst 0, 1) := by decide +kernel
theorem dX12_setStatic_20 : decode cX12_setStatic 20 = .ok (.putfield 388, 3) := by decide +kernel
theorem dX12_setStatic_23 : decode cX12_setStatic 23 = .ok (.aload_n 0, 1) := by decide +kernel
theorem dX12_setStatic_24 : decode cX12_setStatic 24 = .ok (.getfield 388, 3) := by decide +kernel
theorem dX12_setStatic_27 : decode cX12_setStatic 27 = .ok (.ifCond .le 5, 3) := by decide +kernel
theorem dX12_setStatic_30 : decode cX12_setStatic 30 = .ok (.iconst 0, 1) := by decide +kernel
theorem dX12_setStatic_31 : decode cX12_setStatic 31 = .ok (.ireturn, 1) := by decide +kernel
theorem dX12_setStatic_32 : decode cX12_setStatic 32 = .ok (.aload_n 0, 1) := by decide +kernel
theorem dX12_setStatic_33 : decode cX12_setStatic 33 = .ok (.aload_n 0, 1) := by decide +kernel
theorem dX12_setStatic_34 : decode cX12_setStatic 34 = .ok (.aload_n 0, 1) := by decide +kernel
theorem dX12_setStatic_35 : decode cX12_setStatic 35 = .ok (.getfield 103, 3) := by decide +kernel
theorem dX12_setStatic_38 : decode cX12_setStatic 38 = .ok (.iload 5, 2) := by decide +kernel
theorem dX12_setStatic_40 : decode cX12_setStatic 40 = .ok (.iaload, 1) := by decide +kernel
theorem dX12_setStatic_41 : decode cX12_setStatic 41 = .ok (.aload_n 0, 1) := by decide +kernel
theorem dX12_setStatic_42 : decode cX12_setStatic 42 = .ok (.getfield 106, 3) := by decide +kernel
theorem dX12_setStatic_45 : decode cX12_setStatic 45 = .ok (.iload 5, 2) := by decide +kernel
theorem dX12_setStatic_47 : decode cX12_setStatic 47 = .ok (.iaload, 1) := by decide +kernel
theorem dX12_setStatic_48 : decode cX12_setStatic 48 = .ok (.lload_n 3, 1) := by decide +kernel
theorem dX12_setStatic_49 : decode cX12_setStatic 49 = .ok (.invokevirtual 495, 3) := by decide +kernel
theorem dX12_setStatic_52 : decode cX12_setStatic 52 = .ok (.ifCond .eq 7, 3) := by decide +kernel
theorem dX12_setStatic_55 : decode cX12_setStatic 55 = .ok (.iconst 0, 1) := by decide +kernel
theorem dX12_setStatic_56 : decode cX12_setStatic 56 = .ok (.goto 4, 3) := by decide +kernel
theorem dX12_setStatic_59 : decode cX12_setStatic 59 = .ok (.iconst 2, 1) := by decide +kernel
theorem dX12_setStatic_60 : decode cX12_setStatic 60 = .ok (.putfield 388, 3) := by decide +kernel
theorem dX12_setStatic_63 : decode cX12_setStatic 63 = .ok (.aload_n 0, 1) := by decide +kernel
theorem dX12_setStatic_64 : decode cX12_setStatic 64 = .ok (.getfield 388, 3) := by decide +kernel
theorem dX12_setStatic_67 : decode cX12_setStatic 67 = .ok (.ifCond .le 5, 3) := by decide +kernel
theorem dX12_setStatic_70 : decode cX12_setStatic 70 = .ok (.iconst 0, 1) := by decide +kernel
theorem dX12_setStatic_71 : decode cX12_setStatic 71 = .ok (.ireturn, 1) := by decide +kernel
theorem dX12_setStatic_72 : decode cX12_setStatic 72 = .ok (.aload_n 0, 1) := by decide +kernel
theorem dX12_setStatic_73 : decode cX12_setStatic 73 = .ok (.iconst (-1), 1) := by decide +kernel
theorem dX12_setStatic_74 : decode cX12_setStatic 74 = .ok (.iload 5, 2) := by decide +kernel
theorem dX12_setStatic_76 : decode cX12_setStatic 76 = .ok (.lload_n 3, 1) := by decide +kernel
theorem dX12_setStatic_77 : decode cX12_setStatic 77 = .ok (.invokevirtual 499, 3) := by decide +kernel
theorem dX12_setStatic_80 : decode cX12_setStatic 80 = .ok (.aload_n 0, 1) := by decide +kernel
theorem dX12_setStatic_81 : decode cX12_setStatic 81 = .ok (.aload_n 0, 1) := by decide +kernel
theorem dX12_setStatic_82 : decode cX12_setStatic 82 = .ok (.getfield 482, 3) := by decide +kernel
theorem dX12_setStatic_85 : decode cX12_setStatic 85 = .ok (.iconst 1, 1) := by decide +kernel
theorem dX12_setStatic_86 : decode cX12_setStatic 86 = .ok (.isub, 1) := by decide +kernel
theorem dX12_setStatic_87 : decode cX12_setStatic 87 = .ok (.invokevirtual 503, 3) := by decide +kernel
theorem dX12_setStatic_90 : decode cX12_setStatic 90 = .ok (.aload_n 0, 1) := by decide +kernel
theorem dX12_setStatic_91 : decode cX12_setStatic 91 = .ok (.getfield 482, 3) := by decide +kernel
theorem dX12_setStatic_94 : decode cX12_setStatic 94 = .ok (.iconst 1, 1) := by decide +kernel
theorem dX12_setStatic_95 : decode cX12_setStatic 95 = .ok (.isub, 1) := by decide +kernel
theorem dX12_setStatic_96 : decode cX12_setStatic 96 = .ok (.ireturn, 1) := by decide +kernel
theorem dX12_shown_0 : decode cX12_shown 0 = .ok (.aload_n 0, 1) := by decide +kernel
theorem dX12_shown_1 : decode cX12_shown 1 = .ok (.iload_n 1, 1) := by decide +kernel
theorem dX12_shown_2 : decode cX12_shown 2 = .ok (.iload_n 2, 1) := by decide +kernel
theorem dX12_shown_3 : decode cX12_shown 3 = .ok (.iload_n 3, 1) := by decide +kernel
theorem dX12_shown_4 : decode cX12_shown 4 = .ok (.invokevirtual 577, 3) := by decide +kernel
theorem dX12_shown_7 : decode cX12_shown 7 = .ok (.lstore 4, 2) := by decide +kernel
theorem dX12_shown_9 : decode cX12_shown 9 = .ok (.aload_n 0, 1) := by decide +kernel
theorem dX12_shown_10 : decode cX12_shown 10 = .ok (.iload_n 1, 1) := by decide +kernel
theorem dX12_shown_11 : decode cX12_shown 11 = .ok (.iload_n 2, 1) := by decide +kernel
theorem dX12_shown_12 : decode cX12_shown 12 = .ok (.iload_n 3, 1) := by decide +kernel
theorem dX12_shown_13 : decode cX12_shown 13 = .ok (.invokevirtual 573, 3) := by decide +kernel
theorem dX12_shown_16 : decode cX12_shown 16 = .ok (.ifCond .eq 29, 3) := by decide +kernel
theorem dX12_shown_19 : decode cX12_shown 19 = .ok (.lload 4, 2) := by decide +kernel
theorem dX12_shown_21 : decode cX12_shown 21 = .ok (.ldc2_w 433, 3) := by decide +kernel
theorem dX12_shown_24 : decode cX12_shown 24 = .ok (.lcmp, 1) := by decide +kernel
theorem dX12_shown_25 : decode cX12_shown 25 = .ok (.ifCond .eq 20, 3) := by decide +kernel
theorem dX12_shown_28 : decode cX12_shown 28 = .ok (.aload_n 0, 1) := by decide +kernel
theorem dX12_shown_29 : decode cX12_shown 29 = .ok (.getfield 186, 3) := by decide +kernel
theorem dX12_shown_32 : decode cX12_shown 32 = .ok (.aload_n 0, 1) := by decide +kernel
theorem dX12_shown_33 : decode cX12_shown 33 = .ok (.iload_n 1, 1) := by decide +kernel
theorem dX12_shown_34 : decode cX12_shown 34 = .ok (.lload 4, 2) := by decide +kernel
theorem dX12_shown_36 : decode cX12_shown 36 = .ok (.l2i, 1) := by decide +kernel
theorem dX12_shown_37 : decode cX12_shown 37 = .ok (.invokevirtual 545, 3) := by decide +kernel
theorem dX12_shown_40 : decode cX12_shown 40 = .ok (.iaload, 1) := by decide +kernel
theorem dX12_shown_41 : decode cX12_shown 41 = .ok (.i2l, 1) := by decide +kernel
theorem dX12_shown_42 : decode cX12_shown 42 = .ok (.goto 5, 3) := by decide +kernel
theorem dX12_shown_45 : decode cX12_shown 45 = .ok (.lload 4, 2) := by decide +kernel
theorem dX12_shown_47 : decode cX12_shown 47 = .ok (.lreturn, 1) := by decide +kernel
theorem dX12_sizeIn_0 : decode cX12_sizeIn 0 = .ok (.aload_n 0, 1) := by decide +kernel
theorem dX12_sizeIn_1 : decode cX12_sizeIn 1 = .ok (.aload_n 0, 1) := by decide +kernel
theorem dX12_sizeIn_2 : decode cX12_sizeIn 2 = .ok (.getfield 189, 3) := by decide +kernel
theorem dX12_sizeIn_5 : decode cX12_sizeIn 5 = .ok (.aload_n 0, 1) := by decide +kernel
theorem dX12_sizeIn_6 : decode cX12_sizeIn 6 = .ok (.iload_n 1, 1) := by decide +kernel
theorem dX12_sizeIn_7 : decode cX12_sizeIn 7 = .ok (.iload_n 2, 1) := by decide +kernel
theorem dX12_sizeIn_8 : decode cX12_sizeIn 8 = .ok (.invokevirtual 545, 3) := by decide +kernel
theorem dX12_sizeIn_11 : decode cX12_sizeIn 11 = .ok (.iaload, 1) := by decide +kernel
theorem dX12_sizeIn_12 : decode cX12_sizeIn 12 = .ok (.aload_n 0, 1) := by decide +kernel
theorem dX12_sizeIn_13 : decode cX12_sizeIn 13 = .ok (.getfield 192, 3) := by decide +kernel
theorem dX12_sizeIn_16 : decode cX12_sizeIn 16 = .ok (.aload_n 0, 1) := by decide +kernel
theorem dX12_sizeIn_17 : decode cX12_sizeIn 17 = .ok (.iload_n 1, 1) := by decide +kernel
theorem dX12_sizeIn_18 : decode cX12_sizeIn 18 = .ok (.iload_n 2, 1) := by decide +kernel
theorem dX12_sizeIn_19 : decode cX12_sizeIn 19 = .ok (.invokevirtual 545, 3) := by decide +kernel
theorem dX12_sizeIn_22 : decode cX12_sizeIn 22 = .ok (.iaload, 1) := by decide +kernel
theorem dX12_sizeIn_23 : decode cX12_sizeIn 23 = .ok (.invokevirtual 509, 3) := by decide +kernel
theorem dX12_sizeIn_26 : decode cX12_sizeIn 26 = .ok (.ireturn, 1) := by decide +kernel
theorem dX12_sizeOf_0 : decode cX12_sizeOf 0 = .ok (.aload_n 0, 1) := by decide +kernel
theorem dX12_sizeOf_1 : decode cX12_sizeOf 1 = .ok (.getfield 100, 3) := by decide +kernel
theorem dX12_sizeOf_4 : decode cX12_sizeOf 4 = .ok (.iload_n 1, 1) := by decide +kernel
theorem dX12_sizeOf_5 : decode cX12_sizeOf 5 = .ok (.iaload, 1) := by decide +kernel
theorem dX12_sizeOf_6 : decode cX12_sizeOf 6 = .ok (.bipush 7, 2) := by decide +kernel
theorem dX12_sizeOf_8 : decode cX12_sizeOf 8 = .ok (.iadd, 1) := by decide +kernel
theorem dX12_sizeOf_9 : decode cX12_sizeOf 9 = .ok (.bipush 8, 2) := by decide +kernel
theorem dX12_sizeOf_11 : decode cX12_sizeOf 11 = .ok (.idiv, 1) := by decide +kernel
theorem dX12_sizeOf_12 : decode cX12_sizeOf 12 = .ok (.bipush 8, 2) := by decide +kernel
theorem dX12_sizeOf_14 : decode cX12_sizeOf 14 = .ok (.imul, 1) := by decide +kernel
theorem dX12_sizeOf_15 : decode cX12_sizeOf 15 = .ok (.ireturn, 1) := by decide +kernel
theorem dX12_slot_0 : decode cX12_slot 0 = .ok (.aload_n 0, 1) := by decide +kernel
theorem dX12_slot_1 : decode cX12_slot 1 = .ok (.aload_n 0, 1) := by decide +kernel
theorem dX12_slot_2 : decode cX12_slot 2 = .ok (.iload_n 1, 1) := by decide +kernel
theorem dX12_slot_3 : decode cX12_slot 3 = .ok (.iload_n 2, 1) := by decide +kernel
theorem dX12_slot_4 : decode cX12_slot 4 = .ok (.invokevirtual 600, 3) := by decide +kernel
theorem dX12_slot_7 : decode cX12_slot 7 = .ok (.ifCond .eq 17, 3) := by decide +kernel
theorem dX12_slot_10 : decode cX12_slot 10 = .ok (.iload_n 3, 1) := by decide +kernel
theorem dX12_slot_11 : decode cX12_slot 11 = .ok (.ifCond .lt 13, 3) := by decide +kernel
theorem dX12_slot_14 : decode cX12_slot 14 = .ok (.iload_n 3, 1) := by decide +kernel
theorem dX12_slot_15 : decode cX12_slot 15 = .ok (.aload_n 0, 1) := by decide +kernel
theorem dX12_slot_16 : decode cX12_slot 16 = .ok (.iload_n 1, 1) := by decide +kernel
theorem dX12_slot_17 : decode cX12_slot 17 = .ok (.iload_n 2, 1) := by decide +kernel
theorem dX12_slot_18 : decode cX12_slot 18 = .ok (.invokevirtual 570, 3) := by decide +kernel
theorem dX12_slot_21 : decode cX12_slot 21 = .ok (.if_icmp .lt 7, 3) := by decide +kernel
theorem dX12_slot_24 : decode cX12_slot 24 = .ok (.iconst 1, 1) := by decide +kernel
theorem dX12_slot_25 : decode cX12_slot 25 = .ok (.goto 4, 3) := by decide +kernel
theorem dX12_slot_28 : decode cX12_slot 28 = .ok (.iconst 0, 1) := by decide +kernel
theorem dX12_slot_29 : decode cX12_slot 29 = .ok (.putfield 388, 3) := by decide +kernel
theorem dX12_slot_32 : decode cX12_slot 32 = .ok (.aload_n 0, 1) := by decide +kernel
theorem dX12_slot_33 : decode cX12_slot 33 = .ok (.getfield 388, 3) := by decide +kernel
theorem dX12_slot_36 : decode cX12_slot 36 = .ok (.ifCond .le 7, 3) := by decide +kernel
theorem dX12_slot_39 : decode cX12_slot 39 = .ok (.lconst 0, 1) := by decide +kernel
theorem dX12_slot_40 : decode cX12_slot 40 = .ok (.goto 10, 3) := by decide +kernel
theorem dX12_slot_43 : decode cX12_slot 43 = .ok (.aload_n 0, 1) := by decide +kernel
theorem dX12_slot_44 : decode cX12_slot 44 = .ok (.iload_n 1, 1) := by decide +kernel
theorem dX12_slot_45 : decode cX12_slot 45 = .ok (.iload_n 2, 1) := by decide +kernel
theorem dX12_slot_46 : decode cX12_slot 46 = .ok (.iload_n 3, 1) := by decide +kernel
theorem dX12_slot_47 : decode cX12_slot 47 = .ok (.invokevirtual 577, 3) := by decide +kernel
theorem dX12_slot_50 : decode cX12_slot 50 = .ok (.lreturn, 1) := by decide +kernel
theorem dX12_slotCount_0 : decode cX12_slotCount 0 = .ok (.aload_n 0, 1) := by decide +kernel
theorem dX12_slotCount_1 : decode cX12_slotCount 1 = .ok (.iload_n 1, 1) := by decide +kernel
theorem dX12_slotCount_2 : decode cX12_slotCount 2 = .ok (.invokevirtual 416, 3) := by decide +kernel
theorem dX12_slotCount_5 : decode cX12_slotCount 5 = .ok (.ifCond .eq 12, 3) := by decide +kernel
theorem dX12_slotCount_8 : decode cX12_slotCount 8 = .ok (.aload_n 0, 1) := by decide +kernel
theorem dX12_slotCount_9 : decode cX12_slotCount 9 = .ok (.getfield 97, 3) := by decide +kernel
theorem dX12_slotCount_12 : decode cX12_slotCount 12 = .ok (.iload_n 1, 1) := by decide +kernel
theorem dX12_slotCount_13 : decode cX12_slotCount 13 = .ok (.iaload, 1) := by decide +kernel
theorem dX12_slotCount_14 : decode cX12_slotCount 14 = .ok (.goto 4, 3) := by decide +kernel
theorem dX12_slotCount_17 : decode cX12_slotCount 17 = .ok (.iload_n 2, 1) := by decide +kernel
theorem dX12_slotCount_18 : decode cX12_slotCount 18 = .ok (.ireturn, 1) := by decide +kernel
theorem dX12_slotsIn_0 : decode cX12_slotsIn 0 = .ok (.aload_n 0, 1) := by decide +kernel
theorem dX12_slotsIn_1 : decode cX12_slotsIn 1 = .ok (.aload_n 0, 1) := by decide +kernel
theorem dX12_slotsIn_2 : decode cX12_slotsIn 2 = .ok (.getfield 189, 3) := by decide +kernel
theorem dX12_slotsIn_5 : decode cX12_slotsIn 5 = .ok (.aload_n 0, 1) := by decide +kernel
theorem dX12_slotsIn_6 : decode cX12_slotsIn 6 = .ok (.iload_n 1, 1) := by decide +kernel
theorem dX12_slotsIn_7 : decode cX12_slotsIn 7 = .ok (.iload_n 2, 1) := by decide +kernel
theorem dX12_slotsIn_8 : decode cX12_slotsIn 8 = .ok (.invokevirtual 545, 3) := by decide +kernel
theorem dX12_slotsIn_11 : decode cX12_slotsIn 11 = .ok (.iaload, 1) := by decide +kernel
theorem dX12_slotsIn_12 : decode cX12_slotsIn 12 = .ok (.aload_n 0, 1) := by decide +kernel
theorem dX12_slotsIn_13 : decode cX12_slotsIn 13 = .ok (.getfield 192, 3) := by decide +kernel
theorem dX12_slotsIn_16 : decode cX12_slotsIn 16 = .ok (.aload_n 0, 1) := by decide +kernel
theorem dX12_slotsIn_17 : decode cX12_slotsIn 17 = .ok (.iload_n 1, 1) := by decide +kernel
theorem dX12_slotsIn_18 : decode cX12_slotsIn 18 = .ok (.iload_n 2, 1) := by decide +kernel
theorem dX12_slotsIn_19 : decode cX12_slotsIn 19 = .ok (.invokevirtual 545, 3) := by decide +kernel
theorem dX12_slotsIn_22 : decode cX12_slotsIn 22 = .ok (.iaload, 1) := by decide +kernel
theorem dX12_slotsIn_23 : decode cX12_slotsIn 23 = .ok (.invokevirtual 455, 3) := by decide +kernel
theorem dX12_slotsIn_26 : decode cX12_slotsIn 26 = .ok (.ireturn, 1) := by decide +kernel
theorem dX12_staticOf_0 : decode cX12_staticOf 0 = .ok (.iconst (-1), 1) := by decide +kernel
theorem dX12_staticOf_1 : decode cX12_staticOf 1 = .ok (.istore_n 3, 1) := by decide +kernel
theorem dX12_staticOf_2 : decode cX12_staticOf 2 = .ok (.iconst 0, 1) := by decide +kernel
theorem dX12_staticOf_3 : decode cX12_staticOf 3 = .ok (.istore 4, 2) := by decide +kernel
theorem dX12_staticOf_5 : decode cX12_staticOf 5 = .ok (.aload_n 0, 1) := by decide +kernel
theorem dX12_staticOf_6 : decode cX12_staticOf 6 = .ok (.iload_n 1, 1) := by decide +kernel
theorem dX12_staticOf_7 : decode cX12_staticOf 7 = .ok (.invokevirtual 416, 3) := by decide +kernel
theorem dX12_staticOf_10 : decode cX12_staticOf 10 = .ok (.ifCond .eq 63, 3) := by decide +kernel
theorem dX12_staticOf_13 : decode cX12_staticOf 13 = .ok (.iload 4, 2) := by decide +kernel
theorem dX12_staticOf_15 : decode cX12_staticOf 15 = .ok (.aload_n 0, 1) := by decide +kernel
theorem dX12_staticOf_16 : decode cX12_staticOf 16 = .ok (.getfield 94, 3) := by decide +kernel
theorem dX12_staticOf_19 : decode cX12_staticOf 19 = .ok (.iload_n 1, 1) := by decide +kernel
theorem dX12_staticOf_20 : decode cX12_staticOf 20 = .ok (.iaload, 1) := by decide +kernel
theorem dX12_staticOf_21 : decode cX12_staticOf 21 = .ok (.if_icmp .ge 52, 3) := by decide +kernel
theorem dX12_staticOf_24 : decode cX12_staticOf 24 = .ok (.aload_n 0, 1) := by decide +kernel
theorem dX12_staticOf_25 : decode cX12_staticOf 25 = .ok (.getfield 119, 3) := by decide +kernel
theorem dX12_staticOf_28 : decode cX12_staticOf 28 = .ok (.bipush 6, 2) := by decide +kernel
theorem dX12_staticOf_30 : decode cX12_staticOf 30 = .ok (.iload_n 1, 1) := by decide +kernel
theorem dX12_staticOf_31 : decode cX12_staticOf 31 = .ok (.imul, 1) := by decide +kernel
theorem dX12_staticOf_32 : decode cX12_staticOf 32 = .ok (.iload 4, 2) := by decide +kernel
theorem dX12_staticOf_34 : decode cX12_staticOf 34 = .ok (.iadd, 1) := by decide +kernel
theorem dX12_staticOf_35 : decode cX12_staticOf 35 = .ok (.baload, 1) := by decide +kernel
theorem dX12_staticOf_36 : decode cX12_staticOf 36 = .ok (.ifCond .eq 29, 3) := by decide +kernel
theorem dX12_staticOf_39 : decode cX12_staticOf 39 = .ok (.aload_n 0, 1) := by decide +kernel
theorem dX12_staticOf_40 : decode cX12_staticOf 40 = .ok (.getfield 109, 3) := by decide +kernel
theorem dX12_staticOf_43 : decode cX12_staticOf 43 = .ok (.bipush 6, 2) := by decide +kernel
theorem dX12_staticOf_45 : decode cX12_staticOf 45 = .ok (.iload_n 1, 1) := by decide +kernel
theorem dX12_staticOf_46 : decode cX12_staticOf 46 = .ok (.imul, 1) := by decide +kernel
theorem dX12_staticOf_47 : decode cX12_staticOf 47 = .ok (.iload 4, 2) := by decide +kernel
theorem dX12_staticOf_49 : decode cX12_staticOf 49 = .ok (.iadd, 1) := by decide +kernel
theorem dX12_staticOf_50 : decode cX12_staticOf 50 = .ok (.iaload, 1) := by decide +kernel
theorem dX12_staticOf_51 : decode cX12_staticOf 51 = .ok (.iload_n 2, 1) := by decide +kernel
theorem dX12_staticOf_52 : decode cX12_staticOf 52 = .ok (.if_icmp .ne 13, 3) := by decide +kernel
theorem dX12_staticOf_55 : decode cX12_staticOf 55 = .ok (.bipush 6, 2) := by decide +kernel
theorem dX12_staticOf_57 : decode cX12_staticOf 57 = .ok (.iload_n 1, 1) := by decide +kernel
theorem dX12_staticOf_58 : decode cX12_staticOf 58 = .ok (.imul, 1) := by decide +kernel
theorem dX12_staticOf_59 : decode cX12_staticOf 59 = .ok (.iload 4, 2) := by decide +kernel
theorem dX12_staticOf_61 : decode cX12_staticOf 61 = .ok (.iadd, 1) := by decide +kernel
theorem dX12_staticOf_62 : decode cX12_staticOf 62 = .ok (.goto 4, 3) := by decide +kernel
theorem dX12_staticOf_65 : decode cX12_staticOf 65 = .ok (.iload_n 3, 1) := by decide +kernel
theorem dX12_staticOf_66 : decode cX12_staticOf 66 = .ok (.istore_n 3, 1) := by decide +kernel
theorem dX12_staticOf_67 : decode cX12_staticOf 67 = .ok (.iinc 4 1, 3) := by decide +kernel
theorem dX12_staticOf_70 : decode cX12_staticOf 70 = .ok (.goto (-65), 3) := by decide +kernel
theorem dX12_staticOf_73 : decode cX12_staticOf 73 = .ok (.iload_n 3, 1) := by decide +kernel
theorem dX12_staticOf_74 : decode cX12_staticOf 74 = .ok (.ireturn, 1) := by decide +kernel
theorem dX12_step_0 : decode cX12_step 0 = .ok (.aload_n 0, 1) := by decide +kernel
theorem dX12_step_1 : decode cX12_step 1 = .ok (.getfield 779, 3) := by decide +kernel
theorem dX12_step_4 : decode cX12_step 4 = .ok (.sipush 30000, 3) := by decide +kernel
theorem dX12_step_7 : decode cX12_step 7 = .ok (.if_icmp .ne 11, 3) := by decide +kernel
theorem dX12_step_10 : decode cX12_step 10 = .ok (.aload_n 0, 1) := by decide +kernel
theorem dX12_step_11 : decode cX12_step 11 = .ok (.iconst 1, 1) := by decide +kernel
theorem dX12_step_12 : decode cX12_step 12 = .ok (.putfield 782, 3) := by decide +kernel
theorem dX12_step_15 : decode cX12_step 15 = .ok (.goto 13, 3) := by decide +kernel
theorem dX12_step_18 : decode cX12_step 18 = .ok (.aload_n 0, 1) := by decide +kernel
theorem dX12_step_19 : decode cX12_step 19 = .ok (.dup, 1) := by decide +kernel
theorem dX12_step_20 : decode cX12_step 20 = .ok (.getfield 779, 3) := by decide +kernel
theorem dX12_step_23 : decode cX12_step 23 = .ok (.iconst 1, 1) := by decide +kernel
theorem dX12_step_24 : decode cX12_step 24 = .ok (.iadd, 1) := by decide +kernel
theorem dX12_step_25 : decode cX12_step 25 = .ok (.putfield 779, 3) := by decide +kernel
theorem dX12_step_28 : decode cX12_step 28 = .ok (.return_, 1) := by decide +kernel
theorem dX12_study_0 : decode cX12_study 0 = .ok (.aload_n 0, 1) := by decide +kernel
theorem dX12_study_1 : decode cX12_study 1 = .ok (.getfield 225, 3) := by decide +kernel
theorem dX12_study_4 : decode cX12_study 4 = .ok (.iload_n 1, 1) := by decide +kernel
theorem dX12_study_5 : decode cX12_study 5 = .ok (.iconst 0, 1) := by decide +kernel
theorem dX12_study_6 : decode cX12_study 6 = .ok (.iastore, 1) := by decide +kernel
theorem dX12_study_7 : decode cX12_study 7 = .ok (.iconst 0, 1) := by decide +kernel
theorem dX12_study_8 : decode cX12_study 8 = .ok (.istore_n 2, 1) := by decide +kernel
theorem dX12_study_9 : decode cX12_study 9 = .ok (.iload_n 2, 1) := by decide +kernel
theorem dX12_study_10 : decode cX12_study 10 = .ok (.aload_n 0, 1) := by decide +kernel
theorem dX12_study_11 : decode cX12_study 11 = .ok (.getfield 183, 3) := by decide +kernel
theorem dX12_study_14 : decode cX12_study 14 = .ok (.iload_n 1, 1) := by decide +kernel
theorem dX12_study_15 : decode cX12_study 15 = .ok (.iaload, 1) := by decide +kernel
