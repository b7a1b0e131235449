theorem dX1_candidates_99 : decode cX1_candidates 99 = .ok (.aload_n 0, 1) := by decide +kernel
theorem dX1_candidates_100 : decode cX1_candidates 100 = .ok (.getfield 27, 3) := by decide +kernel
theorem dX1_candidates_103 : decode cX1_candidates 103 = .ok (.iload 6, 2) := by decide +kernel
theorem dX1_candidates_105 : decode cX1_candidates 105 = .ok (.laload, 1) := by decide +kernel
theorem dX1_candidates_106 : decode cX1_candidates 106 = .ok (.land, 1) := by decide +kernel
theorem dX1_candidates_107 : decode cX1_candidates 107 = .ok (.lstore_n 3, 1) := by decide +kernel
theorem dX1_candidates_108 : decode cX1_candidates 108 = .ok (.goto 76, 3) := by decide +kernel
theorem dX1_candidates_111 : decode cX1_candidates 111 = .ok (.iload 7, 2) := by decide +kernel
theorem dX1_candidates_113 : decode cX1_candidates 113 = .ok (.iload 8, 2) := by decide +kernel
theorem dX1_candidates_115 : decode cX1_candidates 115 = .ok (.if_icmp .ne 24, 3) := by decide +kernel
theorem dX1_candidates_118 : decode cX1_candidates 118 = .ok (.lload_n 3, 1) := by decide +kernel
theorem dX1_candidates_119 : decode cX1_candidates 119 = .ok (.aload_n 0, 1) := by decide +kernel
theorem dX1_candidates_120 : decode cX1_candidates 120 = .ok (.getfield 22, 3) := by decide +kernel
theorem dX1_candidates_123 : decode cX1_candidates 123 = .ok (.aload_n 0, 1) := by decide +kernel
theorem dX1_candidates_124 : decode cX1_candidates 124 = .ok (.getfield 34, 3) := by decide +kernel
theorem dX1_candidates_127 : decode cX1_candidates 127 = .ok (.getfield 99, 3) := by decide +kernel
theorem dX1_candidates_130 : decode cX1_candidates 130 = .ok (.iload 6, 2) := by decide +kernel
theorem dX1_candidates_132 : decode cX1_candidates 132 = .ok (.iaload, 1) := by decide +kernel
theorem dX1_candidates_133 : decode cX1_candidates 133 = .ok (.laload, 1) := by decide +kernel
theorem dX1_candidates_134 : decode cX1_candidates 134 = .ok (.land, 1) := by decide +kernel
theorem dX1_candidates_135 : decode cX1_candidates 135 = .ok (.lstore_n 3, 1) := by decide +kernel
theorem dX1_candidates_136 : decode cX1_candidates 136 = .ok (.goto 48, 3) := by decide +kernel
theorem dX1_candidates_139 : decode cX1_candidates 139 = .ok (.iload 7, 2) := by decide +kernel
theorem dX1_candidates_141 : decode cX1_candidates 141 = .ok (.iload_n 2, 1) := by decide +kernel
theorem dX1_candidates_142 : decode cX1_candidates 142 = .ok (.if_icmp .ne 24, 3) := by decide +kernel
theorem dX1_candidates_145 : decode cX1_candidates 145 = .ok (.lload_n 3, 1) := by decide +kernel
theorem dX1_candidates_146 : decode cX1_candidates 146 = .ok (.aload_n 0, 1) := by decide +kernel
theorem dX1_candidates_147 : decode cX1_candidates 147 = .ok (.getfield 19, 3) := by decide +kernel
theorem dX1_candidates_150 : decode cX1_candidates 150 = .ok (.iload 9, 2) := by decide +kernel
theorem dX1_candidates_152 : decode cX1_candidates 152 = .ok (.aload_n 0, 1) := by decide +kernel
theorem dX1_candidates_153 : decode cX1_candidates 153 = .ok (.getfield 30, 3) := by decide +kernel
theorem dX1_candidates_156 : decode cX1_candidates 156 = .ok (.iload 8, 2) := by decide +kernel
theorem dX1_candidates_158 : decode cX1_candidates 158 = .ok (.iaload, 1) := by decide +kernel
theorem dX1_candidates_159 : decode cX1_candidates 159 = .ok (.iadd, 1) := by decide +kernel
theorem dX1_candidates_160 : decode cX1_candidates 160 = .ok (.laload, 1) := by decide +kernel
theorem dX1_candidates_161 : decode cX1_candidates 161 = .ok (.land, 1) := by decide +kernel
theorem dX1_candidates_162 : decode cX1_candidates 162 = .ok (.lstore_n 3, 1) := by decide +kernel
theorem dX1_candidates_163 : decode cX1_candidates 163 = .ok (.goto 21, 3) := by decide +kernel
theorem dX1_candidates_166 : decode cX1_candidates 166 = .ok (.lload_n 3, 1) := by decide +kernel
theorem dX1_candidates_167 : decode cX1_candidates 167 = .ok (.aload_n 0, 1) := by decide +kernel
theorem dX1_candidates_168 : decode cX1_candidates 168 = .ok (.getfield 15, 3) := by decide +kernel
theorem dX1_candidates_171 : decode cX1_candidates 171 = .ok (.iload 9, 2) := by decide +kernel
theorem dX1_candidates_173 : decode cX1_candidates 173 = .ok (.aload_n 0, 1) := by decide +kernel
theorem dX1_candidates_174 : decode cX1_candidates 174 = .ok (.getfield 30, 3) := by decide +kernel
theorem dX1_candidates_177 : decode cX1_candidates 177 = .ok (.iload 7, 2) := by decide +kernel
theorem dX1_candidates_179 : decode cX1_candidates 179 = .ok (.iaload, 1) := by decide +kernel
theorem dX1_candidates_180 : decode cX1_candidates 180 = .ok (.iadd, 1) := by decide +kernel
theorem dX1_candidates_181 : decode cX1_candidates 181 = .ok (.laload, 1) := by decide +kernel
theorem dX1_candidates_182 : decode cX1_candidates 182 = .ok (.land, 1) := by decide +kernel
theorem dX1_candidates_183 : decode cX1_candidates 183 = .ok (.lstore_n 3, 1) := by decide +kernel
theorem dX1_candidates_184 : decode cX1_candidates 184 = .ok (.iinc 5 1, 3) := by decide +kernel
theorem dX1_candidates_187 : decode cX1_candidates 187 = .ok (.goto (-179), 3) := by decide +kernel
theorem dX1_candidates_190 : decode cX1_candidates 190 = .ok (.lload_n 3, 1) := by decide +kernel
theorem dX1_candidates_191 : decode cX1_candidates 191 = .ok (.lreturn, 1) := by decide +kernel
theorem dX1_countOf_0 : decode cX1_countOf 0 = .ok (.iconst 0, 1) := by decide +kernel
theorem dX1_countOf_1 : decode cX1_countOf 1 = .ok (.istore_n 2, 1) := by decide +kernel
theorem dX1_countOf_2 : decode cX1_countOf 2 = .ok (.iconst 0, 1) := by decide +kernel
theorem dX1_countOf_3 : decode cX1_countOf 3 = .ok (.istore_n 3, 1) := by decide +kernel
theorem dX1_countOf_4 : decode cX1_countOf 4 = .ok (.iload_n 3, 1) := by decide +kernel
theorem dX1_countOf_5 : decode cX1_countOf 5 = .ok (.aload_n 0, 1) := by decide +kernel
theorem dX1_countOf_6 : decode cX1_countOf 6 = .ok (.getfield 50, 3) := by decide +kernel
theorem dX1_countOf_9 : decode cX1_countOf 9 = .ok (.if_icmp .ge 26, 3) := by decide +kernel
theorem dX1_countOf_12 : decode cX1_countOf 12 = .ok (.iload_n 2, 1) := by decide +kernel
theorem dX1_countOf_13 : decode cX1_countOf 13 = .ok (.aload_n 0, 1) := by decide +kernel
theorem dX1_countOf_14 : decode cX1_countOf 14 = .ok (.getfield 15, 3) := by decide +kernel
theorem dX1_countOf_17 : decode cX1_countOf 17 = .ok (.iload_n 1, 1) := by decide +kernel
theorem dX1_countOf_18 : decode cX1_countOf 18 = .ok (.bipush 40, 2) := by decide +kernel
theorem dX1_countOf_20 : decode cX1_countOf 20 = .ok (.imul, 1) := by decide +kernel
theorem dX1_countOf_21 : decode cX1_countOf 21 = .ok (.iload_n 3, 1) := by decide +kernel
theorem dX1_countOf_22 : decode cX1_countOf 22 = .ok (.iadd, 1) := by decide +kernel
theorem dX1_countOf_23 : decode cX1_countOf 23 = .ok (.laload, 1) := by decide +kernel
theorem dX1_countOf_24 : decode cX1_countOf 24 = .ok (.invokestatic 139, 3) := by decide +kernel
theorem dX1_countOf_27 : decode cX1_countOf 27 = .ok (.iadd, 1) := by decide +kernel
theorem dX1_countOf_28 : decode cX1_countOf 28 = .ok (.istore_n 2, 1) := by decide +kernel
theorem dX1_countOf_29 : decode cX1_countOf 29 = .ok (.iinc 3 1, 3) := by decide +kernel
theorem dX1_countOf_32 : decode cX1_countOf 32 = .ok (.goto (-28), 3) := by decide +kernel
theorem dX1_countOf_35 : decode cX1_countOf 35 = .ok (.iload_n 2, 1) := by decide +kernel
theorem dX1_countOf_36 : decode cX1_countOf 36 = .ok (.ireturn, 1) := by decide +kernel
theorem dX1_findClasses_0 : decode cX1_findClasses 0 = .ok (.iconst 0, 1) := by decide +kernel
theorem dX1_findClasses_1 : decode cX1_findClasses 1 = .ok (.istore_n 2, 1) := by decide +kernel
theorem dX1_findClasses_2 : decode cX1_findClasses 2 = .ok (.iload_n 2, 1) := by decide +kernel
theorem dX1_findClasses_3 : decode cX1_findClasses 3 = .ok (.aload_n 0, 1) := by decide +kernel
theorem dX1_findClasses_4 : decode cX1_findClasses 4 = .ok (.getfield 34, 3) := by decide +kernel
theorem dX1_findClasses_7 : decode cX1_findClasses 7 = .ok (.getfield 73, 3) := by decide +kernel
theorem dX1_findClasses_10 : decode cX1_findClasses 10 = .ok (.if_icmp .ge 119, 3) := by decide +kernel
theorem dX1_findClasses_13 : decode cX1_findClasses 13 = .ok (.iconst 0, 1) := by decide +kernel
theorem dX1_findClasses_14 : decode cX1_findClasses 14 = .ok (.istore_n 3, 1) := by decide +kernel
theorem dX1_findClasses_15 : decode cX1_findClasses 15 = .ok (.iload_n 3, 1) := by decide +kernel
theorem dX1_findClasses_16 : decode cX1_findClasses 16 = .ok (.aload_n 0, 1) := by decide +kernel
theorem dX1_findClasses_17 : decode cX1_findClasses 17 = .ok (.getfield 34, 3) := by decide +kernel
theorem dX1_findClasses_20 : decode cX1_findClasses 20 = .ok (.getfield 96, 3) := by decide +kernel
theorem dX1_findClasses_23 : decode cX1_findClasses 23 = .ok (.iload_n 2, 1) := by decide +kernel
theorem dX1_findClasses_24 : decode cX1_findClasses 24 = .ok (.iaload, 1) := by decide +kernel
theorem dX1_findClasses_25 : decode cX1_findClasses 25 = .ok (.if_icmp .ge 98, 3) := by decide +kernel
theorem dX1_findClasses_28 : decode cX1_findClasses 28 = .ok (.iload_n 2, 1) := by decide +kernel
theorem dX1_findClasses_29 : decode cX1_findClasses 29 = .ok (.iconst 4, 1) := by decide +kernel
theorem dX1_findClasses_30 : decode cX1_findClasses 30 = .ok (.imul, 1) := by decide +kernel
theorem dX1_findClasses_31 : decode cX1_findClasses 31 = .ok (.iload_n 3, 1) := by decide +kernel
theorem dX1_findClasses_32 : decode cX1_findClasses 32 = .ok (.iadd, 1) := by decide +kernel
theorem dX1_findClasses_33 : decode cX1_findClasses 33 = .ok (.istore 4, 2) := by decide +kernel
theorem dX1_findClasses_35 : decode cX1_findClasses 35 = .ok (.aload_n 0, 1) := by decide +kernel
theorem dX1_findClasses_36 : decode cX1_findClasses 36 = .ok (.getfield 27, 3) := by decide +kernel
theorem dX1_findClasses_39 : decode cX1_findClasses 39 = .ok (.iload 4, 2) := by decide +kernel
theorem dX1_findClasses_41 : decode cX1_findClasses 41 = .ok (.lconst 0, 1) := by decide +kernel
theorem dX1_findClasses_42 : decode cX1_findClasses 42 = .ok (.lastore, 1) := by decide +kernel
theorem dX1_findClasses_43 : decode cX1_findClasses 43 = .ok (.iconst 0, 1) := by decide +kernel
theorem dX1_findClasses_44 : decode cX1_findClasses 44 = .ok (.istore 5, 2) := by decide +kernel
theorem dX1_findClasses_46 : decode cX1_findClasses 46 = .ok (.iload 5, 2) := by decide +kernel
theorem dX1_findClasses_48 : decode cX1_findClasses 48 = .ok (.aload_n 0, 1) := by decide +kernel
theorem dX1_findClasses_49 : decode cX1_findClasses 49 = .ok (.getfield 50, 3) := by decide +kernel
theorem dX1_findClasses_52 : decode cX1_findClasses 52 = .ok (.if_icmp .ge 65, 3) := by decide +kernel
theorem dX1_findClasses_55 : decode cX1_findClasses 55 = .ok (.aload_n 0, 1) := by decide +kernel
theorem dX1_findClasses_56 : decode cX1_findClasses 56 = .ok (.getfield 34, 3) := by decide +kernel
theorem dX1_findClasses_59 : decode cX1_findClasses 59 = .ok (.getfield 99, 3) := by decide +kernel
theorem dX1_findClasses_62 : decode cX1_findClasses 62 = .ok (.iload 4, 2) := by decide +kernel
theorem dX1_findClasses_64 : decode cX1_findClasses 64 = .ok (.iaload, 1) := by decide +kernel
theorem dX1_findClasses_65 : decode cX1_findClasses 65 = .ok (.bipush 9, 2) := by decide +kernel
theorem dX1_findClasses_67 : decode cX1_findClasses 67 = .ok (.if_icmp .ne 50, 3) := by decide +kernel
theorem dX1_findClasses_70 : decode cX1_findClasses 70 = .ok (.aload_n 0, 1) := by decide +kernel
theorem dX1_findClasses_71 : decode cX1_findClasses 71 = .ok (.getfield 9, 3) := by decide +kernel
theorem dX1_findClasses_74 : decode cX1_findClasses 74 = .ok (.aload_n 1, 1) := by decide +kernel
theorem dX1_findClasses_75 : decode cX1_findClasses 75 = .ok (.getfield 102, 3) := by decide +kernel
theorem dX1_findClasses_78 : decode cX1_findClasses 78 = .ok (.iload 5, 2) := by decide +kernel
theorem dX1_findClasses_80 : decode cX1_findClasses 80 = .ok (.iaload, 1) := by decide +kernel
theorem dX1_findClasses_81 : decode cX1_findClasses 81 = .ok (.aload_n 0, 1) := by decide +kernel
theorem dX1_findClasses_82 : decode cX1_findClasses 82 = .ok (.getfield 34, 3) := by decide +kernel
theorem dX1_findClasses_85 : decode cX1_findClasses 85 = .ok (.getfield 105, 3) := by decide +kernel
theorem dX1_findClasses_88 : decode cX1_findClasses 88 = .ok (.iload 4, 2) := by decide +kernel
theorem dX1_findClasses_90 : decode cX1_findClasses 90 = .ok (.laload, 1) := by decide +kernel
theorem dX1_findClasses_91 : decode cX1_findClasses 91 = .ok (.invokevirtual 108, 3) := by decide +kernel
theorem dX1_findClasses_94 : decode cX1_findClasses 94 = .ok (.ifCond .eq 17, 3) := by decide +kernel
theorem dX1_findClasses_97 : decode cX1_findClasses 97 = .ok (.aload_n 0, 1) := by decide +kernel
theorem dX1_findClasses_98 : decode cX1_findClasses 98 = .ok (.getfield 27, 3) := by decide +kernel
theorem dX1_findClasses_101 : decode cX1_findClasses 101 = .ok (.iload 4, 2) := by decide +kernel
theorem dX1_findClasses_103 : decode cX1_findClasses 103 = .ok (.dup2, 1) := by decide +kernel
theorem dX1_findClasses_104 : decode cX1_findClasses 104 = .ok (.laload, 1) := by decide +kernel
theorem dX1_findClasses_105 : decode cX1_findClasses 105 = .ok (.lconst 1, 1) := by decide +kernel
theorem dX1_findClasses_106 : decode cX1_findClasses 106 = .ok (.iload 5, 2) := by decide +kernel
theorem dX1_findClasses_108 : decode cX1_findClasses 108 = .ok (.lshl, 1) := by decide +kernel
theorem dX1_findClasses_109 : decode cX1_findClasses 109 = .ok (.lor, 1) := by decide +kernel
theorem dX1_findClasses_110 : decode cX1_findClasses 110 = .ok (.lastore, 1) := by decide +kernel
theorem dX1_findClasses_111 : decode cX1_findClasses 111 = .ok (.iinc 5 1, 3) := by decide +kernel
theorem dX1_findClasses_114 : decode cX1_findClasses 114 = .ok (.goto (-68), 3) := by decide +kernel
theorem dX1_findClasses_117 : decode cX1_findClasses 117 = .ok (.iinc 3 1, 3) := by decide +kernel
theorem dX1_findClasses_120 : decode cX1_findClasses 120 = .ok (.goto (-105), 3) := by decide +kernel
theorem dX1_findClasses_123 : decode cX1_findClasses 123 = .ok (.iinc 2 1, 3) := by decide +kernel
theorem dX1_findClasses_126 : decode cX1_findClasses 126 = .ok (.goto (-124), 3) := by decide +kernel
theorem dX1_findClasses_129 : decode cX1_findClasses 129 = .ok (.return_, 1) := by decide +kernel
theorem dX1_has_0 : decode cX1_has 0 = .ok (.iload_n 2, 1) := by decide +kernel
theorem dX1_has_1 : decode cX1_has 1 = .ok (.ifCond .lt 47, 3) := by decide +kernel
theorem dX1_has_4 : decode cX1_has 4 = .ok (.iload_n 2, 1) := by decide +kernel
theorem dX1_has_5 : decode cX1_has 5 = .ok (.aload_n 0, 1) := by decide +kernel
theorem dX1_has_6 : decode cX1_has 6 = .ok (.getfield 50, 3) := by decide +kernel
theorem dX1_has_9 : decode cX1_has 9 = .ok (.if_icmp .ge 39, 3) := by decide +kernel
theorem dX1_has_12 : decode cX1_has 12 = .ok (.iload_n 3, 1) := by decide +kernel
theorem dX1_has_13 : decode cX1_has 13 = .ok (.ifCond .lt 35, 3) := by decide +kernel
theorem dX1_has_16 : decode cX1_has 16 = .ok (.iload_n 3, 1) := by decide +kernel
theorem dX1_has_17 : decode cX1_has 17 = .ok (.aload_n 0, 1) := by decide +kernel
theorem dX1_has_18 : decode cX1_has 18 = .ok (.getfield 50, 3) := by decide +kernel
theorem dX1_has_21 : decode cX1_has 21 = .ok (.if_icmp .ge 27, 3) := by decide +kernel
theorem dX1_has_24 : decode cX1_has 24 = .ok (.aload_n 0, 1) := by decide +kernel
theorem dX1_has_25 : decode cX1_has 25 = .ok (.getfield 15, 3) := by decide +kernel
theorem dX1_has_28 : decode cX1_has 28 = .ok (.iload_n 1, 1) := by decide +kernel
theorem dX1_has_29 : decode cX1_has 29 = .ok (.bipush 40, 2) := by decide +kernel
theorem dX1_has_31 : decode cX1_has 31 = .ok (.imul, 1) := by decide +kernel
theorem dX1_has_32 : decode cX1_has 32 = .ok (.iload_n 2, 1) := by decide +kernel
theorem dX1_has_33 : decode cX1_has 33 = .ok (.iadd, 1) := by decide +kernel
theorem dX1_has_34 : decode cX1_has 34 = .ok (.laload, 1) := by decide +kernel
theorem dX1_has_35 : decode cX1_has 35 = .ok (.iload_n 3, 1) := by decide +kernel
theorem dX1_has_36 : decode cX1_has 36 = .ok (.lshr, 1) := by decide +kernel
theorem dX1_has_37 : decode cX1_has 37 = .ok (.lconst 1, 1) := by decide +kernel
theorem dX1_has_38 : decode cX1_has 38 = .ok (.land, 1) := by decide +kernel
theorem dX1_has_39 : decode cX1_has 39 = .ok (.lconst 0, 1) := by decide +kernel
theorem dX1_has_40 : decode cX1_has 40 = .ok (.lcmp, 1) := by decide +kernel
theorem dX1_has_41 : decode cX1_has 41 = .ok (.ifCond .eq 7, 3) := by decide +kernel
theorem dX1_has_44 : decode cX1_has 44 = .ok (.iconst 1, 1) := by decide +kernel
theorem dX1_has_45 : decode cX1_has 45 = .ok (.goto 4, 3) := by decide +kernel
theorem dX1_has_48 : decode cX1_has 48 = .ok (.iconst 0, 1) := by decide +kernel
theorem dX1_has_49 : decode cX1_has 49 = .ok (.ireturn, 1) := by decide +kernel
theorem dX1_tryThings_0 : decode cX1_tryThings 0 = .ok (.aload_n 0, 1) := by decide +kernel
theorem dX1_tryThings_1 : decode cX1_tryThings 1 = .ok (.iload_n 1, 1) := by decide +kernel
theorem dX1_tryThings_2 : decode cX1_tryThings 2 = .ok (.iload_n 2, 1) := by decide +kernel
theorem dX1_tryThings_3 : decode cX1_tryThings 3 = .ok (.invokevirtual 114, 3) := by decide +kernel
theorem dX1_tryThings_6 : decode cX1_tryThings 6 = .ok (.lstore_n 3, 1) := by decide +kernel
theorem dX1_tryThings_7 : decode cX1_tryThings 7 = .ok (.iload_n 2, 1) := by decide +kernel
theorem dX1_tryThings_8 : decode cX1_tryThings 8 = .ok (.aload_n 0, 1) := by decide +kernel
theorem dX1_tryThings_9 : decode cX1_tryThings 9 = .ok (.getfield 34, 3) := by decide +kernel
theorem dX1_tryThings_12 : decode cX1_tryThings 12 = .ok (.getfield 118, 3) := by decide +kernel
theorem dX1_tryThings_15 : decode cX1_tryThings 15 = .ok (.iload_n 1, 1) := by decide +kernel
theorem dX1_tryThings_16 : decode cX1_tryThings 16 = .ok (.iaload, 1) := by decide +kernel
theorem dX1_tryThings_17 : decode cX1_tryThings 17 = .ok (.iconst 1, 1) := by decide +kernel
theorem dX1_tryThings_18 : decode cX1_tryThings 18 = .ok (.isub, 1) := by decide +kernel
theorem dX1_tryThings_19 : decode cX1_tryThings 19 = .ok (.if_icmp .ne 7, 3) := by decide +kernel
theorem dX1_tryThings_22 : decode cX1_tryThings 22 = .ok (.iconst 1, 1) := by decide +kernel
theorem dX1_tryThings_23 : decode cX1_tryThings 23 = .ok (.goto 4, 3) := by decide +kernel
theorem dX1_tryThings_26 : decode cX1_tryThings 26 = .ok (.iconst 0, 1) := by decide +kernel
theorem dX1_tryThings_27 : decode cX1_tryThings 27 = .ok (.istore 5, 2) := by decide +kernel
theorem dX1_tryThings_29 : decode cX1_tryThings 29 = .ok (.aload_n 0, 1) := by decide +kernel
theorem dX1_tryThings_30 : decode cX1_tryThings 30 = .ok (.getfield 34, 3) := by decide +kernel
theorem dX1_tryThings_33 : decode cX1_tryThings 33 = .ok (.getfield 121, 3) := by decide +kernel
theorem dX1_tryThings_36 : decode cX1_tryThings 36 = .ok (.iload_n 1, 1) := by decide +kernel
theorem dX1_tryThings_37 : decode cX1_tryThings 37 = .ok (.iaload, 1) := by decide +kernel
theorem dX1_tryThings_38 : decode cX1_tryThings 38 = .ok (.iload_n 2, 1) := by decide +kernel
theorem dX1_tryThings_39 : decode cX1_tryThings 39 = .ok (.if_icmp .eq 16, 3) := by decide +kernel
theorem dX1_tryThings_42 : decode cX1_tryThings 42 = .ok (.aload_n 0, 1) := by decide +kernel
theorem dX1_tryThings_43 : decode cX1_tryThings 43 = .ok (.getfield 34, 3) := by decide +kernel
theorem dX1_tryThings_46 : decode cX1_tryThings 46 = .ok (.getfield 124, 3) := by decide +kernel
theorem dX1_tryThings_49 : decode cX1_tryThings 49 = .ok (.iload_n 1, 1) := by decide +kernel
theorem dX1_tryThings_50 : decode cX1_tryThings 50 = .ok (.iaload, 1) := by decide +kernel
theorem dX1_tryThings_51 : decode cX1_tryThings 51 = .ok (.iload_n 2, 1) := by decide +kernel
theorem dX1_tryThings_52 : decode cX1_tryThings 52 = .ok (.if_icmp .ne 7, 3) := by decide +kernel
theorem dX1_tryThings_55 : decode cX1_tryThings 55 = .ok (.iconst 1, 1) := by decide +kernel
theorem dX1_tryThings_56 : decode cX1_tryThings 56 = .ok (.goto 4, 3) := by decide +kernel
theorem dX1_tryThings_59 : decode cX1_tryThings 59 = .ok (.iconst 0, 1) := by decide +kernel
theorem dX1_tryThings_60 : decode cX1_tryThings 60 = .ok (.istore 6, 2) := by decide +kernel
theorem dX1_tryThings_62 : decode cX1_tryThings 62 = .ok (.iconst 0, 1) := by decide +kernel
theorem dX1_tryThings_63 : decode cX1_tryThings 63 = .ok (.istore 7, 2) := by decide +kernel
theorem dX1_tryThings_65 : decode cX1_tryThings 65 = .ok (.iload 7, 2) := by decide +kernel
theorem dX1_tryThings_67 : decode cX1_tryThings 67 = .ok (.aload_n 0, 1) := by decide +kernel
theorem dX1_tryThings_68 : decode cX1_tryThings 68 = .ok (.getfield 50, 3) := by decide +kernel
theorem dX1_tryThings_71 : decode cX1_tryThings 71 = .ok (.if_icmp .ge 118, 3) := by decide +kernel
theorem dX1_tryThings_74 : decode cX1_tryThings 74 = .ok (.lload_n 3, 1) := by decide +kernel
theorem dX1_tryThings_75 : decode cX1_tryThings 75 = .ok (.lconst 0, 1) := by decide +kernel
theorem dX1_tryThings_76 : decode cX1_tryThings 76 = .ok (.lcmp, 1) := by decide +kernel
theorem dX1_tryThings_77 : decode cX1_tryThings 77 = .ok (.ifCond .eq 112, 3) := by decide +kernel
theorem dX1_tryThings_80 : decode cX1_tryThings 80 = .ok (.lload_n 3, 1) := by decide +kernel
theorem dX1_tryThings_81 : decode cX1_tryThings 81 = .ok (.iload 7, 2) := by decide +kernel
theorem dX1_tryThings_83 : decode cX1_tryThings 83 = .ok (.lshr, 1) := by decide +kernel
theorem dX1_tryThings_84 : decode cX1_tryThings 84 = .ok (.lconst 1, 1) := by decide +kernel
theorem dX1_tryThings_85 : decode cX1_tryThings 85 = .ok (.land, 1) := by decide +kernel
theorem dX1_tryThings_86 : decode cX1_tryThings 86 = .ok (.lconst 0, 1) := by decide +kernel
theorem dX1_tryThings_87 : decode cX1_tryThings 87 = .ok (.lcmp, 1) := by decide +kernel
theorem dX1_tryThings_88 : decode cX1_tryThings 88 = .ok (.ifCond .ne 6, 3) := by decide +kernel
theorem dX1_tryThings_91 : decode cX1_tryThings 91 = .ok (.goto 92, 3) := by decide +kernel
theorem dX1_tryThings_94 : decode cX1_tryThings 94 = .ok (.lload_n 3, 1) := by decide +kernel
theorem dX1_tryThings_95 : decode cX1_tryThings 95 = .ok (.lconst 1, 1) := by decide +kernel
theorem dX1_tryThings_96 : decode cX1_tryThings 96 = .ok (.iload 7, 2) := by decide +kernel
theorem dX1_tryThings_98 : decode cX1_tryThings 98 = .ok (.lshl, 1) := by decide +kernel
theorem dX1_tryThings_99 : decode cX1_tryThings 99 = .ok (.ldc2_w 90, 3) := by decide +kernel
theorem dX1_tryThings_102 : decode cX1_tryThings 102 = .ok (.lxor, 1) := by decide +kernel
theorem dX1_tryThings_103 : decode cX1_tryThings 103 = .ok (.land, 1) := by decide +kernel
theorem dX1_tryThings_104 : decode cX1_tryThings 104 = .ok (.lstore_n 3, 1) := by decide +kernel
theorem dX1_tryThings_105 : decode cX1_tryThings 105 = .ok (.aload_n 0, 1) := by decide +kernel
theorem dX1_tryThings_106 : decode cX1_tryThings 106 = .ok (.getfield 30, 3) := by decide +kernel
theorem dX1_tryThings_109 : decode cX1_tryThings 109 = .ok (.iload_n 2, 1) := by decide +kernel
theorem dX1_tryThings_110 : decode cX1_tryThings 110 = .ok (.iload 7, 2) := by decide +kernel
theorem dX1_tryThings_112 : decode cX1_tryThings 112 = .ok (.iastore, 1) := by decide +kernel
theorem dX1_tryThings_113 : decode cX1_tryThings 113 = .ok (.iload 5, 2) := by decide +kernel
theorem dX1_tryThings_115 : decode cX1_tryThings 115 = .ok (.ifCond .ne 21, 3) := by decide +kernel
theorem dX1_tryThings_118 : decode cX1_tryThings 118 = .ok (.iload_n 2, 1) := by decide +kernel
theorem dX1_tryThings_119 : decode cX1_tryThings 119 = .ok (.iconst 1, 1) := by decide +kernel
theorem dX1_tryThings_120 : decode cX1_tryThings 120 = .ok (.iadd, 1) := by decide +kernel
theorem dX1_tryThings_121 : decode cX1_tryThings 121 = .ok (.iconst 3, 1) := by decide +kernel
theorem dX1_tryThings_122 : decode cX1_tryThings 122 = .ok (.if_icmp .ge 14, 3) := by decide +kernel
theorem dX1_tryThings_125 : decode cX1_tryThings 125 = .ok (.aload_n 0, 1) := by decide +kernel
theorem dX1_tryThings_126 : decode cX1_tryThings 126 = .ok (.iload_n 1, 1) := by decide +kernel
theorem dX1_tryThings_127 : decode cX1_tryThings 127 = .ok (.iload_n 2, 1) := by decide +kernel
theorem dX1_tryThings_128 : decode cX1_tryThings 128 = .ok (.iconst 1, 1) := by decide +kernel
theorem dX1_tryThings_129 : decode cX1_tryThings 129 = .ok (.iadd, 1) := by decide +kernel
theorem dX1_tryThings_130 : decode cX1_tryThings 130 = .ok (.invokevirtual 76, 3) := by decide +kernel
theorem dX1_tryThings_133 : decode cX1_tryThings 133 = .ok (.goto 50, 3) := by decide +kernel
theorem dX1_tryThings_136 : decode cX1_tryThings 136 = .ok (.aload_n 0, 1) := by decide +kernel
theorem dX1_tryThings_137 : decode cX1_tryThings 137 = .ok (.aload_n 0, 1) := by decide +kernel
theorem dX1_tryThings_138 : decode cX1_tryThings 138 = .ok (.getfield 34, 3) := by decide +kernel
theorem dX1_tryThings_141 : decode cX1_tryThings 141 = .ok (.getfield 127, 3) := by decide +kernel
theorem dX1_tryThings_144 : decode cX1_tryThings 144 = .ok (.iload_n 1, 1) := by decide +kernel
theorem dX1_tryThings_145 : decode cX1_tryThings 145 = .ok (.iaload, 1) := by decide +kernel
theorem dX1_tryThings_146 : decode cX1_tryThings 146 = .ok (.aload_n 0, 1) := by decide +kernel
theorem dX1_tryThings_147 : decode cX1_tryThings 147 = .ok (.getfield 30, 3) := by decide +kernel
theorem dX1_tryThings_150 : decode cX1_tryThings 150 = .ok (.aload_n 0, 1) := by decide +kernel
theorem dX1_tryThings_151 : decode cX1_tryThings 151 = .ok (.getfield 34, 3) := by decide +kernel
theorem dX1_tryThings_154 : decode cX1_tryThings 154 = .ok (.getfield 121, 3) := by decide +kernel
theorem dX1_tryThings_157 : decode cX1_tryThings 157 = .ok (.iload_n 1, 1) := by decide +kernel
theorem dX1_tryThings_158 : decode cX1_tryThings 158 = .ok (.iaload, 1) := by decide +kernel
theorem dX1_tryThings_159 : decode cX1_tryThings 159 = .ok (.iaload, 1) := by decide +kernel
theorem dX1_tryThings_160 : decode cX1_tryThings 160 = .ok (.aload_n 0, 1) := by decide +kernel
theorem dX1_tryThings_161 : decode cX1_tryThings 161 = .ok (.getfield 30, 3) := by decide +kernel
theorem dX1_tryThings_164 : decode cX1_tryThings 164 = .ok (.aload_n 0, 1) := by decide +kernel
theorem dX1_tryThings_165 : decode cX1_tryThings 165 = .ok (.getfield 34, 3) := by decide +kernel
theorem dX1_tryThings_168 : decode cX1_tryThings 168 = .ok (.getfield 124, 3) := by decide +kernel
theorem dX1_tryThings_171 : decode cX1_tryThings 171 = .ok (.iload_n 1, 1) := by decide +kernel
theorem dX1_tryThings_172 : decode cX1_tryThings 172 = .ok (.iaload, 1) := by decide +kernel
theorem dX1_tryThings_173 : decode cX1_tryThings 173 = .ok (.iaload, 1) := by decide +kernel
theorem dX1_tryThings_174 : decode cX1_tryThings 174 = .ok (.invokevirtual 92, 3) := by decide +kernel
theorem dX1_tryThings_177 : decode cX1_tryThings 177 = .ok (.iload 6, 2) := by decide +kernel
theorem dX1_tryThings_179 : decode cX1_tryThings 179 = .ok (.ifCond .ne 4, 3) := by decide +kernel
theorem dX1_tryThings_182 : decode cX1_tryThings 182 = .ok (.return_, 1) := by decide +kernel
theorem dX1_tryThings_183 : decode cX1_tryThings 183 = .ok (.iinc 7 1, 3) := by decide +kernel
theorem dX1_tryThings_186 : decode cX1_tryThings 186 = .ok (.goto (-121), 3) := by decide +kernel
theorem dX1_tryThings_189 : decode cX1_tryThings 189 = .ok (.return_, 1) := by decide +kernel
theorem dX1_workOut_0 : decode cX1_workOut 0 = .ok (.aload_n 0, 1) := by decide +kernel
theorem dX1_workOut_1 : decode cX1_workOut 1 = .ok (.aload_n 1, 1) := by decide +kernel
theorem dX1_workOut_2 : decode cX1_workOut 2 = .ok (.putfield 34, 3) := by decide +kernel
theorem dX1_workOut_5 : decode cX1_workOut 5 = .ok (.aload_n 0, 1) := by decide +kernel
theorem dX1_workOut_6 : decode cX1_workOut 6 = .ok (.aload_n 2, 1) := by decide +kernel
theorem dX1_workOut_7 : decode cX1_workOut 7 = .ok (.getfield 38, 3) := by decide +kernel
theorem dX1_workOut_10 : decode cX1_workOut 10 = .ok (.bipush 40, 2) := by decide +kernel
theorem dX1_workOut_12 : decode cX1_workOut 12 = .ok (.invokestatic 44, 3) := by decide +kernel
theorem dX1_workOut_15 : decode cX1_workOut 15 = .ok (.putfield 50, 3) := by decide +kernel
theorem dX1_workOut_18 : decode cX1_workOut 18 = .ok (.aload_n 0, 1) := by decide +kernel
theorem dX1_workOut_19 : decode cX1_workOut 19 = .ok (.lconst 1, 1) := by decide +kernel
theorem dX1_workOut_20 : decode cX1_workOut 20 = .ok (.aload_n 0, 1) := by decide +kernel
theorem dX1_workOut_21 : decode cX1_workOut 21 = .ok (.getfield 50, 3) := by decide +kernel
theorem dX1_workOut_24 : decode cX1_workOut 24 = .ok (.lshl, 1) := by decide +kernel
theorem dX1_workOut_25 : decode cX1_workOut 25 = .ok (.lconst 1, 1) := by decide +kernel
theorem dX1_workOut_26 : decode cX1_workOut 26 = .ok (.lsub, 1) := by decide +kernel
theorem dX1_workOut_27 : decode cX1_workOut 27 = .ok (.putfield 51, 3) := by decide +kernel
theorem dX1_workOut_30 : decode cX1_workOut 30 = .ok (.aload_n 0, 1) := by decide +kernel
theorem dX1_workOut_31 : decode cX1_workOut 31 = .ok (.getfield 15, 3) := by decide +kernel
theorem dX1_workOut_34 : decode cX1_workOut 34 = .ok (.lconst 0, 1) := by decide +kernel
theorem dX1_workOut_35 : decode cX1_workOut 35 = .ok (.invokestatic 55, 3) := by decide +kernel
theorem dX1_workOut_38 : decode cX1_workOut 38 = .ok (.aload_n 0, 1) := by decide +kernel
theorem dX1_workOut_39 : decode cX1_workOut 39 = .ok (.getfield 19, 3) := by decide +kernel
theorem dX1_workOut_42 : decode cX1_workOut 42 = .ok (.lconst 0, 1) := by decide +kernel
theorem dX1_workOut_43 : decode cX1_workOut 43 = .ok (.invokestatic 55, 3) := by decide +kernel
theorem dX1_workOut_46 : decode cX1_workOut 46 = .ok (.aload_n 0, 1) := by decide +kernel
theorem dX1_workOut_47 : decode cX1_workOut 47 = .ok (.getfield 22, 3) := by decide +kernel
theorem dX1_workOut_50 : decode cX1_workOut 50 = .ok (.lconst 0, 1) := by decide +kernel
theorem dX1_workOut_51 : decode cX1_workOut 51 = .ok (.invokestatic 55, 3) := by decide +kernel
theorem dX1_workOut_54 : decode cX1_workOut 54 = .ok (.aload_n 0, 1) := by decide +kernel
theorem dX1_workOut_55 : decode cX1_workOut 55 = .ok (.aload_n 2, 1) := by decide +kernel
theorem dX1_workOut_56 : decode cX1_workOut 56 = .ok (.invokevirtual 61, 3) := by decide +kernel
theorem dX1_workOut_59 : decode cX1_workOut 59 = .ok (.aload_n 0, 1) := by decide +kernel
theorem dX1_workOut_60 : decode cX1_workOut 60 = .ok (.aload_n 2, 1) := by decide +kernel
theorem dX1_workOut_61 : decode cX1_workOut 61 = .ok (.invokevirtual 65, 3) := by decide +kernel
theorem dX1_workOut_64 : decode cX1_workOut 64 = .ok (.aload_n 0, 1) := by decide +kernel
theorem dX1_workOut_65 : decode cX1_workOut 65 = .ok (.iconst 1, 1) := by decide +kernel
theorem dX1_workOut_66 : decode cX1_workOut 66 = .ok (.putfield 68, 3) := by decide +kernel
theorem dX1_workOut_69 : decode cX1_workOut 69 = .ok (.iconst 0, 1) := by decide +kernel
theorem dX1_workOut_70 : decode cX1_workOut 70 = .ok (.istore_n 3, 1) := by decide +kernel
theorem dX1_workOut_71 : decode cX1_workOut 71 = .ok (.iload_n 3, 1) := by decide +kernel
theorem dX1_workOut_72 : decode cX1_workOut 72 = .ok (.ldc 72, 2) := by decide +kernel
theorem dX1_workOut_74 : decode cX1_workOut 74 = .ok (.if_icmp .ge 49, 3) := by decide +kernel
theorem dX1_workOut_77 : decode cX1_workOut 77 = .ok (.aload_n 0, 1) := by decide +kernel
theorem dX1_workOut_78 : decode cX1_workOut 78 = .ok (.getfield 68, 3) := by decide +kernel
theorem dX1_workOut_81 : decode cX1_workOut 81 = .ok (.ifCond .eq 42, 3) := by decide +kernel
theorem dX1_workOut_84 : decode cX1_workOut 84 = .ok (.aload_n 0, 1) := by decide +kernel
theorem dX1_workOut_85 : decode cX1_workOut 85 = .ok (.iconst 0, 1) := by decide +kernel
theorem dX1_workOut_86 : decode cX1_workOut 86 = .ok (.putfield 68, 3) := by decide +kernel
theorem dX1_workOut_89 : decode cX1_workOut 89 = .ok (.iconst 0, 1) := by decide +kernel
theorem dX1_workOut_90 : decode cX1_workOut 90 = .ok (.istore 4, 2) := by decide +kernel
theorem dX1_workOut_92 : decode cX1_workOut 92 = .ok (.iload 4, 2) := by decide +kernel
theorem dX1_workOut_94 : decode cX1_workOut 94 = .ok (.aload_n 0, 1) := by decide +kernel
theorem dX1_workOut_95 : decode cX1_workOut 95 = .ok (.getfield 34, 3) := by decide +kernel
theorem dX1_workOut_98 : decode cX1_workOut 98 = .ok (.getfield 73, 3) := by decide +kernel
theorem dX1_workOut_101 : decode cX1_workOut 101 = .ok (.if_icmp .ge 16, 3) := by decide +kernel
theorem dX1_workOut_104 : decode cX1_workOut 104 = .ok (.aload_n 0, 1) := by decide +kernel
theorem dX1_workOut_105 : decode cX1_workOut 105 = .ok (.iload 4, 2) := by decide +kernel
theorem dX1_workOut_107 : decode cX1_workOut 107 = .ok (.iconst 0, 1) := by decide +kernel
theorem dX1_workOut_108 : decode cX1_workOut 108 = .ok (.invokevirtual 76, 3) := by decide +kernel
theorem dX1_workOut_111 : decode cX1_workOut 111 = .ok (.iinc 4 1, 3) := by decide +kernel
theorem dX1_workOut_114 : decode cX1_workOut 114 = .ok (.goto (-22), 3) := by decide +kernel
theorem dX1_workOut_117 : decode cX1_workOut 117 = .ok (.iinc 3 1, 3) := by decide +kernel
theorem dX1_workOut_120 : decode cX1_workOut 120 = .ok (.goto (-49), 3) := by decide +kernel
theorem dX1_workOut_123 : decode cX1_workOut 123 = .ok (.return_, 1) := by decide +kernel
theorem dX2_canSwap_0 : decode cX2_canSwap 0 = .ok (.iconst 0, 1) := by decide +kernel
theorem dX2_canSwap_1 : decode cX2_canSwap 1 = .ok (.istore_n 3, 1) := by decide +kernel
theorem dX2_canSwap_2 : decode cX2_canSwap 2 = .ok (.iload_n 3, 1) := by decide +kernel
theorem dX2_canSwap_3 : decode cX2_canSwap 3 = .ok (.aload_n 0, 1) := by decide +kernel
theorem dX2_canSwap_4 : decode cX2_canSwap 4 = .ok (.getfield 47, 3) := by decide +kernel
theorem dX2_canSwap_7 : decode cX2_canSwap 7 = .ok (.if_icmp .ge 100, 3) := by decide +kernel
theorem dX2_canSwap_10 : decode cX2_canSwap 10 = .ok (.aload_n 0, 1) := by decide +kernel
theorem dX2_canSwap_11 : decode cX2_canSwap 11 = .ok (.getfield 15, 3) := by decide +kernel
theorem dX2_canSwap_14 : decode cX2_canSwap 14 = .ok (.iload_n 3, 1) := by decide +kernel
theorem dX2_canSwap_15 : decode cX2_canSwap 15 = .ok (.iaload, 1) := by decide +kernel
theorem dX2_canSwap_16 : decode cX2_canSwap 16 = .ok (.iconst (-1), 1) := by decide +kernel
theorem dX2_canSwap_17 : decode cX2_canSwap 17 = .ok (.if_icmp .ne 7, 3) := by decide +kernel
theorem dX2_canSwap_20 : decode cX2_canSwap 20 = .ok (.iconst 0, 1) := by decide +kernel
theorem dX2_canSwap_21 : decode cX2_canSwap 21 = .ok (.goto 8, 3) := by decide +kernel
theorem dX2_canSwap_24 : decode cX2_canSwap 24 = .ok (.aload_n 0, 1) := by decide +kernel
theorem dX2_canSwap_25 : decode cX2_canSwap 25 = .ok (.iload_n 3, 1) := by decide +kernel
theorem dX2_canSwap_26 : decode cX2_canSwap 26 = .ok (.invokevirtual 59, 3) := by decide +kernel
theorem dX2_canSwap_29 : decode cX2_canSwap 29 = .ok (.istore 4, 2) := by decide +kernel
theorem dX2_canSwap_31 : decode cX2_canSwap 31 = .ok (.iconst 0, 1) := by decide +kernel
theorem dX2_canSwap_32 : decode cX2_canSwap 32 = .ok (.istore 5, 2) := by decide +kernel
theorem dX2_canSwap_34 : decode cX2_canSwap 34 = .ok (.iload 5, 2) := by decide +kernel
theorem dX2_canSwap_36 : decode cX2_canSwap 36 = .ok (.iload 4, 2) := by decide +kernel
theorem dX2_canSwap_38 : decode cX2_canSwap 38 = .ok (.if_icmp .ge 63, 3) := by decide +kernel
theorem dX2_canSwap_41 : decode cX2_canSwap 41 = .ok (.aload_n 0, 1) := by decide +kernel
theorem dX2_canSwap_42 : decode cX2_canSwap 42 = .ok (.getfield 22, 3) := by decide +kernel
theorem dX2_canSwap_45 : decode cX2_canSwap 45 = .ok (.iload_n 3, 1) := by decide +kernel
theorem dX2_canSwap_46 : decode cX2_canSwap 46 = .ok (.iaload, 1) := by decide +kernel
theorem dX2_canSwap_47 : decode cX2_canSwap 47 = .ok (.iload 5, 2) := by decide +kernel
theorem dX2_canSwap_49 : decode cX2_canSwap 49 = .ok (.iadd, 1) := by decide +kernel
theorem dX2_canSwap_50 : decode cX2_canSwap 50 = .ok (.istore 6, 2) := by decide +kernel
theorem dX2_canSwap_52 : decode cX2_canSwap 52 = .ok (.aload_n 0, 1) := by decide +kernel
theorem dX2_canSwap_53 : decode cX2_canSwap 53 = .ok (.getfield 29, 3) := by decide +kernel
theorem dX2_canSwap_56 : decode cX2_canSwap 56 = .ok (.iload 6, 2) := by decide +kernel
theorem dX2_canSwap_58 : decode cX2_canSwap 58 = .ok (.baload, 1) := by decide +kernel
theorem dX2_canSwap_59 : decode cX2_canSwap 59 = .ok (.ifCond .eq 36, 3) := by decide +kernel
theorem dX2_canSwap_62 : decode cX2_canSwap 62 = .ok (.aload_n 0, 1) := by decide +kernel
theorem dX2_canSwap_63 : decode cX2_canSwap 63 = .ok (.aload_n 0, 1) := by decide +kernel
theorem dX2_canSwap_64 : decode cX2_canSwap 64 = .ok (.getfield 25, 3) := by decide +kernel
theorem dX2_canSwap_67 : decode cX2_canSwap 67 = .ok (.iload 6, 2) := by decide +kernel
theorem dX2_canSwap_69 : decode cX2_canSwap 69 = .ok (.laload, 1) := by decide +kernel
theorem dX2_canSwap_70 : decode cX2_canSwap 70 = .ok (.aload_n 0, 1) := by decide +kernel
theorem dX2_canSwap_71 : decode cX2_canSwap 71 = .ok (.getfield 9, 3) := by decide +kernel
theorem dX2_canSwap_74 : decode cX2_canSwap 74 = .ok (.aload_n 0, 1) := by decide +kernel
theorem dX2_canSwap_75 : decode cX2_canSwap 75 = .ok (.getfield 15, 3) := by decide +kernel
theorem dX2_canSwap_78 : decode cX2_canSwap 78 = .ok (.iload_n 3, 1) := by decide +kernel
theorem dX2_canSwap_79 : decode cX2_canSwap 79 = .ok (.iaload, 1) := by decide +kernel
theorem dX2_canSwap_80 : decode cX2_canSwap 80 = .ok (.iload 5, 2) := by decide +kernel
theorem dX2_canSwap_82 : decode cX2_canSwap 82 = .ok (.invokevirtual 92, 3) := by decide +kernel
theorem dX2_canSwap_85 : decode cX2_canSwap 85 = .ok (.iload_n 1, 1) := by decide +kernel
theorem dX2_canSwap_86 : decode cX2_canSwap 86 = .ok (.iload_n 2, 1) := by decide +kernel
theorem dX2_canSwap_87 : decode cX2_canSwap 87 = .ok (.invokevirtual 95, 3) := by decide +kernel
theorem dX2_canSwap_90 : decode cX2_canSwap 90 = .ok (.ifCond .ne 5, 3) := by decide +kernel
theorem dX2_canSwap_93 : decode cX2_canSwap 93 = .ok (.iconst 0, 1) := by decide +kernel
theorem dX2_canSwap_94 : decode cX2_canSwap 94 = .ok (.ireturn, 1) := by decide +kernel
theorem dX2_canSwap_95 : decode cX2_canSwap 95 = .ok (.iinc 5 1, 3) := by decide +kernel
theorem dX2_canSwap_98 : decode cX2_canSwap 98 = .ok (.goto (-64), 3) := by decide +kernel
theorem dX2_canSwap_101 : decode cX2_canSwap 101 = .ok (.iinc 3 1, 3) := by decide +kernel
theorem dX2_canSwap_104 : decode cX2_canSwap 104 = .ok (.goto (-102), 3) := by decide +kernel
theorem dX2_canSwap_107 : decode cX2_canSwap 107 = .ok (.iconst 0, 1) := by decide +kernel
theorem dX2_canSwap_108 : decode cX2_canSwap 108 = .ok (.istore_n 3, 1) := by decide +kernel
theorem dX2_canSwap_109 : decode cX2_canSwap 109 = .ok (.iload_n 3, 1) := by decide +kernel
theorem dX2_canSwap_110 : decode cX2_canSwap 110 = .ok (.aload_n 0, 1) := by decide +kernel
theorem dX2_canSwap_111 : decode cX2_canSwap 111 = .ok (.getfield 9, 3) := by decide +kernel
theorem dX2_canSwap_114 : decode cX2_canSwap 114 = .ok (.invokevirtual 99, 3) := by decide +kernel
theorem dX2_canSwap_117 : decode cX2_canSwap 117 = .ok (.if_icmp .ge 46, 3) := by decide +kernel
theorem dX2_canSwap_120 : decode cX2_canSwap 120 = .ok (.aload_n 0, 1) := by decide +kernel
theorem dX2_canSwap_121 : decode cX2_canSwap 121 = .ok (.getfield 9, 3) := by decide +kernel
theorem dX2_canSwap_124 : decode cX2_canSwap 124 = .ok (.iload_n 3, 1) := by decide +kernel
theorem dX2_canSwap_125 : decode cX2_canSwap 125 = .ok (.invokevirtual 103, 3) := by decide +kernel
theorem dX2_canSwap_128 : decode cX2_canSwap 128 = .ok (.ifCond .eq 29, 3) := by decide +kernel
theorem dX2_canSwap_131 : decode cX2_canSwap 131 = .ok (.aload_n 0, 1) := by decide +kernel
theorem dX2_canSwap_132 : decode cX2_canSwap 132 = .ok (.aload_n 0, 1) := by decide +kernel
theorem dX2_canSwap_133 : decode cX2_canSwap 133 = .ok (.getfield 35, 3) := by decide +kernel
theorem dX2_canSwap_136 : decode cX2_canSwap 136 = .ok (.iload_n 3, 1) := by decide +kernel
theorem dX2_canSwap_137 : decode cX2_canSwap 137 = .ok (.laload, 1) := by decide +kernel
theorem dX2_canSwap_138 : decode cX2_canSwap 138 = .ok (.aload_n 0, 1) := by decide +kernel
theorem dX2_canSwap_139 : decode cX2_canSwap 139 = .ok (.getfield 9, 3) := by decide +kernel
theorem dX2_canSwap_142 : decode cX2_canSwap 142 = .ok (.getfield 106, 3) := by decide +kernel
theorem dX2_canSwap_145 : decode cX2_canSwap 145 = .ok (.iload_n 3, 1) := by decide +kernel
theorem dX2_canSwap_146 : decode cX2_canSwap 146 = .ok (.iaload, 1) := by decide +kernel
theorem dX2_canSwap_147 : decode cX2_canSwap 147 = .ok (.iload_n 1, 1) := by decide +kernel
theorem dX2_canSwap_148 : decode cX2_canSwap 148 = .ok (.iload_n 2, 1) := by decide +kernel
theorem dX2_canSwap_149 : decode cX2_canSwap 149 = .ok (.invokevirtual 95, 3) := by decide +kernel
theorem dX2_canSwap_152 : decode cX2_canSwap 152 = .ok (.ifCond .ne 5, 3) := by decide +kernel
theorem dX2_canSwap_155 : decode cX2_canSwap 155 = .ok (.iconst 0, 1) := by decide +kernel
theorem dX2_canSwap_156 : decode cX2_canSwap 156 = .ok (.ireturn, 1) := by decide +kernel
theorem dX2_canSwap_157 : decode cX2_canSwap 157 = .ok (.iinc 3 1, 3) := by decide +kernel
theorem dX2_canSwap_160 : decode cX2_canSwap 160 = .ok (.goto (-51), 3) := by decide +kernel
theorem dX2_canSwap_163 : decode cX2_canSwap 163 = .ok (.iconst 1, 1) := by decide +kernel
theorem dX2_canSwap_164 : decode cX2_canSwap 164 = .ok (.ireturn, 1) := by decide +kernel
theorem dX2_clearMarks_0 : decode cX2_clearMarks 0 = .ok (.aload_n 0, 1) := by decide +kernel
theorem dX2_clearMarks_1 : decode cX2_clearMarks 1 = .ok (.getfield 44, 3) := by decide +kernel
theorem dX2_clearMarks_4 : decode cX2_clearMarks 4 = .ok (.iconst 0, 1) := by decide +kernel
theorem dX2_clearMarks_5 : decode cX2_clearMarks 5 = .ok (.aload_n 0, 1) := by decide +kernel
theorem dX2_clearMarks_6 : decode cX2_clearMarks 6 = .ok (.getfield 47, 3) := by decide +kernel
theorem dX2_clearMarks_9 : decode cX2_clearMarks 9 = .ok (.iconst (-1), 1) := by decide +kernel
theorem dX2_clearMarks_10 : decode cX2_clearMarks 10 = .ok (.invokestatic 109, 3) := by decide +kernel
theorem dX2_clearMarks_13 : decode cX2_clearMarks 13 = .ok (.return_, 1) := by decide +kernel
theorem dX2_copySlots_0 : decode cX2_copySlots 0 = .ok (.aload_n 0, 1) := by decide +kernel
theorem dX2_copySlots_1 : decode cX2_copySlots 1 = .ok (.iload_n 1, 1) := by decide +kernel
theorem dX2_copySlots_2 : decode cX2_copySlots 2 = .ok (.invokevirtual 59, 3) := by decide +kernel
theorem dX2_copySlots_5 : decode cX2_copySlots 5 = .ok (.istore 4, 2) := by decide +kernel
theorem dX2_copySlots_7 : decode cX2_copySlots 7 = .ok (.iconst 0, 1) := by decide +kernel
theorem dX2_copySlots_8 : decode cX2_copySlots 8 = .ok (.istore 5, 2) := by decide +kernel
theorem dX2_copySlots_10 : decode cX2_copySlots 10 = .ok (.iload 5, 2) := by decide +kernel
theorem dX2_copySlots_12 : decode cX2_copySlots 12 = .ok (.iload 4, 2) := by decide +kernel
theorem dX2_copySlots_14 : decode cX2_copySlots 14 = .ok (.if_icmp .ge 105, 3) := by decide +kernel
theorem dX2_copySlots_17 : decode cX2_copySlots 17 = .ok (.aload_n 0, 1) := by decide +kernel
theorem dX2_copySlots_18 : decode cX2_copySlots 18 = .ok (.getfield 25, 3) := by decide +kernel
theorem dX2_copySlots_21 : decode cX2_copySlots 21 = .ok (.aload_n 0, 1) := by decide +kernel
theorem dX2_copySlots_22 : decode cX2_copySlots 22 = .ok (.getfield 22, 3) := by decide +kernel
theorem dX2_copySlots_25 : decode cX2_copySlots 25 = .ok (.iload_n 1, 1) := by decide +kernel
theorem dX2_copySlots_26 : decode cX2_copySlots 26 = .ok (.iaload, 1) := by decide +kernel
theorem dX2_copySlots_27 : decode cX2_copySlots 27 = .ok (.iload 5, 2) := by decide +kernel
theorem dX2_copySlots_29 : decode cX2_copySlots 29 = .ok (.iadd, 1) := by decide +kernel
theorem dX2_copySlots_30 : decode cX2_copySlots 30 = .ok (.laload, 1) := by decide +kernel
theorem dX2_copySlots_31 : decode cX2_copySlots 31 = .ok (.lstore 6, 2) := by decide +kernel
theorem dX2_copySlots_33 : decode cX2_copySlots 33 = .ok (.aload_n 0, 1) := by decide +kernel
theorem dX2_copySlots_34 : decode cX2_copySlots 34 = .ok (.getfield 29, 3) := by decide +kernel
theorem dX2_copySlots_37 : decode cX2_copySlots 37 = .ok (.aload_n 0, 1) := by decide +kernel
theorem dX2_copySlots_38 : decode cX2_copySlots 38 = .ok (.getfield 22, 3) := by decide +kernel
theorem dX2_copySlots_41 : decode cX2_copySlots 41 = .ok (.iload_n 1, 1) := by decide +kernel
theorem dX2_copySlots_42 : decode cX2_copySlots 42 = .ok (.iaload, 1) := by decide +kernel
theorem dX2_copySlots_43 : decode cX2_copySlots 43 = .ok (.iload 5, 2) := by decide +kernel
theorem dX2_copySlots_45 : decode cX2_copySlots 45 = .ok (.iadd, 1) := by decide +kernel
theorem dX2_copySlots_46 : decode cX2_copySlots 46 = .ok (.baload, 1) := by decide +kernel
theorem dX2_copySlots_47 : decode cX2_copySlots 47 = .ok (.ifCond .eq 28, 3) := by decide +kernel
theorem dX2_copySlots_50 : decode cX2_copySlots 50 = .ok (.lload 6, 2) := by decide +kernel
theorem dX2_copySlots_52 : decode cX2_copySlots 52 = .ok (.ldc2_w 69, 3) := by decide +kernel
theorem dX2_copySlots_55 : decode cX2_copySlots 55 = .ok (.lcmp, 1) := by decide +kernel
theorem dX2_copySlots_56 : decode cX2_copySlots 56 = .ok (.ifCond .eq 19, 3) := by decide +kernel
theorem dX2_copySlots_59 : decode cX2_copySlots 59 = .ok (.aload_n 0, 1) := by decide +kernel
theorem dX2_copySlots_60 : decode cX2_copySlots 60 = .ok (.getfield 44, 3) := by decide +kernel
theorem dX2_copySlots_63 : decode cX2_copySlots 63 = .ok (.lload 6, 2) := by decide +kernel
theorem dX2_copySlots_65 : decode cX2_copySlots 65 = .ok (.l2i, 1) := by decide +kernel
theorem dX2_copySlots_66 : decode cX2_copySlots 66 = .ok (.iaload, 1) := by decide +kernel
theorem dX2_copySlots_67 : decode cX2_copySlots 67 = .ok (.iconst (-1), 1) := by decide +kernel
theorem dX2_copySlots_68 : decode cX2_copySlots 68 = .ok (.if_icmp .eq 7, 3) := by decide +kernel
theorem dX2_copySlots_71 : decode cX2_copySlots 71 = .ok (.iconst 1, 1) := by decide +kernel
theorem dX2_copySlots_72 : decode cX2_copySlots 72 = .ok (.goto 4, 3) := by decide +kernel
theorem dX2_copySlots_75 : decode cX2_copySlots 75 = .ok (.iconst 0, 1) := by decide +kernel
theorem dX2_copySlots_76 : decode cX2_copySlots 76 = .ok (.istore 8, 2) := by decide +kernel
theorem dX2_copySlots_78 : decode cX2_copySlots 78 = .ok (.aload_n 0, 1) := by decide +kernel
theorem dX2_copySlots_79 : decode cX2_copySlots 79 = .ok (.getfield 25, 3) := by decide +kernel
theorem dX2_copySlots_82 : decode cX2_copySlots 82 = .ok (.aload_n 0, 1) := by decide +kernel
theorem dX2_copySlots_83 : decode cX2_copySlots 83 = .ok (.getfield 22, 3) := by decide +kernel
theorem dX2_copySlots_86 : decode cX2_copySlots 86 = .ok (.iload_n 2, 1) := by decide +kernel
theorem dX2_copySlots_87 : decode cX2_copySlots 87 = .ok (.iaload, 1) := by decide +kernel
theorem dX2_copySlots_88 : decode cX2_copySlots 88 = .ok (.iload 5, 2) := by decide +kernel
theorem dX2_copySlots_90 : decode cX2_copySlots 90 = .ok (.iadd, 1) := by decide +kernel
theorem dX2_copySlots_91 : decode cX2_copySlots 91 = .ok (.iload 8, 2) := by decide +kernel
theorem dX2_copySlots_93 : decode cX2_copySlots 93 = .ok (.ifCond .eq 17, 3) := by decide +kernel
theorem dX2_copySlots_96 : decode cX2_copySlots 96 = .ok (.iload_n 3, 1) := by decide +kernel
theorem dX2_copySlots_97 : decode cX2_copySlots 97 = .ok (.aload_n 0, 1) := by decide +kernel
theorem dX2_copySlots_98 : decode cX2_copySlots 98 = .ok (.getfield 44, 3) := by decide +kernel
theorem dX2_copySlots_101 : decode cX2_copySlots 101 = .ok (.lload 6, 2) := by decide +kernel
theorem dX2_copySlots_103 : decode cX2_copySlots 103 = .ok (.l2i, 1) := by decide +kernel
theorem dX2_copySlots_104 : decode cX2_copySlots 104 = .ok (.iaload, 1) := by decide +kernel
theorem dX2_copySlots_105 : decode cX2_copySlots 105 = .ok (.iadd, 1) := by decide +kernel
theorem dX2_copySlots_106 : decode cX2_copySlots 106 = .ok (.i2l, 1) := by decide +kernel
theorem dX2_copySlots_107 : decode cX2_copySlots 107 = .ok (.goto 5, 3) := by decide +kernel
theorem dX2_copySlots_110 : decode cX2_copySlots 110 = .ok (.lload 6, 2) := by decide +kernel
theorem dX2_copySlots_112 : decode cX2_copySlots 112 = .ok (.lastore, 1) := by decide +kernel
theorem dX2_copySlots_113 : decode cX2_copySlots 113 = .ok (.iinc 5 1, 3) := by decide +kernel
theorem dX2_copySlots_116 : decode cX2_copySlots 116 = .ok (.goto (-106), 3) := by decide +kernel
theorem dX2_copySlots_119 : decode cX2_copySlots 119 = .ok (.return_, 1) := by decide +kernel
theorem dX2_countOf_0 : decode cX2_countOf 0 = .ok (.iconst 0, 1) := by decide +kernel
theorem dX2_countOf_1 : decode cX2_countOf 1 = .ok (.istore_n 2, 1) := by decide +kernel
theorem dX2_countOf_2 : decode cX2_countOf 2 = .ok (.iconst 0, 1) := by decide +kernel
theorem dX2_countOf_3 : decode cX2_countOf 3 = .ok (.istore_n 3, 1) := by decide +kernel
theorem dX2_countOf_4 : decode cX2_countOf 4 = .ok (.iload_n 3, 1) := by decide +kernel
theorem dX2_countOf_5 : decode cX2_countOf 5 = .ok (.aload_n 0, 1) := by decide +kernel
theorem dX2_countOf_6 : decode cX2_countOf 6 = .ok (.getfield 47, 3) := by decide +kernel
theorem dX2_countOf_9 : decode cX2_countOf 9 = .ok (.if_icmp .ge 22, 3) := by decide +kernel
theorem dX2_countOf_12 : decode cX2_countOf 12 = .ok (.aload_n 0, 1) := by decide +kernel
theorem dX2_countOf_13 : decode cX2_countOf 13 = .ok (.getfield 15, 3) := by decide +kernel
theorem dX2_countOf_16 : decode cX2_countOf 16 = .ok (.iload_n 3, 1) := by decide +kernel
theorem dX2_countOf_17 : decode cX2_countOf 17 = .ok (.iaload, 1) := by decide +kernel
theorem dX2_countOf_18 : decode cX2_countOf 18 = .ok (.iload_n 1, 1) := by decide +kernel
theorem dX2_countOf_19 : decode cX2_countOf 19 = .ok (.if_icmp .ne 6, 3) := by decide +kernel
theorem dX2_countOf_22 : decode cX2_countOf 22 = .ok (.iinc 2 1, 3) := by decide +kernel
theorem dX2_countOf_25 : decode cX2_countOf 25 = .ok (.iinc 3 1, 3) := by decide +kernel
theorem dX2_countOf_28 : decode cX2_countOf 28 = .ok (.goto (-24), 3) := by decide +kernel
theorem dX2_countOf_31 : decode cX2_countOf 31 = .ok (.iload_n 2, 1) := by decide +kernel
theorem dX2_countOf_32 : decode cX2_countOf 32 = .ok (.ireturn, 1) := by decide +kernel
theorem dX2_create_0 : decode cX2_create 0 = .ok (.aload_n 0, 1) := by decide +kernel
theorem dX2_create_1 : decode cX2_create 1 = .ok (.getfield 47, 3) := by decide +kernel
theorem dX2_create_4 : decode cX2_create 4 = .ok (.istore_n 3, 1) := by decide +kernel
theorem dX2_create_5 : decode cX2_create 5 = .ok (.aload_n 0, 1) := by decide +kernel
theorem dX2_create_6 : decode cX2_create 6 = .ok (.dup, 1) := by decide +kernel
theorem dX2_create_7 : decode cX2_create 7 = .ok (.getfield 47, 3) := by decide +kernel
theorem dX2_create_10 : decode cX2_create 10 = .ok (.iconst 1, 1) := by decide +kernel
theorem dX2_create_11 : decode cX2_create 11 = .ok (.iadd, 1) := by decide +kernel
theorem dX2_create_12 : decode cX2_create 12 = .ok (.putfield 47, 3) := by decide +kernel
theorem dX2_create_15 : decode cX2_create 15 = .ok (.aload_n 0, 1) := by decide +kernel
theorem dX2_create_16 : decode cX2_create 16 = .ok (.dup, 1) := by decide +kernel
theorem dX2_create_17 : decode cX2_create 17 = .ok (.getfield 75, 3) := by decide +kernel
theorem dX2_create_20 : decode cX2_create 20 = .ok (.iconst 1, 1) := by decide +kernel
theorem dX2_create_21 : decode cX2_create 21 = .ok (.iadd, 1) := by decide +kernel
theorem dX2_create_22 : decode cX2_create 22 = .ok (.putfield 75, 3) := by decide +kernel
theorem dX2_create_25 : decode cX2_create 25 = .ok (.aload_n 0, 1) := by decide +kernel
theorem dX2_create_26 : decode cX2_create 26 = .ok (.getfield 15, 3) := by decide +kernel
theorem dX2_create_29 : decode cX2_create 29 = .ok (.iload_n 3, 1) := by decide +kernel
theorem dX2_create_30 : decode cX2_create 30 = .ok (.iload_n 1, 1) := by decide +kernel
theorem dX2_create_31 : decode cX2_create 31 = .ok (.iastore, 1) := by decide +kernel
theorem dX2_create_32 : decode cX2_create 32 = .ok (.aload_n 0, 1) := by decide +kernel
theorem dX2_create_33 : decode cX2_create 33 = .ok (.getfield 19, 3) := by decide +kernel
theorem dX2_create_36 : decode cX2_create 36 = .ok (.iload_n 3, 1) := by decide +kernel
theorem dX2_create_37 : decode cX2_create 37 = .ok (.iload_n 2, 1) := by decide +kernel
theorem dX2_create_38 : decode cX2_create 38 = .ok (.iastore, 1) := by decide +kernel
theorem dX2_create_39 : decode cX2_create 39 = .ok (.aload_n 0, 1) := by decide +kernel
theorem dX2_create_40 : decode cX2_create 40 = .ok (.getfield 22, 3) := by decide +kernel
theorem dX2_create_43 : decode cX2_create 43 = .ok (.iload_n 3, 1) := by decide +kernel
theorem dX2_create_44 : decode cX2_create 44 = .ok (.aload_n 0, 1) := by decide +kernel
theorem dX2_create_45 : decode cX2_create 45 = .ok (.getfield 62, 3) := by decide +kernel
theorem dX2_create_48 : decode cX2_create 48 = .ok (.iastore, 1) := by decide +kernel
theorem dX2_create_49 : decode cX2_create 49 = .ok (.aload_n 0, 1) := by decide +kernel
theorem dX2_create_50 : decode cX2_create 50 = .ok (.getfield 9, 3) := by decide +kernel
theorem dX2_create_53 : decode cX2_create 53 = .ok (.iload_n 1, 1) := by decide +kernel
theorem dX2_create_54 : decode cX2_create 54 = .ok (.invokevirtual 78, 3) := by decide +kernel
theorem dX2_create_57 : decode cX2_create 57 = .ok (.aload_n 0, 1) := by decide +kernel
theorem dX2_create_58 : decode cX2_create 58 = .ok (.getfield 9, 3) := by decide +kernel
theorem dX2_create_61 : decode cX2_create 61 = .ok (.iload_n 1, 1) := by decide +kernel
theorem dX2_create_62 : decode cX2_create 62 = .ok (.iload_n 2, 1) := by decide +kernel
theorem dX2_create_63 : decode cX2_create 63 = .ok (.invokevirtual 51, 3) := by decide +kernel
theorem dX2_create_66 : decode cX2_create 66 = .ok (.istore 4, 2) := by decide +kernel
theorem dX2_create_68 : decode cX2_create 68 = .ok (.iconst 0, 1) := by decide +kernel
theorem dX2_create_69 : decode cX2_create 69 = .ok (.istore 5, 2) := by decide +kernel
theorem dX2_create_71 : decode cX2_create 71 = .ok (.iload 5, 2) := by decide +kernel
theorem dX2_create_73 : decode cX2_create 73 = .ok (.iload 4, 2) := by decide +kernel
theorem dX2_create_75 : decode cX2_create 75 = .ok (.if_icmp .ge 65, 3) := by decide +kernel
theorem dX2_create_78 : decode cX2_create 78 = .ok (.aload_n 0, 1) := by decide +kernel
theorem dX2_create_79 : decode cX2_create 79 = .ok (.getfield 9, 3) := by decide +kernel
theorem dX2_create_82 : decode cX2_create 82 = .ok (.iload_n 1, 1) := by decide +kernel
theorem dX2_create_83 : decode cX2_create 83 = .ok (.iload 5, 2) := by decide +kernel
theorem dX2_create_85 : decode cX2_create 85 = .ok (.invokevirtual 82, 3) := by decide +kernel
theorem dX2_create_88 : decode cX2_create 88 = .ok (.istore 6, 2) := by decide +kernel
theorem dX2_create_90 : decode cX2_create 90 = .ok (.aload_n 0, 1) := by decide +kernel
theorem dX2_create_91 : decode cX2_create 91 = .ok (.getfield 29, 3) := by decide +kernel
theorem dX2_create_94 : decode cX2_create 94 = .ok (.aload_n 0, 1) := by decide +kernel
theorem dX2_create_95 : decode cX2_create 95 = .ok (.getfield 62, 3) := by decide +kernel
theorem dX2_create_98 : decode cX2_create 98 = .ok (.iload 6, 2) := by decide +kernel
theorem dX2_create_100 : decode cX2_create 100 = .ok (.iconst 5, 1) := by decide +kernel
theorem dX2_create_101 : decode cX2_create 101 = .ok (.if_icmp .ne 7, 3) := by decide +kernel
theorem dX2_create_104 : decode cX2_create 104 = .ok (.iconst 1, 1) := by decide +kernel
theorem dX2_create_105 : decode cX2_create 105 = .ok (.goto 4, 3) := by decide +kernel
theorem dX2_create_108 : decode cX2_create 108 = .ok (.iconst 0, 1) := by decide +kernel
theorem dX2_create_109 : decode cX2_create 109 = .ok (.bastore, 1) := by decide +kernel
theorem dX2_create_110 : decode cX2_create 110 = .ok (.aload_n 0, 1) := by decide +kernel
theorem dX2_create_111 : decode cX2_create 111 = .ok (.getfield 25, 3) := by decide +kernel
theorem dX2_create_114 : decode cX2_create 114 = .ok (.aload_n 0, 1) := by decide +kernel
theorem dX2_create_115 : decode cX2_create 115 = .ok (.getfield 62, 3) := by decide +kernel
theorem dX2_create_118 : decode cX2_create 118 = .ok (.iload 6, 2) := by decide +kernel
theorem dX2_create_120 : decode cX2_create 120 = .ok (.invokestatic 85, 3) := by decide +kernel
theorem dX2_create_123 : decode cX2_create 123 = .ok (.lastore, 1) := by decide +kernel
theorem dX2_create_124 : decode cX2_create 124 = .ok (.aload_n 0, 1) := by decide +kernel
theorem dX2_create_125 : decode cX2_create 125 = .ok (.dup, 1) := by decide +kernel
theorem dX2_create_126 : decode cX2_create 126 = .ok (.getfield 62, 3) := by decide +kernel
theorem dX2_create_129 : decode cX2_create 129 = .ok (.iconst 1, 1) := by decide +kernel
theorem dX2_create_130 : decode cX2_create 130 = .ok (.iadd, 1) := by decide +kernel
theorem dX2_create_131 : decode cX2_create 131 = .ok (.putfield 62, 3) := by decide +kernel
theorem dX2_create_134 : decode cX2_create 134 = .ok (.iinc 5 1, 3) := by decide +kernel
theorem dX2_create_137 : decode cX2_create 137 = .ok (.goto (-66), 3) := by decide +kernel
theorem dX2_create_140 : decode cX2_create 140 = .ok (.iload_n 3, 1) := by decide +kernel
theorem dX2_create_141 : decode cX2_create 141 = .ok (.ireturn, 1) := by decide +kernel
theorem dX2_dropRoot_0 : decode cX2_dropRoot 0 = .ok (.aload_n 0, 1) := by decide +kernel
theorem dX2_dropRoot_1 : decode cX2_dropRoot 1 = .ok (.dup, 1) := by decide +kernel
theorem dX2_dropRoot_2 : decode cX2_dropRoot 2 = .ok (.getfield 89, 3) := by decide +kernel
theorem dX2_dropRoot_5 : decode cX2_dropRoot 5 = .ok (.iconst 1, 1) := by decide +kernel
theorem dX2_dropRoot_6 : decode cX2_dropRoot 6 = .ok (.isub, 1) := by decide +kernel
theorem dX2_dropRoot_7 : decode cX2_dropRoot 7 = .ok (.putfield 89, 3) := by decide +kernel
theorem dX2_dropRoot_10 : decode cX2_dropRoot 10 = .ok (.iload_n 1, 1) := by decide +kernel
theorem dX2_dropRoot_11 : decode cX2_dropRoot 11 = .ok (.istore_n 2, 1) := by decide +kernel
theorem dX2_dropRoot_12 : decode cX2_dropRoot 12 = .ok (.iload_n 2, 1) := by decide +kernel
theorem dX2_dropRoot_13 : decode cX2_dropRoot 13 = .ok (.aload_n 0, 1) := by decide +kernel
theorem dX2_dropRoot_14 : decode cX2_dropRoot 14 = .ok (.getfield 89, 3) := by decide +kernel
theorem dX2_dropRoot_17 : decode cX2_dropRoot 17 = .ok (.if_icmp .ge 23, 3) := by decide +kernel
theorem dX2_dropRoot_20 : decode cX2_dropRoot 20 = .ok (.aload_n 0, 1) := by decide +kernel
theorem dX2_dropRoot_21 : decode cX2_dropRoot 21 = .ok (.getfield 38, 3) := by decide +kernel
theorem dX2_dropRoot_24 : decode cX2_dropRoot 24 = .ok (.iload_n 2, 1) := by decide +kernel
theorem dX2_dropRoot_25 : decode cX2_dropRoot 25 = .ok (.aload_n 0, 1) := by decide +kernel
theorem dX2_dropRoot_26 : decode cX2_dropRoot 26 = .ok (.getfield 38, 3) := by decide +kernel
theorem dX2_dropRoot_29 : decode cX2_dropRoot 29 = .ok (.iload_n 2, 1) := by decide +kernel
theorem dX2_dropRoot_30 : decode cX2_dropRoot 30 = .ok (.iconst 1, 1) := by decide +kernel
theorem dX2_dropRoot_31 : decode cX2_dropRoot 31 = .ok (.iadd, 1) := by decide +kernel
theorem dX2_dropRoot_32 : decode cX2_dropRoot 32 = .ok (.iaload, 1) := by decide +kernel
theorem dX2_dropRoot_33 : decode cX2_dropRoot 33 = .ok (.iastore, 1) := by decide +kernel
theorem dX2_dropRoot_34 : decode cX2_dropRoot 34 = .ok (.iinc 2 1, 3) := by decide +kernel
theorem dX2_dropRoot_37 : decode cX2_dropRoot 37 = .ok (.goto (-25), 3) := by decide +kernel
theorem dX2_dropRoot_40 : decode cX2_dropRoot 40 = .ok (.return_, 1) := by decide +kernel
theorem dX2_dropUnreached_0 : decode cX2_dropUnreached 0 = .ok (.aload_n 0, 1) := by decide +kernel
theorem dX2_dropUnreached_1 : decode cX2_dropUnreached 1 = .ok (.invokevirtual 119, 3) := by decide +kernel
theorem dX2_dropUnreached_4 : decode cX2_dropUnreached 4 = .ok (.aload_n 0, 1) := by decide +kernel
theorem dX2_dropUnreached_5 : decode cX2_dropUnreached 5 = .ok (.invokevirtual 122, 3) := by decide +kernel
theorem dX2_dropUnreached_8 : decode cX2_dropUnreached 8 = .ok (.istore_n 1, 1) := by decide +kernel
theorem dX2_dropUnreached_9 : decode cX2_dropUnreached 9 = .ok (.iconst 0, 1) := by decide +kernel
theorem dX2_dropUnreached_10 : decode cX2_dropUnreached 10 = .ok (.istore_n 2, 1) := by decide +kernel
theorem dX2_dropUnreached_11 : decode cX2_dropUnreached 11 = .ok (.iload_n 2, 1) := by decide +kernel
theorem dX2_dropUnreached_12 : decode cX2_dropUnreached 12 = .ok (.iload_n 1, 1) := by decide +kernel
theorem dX2_dropUnreached_13 : decode cX2_dropUnreached 13 = .ok (.if_icmp .ge 29, 3) := by decide +kernel
theorem dX2_dropUnreached_16 : decode cX2_dropUnreached 16 = .ok (.iload_n 2, 1) := by decide +kernel
theorem dX2_dropUnreached_17 : decode cX2_dropUnreached 17 = .ok (.aload_n 0, 1) := by decide +kernel
theorem dX2_dropUnreached_18 : decode cX2_dropUnreached 18 = .ok (.getfield 47, 3) := by decide +kernel
theorem dX2_dropUnreached_21 : decode cX2_dropUnreached 21 = .ok (.if_icmp .ge 21, 3) := by decide +kernel
theorem dX2_dropUnreached_24 : decode cX2_dropUnreached 24 = .ok (.aload_n 0, 1) := by decide +kernel
theorem dX2_dropUnreached_25 : decode cX2_dropUnreached 25 = .ok (.aload_n 0, 1) := by decide +kernel
theorem dX2_dropUnreached_26 : decode cX2_dropUnreached 26 = .ok (.getfield 41, 3) := by decide +kernel
theorem dX2_dropUnreached_29 : decode cX2_dropUnreached 29 = .ok (.iload_n 2, 1) := by decide +kernel
theorem dX2_dropUnreached_30 : decode cX2_dropUnreached 30 = .ok (.iaload, 1) := by decide +kernel
theorem dX2_dropUnreached_31 : decode cX2_dropUnreached 31 = .ok (.iload_n 1, 1) := by decide +kernel
theorem dX2_dropUnreached_32 : decode cX2_dropUnreached 32 = .ok (.invokevirtual 125, 3) := by decide +kernel
theorem dX2_dropUnreached_35 : decode cX2_dropUnreached 35 = .ok (.istore_n 1, 1) := by decide +kernel
theorem dX2_dropUnreached_36 : decode cX2_dropUnreached 36 = .ok (.iinc 2 1, 3) := by decide +kernel
theorem dX2_dropUnreached_39 : decode cX2_dropUnreached 39 = .ok (.goto (-28), 3) := by decide +kernel
theorem dX2_dropUnreached_42 : decode cX2_dropUnreached 42 = .ok (.aload_n 0, 1) := by decide +kernel
theorem dX2_dropUnreached_43 : decode cX2_dropUnreached 43 = .ok (.getfield 75, 3) := by decide +kernel
theorem dX2_dropUnreached_46 : decode cX2_dropUnreached 46 = .ok (.iload_n 1, 1) := by decide +kernel
theorem dX2_dropUnreached_47 : decode cX2_dropUnreached 47 = .ok (.isub, 1) := by decide +kernel
theorem dX2_dropUnreached_48 : decode cX2_dropUnreached 48 = .ok (.istore_n 2, 1) := by decide +kernel
theorem dX2_dropUnreached_49 : decode cX2_dropUnreached 49 = .ok (.iconst 0, 1) := by decide +kernel
theorem dX2_dropUnreached_50 : decode cX2_dropUnreached 50 = .ok (.istore_n 3, 1) := by decide +kernel
theorem dX2_dropUnreached_51 : decode cX2_dropUnreached 51 = .ok (.iconst 0, 1) := by decide +kernel
theorem dX2_dropUnreached_52 : decode cX2_dropUnreached 52 = .ok (.istore 4, 2) := by decide +kernel
theorem dX2_dropUnreached_54 : decode cX2_dropUnreached 54 = .ok (.iload 4, 2) := by decide +kernel
theorem dX2_dropUnreached_56 : decode cX2_dropUnreached 56 = .ok (.aload_n 0, 1) := by decide +kernel
theorem dX2_dropUnreached_57 : decode cX2_dropUnreached 57 = .ok (.getfield 47, 3) := by decide +kernel
theorem dX2_dropUnreached_60 : decode cX2_dropUnreached 60 = .ok (.if_icmp .ge 80, 3) := by decide +kernel
theorem dX2_dropUnreached_63 : decode cX2_dropUnreached 63 = .ok (.aload_n 0, 1) := by decide +kernel
theorem dX2_dropUnreached_64 : decode cX2_dropUnreached 64 = .ok (.getfield 15, 3) := by decide +kernel
theorem dX2_dropUnreached_67 : decode cX2_dropUnreached 67 = .ok (.iload 4, 2) := by decide +kernel
theorem dX2_dropUnreached_69 : decode cX2_dropUnreached 69 = .ok (.iaload, 1) := by decide +kernel
theorem dX2_dropUnreached_70 : decode cX2_dropUnreached 70 = .ok (.iconst (-1), 1) := by decide +kernel
theorem dX2_dropUnreached_71 : decode cX2_dropUnreached 71 = .ok (.if_icmp .ne 6, 3) := by decide +kernel
theorem dX2_dropUnreached_74 : decode cX2_dropUnreached 74 = .ok (.goto 60, 3) := by decide +kernel
theorem dX2_dropUnreached_77 : decode cX2_dropUnreached 77 = .ok (.aload_n 0, 1) := by decide +kernel
theorem dX2_dropUnreached_78 : decode cX2_dropUnreached 78 = .ok (.iload 4, 2) := by decide +kernel
theorem dX2_dropUnreached_80 : decode cX2_dropUnreached 80 = .ok (.invokevirtual 59, 3) := by decide +kernel
theorem dX2_dropUnreached_83 : decode cX2_dropUnreached 83 = .ok (.istore 5, 2) := by decide +kernel
theorem dX2_dropUnreached_85 : decode cX2_dropUnreached 85 = .ok (.aload_n 0, 1) := by decide +kernel
theorem dX2_dropUnreached_86 : decode cX2_dropUnreached 86 = .ok (.getfield 44, 3) := by decide +kernel
theorem dX2_dropUnreached_89 : decode cX2_dropUnreached 89 = .ok (.iload 4, 2) := by decide +kernel
theorem dX2_dropUnreached_91 : decode cX2_dropUnreached 91 = .ok (.iaload, 1) := by decide +kernel
theorem dX2_dropUnreached_92 : decode cX2_dropUnreached 92 = .ok (.iconst (-1), 1) := by decide +kernel
theorem dX2_dropUnreached_93 : decode cX2_dropUnreached 93 = .ok (.if_icmp .ne 14, 3) := by decide +kernel
theorem dX2_dropUnreached_96 : decode cX2_dropUnreached 96 = .ok (.aload_n 0, 1) := by decide +kernel
theorem dX2_dropUnreached_97 : decode cX2_dropUnreached 97 = .ok (.getfield 15, 3) := by decide +kernel
theorem dX2_dropUnreached_100 : decode cX2_dropUnreached 100 = .ok (.iload 4, 2) := by decide +kernel
theorem dX2_dropUnreached_102 : decode cX2_dropUnreached 102 = .ok (.iconst (-1), 1) := by decide +kernel
theorem dX2_dropUnreached_103 : decode cX2_dropUnreached 103 = .ok (.iastore, 1) := by decide +kernel
theorem dX2_dropUnreached_104 : decode cX2_dropUnreached 104 = .ok (.goto 30, 3) := by decide +kernel
theorem dX2_dropUnreached_107 : decode cX2_dropUnreached 107 = .ok (.aload_n 0, 1) := by decide +kernel
theorem dX2_dropUnreached_108 : decode cX2_dropUnreached 108 = .ok (.aload_n 0, 1) := by decide +kernel
theorem dX2_dropUnreached_109 : decode cX2_dropUnreached 109 = .ok (.getfield 22, 3) := by decide +kernel
theorem dX2_dropUnreached_112 : decode cX2_dropUnreached 112 = .ok (.iload 4, 2) := by decide +kernel
theorem dX2_dropUnreached_114 : decode cX2_dropUnreached 114 = .ok (.iaload, 1) := by decide +kernel
theorem dX2_dropUnreached_115 : decode cX2_dropUnreached 115 = .ok (.iload_n 3, 1) := by decide +kernel
theorem dX2_dropUnreached_116 : decode cX2_dropUnreached 116 = .ok (.iload 5, 2) := by decide +kernel
theorem dX2_dropUnreached_118 : decode cX2_dropUnreached 118 = .ok (.invokevirtual 128, 3) := by decide +kernel
theorem dX2_dropUnreached_121 : decode cX2_dropUnreached 121 = .ok (.aload_n 0, 1) := by decide +kernel
theorem dX2_dropUnreached_122 : decode cX2_dropUnreached 122 = .ok (.getfield 22, 3) := by decide +kernel
theorem dX2_dropUnreached_125 : decode cX2_dropUnreached 125 = .ok (.iload 4, 2) := by decide +kernel
theorem dX2_dropUnreached_127 : decode cX2_dropUnreached 127 = .ok (.iload_n 3, 1) := by decide +kernel
theorem dX2_dropUnreached_128 : decode cX2_dropUnreached 128 = .ok (.iastore, 1) := by decide +kernel
theorem dX2_dropUnreached_129 : decode cX2_dropUnreached 129 = .ok (.iload_n 3, 1) := by decide +kernel
theorem dX2_dropUnreached_130 : decode cX2_dropUnreached 130 = .ok (.iload 5, 2) := by decide +kernel
theorem dX2_dropUnreached_132 : decode cX2_dropUnreached 132 = .ok (.iadd, 1) := by decide +kernel
theorem dX2_dropUnreached_133 : decode cX2_dropUnreached 133 = .ok (.istore_n 3, 1) := by decide +kernel
theorem dX2_dropUnreached_134 : decode cX2_dropUnreached 134 = .ok (.iinc 4 1, 3) := by decide +kernel
theorem dX2_dropUnreached_137 : decode cX2_dropUnreached 137 = .ok (.goto (-83), 3) := by decide +kernel
theorem dX2_dropUnreached_140 : decode cX2_dropUnreached 140 = .ok (.aload_n 0, 1) := by decide +kernel
theorem dX2_dropUnreached_141 : decode cX2_dropUnreached 141 = .ok (.iload_n 3, 1) := by decide +kernel
theorem dX2_dropUnreached_142 : decode cX2_dropUnreached 142 = .ok (.putfield 62, 3) := by decide +kernel
theorem dX2_dropUnreached_145 : decode cX2_dropUnreached 145 = .ok (.aload_n 0, 1) := by decide +kernel
theorem dX2_dropUnreached_146 : decode cX2_dropUnreached 146 = .ok (.iload_n 1, 1) := by decide +kernel
theorem dX2_dropUnreached_147 : decode cX2_dropUnreached 147 = .ok (.putfield 75, 3) := by decide +kernel
theorem dX2_dropUnreached_150 : decode cX2_dropUnreached 150 = .ok (.iload_n 2, 1) := by decide +kernel
theorem dX2_dropUnreached_151 : decode cX2_dropUnreached 151 = .ok (.ireturn, 1) := by decide +kernel
theorem dX2_duplicate_0 : decode cX2_duplicate 0 = .ok (.aload_n 0, 1) := by decide +kernel
theorem dX2_duplicate_1 : decode cX2_duplicate 1 = .ok (.iload_n 1, 1) := by decide +kernel
theorem dX2_duplicate_2 : decode cX2_duplicate 2 = .ok (.iload_n 2, 1) := by decide +kernel
theorem dX2_duplicate_3 : decode cX2_duplicate 3 = .ok (.invokevirtual 132, 3) := by decide +kernel
theorem dX2_duplicate_6 : decode cX2_duplicate 6 = .ok (.istore_n 3, 1) := by decide +kernel
theorem dX2_duplicate_7 : decode cX2_duplicate 7 = .ok (.iconst 0, 1) := by decide +kernel
theorem dX2_duplicate_8 : decode cX2_duplicate 8 = .ok (.istore 4, 2) := by decide +kernel
theorem dX2_duplicate_10 : decode cX2_duplicate 10 = .ok (.iconst 0, 1) := by decide +kernel
theorem dX2_duplicate_11 : decode cX2_duplicate 11 = .ok (.istore 5, 2) := by decide +kernel
theorem dX2_duplicate_13 : decode cX2_duplicate 13 = .ok (.iload 5, 2) := by decide +kernel
theorem dX2_duplicate_15 : decode cX2_duplicate 15 = .ok (.iload_n 3, 1) := by decide +kernel
theorem dX2_duplicate_16 : decode cX2_duplicate 16 = .ok (.if_icmp .ge 25, 3) := by decide +kernel
theorem dX2_duplicate_19 : decode cX2_duplicate 19 = .ok (.iload 4, 2) := by decide +kernel
theorem dX2_duplicate_21 : decode cX2_duplicate 21 = .ok (.aload_n 0, 1) := by decide +kernel
theorem dX2_duplicate_22 : decode cX2_duplicate 22 = .ok (.aload_n 0, 1) := by decide +kernel
theorem dX2_duplicate_23 : decode cX2_duplicate 23 = .ok (.getfield 41, 3) := by decide +kernel
theorem dX2_duplicate_26 : decode cX2_duplicate 26 = .ok (.iload 5, 2) := by decide +kernel
theorem dX2_duplicate_28 : decode cX2_duplicate 28 = .ok (.iaload, 1) := by decide +kernel
theorem dX2_duplicate_29 : decode cX2_duplicate 29 = .ok (.invokevirtual 59, 3) := by decide +kernel
theorem dX2_duplicate_32 : decode cX2_duplicate 32 = .ok (.iadd, 1) := by decide +kernel
theorem dX2_duplicate_33 : decode cX2_duplicate 33 = .ok (.istore 4, 2) := by decide +kernel
theorem dX2_duplicate_35 : decode cX2_duplicate 35 = .ok (.iinc 5 1, 3) := by decide +kernel
theorem dX2_duplicate_38 : decode cX2_duplicate 38 = .ok (.goto (-25), 3) := by decide +kernel
theorem dX2_duplicate_41 : decode cX2_duplicate 41 = .ok (.aload_n 0, 1) := by decide +kernel
theorem dX2_duplicate_42 : decode cX2_duplicate 42 = .ok (.iload_n 3, 1) := by decide +kernel
theorem dX2_duplicate_43 : decode cX2_duplicate 43 = .ok (.iload 4, 2) := by decide +kernel
theorem dX2_duplicate_45 : decode cX2_duplicate 45 = .ok (.invokevirtual 135, 3) := by decide +kernel
theorem dX2_duplicate_48 : decode cX2_duplicate 48 = .ok (.ifCond .ne 5, 3) := by decide +kernel
theorem dX2_duplicate_51 : decode cX2_duplicate 51 = .ok (.iconst (-1), 1) := by decide +kernel
theorem dX2_duplicate_52 : decode cX2_duplicate 52 = .ok (.ireturn, 1) := by decide +kernel
theorem dX2_duplicate_53 : decode cX2_duplicate 53 = .ok (.aload_n 0, 1) := by decide +kernel
theorem dX2_duplicate_54 : decode cX2_duplicate 54 = .ok (.getfield 47, 3) := by decide +kernel
theorem dX2_duplicate_57 : decode cX2_duplicate 57 = .ok (.istore 5, 2) := by decide +kernel
theorem dX2_duplicate_59 : decode cX2_duplicate 59 = .ok (.iconst 0, 1) := by decide +kernel
theorem dX2_duplicate_60 : decode cX2_duplicate 60 = .ok (.istore 6, 2) := by decide +kernel
theorem dX2_duplicate_62 : decode cX2_duplicate 62 = .ok (.iload 6, 2) := by decide +kernel
theorem dX2_duplicate_64 : decode cX2_duplicate 64 = .ok (.iload_n 3, 1) := by decide +kernel
theorem dX2_duplicate_65 : decode cX2_duplicate 65 = .ok (.if_icmp .ge 38, 3) := by decide +kernel
theorem dX2_duplicate_68 : decode cX2_duplicate 68 = .ok (.aload_n 0, 1) := by decide +kernel
theorem dX2_duplicate_69 : decode cX2_duplicate 69 = .ok (.aload_n 0, 1) := by decide +kernel
theorem dX2_duplicate_70 : decode cX2_duplicate 70 = .ok (.getfield 15, 3) := by decide +kernel
theorem dX2_duplicate_73 : decode cX2_duplicate 73 = .ok (.aload_n 0, 1) := by decide +kernel
theorem dX2_duplicate_74 : decode cX2_duplicate 74 = .ok (.getfield 41, 3) := by decide +kernel
theorem dX2_duplicate_77 : decode cX2_duplicate 77 = .ok (.iload 6, 2) := by decide +kernel
theorem dX2_duplicate_79 : decode cX2_duplicate 79 = .ok (.iaload, 1) := by decide +kernel
theorem dX2_duplicate_80 : decode cX2_duplicate 80 = .ok (.iaload, 1) := by decide +kernel
theorem dX2_duplicate_81 : decode cX2_duplicate 81 = .ok (.aload_n 0, 1) := by decide +kernel
theorem dX2_duplicate_82 : decode cX2_duplicate 82 = .ok (.getfield 19, 3) := by decide +kernel
theorem dX2_duplicate_85 : decode cX2_duplicate 85 = .ok (.aload_n 0, 1) := by decide +kernel
theorem dX2_duplicate_86 : decode cX2_duplicate 86 = .ok (.getfield 41, 3) := by decide +kernel
theorem dX2_duplicate_89 : decode cX2_duplicate 89 = .ok (.iload 6, 2) := by decide +kernel
theorem dX2_duplicate_91 : decode cX2_duplicate 91 = .ok (.iaload, 1) := by decide +kernel
theorem dX2_duplicate_92 : decode cX2_duplicate 92 = .ok (.iaload, 1) := by decide +kernel
theorem dX2_duplicate_93 : decode cX2_duplicate 93 = .ok (.invokevirtual 138, 3) := by decide +kernel
theorem dX2_duplicate_96 : decode cX2_duplicate 96 = .ok (.pop, 1) := by decide +kernel
theorem dX2_duplicate_97 : decode cX2_duplicate 97 = .ok (.iinc 6 1, 3) := by decide +kernel
theorem dX2_duplicate_100 : decode cX2_duplicate 100 = .ok (.goto (-38), 3) := by decide +kernel
theorem dX2_duplicate_103 : decode cX2_duplicate 103 = .ok (.iconst 0, 1) := by decide +kernel
theorem dX2_duplicate_104 : decode cX2_duplicate 104 = .ok (.istore 6, 2) := by decide +kernel
theorem dX2_duplicate_106 : decode cX2_duplicate 106 = .ok (.iload 6, 2) := by decide +kernel
theorem dX2_duplicate_108 : decode cX2_duplicate 108 = .ok (.iload_n 3, 1) := by decide +kernel
theorem dX2_duplicate_109 : decode cX2_duplicate 109 = .ok (.if_icmp .ge 27, 3) := by decide +kernel
theorem dX2_duplicate_112 : decode cX2_duplicate 112 = .ok (.aload_n 0, 1) := by decide +kernel
theorem dX2_duplicate_113 : decode cX2_duplicate 113 = .ok (.aload_n 0, 1) := by decide +kernel
theorem dX2_duplicate_114 : decode cX2_duplicate 114 = .ok (.getfield 41, 3) := by decide +kernel
theorem dX2_duplicate_117 : decode cX2_duplicate 117 = .ok (.iload 6, 2) := by decide +kernel
theorem dX2_duplicate_119 : decode cX2_duplicate 119 = .ok (.iaload, 1) := by decide +kernel
theorem dX2_duplicate_120 : decode cX2_duplicate 120 = .ok (.iload 5, 2) := by decide +kernel
theorem dX2_duplicate_122 : decode cX2_duplicate 122 = .ok (.iload 6, 2) := by decide +kernel
theorem dX2_duplicate_124 : decode cX2_duplicate 124 = .ok (.iadd, 1) := by decide +kernel
theorem dX2_duplicate_125 : decode cX2_duplicate 125 = .ok (.iload 5, 2) := by decide +kernel
theorem dX2_duplicate_127 : decode cX2_duplicate 127 = .ok (.invokevirtual 141, 3) := by decide +kernel
theorem dX2_duplicate_130 : decode cX2_duplicate 130 = .ok (.iinc 6 1, 3) := by decide +kernel
theorem dX2_duplicate_133 : decode cX2_duplicate 133 = .ok (.goto (-27), 3) := by decide +kernel
theorem dX2_duplicate_136 : decode cX2_duplicate 136 = .ok (.iload 5, 2) := by decide +kernel
theorem dX2_duplicate_138 : decode cX2_duplicate 138 = .ok (.ireturn, 1) := by decide +kernel
theorem dX2_fitsSwapped_0 : decode cX2_fitsSwapped 0 = .ok (.lload_n 1, 1) := by decide +kernel
theorem dX2_fitsSwapped_1 : decode cX2_fitsSwapped 1 = .ok (.iload 4, 2) := by decide +kernel
theorem dX2_fitsSwapped_3 : decode cX2_fitsSwapped 3 = .ok (.i2l, 1) := by decide +kernel
theorem dX2_fitsSwapped_4 : decode cX2_fitsSwapped 4 = .ok (.lcmp, 1) := by decide +kernel
theorem dX2_fitsSwapped_5 : decode cX2_fitsSwapped 5 = .ok (.ifCond .ne 19, 3) := by decide +kernel
theorem dX2_fitsSwapped_8 : decode cX2_fitsSwapped 8 = .ok (.aload_n 0, 1) := by decide +kernel
theorem dX2_fitsSwapped_9 : decode cX2_fitsSwapped 9 = .ok (.getfield 9, 3) := by decide +kernel
theorem dX2_fitsSwapped_12 : decode cX2_fitsSwapped 12 = .ok (.aload_n 0, 1) := by decide +kernel
theorem dX2_fitsSwapped_13 : decode cX2_fitsSwapped 13 = .ok (.getfield 15, 3) := by decide +kernel
theorem dX2_fitsSwapped_16 : decode cX2_fitsSwapped 16 = .ok (.iload 5, 2) := by decide +kernel
theorem dX2_fitsSwapped_18 : decode cX2_fitsSwapped 18 = .ok (.iaload, 1) := by decide +kernel
theorem dX2_fitsSwapped_19 : decode cX2_fitsSwapped 19 = .ok (.iload_n 3, 1) := by decide +kernel
theorem dX2_fitsSwapped_20 : decode cX2_fitsSwapped 20 = .ok (.invokevirtual 71, 3) := by decide +kernel
theorem dX2_fitsSwapped_23 : decode cX2_fitsSwapped 23 = .ok (.ireturn, 1) := by decide +kernel
theorem dX2_fitsSwapped_24 : decode cX2_fitsSwapped 24 = .ok (.lload_n 1, 1) := by decide +kernel
theorem dX2_fitsSwapped_25 : decode cX2_fitsSwapped 25 = .ok (.iload 5, 2) := by decide +kernel
theorem dX2_fitsSwapped_27 : decode cX2_fitsSwapped 27 = .ok (.i2l, 1) := by decide +kernel
theorem dX2_fitsSwapped_28 : decode cX2_fitsSwapped 28 = .ok (.lcmp, 1) := by decide +kernel
theorem dX2_fitsSwapped_29 : decode cX2_fitsSwapped 29 = .ok (.ifCond .ne 21, 3) := by decide +kernel
theorem dX2_fitsSwapped_32 : decode cX2_fitsSwapped 32 = .ok (.aload_n 0, 1) := by decide +kernel
theorem dX2_fitsSwapped_33 : decode cX2_fitsSwapped 33 = .ok (.getfield 9, 3) := by decide +kernel
theorem dX2_fitsSwapped_36 : decode cX2_fitsSwapped 36 = .ok (.aload_n 0, 1) := by decide +kernel
theorem dX2_fitsSwapped_37 : decode cX2_fitsSwapped 37 = .ok (.getfield 15, 3) := by decide +kernel
theorem dX2_fitsSwapped_40 : decode cX2_fitsSwapped 40 = .ok (.iload 4, 2) := by decide +kernel
theorem dX2_fitsSwapped_42 : decode cX2_fitsSwapped 42 = .ok (.iaload, 1) := by decide +kernel
theorem dX2_fitsSwapped_43 : decode cX2_fitsSwapped 43 = .ok (.iload_n 3, 1) := by decide +kernel
theorem dX2_fitsSwapped_44 : decode cX2_fitsSwapped 44 = .ok (.invokevirtual 71, 3) := by decide +kernel
theorem dX2_fitsSwapped_47 : decode cX2_fitsSwapped 47 = .ok (.ifCond .eq 7, 3) := by decide +kernel
theorem dX2_fitsSwapped_50 : decode cX2_fitsSwapped 50 = .ok (.iconst 1, 1) := by decide +kernel
theorem dX2_fitsSwapped_51 : decode cX2_fitsSwapped 51 = .ok (.goto 4, 3) := by decide +kernel
theorem dX2_fitsSwapped_54 : decode cX2_fitsSwapped 54 = .ok (.iconst 0, 1) := by decide +kernel
theorem dX2_fitsSwapped_55 : decode cX2_fitsSwapped 55 = .ok (.ireturn, 1) := by decide +kernel
theorem dX2_hasRoom_0 : decode cX2_hasRoom 0 = .ok (.aload_n 0, 1) := by decide +kernel
theorem dX2_hasRoom_1 : decode cX2_hasRoom 1 = .ok (.getfield 47, 3) := by decide +kernel
theorem dX2_hasRoom_4 : decode cX2_hasRoom 4 = .ok (.iload_n 1, 1) := by decide +kernel
theorem dX2_hasRoom_5 : decode cX2_hasRoom 5 = .ok (.iadd, 1) := by decide +kernel
theorem dX2_hasRoom_6 : decode cX2_hasRoom 6 = .ok (.sipush 400, 3) := by decide +kernel
theorem dX2_hasRoom_9 : decode cX2_hasRoom 9 = .ok (.if_icmp .gt 19, 3) := by decide +kernel
theorem dX2_hasRoom_12 : decode cX2_hasRoom 12 = .ok (.aload_n 0, 1) := by decide +kernel
theorem dX2_hasRoom_13 : decode cX2_hasRoom 13 = .ok (.getfield 62, 3) := by decide +kernel
theorem dX2_hasRoom_16 : decode cX2_hasRoom 16 = .ok (.iload_n 2, 1) := by decide +kernel
theorem dX2_hasRoom_17 : decode cX2_hasRoom 17 = .ok (.iadd, 1) := by decide +kernel
theorem dX2_hasRoom_18 : decode cX2_hasRoom 18 = .ok (.sipush 4000, 3) := by decide +kernel
theorem dX2_hasRoom_21 : decode cX2_hasRoom 21 = .ok (.if_icmp .gt 7, 3) := by decide +kernel
theorem dX2_hasRoom_24 : decode cX2_hasRoom 24 = .ok (.iconst 1, 1) := by decide +kernel
theorem dX2_hasRoom_25 : decode cX2_hasRoom 25 = .ok (.goto 4, 3) := by decide +kernel
theorem dX2_hasRoom_28 : decode cX2_hasRoom 28 = .ok (.iconst 0, 1) := by decide +kernel
theorem dX2_hasRoom_29 : decode cX2_hasRoom 29 = .ok (.ireturn, 1) := by decide +kernel
theorem dX2_hasSlot_0 : decode cX2_hasSlot 0 = .ok (.aload_n 0, 1) := by decide +kernel
theorem dX2_hasSlot_1 : decode cX2_hasSlot 1 = .ok (.iload_n 1, 1) := by decide +kernel
theorem dX2_hasSlot_2 : decode cX2_hasSlot 2 = .ok (.invokevirtual 55, 3) := by decide +kernel
theorem dX2_hasSlot_5 : decode cX2_hasSlot 5 = .ok (.ifCond .eq 20, 3) := by decide +kernel
theorem dX2_hasSlot_8 : decode cX2_hasSlot 8 = .ok (.iload_n 2, 1) := by decide +kernel
theorem dX2_hasSlot_9 : decode cX2_hasSlot 9 = .ok (.ifCond .lt 16, 3) := by decide +kernel
theorem dX2_hasSlot_12 : decode cX2_hasSlot 12 = .ok (.iload_n 2, 1) := by decide +kernel
theorem dX2_hasSlot_13 : decode cX2_hasSlot 13 = .ok (.aload_n 0, 1) := by decide +kernel
theorem dX2_hasSlot_14 : decode cX2_hasSlot 14 = .ok (.iload_n 1, 1) := by decide +kernel
theorem dX2_hasSlot_15 : decode cX2_hasSlot 15 = .ok (.invokevirtual 59, 3) := by decide +kernel
theorem dX2_hasSlot_18 : decode cX2_hasSlot 18 = .ok (.if_icmp .ge 7, 3) := by decide +kernel
theorem dX2_hasSlot_21 : decode cX2_hasSlot 21 = .ok (.iconst 1, 1) := by decide +kernel
theorem dX2_hasSlot_22 : decode cX2_hasSlot 22 = .ok (.goto 4, 3) := by decide +kernel
theorem dX2_hasSlot_25 : decode cX2_hasSlot 25 = .ok (.iconst 0, 1) := by decide +kernel
theorem dX2_hasSlot_26 : decode cX2_hasSlot 26 = .ok (.ireturn, 1) := by decide +kernel
theorem dX2_isThere_0 : decode cX2_isThere 0 = .ok (.iload_n 1, 1) := by decide +kernel
theorem dX2_isThere_1 : decode cX2_isThere 1 = .ok (.ifCond .lt 25, 3) := by decide +kernel
theorem dX2_isThere_4 : decode cX2_isThere 4 = .ok (.iload_n 1, 1) := by decide +kernel
theorem dX2_isThere_5 : decode cX2_isThere 5 = .ok (.aload_n 0, 1) := by decide +kernel
theorem dX2_isThere_6 : decode cX2_isThere 6 = .ok (.getfield 47, 3) := by decide +kernel
theorem dX2_isThere_9 : decode cX2_isThere 9 = .ok (.if_icmp .ge 17, 3) := by decide +kernel
theorem dX2_isThere_12 : decode cX2_isThere 12 = .ok (.aload_n 0, 1) := by decide +kernel
theorem dX2_isThere_13 : decode cX2_isThere 13 = .ok (.getfield 15, 3) := by decide +kernel
theorem dX2_isThere_16 : decode cX2_isThere 16 = .ok (.iload_n 1, 1) := by decide +kernel
theorem dX2_isThere_17 : decode cX2_isThere 17 = .ok (.iaload, 1) := by decide +kernel
theorem dX2_isThere_18 : decode cX2_isThere 18 = .ok (.iconst (-1), 1) := by decide +kernel
theorem dX2_isThere_19 : decode cX2_isThere 19 = .ok (.if_icmp .eq 7, 3) := by decide +kernel
theorem dX2_isThere_22 : decode cX2_isThere 22 = .ok (.iconst 1, 1) := by decide +kernel
theorem dX2_isThere_23 : decode cX2_isThere 23 = .ok (.goto 4, 3) := by decide +kernel
theorem dX2_isThere_26 : decode cX2_isThere 26 = .ok (.iconst 0, 1) := by decide +kernel
theorem dX2_isThere_27 : decode cX2_isThere 27 = .ok (.ireturn, 1) := by decide +kernel
theorem dX2_isValue_0 : decode cX2_isValue 0 = .ok (.iload_n 1, 1) := by decide +kernel
theorem dX2_isValue_1 : decode cX2_isValue 1 = .ok (.iconst 5, 1) := by decide +kernel
theorem dX2_isValue_2 : decode cX2_isValue 2 = .ok (.if_icmp .eq 9, 3) := by decide +kernel
theorem dX2_isValue_5 : decode cX2_isValue 5 = .ok (.iload_n 1, 1) := by decide +kernel
theorem dX2_isValue_6 : decode cX2_isValue 6 = .ok (.lload_n 3, 1) := by decide +kernel
theorem dX2_isValue_7 : decode cX2_isValue 7 = .ok (.invokestatic 65, 3) := by decide +kernel
theorem dX2_isValue_10 : decode cX2_isValue 10 = .ok (.ireturn, 1) := by decide +kernel
theorem dX2_isValue_11 : decode cX2_isValue 11 = .ok (.lload_n 3, 1) := by decide +kernel
theorem dX2_isValue_12 : decode cX2_isValue 12 = .ok (.ldc2_w 69, 3) := by decide +kernel
theorem dX2_isValue_15 : decode cX2_isValue 15 = .ok (.lcmp, 1) := by decide +kernel
theorem dX2_isValue_16 : decode cX2_isValue 16 = .ok (.ifCond .ne 5, 3) := by decide +kernel
theorem dX2_isValue_19 : decode cX2_isValue 19 = .ok (.iconst 1, 1) := by decide +kernel
theorem dX2_isValue_20 : decode cX2_isValue 20 = .ok (.ireturn, 1) := by decide +kernel
theorem dX2_isValue_21 : decode cX2_isValue 21 = .ok (.lload_n 3, 1) := by decide +kernel
theorem dX2_isValue_22 : decode cX2_isValue 22 = .ok (.lconst 0, 1) := by decide +kernel
theorem dX2_isValue_23 : decode cX2_isValue 23 = .ok (.lcmp, 1) := by decide +kernel
theorem dX2_isValue_24 : decode cX2_isValue 24 = .ok (.ifCond .lt 44, 3) := by decide +kernel
theorem dX2_isValue_27 : decode cX2_isValue 27 = .ok (.lload_n 3, 1) := by decide +kernel
theorem dX2_isValue_28 : decode cX2_isValue 28 = .ok (.aload_n 0, 1) := by decide +kernel
theorem dX2_isValue_29 : decode cX2_isValue 29 = .ok (.getfield 47, 3) := by decide +kernel
theorem dX2_isValue_32 : decode cX2_isValue 32 = .ok (.i2l, 1) := by decide +kernel
theorem dX2_isValue_33 : decode cX2_isValue 33 = .ok (.lcmp, 1) := by decide +kernel
theorem dX2_isValue_34 : decode cX2_isValue 34 = .ok (.ifCond .ge 34, 3) := by decide +kernel
theorem dX2_isValue_37 : decode cX2_isValue 37 = .ok (.aload_n 0, 1) := by decide +kernel
theorem dX2_isValue_38 : decode cX2_isValue 38 = .ok (.lload_n 3, 1) := by decide +kernel
theorem dX2_isValue_39 : decode cX2_isValue 39 = .ok (.l2i, 1) := by decide +kernel
theorem dX2_isValue_40 : decode cX2_isValue 40 = .ok (.invokevirtual 55, 3) := by decide +kernel
theorem dX2_isValue_43 : decode cX2_isValue 43 = .ok (.ifCond .eq 25, 3) := by decide +kernel
theorem dX2_isValue_46 : decode cX2_isValue 46 = .ok (.aload_n 0, 1) := by decide +kernel
theorem dX2_isValue_47 : decode cX2_isValue 47 = .ok (.getfield 9, 3) := by decide +kernel
theorem dX2_isValue_50 : decode cX2_isValue 50 = .ok (.aload_n 0, 1) := by decide +kernel
theorem dX2_isValue_51 : decode cX2_isValue 51 = .ok (.getfield 15, 3) := by decide +kernel
theorem dX2_isValue_54 : decode cX2_isValue 54 = .ok (.lload_n 3, 1) := by decide +kernel
theorem dX2_isValue_55 : decode cX2_isValue 55 = .ok (.l2i, 1) := by decide +kernel
theorem dX2_isValue_56 : decode cX2_isValue 56 = .ok (.iaload, 1) := by decide +kernel
theorem dX2_isValue_57 : decode cX2_isValue 57 = .ok (.iload_n 2, 1) := by decide +kernel
theorem dX2_isValue_58 : decode cX2_isValue 58 = .ok (.invokevirtual 71, 3) := by decide +kernel
theorem dX2_isValue_61 : decode cX2_isValue 61 = .ok (.ifCond .eq 7, 3) := by decide +kernel
theorem dX2_isValue_64 : decode cX2_isValue 64 = .ok (.iconst 1, 1) := by decide +kernel
theorem dX2_isValue_65 : decode cX2_isValue 65 = .ok (.goto 4, 3) := by decide +kernel
theorem dX2_isValue_68 : decode cX2_isValue 68 = .ok (.iconst 0, 1) := by decide +kernel
theorem dX2_isValue_69 : decode cX2_isValue 69 = .ok (.ireturn, 1) := by decide +kernel
theorem dX2_meet_0 : decode cX2_meet 0 = .ok (.lload_n 1, 1) := by decide +kernel
theorem dX2_meet_1 : decode cX2_meet 1 = .ok (.lconst 0, 1) := by decide +kernel
theorem dX2_meet_2 : decode cX2_meet 2 = .ok (.lcmp, 1) := by decide +kernel
theorem dX2_meet_3 : decode cX2_meet 3 = .ok (.ifCond .lt 24, 3) := by decide +kernel
theorem dX2_meet_6 : decode cX2_meet 6 = .ok (.lload_n 1, 1) := by decide +kernel
theorem dX2_meet_7 : decode cX2_meet 7 = .ok (.aload_n 0, 1) := by decide +kernel
theorem dX2_meet_8 : decode cX2_meet 8 = .ok (.getfield 47, 3) := by decide +kernel
theorem dX2_meet_11 : decode cX2_meet 11 = .ok (.i2l, 1) := by decide +kernel
theorem dX2_meet_12 : decode cX2_meet 12 = .ok (.lcmp, 1) := by decide +kernel
theorem dX2_meet_13 : decode cX2_meet 13 = .ok (.ifCond .ge 14, 3) := by decide +kernel
theorem dX2_meet_16 : decode cX2_meet 16 = .ok (.aload_n 0, 1) := by decide +kernel
theorem dX2_meet_17 : decode cX2_meet 17 = .ok (.getfield 44, 3) := by decide +kernel
theorem dX2_meet_20 : decode cX2_meet 20 = .ok (.lload_n 1, 1) := by decide +kernel
theorem dX2_meet_21 : decode cX2_meet 21 = .ok (.l2i, 1) := by decide +kernel
theorem dX2_meet_22 : decode cX2_meet 22 = .ok (.iaload, 1) := by decide +kernel
theorem dX2_meet_23 : decode cX2_meet 23 = .ok (.iconst (-1), 1) := by decide +kernel
theorem dX2_meet_24 : decode cX2_meet 24 = .ok (.if_icmp .eq 5, 3) := by decide +kernel
theorem dX2_meet_27 : decode cX2_meet 27 = .ok (.iload_n 3, 1) := by decide +kernel
theorem dX2_meet_28 : decode cX2_meet 28 = .ok (.ireturn, 1) := by decide +kernel
theorem dX2_meet_29 : decode cX2_meet 29 = .ok (.aload_n 0, 1) := by decide +kernel
theorem dX2_meet_30 : decode cX2_meet 30 = .ok (.getfield 44, 3) := by decide +kernel
theorem dX2_meet_33 : decode cX2_meet 33 = .ok (.lload_n 1, 1) := by decide +kernel
theorem dX2_meet_34 : decode cX2_meet 34 = .ok (.l2i, 1) := by decide +kernel
theorem dX2_meet_35 : decode cX2_meet 35 = .ok (.iload_n 3, 1) := by decide +kernel
theorem dX2_meet_36 : decode cX2_meet 36 = .ok (.iastore, 1) := by decide +kernel
theorem dX2_meet_37 : decode cX2_meet 37 = .ok (.aload_n 0, 1) := by decide +kernel
theorem dX2_meet_38 : decode cX2_meet 38 = .ok (.getfield 41, 3) := by decide +kernel
theorem dX2_meet_41 : decode cX2_meet 41 = .ok (.iload_n 3, 1) := by decide +kernel
theorem dX2_meet_42 : decode cX2_meet 42 = .ok (.lload_n 1, 1) := by decide +kernel
theorem dX2_meet_43 : decode cX2_meet 43 = .ok (.l2i, 1) := by decide +kernel
theorem dX2_meet_44 : decode cX2_meet 44 = .ok (.iastore, 1) := by decide +kernel
theorem dX2_meet_45 : decode cX2_meet 45 = .ok (.iload_n 3, 1) := by decide +kernel
theorem dX2_meet_46 : decode cX2_meet 46 = .ok (.iconst 1, 1) := by decide +kernel
theorem dX2_meet_47 : decode cX2_meet 47 = .ok (.iadd, 1) := by decide +kernel
theorem dX2_meet_48 : decode cX2_meet 48 = .ok (.ireturn, 1) := by decide +kernel
theorem dX2_meetLinks_0 : decode cX2_meetLinks 0 = .ok (.iload_n 2, 1) := by decide +kernel
theorem dX2_meetLinks_1 : decode cX2_meetLinks 1 = .ok (.istore_n 3, 1) := by decide +kernel
theorem dX2_meetLinks_2 : decode cX2_meetLinks 2 = .ok (.aload_n 0, 1) := by decide +kernel
theorem dX2_meetLinks_3 : decode cX2_meetLinks 3 = .ok (.getfield 22, 3) := by decide +kernel
theorem dX2_meetLinks_6 : decode cX2_meetLinks 6 = .ok (.iload_n 1, 1) := by decide +kernel
theorem dX2_meetLinks_7 : decode cX2_meetLinks 7 = .ok (.iaload, 1) := by decide +kernel
theorem dX2_meetLinks_8 : decode cX2_meetLinks 8 = .ok (.aload_n 0, 1) := by decide +kernel
theorem dX2_meetLinks_9 : decode cX2_meetLinks 9 = .ok (.iload_n 1, 1) := by decide +kernel
theorem dX2_meetLinks_10 : decode cX2_meetLinks 10 = .ok (.invokevirtual 59, 3) := by decide +kernel
theorem dX2_meetLinks_13 : decode cX2_meetLinks 13 = .ok (.iadd, 1) := by decide +kernel
theorem dX2_meetLinks_14 : decode cX2_meetLinks 14 = .ok (.istore 4, 2) := by decide +kernel
theorem dX2_meetLinks_16 : decode cX2_meetLinks 16 = .ok (.aload_n 0, 1) := by decide +kernel
theorem dX2_meetLinks_17 : decode cX2_meetLinks 17 = .ok (.getfield 22, 3) := by decide +kernel
theorem dX2_meetLinks_20 : decode cX2_meetLinks 20 = .ok (.iload_n 1, 1) := by decide +kernel
theorem dX2_meetLinks_21 : decode cX2_meetLinks 21 = .ok (.iaload, 1) := by decide +kernel
theorem dX2_meetLinks_22 : decode cX2_meetLinks 22 = .ok (.istore 5, 2) := by decide +kernel
theorem dX2_meetLinks_24 : decode cX2_meetLinks 24 = .ok (.iload 5, 2) := by decide +kernel
theorem dX2_meetLinks_26 : decode cX2_meetLinks 26 = .ok (.iload 4, 2) := by decide +kernel
theorem dX2_meetLinks_28 : decode cX2_meetLinks 28 = .ok (.if_icmp .ge 32, 3) := by decide +kernel
theorem dX2_meetLinks_31 : decode cX2_meetLinks 31 = .ok (.aload_n 0, 1) := by decide +kernel
theorem dX2_meetLinks_32 : decode cX2_meetLinks 32 = .ok (.getfield 29, 3) := by decide +kernel
theorem dX2_meetLinks_35 : decode cX2_meetLinks 35 = .ok (.iload 5, 2) := by decide +kernel
theorem dX2_meetLinks_37 : decode cX2_meetLinks 37 = .ok (.baload, 1) := by decide +kernel
theorem dX2_meetLinks_38 : decode cX2_meetLinks 38 = .ok (.ifCond .eq 16, 3) := by decide +kernel
theorem dX2_meetLinks_41 : decode cX2_meetLinks 41 = .ok (.aload_n 0, 1) := by decide +kernel
theorem dX2_meetLinks_42 : decode cX2_meetLinks 42 = .ok (.aload_n 0, 1) := by decide +kernel
theorem dX2_meetLinks_43 : decode cX2_meetLinks 43 = .ok (.getfield 25, 3) := by decide +kernel
theorem dX2_meetLinks_46 : decode cX2_meetLinks 46 = .ok (.iload 5, 2) := by decide +kernel
theorem dX2_meetLinks_48 : decode cX2_meetLinks 48 = .ok (.laload, 1) := by decide +kernel
theorem dX2_meetLinks_49 : decode cX2_meetLinks 49 = .ok (.iload_n 3, 1) := by decide +kernel
theorem dX2_meetLinks_50 : decode cX2_meetLinks 50 = .ok (.invokevirtual 115, 3) := by decide +kernel
theorem dX2_meetLinks_53 : decode cX2_meetLinks 53 = .ok (.istore_n 3, 1) := by decide +kernel
theorem dX2_meetLinks_54 : decode cX2_meetLinks 54 = .ok (.iinc 5 1, 3) := by decide +kernel
theorem dX2_meetLinks_57 : decode cX2_meetLinks 57 = .ok (.goto (-33), 3) := by decide +kernel
theorem dX2_meetLinks_60 : decode cX2_meetLinks 60 = .ok (.iload_n 3, 1) := by decide +kernel
theorem dX2_meetLinks_61 : decode cX2_meetLinks 61 = .ok (.ireturn, 1) := by decide +kernel
theorem dX2_meetRoots_0 : decode cX2_meetRoots 0 = .ok (.iconst 0, 1) := by decide +kernel
theorem dX2_meetRoots_1 : decode cX2_meetRoots 1 = .ok (.istore_n 1, 1) := by decide +kernel
theorem dX2_meetRoots_2 : decode cX2_meetRoots 2 = .ok (.iconst 0, 1) := by decide +kernel
theorem dX2_meetRoots_3 : decode cX2_meetRoots 3 = .ok (.istore_n 2, 1) := by decide +kernel
theorem dX2_meetRoots_4 : decode cX2_meetRoots 4 = .ok (.iload_n 2, 1) := by decide +kernel
theorem dX2_meetRoots_5 : decode cX2_meetRoots 5 = .ok (.aload_n 0, 1) := by decide +kernel
theorem dX2_meetRoots_6 : decode cX2_meetRoots 6 = .ok (.getfield 89, 3) := by decide +kernel
theorem dX2_meetRoots_9 : decode cX2_meetRoots 9 = .ok (.if_icmp .ge 22, 3) := by decide +kernel
theorem dX2_meetRoots_12 : decode cX2_meetRoots 12 = .ok (.aload_n 0, 1) := by decide +kernel
theorem dX2_meetRoots_13 : decode cX2_meetRoots 13 = .ok (.aload_n 0, 1) := by decide +kernel
theorem dX2_meetRoots_14 : decode cX2_meetRoots 14 = .ok (.getfield 38, 3) := by decide +kernel
theorem dX2_meetRoots_17 : decode cX2_meetRoots 17 = .ok (.iload_n 2, 1) := by decide +kernel
theorem dX2_meetRoots_18 : decode cX2_meetRoots 18 = .ok (.iaload, 1) := by decide +kernel
theorem dX2_meetRoots_19 : decode cX2_meetRoots 19 = .ok (.i2l, 1) := by decide +kernel
theorem dX2_meetRoots_20 : decode cX2_meetRoots 20 = .ok (.iload_n 1, 1) := by decide +kernel
theorem dX2_meetRoots_21 : decode cX2_meetRoots 21 = .ok (.invokevirtual 115, 3) := by decide +kernel
theorem dX2_meetRoots_24 : decode cX2_meetRoots 24 = .ok (.istore_n 1, 1) := by decide +kernel
theorem dX2_meetRoots_25 : decode cX2_meetRoots 25 = .ok (.iinc 2 1, 3) := by decide +kernel
theorem dX2_meetRoots_28 : decode cX2_meetRoots 28 = .ok (.goto (-24), 3) := by decide +kernel
theorem dX2_meetRoots_31 : decode cX2_meetRoots 31 = .ok (.iconst 0, 1) := by decide +kernel
theorem dX2_meetRoots_32 : decode cX2_meetRoots 32 = .ok (.istore_n 2, 1) := by decide +kernel
theorem dX2_meetRoots_33 : decode cX2_meetRoots 33 = .ok (.iload_n 2, 1) := by decide +kernel
theorem dX2_meetRoots_34 : decode cX2_meetRoots 34 = .ok (.aload_n 0, 1) := by decide +kernel
theorem dX2_meetRoots_35 : decode cX2_meetRoots 35 = .ok (.getfield 9, 3) := by decide +kernel
theorem dX2_meetRoots_38 : decode cX2_meetRoots 38 = .ok (.invokevirtual 99, 3) := by decide +kernel
theorem dX2_meetRoots_41 : decode cX2_meetRoots 41 = .ok (.if_icmp .ge 32, 3) := by decide +kernel
theorem dX2_meetRoots_44 : decode cX2_meetRoots 44 = .ok (.aload_n 0, 1) := by decide +kernel
theorem dX2_meetRoots_45 : decode cX2_meetRoots 45 = .ok (.getfield 9, 3) := by decide +kernel
theorem dX2_meetRoots_48 : decode cX2_meetRoots 48 = .ok (.iload_n 2, 1) := by decide +kernel
theorem dX2_meetRoots_49 : decode cX2_meetRoots 49 = .ok (.invokevirtual 103, 3) := by decide +kernel
theorem dX2_meetRoots_52 : decode cX2_meetRoots 52 = .ok (.ifCond .eq 15, 3) := by decide +kernel
theorem dX2_meetRoots_55 : decode cX2_meetRoots 55 = .ok (.aload_n 0, 1) := by decide +kernel
theorem dX2_meetRoots_56 : decode cX2_meetRoots 56 = .ok (.aload_n 0, 1) := by decide +kernel
theorem dX2_meetRoots_57 : decode cX2_meetRoots 57 = .ok (.getfield 35, 3) := by decide +kernel
theorem dX2_meetRoots_60 : decode cX2_meetRoots 60 = .ok (.iload_n 2, 1) := by decide +kernel
theorem dX2_meetRoots_61 : decode cX2_meetRoots 61 = .ok (.laload, 1) := by decide +kernel
theorem dX2_meetRoots_62 : decode cX2_meetRoots 62 = .ok (.iload_n 1, 1) := by decide +kernel
theorem dX2_meetRoots_63 : decode cX2_meetRoots 63 = .ok (.invokevirtual 115, 3) := by decide +kernel
theorem dX2_meetRoots_66 : decode cX2_meetRoots 66 = .ok (.istore_n 1, 1) := by decide +kernel
theorem dX2_meetRoots_67 : decode cX2_meetRoots 67 = .ok (.iinc 2 1, 3) := by decide +kernel
theorem dX2_meetRoots_70 : decode cX2_meetRoots 70 = .ok (.goto (-37), 3) := by decide +kernel
theorem dX2_meetRoots_73 : decode cX2_meetRoots 73 = .ok (.iload_n 1, 1) := by decide +kernel
theorem dX2_meetRoots_74 : decode cX2_meetRoots 74 = .ok (.ireturn, 1) := by decide +kernel
theorem dX2_moveSlots_0 : decode cX2_moveSlots 0 = .ok (.iconst 0, 1) := by decide +kernel
theorem dX2_moveSlots_1 : decode cX2_moveSlots 1 = .ok (.istore 4, 2) := by decide +kernel
theorem dX2_moveSlots_3 : decode cX2_moveSlots 3 = .ok (.iload 4, 2) := by decide +kernel
theorem dX2_moveSlots_5 : decode cX2_moveSlots 5 = .ok (.iload_n 3, 1) := by decide +kernel
theorem dX2_moveSlots_6 : decode cX2_moveSlots 6 = .ok (.if_icmp .ge 45, 3) := by decide +kernel
theorem dX2_moveSlots_9 : decode cX2_moveSlots 9 = .ok (.aload_n 0, 1) := by decide +kernel
theorem dX2_moveSlots_10 : decode cX2_moveSlots 10 = .ok (.getfield 25, 3) := by decide +kernel
theorem dX2_moveSlots_13 : decode cX2_moveSlots 13 = .ok (.iload_n 2, 1) := by decide +kernel
theorem dX2_moveSlots_14 : decode cX2_moveSlots 14 = .ok (.iload 4, 2) := by decide +kernel
theorem dX2_moveSlots_16 : decode cX2_moveSlots 16 = .ok (.iadd, 1) := by decide +kernel
theorem dX2_moveSlots_17 : decode cX2_moveSlots 17 = .ok (.aload_n 0, 1) := by decide +kernel
theorem dX2_moveSlots_18 : decode cX2_moveSlots 18 = .ok (.getfield 25, 3) := by decide +kernel
theorem dX2_moveSlots_21 : decode cX2_moveSlots 21 = .ok (.iload_n 1, 1) := by decide +kernel
theorem dX2_moveSlots_22 : decode cX2_moveSlots 22 = .ok (.iload 4, 2) := by decide +kernel
theorem dX2_moveSlots_24 : decode cX2_moveSlots 24 = .ok (.iadd, 1) := by decide +kernel
theorem dX2_moveSlots_25 : decode cX2_moveSlots 25 = .ok (.laload, 1) := by decide +kernel
theorem dX2_moveSlots_26 : decode cX2_moveSlots 26 = .ok (.lastore, 1) := by decide +kernel
theorem dX2_moveSlots_27 : decode cX2_moveSlots 27 = .ok (.aload_n 0, 1) := by decide +kernel
theorem dX2_moveSlots_28 : decode cX2_moveSlots 28 = .ok (.getfield 29, 3) := by decide +kernel
theorem dX2_moveSlots_31 : decode cX2_moveSlots 31 = .ok (.iload_n 2, 1) := by decide +kernel
theorem dX2_moveSlots_32 : decode cX2_moveSlots 32 = .ok (.iload 4, 2) := by decide +kernel
theorem dX2_moveSlots_34 : decode cX2_moveSlots 34 = .ok (.iadd, 1) := by decide +kernel
theorem dX2_moveSlots_35 : decode cX2_moveSlots 35 = .ok (.aload_n 0, 1) := by decide +kernel
theorem dX2_moveSlots_36 : decode cX2_moveSlots 36 = .ok (.getfield 29, 3) := by decide +kernel
theorem dX2_moveSlots_39 : decode cX2_moveSlots 39 = .ok (.iload_n 1, 1) := by decide +kernel
theorem dX2_moveSlots_40 : decode cX2_moveSlots 40 = .ok (.iload 4, 2) := by decide +kernel
theorem dX2_moveSlots_42 : decode cX2_moveSlots 42 = .ok (.iadd, 1) := by decide +kernel
theorem dX2_moveSlots_43 : decode cX2_moveSlots 43 = .ok (.baload, 1) := by decide +kernel
theorem dX2_moveSlots_44 : decode cX2_moveSlots 44 = .ok (.bastore, 1) := by decide +kernel
theorem dX2_moveSlots_45 : decode cX2_moveSlots 45 = .ok (.iinc 4 1, 3) := by decide +kernel
theorem dX2_moveSlots_48 : decode cX2_moveSlots 48 = .ok (.goto (-45), 3) := by decide +kernel
theorem dX2_moveSlots_51 : decode cX2_moveSlots 51 = .ok (.return_, 1) := by decide +kernel
theorem dX2_rootPlace_0 : decode cX2_rootPlace 0 = .ok (.iconst 0, 1) := by decide +kernel
theorem dX2_rootPlace_1 : decode cX2_rootPlace 1 = .ok (.istore_n 2, 1) := by decide +kernel
theorem dX2_rootPlace_2 : decode cX2_rootPlace 2 = .ok (.iload_n 2, 1) := by decide +kernel
theorem dX2_rootPlace_3 : decode cX2_rootPlace 3 = .ok (.aload_n 0, 1) := by decide +kernel
theorem dX2_rootPlace_4 : decode cX2_rootPlace 4 = .ok (.getfield 89, 3) := by decide +kernel
theorem dX2_rootPlace_7 : decode cX2_rootPlace 7 = .ok (.if_icmp .ge 21, 3) := by decide +kernel
theorem dX2_rootPlace_10 : decode cX2_rootPlace 10 = .ok (.aload_n 0, 1) := by decide +kernel
theorem dX2_rootPlace_11 : decode cX2_rootPlace 11 = .ok (.getfield 38, 3) := by decide +kernel
theorem dX2_rootPlace_14 : decode cX2_rootPlace 14 = .ok (.iload_n 2, 1) := by decide +kernel
theorem dX2_rootPlace_15 : decode cX2_rootPlace 15 = .ok (.iaload, 1) := by decide +kernel
theorem dX2_rootPlace_16 : decode cX2_rootPlace 16 = .ok (.iload_n 1, 1) := by decide +kernel
theorem dX2_rootPlace_17 : decode cX2_rootPlace 17 = .ok (.if_icmp .ne 5, 3) := by decide +kernel
theorem dX2_rootPlace_20 : decode cX2_rootPlace 20 = .ok (.iload_n 2, 1) := by decide +kernel
theorem dX2_rootPlace_21 : decode cX2_rootPlace 21 = .ok (.ireturn, 1) := by decide +kernel
theorem dX2_rootPlace_22 : decode cX2_rootPlace 22 = .ok (.iinc 2 1, 3) := by decide +kernel
theorem dX2_rootPlace_25 : decode cX2_rootPlace 25 = .ok (.goto (-23), 3) := by decide +kernel
theorem dX2_rootPlace_28 : decode cX2_rootPlace 28 = .ok (.iconst (-1), 1) := by decide +kernel
theorem dX2_rootPlace_29 : decode cX2_rootPlace 29 = .ok (.ireturn, 1) := by decide +kernel
theorem dX2_slotsOf_0 : decode cX2_slotsOf 0 = .ok (.aload_n 0, 1) := by decide +kernel
theorem dX2_slotsOf_1 : decode cX2_slotsOf 1 = .ok (.getfield 9, 3) := by decide +kernel
theorem dX2_slotsOf_4 : decode cX2_slotsOf 4 = .ok (.aload_n 0, 1) := by decide +kernel
theorem dX2_slotsOf_5 : decode cX2_slotsOf 5 = .ok (.getfield 15, 3) := by decide +kernel
theorem dX2_slotsOf_8 : decode cX2_slotsOf 8 = .ok (.iload_n 1, 1) := by decide +kernel
theorem dX2_slotsOf_9 : decode cX2_slotsOf 9 = .ok (.iaload, 1) := by decide +kernel
theorem dX2_slotsOf_10 : decode cX2_slotsOf 10 = .ok (.aload_n 0, 1) := by decide +kernel
theorem dX2_slotsOf_11 : decode cX2_slotsOf 11 = .ok (.getfield 19, 3) := by decide +kernel
theorem dX2_slotsOf_14 : decode cX2_slotsOf 14 = .ok (.iload_n 1, 1) := by decide +kernel
theorem dX2_slotsOf_15 : decode cX2_slotsOf 15 = .ok (.iaload, 1) := by decide +kernel
theorem dX2_slotsOf_16 : decode cX2_slotsOf 16 = .ok (.invokevirtual 51, 3) := by decide +kernel
theorem dX2_slotsOf_19 : decode cX2_slotsOf 19 = .ok (.ireturn, 1) := by decide +kernel
theorem dX2_swapRoots_0 : decode cX2_swapRoots 0 = .ok (.iconst 0, 1) := by decide +kernel
theorem dX2_swapRoots_1 : decode cX2_swapRoots 1 = .ok (.istore_n 3, 1) := by decide +kernel
theorem dX2_swapRoots_2 : decode cX2_swapRoots 2 = .ok (.iload_n 3, 1) := by decide +kernel
theorem dX2_swapRoots_3 : decode cX2_swapRoots 3 = .ok (.aload_n 0, 1) := by decide +kernel
theorem dX2_swapRoots_4 : decode cX2_swapRoots 4 = .ok (.getfield 89, 3) := by decide +kernel
theorem dX2_swapRoots_7 : decode cX2_swapRoots 7 = .ok (.if_icmp .ge 46, 3) := by decide +kernel
theorem dX2_swapRoots_10 : decode cX2_swapRoots 10 = .ok (.aload_n 0, 1) := by decide +kernel
theorem dX2_swapRoots_11 : decode cX2_swapRoots 11 = .ok (.getfield 38, 3) := by decide +kernel
theorem dX2_swapRoots_14 : decode cX2_swapRoots 14 = .ok (.iload_n 3, 1) := by decide +kernel
theorem dX2_swapRoots_15 : decode cX2_swapRoots 15 = .ok (.iaload, 1) := by decide +kernel
theorem dX2_swapRoots_16 : decode cX2_swapRoots 16 = .ok (.iload_n 1, 1) := by decide +kernel
theorem dX2_swapRoots_17 : decode cX2_swapRoots 17 = .ok (.if_icmp .ne 13, 3) := by decide +kernel
theorem dX2_swapRoots_20 : decode cX2_swapRoots 20 = .ok (.aload_n 0, 1) := by decide +kernel
theorem dX2_swapRoots_21 : decode cX2_swapRoots 21 = .ok (.getfield 38, 3) := by decide +kernel
theorem dX2_swapRoots_24 : decode cX2_swapRoots 24 = .ok (.iload_n 3, 1) := by decide +kernel
theorem dX2_swapRoots_25 : decode cX2_swapRoots 25 = .ok (.iload_n 2, 1) := by decide +kernel
theorem dX2_swapRoots_26 : decode cX2_swapRoots 26 = .ok (.iastore, 1) := by decide +kernel
theorem dX2_swapRoots_27 : decode cX2_swapRoots 27 = .ok (.goto 20, 3) := by decide +kernel
theorem dX2_swapRoots_30 : decode cX2_swapRoots 30 = .ok (.aload_n 0, 1) := by decide +kernel
theorem dX2_swapRoots_31 : decode cX2_swapRoots 31 = .ok (.getfield 38, 3) := by decide +kernel
theorem dX2_swapRoots_34 : decode cX2_swapRoots 34 = .ok (.iload_n 3, 1) := by decide +kernel
theorem dX2_swapRoots_35 : decode cX2_swapRoots 35 = .ok (.iaload, 1) := by decide +kernel
theorem dX2_swapRoots_36 : decode cX2_swapRoots 36 = .ok (.iload_n 2, 1) := by decide +kernel
theorem dX2_swapRoots_37 : decode cX2_swapRoots 37 = .ok (.if_icmp .ne 10, 3) := by decide +kernel
theorem dX2_swapRoots_40 : decode cX2_swapRoots 40 = .ok (.aload_n 0, 1) := by decide +kernel
theorem dX2_swapRoots_41 : decode cX2_swapRoots 41 = .ok (.getfield 38, 3) := by decide +kernel
theorem dX2_swapRoots_44 : decode cX2_swapRoots 44 = .ok (.iload_n 3, 1) := by decide +kernel
theorem dX2_swapRoots_45 : decode cX2_swapRoots 45 = .ok (.iload_n 1, 1) := by decide +kernel
theorem dX2_swapRoots_46 : decode cX2_swapRoots 46 = .ok (.iastore, 1) := by decide +kernel
theorem dX2_swapRoots_47 : decode cX2_swapRoots 47 = .ok (.iinc 3 1, 3) := by decide +kernel
theorem dX2_swapRoots_50 : decode cX2_swapRoots 50 = .ok (.goto (-48), 3) := by decide +kernel
theorem dX2_swapRoots_53 : decode cX2_swapRoots 53 = .ok (.return_, 1) := by decide +kernel
theorem dX2_walkToCopy_0 : decode cX2_walkToCopy 0 = .ok (.aload_n 0, 1) := by decide +kernel
theorem dX2_walkToCopy_1 : decode cX2_walkToCopy 1 = .ok (.invokevirtual 119, 3) := by decide +kernel
theorem dX2_walkToCopy_4 : decode cX2_walkToCopy 4 = .ok (.aload_n 0, 1) := by decide +kernel
theorem dX2_walkToCopy_5 : decode cX2_walkToCopy 5 = .ok (.iload_n 1, 1) := by decide +kernel
theorem dX2_walkToCopy_6 : decode cX2_walkToCopy 6 = .ok (.i2l, 1) := by decide +kernel
theorem dX2_walkToCopy_7 : decode cX2_walkToCopy 7 = .ok (.iconst 0, 1) := by decide +kernel
theorem dX2_walkToCopy_8 : decode cX2_walkToCopy 8 = .ok (.invokevirtual 115, 3) := by decide +kernel
theorem dX2_walkToCopy_11 : decode cX2_walkToCopy 11 = .ok (.istore_n 3, 1) := by decide +kernel
theorem dX2_walkToCopy_12 : decode cX2_walkToCopy 12 = .ok (.iconst 0, 1) := by decide +kernel
theorem dX2_walkToCopy_13 : decode cX2_walkToCopy 13 = .ok (.istore 4, 2) := by decide +kernel
theorem dX2_walkToCopy_15 : decode cX2_walkToCopy 15 = .ok (.iload 4, 2) := by decide +kernel
theorem dX2_walkToCopy_17 : decode cX2_walkToCopy 17 = .ok (.iload_n 3, 1) := by decide +kernel
theorem dX2_walkToCopy_18 : decode cX2_walkToCopy 18 = .ok (.if_icmp .ge 140, 3) := by decide +kernel
theorem dX2_walkToCopy_21 : decode cX2_walkToCopy 21 = .ok (.iload 4, 2) := by decide +kernel
theorem dX2_walkToCopy_23 : decode cX2_walkToCopy 23 = .ok (.aload_n 0, 1) := by decide +kernel
theorem dX2_walkToCopy_24 : decode cX2_walkToCopy 24 = .ok (.getfield 47, 3) := by decide +kernel
theorem dX2_walkToCopy_27 : decode cX2_walkToCopy 27 = .ok (.if_icmp .ge 131, 3) := by decide +kernel
theorem dX2_walkToCopy_30 : decode cX2_walkToCopy 30 = .ok (.iload_n 2, 1) := by decide +kernel
theorem dX2_walkToCopy_31 : decode cX2_walkToCopy 31 = .ok (.ifCond .eq 127, 3) := by decide +kernel
theorem dX2_walkToCopy_34 : decode cX2_walkToCopy 34 = .ok (.aload_n 0, 1) := by decide +kernel
theorem dX2_walkToCopy_35 : decode cX2_walkToCopy 35 = .ok (.getfield 22, 3) := by decide +kernel
theorem dX2_walkToCopy_38 : decode cX2_walkToCopy 38 = .ok (.aload_n 0, 1) := by decide +kernel
theorem dX2_walkToCopy_39 : decode cX2_walkToCopy 39 = .ok (.getfield 41, 3) := by decide +kernel
theorem dX2_walkToCopy_42 : decode cX2_walkToCopy 42 = .ok (.iload 4, 2) := by decide +kernel
theorem dX2_walkToCopy_44 : decode cX2_walkToCopy 44 = .ok (.iaload, 1) := by decide +kernel
theorem dX2_walkToCopy_45 : decode cX2_walkToCopy 45 = .ok (.iaload, 1) := by decide +kernel
theorem dX2_walkToCopy_46 : decode cX2_walkToCopy 46 = .ok (.aload_n 0, 1) := by decide +kernel
theorem dX2_walkToCopy_47 : decode cX2_walkToCopy 47 = .ok (.aload_n 0, 1) := by decide +kernel
theorem dX2_walkToCopy_48 : decode cX2_walkToCopy 48 = .ok (.getfield 41, 3) := by decide +kernel
theorem dX2_walkToCopy_51 : decode cX2_walkToCopy 51 = .ok (.iload 4, 2) := by decide +kernel
theorem dX2_walkToCopy_53 : decode cX2_walkToCopy 53 = .ok (.iaload, 1) := by decide +kernel
theorem dX2_walkToCopy_54 : decode cX2_walkToCopy 54 = .ok (.invokevirtual 59, 3) := by decide +kernel
theorem dX2_walkToCopy_57 : decode cX2_walkToCopy 57 = .ok (.iadd, 1) := by decide +kernel
theorem dX2_walkToCopy_58 : decode cX2_walkToCopy 58 = .ok (.istore 5, 2) := by decide +kernel
theorem dX2_walkToCopy_60 : decode cX2_walkToCopy 60 = .ok (.aload_n 0, 1) := by decide +kernel
theorem dX2_walkToCopy_61 : decode cX2_walkToCopy 61 = .ok (.getfield 22, 3) := by decide +kernel
theorem dX2_walkToCopy_64 : decode cX2_walkToCopy 64 = .ok (.aload_n 0, 1) := by decide +kernel
theorem dX2_walkToCopy_65 : decode cX2_walkToCopy 65 = .ok (.getfield 41, 3) := by decide +kernel
theorem dX2_walkToCopy_68 : decode cX2_walkToCopy 68 = .ok (.iload 4, 2) := by decide +kernel
theorem dX2_walkToCopy_70 : decode cX2_walkToCopy 70 = .ok (.iaload, 1) := by decide +kernel
theorem dX2_walkToCopy_71 : decode cX2_walkToCopy 71 = .ok (.iaload, 1) := by decide +kernel
theorem dX2_walkToCopy_72 : decode cX2_walkToCopy 72 = .ok (.istore 6, 2) := by decide +kernel
theorem dX2_walkToCopy_74 : decode cX2_walkToCopy 74 = .ok (.iload 6, 2) := by decide +kernel
theorem dX2_walkToCopy_76 : decode cX2_walkToCopy 76 = .ok (.iload 5, 2) := by decide +kernel
theorem dX2_walkToCopy_78 : decode cX2_walkToCopy 78 = .ok (.if_icmp .ge 74, 3) := by decide +kernel
theorem dX2_walkToCopy_81 : decode cX2_walkToCopy 81 = .ok (.aload_n 0, 1) := by decide +kernel
theorem dX2_walkToCopy_82 : decode cX2_walkToCopy 82 = .ok (.getfield 29, 3) := by decide +kernel
theorem dX2_walkToCopy_85 : decode cX2_walkToCopy 85 = .ok (.iload 6, 2) := by decide +kernel
theorem dX2_walkToCopy_87 : decode cX2_walkToCopy 87 = .ok (.baload, 1) := by decide +kernel
theorem dX2_walkToCopy_88 : decode cX2_walkToCopy 88 = .ok (.ifCond .eq 58, 3) := by decide +kernel
theorem dX2_walkToCopy_91 : decode cX2_walkToCopy 91 = .ok (.aload_n 0, 1) := by decide +kernel
theorem dX2_walkToCopy_92 : decode cX2_walkToCopy 92 = .ok (.getfield 25, 3) := by decide +kernel
theorem dX2_walkToCopy_95 : decode cX2_walkToCopy 95 = .ok (.iload 6, 2) := by decide +kernel
theorem dX2_walkToCopy_97 : decode cX2_walkToCopy 97 = .ok (.laload, 1) := by decide +kernel
theorem dX2_walkToCopy_98 : decode cX2_walkToCopy 98 = .ok (.ldc2_w 69, 3) := by decide +kernel
theorem dX2_walkToCopy_101 : decode cX2_walkToCopy 101 = .ok (.lcmp, 1) := by decide +kernel
theorem dX2_walkToCopy_102 : decode cX2_walkToCopy 102 = .ok (.ifCond .eq 44, 3) := by decide +kernel
theorem dX2_walkToCopy_105 : decode cX2_walkToCopy 105 = .ok (.iload_n 2, 1) := by decide +kernel
theorem dX2_walkToCopy_106 : decode cX2_walkToCopy 106 = .ok (.iconst 2, 1) := by decide +kernel
theorem dX2_walkToCopy_107 : decode cX2_walkToCopy 107 = .ok (.if_icmp .ne 26, 3) := by decide +kernel
theorem dX2_walkToCopy_110 : decode cX2_walkToCopy 110 = .ok (.aload_n 0, 1) := by decide +kernel
theorem dX2_walkToCopy_111 : decode cX2_walkToCopy 111 = .ok (.getfield 9, 3) := by decide +kernel
theorem dX2_walkToCopy_114 : decode cX2_walkToCopy 114 = .ok (.aload_n 0, 1) := by decide +kernel
theorem dX2_walkToCopy_115 : decode cX2_walkToCopy 115 = .ok (.getfield 15, 3) := by decide +kernel
theorem dX2_walkToCopy_118 : decode cX2_walkToCopy 118 = .ok (.aload_n 0, 1) := by decide +kernel
theorem dX2_walkToCopy_119 : decode cX2_walkToCopy 119 = .ok (.getfield 25, 3) := by decide +kernel
theorem dX2_walkToCopy_122 : decode cX2_walkToCopy 122 = .ok (.iload 6, 2) := by decide +kernel
theorem dX2_walkToCopy_124 : decode cX2_walkToCopy 124 = .ok (.laload, 1) := by decide +kernel
theorem dX2_walkToCopy_125 : decode cX2_walkToCopy 125 = .ok (.l2i, 1) := by decide +kernel
theorem dX2_walkToCopy_126 : decode cX2_walkToCopy 126 = .ok (.iaload, 1) := by decide +kernel
theorem dX2_walkToCopy_127 : decode cX2_walkToCopy 127 = .ok (.invokevirtual 144, 3) := by decide +kernel
theorem dX2_walkToCopy_130 : decode cX2_walkToCopy 130 = .ok (.ifCond .ne 16, 3) := by decide +kernel
theorem dX2_walkToCopy_133 : decode cX2_walkToCopy 133 = .ok (.aload_n 0, 1) := by decide +kernel
theorem dX2_walkToCopy_134 : decode cX2_walkToCopy 134 = .ok (.aload_n 0, 1) := by decide +kernel
theorem dX2_walkToCopy_135 : decode cX2_walkToCopy 135 = .ok (.getfield 25, 3) := by decide +kernel
theorem dX2_walkToCopy_138 : decode cX2_walkToCopy 138 = .ok (.iload 6, 2) := by decide +kernel
theorem dX2_walkToCopy_140 : decode cX2_walkToCopy 140 = .ok (.laload, 1) := by decide +kernel
theorem dX2_walkToCopy_141 : decode cX2_walkToCopy 141 = .ok (.iload_n 3, 1) := by decide +kernel
theorem dX2_walkToCopy_142 : decode cX2_walkToCopy 142 = .ok (.invokevirtual 115, 3) := by decide +kernel
theorem dX2_walkToCopy_145 : decode cX2_walkToCopy 145 = .ok (.istore_n 3, 1) := by decide +kernel
theorem dX2_walkToCopy_146 : decode cX2_walkToCopy 146 = .ok (.iinc 6 1, 3) := by decide +kernel
theorem dX2_walkToCopy_149 : decode cX2_walkToCopy 149 = .ok (.goto (-75), 3) := by decide +kernel
theorem dX2_walkToCopy_152 : decode cX2_walkToCopy 152 = .ok (.iinc 4 1, 3) := by decide +kernel
theorem dX2_walkToCopy_155 : decode cX2_walkToCopy 155 = .ok (.goto (-140), 3) := by decide +kernel
theorem dX2_walkToCopy_158 : decode cX2_walkToCopy 158 = .ok (.iload_n 3, 1) := by decide +kernel
theorem dX2_walkToCopy_159 : decode cX2_walkToCopy 159 = .ok (.ireturn, 1) := by decide +kernel
theorem dX3_addRow_0 : decode cX3_addRow 0 = .ok (.iload_n 1, 1) := by decide +kernel
theorem dX3_addRow_1 : decode cX3_addRow 1 = .ok (.bipush 6, 2) := by decide +kernel
theorem dX3_addRow_3 : decode cX3_addRow 3 = .ok (.imul, 1) := by decide +kernel
theorem dX3_addRow_4 : decode cX3_addRow 4 = .ok (.iconst 4, 1) := by decide +kernel
theorem dX3_addRow_5 : decode cX3_addRow 5 = .ok (.imul, 1) := by decide +kernel
theorem dX3_addRow_6 : decode cX3_addRow 6 = .ok (.istore 7, 2) := by decide +kernel
theorem dX3_addRow_8 : decode cX3_addRow 8 = .ok (.aload_n 0, 1) := by decide +kernel
theorem dX3_addRow_9 : decode cX3_addRow 9 = .ok (.getfield 35, 3) := by decide +kernel
theorem dX3_addRow_12 : decode cX3_addRow 12 = .ok (.iload_n 1, 1) := by decide +kernel
theorem dX3_addRow_13 : decode cX3_addRow 13 = .ok (.iaload, 1) := by decide +kernel
theorem dX3_addRow_14 : decode cX3_addRow 14 = .ok (.bipush 6, 2) := by decide +kernel
theorem dX3_addRow_16 : decode cX3_addRow 16 = .ok (.if_icmp .ne 49, 3) := by decide +kernel
theorem dX3_addRow_19 : decode cX3_addRow 19 = .ok (.iload 7, 2) := by decide +kernel
theorem dX3_addRow_21 : decode cX3_addRow 21 = .ok (.istore 8, 2) := by decide +kernel
theorem dX3_addRow_23 : decode cX3_addRow 23 = .ok (.iload 8, 2) := by decide +kernel
theorem dX3_addRow_25 : decode cX3_addRow 25 = .ok (.iload 7, 2) := by decide +kernel
theorem dX3_addRow_27 : decode cX3_addRow 27 = .ok (.bipush 20, 2) := by decide +kernel
theorem dX3_addRow_29 : decode cX3_addRow 29 = .ok (.iadd, 1) := by decide +kernel
theorem dX3_addRow_30 : decode cX3_addRow 30 = .ok (.if_icmp .ge 25, 3) := by decide +kernel
theorem dX3_addRow_33 : decode cX3_addRow 33 = .ok (.aload_n 0, 1) := by decide +kernel
theorem dX3_addRow_34 : decode cX3_addRow 34 = .ok (.getfield 38, 3) := by decide +kernel
theorem dX3_addRow_37 : decode cX3_addRow 37 = .ok (.iload 8, 2) := by decide +kernel
theorem dX3_addRow_39 : decode cX3_addRow 39 = .ok (.aload_n 0, 1) := by decide +kernel
theorem dX3_addRow_40 : decode cX3_addRow 40 = .ok (.getfield 38, 3) := by decide +kernel
theorem dX3_addRow_43 : decode cX3_addRow 43 = .ok (.iload 8, 2) := by decide +kernel
theorem dX3_addRow_45 : decode cX3_addRow 45 = .ok (.iconst 4, 1) := by decide +kernel
theorem dX3_addRow_46 : decode cX3_addRow 46 = .ok (.iadd, 1) := by decide +kernel
theorem dX3_addRow_47 : decode cX3_addRow 47 = .ok (.laload, 1) := by decide +kernel
theorem dX3_addRow_48 : decode cX3_addRow 48 = .ok (.lastore, 1) := by decide +kernel
theorem dX3_addRow_49 : decode cX3_addRow 49 = .ok (.iinc 8 1, 3) := by decide +kernel
theorem dX3_addRow_52 : decode cX3_addRow 52 = .ok (.goto (-29), 3) := by decide +kernel
theorem dX3_addRow_55 : decode cX3_addRow 55 = .ok (.aload_n 0, 1) := by decide +kernel
theorem dX3_addRow_56 : decode cX3_addRow 56 = .ok (.getfield 35, 3) := by decide +kernel
theorem dX3_addRow_59 : decode cX3_addRow 59 = .ok (.iload_n 1, 1) := by decide +kernel
theorem dX3_addRow_60 : decode cX3_addRow 60 = .ok (.dup2, 1) := by decide +kernel
theorem dX3_addRow_61 : decode cX3_addRow 61 = .ok (.iaload, 1) := by decide +kernel
theorem dX3_addRow_62 : decode cX3_addRow 62 = .ok (.iconst 1, 1) := by decide +kernel
theorem dX3_addRow_63 : decode cX3_addRow 63 = .ok (.isub, 1) := by decide +kernel
theorem dX3_addRow_64 : decode cX3_addRow 64 = .ok (.iastore, 1) := by decide +kernel
theorem dX3_addRow_65 : decode cX3_addRow 65 = .ok (.iload 7, 2) := by decide +kernel
theorem dX3_addRow_67 : decode cX3_addRow 67 = .ok (.aload_n 0, 1) := by decide +kernel
theorem dX3_addRow_68 : decode cX3_addRow 68 = .ok (.getfield 35, 3) := by decide +kernel
theorem dX3_addRow_71 : decode cX3_addRow 71 = .ok (.iload_n 1, 1) := by decide +kernel
theorem dX3_addRow_72 : decode cX3_addRow 72 = .ok (.iaload, 1) := by decide +kernel
theorem dX3_addRow_73 : decode cX3_addRow 73 = .ok (.iconst 4, 1) := by decide +kernel
theorem dX3_addRow_74 : decode cX3_addRow 74 = .ok (.imul, 1) := by decide +kernel
theorem dX3_addRow_75 : decode cX3_addRow 75 = .ok (.iadd, 1) := by decide +kernel
theorem dX3_addRow_76 : decode cX3_addRow 76 = .ok (.istore 8, 2) := by decide +kernel
theorem dX3_addRow_78 : decode cX3_addRow 78 = .ok (.aload_n 0, 1) := by decide +kernel
theorem dX3_addRow_79 : decode cX3_addRow 79 = .ok (.getfield 38, 3) := by decide +kernel
theorem dX3_addRow_82 : decode cX3_addRow 82 = .ok (.iload 8, 2) := by decide +kernel
theorem dX3_addRow_84 : decode cX3_addRow 84 = .ok (.aload_n 0, 1) := by decide +kernel
theorem dX3_addRow_85 : decode cX3_addRow 85 = .ok (.getfield 85, 3) := by decide +kernel
theorem dX3_addRow_88 : decode cX3_addRow 88 = .ok (.i2l, 1) := by decide +kernel
theorem dX3_addRow_89 : decode cX3_addRow 89 = .ok (.lastore, 1) := by decide +kernel
theorem dX3_addRow_90 : decode cX3_addRow 90 = .ok (.aload_n 0, 1) := by decide +kernel
theorem dX3_addRow_91 : decode cX3_addRow 91 = .ok (.getfield 38, 3) := by decide +kernel
theorem dX3_addRow_94 : decode cX3_addRow 94 = .ok (.iload 8, 2) := by decide +kernel
theorem dX3_addRow_96 : decode cX3_addRow 96 = .ok (.iconst 1, 1) := by decide +kernel
theorem dX3_addRow_97 : decode cX3_addRow 97 = .ok (.iadd, 1) := by decide +kernel
theorem dX3_addRow_98 : decode cX3_addRow 98 = .ok (.iload_n 2, 1) := by decide +kernel
theorem dX3_addRow_99 : decode cX3_addRow 99 = .ok (.i2l, 1) := by decide +kernel
theorem dX3_addRow_100 : decode cX3_addRow 100 = .ok (.lastore, 1) := by decide +kernel
theorem dX3_addRow_101 : decode cX3_addRow 101 = .ok (.aload_n 0, 1) := by decide +kernel
theorem dX3_addRow_102 : decode cX3_addRow 102 = .ok (.getfield 38, 3) := by decide +kernel
theorem dX3_addRow_105 : decode cX3_addRow 105 = .ok (.iload 8, 2) := by decide +kernel
theorem dX3_addRow_107 : decode cX3_addRow 107 = .ok (.iconst 2, 1) := by decide +kernel
theorem dX3_addRow_108 : decode cX3_addRow 108 = .ok (.iadd, 1) := by decide +kernel
theorem dX3_addRow_109 : decode cX3_addRow 109 = .ok (.lload_n 3, 1) := by decide +kernel
theorem dX3_addRow_110 : decode cX3_addRow 110 = .ok (.lastore, 1) := by decide +kernel
theorem dX3_addRow_111 : decode cX3_addRow 111 = .ok (.aload_n 0, 1) := by decide +kernel
theorem dX3_addRow_112 : decode cX3_addRow 112 = .ok (.getfield 38, 3) := by decide +kernel
theorem dX3_addRow_115 : decode cX3_addRow 115 = .ok (.iload 8, 2) := by decide +kernel
theorem dX3_addRow_117 : decode cX3_addRow 117 = .ok (.iconst 3, 1) := by decide +kernel
theorem dX3_addRow_118 : decode cX3_addRow 118 = .ok (.iadd, 1) := by decide +kernel
theorem dX3_addRow_119 : decode cX3_addRow 119 = .ok (.lload 5, 2) := by decide +kernel
theorem dX3_addRow_121 : decode cX3_addRow 121 = .ok (.lastore, 1) := by decide +kernel
theorem dX3_addRow_122 : decode cX3_addRow 122 = .ok (.aload_n 0, 1) := by decide +kernel
theorem dX3_addRow_123 : decode cX3_addRow 123 = .ok (.getfield 35, 3) := by decide +kernel
theorem dX3_addRow_126 : decode cX3_addRow 126 = .ok (.iload_n 1, 1) := by decide +kernel
theorem dX3_addRow_127 : decode cX3_addRow 127 = .ok (.dup2, 1) := by decide +kernel
theorem dX3_addRow_128 : decode cX3_addRow 128 = .ok (.iaload, 1) := by decide +kernel
theorem dX3_addRow_129 : decode cX3_addRow 129 = .ok (.iconst 1, 1) := by decide +kernel
theorem dX3_addRow_130 : decode cX3_addRow 130 = .ok (.iadd, 1) := by decide +kernel
theorem dX3_addRow_131 : decode cX3_addRow 131 = .ok (.iastore, 1) := by decide +kernel
theorem dX3_addRow_132 : decode cX3_addRow 132 = .ok (.return_, 1) := by decide +kernel
theorem dX3_addWatch_0 : decode cX3_addWatch 0 = .ok (.aload_n 0, 1) := by decide +kernel
theorem dX3_addWatch_1 : decode cX3_addWatch 1 = .ok (.getfield 26, 3) := by decide +kernel
theorem dX3_addWatch_4 : decode cX3_addWatch 4 = .ok (.aload_n 0, 1) := by decide +kernel
theorem dX3_addWatch_5 : decode cX3_addWatch 5 = .ok (.getfield 53, 3) := by decide +kernel
theorem dX3_addWatch_8 : decode cX3_addWatch 8 = .ok (.iload_n 1, 1) := by decide +kernel
theorem dX3_addWatch_9 : decode cX3_addWatch 9 = .ok (.iastore, 1) := by decide +kernel
theorem dX3_addWatch_10 : decode cX3_addWatch 10 = .ok (.aload_n 0, 1) := by decide +kernel
theorem dX3_addWatch_11 : decode cX3_addWatch 11 = .ok (.getfield 29, 3) := by decide +kernel
theorem dX3_addWatch_14 : decode cX3_addWatch 14 = .ok (.aload_n 0, 1) := by decide +kernel
theorem dX3_addWatch_15 : decode cX3_addWatch 15 = .ok (.getfield 53, 3) := by decide +kernel
theorem dX3_addWatch_18 : decode cX3_addWatch 18 = .ok (.iload_n 2, 1) := by decide +kernel
theorem dX3_addWatch_19 : decode cX3_addWatch 19 = .ok (.iastore, 1) := by decide +kernel
theorem dX3_addWatch_20 : decode cX3_addWatch 20 = .ok (.aload_n 0, 1) := by decide +kernel
theorem dX3_addWatch_21 : decode cX3_addWatch 21 = .ok (.getfield 32, 3) := by decide +kernel
theorem dX3_addWatch_24 : decode cX3_addWatch 24 = .ok (.aload_n 0, 1) := by decide +kernel
theorem dX3_addWatch_25 : decode cX3_addWatch 25 = .ok (.getfield 53, 3) := by decide +kernel
theorem dX3_addWatch_28 : decode cX3_addWatch 28 = .ok (.iload_n 3, 1) := by decide +kernel
theorem dX3_addWatch_29 : decode cX3_addWatch 29 = .ok (.iastore, 1) := by decide +kernel
theorem dX3_addWatch_30 : decode cX3_addWatch 30 = .ok (.aload_n 0, 1) := by decide +kernel
theorem dX3_addWatch_31 : decode cX3_addWatch 31 = .ok (.dup, 1) := by decide +kernel
theorem dX3_addWatch_32 : decode cX3_addWatch 32 = .ok (.getfield 53, 3) := by decide +kernel
theorem dX3_addWatch_35 : decode cX3_addWatch 35 = .ok (.iconst 1, 1) := by decide +kernel
theorem dX3_addWatch_36 : decode cX3_addWatch 36 = .ok (.iadd, 1) := by decide +kernel
theorem dX3_addWatch_37 : decode cX3_addWatch 37 = .ok (.putfield 53, 3) := by decide +kernel
theorem dX3_addWatch_40 : decode cX3_addWatch 40 = .ok (.aload_n 0, 1) := by decide +kernel
theorem dX3_addWatch_41 : decode cX3_addWatch 41 = .ok (.getfield 53, 3) := by decide +kernel
theorem dX3_addWatch_44 : decode cX3_addWatch 44 = .ok (.iconst 1, 1) := by decide +kernel
theorem dX3_addWatch_45 : decode cX3_addWatch 45 = .ok (.isub, 1) := by decide +kernel
theorem dX3_addWatch_46 : decode cX3_addWatch 46 = .ok (.ireturn, 1) := by decide +kernel
theorem dX3_forgetUndo_0 : decode cX3_forgetUndo 0 = .ok (.aload_n 0, 1) := by decide +kernel
theorem dX3_forgetUndo_1 : decode cX3_forgetUndo 1 = .ok (.iconst 0, 1) := by decide +kernel
theorem dX3_forgetUndo_2 : decode cX3_forgetUndo 2 = .ok (.putfield 119, 3) := by decide +kernel
theorem dX3_forgetUndo_5 : decode cX3_forgetUndo 5 = .ok (.return_, 1) := by decide +kernel
theorem dX3_isCase_0 : decode cX3_isCase 0 = .ok (.aload_n 0, 1) := by decide +kernel
theorem dX3_isCase_1 : decode cX3_isCase 1 = .ok (.getfield 9, 3) := by decide +kernel
theorem dX3_isCase_4 : decode cX3_isCase 4 = .ok (.getfield 122, 3) := by decide +kernel
theorem dX3_isCase_7 : decode cX3_isCase 7 = .ok (.aload_n 0, 1) := by decide +kernel
theorem dX3_isCase_8 : decode cX3_isCase 8 = .ok (.getfield 26, 3) := by decide +kernel
theorem dX3_isCase_11 : decode cX3_isCase 11 = .ok (.iload_n 1, 1) := by decide +kernel
theorem dX3_isCase_12 : decode cX3_isCase 12 = .ok (.iaload, 1) := by decide +kernel
theorem dX3_isCase_13 : decode cX3_isCase 13 = .ok (.bipush 6, 2) := by decide +kernel
theorem dX3_isCase_15 : decode cX3_isCase 15 = .ok (.imul, 1) := by decide +kernel
theorem dX3_isCase_16 : decode cX3_isCase 16 = .ok (.aload_n 0, 1) := by decide +kernel
theorem dX3_isCase_17 : decode cX3_isCase 17 = .ok (.getfield 29, 3) := by decide +kernel
theorem dX3_isCase_20 : decode cX3_isCase 20 = .ok (.iload_n 1, 1) := by decide +kernel
theorem dX3_isCase_21 : decode cX3_isCase 21 = .ok (.iaload, 1) := by decide +kernel
theorem dX3_isCase_22 : decode cX3_isCase 22 = .ok (.iadd, 1) := by decide +kernel
theorem dX3_isCase_23 : decode cX3_isCase 23 = .ok (.iaload, 1) := by decide +kernel
theorem dX3_isCase_24 : decode cX3_isCase 24 = .ok (.istore 6, 2) := by decide +kernel
theorem dX3_isCase_26 : decode cX3_isCase 26 = .ok (.iload 6, 2) := by decide +kernel
theorem dX3_isCase_28 : decode cX3_isCase 28 = .ok (.invokestatic 125, 3) := by decide +kernel
theorem dX3_isCase_31 : decode cX3_isCase 31 = .ok (.lstore 7, 2) := by decide +kernel
theorem dX3_isCase_33 : decode cX3_isCase 33 = .ok (.aload_n 0, 1) := by decide +kernel
theorem dX3_isCase_34 : decode cX3_isCase 34 = .ok (.getfield 32, 3) := by decide +kernel
theorem dX3_isCase_37 : decode cX3_isCase 37 = .ok (.iload_n 1, 1) := by decide +kernel
theorem dX3_isCase_38 : decode cX3_isCase 38 = .ok (.iaload, 1) := by decide +kernel
theorem dX3_isCase_39 : decode cX3_isCase 39 = .ok (.tableswitch 103 1 3 #[25, 38, 59], 25) := by decide +kernel
theorem dX3_isCase_64 : decode cX3_isCase 64 = .ok (.lload_n 2, 1) := by decide +kernel
theorem dX3_isCase_65 : decode cX3_isCase 65 = .ok (.lload 4, 2) := by decide +kernel
theorem dX3_isCase_67 : decode cX3_isCase 67 = .ok (.lcmp, 1) := by decide +kernel
theorem dX3_isCase_68 : decode cX3_isCase 68 = .ok (.ifCond .eq 7, 3) := by decide +kernel
theorem dX3_isCase_71 : decode cX3_isCase 71 = .ok (.iconst 1, 1) := by decide +kernel
theorem dX3_isCase_72 : decode cX3_isCase 72 = .ok (.goto 4, 3) := by decide +kernel
theorem dX3_isCase_75 : decode cX3_isCase 75 = .ok (.iconst 0, 1) := by decide +kernel
theorem dX3_isCase_76 : decode cX3_isCase 76 = .ok (.ireturn, 1) := by decide +kernel
theorem dX3_isCase_77 : decode cX3_isCase 77 = .ok (.lload 4, 2) := by decide +kernel
theorem dX3_isCase_79 : decode cX3_isCase 79 = .ok (.lload 7, 2) := by decide +kernel
theorem dX3_isCase_81 : decode cX3_isCase 81 = .ok (.lcmp, 1) := by decide +kernel
theorem dX3_isCase_82 : decode cX3_isCase 82 = .ok (.ifCond .ne 14, 3) := by decide +kernel
theorem dX3_isCase_85 : decode cX3_isCase 85 = .ok (.lload_n 2, 1) := by decide +kernel
theorem dX3_isCase_86 : decode cX3_isCase 86 = .ok (.lload 7, 2) := by decide +kernel
theorem dX3_isCase_88 : decode cX3_isCase 88 = .ok (.lcmp, 1) := by decide +kernel
theorem dX3_isCase_89 : decode cX3_isCase 89 = .ok (.ifCond .eq 7, 3) := by decide +kernel
theorem dX3_isCase_92 : decode cX3_isCase 92 = .ok (.iconst 1, 1) := by decide +kernel
theorem dX3_isCase_93 : decode cX3_isCase 93 = .ok (.goto 4, 3) := by decide +kernel
theorem dX3_isCase_96 : decode cX3_isCase 96 = .ok (.iconst 0, 1) := by decide +kernel
theorem dX3_isCase_97 : decode cX3_isCase 97 = .ok (.ireturn, 1) := by decide +kernel
theorem dX3_isCase_98 : decode cX3_isCase 98 = .ok (.iload 6, 2) := by decide +kernel
theorem dX3_isCase_100 : decode cX3_isCase 100 = .ok (.iconst 5, 1) := by decide +kernel
theorem dX3_isCase_101 : decode cX3_isCase 101 = .ok (.if_icmp .ne 28, 3) := by decide +kernel
theorem dX3_isCase_104 : decode cX3_isCase 104 = .ok (.lload_n 2, 1) := by decide +kernel
theorem dX3_isCase_105 : decode cX3_isCase 105 = .ok (.ldc2_w 129, 3) := by decide +kernel
theorem dX3_isCase_108 : decode cX3_isCase 108 = .ok (.lcmp, 1) := by decide +kernel
theorem dX3_isCase_109 : decode cX3_isCase 109 = .ok (.ifCond .ne 16, 3) := by decide +kernel
theorem dX3_isCase_112 : decode cX3_isCase 112 = .ok (.lload 4, 2) := by decide +kernel
theorem dX3_isCase_114 : decode cX3_isCase 114 = .ok (.ldc2_w 129, 3) := by decide +kernel
theorem dX3_isCase_117 : decode cX3_isCase 117 = .ok (.lcmp, 1) := by decide +kernel
theorem dX3_isCase_118 : decode cX3_isCase 118 = .ok (.ifCond .eq 7, 3) := by decide +kernel
theorem dX3_isCase_121 : decode cX3_isCase 121 = .ok (.iconst 1, 1) := by decide +kernel
theorem dX3_isCase_122 : decode cX3_isCase 122 = .ok (.goto 19, 3) := by decide +kernel
theorem dX3_isCase_125 : decode cX3_isCase 125 = .ok (.iconst 0, 1) := by decide +kernel
theorem dX3_isCase_126 : decode cX3_isCase 126 = .ok (.goto 15, 3) := by decide +kernel
theorem dX3_isCase_129 : decode cX3_isCase 129 = .ok (.lload 4, 2) := by decide +kernel
theorem dX3_isCase_131 : decode cX3_isCase 131 = .ok (.lload_n 2, 1) := by decide +kernel
theorem dX3_isCase_132 : decode cX3_isCase 132 = .ok (.lcmp, 1) := by decide +kernel
theorem dX3_isCase_133 : decode cX3_isCase 133 = .ok (.ifCond .le 7, 3) := by decide +kernel
theorem dX3_isCase_136 : decode cX3_isCase 136 = .ok (.iconst 1, 1) := by decide +kernel
theorem dX3_isCase_137 : decode cX3_isCase 137 = .ok (.goto 4, 3) := by decide +kernel
theorem dX3_isCase_140 : decode cX3_isCase 140 = .ok (.iconst 0, 1) := by decide +kernel
theorem dX3_isCase_141 : decode cX3_isCase 141 = .ok (.ireturn, 1) := by decide +kernel
theorem dX3_isCase_142 : decode cX3_isCase 142 = .ok (.iconst 1, 1) := by decide +kernel
theorem dX3_isCase_143 : decode cX3_isCase 143 = .ok (.ireturn, 1) := by decide +kernel
theorem dX3_remember_0 : decode cX3_remember 0 = .ok (.aload_n 0, 1) := by decide +kernel
theorem dX3_remember_1 : decode cX3_remember 1 = .ok (.getfield 116, 3) := by decide +kernel
theorem dX3_remember_4 : decode cX3_remember 4 = .ok (.aload_n 0, 1) := by decide +kernel
theorem dX3_remember_5 : decode cX3_remember 5 = .ok (.getfield 119, 3) := by decide +kernel
theorem dX3_remember_8 : decode cX3_remember 8 = .ok (.iadd, 1) := by decide +kernel
theorem dX3_remember_9 : decode cX3_remember 9 = .ok (.bipush 100, 2) := by decide +kernel
theorem dX3_remember_11 : decode cX3_remember 11 = .ok (.irem, 1) := by decide +kernel
theorem dX3_remember_12 : decode cX3_remember 12 = .ok (.istore 4, 2) := by decide +kernel
theorem dX3_remember_14 : decode cX3_remember 14 = .ok (.aload_n 0, 1) := by decide +kernel
theorem dX3_remember_15 : decode cX3_remember 15 = .ok (.getfield 15, 3) := by decide +kernel
theorem dX3_remember_18 : decode cX3_remember 18 = .ok (.iload 4, 2) := by decide +kernel
theorem dX3_remember_20 : decode cX3_remember 20 = .ok (.aload_n 0, 1) := by decide +kernel
theorem dX3_remember_21 : decode cX3_remember 21 = .ok (.getfield 85, 3) := by decide +kernel
theorem dX3_remember_24 : decode cX3_remember 24 = .ok (.iastore, 1) := by decide +kernel
theorem dX3_remember_25 : decode cX3_remember 25 = .ok (.aload_n 0, 1) := by decide +kernel
theorem dX3_remember_26 : decode cX3_remember 26 = .ok (.getfield 19, 3) := by decide +kernel
theorem dX3_remember_29 : decode cX3_remember 29 = .ok (.iload 4, 2) := by decide +kernel
theorem dX3_remember_31 : decode cX3_remember 31 = .ok (.iload_n 1, 1) := by decide +kernel
theorem dX3_remember_32 : decode cX3_remember 32 = .ok (.iastore, 1) := by decide +kernel
theorem dX3_remember_33 : decode cX3_remember 33 = .ok (.aload_n 0, 1) := by decide +kernel
theorem dX3_remember_34 : decode cX3_remember 34 = .ok (.getfield 22, 3) := by decide +kernel
theorem dX3_remember_37 : decode cX3_remember 37 = .ok (.iload 4, 2) := by decide +kernel
theorem dX3_remember_39 : decode cX3_remember 39 = .ok (.lload_n 2, 1) := by decide +kernel
theorem dX3_remember_40 : decode cX3_remember 40 = .ok (.lastore, 1) := by decide +kernel
theorem dX3_remember_41 : decode cX3_remember 41 = .ok (.aload_n 0, 1) := by decide +kernel
theorem dX3_remember_42 : decode cX3_remember 42 = .ok (.getfield 119, 3) := by decide +kernel
theorem dX3_remember_45 : decode cX3_remember 45 = .ok (.bipush 100, 2) := by decide +kernel
theorem dX3_remember_47 : decode cX3_remember 47 = .ok (.if_icmp .ge 16, 3) := by decide +kernel
theorem dX3_remember_50 : decode cX3_remember 50 = .ok (.aload_n 0, 1) := by decide +kernel
theorem dX3_remember_51 : decode cX3_remember 51 = .ok (.dup, 1) := by decide +kernel
theorem dX3_remember_52 : decode cX3_remember 52 = .ok (.getfield 119, 3) := by decide +kernel
theorem dX3_remember_55 : decode cX3_remember 55 = .ok (.iconst 1, 1) := by decide +kernel
theorem dX3_remember_56 : decode cX3_remember 56 = .ok (.iadd, 1) := by decide +kernel
theorem dX3_remember_57 : decode cX3_remember 57 = .ok (.putfield 119, 3) := by decide +kernel
theorem dX3_remember_60 : decode cX3_remember 60 = .ok (.goto 16, 3) := by decide +kernel
theorem dX3_remember_63 : decode cX3_remember 63 = .ok (.aload_n 0, 1) := by decide +kernel
theorem dX3_remember_64 : decode cX3_remember 64 = .ok (.aload_n 0, 1) := by decide +kernel
theorem dX3_remember_65 : decode cX3_remember 65 = .ok (.getfield 116, 3) := by decide +kernel
theorem dX3_remember_68 : decode cX3_remember 68 = .ok (.iconst 1, 1) := by decide +kernel
theorem dX3_remember_69 : decode cX3_remember 69 = .ok (.iadd, 1) := by decide +kernel
theorem dX3_remember_70 : decode cX3_remember 70 = .ok (.bipush 100, 2) := by decide +kernel
theorem dX3_remember_72 : decode cX3_remember 72 = .ok (.irem, 1) := by decide +kernel
theorem dX3_remember_73 : decode cX3_remember 73 = .ok (.putfield 116, 3) := by decide +kernel
theorem dX3_remember_76 : decode cX3_remember 76 = .ok (.return_, 1) := by decide +kernel
theorem dX3_rowPart_0 : decode cX3_rowPart 0 = .ok (.aload_n 0, 1) := by decide +kernel
theorem dX3_rowPart_1 : decode cX3_rowPart 1 = .ok (.getfield 38, 3) := by decide +kernel
theorem dX3_rowPart_4 : decode cX3_rowPart 4 = .ok (.iload_n 1, 1) := by decide +kernel
theorem dX3_rowPart_5 : decode cX3_rowPart 5 = .ok (.bipush 6, 2) := by decide +kernel
theorem dX3_rowPart_7 : decode cX3_rowPart 7 = .ok (.imul, 1) := by decide +kernel
theorem dX3_rowPart_8 : decode cX3_rowPart 8 = .ok (.iload_n 2, 1) := by decide +kernel
theorem dX3_rowPart_9 : decode cX3_rowPart 9 = .ok (.iadd, 1) := by decide +kernel
theorem dX3_rowPart_10 : decode cX3_rowPart 10 = .ok (.iconst 4, 1) := by decide +kernel
theorem dX3_rowPart_11 : decode cX3_rowPart 11 = .ok (.imul, 1) := by decide +kernel
theorem dX3_rowPart_12 : decode cX3_rowPart 12 = .ok (.iload_n 3, 1) := by decide +kernel
theorem dX3_rowPart_13 : decode cX3_rowPart 13 = .ok (.iadd, 1) := by decide +kernel
theorem dX3_rowPart_14 : decode cX3_rowPart 14 = .ok (.laload, 1) := by decide +kernel
theorem dX3_rowPart_15 : decode cX3_rowPart 15 = .ok (.lreturn, 1) := by decide +kernel
theorem dX3_swapSlots_0 : decode cX3_swapSlots 0 = .ok (.iconst 0, 1) := by decide +kernel
theorem dX3_swapSlots_1 : decode cX3_swapSlots 1 = .ok (.istore 4, 2) := by decide +kernel
theorem dX3_swapSlots_3 : decode cX3_swapSlots 3 = .ok (.iconst 0, 1) := by decide +kernel
theorem dX3_swapSlots_4 : decode cX3_swapSlots 4 = .ok (.istore 5, 2) := by decide +kernel
theorem dX3_swapSlots_6 : decode cX3_swapSlots 6 = .ok (.iload 5, 2) := by decide +kernel
theorem dX3_swapSlots_8 : decode cX3_swapSlots 8 = .ok (.aload_n 1, 1) := by decide +kernel
theorem dX3_swapSlots_9 : decode cX3_swapSlots 9 = .ok (.getfield 91, 3) := by decide +kernel
theorem dX3_swapSlots_12 : decode cX3_swapSlots 12 = .ok (.if_icmp .ge 129, 3) := by decide +kernel
theorem dX3_swapSlots_15 : decode cX3_swapSlots 15 = .ok (.aload_n 1, 1) := by decide +kernel
theorem dX3_swapSlots_16 : decode cX3_swapSlots 16 = .ok (.getfield 66, 3) := by decide +kernel
theorem dX3_swapSlots_19 : decode cX3_swapSlots 19 = .ok (.iload 5, 2) := by decide +kernel
theorem dX3_swapSlots_21 : decode cX3_swapSlots 21 = .ok (.iaload, 1) := by decide +kernel
theorem dX3_swapSlots_22 : decode cX3_swapSlots 22 = .ok (.iconst (-1), 1) := by decide +kernel
theorem dX3_swapSlots_23 : decode cX3_swapSlots 23 = .ok (.if_icmp .ne 7, 3) := by decide +kernel
theorem dX3_swapSlots_26 : decode cX3_swapSlots 26 = .ok (.iconst 0, 1) := by decide +kernel
theorem dX3_swapSlots_27 : decode cX3_swapSlots 27 = .ok (.goto 9, 3) := by decide +kernel
theorem dX3_swapSlots_30 : decode cX3_swapSlots 30 = .ok (.aload_n 1, 1) := by decide +kernel
theorem dX3_swapSlots_31 : decode cX3_swapSlots 31 = .ok (.iload 5, 2) := by decide +kernel
theorem dX3_swapSlots_33 : decode cX3_swapSlots 33 = .ok (.invokevirtual 94, 3) := by decide +kernel
theorem dX3_swapSlots_36 : decode cX3_swapSlots 36 = .ok (.istore 6, 2) := by decide +kernel
theorem dX3_swapSlots_38 : decode cX3_swapSlots 38 = .ok (.iconst 0, 1) := by decide +kernel
theorem dX3_swapSlots_39 : decode cX3_swapSlots 39 = .ok (.istore 7, 2) := by decide +kernel
theorem dX3_swapSlots_41 : decode cX3_swapSlots 41 = .ok (.iload 7, 2) := by decide +kernel
theorem dX3_swapSlots_43 : decode cX3_swapSlots 43 = .ok (.iload 6, 2) := by decide +kernel
theorem dX3_swapSlots_45 : decode cX3_swapSlots 45 = .ok (.if_icmp .ge 90, 3) := by decide +kernel
theorem dX3_swapSlots_48 : decode cX3_swapSlots 48 = .ok (.aload_n 1, 1) := by decide +kernel
theorem dX3_swapSlots_49 : decode cX3_swapSlots 49 = .ok (.getfield 41, 3) := by decide +kernel
theorem dX3_swapSlots_52 : decode cX3_swapSlots 52 = .ok (.iload 5, 2) := by decide +kernel
theorem dX3_swapSlots_54 : decode cX3_swapSlots 54 = .ok (.iaload, 1) := by decide +kernel
theorem dX3_swapSlots_55 : decode cX3_swapSlots 55 = .ok (.iload 7, 2) := by decide +kernel
theorem dX3_swapSlots_57 : decode cX3_swapSlots 57 = .ok (.iadd, 1) := by decide +kernel
theorem dX3_swapSlots_58 : decode cX3_swapSlots 58 = .ok (.istore 8, 2) := by decide +kernel
theorem dX3_swapSlots_60 : decode cX3_swapSlots 60 = .ok (.aload_n 1, 1) := by decide +kernel
theorem dX3_swapSlots_61 : decode cX3_swapSlots 61 = .ok (.getfield 98, 3) := by decide +kernel
theorem dX3_swapSlots_64 : decode cX3_swapSlots 64 = .ok (.iload 8, 2) := by decide +kernel
theorem dX3_swapSlots_66 : decode cX3_swapSlots 66 = .ok (.baload, 1) := by decide +kernel
theorem dX3_swapSlots_67 : decode cX3_swapSlots 67 = .ok (.ifCond .eq 62, 3) := by decide +kernel
theorem dX3_swapSlots_70 : decode cX3_swapSlots 70 = .ok (.aload_n 1, 1) := by decide +kernel
theorem dX3_swapSlots_71 : decode cX3_swapSlots 71 = .ok (.getfield 46, 3) := by decide +kernel
theorem dX3_swapSlots_74 : decode cX3_swapSlots 74 = .ok (.iload 8, 2) := by decide +kernel
theorem dX3_swapSlots_76 : decode cX3_swapSlots 76 = .ok (.laload, 1) := by decide +kernel
theorem dX3_swapSlots_77 : decode cX3_swapSlots 77 = .ok (.iload_n 2, 1) := by decide +kernel
theorem dX3_swapSlots_78 : decode cX3_swapSlots 78 = .ok (.i2l, 1) := by decide +kernel
theorem dX3_swapSlots_79 : decode cX3_swapSlots 79 = .ok (.lcmp, 1) := by decide +kernel
theorem dX3_swapSlots_80 : decode cX3_swapSlots 80 = .ok (.ifCond .eq 16, 3) := by decide +kernel
theorem dX3_swapSlots_83 : decode cX3_swapSlots 83 = .ok (.aload_n 1, 1) := by decide +kernel
theorem dX3_swapSlots_84 : decode cX3_swapSlots 84 = .ok (.getfield 46, 3) := by decide +kernel
theorem dX3_swapSlots_87 : decode cX3_swapSlots 87 = .ok (.iload 8, 2) := by decide +kernel
theorem dX3_swapSlots_89 : decode cX3_swapSlots 89 = .ok (.laload, 1) := by decide +kernel
theorem dX3_swapSlots_90 : decode cX3_swapSlots 90 = .ok (.iload_n 3, 1) := by decide +kernel
theorem dX3_swapSlots_91 : decode cX3_swapSlots 91 = .ok (.i2l, 1) := by decide +kernel
theorem dX3_swapSlots_92 : decode cX3_swapSlots 92 = .ok (.lcmp, 1) := by decide +kernel
theorem dX3_swapSlots_93 : decode cX3_swapSlots 93 = .ok (.ifCond .ne 36, 3) := by decide +kernel
theorem dX3_swapSlots_96 : decode cX3_swapSlots 96 = .ok (.aload_n 0, 1) := by decide +kernel
theorem dX3_swapSlots_97 : decode cX3_swapSlots 97 = .ok (.aload_n 1, 1) := by decide +kernel
theorem dX3_swapSlots_98 : decode cX3_swapSlots 98 = .ok (.iload 5, 2) := by decide +kernel
theorem dX3_swapSlots_100 : decode cX3_swapSlots 100 = .ok (.iload 7, 2) := by decide +kernel
theorem dX3_swapSlots_102 : decode cX3_swapSlots 102 = .ok (.aload_n 1, 1) := by decide +kernel
theorem dX3_swapSlots_103 : decode cX3_swapSlots 103 = .ok (.getfield 46, 3) := by decide +kernel
theorem dX3_swapSlots_106 : decode cX3_swapSlots 106 = .ok (.iload 8, 2) := by decide +kernel
theorem dX3_swapSlots_108 : decode cX3_swapSlots 108 = .ok (.laload, 1) := by decide +kernel
theorem dX3_swapSlots_109 : decode cX3_swapSlots 109 = .ok (.iload_n 2, 1) := by decide +kernel
theorem dX3_swapSlots_110 : decode cX3_swapSlots 110 = .ok (.i2l, 1) := by decide +kernel
theorem dX3_swapSlots_111 : decode cX3_swapSlots 111 = .ok (.lcmp, 1) := by decide +kernel
theorem dX3_swapSlots_112 : decode cX3_swapSlots 112 = .ok (.ifCond .ne 8, 3) := by decide +kernel
theorem dX3_swapSlots_115 : decode cX3_swapSlots 115 = .ok (.iload_n 3, 1) := by decide +kernel
theorem dX3_swapSlots_116 : decode cX3_swapSlots 116 = .ok (.i2l, 1) := by decide +kernel
theorem dX3_swapSlots_117 : decode cX3_swapSlots 117 = .ok (.goto 5, 3) := by decide +kernel
theorem dX3_swapSlots_120 : decode cX3_swapSlots 120 = .ok (.iload_n 2, 1) := by decide +kernel
theorem dX3_swapSlots_121 : decode cX3_swapSlots 121 = .ok (.i2l, 1) := by decide +kernel
theorem dX3_swapSlots_122 : decode cX3_swapSlots 122 = .ok (.invokevirtual 101, 3) := by decide +kernel
theorem dX3_swapSlots_125 : decode cX3_swapSlots 125 = .ok (.pop, 1) := by decide +kernel
theorem dX3_swapSlots_126 : decode cX3_swapSlots 126 = .ok (.iinc 4 1, 3) := by decide +kernel
theorem dX3_swapSlots_129 : decode cX3_swapSlots 129 = .ok (.iinc 7 1, 3) := by decide +kernel
theorem dX3_swapSlots_132 : decode cX3_swapSlots 132 = .ok (.goto (-91), 3) := by decide +kernel
theorem dX3_swapSlots_135 : decode cX3_swapSlots 135 = .ok (.iinc 5 1, 3) := by decide +kernel
theorem dX3_swapSlots_138 : decode cX3_swapSlots 138 = .ok (.goto (-132), 3) := by decide +kernel
theorem dX3_swapSlots_141 : decode cX3_swapSlots 141 = .ok (.iload 4, 2) := by decide +kernel
theorem dX3_swapSlots_143 : decode cX3_swapSlots 143 = .ok (.ireturn, 1) := by decide +kernel
theorem dX3_swapStatics_0 : decode cX3_swapStatics 0 = .ok (.iconst 0, 1) := by decide +kernel
theorem dX3_swapStatics_1 : decode cX3_swapStatics 1 = .ok (.istore 4, 2) := by decide +kernel
theorem dX3_swapStatics_3 : decode cX3_swapStatics 3 = .ok (.iconst 0, 1) := by decide +kernel
theorem dX3_swapStatics_4 : decode cX3_swapStatics 4 = .ok (.istore 5, 2) := by decide +kernel
theorem dX3_swapStatics_6 : decode cX3_swapStatics 6 = .ok (.iload 5, 2) := by decide +kernel
theorem dX3_swapStatics_8 : decode cX3_swapStatics 8 = .ok (.aload_n 0, 1) := by decide +kernel
theorem dX3_swapStatics_9 : decode cX3_swapStatics 9 = .ok (.getfield 9, 3) := by decide +kernel
theorem dX3_swapStatics_12 : decode cX3_swapStatics 12 = .ok (.invokevirtual 105, 3) := by decide +kernel
theorem dX3_swapStatics_15 : decode cX3_swapStatics 15 = .ok (.if_icmp .ge 78, 3) := by decide +kernel
theorem dX3_swapStatics_18 : decode cX3_swapStatics 18 = .ok (.aload_n 0, 1) := by decide +kernel
theorem dX3_swapStatics_19 : decode cX3_swapStatics 19 = .ok (.getfield 9, 3) := by decide +kernel
theorem dX3_swapStatics_22 : decode cX3_swapStatics 22 = .ok (.iload 5, 2) := by decide +kernel
theorem dX3_swapStatics_24 : decode cX3_swapStatics 24 = .ok (.invokevirtual 109, 3) := by decide +kernel
theorem dX3_swapStatics_27 : decode cX3_swapStatics 27 = .ok (.ifCond .eq 60, 3) := by decide +kernel
theorem dX3_swapStatics_30 : decode cX3_swapStatics 30 = .ok (.aload_n 1, 1) := by decide +kernel
theorem dX3_swapStatics_31 : decode cX3_swapStatics 31 = .ok (.getfield 88, 3) := by decide +kernel
theorem dX3_swapStatics_34 : decode cX3_swapStatics 34 = .ok (.iload 5, 2) := by decide +kernel
theorem dX3_swapStatics_36 : decode cX3_swapStatics 36 = .ok (.laload, 1) := by decide +kernel
theorem dX3_swapStatics_37 : decode cX3_swapStatics 37 = .ok (.iload_n 2, 1) := by decide +kernel
theorem dX3_swapStatics_38 : decode cX3_swapStatics 38 = .ok (.i2l, 1) := by decide +kernel
theorem dX3_swapStatics_39 : decode cX3_swapStatics 39 = .ok (.lcmp, 1) := by decide +kernel
theorem dX3_swapStatics_40 : decode cX3_swapStatics 40 = .ok (.ifCond .eq 16, 3) := by decide +kernel
theorem dX3_swapStatics_43 : decode cX3_swapStatics 43 = .ok (.aload_n 1, 1) := by decide +kernel
theorem dX3_swapStatics_44 : decode cX3_swapStatics 44 = .ok (.getfield 88, 3) := by decide +kernel
theorem dX3_swapStatics_47 : decode cX3_swapStatics 47 = .ok (.iload 5, 2) := by decide +kernel
theorem dX3_swapStatics_49 : decode cX3_swapStatics 49 = .ok (.laload, 1) := by decide +kernel
theorem dX3_swapStatics_50 : decode cX3_swapStatics 50 = .ok (.iload_n 3, 1) := by decide +kernel
theorem dX3_swapStatics_51 : decode cX3_swapStatics 51 = .ok (.i2l, 1) := by decide +kernel
theorem dX3_swapStatics_52 : decode cX3_swapStatics 52 = .ok (.lcmp, 1) := by decide +kernel
theorem dX3_swapStatics_53 : decode cX3_swapStatics 53 = .ok (.ifCond .ne 34, 3) := by decide +kernel
theorem dX3_swapStatics_56 : decode cX3_swapStatics 56 = .ok (.aload_n 0, 1) := by decide +kernel
theorem dX3_swapStatics_57 : decode cX3_swapStatics 57 = .ok (.aload_n 1, 1) := by decide +kernel
theorem dX3_swapStatics_58 : decode cX3_swapStatics 58 = .ok (.iload 5, 2) := by decide +kernel
theorem dX3_swapStatics_60 : decode cX3_swapStatics 60 = .ok (.aload_n 1, 1) := by decide +kernel
theorem dX3_swapStatics_61 : decode cX3_swapStatics 61 = .ok (.getfield 88, 3) := by decide +kernel
theorem dX3_swapStatics_64 : decode cX3_swapStatics 64 = .ok (.iload 5, 2) := by decide +kernel
theorem dX3_swapStatics_66 : decode cX3_swapStatics 66 = .ok (.laload, 1) := by decide +kernel
theorem dX3_swapStatics_67 : decode cX3_swapStatics 67 = .ok (.iload_n 2, 1) := by decide +kernel
theorem dX3_swapStatics_68 : decode cX3_swapStatics 68 = .ok (.i2l, 1) := by decide +kernel
theorem dX3_swapStatics_69 : decode cX3_swapStatics 69 = .ok (.lcmp, 1) := by decide +kernel
theorem dX3_swapStatics_70 : decode cX3_swapStatics 70 = .ok (.ifCond .ne 8, 3) := by decide +kernel
theorem dX3_swapStatics_73 : decode cX3_swapStatics 73 = .ok (.iload_n 3, 1) := by decide +kernel
theorem dX3_swapStatics_74 : decode cX3_swapStatics 74 = .ok (.i2l, 1) := by decide +kernel
theorem dX3_swapStatics_75 : decode cX3_swapStatics 75 = .ok (.goto 5, 3) := by decide +kernel
theorem dX3_swapStatics_78 : decode cX3_swapStatics 78 = .ok (.iload_n 2, 1) := by decide +kernel
theorem dX3_swapStatics_79 : decode cX3_swapStatics 79 = .ok (.i2l, 1) := by decide +kernel
theorem dX3_swapStatics_80 : decode cX3_swapStatics 80 = .ok (.invokevirtual 112, 3) := by decide +kernel
theorem dX3_swapStatics_83 : decode cX3_swapStatics 83 = .ok (.pop, 1) := by decide +kernel
theorem dX3_swapStatics_84 : decode cX3_swapStatics 84 = .ok (.iinc 4 1, 3) := by decide +kernel
theorem dX3_swapStatics_87 : decode cX3_swapStatics 87 = .ok (.iinc 5 1, 3) := by decide +kernel
theorem dX3_swapStatics_90 : decode cX3_swapStatics 90 = .ok (.goto (-84), 3) := by decide +kernel
theorem dX3_swapStatics_93 : decode cX3_swapStatics 93 = .ok (.iload 4, 2) := by decide +kernel
theorem dX3_swapStatics_95 : decode cX3_swapStatics 95 = .ok (.ireturn, 1) := by decide +kernel
theorem dX3_takeBack_0 : decode cX3_takeBack 0 = .ok (.aload_n 0, 1) := by decide +kernel
theorem dX3_takeBack_1 : decode cX3_takeBack 1 = .ok (.getfield 119, 3) := by decide +kernel
theorem dX3_takeBack_4 : decode cX3_takeBack 4 = .ok (.ifCond .ne 5, 3) := by decide +kernel
theorem dX3_takeBack_7 : decode cX3_takeBack 7 = .ok (.iconst (-1), 1) := by decide +kernel
theorem dX3_takeBack_8 : decode cX3_takeBack 8 = .ok (.ireturn, 1) := by decide +kernel
theorem dX3_takeBack_9 : decode cX3_takeBack 9 = .ok (.aload_n 0, 1) := by decide +kernel
theorem dX3_takeBack_10 : decode cX3_takeBack 10 = .ok (.dup, 1) := by decide +kernel
theorem dX3_takeBack_11 : decode cX3_takeBack 11 = .ok (.getfield 119, 3) := by decide +kernel
theorem dX3_takeBack_14 : decode cX3_takeBack 14 = .ok (.iconst 1, 1) := by decide +kernel
theorem dX3_takeBack_15 : decode cX3_takeBack 15 = .ok (.isub, 1) := by decide +kernel
theorem dX3_takeBack_16 : decode cX3_takeBack 16 = .ok (.putfield 119, 3) := by decide +kernel
theorem dX3_takeBack_19 : decode cX3_takeBack 19 = .ok (.aload_n 0, 1) := by decide +kernel
theorem dX3_takeBack_20 : decode cX3_takeBack 20 = .ok (.getfield 116, 3) := by decide +kernel
theorem dX3_takeBack_23 : decode cX3_takeBack 23 = .ok (.aload_n 0, 1) := by decide +kernel
theorem dX3_takeBack_24 : decode cX3_takeBack 24 = .ok (.getfield 119, 3) := by decide +kernel
theorem dX3_takeBack_27 : decode cX3_takeBack 27 = .ok (.iadd, 1) := by decide +kernel
theorem dX3_takeBack_28 : decode cX3_takeBack 28 = .ok (.bipush 100, 2) := by decide +kernel
theorem dX3_takeBack_30 : decode cX3_takeBack 30 = .ok (.irem, 1) := by decide +kernel
theorem dX3_takeBack_31 : decode cX3_takeBack 31 = .ok (.istore_n 2, 1) := by decide +kernel
theorem dX3_takeBack_32 : decode cX3_takeBack 32 = .ok (.aload_n 0, 1) := by decide +kernel
theorem dX3_takeBack_33 : decode cX3_takeBack 33 = .ok (.getfield 19, 3) := by decide +kernel
theorem dX3_takeBack_36 : decode cX3_takeBack 36 = .ok (.iload_n 2, 1) := by decide +kernel
theorem dX3_takeBack_37 : decode cX3_takeBack 37 = .ok (.iaload, 1) := by decide +kernel
theorem dX3_takeBack_38 : decode cX3_takeBack 38 = .ok (.ifCond .lt 23, 3) := by decide +kernel
theorem dX3_takeBack_41 : decode cX3_takeBack 41 = .ok (.aload_n 1, 1) := by decide +kernel
theorem dX3_takeBack_42 : decode cX3_takeBack 42 = .ok (.getfield 46, 3) := by decide +kernel
theorem dX3_takeBack_45 : decode cX3_takeBack 45 = .ok (.aload_n 0, 1) := by decide +kernel
theorem dX3_takeBack_46 : decode cX3_takeBack 46 = .ok (.getfield 19, 3) := by decide +kernel
theorem dX3_takeBack_49 : decode cX3_takeBack 49 = .ok (.iload_n 2, 1) := by decide +kernel
theorem dX3_takeBack_50 : decode cX3_takeBack 50 = .ok (.iaload, 1) := by decide +kernel
theorem dX3_takeBack_51 : decode cX3_takeBack 51 = .ok (.aload_n 0, 1) := by decide +kernel
theorem dX3_takeBack_52 : decode cX3_takeBack 52 = .ok (.getfield 22, 3) := by decide +kernel
theorem dX3_takeBack_55 : decode cX3_takeBack 55 = .ok (.iload_n 2, 1) := by decide +kernel
theorem dX3_takeBack_56 : decode cX3_takeBack 56 = .ok (.laload, 1) := by decide +kernel
theorem dX3_takeBack_57 : decode cX3_takeBack 57 = .ok (.lastore, 1) := by decide +kernel
theorem dX3_takeBack_58 : decode cX3_takeBack 58 = .ok (.goto 22, 3) := by decide +kernel
theorem dX3_takeBack_61 : decode cX3_takeBack 61 = .ok (.aload_n 1, 1) := by decide +kernel
theorem dX3_takeBack_62 : decode cX3_takeBack 62 = .ok (.getfield 88, 3) := by decide +kernel
theorem dX3_takeBack_65 : decode cX3_takeBack 65 = .ok (.iconst (-1), 1) := by decide +kernel
theorem dX3_takeBack_66 : decode cX3_takeBack 66 = .ok (.aload_n 0, 1) := by decide +kernel
theorem dX3_takeBack_67 : decode cX3_takeBack 67 = .ok (.getfield 19, 3) := by decide +kernel
theorem dX3_takeBack_70 : decode cX3_takeBack 70 = .ok (.iload_n 2, 1) := by decide +kernel
theorem dX3_takeBack_71 : decode cX3_takeBack 71 = .ok (.iaload, 1) := by decide +kernel
theorem dX3_takeBack_72 : decode cX3_takeBack 72 = .ok (.isub, 1) := by decide +kernel
theorem dX3_takeBack_73 : decode cX3_takeBack 73 = .ok (.aload_n 0, 1) := by decide +kernel
theorem dX3_takeBack_74 : decode cX3_takeBack 74 = .ok (.getfield 22, 3) := by decide +kernel
theorem dX3_takeBack_77 : decode cX3_takeBack 77 = .ok (.iload_n 2, 1) := by decide +kernel
theorem dX3_takeBack_78 : decode cX3_takeBack 78 = .ok (.laload, 1) := by decide +kernel
theorem dX3_takeBack_79 : decode cX3_takeBack 79 = .ok (.lastore, 1) := by decide +kernel
theorem dX3_takeBack_80 : decode cX3_takeBack 80 = .ok (.aload_n 0, 1) := by decide +kernel
theorem dX3_takeBack_81 : decode cX3_takeBack 81 = .ok (.getfield 15, 3) := by decide +kernel
theorem dX3_takeBack_84 : decode cX3_takeBack 84 = .ok (.iload_n 2, 1) := by decide +kernel
theorem dX3_takeBack_85 : decode cX3_takeBack 85 = .ok (.iaload, 1) := by decide +kernel
theorem dX3_takeBack_86 : decode cX3_takeBack 86 = .ok (.ireturn, 1) := by decide +kernel
theorem dX3_writeSlot_0 : decode cX3_writeSlot 0 = .ok (.aload_n 1, 1) := by decide +kernel
theorem dX3_writeSlot_1 : decode cX3_writeSlot 1 = .ok (.getfield 41, 3) := by decide +kernel
theorem dX3_writeSlot_4 : decode cX3_writeSlot 4 = .ok (.iload_n 2, 1) := by decide +kernel
theorem dX3_writeSlot_5 : decode cX3_writeSlot 5 = .ok (.iaload, 1) := by decide +kernel
theorem dX3_writeSlot_6 : decode cX3_writeSlot 6 = .ok (.iload_n 3, 1) := by decide +kernel
theorem dX3_writeSlot_7 : decode cX3_writeSlot 7 = .ok (.iadd, 1) := by decide +kernel
theorem dX3_writeSlot_8 : decode cX3_writeSlot 8 = .ok (.istore 6, 2) := by decide +kernel
theorem dX3_writeSlot_10 : decode cX3_writeSlot 10 = .ok (.aload_n 1, 1) := by decide +kernel
theorem dX3_writeSlot_11 : decode cX3_writeSlot 11 = .ok (.getfield 46, 3) := by decide +kernel
theorem dX3_writeSlot_14 : decode cX3_writeSlot 14 = .ok (.iload 6, 2) := by decide +kernel
theorem dX3_writeSlot_16 : decode cX3_writeSlot 16 = .ok (.laload, 1) := by decide +kernel
theorem dX3_writeSlot_17 : decode cX3_writeSlot 17 = .ok (.lstore 7, 2) := by decide +kernel
theorem dX3_writeSlot_19 : decode cX3_writeSlot 19 = .ok (.aload_n 1, 1) := by decide +kernel
theorem dX3_writeSlot_20 : decode cX3_writeSlot 20 = .ok (.getfield 46, 3) := by decide +kernel
theorem dX3_writeSlot_23 : decode cX3_writeSlot 23 = .ok (.iload 6, 2) := by decide +kernel
theorem dX3_writeSlot_25 : decode cX3_writeSlot 25 = .ok (.lload 4, 2) := by decide +kernel
theorem dX3_writeSlot_27 : decode cX3_writeSlot 27 = .ok (.lastore, 1) := by decide +kernel
theorem dX3_writeSlot_28 : decode cX3_writeSlot 28 = .ok (.aload_n 0, 1) := by decide +kernel
theorem dX3_writeSlot_29 : decode cX3_writeSlot 29 = .ok (.iload 6, 2) := by decide +kernel
theorem dX3_writeSlot_31 : decode cX3_writeSlot 31 = .ok (.lload 7, 2) := by decide +kernel
theorem dX3_writeSlot_33 : decode cX3_writeSlot 33 = .ok (.invokevirtual 49, 3) := by decide +kernel
theorem dX3_writeSlot_36 : decode cX3_writeSlot 36 = .ok (.iconst 0, 1) := by decide +kernel
theorem dX3_writeSlot_37 : decode cX3_writeSlot 37 = .ok (.istore 9, 2) := by decide +kernel
theorem dX3_writeSlot_39 : decode cX3_writeSlot 39 = .ok (.iload 9, 2) := by decide +kernel
theorem dX3_writeSlot_41 : decode cX3_writeSlot 41 = .ok (.aload_n 0, 1) := by decide +kernel
theorem dX3_writeSlot_42 : decode cX3_writeSlot 42 = .ok (.getfield 53, 3) := by decide +kernel
theorem dX3_writeSlot_45 : decode cX3_writeSlot 45 = .ok (.if_icmp .ge 127, 3) := by decide +kernel
theorem dX3_writeSlot_48 : decode cX3_writeSlot 48 = .ok (.aload_n 0, 1) := by decide +kernel
theorem dX3_writeSlot_49 : decode cX3_writeSlot 49 = .ok (.getfield 26, 3) := by decide +kernel
theorem dX3_writeSlot_52 : decode cX3_writeSlot 52 = .ok (.iload 9, 2) := by decide +kernel
theorem dX3_writeSlot_54 : decode cX3_writeSlot 54 = .ok (.iaload, 1) := by decide +kernel
theorem dX3_writeSlot_55 : decode cX3_writeSlot 55 = .ok (.bipush 6, 2) := by decide +kernel
theorem dX3_writeSlot_57 : decode cX3_writeSlot 57 = .ok (.imul, 1) := by decide +kernel
theorem dX3_writeSlot_58 : decode cX3_writeSlot 58 = .ok (.aload_n 0, 1) := by decide +kernel
theorem dX3_writeSlot_59 : decode cX3_writeSlot 59 = .ok (.getfield 29, 3) := by decide +kernel
theorem dX3_writeSlot_62 : decode cX3_writeSlot 62 = .ok (.iload 9, 2) := by decide +kernel
theorem dX3_writeSlot_64 : decode cX3_writeSlot 64 = .ok (.iaload, 1) := by decide +kernel
theorem dX3_writeSlot_65 : decode cX3_writeSlot 65 = .ok (.iadd, 1) := by decide +kernel
theorem dX3_writeSlot_66 : decode cX3_writeSlot 66 = .ok (.istore 10, 2) := by decide +kernel
theorem dX3_writeSlot_68 : decode cX3_writeSlot 68 = .ok (.aload_n 0, 1) := by decide +kernel
theorem dX3_writeSlot_69 : decode cX3_writeSlot 69 = .ok (.getfield 9, 3) := by decide +kernel
theorem dX3_writeSlot_72 : decode cX3_writeSlot 72 = .ok (.getfield 59, 3) := by decide +kernel
theorem dX3_writeSlot_75 : decode cX3_writeSlot 75 = .ok (.iload 10, 2) := by decide +kernel
theorem dX3_writeSlot_77 : decode cX3_writeSlot 77 = .ok (.baload, 1) := by decide +kernel
theorem dX3_writeSlot_78 : decode cX3_writeSlot 78 = .ok (.ifCond .ne 56, 3) := by decide +kernel
theorem dX3_writeSlot_81 : decode cX3_writeSlot 81 = .ok (.aload_n 0, 1) := by decide +kernel
theorem dX3_writeSlot_82 : decode cX3_writeSlot 82 = .ok (.getfield 9, 3) := by decide +kernel
theorem dX3_writeSlot_85 : decode cX3_writeSlot 85 = .ok (.getfield 63, 3) := by decide +kernel
theorem dX3_writeSlot_88 : decode cX3_writeSlot 88 = .ok (.iload 10, 2) := by decide +kernel
theorem dX3_writeSlot_90 : decode cX3_writeSlot 90 = .ok (.iaload, 1) := by decide +kernel
theorem dX3_writeSlot_91 : decode cX3_writeSlot 91 = .ok (.iload_n 3, 1) := by decide +kernel
theorem dX3_writeSlot_92 : decode cX3_writeSlot 92 = .ok (.if_icmp .ne 42, 3) := by decide +kernel
theorem dX3_writeSlot_95 : decode cX3_writeSlot 95 = .ok (.aload_n 1, 1) := by decide +kernel
theorem dX3_writeSlot_96 : decode cX3_writeSlot 96 = .ok (.getfield 66, 3) := by decide +kernel
theorem dX3_writeSlot_99 : decode cX3_writeSlot 99 = .ok (.iload_n 2, 1) := by decide +kernel
theorem dX3_writeSlot_100 : decode cX3_writeSlot 100 = .ok (.iaload, 1) := by decide +kernel
theorem dX3_writeSlot_101 : decode cX3_writeSlot 101 = .ok (.invokestatic 69, 3) := by decide +kernel
theorem dX3_writeSlot_104 : decode cX3_writeSlot 104 = .ok (.ifCond .ne 30, 3) := by decide +kernel
theorem dX3_writeSlot_107 : decode cX3_writeSlot 107 = .ok (.aload_n 0, 1) := by decide +kernel
theorem dX3_writeSlot_108 : decode cX3_writeSlot 108 = .ok (.getfield 9, 3) := by decide +kernel
theorem dX3_writeSlot_111 : decode cX3_writeSlot 111 = .ok (.aload_n 1, 1) := by decide +kernel
theorem dX3_writeSlot_112 : decode cX3_writeSlot 112 = .ok (.getfield 66, 3) := by decide +kernel
theorem dX3_writeSlot_115 : decode cX3_writeSlot 115 = .ok (.iload_n 2, 1) := by decide +kernel
theorem dX3_writeSlot_116 : decode cX3_writeSlot 116 = .ok (.iaload, 1) := by decide +kernel
theorem dX3_writeSlot_117 : decode cX3_writeSlot 117 = .ok (.aload_n 0, 1) := by decide +kernel
theorem dX3_writeSlot_118 : decode cX3_writeSlot 118 = .ok (.getfield 26, 3) := by decide +kernel
theorem dX3_writeSlot_121 : decode cX3_writeSlot 121 = .ok (.iload 9, 2) := by decide +kernel
theorem dX3_writeSlot_123 : decode cX3_writeSlot 123 = .ok (.iaload, 1) := by decide +kernel
theorem dX3_writeSlot_124 : decode cX3_writeSlot 124 = .ok (.invokevirtual 73, 3) := by decide +kernel
theorem dX3_writeSlot_127 : decode cX3_writeSlot 127 = .ok (.ifCond .eq 7, 3) := by decide +kernel
theorem dX3_writeSlot_130 : decode cX3_writeSlot 130 = .ok (.iconst 1, 1) := by decide +kernel
theorem dX3_writeSlot_131 : decode cX3_writeSlot 131 = .ok (.goto 4, 3) := by decide +kernel
theorem dX3_writeSlot_134 : decode cX3_writeSlot 134 = .ok (.iconst 0, 1) := by decide +kernel
theorem dX3_writeSlot_135 : decode cX3_writeSlot 135 = .ok (.istore 11, 2) := by decide +kernel
theorem dX3_writeSlot_137 : decode cX3_writeSlot 137 = .ok (.iload 11, 2) := by decide +kernel
theorem dX3_writeSlot_139 : decode cX3_writeSlot 139 = .ok (.ifCond .eq 27, 3) := by decide +kernel
theorem dX3_writeSlot_142 : decode cX3_writeSlot 142 = .ok (.aload_n 0, 1) := by decide +kernel
theorem dX3_writeSlot_143 : decode cX3_writeSlot 143 = .ok (.iload 9, 2) := by decide +kernel
theorem dX3_writeSlot_145 : decode cX3_writeSlot 145 = .ok (.lload 7, 2) := by decide +kernel
theorem dX3_writeSlot_147 : decode cX3_writeSlot 147 = .ok (.lload 4, 2) := by decide +kernel
theorem dX3_writeSlot_149 : decode cX3_writeSlot 149 = .ok (.invokevirtual 77, 3) := by decide +kernel
theorem dX3_writeSlot_152 : decode cX3_writeSlot 152 = .ok (.ifCond .eq 14, 3) := by decide +kernel
theorem dX3_writeSlot_155 : decode cX3_writeSlot 155 = .ok (.aload_n 0, 1) := by decide +kernel
theorem dX3_writeSlot_156 : decode cX3_writeSlot 156 = .ok (.iload 9, 2) := by decide +kernel
theorem dX3_writeSlot_158 : decode cX3_writeSlot 158 = .ok (.iload_n 2, 1) := by decide +kernel
theorem dX3_writeSlot_159 : decode cX3_writeSlot 159 = .ok (.lload 7, 2) := by decide +kernel
theorem dX3_writeSlot_161 : decode cX3_writeSlot 161 = .ok (.lload 4, 2) := by decide +kernel
theorem dX3_writeSlot_163 : decode cX3_writeSlot 163 = .ok (.invokevirtual 81, 3) := by decide +kernel
