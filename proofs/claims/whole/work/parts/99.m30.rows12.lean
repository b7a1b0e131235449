theorem dX6_readProducts_41 : decode cX6_readProducts 41 = .ok (.bipush 24, 2) := by decide +kernel
theorem dX6_readProducts_43 : decode cX6_readProducts 43 = .ok (.aload_n 0, 1) := by decide +kernel
theorem dX6_readProducts_44 : decode cX6_readProducts 44 = .ok (.getfield 9, 3) := by decide +kernel
theorem dX6_readProducts_47 : decode cX6_readProducts 47 = .ok (.getfield 45, 3) := by decide +kernel
theorem dX6_readProducts_50 : decode cX6_readProducts 50 = .ok (.iadd, 1) := by decide +kernel
theorem dX6_readProducts_51 : decode cX6_readProducts 51 = .ok (.bipush 17, 2) := by decide +kernel
theorem dX6_readProducts_53 : decode cX6_readProducts 53 = .ok (.isub, 1) := by decide +kernel
theorem dX6_readProducts_54 : decode cX6_readProducts 54 = .ok (.istore_n 2, 1) := by decide +kernel
theorem dX6_readProducts_55 : decode cX6_readProducts 55 = .ok (.aload_n 0, 1) := by decide +kernel
theorem dX6_readProducts_56 : decode cX6_readProducts 56 = .ok (.invokevirtual 115, 3) := by decide +kernel
theorem dX6_readProducts_59 : decode cX6_readProducts 59 = .ok (.ifCond .ne 5, 3) := by decide +kernel
theorem dX6_readProducts_62 : decode cX6_readProducts 62 = .ok (.iconst 0, 1) := by decide +kernel
theorem dX6_readProducts_63 : decode cX6_readProducts 63 = .ok (.ireturn, 1) := by decide +kernel
theorem dX6_readProducts_64 : decode cX6_readProducts 64 = .ok (.aload_n 0, 1) := by decide +kernel
theorem dX6_readProducts_65 : decode cX6_readProducts 65 = .ok (.getfield 9, 3) := by decide +kernel
theorem dX6_readProducts_68 : decode cX6_readProducts 68 = .ok (.invokevirtual 69, 3) := by decide +kernel
theorem dX6_readProducts_71 : decode cX6_readProducts 71 = .ok (.aload_n 0, 1) := by decide +kernel
theorem dX6_readProducts_72 : decode cX6_readProducts 72 = .ok (.invokevirtual 147, 3) := by decide +kernel
theorem dX6_readProducts_75 : decode cX6_readProducts 75 = .ok (.ifCond .ne 5, 3) := by decide +kernel
theorem dX6_readProducts_78 : decode cX6_readProducts 78 = .ok (.iconst 0, 1) := by decide +kernel
theorem dX6_readProducts_79 : decode cX6_readProducts 79 = .ok (.ireturn, 1) := by decide +kernel
theorem dX6_readProducts_80 : decode cX6_readProducts 80 = .ok (.aload_n 0, 1) := by decide +kernel
theorem dX6_readProducts_81 : decode cX6_readProducts 81 = .ok (.iload_n 2, 1) := by decide +kernel
theorem dX6_readProducts_82 : decode cX6_readProducts 82 = .ok (.iconst 0, 1) := by decide +kernel
theorem dX6_readProducts_83 : decode cX6_readProducts 83 = .ok (.iconst 0, 1) := by decide +kernel
theorem dX6_readProducts_84 : decode cX6_readProducts 84 = .ok (.lconst 0, 1) := by decide +kernel
theorem dX6_readProducts_85 : decode cX6_readProducts 85 = .ok (.invokevirtual 58, 3) := by decide +kernel
theorem dX6_readProducts_88 : decode cX6_readProducts 88 = .ok (.pop, 1) := by decide +kernel
theorem dX6_readProducts_89 : decode cX6_readProducts 89 = .ok (.iinc 1 1, 3) := by decide +kernel
theorem dX6_readProducts_92 : decode cX6_readProducts 92 = .ok (.goto (-81), 3) := by decide +kernel
theorem dX6_readProducts_95 : decode cX6_readProducts 95 = .ok (.iconst 1, 1) := by decide +kernel
theorem dX6_readProducts_96 : decode cX6_readProducts 96 = .ok (.ireturn, 1) := by decide +kernel
theorem dX6_readPromise_0 : decode cX6_readPromise 0 = .ok (.aload_n 0, 1) := by decide +kernel
theorem dX6_readPromise_1 : decode cX6_readPromise 1 = .ok (.invokevirtual 38, 3) := by decide +kernel
theorem dX6_readPromise_4 : decode cX6_readPromise 4 = .ok (.aload_n 0, 1) := by decide +kernel
theorem dX6_readPromise_5 : decode cX6_readPromise 5 = .ok (.invokevirtual 41, 3) := by decide +kernel
theorem dX6_readPromise_8 : decode cX6_readPromise 8 = .ok (.ifCond .eq 24, 3) := by decide +kernel
theorem dX6_readPromise_11 : decode cX6_readPromise 11 = .ok (.aload_n 0, 1) := by decide +kernel
theorem dX6_readPromise_12 : decode cX6_readPromise 12 = .ok (.getfield 9, 3) := by decide +kernel
theorem dX6_readPromise_15 : decode cX6_readPromise 15 = .ok (.getfield 45, 3) := by decide +kernel
theorem dX6_readPromise_18 : decode cX6_readPromise 18 = .ok (.ifCond .eq 10, 3) := by decide +kernel
theorem dX6_readPromise_21 : decode cX6_readPromise 21 = .ok (.aload_n 0, 1) := by decide +kernel
theorem dX6_readPromise_22 : decode cX6_readPromise 22 = .ok (.invokevirtual 51, 3) := by decide +kernel
theorem dX6_readPromise_25 : decode cX6_readPromise 25 = .ok (.ifCond .eq 7, 3) := by decide +kernel
theorem dX6_readPromise_28 : decode cX6_readPromise 28 = .ok (.iconst 1, 1) := by decide +kernel
theorem dX6_readPromise_29 : decode cX6_readPromise 29 = .ok (.goto 4, 3) := by decide +kernel
theorem dX6_readPromise_32 : decode cX6_readPromise 32 = .ok (.iconst 0, 1) := by decide +kernel
theorem dX6_readPromise_33 : decode cX6_readPromise 33 = .ok (.ireturn, 1) := by decide +kernel
theorem dX6_readQuestion_0 : decode cX6_readQuestion 0 = .ok (.aload_n 0, 1) := by decide +kernel
theorem dX6_readQuestion_1 : decode cX6_readQuestion 1 = .ok (.invokevirtual 38, 3) := by decide +kernel
theorem dX6_readQuestion_4 : decode cX6_readQuestion 4 = .ok (.aload_n 0, 1) := by decide +kernel
theorem dX6_readQuestion_5 : decode cX6_readQuestion 5 = .ok (.iconst 0, 1) := by decide +kernel
theorem dX6_readQuestion_6 : decode cX6_readQuestion 6 = .ok (.invokevirtual 54, 3) := by decide +kernel
theorem dX6_readQuestion_9 : decode cX6_readQuestion 9 = .ok (.ifCond .ne 5, 3) := by decide +kernel
theorem dX6_readQuestion_12 : decode cX6_readQuestion 12 = .ok (.iconst 0, 1) := by decide +kernel
theorem dX6_readQuestion_13 : decode cX6_readQuestion 13 = .ok (.ireturn, 1) := by decide +kernel
theorem dX6_readQuestion_14 : decode cX6_readQuestion 14 = .ok (.aload_n 0, 1) := by decide +kernel
theorem dX6_readQuestion_15 : decode cX6_readQuestion 15 = .ok (.bipush 36, 2) := by decide +kernel
theorem dX6_readQuestion_17 : decode cX6_readQuestion 17 = .ok (.iconst 0, 1) := by decide +kernel
theorem dX6_readQuestion_18 : decode cX6_readQuestion 18 = .ok (.iconst 0, 1) := by decide +kernel
theorem dX6_readQuestion_19 : decode cX6_readQuestion 19 = .ok (.lconst 0, 1) := by decide +kernel
theorem dX6_readQuestion_20 : decode cX6_readQuestion 20 = .ok (.invokevirtual 58, 3) := by decide +kernel
theorem dX6_readQuestion_23 : decode cX6_readQuestion 23 = .ok (.istore_n 1, 1) := by decide +kernel
theorem dX6_readQuestion_24 : decode cX6_readQuestion 24 = .ok (.aload_n 0, 1) := by decide +kernel
theorem dX6_readQuestion_25 : decode cX6_readQuestion 25 = .ok (.iconst 1, 1) := by decide +kernel
theorem dX6_readQuestion_26 : decode cX6_readQuestion 26 = .ok (.putfield 62, 3) := by decide +kernel
theorem dX6_readQuestion_29 : decode cX6_readQuestion 29 = .ok (.aload_n 0, 1) := by decide +kernel
theorem dX6_readQuestion_30 : decode cX6_readQuestion 30 = .ok (.iload_n 1, 1) := by decide +kernel
theorem dX6_readQuestion_31 : decode cX6_readQuestion 31 = .ok (.invokevirtual 66, 3) := by decide +kernel
theorem dX6_readQuestion_34 : decode cX6_readQuestion 34 = .ok (.ifCond .ne 5, 3) := by decide +kernel
theorem dX6_readQuestion_37 : decode cX6_readQuestion 37 = .ok (.iconst 0, 1) := by decide +kernel
theorem dX6_readQuestion_38 : decode cX6_readQuestion 38 = .ok (.ireturn, 1) := by decide +kernel
theorem dX6_readQuestion_39 : decode cX6_readQuestion 39 = .ok (.aload_n 0, 1) := by decide +kernel
theorem dX6_readQuestion_40 : decode cX6_readQuestion 40 = .ok (.getfield 9, 3) := by decide +kernel
theorem dX6_readQuestion_43 : decode cX6_readQuestion 43 = .ok (.getfield 45, 3) := by decide +kernel
theorem dX6_readQuestion_46 : decode cX6_readQuestion 46 = .ok (.bipush 35, 2) := by decide +kernel
theorem dX6_readQuestion_48 : decode cX6_readQuestion 48 = .ok (.if_icmp .ne 32, 3) := by decide +kernel
theorem dX6_readQuestion_51 : decode cX6_readQuestion 51 = .ok (.aload_n 0, 1) := by decide +kernel
theorem dX6_readQuestion_52 : decode cX6_readQuestion 52 = .ok (.getfield 9, 3) := by decide +kernel
theorem dX6_readQuestion_55 : decode cX6_readQuestion 55 = .ok (.invokevirtual 69, 3) := by decide +kernel
theorem dX6_readQuestion_58 : decode cX6_readQuestion 58 = .ok (.aload_n 0, 1) := by decide +kernel
theorem dX6_readQuestion_59 : decode cX6_readQuestion 59 = .ok (.invokevirtual 41, 3) := by decide +kernel
theorem dX6_readQuestion_62 : decode cX6_readQuestion 62 = .ok (.ifCond .ne 5, 3) := by decide +kernel
theorem dX6_readQuestion_65 : decode cX6_readQuestion 65 = .ok (.iconst 0, 1) := by decide +kernel
theorem dX6_readQuestion_66 : decode cX6_readQuestion 66 = .ok (.ireturn, 1) := by decide +kernel
theorem dX6_readQuestion_67 : decode cX6_readQuestion 67 = .ok (.aload_n 0, 1) := by decide +kernel
theorem dX6_readQuestion_68 : decode cX6_readQuestion 68 = .ok (.bipush 40, 2) := by decide +kernel
theorem dX6_readQuestion_70 : decode cX6_readQuestion 70 = .ok (.iconst 0, 1) := by decide +kernel
theorem dX6_readQuestion_71 : decode cX6_readQuestion 71 = .ok (.iload_n 1, 1) := by decide +kernel
theorem dX6_readQuestion_72 : decode cX6_readQuestion 72 = .ok (.lconst 0, 1) := by decide +kernel
theorem dX6_readQuestion_73 : decode cX6_readQuestion 73 = .ok (.invokevirtual 58, 3) := by decide +kernel
theorem dX6_readQuestion_76 : decode cX6_readQuestion 76 = .ok (.pop, 1) := by decide +kernel
theorem dX6_readQuestion_77 : decode cX6_readQuestion 77 = .ok (.goto 13, 3) := by decide +kernel
theorem dX6_readQuestion_80 : decode cX6_readQuestion 80 = .ok (.aload_n 0, 1) := by decide +kernel
theorem dX6_readQuestion_81 : decode cX6_readQuestion 81 = .ok (.bipush 41, 2) := by decide +kernel
theorem dX6_readQuestion_83 : decode cX6_readQuestion 83 = .ok (.iconst 0, 1) := by decide +kernel
theorem dX6_readQuestion_84 : decode cX6_readQuestion 84 = .ok (.iload_n 1, 1) := by decide +kernel
theorem dX6_readQuestion_85 : decode cX6_readQuestion 85 = .ok (.lconst 0, 1) := by decide +kernel
theorem dX6_readQuestion_86 : decode cX6_readQuestion 86 = .ok (.invokevirtual 58, 3) := by decide +kernel
theorem dX6_readQuestion_89 : decode cX6_readQuestion 89 = .ok (.pop, 1) := by decide +kernel
theorem dX6_readQuestion_90 : decode cX6_readQuestion 90 = .ok (.aload_n 0, 1) := by decide +kernel
theorem dX6_readQuestion_91 : decode cX6_readQuestion 91 = .ok (.getfield 22, 3) := by decide +kernel
theorem dX6_readQuestion_94 : decode cX6_readQuestion 94 = .ok (.iload_n 1, 1) := by decide +kernel
theorem dX6_readQuestion_95 : decode cX6_readQuestion 95 = .ok (.aload_n 0, 1) := by decide +kernel
theorem dX6_readQuestion_96 : decode cX6_readQuestion 96 = .ok (.getfield 72, 3) := by decide +kernel
theorem dX6_readQuestion_99 : decode cX6_readQuestion 99 = .ok (.iastore, 1) := by decide +kernel
theorem dX6_readQuestion_100 : decode cX6_readQuestion 100 = .ok (.aload_n 0, 1) := by decide +kernel
theorem dX6_readQuestion_101 : decode cX6_readQuestion 101 = .ok (.getfield 9, 3) := by decide +kernel
theorem dX6_readQuestion_104 : decode cX6_readQuestion 104 = .ok (.getfield 45, 3) := by decide +kernel
theorem dX6_readQuestion_107 : decode cX6_readQuestion 107 = .ok (.ifCond .eq 10, 3) := by decide +kernel
theorem dX6_readQuestion_110 : decode cX6_readQuestion 110 = .ok (.aload_n 0, 1) := by decide +kernel
theorem dX6_readQuestion_111 : decode cX6_readQuestion 111 = .ok (.invokevirtual 51, 3) := by decide +kernel
theorem dX6_readQuestion_114 : decode cX6_readQuestion 114 = .ok (.ifCond .eq 7, 3) := by decide +kernel
theorem dX6_readQuestion_117 : decode cX6_readQuestion 117 = .ok (.iconst 1, 1) := by decide +kernel
theorem dX6_readQuestion_118 : decode cX6_readQuestion 118 = .ok (.goto 4, 3) := by decide +kernel
theorem dX6_readQuestion_121 : decode cX6_readQuestion 121 = .ok (.iconst 0, 1) := by decide +kernel
theorem dX6_readQuestion_122 : decode cX6_readQuestion 122 = .ok (.ireturn, 1) := by decide +kernel
theorem dX6_readSet_0 : decode cX6_readSet 0 = .ok (.aload_n 0, 1) := by decide +kernel
theorem dX6_readSet_1 : decode cX6_readSet 1 = .ok (.getfield 9, 3) := by decide +kernel
theorem dX6_readSet_4 : decode cX6_readSet 4 = .ok (.getfield 45, 3) := by decide +kernel
theorem dX6_readSet_7 : decode cX6_readSet 7 = .ok (.istore_n 2, 1) := by decide +kernel
theorem dX6_readSet_8 : decode cX6_readSet 8 = .ok (.iload_n 2, 1) := by decide +kernel
theorem dX6_readSet_9 : decode cX6_readSet 9 = .ok (.bipush 30, 2) := by decide +kernel
theorem dX6_readSet_11 : decode cX6_readSet 11 = .ok (.if_icmp .eq 38, 3) := by decide +kernel
theorem dX6_readSet_14 : decode cX6_readSet 14 = .ok (.iload_n 2, 1) := by decide +kernel
theorem dX6_readSet_15 : decode cX6_readSet 15 = .ok (.bipush 31, 2) := by decide +kernel
theorem dX6_readSet_17 : decode cX6_readSet 17 = .ok (.if_icmp .eq 32, 3) := by decide +kernel
theorem dX6_readSet_20 : decode cX6_readSet 20 = .ok (.iload_n 2, 1) := by decide +kernel
theorem dX6_readSet_21 : decode cX6_readSet 21 = .ok (.bipush 32, 2) := by decide +kernel
theorem dX6_readSet_23 : decode cX6_readSet 23 = .ok (.if_icmp .eq 26, 3) := by decide +kernel
theorem dX6_readSet_26 : decode cX6_readSet 26 = .ok (.iload_n 2, 1) := by decide +kernel
theorem dX6_readSet_27 : decode cX6_readSet 27 = .ok (.bipush 55, 2) := by decide +kernel
theorem dX6_readSet_29 : decode cX6_readSet 29 = .ok (.if_icmp .eq 20, 3) := by decide +kernel
theorem dX6_readSet_32 : decode cX6_readSet 32 = .ok (.iload_n 2, 1) := by decide +kernel
theorem dX6_readSet_33 : decode cX6_readSet 33 = .ok (.bipush 56, 2) := by decide +kernel
theorem dX6_readSet_35 : decode cX6_readSet 35 = .ok (.if_icmp .eq 14, 3) := by decide +kernel
theorem dX6_readSet_38 : decode cX6_readSet 38 = .ok (.iload_n 2, 1) := by decide +kernel
theorem dX6_readSet_39 : decode cX6_readSet 39 = .ok (.bipush 57, 2) := by decide +kernel
theorem dX6_readSet_41 : decode cX6_readSet 41 = .ok (.if_icmp .eq 8, 3) := by decide +kernel
theorem dX6_readSet_44 : decode cX6_readSet 44 = .ok (.aload_n 0, 1) := by decide +kernel
theorem dX6_readSet_45 : decode cX6_readSet 45 = .ok (.invokevirtual 51, 3) := by decide +kernel
theorem dX6_readSet_48 : decode cX6_readSet 48 = .ok (.ireturn, 1) := by decide +kernel
theorem dX6_readSet_49 : decode cX6_readSet 49 = .ok (.aload_n 0, 1) := by decide +kernel
theorem dX6_readSet_50 : decode cX6_readSet 50 = .ok (.invokevirtual 115, 3) := by decide +kernel
theorem dX6_readSet_53 : decode cX6_readSet 53 = .ok (.ifCond .ne 5, 3) := by decide +kernel
theorem dX6_readSet_56 : decode cX6_readSet 56 = .ok (.iconst 0, 1) := by decide +kernel
theorem dX6_readSet_57 : decode cX6_readSet 57 = .ok (.ireturn, 1) := by decide +kernel
theorem dX6_readSet_58 : decode cX6_readSet 58 = .ok (.aload_n 0, 1) := by decide +kernel
theorem dX6_readSet_59 : decode cX6_readSet 59 = .ok (.getfield 9, 3) := by decide +kernel
theorem dX6_readSet_62 : decode cX6_readSet 62 = .ok (.invokevirtual 69, 3) := by decide +kernel
theorem dX6_readSet_65 : decode cX6_readSet 65 = .ok (.iload_n 2, 1) := by decide +kernel
theorem dX6_readSet_66 : decode cX6_readSet 66 = .ok (.bipush 32, 2) := by decide +kernel
theorem dX6_readSet_68 : decode cX6_readSet 68 = .ok (.if_icmp .ne 15, 3) := by decide +kernel
theorem dX6_readSet_71 : decode cX6_readSet 71 = .ok (.aload_n 0, 1) := by decide +kernel
theorem dX6_readSet_72 : decode cX6_readSet 72 = .ok (.bipush 29, 2) := by decide +kernel
theorem dX6_readSet_74 : decode cX6_readSet 74 = .ok (.iload_n 1, 1) := by decide +kernel
theorem dX6_readSet_75 : decode cX6_readSet 75 = .ok (.iconst 0, 1) := by decide +kernel
theorem dX6_readSet_76 : decode cX6_readSet 76 = .ok (.lconst 0, 1) := by decide +kernel
theorem dX6_readSet_77 : decode cX6_readSet 77 = .ok (.invokevirtual 58, 3) := by decide +kernel
theorem dX6_readSet_80 : decode cX6_readSet 80 = .ok (.pop, 1) := by decide +kernel
theorem dX6_readSet_81 : decode cX6_readSet 81 = .ok (.iconst 1, 1) := by decide +kernel
theorem dX6_readSet_82 : decode cX6_readSet 82 = .ok (.ireturn, 1) := by decide +kernel
theorem dX6_readSet_83 : decode cX6_readSet 83 = .ok (.iload_n 2, 1) := by decide +kernel
theorem dX6_readSet_84 : decode cX6_readSet 84 = .ok (.bipush 30, 2) := by decide +kernel
theorem dX6_readSet_86 : decode cX6_readSet 86 = .ok (.if_icmp .eq 9, 3) := by decide +kernel
theorem dX6_readSet_89 : decode cX6_readSet 89 = .ok (.iload_n 2, 1) := by decide +kernel
theorem dX6_readSet_90 : decode cX6_readSet 90 = .ok (.bipush 31, 2) := by decide +kernel
theorem dX6_readSet_92 : decode cX6_readSet 92 = .ok (.if_icmp .ne 36, 3) := by decide +kernel
theorem dX6_readSet_95 : decode cX6_readSet 95 = .ok (.aload_n 0, 1) := by decide +kernel
theorem dX6_readSet_96 : decode cX6_readSet 96 = .ok (.iload_n 2, 1) := by decide +kernel
theorem dX6_readSet_97 : decode cX6_readSet 97 = .ok (.bipush 30, 2) := by decide +kernel
theorem dX6_readSet_99 : decode cX6_readSet 99 = .ok (.if_icmp .ne 8, 3) := by decide +kernel
theorem dX6_readSet_102 : decode cX6_readSet 102 = .ok (.bipush 27, 2) := by decide +kernel
theorem dX6_readSet_104 : decode cX6_readSet 104 = .ok (.goto 5, 3) := by decide +kernel
theorem dX6_readSet_107 : decode cX6_readSet 107 = .ok (.bipush 28, 2) := by decide +kernel
theorem dX6_readSet_109 : decode cX6_readSet 109 = .ok (.iload_n 1, 1) := by decide +kernel
theorem dX6_readSet_110 : decode cX6_readSet 110 = .ok (.iconst 0, 1) := by decide +kernel
theorem dX6_readSet_111 : decode cX6_readSet 111 = .ok (.aload_n 0, 1) := by decide +kernel
theorem dX6_readSet_112 : decode cX6_readSet 112 = .ok (.getfield 9, 3) := by decide +kernel
theorem dX6_readSet_115 : decode cX6_readSet 115 = .ok (.getfield 118, 3) := by decide +kernel
theorem dX6_readSet_118 : decode cX6_readSet 118 = .ok (.invokevirtual 58, 3) := by decide +kernel
theorem dX6_readSet_121 : decode cX6_readSet 121 = .ok (.pop, 1) := by decide +kernel
theorem dX6_readSet_122 : decode cX6_readSet 122 = .ok (.aload_n 0, 1) := by decide +kernel
theorem dX6_readSet_123 : decode cX6_readSet 123 = .ok (.iconst 2, 1) := by decide +kernel
theorem dX6_readSet_124 : decode cX6_readSet 124 = .ok (.invokevirtual 122, 3) := by decide +kernel
theorem dX6_readSet_127 : decode cX6_readSet 127 = .ok (.ireturn, 1) := by decide +kernel
theorem dX6_readSet_128 : decode cX6_readSet 128 = .ok (.aload_n 0, 1) := by decide +kernel
theorem dX6_readSet_129 : decode cX6_readSet 129 = .ok (.invokevirtual 125, 3) := by decide +kernel
theorem dX6_readSet_132 : decode cX6_readSet 132 = .ok (.ifCond .ne 5, 3) := by decide +kernel
theorem dX6_readSet_135 : decode cX6_readSet 135 = .ok (.iconst 0, 1) := by decide +kernel
theorem dX6_readSet_136 : decode cX6_readSet 136 = .ok (.ireturn, 1) := by decide +kernel
theorem dX6_readSet_137 : decode cX6_readSet 137 = .ok (.aload_n 0, 1) := by decide +kernel
theorem dX6_readSet_138 : decode cX6_readSet 138 = .ok (.bipush 30, 2) := by decide +kernel
theorem dX6_readSet_140 : decode cX6_readSet 140 = .ok (.iload_n 2, 1) := by decide +kernel
theorem dX6_readSet_141 : decode cX6_readSet 141 = .ok (.iadd, 1) := by decide +kernel
theorem dX6_readSet_142 : decode cX6_readSet 142 = .ok (.bipush 55, 2) := by decide +kernel
theorem dX6_readSet_144 : decode cX6_readSet 144 = .ok (.isub, 1) := by decide +kernel
theorem dX6_readSet_145 : decode cX6_readSet 145 = .ok (.iload_n 1, 1) := by decide +kernel
theorem dX6_readSet_146 : decode cX6_readSet 146 = .ok (.iconst 0, 1) := by decide +kernel
theorem dX6_readSet_147 : decode cX6_readSet 147 = .ok (.lconst 0, 1) := by decide +kernel
theorem dX6_readSet_148 : decode cX6_readSet 148 = .ok (.invokevirtual 58, 3) := by decide +kernel
theorem dX6_readSet_151 : decode cX6_readSet 151 = .ok (.pop, 1) := by decide +kernel
theorem dX6_readSet_152 : decode cX6_readSet 152 = .ok (.iconst 1, 1) := by decide +kernel
theorem dX6_readSet_153 : decode cX6_readSet 153 = .ok (.ireturn, 1) := by decide +kernel
theorem dX6_readSigned_0 : decode cX6_readSigned 0 = .ok (.iconst 0, 1) := by decide +kernel
theorem dX6_readSigned_1 : decode cX6_readSigned 1 = .ok (.istore_n 1, 1) := by decide +kernel
theorem dX6_readSigned_2 : decode cX6_readSigned 2 = .ok (.aload_n 0, 1) := by decide +kernel
theorem dX6_readSigned_3 : decode cX6_readSigned 3 = .ok (.getfield 9, 3) := by decide +kernel
theorem dX6_readSigned_6 : decode cX6_readSigned 6 = .ok (.getfield 45, 3) := by decide +kernel
theorem dX6_readSigned_9 : decode cX6_readSigned 9 = .ok (.bipush 16, 2) := by decide +kernel
theorem dX6_readSigned_11 : decode cX6_readSigned 11 = .ok (.if_icmp .ne 31, 3) := by decide +kernel
theorem dX6_readSigned_14 : decode cX6_readSigned 14 = .ok (.iload_n 1, 1) := by decide +kernel
theorem dX6_readSigned_15 : decode cX6_readSigned 15 = .ok (.bipush 120, 2) := by decide +kernel
theorem dX6_readSigned_17 : decode cX6_readSigned 17 = .ok (.if_icmp .gt 25, 3) := by decide +kernel
theorem dX6_readSigned_20 : decode cX6_readSigned 20 = .ok (.aload_n 0, 1) := by decide +kernel
theorem dX6_readSigned_21 : decode cX6_readSigned 21 = .ok (.invokevirtual 115, 3) := by decide +kernel
theorem dX6_readSigned_24 : decode cX6_readSigned 24 = .ok (.ifCond .ne 5, 3) := by decide +kernel
theorem dX6_readSigned_27 : decode cX6_readSigned 27 = .ok (.iconst 0, 1) := by decide +kernel
theorem dX6_readSigned_28 : decode cX6_readSigned 28 = .ok (.ireturn, 1) := by decide +kernel
theorem dX6_readSigned_29 : decode cX6_readSigned 29 = .ok (.iinc 1 1, 3) := by decide +kernel
theorem dX6_readSigned_32 : decode cX6_readSigned 32 = .ok (.aload_n 0, 1) := by decide +kernel
theorem dX6_readSigned_33 : decode cX6_readSigned 33 = .ok (.getfield 9, 3) := by decide +kernel
theorem dX6_readSigned_36 : decode cX6_readSigned 36 = .ok (.invokevirtual 69, 3) := by decide +kernel
theorem dX6_readSigned_39 : decode cX6_readSigned 39 = .ok (.goto (-37), 3) := by decide +kernel
theorem dX6_readSigned_42 : decode cX6_readSigned 42 = .ok (.aload_n 0, 1) := by decide +kernel
theorem dX6_readSigned_43 : decode cX6_readSigned 43 = .ok (.invokevirtual 125, 3) := by decide +kernel
theorem dX6_readSigned_46 : decode cX6_readSigned 46 = .ok (.ifCond .ne 5, 3) := by decide +kernel
theorem dX6_readSigned_49 : decode cX6_readSigned 49 = .ok (.iconst 0, 1) := by decide +kernel
theorem dX6_readSigned_50 : decode cX6_readSigned 50 = .ok (.ireturn, 1) := by decide +kernel
theorem dX6_readSigned_51 : decode cX6_readSigned 51 = .ok (.iconst 0, 1) := by decide +kernel
theorem dX6_readSigned_52 : decode cX6_readSigned 52 = .ok (.istore_n 2, 1) := by decide +kernel
theorem dX6_readSigned_53 : decode cX6_readSigned 53 = .ok (.iload_n 2, 1) := by decide +kernel
theorem dX6_readSigned_54 : decode cX6_readSigned 54 = .ok (.iload_n 1, 1) := by decide +kernel
theorem dX6_readSigned_55 : decode cX6_readSigned 55 = .ok (.if_icmp .ge 19, 3) := by decide +kernel
theorem dX6_readSigned_58 : decode cX6_readSigned 58 = .ok (.aload_n 0, 1) := by decide +kernel
theorem dX6_readSigned_59 : decode cX6_readSigned 59 = .ok (.bipush 12, 2) := by decide +kernel
theorem dX6_readSigned_61 : decode cX6_readSigned 61 = .ok (.iconst 0, 1) := by decide +kernel
theorem dX6_readSigned_62 : decode cX6_readSigned 62 = .ok (.iconst 0, 1) := by decide +kernel
theorem dX6_readSigned_63 : decode cX6_readSigned 63 = .ok (.lconst 0, 1) := by decide +kernel
theorem dX6_readSigned_64 : decode cX6_readSigned 64 = .ok (.invokevirtual 58, 3) := by decide +kernel
theorem dX6_readSigned_67 : decode cX6_readSigned 67 = .ok (.pop, 1) := by decide +kernel
theorem dX6_readSigned_68 : decode cX6_readSigned 68 = .ok (.iinc 2 1, 3) := by decide +kernel
theorem dX6_readSigned_71 : decode cX6_readSigned 71 = .ok (.goto (-18), 3) := by decide +kernel
theorem dX6_readSigned_74 : decode cX6_readSigned 74 = .ok (.iconst 1, 1) := by decide +kernel
theorem dX6_readSigned_75 : decode cX6_readSigned 75 = .ok (.ireturn, 1) := by decide +kernel
theorem dX6_readSums_0 : decode cX6_readSums 0 = .ok (.aload_n 0, 1) := by decide +kernel
theorem dX6_readSums_1 : decode cX6_readSums 1 = .ok (.invokevirtual 144, 3) := by decide +kernel
theorem dX6_readSums_4 : decode cX6_readSums 4 = .ok (.ifCond .ne 5, 3) := by decide +kernel
theorem dX6_readSums_7 : decode cX6_readSums 7 = .ok (.iconst 0, 1) := by decide +kernel
theorem dX6_readSums_8 : decode cX6_readSums 8 = .ok (.ireturn, 1) := by decide +kernel
theorem dX6_readSums_9 : decode cX6_readSums 9 = .ok (.iconst 0, 1) := by decide +kernel
theorem dX6_readSums_10 : decode cX6_readSums 10 = .ok (.istore_n 1, 1) := by decide +kernel
theorem dX6_readSums_11 : decode cX6_readSums 11 = .ok (.iload_n 1, 1) := by decide +kernel
theorem dX6_readSums_12 : decode cX6_readSums 12 = .ok (.bipush 120, 2) := by decide +kernel
theorem dX6_readSums_14 : decode cX6_readSums 14 = .ok (.if_icmp .gt 87, 3) := by decide +kernel
theorem dX6_readSums_17 : decode cX6_readSums 17 = .ok (.aload_n 0, 1) := by decide +kernel
theorem dX6_readSums_18 : decode cX6_readSums 18 = .ok (.getfield 9, 3) := by decide +kernel
theorem dX6_readSums_21 : decode cX6_readSums 21 = .ok (.getfield 45, 3) := by decide +kernel
theorem dX6_readSums_24 : decode cX6_readSums 24 = .ok (.bipush 15, 2) := by decide +kernel
theorem dX6_readSums_26 : decode cX6_readSums 26 = .ok (.if_icmp .eq 15, 3) := by decide +kernel
theorem dX6_readSums_29 : decode cX6_readSums 29 = .ok (.aload_n 0, 1) := by decide +kernel
theorem dX6_readSums_30 : decode cX6_readSums 30 = .ok (.getfield 9, 3) := by decide +kernel
theorem dX6_readSums_33 : decode cX6_readSums 33 = .ok (.getfield 45, 3) := by decide +kernel
theorem dX6_readSums_36 : decode cX6_readSums 36 = .ok (.bipush 16, 2) := by decide +kernel
theorem dX6_readSums_38 : decode cX6_readSums 38 = .ok (.if_icmp .ne 63, 3) := by decide +kernel
theorem dX6_readSums_41 : decode cX6_readSums 41 = .ok (.aload_n 0, 1) := by decide +kernel
theorem dX6_readSums_42 : decode cX6_readSums 42 = .ok (.getfield 9, 3) := by decide +kernel
theorem dX6_readSums_45 : decode cX6_readSums 45 = .ok (.getfield 45, 3) := by decide +kernel
theorem dX6_readSums_48 : decode cX6_readSums 48 = .ok (.bipush 15, 2) := by decide +kernel
theorem dX6_readSums_50 : decode cX6_readSums 50 = .ok (.if_icmp .ne 8, 3) := by decide +kernel
theorem dX6_readSums_53 : decode cX6_readSums 53 = .ok (.bipush 22, 2) := by decide +kernel
theorem dX6_readSums_55 : decode cX6_readSums 55 = .ok (.goto 5, 3) := by decide +kernel
theorem dX6_readSums_58 : decode cX6_readSums 58 = .ok (.bipush 23, 2) := by decide +kernel
theorem dX6_readSums_60 : decode cX6_readSums 60 = .ok (.istore_n 2, 1) := by decide +kernel
theorem dX6_readSums_61 : decode cX6_readSums 61 = .ok (.aload_n 0, 1) := by decide +kernel
theorem dX6_readSums_62 : decode cX6_readSums 62 = .ok (.invokevirtual 115, 3) := by decide +kernel
theorem dX6_readSums_65 : decode cX6_readSums 65 = .ok (.ifCond .ne 5, 3) := by decide +kernel
theorem dX6_readSums_68 : decode cX6_readSums 68 = .ok (.iconst 0, 1) := by decide +kernel
theorem dX6_readSums_69 : decode cX6_readSums 69 = .ok (.ireturn, 1) := by decide +kernel
theorem dX6_readSums_70 : decode cX6_readSums 70 = .ok (.aload_n 0, 1) := by decide +kernel
theorem dX6_readSums_71 : decode cX6_readSums 71 = .ok (.getfield 9, 3) := by decide +kernel
theorem dX6_readSums_74 : decode cX6_readSums 74 = .ok (.invokevirtual 69, 3) := by decide +kernel
theorem dX6_readSums_77 : decode cX6_readSums 77 = .ok (.aload_n 0, 1) := by decide +kernel
theorem dX6_readSums_78 : decode cX6_readSums 78 = .ok (.invokevirtual 144, 3) := by decide +kernel
theorem dX6_readSums_81 : decode cX6_readSums 81 = .ok (.ifCond .ne 5, 3) := by decide +kernel
theorem dX6_readSums_84 : decode cX6_readSums 84 = .ok (.iconst 0, 1) := by decide +kernel
theorem dX6_readSums_85 : decode cX6_readSums 85 = .ok (.ireturn, 1) := by decide +kernel
theorem dX6_readSums_86 : decode cX6_readSums 86 = .ok (.aload_n 0, 1) := by decide +kernel
theorem dX6_readSums_87 : decode cX6_readSums 87 = .ok (.iload_n 2, 1) := by decide +kernel
theorem dX6_readSums_88 : decode cX6_readSums 88 = .ok (.iconst 0, 1) := by decide +kernel
theorem dX6_readSums_89 : decode cX6_readSums 89 = .ok (.iconst 0, 1) := by decide +kernel
theorem dX6_readSums_90 : decode cX6_readSums 90 = .ok (.lconst 0, 1) := by decide +kernel
theorem dX6_readSums_91 : decode cX6_readSums 91 = .ok (.invokevirtual 58, 3) := by decide +kernel
theorem dX6_readSums_94 : decode cX6_readSums 94 = .ok (.pop, 1) := by decide +kernel
theorem dX6_readSums_95 : decode cX6_readSums 95 = .ok (.iinc 1 1, 3) := by decide +kernel
theorem dX6_readSums_98 : decode cX6_readSums 98 = .ok (.goto (-87), 3) := by decide +kernel
theorem dX6_readSums_101 : decode cX6_readSums 101 = .ok (.iconst 1, 1) := by decide +kernel
theorem dX6_readSums_102 : decode cX6_readSums 102 = .ok (.ireturn, 1) := by decide +kernel
theorem dX6_readTail_0 : decode cX6_readTail 0 = .ok (.iconst 0, 1) := by decide +kernel
theorem dX6_readTail_1 : decode cX6_readTail 1 = .ok (.istore_n 1, 1) := by decide +kernel
theorem dX6_readTail_2 : decode cX6_readTail 2 = .ok (.iload_n 1, 1) := by decide +kernel
theorem dX6_readTail_3 : decode cX6_readTail 3 = .ok (.bipush 120, 2) := by decide +kernel
theorem dX6_readTail_5 : decode cX6_readTail 5 = .ok (.if_icmp .gt 146, 3) := by decide +kernel
theorem dX6_readTail_8 : decode cX6_readTail 8 = .ok (.aload_n 0, 1) := by decide +kernel
theorem dX6_readTail_9 : decode cX6_readTail 9 = .ok (.getfield 9, 3) := by decide +kernel
theorem dX6_readTail_12 : decode cX6_readTail 12 = .ok (.getfield 45, 3) := by decide +kernel
theorem dX6_readTail_15 : decode cX6_readTail 15 = .ok (.bipush 11, 2) := by decide +kernel
theorem dX6_readTail_17 : decode cX6_readTail 17 = .ok (.if_icmp .eq 15, 3) := by decide +kernel
theorem dX6_readTail_20 : decode cX6_readTail 20 = .ok (.aload_n 0, 1) := by decide +kernel
theorem dX6_readTail_21 : decode cX6_readTail 21 = .ok (.getfield 9, 3) := by decide +kernel
theorem dX6_readTail_24 : decode cX6_readTail 24 = .ok (.getfield 45, 3) := by decide +kernel
theorem dX6_readTail_27 : decode cX6_readTail 27 = .ok (.bipush 6, 2) := by decide +kernel
theorem dX6_readTail_29 : decode cX6_readTail 29 = .ok (.if_icmp .ne 122, 3) := by decide +kernel
theorem dX6_readTail_32 : decode cX6_readTail 32 = .ok (.aload_n 0, 1) := by decide +kernel
theorem dX6_readTail_33 : decode cX6_readTail 33 = .ok (.getfield 9, 3) := by decide +kernel
theorem dX6_readTail_36 : decode cX6_readTail 36 = .ok (.getfield 45, 3) := by decide +kernel
theorem dX6_readTail_39 : decode cX6_readTail 39 = .ok (.bipush 6, 2) := by decide +kernel
theorem dX6_readTail_41 : decode cX6_readTail 41 = .ok (.if_icmp .ne 7, 3) := by decide +kernel
theorem dX6_readTail_44 : decode cX6_readTail 44 = .ok (.iconst 1, 1) := by decide +kernel
theorem dX6_readTail_45 : decode cX6_readTail 45 = .ok (.goto 4, 3) := by decide +kernel
theorem dX6_readTail_48 : decode cX6_readTail 48 = .ok (.iconst 0, 1) := by decide +kernel
theorem dX6_readTail_49 : decode cX6_readTail 49 = .ok (.istore_n 2, 1) := by decide +kernel
theorem dX6_readTail_50 : decode cX6_readTail 50 = .ok (.aload_n 0, 1) := by decide +kernel
theorem dX6_readTail_51 : decode cX6_readTail 51 = .ok (.invokevirtual 115, 3) := by decide +kernel
theorem dX6_readTail_54 : decode cX6_readTail 54 = .ok (.ifCond .eq 14, 3) := by decide +kernel
theorem dX6_readTail_57 : decode cX6_readTail 57 = .ok (.iload_n 2, 1) := by decide +kernel
theorem dX6_readTail_58 : decode cX6_readTail 58 = .ok (.ifCond .eq 12, 3) := by decide +kernel
theorem dX6_readTail_61 : decode cX6_readTail 61 = .ok (.aload_n 0, 1) := by decide +kernel
theorem dX6_readTail_62 : decode cX6_readTail 62 = .ok (.invokevirtual 156, 3) := by decide +kernel
theorem dX6_readTail_65 : decode cX6_readTail 65 = .ok (.ifCond .ne 5, 3) := by decide +kernel
theorem dX6_readTail_68 : decode cX6_readTail 68 = .ok (.iconst 0, 1) := by decide +kernel
theorem dX6_readTail_69 : decode cX6_readTail 69 = .ok (.ireturn, 1) := by decide +kernel
theorem dX6_readTail_70 : decode cX6_readTail 70 = .ok (.aload_n 0, 1) := by decide +kernel
theorem dX6_readTail_71 : decode cX6_readTail 71 = .ok (.getfield 9, 3) := by decide +kernel
theorem dX6_readTail_74 : decode cX6_readTail 74 = .ok (.invokevirtual 69, 3) := by decide +kernel
theorem dX6_readTail_77 : decode cX6_readTail 77 = .ok (.iload_n 2, 1) := by decide +kernel
theorem dX6_readTail_78 : decode cX6_readTail 78 = .ok (.ifCond .ne 29, 3) := by decide +kernel
theorem dX6_readTail_81 : decode cX6_readTail 81 = .ok (.aload_n 0, 1) := by decide +kernel
theorem dX6_readTail_82 : decode cX6_readTail 82 = .ok (.bipush 11, 2) := by decide +kernel
theorem dX6_readTail_84 : decode cX6_readTail 84 = .ok (.iconst 0, 1) := by decide +kernel
theorem dX6_readTail_85 : decode cX6_readTail 85 = .ok (.iconst 0, 1) := by decide +kernel
theorem dX6_readTail_86 : decode cX6_readTail 86 = .ok (.aload_n 0, 1) := by decide +kernel
theorem dX6_readTail_87 : decode cX6_readTail 87 = .ok (.getfield 9, 3) := by decide +kernel
theorem dX6_readTail_90 : decode cX6_readTail 90 = .ok (.getfield 118, 3) := by decide +kernel
theorem dX6_readTail_93 : decode cX6_readTail 93 = .ok (.invokevirtual 58, 3) := by decide +kernel
theorem dX6_readTail_96 : decode cX6_readTail 96 = .ok (.pop, 1) := by decide +kernel
theorem dX6_readTail_97 : decode cX6_readTail 97 = .ok (.aload_n 0, 1) := by decide +kernel
theorem dX6_readTail_98 : decode cX6_readTail 98 = .ok (.iconst 2, 1) := by decide +kernel
theorem dX6_readTail_99 : decode cX6_readTail 99 = .ok (.invokevirtual 122, 3) := by decide +kernel
theorem dX6_readTail_102 : decode cX6_readTail 102 = .ok (.ifCond .ne 43, 3) := by decide +kernel
theorem dX6_readTail_105 : decode cX6_readTail 105 = .ok (.iconst 0, 1) := by decide +kernel
theorem dX6_readTail_106 : decode cX6_readTail 106 = .ok (.ireturn, 1) := by decide +kernel
theorem dX6_readTail_107 : decode cX6_readTail 107 = .ok (.aload_n 0, 1) := by decide +kernel
theorem dX6_readTail_108 : decode cX6_readTail 108 = .ok (.invokevirtual 41, 3) := by decide +kernel
theorem dX6_readTail_111 : decode cX6_readTail 111 = .ok (.ifCond .eq 12, 3) := by decide +kernel
theorem dX6_readTail_114 : decode cX6_readTail 114 = .ok (.aload_n 0, 1) := by decide +kernel
theorem dX6_readTail_115 : decode cX6_readTail 115 = .ok (.bipush 7, 2) := by decide +kernel
theorem dX6_readTail_117 : decode cX6_readTail 117 = .ok (.invokevirtual 122, 3) := by decide +kernel
theorem dX6_readTail_120 : decode cX6_readTail 120 = .ok (.ifCond .ne 5, 3) := by decide +kernel
theorem dX6_readTail_123 : decode cX6_readTail 123 = .ok (.iconst 0, 1) := by decide +kernel
theorem dX6_readTail_124 : decode cX6_readTail 124 = .ok (.ireturn, 1) := by decide +kernel
theorem dX6_readTail_125 : decode cX6_readTail 125 = .ok (.aload_n 0, 1) := by decide +kernel
theorem dX6_readTail_126 : decode cX6_readTail 126 = .ok (.dup, 1) := by decide +kernel
theorem dX6_readTail_127 : decode cX6_readTail 127 = .ok (.getfield 90, 3) := by decide +kernel
theorem dX6_readTail_130 : decode cX6_readTail 130 = .ok (.iconst 1, 1) := by decide +kernel
theorem dX6_readTail_131 : decode cX6_readTail 131 = .ok (.isub, 1) := by decide +kernel
theorem dX6_readTail_132 : decode cX6_readTail 132 = .ok (.putfield 90, 3) := by decide +kernel
theorem dX6_readTail_135 : decode cX6_readTail 135 = .ok (.aload_n 0, 1) := by decide +kernel
theorem dX6_readTail_136 : decode cX6_readTail 136 = .ok (.bipush 15, 2) := by decide +kernel
theorem dX6_readTail_138 : decode cX6_readTail 138 = .ok (.iconst 0, 1) := by decide +kernel
theorem dX6_readTail_139 : decode cX6_readTail 139 = .ok (.iconst 0, 1) := by decide +kernel
theorem dX6_readTail_140 : decode cX6_readTail 140 = .ok (.lconst 0, 1) := by decide +kernel
theorem dX6_readTail_141 : decode cX6_readTail 141 = .ok (.invokevirtual 58, 3) := by decide +kernel
theorem dX6_readTail_144 : decode cX6_readTail 144 = .ok (.pop, 1) := by decide +kernel
theorem dX6_readTail_145 : decode cX6_readTail 145 = .ok (.iinc 1 1, 3) := by decide +kernel
theorem dX6_readTail_148 : decode cX6_readTail 148 = .ok (.goto (-146), 3) := by decide +kernel
theorem dX6_readTail_151 : decode cX6_readTail 151 = .ok (.iconst 1, 1) := by decide +kernel
theorem dX6_readTail_152 : decode cX6_readTail 152 = .ok (.ireturn, 1) := by decide +kernel
theorem dX6_readThing_0 : decode cX6_readThing 0 = .ok (.aload_n 0, 1) := by decide +kernel
theorem dX6_readThing_1 : decode cX6_readThing 1 = .ok (.invokevirtual 115, 3) := by decide +kernel
theorem dX6_readThing_4 : decode cX6_readThing 4 = .ok (.ifCond .ne 5, 3) := by decide +kernel
theorem dX6_readThing_7 : decode cX6_readThing 7 = .ok (.iconst 0, 1) := by decide +kernel
theorem dX6_readThing_8 : decode cX6_readThing 8 = .ok (.ireturn, 1) := by decide +kernel
theorem dX6_readThing_9 : decode cX6_readThing 9 = .ok (.aload_n 0, 1) := by decide +kernel
theorem dX6_readThing_10 : decode cX6_readThing 10 = .ok (.getfield 9, 3) := by decide +kernel
theorem dX6_readThing_13 : decode cX6_readThing 13 = .ok (.invokevirtual 69, 3) := by decide +kernel
theorem dX6_readThing_16 : decode cX6_readThing 16 = .ok (.aload_n 0, 1) := by decide +kernel
theorem dX6_readThing_17 : decode cX6_readThing 17 = .ok (.iconst 4, 1) := by decide +kernel
theorem dX6_readThing_18 : decode cX6_readThing 18 = .ok (.iconst 0, 1) := by decide +kernel
theorem dX6_readThing_19 : decode cX6_readThing 19 = .ok (.iconst 0, 1) := by decide +kernel
theorem dX6_readThing_20 : decode cX6_readThing 20 = .ok (.aload_n 0, 1) := by decide +kernel
theorem dX6_readThing_21 : decode cX6_readThing 21 = .ok (.getfield 9, 3) := by decide +kernel
theorem dX6_readThing_24 : decode cX6_readThing 24 = .ok (.getfield 118, 3) := by decide +kernel
theorem dX6_readThing_27 : decode cX6_readThing 27 = .ok (.invokevirtual 58, 3) := by decide +kernel
theorem dX6_readThing_30 : decode cX6_readThing 30 = .ok (.pop, 1) := by decide +kernel
theorem dX6_readThing_31 : decode cX6_readThing 31 = .ok (.aload_n 0, 1) := by decide +kernel
theorem dX6_readThing_32 : decode cX6_readThing 32 = .ok (.iconst 3, 1) := by decide +kernel
theorem dX6_readThing_33 : decode cX6_readThing 33 = .ok (.invokevirtual 122, 3) := by decide +kernel
theorem dX6_readThing_36 : decode cX6_readThing 36 = .ok (.ireturn, 1) := by decide +kernel
theorem dX6_readVariable_0 : decode cX6_readVariable 0 = .ok (.aload_n 0, 1) := by decide +kernel
theorem dX6_readVariable_1 : decode cX6_readVariable 1 = .ok (.getfield 96, 3) := by decide +kernel
theorem dX6_readVariable_4 : decode cX6_readVariable 4 = .ok (.iconst 1, 1) := by decide +kernel
theorem dX6_readVariable_5 : decode cX6_readVariable 5 = .ok (.isub, 1) := by decide +kernel
theorem dX6_readVariable_6 : decode cX6_readVariable 6 = .ok (.istore_n 1, 1) := by decide +kernel
theorem dX6_readVariable_7 : decode cX6_readVariable 7 = .ok (.iload_n 1, 1) := by decide +kernel
theorem dX6_readVariable_8 : decode cX6_readVariable 8 = .ok (.ifCond .lt 39, 3) := by decide +kernel
theorem dX6_readVariable_11 : decode cX6_readVariable 11 = .ok (.aload_n 0, 1) := by decide +kernel
theorem dX6_readVariable_12 : decode cX6_readVariable 12 = .ok (.getfield 29, 3) := by decide +kernel
theorem dX6_readVariable_15 : decode cX6_readVariable 15 = .ok (.iload_n 1, 1) := by decide +kernel
theorem dX6_readVariable_16 : decode cX6_readVariable 16 = .ok (.laload, 1) := by decide +kernel
theorem dX6_readVariable_17 : decode cX6_readVariable 17 = .ok (.aload_n 0, 1) := by decide +kernel
theorem dX6_readVariable_18 : decode cX6_readVariable 18 = .ok (.getfield 9, 3) := by decide +kernel
theorem dX6_readVariable_21 : decode cX6_readVariable 21 = .ok (.getfield 118, 3) := by decide +kernel
theorem dX6_readVariable_24 : decode cX6_readVariable 24 = .ok (.lcmp, 1) := by decide +kernel
theorem dX6_readVariable_25 : decode cX6_readVariable 25 = .ok (.ifCond .ne 16, 3) := by decide +kernel
theorem dX6_readVariable_28 : decode cX6_readVariable 28 = .ok (.aload_n 0, 1) := by decide +kernel
theorem dX6_readVariable_29 : decode cX6_readVariable 29 = .ok (.iconst 5, 1) := by decide +kernel
theorem dX6_readVariable_30 : decode cX6_readVariable 30 = .ok (.aload_n 0, 1) := by decide +kernel
theorem dX6_readVariable_31 : decode cX6_readVariable 31 = .ok (.getfield 32, 3) := by decide +kernel
theorem dX6_readVariable_34 : decode cX6_readVariable 34 = .ok (.iload_n 1, 1) := by decide +kernel
theorem dX6_readVariable_35 : decode cX6_readVariable 35 = .ok (.iaload, 1) := by decide +kernel
theorem dX6_readVariable_36 : decode cX6_readVariable 36 = .ok (.lconst 0, 1) := by decide +kernel
theorem dX6_readVariable_37 : decode cX6_readVariable 37 = .ok (.invokevirtual 159, 3) := by decide +kernel
theorem dX6_readVariable_40 : decode cX6_readVariable 40 = .ok (.ireturn, 1) := by decide +kernel
theorem dX6_readVariable_41 : decode cX6_readVariable 41 = .ok (.iinc 1 (-1), 3) := by decide +kernel
theorem dX6_readVariable_44 : decode cX6_readVariable 44 = .ok (.goto (-37), 3) := by decide +kernel
theorem dX6_readVariable_47 : decode cX6_readVariable 47 = .ok (.aload_n 0, 1) := by decide +kernel
theorem dX6_readVariable_48 : decode cX6_readVariable 48 = .ok (.iconst 3, 1) := by decide +kernel
theorem dX6_readVariable_49 : decode cX6_readVariable 49 = .ok (.invokevirtual 112, 3) := by decide +kernel
theorem dX6_readVariable_52 : decode cX6_readVariable 52 = .ok (.ireturn, 1) := by decide +kernel
theorem dX6_readWhere_0 : decode cX6_readWhere 0 = .ok (.aload_n 0, 1) := by decide +kernel
theorem dX6_readWhere_1 : decode cX6_readWhere 1 = .ok (.getfield 9, 3) := by decide +kernel
theorem dX6_readWhere_4 : decode cX6_readWhere 4 = .ok (.getfield 45, 3) := by decide +kernel
theorem dX6_readWhere_7 : decode cX6_readWhere 7 = .ok (.bipush 34, 2) := by decide +kernel
theorem dX6_readWhere_9 : decode cX6_readWhere 9 = .ok (.if_icmp .eq 5, 3) := by decide +kernel
theorem dX6_readWhere_12 : decode cX6_readWhere 12 = .ok (.iconst 1, 1) := by decide +kernel
theorem dX6_readWhere_13 : decode cX6_readWhere 13 = .ok (.ireturn, 1) := by decide +kernel
theorem dX6_readWhere_14 : decode cX6_readWhere 14 = .ok (.aload_n 0, 1) := by decide +kernel
theorem dX6_readWhere_15 : decode cX6_readWhere 15 = .ok (.getfield 9, 3) := by decide +kernel
theorem dX6_readWhere_18 : decode cX6_readWhere 18 = .ok (.invokevirtual 69, 3) := by decide +kernel
theorem dX6_readWhere_21 : decode cX6_readWhere 21 = .ok (.aload_n 0, 1) := by decide +kernel
theorem dX6_readWhere_22 : decode cX6_readWhere 22 = .ok (.invokevirtual 41, 3) := by decide +kernel
theorem dX6_readWhere_25 : decode cX6_readWhere 25 = .ok (.ifCond .ne 5, 3) := by decide +kernel
theorem dX6_readWhere_28 : decode cX6_readWhere 28 = .ok (.iconst 0, 1) := by decide +kernel
theorem dX6_readWhere_29 : decode cX6_readWhere 29 = .ok (.ireturn, 1) := by decide +kernel
theorem dX6_readWhere_30 : decode cX6_readWhere 30 = .ok (.aload_n 0, 1) := by decide +kernel
theorem dX6_readWhere_31 : decode cX6_readWhere 31 = .ok (.bipush 37, 2) := by decide +kernel
theorem dX6_readWhere_33 : decode cX6_readWhere 33 = .ok (.iconst 0, 1) := by decide +kernel
theorem dX6_readWhere_34 : decode cX6_readWhere 34 = .ok (.iload_n 1, 1) := by decide +kernel
theorem dX6_readWhere_35 : decode cX6_readWhere 35 = .ok (.lconst 0, 1) := by decide +kernel
theorem dX6_readWhere_36 : decode cX6_readWhere 36 = .ok (.invokevirtual 58, 3) := by decide +kernel
theorem dX6_readWhere_39 : decode cX6_readWhere 39 = .ok (.pop, 1) := by decide +kernel
theorem dX6_readWhere_40 : decode cX6_readWhere 40 = .ok (.iconst 1, 1) := by decide +kernel
theorem dX6_readWhere_41 : decode cX6_readWhere 41 = .ok (.ireturn, 1) := by decide +kernel
theorem dX6_refuse_0 : decode cX6_refuse 0 = .ok (.aload_n 0, 1) := by decide +kernel
theorem dX6_refuse_1 : decode cX6_refuse 1 = .ok (.aload_n 0, 1) := by decide +kernel
theorem dX6_refuse_2 : decode cX6_refuse 2 = .ok (.getfield 9, 3) := by decide +kernel
theorem dX6_refuse_5 : decode cX6_refuse 5 = .ok (.getfield 45, 3) := by decide +kernel
theorem dX6_refuse_8 : decode cX6_refuse 8 = .ok (.iconst 1, 1) := by decide +kernel
theorem dX6_refuse_9 : decode cX6_refuse 9 = .ok (.if_icmp .ne 7, 3) := by decide +kernel
theorem dX6_refuse_12 : decode cX6_refuse 12 = .ok (.iconst 2, 1) := by decide +kernel
theorem dX6_refuse_13 : decode cX6_refuse 13 = .ok (.goto 4, 3) := by decide +kernel
theorem dX6_refuse_16 : decode cX6_refuse 16 = .ok (.iconst 1, 1) := by decide +kernel
theorem dX6_refuse_17 : decode cX6_refuse 17 = .ok (.invokevirtual 112, 3) := by decide +kernel
theorem dX6_refuse_20 : decode cX6_refuse 20 = .ok (.ireturn, 1) := by decide +kernel
theorem dX6_start_0 : decode cX6_start 0 = .ok (.aload_n 0, 1) := by decide +kernel
theorem dX6_start_1 : decode cX6_start 1 = .ok (.iconst 0, 1) := by decide +kernel
theorem dX6_start_2 : decode cX6_start 2 = .ok (.putfield 72, 3) := by decide +kernel
theorem dX6_start_5 : decode cX6_start 5 = .ok (.aload_n 0, 1) := by decide +kernel
theorem dX6_start_6 : decode cX6_start 6 = .ok (.iconst 0, 1) := by decide +kernel
theorem dX6_start_7 : decode cX6_start 7 = .ok (.putfield 75, 3) := by decide +kernel
theorem dX6_start_10 : decode cX6_start 10 = .ok (.aload_n 0, 1) := by decide +kernel
theorem dX6_start_11 : decode cX6_start 11 = .ok (.iconst (-1), 1) := by decide +kernel
theorem dX6_start_12 : decode cX6_start 12 = .ok (.putfield 78, 3) := by decide +kernel
theorem dX6_start_15 : decode cX6_start 15 = .ok (.aload_n 0, 1) := by decide +kernel
theorem dX6_start_16 : decode cX6_start 16 = .ok (.iconst 0, 1) := by decide +kernel
theorem dX6_start_17 : decode cX6_start 17 = .ok (.putfield 81, 3) := by decide +kernel
theorem dX6_start_20 : decode cX6_start 20 = .ok (.aload_n 0, 1) := by decide +kernel
theorem dX6_start_21 : decode cX6_start 21 = .ok (.iconst 0, 1) := by decide +kernel
theorem dX6_start_22 : decode cX6_start 22 = .ok (.putfield 84, 3) := by decide +kernel
theorem dX6_start_25 : decode cX6_start 25 = .ok (.aload_n 0, 1) := by decide +kernel
theorem dX6_start_26 : decode cX6_start 26 = .ok (.iconst 0, 1) := by decide +kernel
theorem dX6_start_27 : decode cX6_start 27 = .ok (.putfield 87, 3) := by decide +kernel
theorem dX6_start_30 : decode cX6_start 30 = .ok (.aload_n 0, 1) := by decide +kernel
theorem dX6_start_31 : decode cX6_start 31 = .ok (.iconst 0, 1) := by decide +kernel
theorem dX6_start_32 : decode cX6_start 32 = .ok (.putfield 90, 3) := by decide +kernel
theorem dX6_start_35 : decode cX6_start 35 = .ok (.aload_n 0, 1) := by decide +kernel
theorem dX6_start_36 : decode cX6_start 36 = .ok (.iconst 0, 1) := by decide +kernel
theorem dX6_start_37 : decode cX6_start 37 = .ok (.putfield 93, 3) := by decide +kernel
theorem dX6_start_40 : decode cX6_start 40 = .ok (.aload_n 0, 1) := by decide +kernel
theorem dX6_start_41 : decode cX6_start 41 = .ok (.iconst 0, 1) := by decide +kernel
theorem dX6_start_42 : decode cX6_start 42 = .ok (.putfield 62, 3) := by decide +kernel
theorem dX6_start_45 : decode cX6_start 45 = .ok (.aload_n 0, 1) := by decide +kernel
theorem dX6_start_46 : decode cX6_start 46 = .ok (.iconst 0, 1) := by decide +kernel
theorem dX6_start_47 : decode cX6_start 47 = .ok (.putfield 96, 3) := by decide +kernel
theorem dX6_start_50 : decode cX6_start 50 = .ok (.aload_n 0, 1) := by decide +kernel
theorem dX6_start_51 : decode cX6_start 51 = .ok (.iconst 0, 1) := by decide +kernel
theorem dX6_start_52 : decode cX6_start 52 = .ok (.putfield 99, 3) := by decide +kernel
theorem dX6_start_55 : decode cX6_start 55 = .ok (.aload_n 0, 1) := by decide +kernel
theorem dX6_start_56 : decode cX6_start 56 = .ok (.getfield 9, 3) := by decide +kernel
theorem dX6_start_59 : decode cX6_start 59 = .ok (.invokevirtual 102, 3) := by decide +kernel
theorem dX6_start_62 : decode cX6_start 62 = .ok (.return_, 1) := by decide +kernel
theorem dX7_fail_0 : decode cX7_fail 0 = .ok (.aload_n 0, 1) := by decide +kernel
theorem dX7_fail_1 : decode cX7_fail 1 = .ok (.iload_n 1, 1) := by decide +kernel
theorem dX7_fail_2 : decode cX7_fail 2 = .ok (.putfield 77, 3) := by decide +kernel
theorem dX7_fail_5 : decode cX7_fail 5 = .ok (.aload_n 0, 1) := by decide +kernel
theorem dX7_fail_6 : decode cX7_fail 6 = .ok (.iload_n 2, 1) := by decide +kernel
theorem dX7_fail_7 : decode cX7_fail 7 = .ok (.putfield 80, 3) := by decide +kernel
theorem dX7_fail_10 : decode cX7_fail 10 = .ok (.iconst 0, 1) := by decide +kernel
theorem dX7_fail_11 : decode cX7_fail 11 = .ok (.ireturn, 1) := by decide +kernel
theorem dX7_isPlainName_0 : decode cX7_isPlainName 0 = .ok (.aload_n 0, 1) := by decide +kernel
theorem dX7_isPlainName_1 : decode cX7_isPlainName 1 = .ok (.getfield 9, 3) := by decide +kernel
theorem dX7_isPlainName_4 : decode cX7_isPlainName 4 = .ok (.getfield 86, 3) := by decide +kernel
theorem dX7_isPlainName_7 : decode cX7_isPlainName 7 = .ok (.iconst 2, 1) := by decide +kernel
theorem dX7_isPlainName_8 : decode cX7_isPlainName 8 = .ok (.if_icmp .ne 37, 3) := by decide +kernel
theorem dX7_isPlainName_11 : decode cX7_isPlainName 11 = .ok (.aload_n 0, 1) := by decide +kernel
theorem dX7_isPlainName_12 : decode cX7_isPlainName 12 = .ok (.getfield 9, 3) := by decide +kernel
theorem dX7_isPlainName_15 : decode cX7_isPlainName 15 = .ok (.getfield 100, 3) := by decide +kernel
theorem dX7_isPlainName_18 : decode cX7_isPlainName 18 = .ok (.aload_n 0, 1) := by decide +kernel
theorem dX7_isPlainName_19 : decode cX7_isPlainName 19 = .ok (.getfield 23, 3) := by decide +kernel
theorem dX7_isPlainName_22 : decode cX7_isPlainName 22 = .ok (.lcmp, 1) := by decide +kernel
theorem dX7_isPlainName_23 : decode cX7_isPlainName 23 = .ok (.ifCond .eq 22, 3) := by decide +kernel
theorem dX7_isPlainName_26 : decode cX7_isPlainName 26 = .ok (.aload_n 0, 1) := by decide +kernel
theorem dX7_isPlainName_27 : decode cX7_isPlainName 27 = .ok (.getfield 9, 3) := by decide +kernel
theorem dX7_isPlainName_30 : decode cX7_isPlainName 30 = .ok (.getfield 100, 3) := by decide +kernel
theorem dX7_isPlainName_33 : decode cX7_isPlainName 33 = .ok (.aload_n 0, 1) := by decide +kernel
theorem dX7_isPlainName_34 : decode cX7_isPlainName 34 = .ok (.getfield 29, 3) := by decide +kernel
theorem dX7_isPlainName_37 : decode cX7_isPlainName 37 = .ok (.lcmp, 1) := by decide +kernel
theorem dX7_isPlainName_38 : decode cX7_isPlainName 38 = .ok (.ifCond .eq 7, 3) := by decide +kernel
theorem dX7_isPlainName_41 : decode cX7_isPlainName 41 = .ok (.iconst 1, 1) := by decide +kernel
theorem dX7_isPlainName_42 : decode cX7_isPlainName 42 = .ok (.goto 4, 3) := by decide +kernel
theorem dX7_isPlainName_45 : decode cX7_isPlainName 45 = .ok (.iconst 0, 1) := by decide +kernel
theorem dX7_isPlainName_46 : decode cX7_isPlainName 46 = .ok (.ireturn, 1) := by decide +kernel
theorem dX7_pass_0 : decode cX7_pass 0 = .ok (.aload_n 0, 1) := by decide +kernel
theorem dX7_pass_1 : decode cX7_pass 1 = .ok (.getfield 9, 3) := by decide +kernel
theorem dX7_pass_4 : decode cX7_pass 4 = .ok (.getfield 86, 3) := by decide +kernel
theorem dX7_pass_7 : decode cX7_pass 7 = .ok (.iload_n 1, 1) := by decide +kernel
theorem dX7_pass_8 : decode cX7_pass 8 = .ok (.if_icmp .eq 8, 3) := by decide +kernel
theorem dX7_pass_11 : decode cX7_pass 11 = .ok (.aload_n 0, 1) := by decide +kernel
theorem dX7_pass_12 : decode cX7_pass 12 = .ok (.invokevirtual 94, 3) := by decide +kernel
theorem dX7_pass_15 : decode cX7_pass 15 = .ok (.ireturn, 1) := by decide +kernel
theorem dX7_pass_16 : decode cX7_pass 16 = .ok (.aload_n 0, 1) := by decide +kernel
theorem dX7_pass_17 : decode cX7_pass 17 = .ok (.getfield 9, 3) := by decide +kernel
theorem dX7_pass_20 : decode cX7_pass 20 = .ok (.invokevirtual 97, 3) := by decide +kernel
theorem dX7_pass_23 : decode cX7_pass 23 = .ok (.iconst 1, 1) := by decide +kernel
theorem dX7_pass_24 : decode cX7_pass 24 = .ok (.ireturn, 1) := by decide +kernel
theorem dX7_readAll_0 : decode cX7_readAll 0 = .ok (.aload_n 0, 1) := by decide +kernel
theorem dX7_readAll_1 : decode cX7_readAll 1 = .ok (.iconst 0, 1) := by decide +kernel
theorem dX7_readAll_2 : decode cX7_readAll 2 = .ok (.putfield 70, 3) := by decide +kernel
theorem dX7_readAll_5 : decode cX7_readAll 5 = .ok (.aload_n 0, 1) := by decide +kernel
theorem dX7_readAll_6 : decode cX7_readAll 6 = .ok (.iconst 0, 1) := by decide +kernel
theorem dX7_readAll_7 : decode cX7_readAll 7 = .ok (.putfield 74, 3) := by decide +kernel
theorem dX7_readAll_10 : decode cX7_readAll 10 = .ok (.aload_n 0, 1) := by decide +kernel
theorem dX7_readAll_11 : decode cX7_readAll 11 = .ok (.iconst 0, 1) := by decide +kernel
theorem dX7_readAll_12 : decode cX7_readAll 12 = .ok (.putfield 77, 3) := by decide +kernel
theorem dX7_readAll_15 : decode cX7_readAll 15 = .ok (.aload_n 0, 1) := by decide +kernel
theorem dX7_readAll_16 : decode cX7_readAll 16 = .ok (.iconst (-1), 1) := by decide +kernel
theorem dX7_readAll_17 : decode cX7_readAll 17 = .ok (.putfield 80, 3) := by decide +kernel
theorem dX7_readAll_20 : decode cX7_readAll 20 = .ok (.aload_n 0, 1) := by decide +kernel
theorem dX7_readAll_21 : decode cX7_readAll 21 = .ok (.getfield 9, 3) := by decide +kernel
theorem dX7_readAll_24 : decode cX7_readAll 24 = .ok (.invokevirtual 83, 3) := by decide +kernel
theorem dX7_readAll_27 : decode cX7_readAll 27 = .ok (.iconst 0, 1) := by decide +kernel
theorem dX7_readAll_28 : decode cX7_readAll 28 = .ok (.istore_n 1, 1) := by decide +kernel
theorem dX7_readAll_29 : decode cX7_readAll 29 = .ok (.iload_n 1, 1) := by decide +kernel
theorem dX7_readAll_30 : decode cX7_readAll 30 = .ok (.bipush 12, 2) := by decide +kernel
theorem dX7_readAll_32 : decode cX7_readAll 32 = .ok (.if_icmp .gt 38, 3) := by decide +kernel
theorem dX7_readAll_35 : decode cX7_readAll 35 = .ok (.aload_n 0, 1) := by decide +kernel
theorem dX7_readAll_36 : decode cX7_readAll 36 = .ok (.getfield 9, 3) := by decide +kernel
theorem dX7_readAll_39 : decode cX7_readAll 39 = .ok (.getfield 86, 3) := by decide +kernel
theorem dX7_readAll_42 : decode cX7_readAll 42 = .ok (.ifCond .eq 28, 3) := by decide +kernel
theorem dX7_readAll_45 : decode cX7_readAll 45 = .ok (.aload_n 0, 1) := by decide +kernel
theorem dX7_readAll_46 : decode cX7_readAll 46 = .ok (.invokevirtual 89, 3) := by decide +kernel
theorem dX7_readAll_49 : decode cX7_readAll 49 = .ok (.ifCond .ne 15, 3) := by decide +kernel
theorem dX7_readAll_52 : decode cX7_readAll 52 = .ok (.aload_n 0, 1) := by decide +kernel
theorem dX7_readAll_53 : decode cX7_readAll 53 = .ok (.iconst 0, 1) := by decide +kernel
theorem dX7_readAll_54 : decode cX7_readAll 54 = .ok (.putfield 70, 3) := by decide +kernel
theorem dX7_readAll_57 : decode cX7_readAll 57 = .ok (.aload_n 0, 1) := by decide +kernel
theorem dX7_readAll_58 : decode cX7_readAll 58 = .ok (.iconst 0, 1) := by decide +kernel
theorem dX7_readAll_59 : decode cX7_readAll 59 = .ok (.putfield 74, 3) := by decide +kernel
theorem dX7_readAll_62 : decode cX7_readAll 62 = .ok (.iconst 0, 1) := by decide +kernel
theorem dX7_readAll_63 : decode cX7_readAll 63 = .ok (.ireturn, 1) := by decide +kernel
theorem dX7_readAll_64 : decode cX7_readAll 64 = .ok (.iinc 1 1, 3) := by decide +kernel
theorem dX7_readAll_67 : decode cX7_readAll 67 = .ok (.goto (-38), 3) := by decide +kernel
theorem dX7_readAll_70 : decode cX7_readAll 70 = .ok (.iconst 1, 1) := by decide +kernel
theorem dX7_readAll_71 : decode cX7_readAll 71 = .ok (.ireturn, 1) := by decide +kernel
theorem dX7_readBody_0 : decode cX7_readBody 0 = .ok (.iconst 0, 1) := by decide +kernel
theorem dX7_readBody_1 : decode cX7_readBody 1 = .ok (.istore_n 1, 1) := by decide +kernel
theorem dX7_readBody_2 : decode cX7_readBody 2 = .ok (.iload_n 1, 1) := by decide +kernel
theorem dX7_readBody_3 : decode cX7_readBody 3 = .ok (.iconst 4, 1) := by decide +kernel
theorem dX7_readBody_4 : decode cX7_readBody 4 = .ok (.if_icmp .gt 112, 3) := by decide +kernel
theorem dX7_readBody_7 : decode cX7_readBody 7 = .ok (.aload_n 0, 1) := by decide +kernel
theorem dX7_readBody_8 : decode cX7_readBody 8 = .ok (.getfield 9, 3) := by decide +kernel
theorem dX7_readBody_11 : decode cX7_readBody 11 = .ok (.getfield 86, 3) := by decide +kernel
theorem dX7_readBody_14 : decode cX7_readBody 14 = .ok (.iconst 2, 1) := by decide +kernel
theorem dX7_readBody_15 : decode cX7_readBody 15 = .ok (.if_icmp .ne 18, 3) := by decide +kernel
theorem dX7_readBody_18 : decode cX7_readBody 18 = .ok (.aload_n 0, 1) := by decide +kernel
theorem dX7_readBody_19 : decode cX7_readBody 19 = .ok (.getfield 9, 3) := by decide +kernel
theorem dX7_readBody_22 : decode cX7_readBody 22 = .ok (.getfield 100, 3) := by decide +kernel
theorem dX7_readBody_25 : decode cX7_readBody 25 = .ok (.aload_n 0, 1) := by decide +kernel
theorem dX7_readBody_26 : decode cX7_readBody 26 = .ok (.getfield 23, 3) := by decide +kernel
theorem dX7_readBody_29 : decode cX7_readBody 29 = .ok (.lcmp, 1) := by decide +kernel
theorem dX7_readBody_30 : decode cX7_readBody 30 = .ok (.ifCond .ne 8, 3) := by decide +kernel
theorem dX7_readBody_33 : decode cX7_readBody 33 = .ok (.aload_n 0, 1) := by decide +kernel
theorem dX7_readBody_34 : decode cX7_readBody 34 = .ok (.invokevirtual 94, 3) := by decide +kernel
theorem dX7_readBody_37 : decode cX7_readBody 37 = .ok (.ireturn, 1) := by decide +kernel
theorem dX7_readBody_38 : decode cX7_readBody 38 = .ok (.iload_n 1, 1) := by decide +kernel
theorem dX7_readBody_39 : decode cX7_readBody 39 = .ok (.iconst 4, 1) := by decide +kernel
theorem dX7_readBody_40 : decode cX7_readBody 40 = .ok (.if_icmp .ne 16, 3) := by decide +kernel
theorem dX7_readBody_43 : decode cX7_readBody 43 = .ok (.aload_n 0, 1) := by decide +kernel
theorem dX7_readBody_44 : decode cX7_readBody 44 = .ok (.iconst 4, 1) := by decide +kernel
theorem dX7_readBody_45 : decode cX7_readBody 45 = .ok (.aload_n 0, 1) := by decide +kernel
theorem dX7_readBody_46 : decode cX7_readBody 46 = .ok (.getfield 9, 3) := by decide +kernel
theorem dX7_readBody_49 : decode cX7_readBody 49 = .ok (.getfield 93, 3) := by decide +kernel
theorem dX7_readBody_52 : decode cX7_readBody 52 = .ok (.invokevirtual 106, 3) := by decide +kernel
theorem dX7_readBody_55 : decode cX7_readBody 55 = .ok (.ireturn, 1) := by decide +kernel
theorem dX7_readBody_56 : decode cX7_readBody 56 = .ok (.aload_n 0, 1) := by decide +kernel
theorem dX7_readBody_57 : decode cX7_readBody 57 = .ok (.aload_n 0, 1) := by decide +kernel
theorem dX7_readBody_58 : decode cX7_readBody 58 = .ok (.getfield 70, 3) := by decide +kernel
theorem dX7_readBody_61 : decode cX7_readBody 61 = .ok (.iconst 4, 1) := by decide +kernel
theorem dX7_readBody_62 : decode cX7_readBody 62 = .ok (.imul, 1) := by decide +kernel
theorem dX7_readBody_63 : decode cX7_readBody 63 = .ok (.iload_n 1, 1) := by decide +kernel
theorem dX7_readBody_64 : decode cX7_readBody 64 = .ok (.iadd, 1) := by decide +kernel
theorem dX7_readBody_65 : decode cX7_readBody 65 = .ok (.invokevirtual 127, 3) := by decide +kernel
theorem dX7_readBody_68 : decode cX7_readBody 68 = .ok (.ifCond .ne 5, 3) := by decide +kernel
theorem dX7_readBody_71 : decode cX7_readBody 71 = .ok (.iconst 0, 1) := by decide +kernel
theorem dX7_readBody_72 : decode cX7_readBody 72 = .ok (.ireturn, 1) := by decide +kernel
theorem dX7_readBody_73 : decode cX7_readBody 73 = .ok (.aload_n 0, 1) := by decide +kernel
theorem dX7_readBody_74 : decode cX7_readBody 74 = .ok (.getfield 45, 3) := by decide +kernel
theorem dX7_readBody_77 : decode cX7_readBody 77 = .ok (.aload_n 0, 1) := by decide +kernel
theorem dX7_readBody_78 : decode cX7_readBody 78 = .ok (.getfield 70, 3) := by decide +kernel
theorem dX7_readBody_81 : decode cX7_readBody 81 = .ok (.iload_n 1, 1) := by decide +kernel
theorem dX7_readBody_82 : decode cX7_readBody 82 = .ok (.iconst 1, 1) := by decide +kernel
theorem dX7_readBody_83 : decode cX7_readBody 83 = .ok (.iadd, 1) := by decide +kernel
theorem dX7_readBody_84 : decode cX7_readBody 84 = .ok (.iastore, 1) := by decide +kernel
theorem dX7_readBody_85 : decode cX7_readBody 85 = .ok (.aload_n 0, 1) := by decide +kernel
theorem dX7_readBody_86 : decode cX7_readBody 86 = .ok (.getfield 9, 3) := by decide +kernel
theorem dX7_readBody_89 : decode cX7_readBody 89 = .ok (.getfield 86, 3) := by decide +kernel
theorem dX7_readBody_92 : decode cX7_readBody 92 = .ok (.bipush 10, 2) := by decide +kernel
theorem dX7_readBody_94 : decode cX7_readBody 94 = .ok (.if_icmp .ne 5, 3) := by decide +kernel
theorem dX7_readBody_97 : decode cX7_readBody 97 = .ok (.iconst 1, 1) := by decide +kernel
theorem dX7_readBody_98 : decode cX7_readBody 98 = .ok (.ireturn, 1) := by decide +kernel
theorem dX7_readBody_99 : decode cX7_readBody 99 = .ok (.aload_n 0, 1) := by decide +kernel
theorem dX7_readBody_100 : decode cX7_readBody 100 = .ok (.bipush 8, 2) := by decide +kernel
theorem dX7_readBody_102 : decode cX7_readBody 102 = .ok (.invokevirtual 131, 3) := by decide +kernel
theorem dX7_readBody_105 : decode cX7_readBody 105 = .ok (.ifCond .ne 5, 3) := by decide +kernel
theorem dX7_readBody_108 : decode cX7_readBody 108 = .ok (.iconst 0, 1) := by decide +kernel
theorem dX7_readBody_109 : decode cX7_readBody 109 = .ok (.ireturn, 1) := by decide +kernel
theorem dX7_readBody_110 : decode cX7_readBody 110 = .ok (.iinc 1 1, 3) := by decide +kernel
theorem dX7_readBody_113 : decode cX7_readBody 113 = .ok (.goto (-111), 3) := by decide +kernel
theorem dX7_readBody_116 : decode cX7_readBody 116 = .ok (.iconst 0, 1) := by decide +kernel
theorem dX7_readBody_117 : decode cX7_readBody 117 = .ok (.ireturn, 1) := by decide +kernel
theorem dX7_readPair_0 : decode cX7_readPair 0 = .ok (.aload_n 0, 1) := by decide +kernel
theorem dX7_readPair_1 : decode cX7_readPair 1 = .ok (.iconst 4, 1) := by decide +kernel
theorem dX7_readPair_2 : decode cX7_readPair 2 = .ok (.invokevirtual 131, 3) := by decide +kernel
theorem dX7_readPair_5 : decode cX7_readPair 5 = .ok (.ifCond .ne 5, 3) := by decide +kernel
theorem dX7_readPair_8 : decode cX7_readPair 8 = .ok (.iconst 0, 1) := by decide +kernel
theorem dX7_readPair_9 : decode cX7_readPair 9 = .ok (.ireturn, 1) := by decide +kernel
theorem dX7_readPair_10 : decode cX7_readPair 10 = .ok (.aload_n 3, 1) := by decide +kernel
theorem dX7_readPair_11 : decode cX7_readPair 11 = .ok (.iload 5, 2) := by decide +kernel
theorem dX7_readPair_13 : decode cX7_readPair 13 = .ok (.aload_n 0, 1) := by decide +kernel
theorem dX7_readPair_14 : decode cX7_readPair 14 = .ok (.invokevirtual 134, 3) := by decide +kernel
theorem dX7_readPair_17 : decode cX7_readPair 17 = .ok (.iastore, 1) := by decide +kernel
theorem dX7_readPair_18 : decode cX7_readPair 18 = .ok (.aload 4, 2) := by decide +kernel
theorem dX7_readPair_20 : decode cX7_readPair 20 = .ok (.iload 5, 2) := by decide +kernel
theorem dX7_readPair_22 : decode cX7_readPair 22 = .ok (.aload_n 3, 1) := by decide +kernel
theorem dX7_readPair_23 : decode cX7_readPair 23 = .ok (.iload 5, 2) := by decide +kernel
theorem dX7_readPair_25 : decode cX7_readPair 25 = .ok (.iaload, 1) := by decide +kernel
theorem dX7_readPair_26 : decode cX7_readPair 26 = .ok (.iastore, 1) := by decide +kernel
theorem dX7_readPair_27 : decode cX7_readPair 27 = .ok (.aload_n 3, 1) := by decide +kernel
theorem dX7_readPair_28 : decode cX7_readPair 28 = .ok (.iload 5, 2) := by decide +kernel
theorem dX7_readPair_30 : decode cX7_readPair 30 = .ok (.iaload, 1) := by decide +kernel
theorem dX7_readPair_31 : decode cX7_readPair 31 = .ok (.iconst (-1), 1) := by decide +kernel
theorem dX7_readPair_32 : decode cX7_readPair 32 = .ok (.if_icmp .ne 5, 3) := by decide +kernel
theorem dX7_readPair_35 : decode cX7_readPair 35 = .ok (.iconst 0, 1) := by decide +kernel
theorem dX7_readPair_36 : decode cX7_readPair 36 = .ok (.ireturn, 1) := by decide +kernel
theorem dX7_readPair_37 : decode cX7_readPair 37 = .ok (.aload_n 0, 1) := by decide +kernel
theorem dX7_readPair_38 : decode cX7_readPair 38 = .ok (.getfield 9, 3) := by decide +kernel
theorem dX7_readPair_41 : decode cX7_readPair 41 = .ok (.getfield 86, 3) := by decide +kernel
theorem dX7_readPair_44 : decode cX7_readPair 44 = .ok (.bipush 8, 2) := by decide +kernel
theorem dX7_readPair_46 : decode cX7_readPair 46 = .ok (.if_icmp .ne 7, 3) := by decide +kernel
theorem dX7_readPair_49 : decode cX7_readPair 49 = .ok (.iconst 2, 1) := by decide +kernel
theorem dX7_readPair_50 : decode cX7_readPair 50 = .ok (.goto 4, 3) := by decide +kernel
theorem dX7_readPair_53 : decode cX7_readPair 53 = .ok (.iconst 1, 1) := by decide +kernel
theorem dX7_readPair_54 : decode cX7_readPair 54 = .ok (.istore 6, 2) := by decide +kernel
theorem dX7_readPair_56 : decode cX7_readPair 56 = .ok (.aload_n 0, 1) := by decide +kernel
theorem dX7_readPair_57 : decode cX7_readPair 57 = .ok (.getfield 9, 3) := by decide +kernel
theorem dX7_readPair_60 : decode cX7_readPair 60 = .ok (.getfield 86, 3) := by decide +kernel
theorem dX7_readPair_63 : decode cX7_readPair 63 = .ok (.bipush 8, 2) := by decide +kernel
theorem dX7_readPair_65 : decode cX7_readPair 65 = .ok (.if_icmp .eq 25, 3) := by decide +kernel
theorem dX7_readPair_68 : decode cX7_readPair 68 = .ok (.aload_n 0, 1) := by decide +kernel
theorem dX7_readPair_69 : decode cX7_readPair 69 = .ok (.getfield 9, 3) := by decide +kernel
theorem dX7_readPair_72 : decode cX7_readPair 72 = .ok (.getfield 86, 3) := by decide +kernel
theorem dX7_readPair_75 : decode cX7_readPair 75 = .ok (.iconst 5, 1) := by decide +kernel
theorem dX7_readPair_76 : decode cX7_readPair 76 = .ok (.if_icmp .ne 9, 3) := by decide +kernel
theorem dX7_readPair_79 : decode cX7_readPair 79 = .ok (.iload_n 1, 1) := by decide +kernel
theorem dX7_readPair_80 : decode cX7_readPair 80 = .ok (.bipush 6, 2) := by decide +kernel
theorem dX7_readPair_82 : decode cX7_readPair 82 = .ok (.if_icmp .ne 8, 3) := by decide +kernel
theorem dX7_readPair_85 : decode cX7_readPair 85 = .ok (.aload_n 0, 1) := by decide +kernel
theorem dX7_readPair_86 : decode cX7_readPair 86 = .ok (.invokevirtual 94, 3) := by decide +kernel
theorem dX7_readPair_89 : decode cX7_readPair 89 = .ok (.ireturn, 1) := by decide +kernel
theorem dX7_readPair_90 : decode cX7_readPair 90 = .ok (.iload_n 1, 1) := by decide +kernel
theorem dX7_readPair_91 : decode cX7_readPair 91 = .ok (.bipush 6, 2) := by decide +kernel
theorem dX7_readPair_93 : decode cX7_readPair 93 = .ok (.if_icmp .eq 38, 3) := by decide +kernel
theorem dX7_readPair_96 : decode cX7_readPair 96 = .ok (.aload_n 0, 1) := by decide +kernel
theorem dX7_readPair_97 : decode cX7_readPair 97 = .ok (.getfield 67, 3) := by decide +kernel
theorem dX7_readPair_100 : decode cX7_readPair 100 = .ok (.iload_n 1, 1) := by decide +kernel
theorem dX7_readPair_101 : decode cX7_readPair 101 = .ok (.iaload, 1) := by decide +kernel
theorem dX7_readPair_102 : decode cX7_readPair 102 = .ok (.ifCond .eq 21, 3) := by decide +kernel
theorem dX7_readPair_105 : decode cX7_readPair 105 = .ok (.aload_n 0, 1) := by decide +kernel
theorem dX7_readPair_106 : decode cX7_readPair 106 = .ok (.getfield 67, 3) := by decide +kernel
theorem dX7_readPair_109 : decode cX7_readPair 109 = .ok (.iload_n 1, 1) := by decide +kernel
theorem dX7_readPair_110 : decode cX7_readPair 110 = .ok (.iaload, 1) := by decide +kernel
theorem dX7_readPair_111 : decode cX7_readPair 111 = .ok (.iload 6, 2) := by decide +kernel
theorem dX7_readPair_113 : decode cX7_readPair 113 = .ok (.if_icmp .eq 10, 3) := by decide +kernel
theorem dX7_readPair_116 : decode cX7_readPair 116 = .ok (.aload_n 0, 1) := by decide +kernel
theorem dX7_readPair_117 : decode cX7_readPair 117 = .ok (.iconst 3, 1) := by decide +kernel
theorem dX7_readPair_118 : decode cX7_readPair 118 = .ok (.iload_n 2, 1) := by decide +kernel
theorem dX7_readPair_119 : decode cX7_readPair 119 = .ok (.invokevirtual 106, 3) := by decide +kernel
theorem dX7_readPair_122 : decode cX7_readPair 122 = .ok (.ireturn, 1) := by decide +kernel
theorem dX7_readPair_123 : decode cX7_readPair 123 = .ok (.aload_n 0, 1) := by decide +kernel
theorem dX7_readPair_124 : decode cX7_readPair 124 = .ok (.getfield 67, 3) := by decide +kernel
theorem dX7_readPair_127 : decode cX7_readPair 127 = .ok (.iload_n 1, 1) := by decide +kernel
theorem dX7_readPair_128 : decode cX7_readPair 128 = .ok (.iload 6, 2) := by decide +kernel
theorem dX7_readPair_130 : decode cX7_readPair 130 = .ok (.iastore, 1) := by decide +kernel
theorem dX7_readPair_131 : decode cX7_readPair 131 = .ok (.aload_n 0, 1) := by decide +kernel
theorem dX7_readPair_132 : decode cX7_readPair 132 = .ok (.getfield 9, 3) := by decide +kernel
theorem dX7_readPair_135 : decode cX7_readPair 135 = .ok (.invokevirtual 97, 3) := by decide +kernel
theorem dX7_readPair_138 : decode cX7_readPair 138 = .ok (.iload 6, 2) := by decide +kernel
theorem dX7_readPair_140 : decode cX7_readPair 140 = .ok (.iconst 1, 1) := by decide +kernel
theorem dX7_readPair_141 : decode cX7_readPair 141 = .ok (.if_icmp .ne 5, 3) := by decide +kernel
theorem dX7_readPair_144 : decode cX7_readPair 144 = .ok (.iconst 1, 1) := by decide +kernel
theorem dX7_readPair_145 : decode cX7_readPair 145 = .ok (.ireturn, 1) := by decide +kernel
theorem dX7_readPair_146 : decode cX7_readPair 146 = .ok (.aload 4, 2) := by decide +kernel
theorem dX7_readPair_148 : decode cX7_readPair 148 = .ok (.iload 5, 2) := by decide +kernel
theorem dX7_readPair_150 : decode cX7_readPair 150 = .ok (.aload_n 0, 1) := by decide +kernel
theorem dX7_readPair_151 : decode cX7_readPair 151 = .ok (.invokevirtual 134, 3) := by decide +kernel
theorem dX7_readPair_154 : decode cX7_readPair 154 = .ok (.iastore, 1) := by decide +kernel
theorem dX7_readPair_155 : decode cX7_readPair 155 = .ok (.aload 4, 2) := by decide +kernel
theorem dX7_readPair_157 : decode cX7_readPair 157 = .ok (.iload 5, 2) := by decide +kernel
theorem dX7_readPair_159 : decode cX7_readPair 159 = .ok (.iaload, 1) := by decide +kernel
theorem dX7_readPair_160 : decode cX7_readPair 160 = .ok (.iconst (-1), 1) := by decide +kernel
theorem dX7_readPair_161 : decode cX7_readPair 161 = .ok (.if_icmp .eq 15, 3) := by decide +kernel
theorem dX7_readPair_164 : decode cX7_readPair 164 = .ok (.aload_n 0, 1) := by decide +kernel
theorem dX7_readPair_165 : decode cX7_readPair 165 = .ok (.iconst 5, 1) := by decide +kernel
theorem dX7_readPair_166 : decode cX7_readPair 166 = .ok (.invokevirtual 131, 3) := by decide +kernel
theorem dX7_readPair_169 : decode cX7_readPair 169 = .ok (.ifCond .eq 7, 3) := by decide +kernel
theorem dX7_readPair_172 : decode cX7_readPair 172 = .ok (.iconst 1, 1) := by decide +kernel
theorem dX7_readPair_173 : decode cX7_readPair 173 = .ok (.goto 4, 3) := by decide +kernel
theorem dX7_readPair_176 : decode cX7_readPair 176 = .ok (.iconst 0, 1) := by decide +kernel
theorem dX7_readPair_177 : decode cX7_readPair 177 = .ok (.ireturn, 1) := by decide +kernel
theorem dX7_readPart_0 : decode cX7_readPart 0 = .ok (.aload_n 0, 1) := by decide +kernel
theorem dX7_readPart_1 : decode cX7_readPart 1 = .ok (.getfield 9, 3) := by decide +kernel
theorem dX7_readPart_4 : decode cX7_readPart 4 = .ok (.getfield 100, 3) := by decide +kernel
theorem dX7_readPart_7 : decode cX7_readPart 7 = .ok (.lstore_n 2, 1) := by decide +kernel
theorem dX7_readPart_8 : decode cX7_readPart 8 = .ok (.aload_n 0, 1) := by decide +kernel
theorem dX7_readPart_9 : decode cX7_readPart 9 = .ok (.getfield 9, 3) := by decide +kernel
theorem dX7_readPart_12 : decode cX7_readPart 12 = .ok (.getfield 93, 3) := by decide +kernel
theorem dX7_readPart_15 : decode cX7_readPart 15 = .ok (.istore 4, 2) := by decide +kernel
theorem dX7_readPart_17 : decode cX7_readPart 17 = .ok (.aload_n 0, 1) := by decide +kernel
theorem dX7_readPart_18 : decode cX7_readPart 18 = .ok (.getfield 9, 3) := by decide +kernel
theorem dX7_readPart_21 : decode cX7_readPart 21 = .ok (.invokevirtual 97, 3) := by decide +kernel
theorem dX7_readPart_24 : decode cX7_readPart 24 = .ok (.lload_n 2, 1) := by decide +kernel
theorem dX7_readPart_25 : decode cX7_readPart 25 = .ok (.aload_n 0, 1) := by decide +kernel
theorem dX7_readPart_26 : decode cX7_readPart 26 = .ok (.getfield 29, 3) := by decide +kernel
theorem dX7_readPart_29 : decode cX7_readPart 29 = .ok (.lcmp, 1) := by decide +kernel
theorem dX7_readPart_30 : decode cX7_readPart 30 = .ok (.ifCond .eq 14, 3) := by decide +kernel
theorem dX7_readPart_33 : decode cX7_readPart 33 = .ok (.aload_n 0, 1) := by decide +kernel
theorem dX7_readPart_34 : decode cX7_readPart 34 = .ok (.getfield 9, 3) := by decide +kernel
theorem dX7_readPart_37 : decode cX7_readPart 37 = .ok (.getfield 86, 3) := by decide +kernel
theorem dX7_readPart_40 : decode cX7_readPart 40 = .ok (.iconst 4, 1) := by decide +kernel
theorem dX7_readPart_41 : decode cX7_readPart 41 = .ok (.if_icmp .ne 100, 3) := by decide +kernel
theorem dX7_readPart_44 : decode cX7_readPart 44 = .ok (.aload_n 0, 1) := by decide +kernel
theorem dX7_readPart_45 : decode cX7_readPart 45 = .ok (.getfield 48, 3) := by decide +kernel
theorem dX7_readPart_48 : decode cX7_readPart 48 = .ok (.iload_n 1, 1) := by decide +kernel
theorem dX7_readPart_49 : decode cX7_readPart 49 = .ok (.lload_n 2, 1) := by decide +kernel
theorem dX7_readPart_50 : decode cX7_readPart 50 = .ok (.aload_n 0, 1) := by decide +kernel
theorem dX7_readPart_51 : decode cX7_readPart 51 = .ok (.getfield 29, 3) := by decide +kernel
theorem dX7_readPart_54 : decode cX7_readPart 54 = .ok (.lcmp, 1) := by decide +kernel
theorem dX7_readPart_55 : decode cX7_readPart 55 = .ok (.ifCond .ne 8, 3) := by decide +kernel
theorem dX7_readPart_58 : decode cX7_readPart 58 = .ok (.bipush 6, 2) := by decide +kernel
theorem dX7_readPart_60 : decode cX7_readPart 60 = .ok (.goto 8, 3) := by decide +kernel
theorem dX7_readPart_63 : decode cX7_readPart 63 = .ok (.aload_n 0, 1) := by decide +kernel
theorem dX7_readPart_64 : decode cX7_readPart 64 = .ok (.lload_n 2, 1) := by decide +kernel
theorem dX7_readPart_65 : decode cX7_readPart 65 = .ok (.invokevirtual 116, 3) := by decide +kernel
theorem dX7_readPart_68 : decode cX7_readPart 68 = .ok (.iastore, 1) := by decide +kernel
theorem dX7_readPart_69 : decode cX7_readPart 69 = .ok (.aload_n 0, 1) := by decide +kernel
theorem dX7_readPart_70 : decode cX7_readPart 70 = .ok (.getfield 48, 3) := by decide +kernel
theorem dX7_readPart_73 : decode cX7_readPart 73 = .ok (.iload_n 1, 1) := by decide +kernel
theorem dX7_readPart_74 : decode cX7_readPart 74 = .ok (.iaload, 1) := by decide +kernel
theorem dX7_readPart_75 : decode cX7_readPart 75 = .ok (.iconst (-1), 1) := by decide +kernel
theorem dX7_readPart_76 : decode cX7_readPart 76 = .ok (.if_icmp .ne 11, 3) := by decide +kernel
theorem dX7_readPart_79 : decode cX7_readPart 79 = .ok (.aload_n 0, 1) := by decide +kernel
theorem dX7_readPart_80 : decode cX7_readPart 80 = .ok (.iconst 4, 1) := by decide +kernel
theorem dX7_readPart_81 : decode cX7_readPart 81 = .ok (.iload 4, 2) := by decide +kernel
theorem dX7_readPart_83 : decode cX7_readPart 83 = .ok (.invokevirtual 106, 3) := by decide +kernel
theorem dX7_readPart_86 : decode cX7_readPart 86 = .ok (.ireturn, 1) := by decide +kernel
theorem dX7_readPart_87 : decode cX7_readPart 87 = .ok (.aload_n 0, 1) := by decide +kernel
theorem dX7_readPart_88 : decode cX7_readPart 88 = .ok (.aload_n 0, 1) := by decide +kernel
theorem dX7_readPart_89 : decode cX7_readPart 89 = .ok (.getfield 48, 3) := by decide +kernel
theorem dX7_readPart_92 : decode cX7_readPart 92 = .ok (.iload_n 1, 1) := by decide +kernel
theorem dX7_readPart_93 : decode cX7_readPart 93 = .ok (.iaload, 1) := by decide +kernel
theorem dX7_readPart_94 : decode cX7_readPart 94 = .ok (.iload 4, 2) := by decide +kernel
theorem dX7_readPart_96 : decode cX7_readPart 96 = .ok (.aload_n 0, 1) := by decide +kernel
theorem dX7_readPart_97 : decode cX7_readPart 97 = .ok (.getfield 51, 3) := by decide +kernel
theorem dX7_readPart_100 : decode cX7_readPart 100 = .ok (.aload_n 0, 1) := by decide +kernel
theorem dX7_readPart_101 : decode cX7_readPart 101 = .ok (.getfield 54, 3) := by decide +kernel
theorem dX7_readPart_104 : decode cX7_readPart 104 = .ok (.iload_n 1, 1) := by decide +kernel
theorem dX7_readPart_105 : decode cX7_readPart 105 = .ok (.invokevirtual 120, 3) := by decide +kernel
theorem dX7_readPart_108 : decode cX7_readPart 108 = .ok (.ifCond .ne 5, 3) := by decide +kernel
theorem dX7_readPart_111 : decode cX7_readPart 111 = .ok (.iconst 0, 1) := by decide +kernel
theorem dX7_readPart_112 : decode cX7_readPart 112 = .ok (.ireturn, 1) := by decide +kernel
theorem dX7_readPart_113 : decode cX7_readPart 113 = .ok (.aload_n 0, 1) := by decide +kernel
theorem dX7_readPart_114 : decode cX7_readPart 114 = .ok (.dup, 1) := by decide +kernel
theorem dX7_readPart_115 : decode cX7_readPart 115 = .ok (.getfield 113, 3) := by decide +kernel
theorem dX7_readPart_118 : decode cX7_readPart 118 = .ok (.iconst 1, 1) := by decide +kernel
theorem dX7_readPart_119 : decode cX7_readPart 119 = .ok (.aload_n 0, 1) := by decide +kernel
theorem dX7_readPart_120 : decode cX7_readPart 120 = .ok (.getfield 51, 3) := by decide +kernel
theorem dX7_readPart_123 : decode cX7_readPart 123 = .ok (.iload_n 1, 1) := by decide +kernel
theorem dX7_readPart_124 : decode cX7_readPart 124 = .ok (.iaload, 1) := by decide +kernel
theorem dX7_readPart_125 : decode cX7_readPart 125 = .ok (.ishl, 1) := by decide +kernel
theorem dX7_readPart_126 : decode cX7_readPart 126 = .ok (.iconst 1, 1) := by decide +kernel
theorem dX7_readPart_127 : decode cX7_readPart 127 = .ok (.aload_n 0, 1) := by decide +kernel
theorem dX7_readPart_128 : decode cX7_readPart 128 = .ok (.getfield 54, 3) := by decide +kernel
theorem dX7_readPart_131 : decode cX7_readPart 131 = .ok (.iload_n 1, 1) := by decide +kernel
theorem dX7_readPart_132 : decode cX7_readPart 132 = .ok (.iaload, 1) := by decide +kernel
theorem dX7_readPart_133 : decode cX7_readPart 133 = .ok (.ishl, 1) := by decide +kernel
theorem dX7_readPart_134 : decode cX7_readPart 134 = .ok (.ior, 1) := by decide +kernel
theorem dX7_readPart_135 : decode cX7_readPart 135 = .ok (.ior, 1) := by decide +kernel
theorem dX7_readPart_136 : decode cX7_readPart 136 = .ok (.putfield 113, 3) := by decide +kernel
theorem dX7_readPart_139 : decode cX7_readPart 139 = .ok (.iconst 1, 1) := by decide +kernel
theorem dX7_readPart_140 : decode cX7_readPart 140 = .ok (.ireturn, 1) := by decide +kernel
theorem dX7_readPart_141 : decode cX7_readPart 141 = .ok (.aload_n 0, 1) := by decide +kernel
theorem dX7_readPart_142 : decode cX7_readPart 142 = .ok (.getfield 9, 3) := by decide +kernel
theorem dX7_readPart_145 : decode cX7_readPart 145 = .ok (.getfield 86, 3) := by decide +kernel
theorem dX7_readPart_148 : decode cX7_readPart 148 = .ok (.bipush 9, 2) := by decide +kernel
theorem dX7_readPart_150 : decode cX7_readPart 150 = .ok (.if_icmp .ne 94, 3) := by decide +kernel
theorem dX7_readPart_153 : decode cX7_readPart 153 = .ok (.aload_n 0, 1) := by decide +kernel
theorem dX7_readPart_154 : decode cX7_readPart 154 = .ok (.getfield 9, 3) := by decide +kernel
theorem dX7_readPart_157 : decode cX7_readPart 157 = .ok (.invokevirtual 97, 3) := by decide +kernel
theorem dX7_readPart_160 : decode cX7_readPart 160 = .ok (.aload_n 0, 1) := by decide +kernel
theorem dX7_readPart_161 : decode cX7_readPart 161 = .ok (.getfield 48, 3) := by decide +kernel
theorem dX7_readPart_164 : decode cX7_readPart 164 = .ok (.iload_n 1, 1) := by decide +kernel
theorem dX7_readPart_165 : decode cX7_readPart 165 = .ok (.bipush 9, 2) := by decide +kernel
theorem dX7_readPart_167 : decode cX7_readPart 167 = .ok (.iastore, 1) := by decide +kernel
theorem dX7_readPart_168 : decode cX7_readPart 168 = .ok (.aload_n 0, 1) := by decide +kernel
theorem dX7_readPart_169 : decode cX7_readPart 169 = .ok (.getfield 57, 3) := by decide +kernel
theorem dX7_readPart_172 : decode cX7_readPart 172 = .ok (.iload_n 1, 1) := by decide +kernel
theorem dX7_readPart_173 : decode cX7_readPart 173 = .ok (.lload_n 2, 1) := by decide +kernel
theorem dX7_readPart_174 : decode cX7_readPart 174 = .ok (.lastore, 1) := by decide +kernel
theorem dX7_readPart_175 : decode cX7_readPart 175 = .ok (.aload_n 0, 1) := by decide +kernel
theorem dX7_readPart_176 : decode cX7_readPart 176 = .ok (.getfield 51, 3) := by decide +kernel
theorem dX7_readPart_179 : decode cX7_readPart 179 = .ok (.iload_n 1, 1) := by decide +kernel
theorem dX7_readPart_180 : decode cX7_readPart 180 = .ok (.aload_n 0, 1) := by decide +kernel
theorem dX7_readPart_181 : decode cX7_readPart 181 = .ok (.invokevirtual 134, 3) := by decide +kernel
theorem dX7_readPart_184 : decode cX7_readPart 184 = .ok (.iastore, 1) := by decide +kernel
theorem dX7_readPart_185 : decode cX7_readPart 185 = .ok (.aload_n 0, 1) := by decide +kernel
theorem dX7_readPart_186 : decode cX7_readPart 186 = .ok (.getfield 54, 3) := by decide +kernel
theorem dX7_readPart_189 : decode cX7_readPart 189 = .ok (.iload_n 1, 1) := by decide +kernel
theorem dX7_readPart_190 : decode cX7_readPart 190 = .ok (.aload_n 0, 1) := by decide +kernel
theorem dX7_readPart_191 : decode cX7_readPart 191 = .ok (.getfield 51, 3) := by decide +kernel
theorem dX7_readPart_194 : decode cX7_readPart 194 = .ok (.iload_n 1, 1) := by decide +kernel
theorem dX7_readPart_195 : decode cX7_readPart 195 = .ok (.iaload, 1) := by decide +kernel
theorem dX7_readPart_196 : decode cX7_readPart 196 = .ok (.iastore, 1) := by decide +kernel
theorem dX7_readPart_197 : decode cX7_readPart 197 = .ok (.aload_n 0, 1) := by decide +kernel
theorem dX7_readPart_198 : decode cX7_readPart 198 = .ok (.dup, 1) := by decide +kernel
theorem dX7_readPart_199 : decode cX7_readPart 199 = .ok (.getfield 113, 3) := by decide +kernel
theorem dX7_readPart_202 : decode cX7_readPart 202 = .ok (.aload_n 0, 1) := by decide +kernel
theorem dX7_readPart_203 : decode cX7_readPart 203 = .ok (.getfield 51, 3) := by decide +kernel
theorem dX7_readPart_206 : decode cX7_readPart 206 = .ok (.iload_n 1, 1) := by decide +kernel
theorem dX7_readPart_207 : decode cX7_readPart 207 = .ok (.iaload, 1) := by decide +kernel
theorem dX7_readPart_208 : decode cX7_readPart 208 = .ok (.iconst (-1), 1) := by decide +kernel
theorem dX7_readPart_209 : decode cX7_readPart 209 = .ok (.if_icmp .ne 7, 3) := by decide +kernel
theorem dX7_readPart_212 : decode cX7_readPart 212 = .ok (.iconst 0, 1) := by decide +kernel
theorem dX7_readPart_213 : decode cX7_readPart 213 = .ok (.goto 11, 3) := by decide +kernel
theorem dX7_readPart_216 : decode cX7_readPart 216 = .ok (.iconst 1, 1) := by decide +kernel
theorem dX7_readPart_217 : decode cX7_readPart 217 = .ok (.aload_n 0, 1) := by decide +kernel
theorem dX7_readPart_218 : decode cX7_readPart 218 = .ok (.getfield 51, 3) := by decide +kernel
theorem dX7_readPart_221 : decode cX7_readPart 221 = .ok (.iload_n 1, 1) := by decide +kernel
theorem dX7_readPart_222 : decode cX7_readPart 222 = .ok (.iaload, 1) := by decide +kernel
theorem dX7_readPart_223 : decode cX7_readPart 223 = .ok (.ishl, 1) := by decide +kernel
theorem dX7_readPart_224 : decode cX7_readPart 224 = .ok (.ior, 1) := by decide +kernel
theorem dX7_readPart_225 : decode cX7_readPart 225 = .ok (.putfield 113, 3) := by decide +kernel
theorem dX7_readPart_228 : decode cX7_readPart 228 = .ok (.aload_n 0, 1) := by decide +kernel
theorem dX7_readPart_229 : decode cX7_readPart 229 = .ok (.getfield 51, 3) := by decide +kernel
theorem dX7_readPart_232 : decode cX7_readPart 232 = .ok (.iload_n 1, 1) := by decide +kernel
theorem dX7_readPart_233 : decode cX7_readPart 233 = .ok (.iaload, 1) := by decide +kernel
theorem dX7_readPart_234 : decode cX7_readPart 234 = .ok (.iconst (-1), 1) := by decide +kernel
theorem dX7_readPart_235 : decode cX7_readPart 235 = .ok (.if_icmp .eq 7, 3) := by decide +kernel
theorem dX7_readPart_238 : decode cX7_readPart 238 = .ok (.iconst 1, 1) := by decide +kernel
theorem dX7_readPart_239 : decode cX7_readPart 239 = .ok (.goto 4, 3) := by decide +kernel
theorem dX7_readPart_242 : decode cX7_readPart 242 = .ok (.iconst 0, 1) := by decide +kernel
theorem dX7_readPart_243 : decode cX7_readPart 243 = .ok (.ireturn, 1) := by decide +kernel
theorem dX7_readPart_244 : decode cX7_readPart 244 = .ok (.aload_n 0, 1) := by decide +kernel
theorem dX7_readPart_245 : decode cX7_readPart 245 = .ok (.getfield 9, 3) := by decide +kernel
theorem dX7_readPart_248 : decode cX7_readPart 248 = .ok (.getfield 86, 3) := by decide +kernel
theorem dX7_readPart_251 : decode cX7_readPart 251 = .ok (.bipush 12, 2) := by decide +kernel
theorem dX7_readPart_253 : decode cX7_readPart 253 = .ok (.if_icmp .eq 20, 3) := by decide +kernel
theorem dX7_readPart_256 : decode cX7_readPart 256 = .ok (.aload_n 0, 1) := by decide +kernel
theorem dX7_readPart_257 : decode cX7_readPart 257 = .ok (.getfield 9, 3) := by decide +kernel
theorem dX7_readPart_260 : decode cX7_readPart 260 = .ok (.getfield 86, 3) := by decide +kernel
theorem dX7_readPart_263 : decode cX7_readPart 263 = .ok (.bipush 20, 2) := by decide +kernel
theorem dX7_readPart_265 : decode cX7_readPart 265 = .ok (.if_icmp .eq 8, 3) := by decide +kernel
theorem dX7_readPart_268 : decode cX7_readPart 268 = .ok (.aload_n 0, 1) := by decide +kernel
theorem dX7_readPart_269 : decode cX7_readPart 269 = .ok (.invokevirtual 94, 3) := by decide +kernel
theorem dX7_readPart_272 : decode cX7_readPart 272 = .ok (.ireturn, 1) := by decide +kernel
theorem dX7_readPart_273 : decode cX7_readPart 273 = .ok (.aload_n 0, 1) := by decide +kernel
theorem dX7_readPart_274 : decode cX7_readPart 274 = .ok (.getfield 48, 3) := by decide +kernel
theorem dX7_readPart_277 : decode cX7_readPart 277 = .ok (.iload_n 1, 1) := by decide +kernel
theorem dX7_readPart_278 : decode cX7_readPart 278 = .ok (.aload_n 0, 1) := by decide +kernel
theorem dX7_readPart_279 : decode cX7_readPart 279 = .ok (.getfield 9, 3) := by decide +kernel
theorem dX7_readPart_282 : decode cX7_readPart 282 = .ok (.getfield 86, 3) := by decide +kernel
theorem dX7_readPart_285 : decode cX7_readPart 285 = .ok (.bipush 12, 2) := by decide +kernel
theorem dX7_readPart_287 : decode cX7_readPart 287 = .ok (.if_icmp .ne 8, 3) := by decide +kernel
theorem dX7_readPart_290 : decode cX7_readPart 290 = .ok (.bipush 7, 2) := by decide +kernel
theorem dX7_readPart_292 : decode cX7_readPart 292 = .ok (.goto 5, 3) := by decide +kernel
theorem dX7_readPart_295 : decode cX7_readPart 295 = .ok (.bipush 8, 2) := by decide +kernel
theorem dX7_readPart_297 : decode cX7_readPart 297 = .ok (.iastore, 1) := by decide +kernel
theorem dX7_readPart_298 : decode cX7_readPart 298 = .ok (.aload_n 0, 1) := by decide +kernel
theorem dX7_readPart_299 : decode cX7_readPart 299 = .ok (.getfield 51, 3) := by decide +kernel
theorem dX7_readPart_302 : decode cX7_readPart 302 = .ok (.iload_n 1, 1) := by decide +kernel
theorem dX7_readPart_303 : decode cX7_readPart 303 = .ok (.aload_n 0, 1) := by decide +kernel
theorem dX7_readPart_304 : decode cX7_readPart 304 = .ok (.lload_n 2, 1) := by decide +kernel
theorem dX7_readPart_305 : decode cX7_readPart 305 = .ok (.invokevirtual 138, 3) := by decide +kernel
theorem dX7_readPart_308 : decode cX7_readPart 308 = .ok (.iastore, 1) := by decide +kernel
theorem dX7_readPart_309 : decode cX7_readPart 309 = .ok (.aload_n 0, 1) := by decide +kernel
theorem dX7_readPart_310 : decode cX7_readPart 310 = .ok (.getfield 51, 3) := by decide +kernel
theorem dX7_readPart_313 : decode cX7_readPart 313 = .ok (.iload_n 1, 1) := by decide +kernel
theorem dX7_readPart_314 : decode cX7_readPart 314 = .ok (.iaload, 1) := by decide +kernel
theorem dX7_readPart_315 : decode cX7_readPart 315 = .ok (.iconst (-1), 1) := by decide +kernel
theorem dX7_readPart_316 : decode cX7_readPart 316 = .ok (.if_icmp .ne 11, 3) := by decide +kernel
theorem dX7_readPart_319 : decode cX7_readPart 319 = .ok (.aload_n 0, 1) := by decide +kernel
theorem dX7_readPart_320 : decode cX7_readPart 320 = .ok (.iconst 4, 1) := by decide +kernel
theorem dX7_readPart_321 : decode cX7_readPart 321 = .ok (.iload 4, 2) := by decide +kernel
theorem dX7_readPart_323 : decode cX7_readPart 323 = .ok (.invokevirtual 106, 3) := by decide +kernel
theorem dX7_readPart_326 : decode cX7_readPart 326 = .ok (.ireturn, 1) := by decide +kernel
theorem dX7_readPart_327 : decode cX7_readPart 327 = .ok (.aload_n 0, 1) := by decide +kernel
theorem dX7_readPart_328 : decode cX7_readPart 328 = .ok (.getfield 9, 3) := by decide +kernel
theorem dX7_readPart_331 : decode cX7_readPart 331 = .ok (.invokevirtual 97, 3) := by decide +kernel
theorem dX7_readPart_334 : decode cX7_readPart 334 = .ok (.aload_n 0, 1) := by decide +kernel
theorem dX7_readPart_335 : decode cX7_readPart 335 = .ok (.getfield 54, 3) := by decide +kernel
theorem dX7_readPart_338 : decode cX7_readPart 338 = .ok (.iload_n 1, 1) := by decide +kernel
theorem dX7_readPart_339 : decode cX7_readPart 339 = .ok (.aload_n 0, 1) := by decide +kernel
theorem dX7_readPart_340 : decode cX7_readPart 340 = .ok (.invokevirtual 134, 3) := by decide +kernel
theorem dX7_readPart_343 : decode cX7_readPart 343 = .ok (.iastore, 1) := by decide +kernel
theorem dX7_readPart_344 : decode cX7_readPart 344 = .ok (.aload_n 0, 1) := by decide +kernel
theorem dX7_readPart_345 : decode cX7_readPart 345 = .ok (.getfield 54, 3) := by decide +kernel
theorem dX7_readPart_348 : decode cX7_readPart 348 = .ok (.iload_n 1, 1) := by decide +kernel
theorem dX7_readPart_349 : decode cX7_readPart 349 = .ok (.iaload, 1) := by decide +kernel
theorem dX7_readPart_350 : decode cX7_readPart 350 = .ok (.iconst (-1), 1) := by decide +kernel
theorem dX7_readPart_351 : decode cX7_readPart 351 = .ok (.if_icmp .eq 7, 3) := by decide +kernel
theorem dX7_readPart_354 : decode cX7_readPart 354 = .ok (.iconst 1, 1) := by decide +kernel
theorem dX7_readPart_355 : decode cX7_readPart 355 = .ok (.goto 4, 3) := by decide +kernel
theorem dX7_readPart_358 : decode cX7_readPart 358 = .ok (.iconst 0, 1) := by decide +kernel
theorem dX7_readPart_359 : decode cX7_readPart 359 = .ok (.ireturn, 1) := by decide +kernel
theorem dX7_readRule_0 : decode cX7_readRule 0 = .ok (.aload_n 0, 1) := by decide +kernel
theorem dX7_readRule_1 : decode cX7_readRule 1 = .ok (.invokevirtual 103, 3) := by decide +kernel
theorem dX7_readRule_4 : decode cX7_readRule 4 = .ok (.ifCond .ne 8, 3) := by decide +kernel
theorem dX7_readRule_7 : decode cX7_readRule 7 = .ok (.aload_n 0, 1) := by decide +kernel
theorem dX7_readRule_8 : decode cX7_readRule 8 = .ok (.invokevirtual 94, 3) := by decide +kernel
theorem dX7_readRule_11 : decode cX7_readRule 11 = .ok (.ireturn, 1) := by decide +kernel
theorem dX7_readRule_12 : decode cX7_readRule 12 = .ok (.aload_n 0, 1) := by decide +kernel
theorem dX7_readRule_13 : decode cX7_readRule 13 = .ok (.getfield 70, 3) := by decide +kernel
theorem dX7_readRule_16 : decode cX7_readRule 16 = .ok (.bipush 12, 2) := by decide +kernel
theorem dX7_readRule_18 : decode cX7_readRule 18 = .ok (.if_icmp .ne 16, 3) := by decide +kernel
theorem dX7_readRule_21 : decode cX7_readRule 21 = .ok (.aload_n 0, 1) := by decide +kernel
theorem dX7_readRule_22 : decode cX7_readRule 22 = .ok (.iconst 4, 1) := by decide +kernel
theorem dX7_readRule_23 : decode cX7_readRule 23 = .ok (.aload_n 0, 1) := by decide +kernel
theorem dX7_readRule_24 : decode cX7_readRule 24 = .ok (.getfield 9, 3) := by decide +kernel
theorem dX7_readRule_27 : decode cX7_readRule 27 = .ok (.getfield 93, 3) := by decide +kernel
theorem dX7_readRule_30 : decode cX7_readRule 30 = .ok (.invokevirtual 106, 3) := by decide +kernel
theorem dX7_readRule_33 : decode cX7_readRule 33 = .ok (.ireturn, 1) := by decide +kernel
theorem dX7_readRule_34 : decode cX7_readRule 34 = .ok (.aload_n 0, 1) := by decide +kernel
theorem dX7_readRule_35 : decode cX7_readRule 35 = .ok (.iconst 0, 1) := by decide +kernel
theorem dX7_readRule_36 : decode cX7_readRule 36 = .ok (.putfield 110, 3) := by decide +kernel
theorem dX7_readRule_39 : decode cX7_readRule 39 = .ok (.aload_n 0, 1) := by decide +kernel
theorem dX7_readRule_40 : decode cX7_readRule 40 = .ok (.iconst 0, 1) := by decide +kernel
theorem dX7_readRule_41 : decode cX7_readRule 41 = .ok (.putfield 113, 3) := by decide +kernel
theorem dX7_readRule_44 : decode cX7_readRule 44 = .ok (.aload_n 0, 1) := by decide +kernel
theorem dX7_readRule_45 : decode cX7_readRule 45 = .ok (.getfield 9, 3) := by decide +kernel
theorem dX7_readRule_48 : decode cX7_readRule 48 = .ok (.getfield 93, 3) := by decide +kernel
theorem dX7_readRule_51 : decode cX7_readRule 51 = .ok (.istore_n 1, 1) := by decide +kernel
theorem dX7_readRule_52 : decode cX7_readRule 52 = .ok (.aload_n 0, 1) := by decide +kernel
theorem dX7_readRule_53 : decode cX7_readRule 53 = .ok (.aload_n 0, 1) := by decide +kernel
theorem dX7_readRule_54 : decode cX7_readRule 54 = .ok (.getfield 9, 3) := by decide +kernel
theorem dX7_readRule_57 : decode cX7_readRule 57 = .ok (.getfield 100, 3) := by decide +kernel
theorem dX7_readRule_60 : decode cX7_readRule 60 = .ok (.invokevirtual 116, 3) := by decide +kernel
theorem dX7_readRule_63 : decode cX7_readRule 63 = .ok (.istore_n 2, 1) := by decide +kernel
theorem dX7_readRule_64 : decode cX7_readRule 64 = .ok (.iload_n 2, 1) := by decide +kernel
theorem dX7_readRule_65 : decode cX7_readRule 65 = .ok (.iconst (-1), 1) := by decide +kernel
theorem dX7_readRule_66 : decode cX7_readRule 66 = .ok (.if_icmp .ne 10, 3) := by decide +kernel
theorem dX7_readRule_69 : decode cX7_readRule 69 = .ok (.aload_n 0, 1) := by decide +kernel
theorem dX7_readRule_70 : decode cX7_readRule 70 = .ok (.iconst 4, 1) := by decide +kernel
theorem dX7_readRule_71 : decode cX7_readRule 71 = .ok (.iload_n 1, 1) := by decide +kernel
theorem dX7_readRule_72 : decode cX7_readRule 72 = .ok (.invokevirtual 106, 3) := by decide +kernel
theorem dX7_readRule_75 : decode cX7_readRule 75 = .ok (.ireturn, 1) := by decide +kernel
theorem dX7_readRule_76 : decode cX7_readRule 76 = .ok (.aload_n 0, 1) := by decide +kernel
theorem dX7_readRule_77 : decode cX7_readRule 77 = .ok (.getfield 9, 3) := by decide +kernel
theorem dX7_readRule_80 : decode cX7_readRule 80 = .ok (.invokevirtual 97, 3) := by decide +kernel
theorem dX7_readRule_83 : decode cX7_readRule 83 = .ok (.aload_n 0, 1) := by decide +kernel
theorem dX7_readRule_84 : decode cX7_readRule 84 = .ok (.getfield 32, 3) := by decide +kernel
theorem dX7_readRule_87 : decode cX7_readRule 87 = .ok (.aload_n 0, 1) := by decide +kernel
theorem dX7_readRule_88 : decode cX7_readRule 88 = .ok (.getfield 70, 3) := by decide +kernel
theorem dX7_readRule_91 : decode cX7_readRule 91 = .ok (.iload_n 2, 1) := by decide +kernel
theorem dX7_readRule_92 : decode cX7_readRule 92 = .ok (.iastore, 1) := by decide +kernel
theorem dX7_readRule_93 : decode cX7_readRule 93 = .ok (.aload_n 0, 1) := by decide +kernel
theorem dX7_readRule_94 : decode cX7_readRule 94 = .ok (.iload_n 2, 1) := by decide +kernel
theorem dX7_readRule_95 : decode cX7_readRule 95 = .ok (.iload_n 1, 1) := by decide +kernel
theorem dX7_readRule_96 : decode cX7_readRule 96 = .ok (.aload_n 0, 1) := by decide +kernel
theorem dX7_readRule_97 : decode cX7_readRule 97 = .ok (.getfield 36, 3) := by decide +kernel
theorem dX7_readRule_100 : decode cX7_readRule 100 = .ok (.aload_n 0, 1) := by decide +kernel
theorem dX7_readRule_101 : decode cX7_readRule 101 = .ok (.getfield 39, 3) := by decide +kernel
theorem dX7_readRule_104 : decode cX7_readRule 104 = .ok (.aload_n 0, 1) := by decide +kernel
theorem dX7_readRule_105 : decode cX7_readRule 105 = .ok (.getfield 70, 3) := by decide +kernel
theorem dX7_readRule_108 : decode cX7_readRule 108 = .ok (.invokevirtual 120, 3) := by decide +kernel
theorem dX7_readRule_111 : decode cX7_readRule 111 = .ok (.ifCond .ne 5, 3) := by decide +kernel
theorem dX7_readRule_114 : decode cX7_readRule 114 = .ok (.iconst 0, 1) := by decide +kernel
theorem dX7_readRule_115 : decode cX7_readRule 115 = .ok (.ireturn, 1) := by decide +kernel
theorem dX7_readRule_116 : decode cX7_readRule 116 = .ok (.aload_n 0, 1) := by decide +kernel
theorem dX7_readRule_117 : decode cX7_readRule 117 = .ok (.getfield 9, 3) := by decide +kernel
theorem dX7_readRule_120 : decode cX7_readRule 120 = .ok (.getfield 86, 3) := by decide +kernel
theorem dX7_readRule_123 : decode cX7_readRule 123 = .ok (.iconst 2, 1) := by decide +kernel
theorem dX7_readRule_124 : decode cX7_readRule 124 = .ok (.if_icmp .ne 18, 3) := by decide +kernel
theorem dX7_readRule_127 : decode cX7_readRule 127 = .ok (.aload_n 0, 1) := by decide +kernel
theorem dX7_readRule_128 : decode cX7_readRule 128 = .ok (.getfield 9, 3) := by decide +kernel
theorem dX7_readRule_131 : decode cX7_readRule 131 = .ok (.getfield 100, 3) := by decide +kernel
theorem dX7_readRule_134 : decode cX7_readRule 134 = .ok (.aload_n 0, 1) := by decide +kernel
theorem dX7_readRule_135 : decode cX7_readRule 135 = .ok (.getfield 23, 3) := by decide +kernel
theorem dX7_readRule_138 : decode cX7_readRule 138 = .ok (.lcmp, 1) := by decide +kernel
theorem dX7_readRule_139 : decode cX7_readRule 139 = .ok (.ifCond .eq 8, 3) := by decide +kernel
theorem dX7_readRule_142 : decode cX7_readRule 142 = .ok (.aload_n 0, 1) := by decide +kernel
theorem dX7_readRule_143 : decode cX7_readRule 143 = .ok (.invokevirtual 94, 3) := by decide +kernel
theorem dX7_readRule_146 : decode cX7_readRule 146 = .ok (.ireturn, 1) := by decide +kernel
theorem dX7_readRule_147 : decode cX7_readRule 147 = .ok (.aload_n 0, 1) := by decide +kernel
theorem dX7_readRule_148 : decode cX7_readRule 148 = .ok (.getfield 9, 3) := by decide +kernel
theorem dX7_readRule_151 : decode cX7_readRule 151 = .ok (.invokevirtual 97, 3) := by decide +kernel
theorem dX7_readRule_154 : decode cX7_readRule 154 = .ok (.aload_n 0, 1) := by decide +kernel
theorem dX7_readRule_155 : decode cX7_readRule 155 = .ok (.invokevirtual 124, 3) := by decide +kernel
theorem dX7_readRule_158 : decode cX7_readRule 158 = .ok (.ifCond .ne 5, 3) := by decide +kernel
theorem dX7_readRule_161 : decode cX7_readRule 161 = .ok (.iconst 0, 1) := by decide +kernel
theorem dX7_readRule_162 : decode cX7_readRule 162 = .ok (.ireturn, 1) := by decide +kernel
theorem dX7_readRule_163 : decode cX7_readRule 163 = .ok (.aload_n 0, 1) := by decide +kernel
theorem dX7_readRule_164 : decode cX7_readRule 164 = .ok (.getfield 113, 3) := by decide +kernel
theorem dX7_readRule_167 : decode cX7_readRule 167 = .ok (.aload_n 0, 1) := by decide +kernel
theorem dX7_readRule_168 : decode cX7_readRule 168 = .ok (.getfield 36, 3) := by decide +kernel
theorem dX7_readRule_171 : decode cX7_readRule 171 = .ok (.aload_n 0, 1) := by decide +kernel
theorem dX7_readRule_172 : decode cX7_readRule 172 = .ok (.getfield 70, 3) := by decide +kernel
theorem dX7_readRule_175 : decode cX7_readRule 175 = .ok (.iaload, 1) := by decide +kernel
theorem dX7_readRule_176 : decode cX7_readRule 176 = .ok (.ishr, 1) := by decide +kernel
theorem dX7_readRule_177 : decode cX7_readRule 177 = .ok (.iconst 1, 1) := by decide +kernel
theorem dX7_readRule_178 : decode cX7_readRule 178 = .ok (.iand, 1) := by decide +kernel
theorem dX7_readRule_179 : decode cX7_readRule 179 = .ok (.ifCond .eq 22, 3) := by decide +kernel
theorem dX7_readRule_182 : decode cX7_readRule 182 = .ok (.aload_n 0, 1) := by decide +kernel
theorem dX7_readRule_183 : decode cX7_readRule 183 = .ok (.getfield 113, 3) := by decide +kernel
theorem dX7_readRule_186 : decode cX7_readRule 186 = .ok (.aload_n 0, 1) := by decide +kernel
theorem dX7_readRule_187 : decode cX7_readRule 187 = .ok (.getfield 39, 3) := by decide +kernel
theorem dX7_readRule_190 : decode cX7_readRule 190 = .ok (.aload_n 0, 1) := by decide +kernel
theorem dX7_readRule_191 : decode cX7_readRule 191 = .ok (.getfield 70, 3) := by decide +kernel
theorem dX7_readRule_194 : decode cX7_readRule 194 = .ok (.iaload, 1) := by decide +kernel
theorem dX7_readRule_195 : decode cX7_readRule 195 = .ok (.ishr, 1) := by decide +kernel
theorem dX7_readRule_196 : decode cX7_readRule 196 = .ok (.iconst 1, 1) := by decide +kernel
theorem dX7_readRule_197 : decode cX7_readRule 197 = .ok (.iand, 1) := by decide +kernel
theorem dX7_readRule_198 : decode cX7_readRule 198 = .ok (.ifCond .ne 16, 3) := by decide +kernel
theorem dX7_readRule_201 : decode cX7_readRule 201 = .ok (.aload_n 0, 1) := by decide +kernel
theorem dX7_readRule_202 : decode cX7_readRule 202 = .ok (.iconst 3, 1) := by decide +kernel
theorem dX7_readRule_203 : decode cX7_readRule 203 = .ok (.aload_n 0, 1) := by decide +kernel
theorem dX7_readRule_204 : decode cX7_readRule 204 = .ok (.getfield 9, 3) := by decide +kernel
theorem dX7_readRule_207 : decode cX7_readRule 207 = .ok (.getfield 93, 3) := by decide +kernel
theorem dX7_readRule_210 : decode cX7_readRule 210 = .ok (.invokevirtual 106, 3) := by decide +kernel
theorem dX7_readRule_213 : decode cX7_readRule 213 = .ok (.ireturn, 1) := by decide +kernel
theorem dX7_readRule_214 : decode cX7_readRule 214 = .ok (.aload_n 0, 1) := by decide +kernel
theorem dX7_readRule_215 : decode cX7_readRule 215 = .ok (.getfield 42, 3) := by decide +kernel
theorem dX7_readRule_218 : decode cX7_readRule 218 = .ok (.aload_n 0, 1) := by decide +kernel
theorem dX7_readRule_219 : decode cX7_readRule 219 = .ok (.getfield 70, 3) := by decide +kernel
theorem dX7_readRule_222 : decode cX7_readRule 222 = .ok (.aload_n 0, 1) := by decide +kernel
theorem dX7_readRule_223 : decode cX7_readRule 223 = .ok (.getfield 110, 3) := by decide +kernel
theorem dX7_readRule_226 : decode cX7_readRule 226 = .ok (.iastore, 1) := by decide +kernel
theorem dX7_readRule_227 : decode cX7_readRule 227 = .ok (.aload_n 0, 1) := by decide +kernel
theorem dX7_readRule_228 : decode cX7_readRule 228 = .ok (.dup, 1) := by decide +kernel
theorem dX7_readRule_229 : decode cX7_readRule 229 = .ok (.getfield 70, 3) := by decide +kernel
theorem dX7_readRule_232 : decode cX7_readRule 232 = .ok (.iconst 1, 1) := by decide +kernel
theorem dX7_readRule_233 : decode cX7_readRule 233 = .ok (.iadd, 1) := by decide +kernel
theorem dX7_readRule_234 : decode cX7_readRule 234 = .ok (.putfield 70, 3) := by decide +kernel
theorem dX7_readRule_237 : decode cX7_readRule 237 = .ok (.aload_n 0, 1) := by decide +kernel
theorem dX7_readRule_238 : decode cX7_readRule 238 = .ok (.getfield 9, 3) := by decide +kernel
theorem dX7_readRule_241 : decode cX7_readRule 241 = .ok (.invokevirtual 97, 3) := by decide +kernel
theorem dX7_readRule_244 : decode cX7_readRule 244 = .ok (.iconst 1, 1) := by decide +kernel
theorem dX7_readRule_245 : decode cX7_readRule 245 = .ok (.ireturn, 1) := by decide +kernel
theorem dX7_readVariable_0 : decode cX7_readVariable 0 = .ok (.aload_n 0, 1) := by decide +kernel
theorem dX7_readVariable_1 : decode cX7_readVariable 1 = .ok (.invokevirtual 103, 3) := by decide +kernel
theorem dX7_readVariable_4 : decode cX7_readVariable 4 = .ok (.ifCond .ne 10, 3) := by decide +kernel
theorem dX7_readVariable_7 : decode cX7_readVariable 7 = .ok (.aload_n 0, 1) := by decide +kernel
theorem dX7_readVariable_8 : decode cX7_readVariable 8 = .ok (.invokevirtual 94, 3) := by decide +kernel
theorem dX7_readVariable_11 : decode cX7_readVariable 11 = .ok (.pop, 1) := by decide +kernel
theorem dX7_readVariable_12 : decode cX7_readVariable 12 = .ok (.iconst (-1), 1) := by decide +kernel
theorem dX7_readVariable_13 : decode cX7_readVariable 13 = .ok (.ireturn, 1) := by decide +kernel
theorem dX7_readVariable_14 : decode cX7_readVariable 14 = .ok (.aload_n 0, 1) := by decide +kernel
theorem dX7_readVariable_15 : decode cX7_readVariable 15 = .ok (.aload_n 0, 1) := by decide +kernel
theorem dX7_readVariable_16 : decode cX7_readVariable 16 = .ok (.getfield 9, 3) := by decide +kernel
theorem dX7_readVariable_19 : decode cX7_readVariable 19 = .ok (.getfield 100, 3) := by decide +kernel
theorem dX7_readVariable_22 : decode cX7_readVariable 22 = .ok (.invokevirtual 138, 3) := by decide +kernel
theorem dX7_readVariable_25 : decode cX7_readVariable 25 = .ok (.istore_n 1, 1) := by decide +kernel
theorem dX7_readVariable_26 : decode cX7_readVariable 26 = .ok (.iload_n 1, 1) := by decide +kernel
theorem dX7_readVariable_27 : decode cX7_readVariable 27 = .ok (.iconst (-1), 1) := by decide +kernel
theorem dX7_readVariable_28 : decode cX7_readVariable 28 = .ok (.if_icmp .ne 18, 3) := by decide +kernel
theorem dX7_readVariable_31 : decode cX7_readVariable 31 = .ok (.aload_n 0, 1) := by decide +kernel
theorem dX7_readVariable_32 : decode cX7_readVariable 32 = .ok (.iconst 4, 1) := by decide +kernel
theorem dX7_readVariable_33 : decode cX7_readVariable 33 = .ok (.aload_n 0, 1) := by decide +kernel
theorem dX7_readVariable_34 : decode cX7_readVariable 34 = .ok (.getfield 9, 3) := by decide +kernel
theorem dX7_readVariable_37 : decode cX7_readVariable 37 = .ok (.getfield 93, 3) := by decide +kernel
theorem dX7_readVariable_40 : decode cX7_readVariable 40 = .ok (.invokevirtual 106, 3) := by decide +kernel
theorem dX7_readVariable_43 : decode cX7_readVariable 43 = .ok (.pop, 1) := by decide +kernel
theorem dX7_readVariable_44 : decode cX7_readVariable 44 = .ok (.iconst (-1), 1) := by decide +kernel
theorem dX7_readVariable_45 : decode cX7_readVariable 45 = .ok (.ireturn, 1) := by decide +kernel
theorem dX7_readVariable_46 : decode cX7_readVariable 46 = .ok (.aload_n 0, 1) := by decide +kernel
theorem dX7_readVariable_47 : decode cX7_readVariable 47 = .ok (.getfield 9, 3) := by decide +kernel
theorem dX7_readVariable_50 : decode cX7_readVariable 50 = .ok (.invokevirtual 97, 3) := by decide +kernel
theorem dX7_readVariable_53 : decode cX7_readVariable 53 = .ok (.iload_n 1, 1) := by decide +kernel
theorem dX7_readVariable_54 : decode cX7_readVariable 54 = .ok (.ireturn, 1) := by decide +kernel
theorem dX7_refuse_0 : decode cX7_refuse 0 = .ok (.aload_n 0, 1) := by decide +kernel
theorem dX7_refuse_1 : decode cX7_refuse 1 = .ok (.aload_n 0, 1) := by decide +kernel
theorem dX7_refuse_2 : decode cX7_refuse 2 = .ok (.getfield 9, 3) := by decide +kernel
theorem dX7_refuse_5 : decode cX7_refuse 5 = .ok (.getfield 86, 3) := by decide +kernel
theorem dX7_refuse_8 : decode cX7_refuse 8 = .ok (.iconst 1, 1) := by decide +kernel
theorem dX7_refuse_9 : decode cX7_refuse 9 = .ok (.if_icmp .ne 7, 3) := by decide +kernel
theorem dX7_refuse_12 : decode cX7_refuse 12 = .ok (.iconst 2, 1) := by decide +kernel
theorem dX7_refuse_13 : decode cX7_refuse 13 = .ok (.goto 4, 3) := by decide +kernel
theorem dX7_refuse_16 : decode cX7_refuse 16 = .ok (.iconst 1, 1) := by decide +kernel
theorem dX7_refuse_17 : decode cX7_refuse 17 = .ok (.putfield 77, 3) := by decide +kernel
theorem dX7_refuse_20 : decode cX7_refuse 20 = .ok (.aload_n 0, 1) := by decide +kernel
theorem dX7_refuse_21 : decode cX7_refuse 21 = .ok (.aload_n 0, 1) := by decide +kernel
theorem dX7_refuse_22 : decode cX7_refuse 22 = .ok (.getfield 9, 3) := by decide +kernel
theorem dX7_refuse_25 : decode cX7_refuse 25 = .ok (.getfield 93, 3) := by decide +kernel
theorem dX7_refuse_28 : decode cX7_refuse 28 = .ok (.putfield 80, 3) := by decide +kernel
theorem dX7_refuse_31 : decode cX7_refuse 31 = .ok (.iconst 0, 1) := by decide +kernel
theorem dX7_refuse_32 : decode cX7_refuse 32 = .ok (.ireturn, 1) := by decide +kernel
theorem dX7_relationOf_0 : decode cX7_relationOf 0 = .ok (.iconst 0, 1) := by decide +kernel
theorem dX7_relationOf_1 : decode cX7_relationOf 1 = .ok (.istore_n 3, 1) := by decide +kernel
theorem dX7_relationOf_2 : decode cX7_relationOf 2 = .ok (.iload_n 3, 1) := by decide +kernel
theorem dX7_relationOf_3 : decode cX7_relationOf 3 = .ok (.aload_n 0, 1) := by decide +kernel
theorem dX7_relationOf_4 : decode cX7_relationOf 4 = .ok (.getfield 74, 3) := by decide +kernel
theorem dX7_relationOf_7 : decode cX7_relationOf 7 = .ok (.if_icmp .ge 22, 3) := by decide +kernel
theorem dX7_relationOf_10 : decode cX7_relationOf 10 = .ok (.aload_n 0, 1) := by decide +kernel
theorem dX7_relationOf_11 : decode cX7_relationOf 11 = .ok (.getfield 64, 3) := by decide +kernel
theorem dX7_relationOf_14 : decode cX7_relationOf 14 = .ok (.iload_n 3, 1) := by decide +kernel
theorem dX7_relationOf_15 : decode cX7_relationOf 15 = .ok (.laload, 1) := by decide +kernel
theorem dX7_relationOf_16 : decode cX7_relationOf 16 = .ok (.lload_n 1, 1) := by decide +kernel
theorem dX7_relationOf_17 : decode cX7_relationOf 17 = .ok (.lcmp, 1) := by decide +kernel
theorem dX7_relationOf_18 : decode cX7_relationOf 18 = .ok (.ifCond .ne 5, 3) := by decide +kernel
theorem dX7_relationOf_21 : decode cX7_relationOf 21 = .ok (.iload_n 3, 1) := by decide +kernel
theorem dX7_relationOf_22 : decode cX7_relationOf 22 = .ok (.ireturn, 1) := by decide +kernel
theorem dX7_relationOf_23 : decode cX7_relationOf 23 = .ok (.iinc 3 1, 3) := by decide +kernel
theorem dX7_relationOf_26 : decode cX7_relationOf 26 = .ok (.goto (-24), 3) := by decide +kernel
theorem dX7_relationOf_29 : decode cX7_relationOf 29 = .ok (.aload_n 0, 1) := by decide +kernel
theorem dX7_relationOf_30 : decode cX7_relationOf 30 = .ok (.getfield 74, 3) := by decide +kernel
theorem dX7_relationOf_33 : decode cX7_relationOf 33 = .ok (.bipush 6, 2) := by decide +kernel
theorem dX7_relationOf_35 : decode cX7_relationOf 35 = .ok (.if_icmp .ne 5, 3) := by decide +kernel
theorem dX7_relationOf_38 : decode cX7_relationOf 38 = .ok (.iconst (-1), 1) := by decide +kernel
theorem dX7_relationOf_39 : decode cX7_relationOf 39 = .ok (.ireturn, 1) := by decide +kernel
theorem dX7_relationOf_40 : decode cX7_relationOf 40 = .ok (.aload_n 0, 1) := by decide +kernel
theorem dX7_relationOf_41 : decode cX7_relationOf 41 = .ok (.getfield 64, 3) := by decide +kernel
theorem dX7_relationOf_44 : decode cX7_relationOf 44 = .ok (.aload_n 0, 1) := by decide +kernel
theorem dX7_relationOf_45 : decode cX7_relationOf 45 = .ok (.getfield 74, 3) := by decide +kernel
theorem dX7_relationOf_48 : decode cX7_relationOf 48 = .ok (.lload_n 1, 1) := by decide +kernel
theorem dX7_relationOf_49 : decode cX7_relationOf 49 = .ok (.lastore, 1) := by decide +kernel
theorem dX7_relationOf_50 : decode cX7_relationOf 50 = .ok (.aload_n 0, 1) := by decide +kernel
theorem dX7_relationOf_51 : decode cX7_relationOf 51 = .ok (.getfield 67, 3) := by decide +kernel
theorem dX7_relationOf_54 : decode cX7_relationOf 54 = .ok (.aload_n 0, 1) := by decide +kernel
theorem dX7_relationOf_55 : decode cX7_relationOf 55 = .ok (.getfield 74, 3) := by decide +kernel
theorem dX7_relationOf_58 : decode cX7_relationOf 58 = .ok (.iconst 0, 1) := by decide +kernel
theorem dX7_relationOf_59 : decode cX7_relationOf 59 = .ok (.iastore, 1) := by decide +kernel
theorem dX7_relationOf_60 : decode cX7_relationOf 60 = .ok (.aload_n 0, 1) := by decide +kernel
theorem dX7_relationOf_61 : decode cX7_relationOf 61 = .ok (.dup, 1) := by decide +kernel
theorem dX7_relationOf_62 : decode cX7_relationOf 62 = .ok (.getfield 74, 3) := by decide +kernel
theorem dX7_relationOf_65 : decode cX7_relationOf 65 = .ok (.iconst 1, 1) := by decide +kernel
theorem dX7_relationOf_66 : decode cX7_relationOf 66 = .ok (.iadd, 1) := by decide +kernel
theorem dX7_relationOf_67 : decode cX7_relationOf 67 = .ok (.putfield 74, 3) := by decide +kernel
theorem dX7_relationOf_70 : decode cX7_relationOf 70 = .ok (.aload_n 0, 1) := by decide +kernel
theorem dX7_relationOf_71 : decode cX7_relationOf 71 = .ok (.getfield 74, 3) := by decide +kernel
theorem dX7_relationOf_74 : decode cX7_relationOf 74 = .ok (.iconst 1, 1) := by decide +kernel
theorem dX7_relationOf_75 : decode cX7_relationOf 75 = .ok (.isub, 1) := by decide +kernel
theorem dX7_relationOf_76 : decode cX7_relationOf 76 = .ok (.ireturn, 1) := by decide +kernel
theorem dX7_variableOf_0 : decode cX7_variableOf 0 = .ok (.iconst 0, 1) := by decide +kernel
theorem dX7_variableOf_1 : decode cX7_variableOf 1 = .ok (.istore_n 3, 1) := by decide +kernel
theorem dX7_variableOf_2 : decode cX7_variableOf 2 = .ok (.iload_n 3, 1) := by decide +kernel
theorem dX7_variableOf_3 : decode cX7_variableOf 3 = .ok (.aload_n 0, 1) := by decide +kernel
theorem dX7_variableOf_4 : decode cX7_variableOf 4 = .ok (.getfield 110, 3) := by decide +kernel
theorem dX7_variableOf_7 : decode cX7_variableOf 7 = .ok (.if_icmp .ge 22, 3) := by decide +kernel
theorem dX7_variableOf_10 : decode cX7_variableOf 10 = .ok (.aload_n 0, 1) := by decide +kernel
theorem dX7_variableOf_11 : decode cX7_variableOf 11 = .ok (.getfield 61, 3) := by decide +kernel
theorem dX7_variableOf_14 : decode cX7_variableOf 14 = .ok (.iload_n 3, 1) := by decide +kernel
theorem dX7_variableOf_15 : decode cX7_variableOf 15 = .ok (.laload, 1) := by decide +kernel
theorem dX7_variableOf_16 : decode cX7_variableOf 16 = .ok (.lload_n 1, 1) := by decide +kernel
theorem dX7_variableOf_17 : decode cX7_variableOf 17 = .ok (.lcmp, 1) := by decide +kernel
theorem dX7_variableOf_18 : decode cX7_variableOf 18 = .ok (.ifCond .ne 5, 3) := by decide +kernel
theorem dX7_variableOf_21 : decode cX7_variableOf 21 = .ok (.iload_n 3, 1) := by decide +kernel
theorem dX7_variableOf_22 : decode cX7_variableOf 22 = .ok (.ireturn, 1) := by decide +kernel
theorem dX7_variableOf_23 : decode cX7_variableOf 23 = .ok (.iinc 3 1, 3) := by decide +kernel
theorem dX7_variableOf_26 : decode cX7_variableOf 26 = .ok (.goto (-24), 3) := by decide +kernel
theorem dX7_variableOf_29 : decode cX7_variableOf 29 = .ok (.aload_n 0, 1) := by decide +kernel
theorem dX7_variableOf_30 : decode cX7_variableOf 30 = .ok (.getfield 110, 3) := by decide +kernel
theorem dX7_variableOf_33 : decode cX7_variableOf 33 = .ok (.iconst 3, 1) := by decide +kernel
theorem dX7_variableOf_34 : decode cX7_variableOf 34 = .ok (.if_icmp .ne 5, 3) := by decide +kernel
theorem dX7_variableOf_37 : decode cX7_variableOf 37 = .ok (.iconst (-1), 1) := by decide +kernel
theorem dX7_variableOf_38 : decode cX7_variableOf 38 = .ok (.ireturn, 1) := by decide +kernel
theorem dX7_variableOf_39 : decode cX7_variableOf 39 = .ok (.aload_n 0, 1) := by decide +kernel
theorem dX7_variableOf_40 : decode cX7_variableOf 40 = .ok (.getfield 61, 3) := by decide +kernel
theorem dX7_variableOf_43 : decode cX7_variableOf 43 = .ok (.aload_n 0, 1) := by decide +kernel
theorem dX7_variableOf_44 : decode cX7_variableOf 44 = .ok (.getfield 110, 3) := by decide +kernel
theorem dX7_variableOf_47 : decode cX7_variableOf 47 = .ok (.lload_n 1, 1) := by decide +kernel
theorem dX7_variableOf_48 : decode cX7_variableOf 48 = .ok (.lastore, 1) := by decide +kernel
theorem dX7_variableOf_49 : decode cX7_variableOf 49 = .ok (.aload_n 0, 1) := by decide +kernel
theorem dX7_variableOf_50 : decode cX7_variableOf 50 = .ok (.dup, 1) := by decide +kernel
theorem dX7_variableOf_51 : decode cX7_variableOf 51 = .ok (.getfield 110, 3) := by decide +kernel
theorem dX7_variableOf_54 : decode cX7_variableOf 54 = .ok (.iconst 1, 1) := by decide +kernel
theorem dX7_variableOf_55 : decode cX7_variableOf 55 = .ok (.iadd, 1) := by decide +kernel
theorem dX7_variableOf_56 : decode cX7_variableOf 56 = .ok (.putfield 110, 3) := by decide +kernel
theorem dX7_variableOf_59 : decode cX7_variableOf 59 = .ok (.aload_n 0, 1) := by decide +kernel
theorem dX7_variableOf_60 : decode cX7_variableOf 60 = .ok (.getfield 110, 3) := by decide +kernel
theorem dX7_variableOf_63 : decode cX7_variableOf 63 = .ok (.iconst 1, 1) := by decide +kernel
theorem dX7_variableOf_64 : decode cX7_variableOf 64 = .ok (.isub, 1) := by decide +kernel
theorem dX7_variableOf_65 : decode cX7_variableOf 65 = .ok (.ireturn, 1) := by decide +kernel
theorem dX8_addHolder_0 : decode cX8_addHolder 0 = .ok (.aload_n 0, 1) := by decide +kernel
theorem dX8_addHolder_1 : decode cX8_addHolder 1 = .ok (.getfield 21, 3) := by decide +kernel
theorem dX8_addHolder_4 : decode cX8_addHolder 4 = .ok (.aload_n 0, 1) := by decide +kernel
theorem dX8_addHolder_5 : decode cX8_addHolder 5 = .ok (.getfield 54, 3) := by decide +kernel
theorem dX8_addHolder_8 : decode cX8_addHolder 8 = .ok (.iload_n 1, 1) := by decide +kernel
theorem dX8_addHolder_9 : decode cX8_addHolder 9 = .ok (.iaload, 1) := by decide +kernel
theorem dX8_addHolder_10 : decode cX8_addHolder 10 = .ok (.iload_n 2, 1) := by decide +kernel
theorem dX8_addHolder_11 : decode cX8_addHolder 11 = .ok (.iastore, 1) := by decide +kernel
theorem dX8_addHolder_12 : decode cX8_addHolder 12 = .ok (.aload_n 0, 1) := by decide +kernel
theorem dX8_addHolder_13 : decode cX8_addHolder 13 = .ok (.getfield 24, 3) := by decide +kernel
theorem dX8_addHolder_16 : decode cX8_addHolder 16 = .ok (.aload_n 0, 1) := by decide +kernel
theorem dX8_addHolder_17 : decode cX8_addHolder 17 = .ok (.getfield 54, 3) := by decide +kernel
theorem dX8_addHolder_20 : decode cX8_addHolder 20 = .ok (.iload_n 1, 1) := by decide +kernel
theorem dX8_addHolder_21 : decode cX8_addHolder 21 = .ok (.iaload, 1) := by decide +kernel
theorem dX8_addHolder_22 : decode cX8_addHolder 22 = .ok (.iload_n 3, 1) := by decide +kernel
theorem dX8_addHolder_23 : decode cX8_addHolder 23 = .ok (.iastore, 1) := by decide +kernel
theorem dX8_addHolder_24 : decode cX8_addHolder 24 = .ok (.aload_n 0, 1) := by decide +kernel
theorem dX8_addHolder_25 : decode cX8_addHolder 25 = .ok (.getfield 54, 3) := by decide +kernel
theorem dX8_addHolder_28 : decode cX8_addHolder 28 = .ok (.iload_n 1, 1) := by decide +kernel
theorem dX8_addHolder_29 : decode cX8_addHolder 29 = .ok (.dup2, 1) := by decide +kernel
theorem dX8_addHolder_30 : decode cX8_addHolder 30 = .ok (.iaload, 1) := by decide +kernel
theorem dX8_addHolder_31 : decode cX8_addHolder 31 = .ok (.iconst 1, 1) := by decide +kernel
theorem dX8_addHolder_32 : decode cX8_addHolder 32 = .ok (.iadd, 1) := by decide +kernel
theorem dX8_addHolder_33 : decode cX8_addHolder 33 = .ok (.iastore, 1) := by decide +kernel
theorem dX8_addHolder_34 : decode cX8_addHolder 34 = .ok (.return_, 1) := by decide +kernel
theorem dX8_bucketOf_0 : decode cX8_bucketOf 0 = .ok (.aload_n 0, 1) := by decide +kernel
theorem dX8_bucketOf_1 : decode cX8_bucketOf 1 = .ok (.getfield 104, 3) := by decide +kernel
theorem dX8_bucketOf_4 : decode cX8_bucketOf 4 = .ok (.iload_n 1, 1) := by decide +kernel
theorem dX8_bucketOf_5 : decode cX8_bucketOf 5 = .ok (.iaload, 1) := by decide +kernel
theorem dX8_bucketOf_6 : decode cX8_bucketOf 6 = .ok (.i2l, 1) := by decide +kernel
theorem dX8_bucketOf_7 : decode cX8_bucketOf 7 = .ok (.ldc2_w 162, 3) := by decide +kernel
theorem dX8_bucketOf_10 : decode cX8_bucketOf 10 = .ok (.lmul, 1) := by decide +kernel
theorem dX8_bucketOf_11 : decode cX8_bucketOf 11 = .ok (.aload_n 0, 1) := by decide +kernel
theorem dX8_bucketOf_12 : decode cX8_bucketOf 12 = .ok (.getfield 107, 3) := by decide +kernel
theorem dX8_bucketOf_15 : decode cX8_bucketOf 15 = .ok (.iload_n 1, 1) := by decide +kernel
theorem dX8_bucketOf_16 : decode cX8_bucketOf 16 = .ok (.iaload, 1) := by decide +kernel
theorem dX8_bucketOf_17 : decode cX8_bucketOf 17 = .ok (.i2l, 1) := by decide +kernel
theorem dX8_bucketOf_18 : decode cX8_bucketOf 18 = .ok (.ladd, 1) := by decide +kernel
theorem dX8_bucketOf_19 : decode cX8_bucketOf 19 = .ok (.lstore_n 2, 1) := by decide +kernel
theorem dX8_bucketOf_20 : decode cX8_bucketOf 20 = .ok (.aload_n 0, 1) := by decide +kernel
theorem dX8_bucketOf_21 : decode cX8_bucketOf 21 = .ok (.getfield 79, 3) := by decide +kernel
theorem dX8_bucketOf_24 : decode cX8_bucketOf 24 = .ok (.iload_n 1, 1) := by decide +kernel
theorem dX8_bucketOf_25 : decode cX8_bucketOf 25 = .ok (.iaload, 1) := by decide +kernel
theorem dX8_bucketOf_26 : decode cX8_bucketOf 26 = .ok (.istore 4, 2) := by decide +kernel
theorem dX8_bucketOf_28 : decode cX8_bucketOf 28 = .ok (.iload 4, 2) := by decide +kernel
theorem dX8_bucketOf_30 : decode cX8_bucketOf 30 = .ok (.aload_n 0, 1) := by decide +kernel
theorem dX8_bucketOf_31 : decode cX8_bucketOf 31 = .ok (.getfield 79, 3) := by decide +kernel
theorem dX8_bucketOf_34 : decode cX8_bucketOf 34 = .ok (.iload_n 1, 1) := by decide +kernel
theorem dX8_bucketOf_35 : decode cX8_bucketOf 35 = .ok (.iconst 1, 1) := by decide +kernel
theorem dX8_bucketOf_36 : decode cX8_bucketOf 36 = .ok (.iadd, 1) := by decide +kernel
theorem dX8_bucketOf_37 : decode cX8_bucketOf 37 = .ok (.iaload, 1) := by decide +kernel
theorem dX8_bucketOf_38 : decode cX8_bucketOf 38 = .ok (.if_icmp .ge 23, 3) := by decide +kernel
theorem dX8_bucketOf_41 : decode cX8_bucketOf 41 = .ok (.lload_n 2, 1) := by decide +kernel
theorem dX8_bucketOf_42 : decode cX8_bucketOf 42 = .ok (.ldc2_w 164, 3) := by decide +kernel
theorem dX8_bucketOf_45 : decode cX8_bucketOf 45 = .ok (.lmul, 1) := by decide +kernel
theorem dX8_bucketOf_46 : decode cX8_bucketOf 46 = .ok (.aload_n 0, 1) := by decide +kernel
theorem dX8_bucketOf_47 : decode cX8_bucketOf 47 = .ok (.getfield 86, 3) := by decide +kernel
theorem dX8_bucketOf_50 : decode cX8_bucketOf 50 = .ok (.iload 4, 2) := by decide +kernel
theorem dX8_bucketOf_52 : decode cX8_bucketOf 52 = .ok (.laload, 1) := by decide +kernel
theorem dX8_bucketOf_53 : decode cX8_bucketOf 53 = .ok (.ladd, 1) := by decide +kernel
theorem dX8_bucketOf_54 : decode cX8_bucketOf 54 = .ok (.lstore_n 2, 1) := by decide +kernel
theorem dX8_bucketOf_55 : decode cX8_bucketOf 55 = .ok (.iinc 4 1, 3) := by decide +kernel
theorem dX8_bucketOf_58 : decode cX8_bucketOf 58 = .ok (.goto (-30), 3) := by decide +kernel
theorem dX8_bucketOf_61 : decode cX8_bucketOf 61 = .ok (.lload_n 2, 1) := by decide +kernel
theorem dX8_bucketOf_62 : decode cX8_bucketOf 62 = .ok (.lload_n 2, 1) := by decide +kernel
theorem dX8_bucketOf_63 : decode cX8_bucketOf 63 = .ok (.bipush 9, 2) := by decide +kernel
theorem dX8_bucketOf_65 : decode cX8_bucketOf 65 = .ok (.lushr, 1) := by decide +kernel
theorem dX8_bucketOf_66 : decode cX8_bucketOf 66 = .ok (.lxor, 1) := by decide +kernel
theorem dX8_bucketOf_67 : decode cX8_bucketOf 67 = .ok (.lload_n 2, 1) := by decide +kernel
theorem dX8_bucketOf_68 : decode cX8_bucketOf 68 = .ok (.bipush 32, 2) := by decide +kernel
theorem dX8_bucketOf_70 : decode cX8_bucketOf 70 = .ok (.lushr, 1) := by decide +kernel
theorem dX8_bucketOf_71 : decode cX8_bucketOf 71 = .ok (.lxor, 1) := by decide +kernel
theorem dX8_bucketOf_72 : decode cX8_bucketOf 72 = .ok (.l2i, 1) := by decide +kernel
theorem dX8_bucketOf_73 : decode cX8_bucketOf 73 = .ok (.sipush 511, 3) := by decide +kernel
theorem dX8_bucketOf_76 : decode cX8_bucketOf 76 = .ok (.iand, 1) := by decide +kernel
theorem dX8_bucketOf_77 : decode cX8_bucketOf 77 = .ok (.ireturn, 1) := by decide +kernel
theorem dX8_closeRing_0 : decode cX8_closeRing 0 = .ok (.iload_n 2, 1) := by decide +kernel
theorem dX8_closeRing_1 : decode cX8_closeRing 1 = .ok (.iconst 1, 1) := by decide +kernel
theorem dX8_closeRing_2 : decode cX8_closeRing 2 = .ok (.isub, 1) := by decide +kernel
theorem dX8_closeRing_3 : decode cX8_closeRing 3 = .ok (.istore_n 3, 1) := by decide +kernel
theorem dX8_closeRing_4 : decode cX8_closeRing 4 = .ok (.iload_n 3, 1) := by decide +kernel
theorem dX8_closeRing_5 : decode cX8_closeRing 5 = .ok (.ifCond .lt 33, 3) := by decide +kernel
theorem dX8_closeRing_8 : decode cX8_closeRing 8 = .ok (.aload_n 0, 1) := by decide +kernel
theorem dX8_closeRing_9 : decode cX8_closeRing 9 = .ok (.getfield 36, 3) := by decide +kernel
theorem dX8_closeRing_12 : decode cX8_closeRing 12 = .ok (.aload_n 0, 1) := by decide +kernel
theorem dX8_closeRing_13 : decode cX8_closeRing 13 = .ok (.getfield 48, 3) := by decide +kernel
theorem dX8_closeRing_16 : decode cX8_closeRing 16 = .ok (.iload_n 3, 1) := by decide +kernel
theorem dX8_closeRing_17 : decode cX8_closeRing 17 = .ok (.iaload, 1) := by decide +kernel
theorem dX8_closeRing_18 : decode cX8_closeRing 18 = .ok (.iload_n 1, 1) := by decide +kernel
theorem dX8_closeRing_19 : decode cX8_closeRing 19 = .ok (.iastore, 1) := by decide +kernel
theorem dX8_closeRing_20 : decode cX8_closeRing 20 = .ok (.aload_n 0, 1) := by decide +kernel
theorem dX8_closeRing_21 : decode cX8_closeRing 21 = .ok (.getfield 48, 3) := by decide +kernel
theorem dX8_closeRing_24 : decode cX8_closeRing 24 = .ok (.iload_n 3, 1) := by decide +kernel
theorem dX8_closeRing_25 : decode cX8_closeRing 25 = .ok (.iaload, 1) := by decide +kernel
theorem dX8_closeRing_26 : decode cX8_closeRing 26 = .ok (.iload_n 1, 1) := by decide +kernel
theorem dX8_closeRing_27 : decode cX8_closeRing 27 = .ok (.if_icmp .ne 5, 3) := by decide +kernel
theorem dX8_closeRing_30 : decode cX8_closeRing 30 = .ok (.iload_n 3, 1) := by decide +kernel
theorem dX8_closeRing_31 : decode cX8_closeRing 31 = .ok (.ireturn, 1) := by decide +kernel
theorem dX8_closeRing_32 : decode cX8_closeRing 32 = .ok (.iinc 3 (-1), 3) := by decide +kernel
theorem dX8_closeRing_35 : decode cX8_closeRing 35 = .ok (.goto (-31), 3) := by decide +kernel
theorem dX8_closeRing_38 : decode cX8_closeRing 38 = .ok (.iconst 0, 1) := by decide +kernel
theorem dX8_closeRing_39 : decode cX8_closeRing 39 = .ok (.ireturn, 1) := by decide +kernel
theorem dX8_commonDominator_0 : decode cX8_commonDominator 0 = .ok (.bipush (-2), 2) := by decide +kernel
theorem dX8_commonDominator_2 : decode cX8_commonDominator 2 = .ok (.istore_n 2, 1) := by decide +kernel
theorem dX8_commonDominator_3 : decode cX8_commonDominator 3 = .ok (.aload_n 0, 1) := by decide +kernel
theorem dX8_commonDominator_4 : decode cX8_commonDominator 4 = .ok (.getfield 17, 3) := by decide +kernel
theorem dX8_commonDominator_7 : decode cX8_commonDominator 7 = .ok (.iload_n 1, 1) := by decide +kernel
theorem dX8_commonDominator_8 : decode cX8_commonDominator 8 = .ok (.iaload, 1) := by decide +kernel
theorem dX8_commonDominator_9 : decode cX8_commonDominator 9 = .ok (.istore_n 3, 1) := by decide +kernel
theorem dX8_commonDominator_10 : decode cX8_commonDominator 10 = .ok (.iload_n 3, 1) := by decide +kernel
theorem dX8_commonDominator_11 : decode cX8_commonDominator 11 = .ok (.aload_n 0, 1) := by decide +kernel
theorem dX8_commonDominator_12 : decode cX8_commonDominator 12 = .ok (.getfield 17, 3) := by decide +kernel
theorem dX8_commonDominator_15 : decode cX8_commonDominator 15 = .ok (.iload_n 1, 1) := by decide +kernel
theorem dX8_commonDominator_16 : decode cX8_commonDominator 16 = .ok (.iconst 1, 1) := by decide +kernel
theorem dX8_commonDominator_17 : decode cX8_commonDominator 17 = .ok (.iadd, 1) := by decide +kernel
theorem dX8_commonDominator_18 : decode cX8_commonDominator 18 = .ok (.iaload, 1) := by decide +kernel
theorem dX8_commonDominator_19 : decode cX8_commonDominator 19 = .ok (.if_icmp .ge 63, 3) := by decide +kernel
theorem dX8_commonDominator_22 : decode cX8_commonDominator 22 = .ok (.aload_n 0, 1) := by decide +kernel
theorem dX8_commonDominator_23 : decode cX8_commonDominator 23 = .ok (.getfield 21, 3) := by decide +kernel
theorem dX8_commonDominator_26 : decode cX8_commonDominator 26 = .ok (.iload_n 3, 1) := by decide +kernel
theorem dX8_commonDominator_27 : decode cX8_commonDominator 27 = .ok (.iaload, 1) := by decide +kernel
theorem dX8_commonDominator_28 : decode cX8_commonDominator 28 = .ok (.istore 4, 2) := by decide +kernel
theorem dX8_commonDominator_30 : decode cX8_commonDominator 30 = .ok (.iload 4, 2) := by decide +kernel
theorem dX8_commonDominator_32 : decode cX8_commonDominator 32 = .ok (.iload_n 1, 1) := by decide +kernel
theorem dX8_commonDominator_33 : decode cX8_commonDominator 33 = .ok (.if_icmp .eq 43, 3) := by decide +kernel
theorem dX8_commonDominator_36 : decode cX8_commonDominator 36 = .ok (.iload 4, 2) := by decide +kernel
theorem dX8_commonDominator_38 : decode cX8_commonDominator 38 = .ok (.iconst (-1), 1) := by decide +kernel
theorem dX8_commonDominator_39 : decode cX8_commonDominator 39 = .ok (.if_icmp .eq 18, 3) := by decide +kernel
theorem dX8_commonDominator_42 : decode cX8_commonDominator 42 = .ok (.aload_n 0, 1) := by decide +kernel
theorem dX8_commonDominator_43 : decode cX8_commonDominator 43 = .ok (.getfield 27, 3) := by decide +kernel
theorem dX8_commonDominator_46 : decode cX8_commonDominator 46 = .ok (.iload 4, 2) := by decide +kernel
theorem dX8_commonDominator_48 : decode cX8_commonDominator 48 = .ok (.iaload, 1) := by decide +kernel
theorem dX8_commonDominator_49 : decode cX8_commonDominator 49 = .ok (.bipush (-2), 2) := by decide +kernel
theorem dX8_commonDominator_51 : decode cX8_commonDominator 51 = .ok (.if_icmp .ne 6, 3) := by decide +kernel
theorem dX8_commonDominator_54 : decode cX8_commonDominator 54 = .ok (.goto 22, 3) := by decide +kernel
theorem dX8_commonDominator_57 : decode cX8_commonDominator 57 = .ok (.iload_n 2, 1) := by decide +kernel
theorem dX8_commonDominator_58 : decode cX8_commonDominator 58 = .ok (.bipush (-2), 2) := by decide +kernel
theorem dX8_commonDominator_60 : decode cX8_commonDominator 60 = .ok (.if_icmp .ne 8, 3) := by decide +kernel
theorem dX8_commonDominator_63 : decode cX8_commonDominator 63 = .ok (.iload 4, 2) := by decide +kernel
theorem dX8_commonDominator_65 : decode cX8_commonDominator 65 = .ok (.goto 10, 3) := by decide +kernel
theorem dX8_commonDominator_68 : decode cX8_commonDominator 68 = .ok (.aload_n 0, 1) := by decide +kernel
theorem dX8_commonDominator_69 : decode cX8_commonDominator 69 = .ok (.iload_n 2, 1) := by decide +kernel
theorem dX8_commonDominator_70 : decode cX8_commonDominator 70 = .ok (.iload 4, 2) := by decide +kernel
theorem dX8_commonDominator_72 : decode cX8_commonDominator 72 = .ok (.invokevirtual 116, 3) := by decide +kernel
theorem dX8_commonDominator_75 : decode cX8_commonDominator 75 = .ok (.istore_n 2, 1) := by decide +kernel
theorem dX8_commonDominator_76 : decode cX8_commonDominator 76 = .ok (.iinc 3 1, 3) := by decide +kernel
theorem dX8_commonDominator_79 : decode cX8_commonDominator 79 = .ok (.goto (-69), 3) := by decide +kernel
theorem dX8_commonDominator_82 : decode cX8_commonDominator 82 = .ok (.iload_n 2, 1) := by decide +kernel
theorem dX8_commonDominator_83 : decode cX8_commonDominator 83 = .ok (.ireturn, 1) := by decide +kernel
theorem dX8_enter_0 : decode cX8_enter 0 = .ok (.aload_n 0, 1) := by decide +kernel
theorem dX8_enter_1 : decode cX8_enter 1 = .ok (.getfield 42, 3) := by decide +kernel
theorem dX8_enter_4 : decode cX8_enter 4 = .ok (.iload_n 1, 1) := by decide +kernel
theorem dX8_enter_5 : decode cX8_enter 5 = .ok (.iload_n 2, 1) := by decide +kernel
theorem dX8_enter_6 : decode cX8_enter 6 = .ok (.iastore, 1) := by decide +kernel
theorem dX8_enter_7 : decode cX8_enter 7 = .ok (.aload_n 0, 1) := by decide +kernel
theorem dX8_enter_8 : decode cX8_enter 8 = .ok (.getfield 45, 3) := by decide +kernel
theorem dX8_enter_11 : decode cX8_enter 11 = .ok (.iload_n 1, 1) := by decide +kernel
theorem dX8_enter_12 : decode cX8_enter 12 = .ok (.iload_n 2, 1) := by decide +kernel
theorem dX8_enter_13 : decode cX8_enter 13 = .ok (.iastore, 1) := by decide +kernel
theorem dX8_enter_14 : decode cX8_enter 14 = .ok (.iload_n 2, 1) := by decide +kernel
theorem dX8_enter_15 : decode cX8_enter 15 = .ok (.iconst 1, 1) := by decide +kernel
theorem dX8_enter_16 : decode cX8_enter 16 = .ok (.iadd, 1) := by decide +kernel
theorem dX8_enter_17 : decode cX8_enter 17 = .ok (.ireturn, 1) := by decide +kernel
theorem dX8_explore_0 : decode cX8_explore 0 = .ok (.aload_n 0, 1) := by decide +kernel
theorem dX8_explore_1 : decode cX8_explore 1 = .ok (.iload_n 2, 1) := by decide +kernel
theorem dX8_explore_2 : decode cX8_explore 2 = .ok (.iload_n 3, 1) := by decide +kernel
theorem dX8_explore_3 : decode cX8_explore 3 = .ok (.invokevirtual 127, 3) := by decide +kernel
theorem dX8_explore_6 : decode cX8_explore 6 = .ok (.istore 4, 2) := by decide +kernel
theorem dX8_explore_8 : decode cX8_explore 8 = .ok (.iconst 1, 1) := by decide +kernel
theorem dX8_explore_9 : decode cX8_explore 9 = .ok (.istore 5, 2) := by decide +kernel
theorem dX8_explore_11 : decode cX8_explore 11 = .ok (.iconst 1, 1) := by decide +kernel
theorem dX8_explore_12 : decode cX8_explore 12 = .ok (.istore 6, 2) := by decide +kernel
theorem dX8_explore_14 : decode cX8_explore 14 = .ok (.aload_n 0, 1) := by decide +kernel
theorem dX8_explore_15 : decode cX8_explore 15 = .ok (.getfield 51, 3) := by decide +kernel
theorem dX8_explore_18 : decode cX8_explore 18 = .ok (.iconst 0, 1) := by decide +kernel
theorem dX8_explore_19 : decode cX8_explore 19 = .ok (.iload_n 2, 1) := by decide +kernel
theorem dX8_explore_20 : decode cX8_explore 20 = .ok (.iastore, 1) := by decide +kernel
theorem dX8_explore_21 : decode cX8_explore 21 = .ok (.aload_n 0, 1) := by decide +kernel
theorem dX8_explore_22 : decode cX8_explore 22 = .ok (.getfield 48, 3) := by decide +kernel
theorem dX8_explore_25 : decode cX8_explore 25 = .ok (.iconst 0, 1) := by decide +kernel
theorem dX8_explore_26 : decode cX8_explore 26 = .ok (.iload_n 2, 1) := by decide +kernel
theorem dX8_explore_27 : decode cX8_explore 27 = .ok (.iastore, 1) := by decide +kernel
theorem dX8_explore_28 : decode cX8_explore 28 = .ok (.iconst 0, 1) := by decide +kernel
theorem dX8_explore_29 : decode cX8_explore 29 = .ok (.istore 7, 2) := by decide +kernel
theorem dX8_explore_31 : decode cX8_explore 31 = .ok (.iload 7, 2) := by decide +kernel
theorem dX8_explore_33 : decode cX8_explore 33 = .ok (.ldc 99, 2) := by decide +kernel
theorem dX8_explore_35 : decode cX8_explore 35 = .ok (.if_icmp .ge 199, 3) := by decide +kernel
theorem dX8_explore_38 : decode cX8_explore 38 = .ok (.iload 5, 2) := by decide +kernel
theorem dX8_explore_40 : decode cX8_explore 40 = .ok (.ifCond .le 194, 3) := by decide +kernel
theorem dX8_explore_43 : decode cX8_explore 43 = .ok (.aload_n 0, 1) := by decide +kernel
theorem dX8_explore_44 : decode cX8_explore 44 = .ok (.getfield 51, 3) := by decide +kernel
theorem dX8_explore_47 : decode cX8_explore 47 = .ok (.iload 5, 2) := by decide +kernel
theorem dX8_explore_49 : decode cX8_explore 49 = .ok (.iconst 1, 1) := by decide +kernel
theorem dX8_explore_50 : decode cX8_explore 50 = .ok (.isub, 1) := by decide +kernel
theorem dX8_explore_51 : decode cX8_explore 51 = .ok (.iaload, 1) := by decide +kernel
theorem dX8_explore_52 : decode cX8_explore 52 = .ok (.istore 8, 2) := by decide +kernel
theorem dX8_explore_54 : decode cX8_explore 54 = .ok (.aload_n 0, 1) := by decide +kernel
theorem dX8_explore_55 : decode cX8_explore 55 = .ok (.aload_n 1, 1) := by decide +kernel
theorem dX8_explore_56 : decode cX8_explore 56 = .ok (.iload 8, 2) := by decide +kernel
theorem dX8_explore_58 : decode cX8_explore 58 = .ok (.invokevirtual 130, 3) := by decide +kernel
theorem dX8_explore_61 : decode cX8_explore 61 = .ok (.istore 9, 2) := by decide +kernel
theorem dX8_explore_63 : decode cX8_explore 63 = .ok (.iload 9, 2) := by decide +kernel
theorem dX8_explore_65 : decode cX8_explore 65 = .ok (.iconst (-1), 1) := by decide +kernel
theorem dX8_explore_66 : decode cX8_explore 66 = .ok (.if_icmp .ne 79, 3) := by decide +kernel
theorem dX8_explore_69 : decode cX8_explore 69 = .ok (.iinc 5 (-1), 3) := by decide +kernel
theorem dX8_explore_72 : decode cX8_explore 72 = .ok (.iload 5, 2) := by decide +kernel
theorem dX8_explore_74 : decode cX8_explore 74 = .ok (.ifCond .le 41, 3) := by decide +kernel
theorem dX8_explore_77 : decode cX8_explore 77 = .ok (.aload_n 0, 1) := by decide +kernel
theorem dX8_explore_78 : decode cX8_explore 78 = .ok (.getfield 45, 3) := by decide +kernel
theorem dX8_explore_81 : decode cX8_explore 81 = .ok (.aload_n 0, 1) := by decide +kernel
theorem dX8_explore_82 : decode cX8_explore 82 = .ok (.getfield 51, 3) := by decide +kernel
theorem dX8_explore_85 : decode cX8_explore 85 = .ok (.iload 5, 2) := by decide +kernel
theorem dX8_explore_87 : decode cX8_explore 87 = .ok (.iconst 1, 1) := by decide +kernel
theorem dX8_explore_88 : decode cX8_explore 88 = .ok (.isub, 1) := by decide +kernel
theorem dX8_explore_89 : decode cX8_explore 89 = .ok (.iaload, 1) := by decide +kernel
theorem dX8_explore_90 : decode cX8_explore 90 = .ok (.aload_n 0, 1) := by decide +kernel
theorem dX8_explore_91 : decode cX8_explore 91 = .ok (.getfield 45, 3) := by decide +kernel
theorem dX8_explore_94 : decode cX8_explore 94 = .ok (.aload_n 0, 1) := by decide +kernel
theorem dX8_explore_95 : decode cX8_explore 95 = .ok (.getfield 51, 3) := by decide +kernel
theorem dX8_explore_98 : decode cX8_explore 98 = .ok (.iload 5, 2) := by decide +kernel
theorem dX8_explore_100 : decode cX8_explore 100 = .ok (.iconst 1, 1) := by decide +kernel
theorem dX8_explore_101 : decode cX8_explore 101 = .ok (.isub, 1) := by decide +kernel
theorem dX8_explore_102 : decode cX8_explore 102 = .ok (.iaload, 1) := by decide +kernel
theorem dX8_explore_103 : decode cX8_explore 103 = .ok (.iaload, 1) := by decide +kernel
theorem dX8_explore_104 : decode cX8_explore 104 = .ok (.aload_n 0, 1) := by decide +kernel
theorem dX8_explore_105 : decode cX8_explore 105 = .ok (.getfield 45, 3) := by decide +kernel
theorem dX8_explore_108 : decode cX8_explore 108 = .ok (.iload 8, 2) := by decide +kernel
theorem dX8_explore_110 : decode cX8_explore 110 = .ok (.iaload, 1) := by decide +kernel
theorem dX8_explore_111 : decode cX8_explore 111 = .ok (.invokestatic 134, 3) := by decide +kernel
theorem dX8_explore_114 : decode cX8_explore 114 = .ok (.iastore, 1) := by decide +kernel
theorem dX8_explore_115 : decode cX8_explore 115 = .ok (.aload_n 0, 1) := by decide +kernel
theorem dX8_explore_116 : decode cX8_explore 116 = .ok (.getfield 45, 3) := by decide +kernel
theorem dX8_explore_119 : decode cX8_explore 119 = .ok (.iload 8, 2) := by decide +kernel
theorem dX8_explore_121 : decode cX8_explore 121 = .ok (.iaload, 1) := by decide +kernel
theorem dX8_explore_122 : decode cX8_explore 122 = .ok (.aload_n 0, 1) := by decide +kernel
theorem dX8_explore_123 : decode cX8_explore 123 = .ok (.getfield 42, 3) := by decide +kernel
theorem dX8_explore_126 : decode cX8_explore 126 = .ok (.iload 8, 2) := by decide +kernel
theorem dX8_explore_128 : decode cX8_explore 128 = .ok (.iaload, 1) := by decide +kernel
theorem dX8_explore_129 : decode cX8_explore 129 = .ok (.if_icmp .ne 99, 3) := by decide +kernel
theorem dX8_explore_132 : decode cX8_explore 132 = .ok (.aload_n 0, 1) := by decide +kernel
theorem dX8_explore_133 : decode cX8_explore 133 = .ok (.iload 8, 2) := by decide +kernel
theorem dX8_explore_135 : decode cX8_explore 135 = .ok (.iload 6, 2) := by decide +kernel
theorem dX8_explore_137 : decode cX8_explore 137 = .ok (.invokevirtual 139, 3) := by decide +kernel
theorem dX8_explore_140 : decode cX8_explore 140 = .ok (.istore 6, 2) := by decide +kernel
theorem dX8_explore_142 : decode cX8_explore 142 = .ok (.goto 86, 3) := by decide +kernel
theorem dX8_explore_145 : decode cX8_explore 145 = .ok (.aload_n 0, 1) := by decide +kernel
theorem dX8_explore_146 : decode cX8_explore 146 = .ok (.getfield 42, 3) := by decide +kernel
theorem dX8_explore_149 : decode cX8_explore 149 = .ok (.iload 9, 2) := by decide +kernel
theorem dX8_explore_151 : decode cX8_explore 151 = .ok (.iaload, 1) := by decide +kernel
theorem dX8_explore_152 : decode cX8_explore 152 = .ok (.iconst (-1), 1) := by decide +kernel
theorem dX8_explore_153 : decode cX8_explore 153 = .ok (.if_icmp .ne 40, 3) := by decide +kernel
theorem dX8_explore_156 : decode cX8_explore 156 = .ok (.aload_n 0, 1) := by decide +kernel
theorem dX8_explore_157 : decode cX8_explore 157 = .ok (.iload 9, 2) := by decide +kernel
theorem dX8_explore_159 : decode cX8_explore 159 = .ok (.iload 4, 2) := by decide +kernel
theorem dX8_explore_161 : decode cX8_explore 161 = .ok (.invokevirtual 127, 3) := by decide +kernel
theorem dX8_explore_164 : decode cX8_explore 164 = .ok (.istore 4, 2) := by decide +kernel
theorem dX8_explore_166 : decode cX8_explore 166 = .ok (.aload_n 0, 1) := by decide +kernel
theorem dX8_explore_167 : decode cX8_explore 167 = .ok (.getfield 51, 3) := by decide +kernel
theorem dX8_explore_170 : decode cX8_explore 170 = .ok (.iload 5, 2) := by decide +kernel
theorem dX8_explore_172 : decode cX8_explore 172 = .ok (.iload 9, 2) := by decide +kernel
theorem dX8_explore_174 : decode cX8_explore 174 = .ok (.iastore, 1) := by decide +kernel
theorem dX8_explore_175 : decode cX8_explore 175 = .ok (.iinc 5 1, 3) := by decide +kernel
theorem dX8_explore_178 : decode cX8_explore 178 = .ok (.aload_n 0, 1) := by decide +kernel
theorem dX8_explore_179 : decode cX8_explore 179 = .ok (.getfield 48, 3) := by decide +kernel
theorem dX8_explore_182 : decode cX8_explore 182 = .ok (.iload 6, 2) := by decide +kernel
theorem dX8_explore_184 : decode cX8_explore 184 = .ok (.iload 9, 2) := by decide +kernel
theorem dX8_explore_186 : decode cX8_explore 186 = .ok (.iastore, 1) := by decide +kernel
theorem dX8_explore_187 : decode cX8_explore 187 = .ok (.iinc 6 1, 3) := by decide +kernel
theorem dX8_explore_190 : decode cX8_explore 190 = .ok (.goto 38, 3) := by decide +kernel
theorem dX8_explore_193 : decode cX8_explore 193 = .ok (.aload_n 0, 1) := by decide +kernel
theorem dX8_explore_194 : decode cX8_explore 194 = .ok (.getfield 36, 3) := by decide +kernel
theorem dX8_explore_197 : decode cX8_explore 197 = .ok (.iload 9, 2) := by decide +kernel
theorem dX8_explore_199 : decode cX8_explore 199 = .ok (.iaload, 1) := by decide +kernel
theorem dX8_explore_200 : decode cX8_explore 200 = .ok (.iconst (-1), 1) := by decide +kernel
theorem dX8_explore_201 : decode cX8_explore 201 = .ok (.if_icmp .ne 27, 3) := by decide +kernel
theorem dX8_explore_204 : decode cX8_explore 204 = .ok (.aload_n 0, 1) := by decide +kernel
theorem dX8_explore_205 : decode cX8_explore 205 = .ok (.getfield 45, 3) := by decide +kernel
theorem dX8_explore_208 : decode cX8_explore 208 = .ok (.iload 8, 2) := by decide +kernel
theorem dX8_explore_210 : decode cX8_explore 210 = .ok (.aload_n 0, 1) := by decide +kernel
theorem dX8_explore_211 : decode cX8_explore 211 = .ok (.getfield 45, 3) := by decide +kernel
theorem dX8_explore_214 : decode cX8_explore 214 = .ok (.iload 8, 2) := by decide +kernel
theorem dX8_explore_216 : decode cX8_explore 216 = .ok (.iaload, 1) := by decide +kernel
theorem dX8_explore_217 : decode cX8_explore 217 = .ok (.aload_n 0, 1) := by decide +kernel
theorem dX8_explore_218 : decode cX8_explore 218 = .ok (.getfield 42, 3) := by decide +kernel
theorem dX8_explore_221 : decode cX8_explore 221 = .ok (.iload 9, 2) := by decide +kernel
theorem dX8_explore_223 : decode cX8_explore 223 = .ok (.iaload, 1) := by decide +kernel
theorem dX8_explore_224 : decode cX8_explore 224 = .ok (.invokestatic 134, 3) := by decide +kernel
theorem dX8_explore_227 : decode cX8_explore 227 = .ok (.iastore, 1) := by decide +kernel
theorem dX8_explore_228 : decode cX8_explore 228 = .ok (.iinc 7 1, 3) := by decide +kernel
theorem dX8_explore_231 : decode cX8_explore 231 = .ok (.goto (-200), 3) := by decide +kernel
theorem dX8_explore_234 : decode cX8_explore 234 = .ok (.iload 4, 2) := by decide +kernel
theorem dX8_explore_236 : decode cX8_explore 236 = .ok (.ireturn, 1) := by decide +kernel
theorem dX8_isTwin_0 : decode cX8_isTwin 0 = .ok (.aload_n 0, 1) := by decide +kernel
theorem dX8_isTwin_1 : decode cX8_isTwin 1 = .ok (.getfield 104, 3) := by decide +kernel
theorem dX8_isTwin_4 : decode cX8_isTwin 4 = .ok (.iload_n 1, 1) := by decide +kernel
theorem dX8_isTwin_5 : decode cX8_isTwin 5 = .ok (.iaload, 1) := by decide +kernel
theorem dX8_isTwin_6 : decode cX8_isTwin 6 = .ok (.aload_n 0, 1) := by decide +kernel
theorem dX8_isTwin_7 : decode cX8_isTwin 7 = .ok (.getfield 104, 3) := by decide +kernel
theorem dX8_isTwin_10 : decode cX8_isTwin 10 = .ok (.iload_n 2, 1) := by decide +kernel
theorem dX8_isTwin_11 : decode cX8_isTwin 11 = .ok (.iaload, 1) := by decide +kernel
theorem dX8_isTwin_12 : decode cX8_isTwin 12 = .ok (.if_icmp .ne 18, 3) := by decide +kernel
theorem dX8_isTwin_15 : decode cX8_isTwin 15 = .ok (.aload_n 0, 1) := by decide +kernel
theorem dX8_isTwin_16 : decode cX8_isTwin 16 = .ok (.getfield 107, 3) := by decide +kernel
theorem dX8_isTwin_19 : decode cX8_isTwin 19 = .ok (.iload_n 1, 1) := by decide +kernel
theorem dX8_isTwin_20 : decode cX8_isTwin 20 = .ok (.iaload, 1) := by decide +kernel
theorem dX8_isTwin_21 : decode cX8_isTwin 21 = .ok (.aload_n 0, 1) := by decide +kernel
theorem dX8_isTwin_22 : decode cX8_isTwin 22 = .ok (.getfield 107, 3) := by decide +kernel
theorem dX8_isTwin_25 : decode cX8_isTwin 25 = .ok (.iload_n 2, 1) := by decide +kernel
theorem dX8_isTwin_26 : decode cX8_isTwin 26 = .ok (.iaload, 1) := by decide +kernel
theorem dX8_isTwin_27 : decode cX8_isTwin 27 = .ok (.if_icmp .eq 5, 3) := by decide +kernel
theorem dX8_isTwin_30 : decode cX8_isTwin 30 = .ok (.iconst 0, 1) := by decide +kernel
theorem dX8_isTwin_31 : decode cX8_isTwin 31 = .ok (.ireturn, 1) := by decide +kernel
theorem dX8_isTwin_32 : decode cX8_isTwin 32 = .ok (.aload_n 0, 1) := by decide +kernel
theorem dX8_isTwin_33 : decode cX8_isTwin 33 = .ok (.getfield 79, 3) := by decide +kernel
theorem dX8_isTwin_36 : decode cX8_isTwin 36 = .ok (.iload_n 2, 1) := by decide +kernel
theorem dX8_isTwin_37 : decode cX8_isTwin 37 = .ok (.iaload, 1) := by decide +kernel
theorem dX8_isTwin_38 : decode cX8_isTwin 38 = .ok (.aload_n 0, 1) := by decide +kernel
theorem dX8_isTwin_39 : decode cX8_isTwin 39 = .ok (.getfield 79, 3) := by decide +kernel
theorem dX8_isTwin_42 : decode cX8_isTwin 42 = .ok (.iload_n 1, 1) := by decide +kernel
theorem dX8_isTwin_43 : decode cX8_isTwin 43 = .ok (.iaload, 1) := by decide +kernel
theorem dX8_isTwin_44 : decode cX8_isTwin 44 = .ok (.isub, 1) := by decide +kernel
theorem dX8_isTwin_45 : decode cX8_isTwin 45 = .ok (.istore_n 3, 1) := by decide +kernel
theorem dX8_isTwin_46 : decode cX8_isTwin 46 = .ok (.aload_n 0, 1) := by decide +kernel
theorem dX8_isTwin_47 : decode cX8_isTwin 47 = .ok (.getfield 79, 3) := by decide +kernel
theorem dX8_isTwin_50 : decode cX8_isTwin 50 = .ok (.iload_n 1, 1) := by decide +kernel
theorem dX8_isTwin_51 : decode cX8_isTwin 51 = .ok (.iaload, 1) := by decide +kernel
theorem dX8_isTwin_52 : decode cX8_isTwin 52 = .ok (.istore 4, 2) := by decide +kernel
theorem dX8_isTwin_54 : decode cX8_isTwin 54 = .ok (.iload 4, 2) := by decide +kernel
theorem dX8_isTwin_56 : decode cX8_isTwin 56 = .ok (.aload_n 0, 1) := by decide +kernel
theorem dX8_isTwin_57 : decode cX8_isTwin 57 = .ok (.getfield 79, 3) := by decide +kernel
theorem dX8_isTwin_60 : decode cX8_isTwin 60 = .ok (.iload_n 1, 1) := by decide +kernel
theorem dX8_isTwin_61 : decode cX8_isTwin 61 = .ok (.iconst 1, 1) := by decide +kernel
theorem dX8_isTwin_62 : decode cX8_isTwin 62 = .ok (.iadd, 1) := by decide +kernel
theorem dX8_isTwin_63 : decode cX8_isTwin 63 = .ok (.iaload, 1) := by decide +kernel
theorem dX8_isTwin_64 : decode cX8_isTwin 64 = .ok (.if_icmp .ge 31, 3) := by decide +kernel
theorem dX8_isTwin_67 : decode cX8_isTwin 67 = .ok (.aload_n 0, 1) := by decide +kernel
theorem dX8_isTwin_68 : decode cX8_isTwin 68 = .ok (.getfield 86, 3) := by decide +kernel
theorem dX8_isTwin_71 : decode cX8_isTwin 71 = .ok (.iload 4, 2) := by decide +kernel
theorem dX8_isTwin_73 : decode cX8_isTwin 73 = .ok (.laload, 1) := by decide +kernel
theorem dX8_isTwin_74 : decode cX8_isTwin 74 = .ok (.aload_n 0, 1) := by decide +kernel
theorem dX8_isTwin_75 : decode cX8_isTwin 75 = .ok (.getfield 86, 3) := by decide +kernel
theorem dX8_isTwin_78 : decode cX8_isTwin 78 = .ok (.iload 4, 2) := by decide +kernel
theorem dX8_isTwin_80 : decode cX8_isTwin 80 = .ok (.iload_n 3, 1) := by decide +kernel
theorem dX8_isTwin_81 : decode cX8_isTwin 81 = .ok (.iadd, 1) := by decide +kernel
theorem dX8_isTwin_82 : decode cX8_isTwin 82 = .ok (.laload, 1) := by decide +kernel
theorem dX8_isTwin_83 : decode cX8_isTwin 83 = .ok (.lcmp, 1) := by decide +kernel
theorem dX8_isTwin_84 : decode cX8_isTwin 84 = .ok (.ifCond .eq 5, 3) := by decide +kernel
theorem dX8_isTwin_87 : decode cX8_isTwin 87 = .ok (.iconst 0, 1) := by decide +kernel
theorem dX8_isTwin_88 : decode cX8_isTwin 88 = .ok (.ireturn, 1) := by decide +kernel
theorem dX8_isTwin_89 : decode cX8_isTwin 89 = .ok (.iinc 4 1, 3) := by decide +kernel
theorem dX8_isTwin_92 : decode cX8_isTwin 92 = .ok (.goto (-38), 3) := by decide +kernel
theorem dX8_isTwin_95 : decode cX8_isTwin 95 = .ok (.iconst 1, 1) := by decide +kernel
theorem dX8_isTwin_96 : decode cX8_isTwin 96 = .ok (.ireturn, 1) := by decide +kernel
theorem dX8_linksItself_0 : decode cX8_linksItself 0 = .ok (.aload_n 0, 1) := by decide +kernel
theorem dX8_linksItself_1 : decode cX8_linksItself 1 = .ok (.getfield 79, 3) := by decide +kernel
theorem dX8_linksItself_4 : decode cX8_linksItself 4 = .ok (.iload_n 1, 1) := by decide +kernel
theorem dX8_linksItself_5 : decode cX8_linksItself 5 = .ok (.iaload, 1) := by decide +kernel
theorem dX8_linksItself_6 : decode cX8_linksItself 6 = .ok (.istore_n 2, 1) := by decide +kernel
theorem dX8_linksItself_7 : decode cX8_linksItself 7 = .ok (.iload_n 2, 1) := by decide +kernel
theorem dX8_linksItself_8 : decode cX8_linksItself 8 = .ok (.aload_n 0, 1) := by decide +kernel
theorem dX8_linksItself_9 : decode cX8_linksItself 9 = .ok (.getfield 79, 3) := by decide +kernel
theorem dX8_linksItself_12 : decode cX8_linksItself 12 = .ok (.iload_n 1, 1) := by decide +kernel
theorem dX8_linksItself_13 : decode cX8_linksItself 13 = .ok (.iconst 1, 1) := by decide +kernel
theorem dX8_linksItself_14 : decode cX8_linksItself 14 = .ok (.iadd, 1) := by decide +kernel
theorem dX8_linksItself_15 : decode cX8_linksItself 15 = .ok (.iaload, 1) := by decide +kernel
theorem dX8_linksItself_16 : decode cX8_linksItself 16 = .ok (.if_icmp .ge 32, 3) := by decide +kernel
theorem dX8_linksItself_19 : decode cX8_linksItself 19 = .ok (.aload_n 0, 1) := by decide +kernel
theorem dX8_linksItself_20 : decode cX8_linksItself 20 = .ok (.getfield 82, 3) := by decide +kernel
theorem dX8_linksItself_23 : decode cX8_linksItself 23 = .ok (.iload_n 2, 1) := by decide +kernel
theorem dX8_linksItself_24 : decode cX8_linksItself 24 = .ok (.baload, 1) := by decide +kernel
theorem dX8_linksItself_25 : decode cX8_linksItself 25 = .ok (.ifCond .eq 17, 3) := by decide +kernel
theorem dX8_linksItself_28 : decode cX8_linksItself 28 = .ok (.aload_n 0, 1) := by decide +kernel
theorem dX8_linksItself_29 : decode cX8_linksItself 29 = .ok (.getfield 86, 3) := by decide +kernel
theorem dX8_linksItself_32 : decode cX8_linksItself 32 = .ok (.iload_n 2, 1) := by decide +kernel
theorem dX8_linksItself_33 : decode cX8_linksItself 33 = .ok (.laload, 1) := by decide +kernel
theorem dX8_linksItself_34 : decode cX8_linksItself 34 = .ok (.iload_n 1, 1) := by decide +kernel
theorem dX8_linksItself_35 : decode cX8_linksItself 35 = .ok (.i2l, 1) := by decide +kernel
theorem dX8_linksItself_36 : decode cX8_linksItself 36 = .ok (.lcmp, 1) := by decide +kernel
theorem dX8_linksItself_37 : decode cX8_linksItself 37 = .ok (.ifCond .ne 5, 3) := by decide +kernel
theorem dX8_linksItself_40 : decode cX8_linksItself 40 = .ok (.iconst 1, 1) := by decide +kernel
theorem dX8_linksItself_41 : decode cX8_linksItself 41 = .ok (.ireturn, 1) := by decide +kernel
theorem dX8_linksItself_42 : decode cX8_linksItself 42 = .ok (.iinc 2 1, 3) := by decide +kernel
theorem dX8_linksItself_45 : decode cX8_linksItself 45 = .ok (.goto (-38), 3) := by decide +kernel
theorem dX8_linksItself_48 : decode cX8_linksItself 48 = .ok (.iconst 0, 1) := by decide +kernel
theorem dX8_linksItself_49 : decode cX8_linksItself 49 = .ok (.ireturn, 1) := by decide +kernel
theorem dX8_meeting_0 : decode cX8_meeting 0 = .ok (.iload_n 1, 1) := by decide +kernel
theorem dX8_meeting_1 : decode cX8_meeting 1 = .ok (.istore_n 3, 1) := by decide +kernel
theorem dX8_meeting_2 : decode cX8_meeting 2 = .ok (.iload_n 2, 1) := by decide +kernel
theorem dX8_meeting_3 : decode cX8_meeting 3 = .ok (.istore 4, 2) := by decide +kernel
theorem dX8_meeting_5 : decode cX8_meeting 5 = .ok (.iconst 0, 1) := by decide +kernel
theorem dX8_meeting_6 : decode cX8_meeting 6 = .ok (.istore 5, 2) := by decide +kernel
theorem dX8_meeting_8 : decode cX8_meeting 8 = .ok (.iload 5, 2) := by decide +kernel
theorem dX8_meeting_10 : decode cX8_meeting 10 = .ok (.ldc 99, 2) := by decide +kernel
theorem dX8_meeting_12 : decode cX8_meeting 12 = .ok (.if_icmp .ge 40, 3) := by decide +kernel
theorem dX8_meeting_15 : decode cX8_meeting 15 = .ok (.iload_n 3, 1) := by decide +kernel
theorem dX8_meeting_16 : decode cX8_meeting 16 = .ok (.iload 4, 2) := by decide +kernel
theorem dX8_meeting_18 : decode cX8_meeting 18 = .ok (.if_icmp .eq 34, 3) := by decide +kernel
theorem dX8_meeting_21 : decode cX8_meeting 21 = .ok (.iload_n 3, 1) := by decide +kernel
theorem dX8_meeting_22 : decode cX8_meeting 22 = .ok (.iload 4, 2) := by decide +kernel
theorem dX8_meeting_24 : decode cX8_meeting 24 = .ok (.if_icmp .le 13, 3) := by decide +kernel
theorem dX8_meeting_27 : decode cX8_meeting 27 = .ok (.aload_n 0, 1) := by decide +kernel
theorem dX8_meeting_28 : decode cX8_meeting 28 = .ok (.getfield 27, 3) := by decide +kernel
theorem dX8_meeting_31 : decode cX8_meeting 31 = .ok (.iload_n 3, 1) := by decide +kernel
theorem dX8_meeting_32 : decode cX8_meeting 32 = .ok (.iaload, 1) := by decide +kernel
theorem dX8_meeting_33 : decode cX8_meeting 33 = .ok (.istore_n 3, 1) := by decide +kernel
theorem dX8_meeting_34 : decode cX8_meeting 34 = .ok (.goto 12, 3) := by decide +kernel
theorem dX8_meeting_37 : decode cX8_meeting 37 = .ok (.aload_n 0, 1) := by decide +kernel
theorem dX8_meeting_38 : decode cX8_meeting 38 = .ok (.getfield 27, 3) := by decide +kernel
theorem dX8_meeting_41 : decode cX8_meeting 41 = .ok (.iload 4, 2) := by decide +kernel
theorem dX8_meeting_43 : decode cX8_meeting 43 = .ok (.iaload, 1) := by decide +kernel
theorem dX8_meeting_44 : decode cX8_meeting 44 = .ok (.istore 4, 2) := by decide +kernel
theorem dX8_meeting_46 : decode cX8_meeting 46 = .ok (.iinc 5 1, 3) := by decide +kernel
theorem dX8_meeting_49 : decode cX8_meeting 49 = .ok (.goto (-41), 3) := by decide +kernel
theorem dX8_meeting_52 : decode cX8_meeting 52 = .ok (.iload_n 3, 1) := by decide +kernel
theorem dX8_meeting_53 : decode cX8_meeting 53 = .ok (.ireturn, 1) := by decide +kernel
theorem dX8_needDominators_0 : decode cX8_needDominators 0 = .ok (.aload_n 0, 1) := by decide +kernel
theorem dX8_needDominators_1 : decode cX8_needDominators 1 = .ok (.getfield 60, 3) := by decide +kernel
theorem dX8_needDominators_4 : decode cX8_needDominators 4 = .ok (.iconst 2, 1) := by decide +kernel
theorem dX8_needDominators_5 : decode cX8_needDominators 5 = .ok (.iand, 1) := by decide +kernel
theorem dX8_needDominators_6 : decode cX8_needDominators 6 = .ok (.ifCond .eq 4, 3) := by decide +kernel
theorem dX8_needDominators_9 : decode cX8_needDominators 9 = .ok (.return_, 1) := by decide +kernel
theorem dX8_needDominators_10 : decode cX8_needDominators 10 = .ok (.aload_n 0, 1) := by decide +kernel
theorem dX8_needDominators_11 : decode cX8_needDominators 11 = .ok (.dup, 1) := by decide +kernel
theorem dX8_needDominators_12 : decode cX8_needDominators 12 = .ok (.getfield 60, 3) := by decide +kernel
theorem dX8_needDominators_15 : decode cX8_needDominators 15 = .ok (.iconst 2, 1) := by decide +kernel
theorem dX8_needDominators_16 : decode cX8_needDominators 16 = .ok (.ior, 1) := by decide +kernel
theorem dX8_needDominators_17 : decode cX8_needDominators 17 = .ok (.putfield 60, 3) := by decide +kernel
theorem dX8_needDominators_20 : decode cX8_needDominators 20 = .ok (.aload_n 0, 1) := by decide +kernel
theorem dX8_needDominators_21 : decode cX8_needDominators 21 = .ok (.getfield 27, 3) := by decide +kernel
theorem dX8_needDominators_24 : decode cX8_needDominators 24 = .ok (.iconst 0, 1) := by decide +kernel
theorem dX8_needDominators_25 : decode cX8_needDominators 25 = .ok (.aload_n 1, 1) := by decide +kernel
theorem dX8_needDominators_26 : decode cX8_needDominators 26 = .ok (.getfield 64, 3) := by decide +kernel
theorem dX8_needDominators_29 : decode cX8_needDominators 29 = .ok (.bipush (-2), 2) := by decide +kernel
theorem dX8_needDominators_31 : decode cX8_needDominators 31 = .ok (.invokestatic 67, 3) := by decide +kernel
theorem dX8_needDominators_34 : decode cX8_needDominators 34 = .ok (.iconst 1, 1) := by decide +kernel
theorem dX8_needDominators_35 : decode cX8_needDominators 35 = .ok (.istore_n 2, 1) := by decide +kernel
theorem dX8_needDominators_36 : decode cX8_needDominators 36 = .ok (.iconst 0, 1) := by decide +kernel
theorem dX8_needDominators_37 : decode cX8_needDominators 37 = .ok (.istore_n 3, 1) := by decide +kernel
theorem dX8_needDominators_38 : decode cX8_needDominators 38 = .ok (.iload_n 3, 1) := by decide +kernel
theorem dX8_needDominators_39 : decode cX8_needDominators 39 = .ok (.ldc 99, 2) := by decide +kernel
theorem dX8_needDominators_41 : decode cX8_needDominators 41 = .ok (.if_icmp .ge 64, 3) := by decide +kernel
theorem dX8_needDominators_44 : decode cX8_needDominators 44 = .ok (.iload_n 2, 1) := by decide +kernel
theorem dX8_needDominators_45 : decode cX8_needDominators 45 = .ok (.ifCond .eq 60, 3) := by decide +kernel
theorem dX8_needDominators_48 : decode cX8_needDominators 48 = .ok (.iconst 0, 1) := by decide +kernel
theorem dX8_needDominators_49 : decode cX8_needDominators 49 = .ok (.istore_n 2, 1) := by decide +kernel
theorem dX8_needDominators_50 : decode cX8_needDominators 50 = .ok (.iconst 0, 1) := by decide +kernel
theorem dX8_needDominators_51 : decode cX8_needDominators 51 = .ok (.istore 4, 2) := by decide +kernel
theorem dX8_needDominators_53 : decode cX8_needDominators 53 = .ok (.iload 4, 2) := by decide +kernel
theorem dX8_needDominators_55 : decode cX8_needDominators 55 = .ok (.aload_n 1, 1) := by decide +kernel
theorem dX8_needDominators_56 : decode cX8_needDominators 56 = .ok (.getfield 64, 3) := by decide +kernel
theorem dX8_needDominators_59 : decode cX8_needDominators 59 = .ok (.if_icmp .ge 40, 3) := by decide +kernel
theorem dX8_needDominators_62 : decode cX8_needDominators 62 = .ok (.aload_n 0, 1) := by decide +kernel
theorem dX8_needDominators_63 : decode cX8_needDominators 63 = .ok (.iload 4, 2) := by decide +kernel
theorem dX8_needDominators_65 : decode cX8_needDominators 65 = .ok (.invokevirtual 100, 3) := by decide +kernel
theorem dX8_needDominators_68 : decode cX8_needDominators 68 = .ok (.istore 5, 2) := by decide +kernel
theorem dX8_needDominators_70 : decode cX8_needDominators 70 = .ok (.iload 5, 2) := by decide +kernel
theorem dX8_needDominators_72 : decode cX8_needDominators 72 = .ok (.aload_n 0, 1) := by decide +kernel
theorem dX8_needDominators_73 : decode cX8_needDominators 73 = .ok (.getfield 27, 3) := by decide +kernel
theorem dX8_needDominators_76 : decode cX8_needDominators 76 = .ok (.iload 4, 2) := by decide +kernel
theorem dX8_needDominators_78 : decode cX8_needDominators 78 = .ok (.iaload, 1) := by decide +kernel
theorem dX8_needDominators_79 : decode cX8_needDominators 79 = .ok (.if_icmp .eq 14, 3) := by decide +kernel
theorem dX8_needDominators_82 : decode cX8_needDominators 82 = .ok (.aload_n 0, 1) := by decide +kernel
theorem dX8_needDominators_83 : decode cX8_needDominators 83 = .ok (.getfield 27, 3) := by decide +kernel
theorem dX8_needDominators_86 : decode cX8_needDominators 86 = .ok (.iload 4, 2) := by decide +kernel
theorem dX8_needDominators_88 : decode cX8_needDominators 88 = .ok (.iload 5, 2) := by decide +kernel
theorem dX8_needDominators_90 : decode cX8_needDominators 90 = .ok (.iastore, 1) := by decide +kernel
theorem dX8_needDominators_91 : decode cX8_needDominators 91 = .ok (.iconst 1, 1) := by decide +kernel
theorem dX8_needDominators_92 : decode cX8_needDominators 92 = .ok (.istore_n 2, 1) := by decide +kernel
theorem dX8_needDominators_93 : decode cX8_needDominators 93 = .ok (.iinc 4 1, 3) := by decide +kernel
theorem dX8_needDominators_96 : decode cX8_needDominators 96 = .ok (.goto (-43), 3) := by decide +kernel
theorem dX8_needDominators_99 : decode cX8_needDominators 99 = .ok (.iinc 3 1, 3) := by decide +kernel
theorem dX8_needDominators_102 : decode cX8_needDominators 102 = .ok (.goto (-64), 3) := by decide +kernel
theorem dX8_needDominators_105 : decode cX8_needDominators 105 = .ok (.iconst 0, 1) := by decide +kernel
theorem dX8_needDominators_106 : decode cX8_needDominators 106 = .ok (.istore_n 3, 1) := by decide +kernel
theorem dX8_needDominators_107 : decode cX8_needDominators 107 = .ok (.iload_n 3, 1) := by decide +kernel
theorem dX8_needDominators_108 : decode cX8_needDominators 108 = .ok (.aload_n 1, 1) := by decide +kernel
theorem dX8_needDominators_109 : decode cX8_needDominators 109 = .ok (.getfield 64, 3) := by decide +kernel
theorem dX8_needDominators_112 : decode cX8_needDominators 112 = .ok (.if_icmp .ge 41, 3) := by decide +kernel
theorem dX8_needDominators_115 : decode cX8_needDominators 115 = .ok (.aload_n 0, 1) := by decide +kernel
theorem dX8_needDominators_116 : decode cX8_needDominators 116 = .ok (.getfield 30, 3) := by decide +kernel
theorem dX8_needDominators_119 : decode cX8_needDominators 119 = .ok (.iload_n 3, 1) := by decide +kernel
theorem dX8_needDominators_120 : decode cX8_needDominators 120 = .ok (.aload_n 0, 1) := by decide +kernel
theorem dX8_needDominators_121 : decode cX8_needDominators 121 = .ok (.getfield 9, 3) := by decide +kernel
theorem dX8_needDominators_124 : decode cX8_needDominators 124 = .ok (.aload_n 1, 1) := by decide +kernel
theorem dX8_needDominators_125 : decode cX8_needDominators 125 = .ok (.getfield 104, 3) := by decide +kernel
theorem dX8_needDominators_128 : decode cX8_needDominators 128 = .ok (.iload_n 3, 1) := by decide +kernel
theorem dX8_needDominators_129 : decode cX8_needDominators 129 = .ok (.iaload, 1) := by decide +kernel
theorem dX8_needDominators_130 : decode cX8_needDominators 130 = .ok (.aload_n 1, 1) := by decide +kernel
theorem dX8_needDominators_131 : decode cX8_needDominators 131 = .ok (.getfield 107, 3) := by decide +kernel
theorem dX8_needDominators_134 : decode cX8_needDominators 134 = .ok (.iload_n 3, 1) := by decide +kernel
theorem dX8_needDominators_135 : decode cX8_needDominators 135 = .ok (.iaload, 1) := by decide +kernel
theorem dX8_needDominators_136 : decode cX8_needDominators 136 = .ok (.invokevirtual 110, 3) := by decide +kernel
theorem dX8_needDominators_139 : decode cX8_needDominators 139 = .ok (.iastore, 1) := by decide +kernel
theorem dX8_needDominators_140 : decode cX8_needDominators 140 = .ok (.aload_n 0, 1) := by decide +kernel
theorem dX8_needDominators_141 : decode cX8_needDominators 141 = .ok (.getfield 33, 3) := by decide +kernel
theorem dX8_needDominators_144 : decode cX8_needDominators 144 = .ok (.iload_n 3, 1) := by decide +kernel
