theorem dX11_thing_88 : decode cX11_thing 88 = .ok (.aload 4, 2) := by decide +kernel
theorem dX11_thing_90 : decode cX11_thing 90 = .ok (.getfield 363, 3) := by decide +kernel
theorem dX11_thing_93 : decode cX11_thing 93 = .ok (.iload_n 2, 1) := by decide +kernel
theorem dX11_thing_94 : decode cX11_thing 94 = .ok (.iaload, 1) := by decide +kernel
theorem dX11_thing_95 : decode cX11_thing 95 = .ok (.ireturn, 1) := by decide +kernel
theorem dX11_thing_96 : decode cX11_thing 96 = .ok (.aload 4, 2) := by decide +kernel
theorem dX11_thing_98 : decode cX11_thing 98 = .ok (.getfield 366, 3) := by decide +kernel
theorem dX11_thing_101 : decode cX11_thing 101 = .ok (.iload_n 2, 1) := by decide +kernel
theorem dX11_thing_102 : decode cX11_thing 102 = .ok (.iaload, 1) := by decide +kernel
theorem dX11_thing_103 : decode cX11_thing 103 = .ok (.ireturn, 1) := by decide +kernel
theorem dX11_thing_104 : decode cX11_thing 104 = .ok (.aload 4, 2) := by decide +kernel
theorem dX11_thing_106 : decode cX11_thing 106 = .ok (.getfield 367, 3) := by decide +kernel
theorem dX11_thing_109 : decode cX11_thing 109 = .ok (.iload_n 2, 1) := by decide +kernel
theorem dX11_thing_110 : decode cX11_thing 110 = .ok (.iaload, 1) := by decide +kernel
theorem dX11_thing_111 : decode cX11_thing 111 = .ok (.ireturn, 1) := by decide +kernel
theorem dX11_thing_112 : decode cX11_thing 112 = .ok (.aload_n 0, 1) := by decide +kernel
theorem dX11_thing_113 : decode cX11_thing 113 = .ok (.getfield 19, 3) := by decide +kernel
theorem dX11_thing_116 : decode cX11_thing 116 = .ok (.aload 4, 2) := by decide +kernel
theorem dX11_thing_118 : decode cX11_thing 118 = .ok (.getfield 366, 3) := by decide +kernel
theorem dX11_thing_121 : decode cX11_thing 121 = .ok (.iload_n 2, 1) := by decide +kernel
theorem dX11_thing_122 : decode cX11_thing 122 = .ok (.iaload, 1) := by decide +kernel
theorem dX11_thing_123 : decode cX11_thing 123 = .ok (.aload 4, 2) := by decide +kernel
theorem dX11_thing_125 : decode cX11_thing 125 = .ok (.getfield 367, 3) := by decide +kernel
theorem dX11_thing_128 : decode cX11_thing 128 = .ok (.iload_n 2, 1) := by decide +kernel
theorem dX11_thing_129 : decode cX11_thing 129 = .ok (.iaload, 1) := by decide +kernel
theorem dX11_thing_130 : decode cX11_thing 130 = .ok (.invokevirtual 178, 3) := by decide +kernel
theorem dX11_thing_133 : decode cX11_thing 133 = .ok (.ireturn, 1) := by decide +kernel
theorem dX11_thing_134 : decode cX11_thing 134 = .ok (.aload 4, 2) := by decide +kernel
theorem dX11_thing_136 : decode cX11_thing 136 = .ok (.getfield 368, 3) := by decide +kernel
theorem dX11_thing_139 : decode cX11_thing 139 = .ok (.iload_n 2, 1) := by decide +kernel
theorem dX11_thing_140 : decode cX11_thing 140 = .ok (.iaload, 1) := by decide +kernel
theorem dX11_thing_141 : decode cX11_thing 141 = .ok (.ireturn, 1) := by decide +kernel
theorem dX11_thing_142 : decode cX11_thing 142 = .ok (.aload 4, 2) := by decide +kernel
theorem dX11_thing_144 : decode cX11_thing 144 = .ok (.getfield 371, 3) := by decide +kernel
theorem dX11_thing_147 : decode cX11_thing 147 = .ok (.iload_n 2, 1) := by decide +kernel
theorem dX11_thing_148 : decode cX11_thing 148 = .ok (.iaload, 1) := by decide +kernel
theorem dX11_thing_149 : decode cX11_thing 149 = .ok (.ireturn, 1) := by decide +kernel
theorem dX11_thing_150 : decode cX11_thing 150 = .ok (.aload 4, 2) := by decide +kernel
theorem dX11_thing_152 : decode cX11_thing 152 = .ok (.getfield 374, 3) := by decide +kernel
theorem dX11_thing_155 : decode cX11_thing 155 = .ok (.iload_n 2, 1) := by decide +kernel
theorem dX11_thing_156 : decode cX11_thing 156 = .ok (.iaload, 1) := by decide +kernel
theorem dX11_thing_157 : decode cX11_thing 157 = .ok (.ireturn, 1) := by decide +kernel
theorem dX11_thing_158 : decode cX11_thing 158 = .ok (.aload 4, 2) := by decide +kernel
theorem dX11_thing_160 : decode cX11_thing 160 = .ok (.iload_n 2, 1) := by decide +kernel
theorem dX11_thing_161 : decode cX11_thing 161 = .ok (.invokevirtual 377, 3) := by decide +kernel
theorem dX11_thing_164 : decode cX11_thing 164 = .ok (.ireturn, 1) := by decide +kernel
theorem dX11_thing_165 : decode cX11_thing 165 = .ok (.aload 4, 2) := by decide +kernel
theorem dX11_thing_167 : decode cX11_thing 167 = .ok (.iload_n 2, 1) := by decide +kernel
theorem dX11_thing_168 : decode cX11_thing 168 = .ok (.invokevirtual 380, 3) := by decide +kernel
theorem dX11_thing_171 : decode cX11_thing 171 = .ok (.ireturn, 1) := by decide +kernel
theorem dX11_thing_172 : decode cX11_thing 172 = .ok (.aload 4, 2) := by decide +kernel
theorem dX11_thing_174 : decode cX11_thing 174 = .ok (.iload_n 2, 1) := by decide +kernel
theorem dX11_thing_175 : decode cX11_thing 175 = .ok (.invokevirtual 383, 3) := by decide +kernel
theorem dX11_thing_178 : decode cX11_thing 178 = .ok (.ireturn, 1) := by decide +kernel
theorem dX11_thing_179 : decode cX11_thing 179 = .ok (.aload 4, 2) := by decide +kernel
theorem dX11_thing_181 : decode cX11_thing 181 = .ok (.iload_n 2, 1) := by decide +kernel
theorem dX11_thing_182 : decode cX11_thing 182 = .ok (.invokevirtual 386, 3) := by decide +kernel
theorem dX11_thing_185 : decode cX11_thing 185 = .ok (.ireturn, 1) := by decide +kernel
theorem dX11_thing_186 : decode cX11_thing 186 = .ok (.aload 4, 2) := by decide +kernel
theorem dX11_thing_188 : decode cX11_thing 188 = .ok (.iload_n 2, 1) := by decide +kernel
theorem dX11_thing_189 : decode cX11_thing 189 = .ok (.invokevirtual 389, 3) := by decide +kernel
theorem dX11_thing_192 : decode cX11_thing 192 = .ok (.ireturn, 1) := by decide +kernel
theorem dX11_thing_193 : decode cX11_thing 193 = .ok (.aload 4, 2) := by decide +kernel
theorem dX11_thing_195 : decode cX11_thing 195 = .ok (.iload_n 2, 1) := by decide +kernel
theorem dX11_thing_196 : decode cX11_thing 196 = .ok (.invokevirtual 392, 3) := by decide +kernel
theorem dX11_thing_199 : decode cX11_thing 199 = .ok (.ireturn, 1) := by decide +kernel
theorem dX11_thing_200 : decode cX11_thing 200 = .ok (.iconst (-1), 1) := by decide +kernel
theorem dX11_thing_201 : decode cX11_thing 201 = .ok (.ireturn, 1) := by decide +kernel
theorem dX11_type_0 : decode cX11_type 0 = .ok (.iload_n 1, 1) := by decide +kernel
theorem dX11_type_1 : decode cX11_type 1 = .ok (.iconst (-1), 1) := by decide +kernel
theorem dX11_type_2 : decode cX11_type 2 = .ok (.if_icmp .eq 14, 3) := by decide +kernel
theorem dX11_type_5 : decode cX11_type 5 = .ok (.aload_n 0, 1) := by decide +kernel
theorem dX11_type_6 : decode cX11_type 6 = .ok (.getfield 19, 3) := by decide +kernel
theorem dX11_type_9 : decode cX11_type 9 = .ok (.iload_n 1, 1) := by decide +kernel
theorem dX11_type_10 : decode cX11_type 10 = .ok (.invokevirtual 116, 3) := by decide +kernel
theorem dX11_type_13 : decode cX11_type 13 = .ok (.ifCond .eq 12, 3) := by decide +kernel
theorem dX11_type_16 : decode cX11_type 16 = .ok (.iload_n 2, 1) := by decide +kernel
theorem dX11_type_17 : decode cX11_type 17 = .ok (.ifCond .lt 8, 3) := by decide +kernel
theorem dX11_type_20 : decode cX11_type 20 = .ok (.iload_n 2, 1) := by decide +kernel
theorem dX11_type_21 : decode cX11_type 21 = .ok (.iconst 4, 1) := by decide +kernel
theorem dX11_type_22 : decode cX11_type 22 = .ok (.if_icmp .lt 11, 3) := by decide +kernel
theorem dX11_type_25 : decode cX11_type 25 = .ok (.new 120, 3) := by decide +kernel
theorem dX11_type_28 : decode cX11_type 28 = .ok (.dup, 1) := by decide +kernel
theorem dX11_type_29 : decode cX11_type 29 = .ok (.invokespecial 122, 3) := by decide +kernel
theorem dX11_type_32 : decode cX11_type 32 = .ok (.athrow, 1) := by decide +kernel
theorem dX11_type_33 : decode cX11_type 33 = .ok (.aload_n 0, 1) := by decide +kernel
theorem dX11_type_34 : decode cX11_type 34 = .ok (.getfield 12, 3) := by decide +kernel
theorem dX11_type_37 : decode cX11_type 37 = .ok (.invokevirtual 123, 3) := by decide +kernel
theorem dX11_type_40 : decode cX11_type 40 = .ok (.lstore_n 3, 1) := by decide +kernel
theorem dX11_type_41 : decode cX11_type 41 = .ok (.lload_n 3, 1) := by decide +kernel
theorem dX11_type_42 : decode cX11_type 42 = .ok (.lconst 0, 1) := by decide +kernel
theorem dX11_type_43 : decode cX11_type 43 = .ok (.lcmp, 1) := by decide +kernel
theorem dX11_type_44 : decode cX11_type 44 = .ok (.ifCond .ne 11, 3) := by decide +kernel
theorem dX11_type_47 : decode cX11_type 47 = .ok (.new 127, 3) := by decide +kernel
theorem dX11_type_50 : decode cX11_type 50 = .ok (.dup, 1) := by decide +kernel
theorem dX11_type_51 : decode cX11_type 51 = .ok (.invokespecial 129, 3) := by decide +kernel
theorem dX11_type_54 : decode cX11_type 54 = .ok (.athrow, 1) := by decide +kernel
theorem dX11_type_55 : decode cX11_type 55 = .ok (.aload_n 0, 1) := by decide +kernel
theorem dX11_type_56 : decode cX11_type 56 = .ok (.getfield 19, 3) := by decide +kernel
theorem dX11_type_59 : decode cX11_type 59 = .ok (.getfield 130, 3) := by decide +kernel
theorem dX11_type_62 : decode cX11_type 62 = .ok (.bipush 16, 2) := by decide +kernel
theorem dX11_type_64 : decode cX11_type 64 = .ok (.if_icmp .eq 15, 3) := by decide +kernel
theorem dX11_type_67 : decode cX11_type 67 = .ok (.aload_n 0, 1) := by decide +kernel
theorem dX11_type_68 : decode cX11_type 68 = .ok (.getfield 19, 3) := by decide +kernel
theorem dX11_type_71 : decode cX11_type 71 = .ok (.iload_n 2, 1) := by decide +kernel
theorem dX11_type_72 : decode cX11_type 72 = .ok (.lload_n 3, 1) := by decide +kernel
theorem dX11_type_73 : decode cX11_type 73 = .ok (.invokevirtual 133, 3) := by decide +kernel
theorem dX11_type_76 : decode cX11_type 76 = .ok (.ifCond .eq 11, 3) := by decide +kernel
theorem dX11_type_79 : decode cX11_type 79 = .ok (.new 137, 3) := by decide +kernel
theorem dX11_type_82 : decode cX11_type 82 = .ok (.dup, 1) := by decide +kernel
theorem dX11_type_83 : decode cX11_type 83 = .ok (.invokespecial 139, 3) := by decide +kernel
theorem dX11_type_86 : decode cX11_type 86 = .ok (.athrow, 1) := by decide +kernel
theorem dX11_type_87 : decode cX11_type 87 = .ok (.aload_n 0, 1) := by decide +kernel
theorem dX11_type_88 : decode cX11_type 88 = .ok (.getfield 12, 3) := by decide +kernel
theorem dX11_type_91 : decode cX11_type 91 = .ok (.iconst 0, 1) := by decide +kernel
theorem dX11_type_92 : decode cX11_type 92 = .ok (.putfield 110, 3) := by decide +kernel
theorem dX11_type_95 : decode cX11_type 95 = .ok (.aload_n 0, 1) := by decide +kernel
theorem dX11_type_96 : decode cX11_type 96 = .ok (.getfield 19, 3) := by decide +kernel
theorem dX11_type_99 : decode cX11_type 99 = .ok (.lload_n 3, 1) := by decide +kernel
theorem dX11_type_100 : decode cX11_type 100 = .ok (.iload_n 1, 1) := by decide +kernel
theorem dX11_type_101 : decode cX11_type 101 = .ok (.iload_n 2, 1) := by decide +kernel
theorem dX11_type_102 : decode cX11_type 102 = .ok (.invokevirtual 140, 3) := by decide +kernel
theorem dX11_type_105 : decode cX11_type 105 = .ok (.ireturn, 1) := by decide +kernel
theorem dX11_typeLook_0 : decode cX11_typeLook 0 = .ok (.aload_n 0, 1) := by decide +kernel
theorem dX11_typeLook_1 : decode cX11_typeLook 1 = .ok (.getfield 19, 3) := by decide +kernel
theorem dX11_typeLook_4 : decode cX11_typeLook 4 = .ok (.iload_n 1, 1) := by decide +kernel
theorem dX11_typeLook_5 : decode cX11_typeLook 5 = .ok (.invokevirtual 116, 3) := by decide +kernel
theorem dX11_typeLook_8 : decode cX11_typeLook 8 = .ok (.ifCond .ne 5, 3) := by decide +kernel
theorem dX11_typeLook_11 : decode cX11_typeLook 11 = .ok (.iconst (-1), 1) := by decide +kernel
theorem dX11_typeLook_12 : decode cX11_typeLook 12 = .ok (.ireturn, 1) := by decide +kernel
theorem dX11_typeLook_13 : decode cX11_typeLook 13 = .ok (.iload_n 2, 1) := by decide +kernel
theorem dX11_typeLook_14 : decode cX11_typeLook 14 = .ok (.tableswitch 133 0 7 #[46, 56, 66, 76, 86, 96, 114, 124], 46) := by decide +kernel
theorem dX11_typeLook_60 : decode cX11_typeLook 60 = .ok (.aload_n 0, 1) := by decide +kernel
theorem dX11_typeLook_61 : decode cX11_typeLook 61 = .ok (.getfield 19, 3) := by decide +kernel
theorem dX11_typeLook_64 : decode cX11_typeLook 64 = .ok (.getfield 169, 3) := by decide +kernel
theorem dX11_typeLook_67 : decode cX11_typeLook 67 = .ok (.iload_n 1, 1) := by decide +kernel
theorem dX11_typeLook_68 : decode cX11_typeLook 68 = .ok (.iaload, 1) := by decide +kernel
theorem dX11_typeLook_69 : decode cX11_typeLook 69 = .ok (.ireturn, 1) := by decide +kernel
theorem dX11_typeLook_70 : decode cX11_typeLook 70 = .ok (.aload_n 0, 1) := by decide +kernel
theorem dX11_typeLook_71 : decode cX11_typeLook 71 = .ok (.getfield 19, 3) := by decide +kernel
theorem dX11_typeLook_74 : decode cX11_typeLook 74 = .ok (.getfield 172, 3) := by decide +kernel
theorem dX11_typeLook_77 : decode cX11_typeLook 77 = .ok (.iload_n 1, 1) := by decide +kernel
theorem dX11_typeLook_78 : decode cX11_typeLook 78 = .ok (.iaload, 1) := by decide +kernel
theorem dX11_typeLook_79 : decode cX11_typeLook 79 = .ok (.ireturn, 1) := by decide +kernel
theorem dX11_typeLook_80 : decode cX11_typeLook 80 = .ok (.aload_n 0, 1) := by decide +kernel
theorem dX11_typeLook_81 : decode cX11_typeLook 81 = .ok (.getfield 19, 3) := by decide +kernel
theorem dX11_typeLook_84 : decode cX11_typeLook 84 = .ok (.getfield 151, 3) := by decide +kernel
theorem dX11_typeLook_87 : decode cX11_typeLook 87 = .ok (.iload_n 1, 1) := by decide +kernel
theorem dX11_typeLook_88 : decode cX11_typeLook 88 = .ok (.iaload, 1) := by decide +kernel
theorem dX11_typeLook_89 : decode cX11_typeLook 89 = .ok (.ireturn, 1) := by decide +kernel
theorem dX11_typeLook_90 : decode cX11_typeLook 90 = .ok (.aload_n 0, 1) := by decide +kernel
theorem dX11_typeLook_91 : decode cX11_typeLook 91 = .ok (.getfield 19, 3) := by decide +kernel
theorem dX11_typeLook_94 : decode cX11_typeLook 94 = .ok (.getfield 175, 3) := by decide +kernel
theorem dX11_typeLook_97 : decode cX11_typeLook 97 = .ok (.iload_n 1, 1) := by decide +kernel
theorem dX11_typeLook_98 : decode cX11_typeLook 98 = .ok (.iaload, 1) := by decide +kernel
theorem dX11_typeLook_99 : decode cX11_typeLook 99 = .ok (.ireturn, 1) := by decide +kernel
theorem dX11_typeLook_100 : decode cX11_typeLook 100 = .ok (.aload_n 0, 1) := by decide +kernel
theorem dX11_typeLook_101 : decode cX11_typeLook 101 = .ok (.getfield 19, 3) := by decide +kernel
theorem dX11_typeLook_104 : decode cX11_typeLook 104 = .ok (.iload_n 1, 1) := by decide +kernel
theorem dX11_typeLook_105 : decode cX11_typeLook 105 = .ok (.iconst 0, 1) := by decide +kernel
theorem dX11_typeLook_106 : decode cX11_typeLook 106 = .ok (.invokevirtual 178, 3) := by decide +kernel
theorem dX11_typeLook_109 : decode cX11_typeLook 109 = .ok (.ireturn, 1) := by decide +kernel
theorem dX11_typeLook_110 : decode cX11_typeLook 110 = .ok (.aload_n 0, 1) := by decide +kernel
theorem dX11_typeLook_111 : decode cX11_typeLook 111 = .ok (.getfield 19, 3) := by decide +kernel
theorem dX11_typeLook_114 : decode cX11_typeLook 114 = .ok (.getfield 147, 3) := by decide +kernel
theorem dX11_typeLook_117 : decode cX11_typeLook 117 = .ok (.iload_n 1, 1) := by decide +kernel
theorem dX11_typeLook_118 : decode cX11_typeLook 118 = .ok (.baload, 1) := by decide +kernel
theorem dX11_typeLook_119 : decode cX11_typeLook 119 = .ok (.ifCond .eq 7, 3) := by decide +kernel
theorem dX11_typeLook_122 : decode cX11_typeLook 122 = .ok (.iconst 1, 1) := by decide +kernel
theorem dX11_typeLook_123 : decode cX11_typeLook 123 = .ok (.goto 4, 3) := by decide +kernel
theorem dX11_typeLook_126 : decode cX11_typeLook 126 = .ok (.iconst 0, 1) := by decide +kernel
theorem dX11_typeLook_127 : decode cX11_typeLook 127 = .ok (.ireturn, 1) := by decide +kernel
theorem dX11_typeLook_128 : decode cX11_typeLook 128 = .ok (.aload_n 0, 1) := by decide +kernel
theorem dX11_typeLook_129 : decode cX11_typeLook 129 = .ok (.getfield 19, 3) := by decide +kernel
theorem dX11_typeLook_132 : decode cX11_typeLook 132 = .ok (.getfield 182, 3) := by decide +kernel
theorem dX11_typeLook_135 : decode cX11_typeLook 135 = .ok (.iload_n 1, 1) := by decide +kernel
theorem dX11_typeLook_136 : decode cX11_typeLook 136 = .ok (.iaload, 1) := by decide +kernel
theorem dX11_typeLook_137 : decode cX11_typeLook 137 = .ok (.ireturn, 1) := by decide +kernel
theorem dX11_typeLook_138 : decode cX11_typeLook 138 = .ok (.aload_n 0, 1) := by decide +kernel
theorem dX11_typeLook_139 : decode cX11_typeLook 139 = .ok (.getfield 28, 3) := by decide +kernel
theorem dX11_typeLook_142 : decode cX11_typeLook 142 = .ok (.iload_n 1, 1) := by decide +kernel
theorem dX11_typeLook_143 : decode cX11_typeLook 143 = .ok (.invokevirtual 185, 3) := by decide +kernel
theorem dX11_typeLook_146 : decode cX11_typeLook 146 = .ok (.ireturn, 1) := by decide +kernel
theorem dX11_typeLook_147 : decode cX11_typeLook 147 = .ok (.iconst (-1), 1) := by decide +kernel
theorem dX11_typeLook_148 : decode cX11_typeLook 148 = .ok (.ireturn, 1) := by decide +kernel
theorem dX11_undo_0 : decode cX11_undo 0 = .ok (.aload_n 0, 1) := by decide +kernel
theorem dX11_undo_1 : decode cX11_undo 1 = .ok (.getfield 35, 3) := by decide +kernel
theorem dX11_undo_4 : decode cX11_undo 4 = .ok (.aload_n 0, 1) := by decide +kernel
theorem dX11_undo_5 : decode cX11_undo 5 = .ok (.getfield 28, 3) := by decide +kernel
theorem dX11_undo_8 : decode cX11_undo 8 = .ok (.invokevirtual 284, 3) := by decide +kernel
theorem dX11_undo_11 : decode cX11_undo 11 = .ok (.ireturn, 1) := by decide +kernel
theorem dX11_watch_0 : decode cX11_watch 0 = .ok (.aload_n 0, 1) := by decide +kernel
theorem dX11_watch_1 : decode cX11_watch 1 = .ok (.getfield 19, 3) := by decide +kernel
theorem dX11_watch_4 : decode cX11_watch 4 = .ok (.iload_n 1, 1) := by decide +kernel
theorem dX11_watch_5 : decode cX11_watch 5 = .ok (.iload_n 2, 1) := by decide +kernel
theorem dX11_watch_6 : decode cX11_watch 6 = .ok (.invokevirtual 188, 3) := by decide +kernel
theorem dX11_watch_9 : decode cX11_watch 9 = .ok (.ifCond .ne 11, 3) := by decide +kernel
theorem dX11_watch_12 : decode cX11_watch 12 = .ok (.new 222, 3) := by decide +kernel
theorem dX11_watch_15 : decode cX11_watch 15 = .ok (.dup, 1) := by decide +kernel
theorem dX11_watch_16 : decode cX11_watch 16 = .ok (.invokespecial 224, 3) := by decide +kernel
theorem dX11_watch_19 : decode cX11_watch 19 = .ok (.athrow, 1) := by decide +kernel
theorem dX11_watch_20 : decode cX11_watch 20 = .ok (.iload_n 3, 1) := by decide +kernel
theorem dX11_watch_21 : decode cX11_watch 21 = .ok (.ifCond .lt 8, 3) := by decide +kernel
theorem dX11_watch_24 : decode cX11_watch 24 = .ok (.iload_n 3, 1) := by decide +kernel
theorem dX11_watch_25 : decode cX11_watch 25 = .ok (.iconst 3, 1) := by decide +kernel
theorem dX11_watch_26 : decode cX11_watch 26 = .ok (.if_icmp .le 11, 3) := by decide +kernel
theorem dX11_watch_29 : decode cX11_watch 29 = .ok (.new 127, 3) := by decide +kernel
theorem dX11_watch_32 : decode cX11_watch 32 = .ok (.dup, 1) := by decide +kernel
theorem dX11_watch_33 : decode cX11_watch 33 = .ok (.invokespecial 129, 3) := by decide +kernel
theorem dX11_watch_36 : decode cX11_watch 36 = .ok (.athrow, 1) := by decide +kernel
theorem dX11_watch_37 : decode cX11_watch 37 = .ok (.aload_n 0, 1) := by decide +kernel
theorem dX11_watch_38 : decode cX11_watch 38 = .ok (.getfield 35, 3) := by decide +kernel
theorem dX11_watch_41 : decode cX11_watch 41 = .ok (.getfield 310, 3) := by decide +kernel
theorem dX11_watch_44 : decode cX11_watch 44 = .ok (.bipush 6, 2) := by decide +kernel
theorem dX11_watch_46 : decode cX11_watch 46 = .ok (.if_icmp .ne 11, 3) := by decide +kernel
theorem dX11_watch_49 : decode cX11_watch 49 = .ok (.new 137, 3) := by decide +kernel
theorem dX11_watch_52 : decode cX11_watch 52 = .ok (.dup, 1) := by decide +kernel
theorem dX11_watch_53 : decode cX11_watch 53 = .ok (.invokespecial 139, 3) := by decide +kernel
theorem dX11_watch_56 : decode cX11_watch 56 = .ok (.athrow, 1) := by decide +kernel
theorem dX11_watch_57 : decode cX11_watch 57 = .ok (.aload_n 0, 1) := by decide +kernel
theorem dX11_watch_58 : decode cX11_watch 58 = .ok (.getfield 35, 3) := by decide +kernel
theorem dX11_watch_61 : decode cX11_watch 61 = .ok (.iload_n 1, 1) := by decide +kernel
theorem dX11_watch_62 : decode cX11_watch 62 = .ok (.iload_n 2, 1) := by decide +kernel
theorem dX11_watch_63 : decode cX11_watch 63 = .ok (.iload_n 3, 1) := by decide +kernel
theorem dX11_watch_64 : decode cX11_watch 64 = .ok (.invokevirtual 313, 3) := by decide +kernel
theorem dX11_watch_67 : decode cX11_watch 67 = .ok (.ireturn, 1) := by decide +kernel
theorem dX11_wipe_0 : decode cX11_wipe 0 = .ok (.aload_n 0, 1) := by decide +kernel
theorem dX11_wipe_1 : decode cX11_wipe 1 = .ok (.getfield 12, 3) := by decide +kernel
theorem dX11_wipe_4 : decode cX11_wipe 4 = .ok (.iconst 0, 1) := by decide +kernel
theorem dX11_wipe_5 : decode cX11_wipe 5 = .ok (.putfield 110, 3) := by decide +kernel
theorem dX11_wipe_8 : decode cX11_wipe 8 = .ok (.return_, 1) := by decide +kernel
theorem dX12_about_0 : decode cX12_about 0 = .ok (.aload_n 0, 1) := by decide +kernel
theorem dX12_about_1 : decode cX12_about 1 = .ok (.iconst 0, 1) := by decide +kernel
theorem dX12_about_2 : decode cX12_about 2 = .ok (.putfield 388, 3) := by decide +kernel
theorem dX12_about_5 : decode cX12_about 5 = .ok (.iconst 0, 1) := by decide +kernel
theorem dX12_about_6 : decode cX12_about 6 = .ok (.istore_n 2, 1) := by decide +kernel
theorem dX12_about_7 : decode cX12_about 7 = .ok (.iconst 0, 1) := by decide +kernel
theorem dX12_about_8 : decode cX12_about 8 = .ok (.istore_n 3, 1) := by decide +kernel
theorem dX12_about_9 : decode cX12_about 9 = .ok (.iload_n 3, 1) := by decide +kernel
theorem dX12_about_10 : decode cX12_about 10 = .ok (.aload_n 0, 1) := by decide +kernel
theorem dX12_about_11 : decode cX12_about 11 = .ok (.getfield 435, 3) := by decide +kernel
theorem dX12_about_14 : decode cX12_about 14 = .ok (.if_icmp .ge 26, 3) := by decide +kernel
theorem dX12_about_17 : decode cX12_about 17 = .ok (.iload_n 2, 1) := by decide +kernel
theorem dX12_about_18 : decode cX12_about 18 = .ok (.aload_n 0, 1) := by decide +kernel
theorem dX12_about_19 : decode cX12_about 19 = .ok (.getfield 134, 3) := by decide +kernel
theorem dX12_about_22 : decode cX12_about 22 = .ok (.iload_n 3, 1) := by decide +kernel
theorem dX12_about_23 : decode cX12_about 23 = .ok (.baload, 1) := by decide +kernel
theorem dX12_about_24 : decode cX12_about 24 = .ok (.ifCond .eq 7, 3) := by decide +kernel
theorem dX12_about_27 : decode cX12_about 27 = .ok (.iconst 1, 1) := by decide +kernel
theorem dX12_about_28 : decode cX12_about 28 = .ok (.goto 4, 3) := by decide +kernel
theorem dX12_about_31 : decode cX12_about 31 = .ok (.iconst 0, 1) := by decide +kernel
theorem dX12_about_32 : decode cX12_about 32 = .ok (.iadd, 1) := by decide +kernel
theorem dX12_about_33 : decode cX12_about 33 = .ok (.istore_n 2, 1) := by decide +kernel
theorem dX12_about_34 : decode cX12_about 34 = .ok (.iinc 3 1, 3) := by decide +kernel
theorem dX12_about_37 : decode cX12_about 37 = .ok (.goto (-28), 3) := by decide +kernel
theorem dX12_about_40 : decode cX12_about 40 = .ok (.iload_n 1, 1) := by decide +kernel
theorem dX12_about_41 : decode cX12_about 41 = .ok (.tableswitch 129 0 12 #[67, 72, 77, 79, 84, 89, 94, 99, 104, 109, 114, 119, 124], 67) := by decide +kernel
theorem dX12_about_108 : decode cX12_about 108 = .ok (.aload_n 0, 1) := by decide +kernel
theorem dX12_about_109 : decode cX12_about 109 = .ok (.getfield 391, 3) := by decide +kernel
theorem dX12_about_112 : decode cX12_about 112 = .ok (.ireturn, 1) := by decide +kernel
theorem dX12_about_113 : decode cX12_about 113 = .ok (.aload_n 0, 1) := by decide +kernel
theorem dX12_about_114 : decode cX12_about 114 = .ok (.getfield 413, 3) := by decide +kernel
theorem dX12_about_117 : decode cX12_about 117 = .ok (.ireturn, 1) := by decide +kernel
theorem dX12_about_118 : decode cX12_about 118 = .ok (.iload_n 2, 1) := by decide +kernel
theorem dX12_about_119 : decode cX12_about 119 = .ok (.ireturn, 1) := by decide +kernel
theorem dX12_about_120 : decode cX12_about 120 = .ok (.aload_n 0, 1) := by decide +kernel
theorem dX12_about_121 : decode cX12_about 121 = .ok (.getfield 461, 3) := by decide +kernel
theorem dX12_about_124 : decode cX12_about 124 = .ok (.ireturn, 1) := by decide +kernel
theorem dX12_about_125 : decode cX12_about 125 = .ok (.aload_n 0, 1) := by decide +kernel
theorem dX12_about_126 : decode cX12_about 126 = .ok (.getfield 470, 3) := by decide +kernel
theorem dX12_about_129 : decode cX12_about 129 = .ok (.ireturn, 1) := by decide +kernel
theorem dX12_about_130 : decode cX12_about 130 = .ok (.aload_n 0, 1) := by decide +kernel
theorem dX12_about_131 : decode cX12_about 131 = .ok (.getfield 482, 3) := by decide +kernel
theorem dX12_about_134 : decode cX12_about 134 = .ok (.ireturn, 1) := by decide +kernel
theorem dX12_about_135 : decode cX12_about 135 = .ok (.aload_n 0, 1) := by decide +kernel
theorem dX12_about_136 : decode cX12_about 136 = .ok (.getfield 479, 3) := by decide +kernel
theorem dX12_about_139 : decode cX12_about 139 = .ok (.ireturn, 1) := by decide +kernel
theorem dX12_about_140 : decode cX12_about 140 = .ok (.aload_n 0, 1) := by decide +kernel
theorem dX12_about_141 : decode cX12_about 141 = .ok (.getfield 1030, 3) := by decide +kernel
theorem dX12_about_144 : decode cX12_about 144 = .ok (.ireturn, 1) := by decide +kernel
theorem dX12_about_145 : decode cX12_about 145 = .ok (.aload_n 0, 1) := by decide +kernel
theorem dX12_about_146 : decode cX12_about 146 = .ok (.getfield 1027, 3) := by decide +kernel
theorem dX12_about_149 : decode cX12_about 149 = .ok (.ireturn, 1) := by decide +kernel
theorem dX12_about_150 : decode cX12_about 150 = .ok (.aload_n 0, 1) := by decide +kernel
theorem dX12_about_151 : decode cX12_about 151 = .ok (.getfield 485, 3) := by decide +kernel
theorem dX12_about_154 : decode cX12_about 154 = .ok (.ireturn, 1) := by decide +kernel
theorem dX12_about_155 : decode cX12_about 155 = .ok (.aload_n 0, 1) := by decide +kernel
theorem dX12_about_156 : decode cX12_about 156 = .ok (.getfield 872, 3) := by decide +kernel
theorem dX12_about_159 : decode cX12_about 159 = .ok (.ireturn, 1) := by decide +kernel
theorem dX12_about_160 : decode cX12_about 160 = .ok (.aload_n 0, 1) := by decide +kernel
theorem dX12_about_161 : decode cX12_about 161 = .ok (.getfield 852, 3) := by decide +kernel
theorem dX12_about_164 : decode cX12_about 164 = .ok (.ireturn, 1) := by decide +kernel
theorem dX12_about_165 : decode cX12_about 165 = .ok (.aload_n 0, 1) := by decide +kernel
theorem dX12_about_166 : decode cX12_about 166 = .ok (.getfield 905, 3) := by decide +kernel
theorem dX12_about_169 : decode cX12_about 169 = .ok (.ireturn, 1) := by decide +kernel
theorem dX12_about_170 : decode cX12_about 170 = .ok (.iconst (-1), 1) := by decide +kernel
theorem dX12_about_171 : decode cX12_about 171 = .ok (.ireturn, 1) := by decide +kernel
theorem dX12_add_0 : decode cX12_add 0 = .ok (.aload_n 0, 1) := by decide +kernel
theorem dX12_add_1 : decode cX12_add 1 = .ok (.getfield 435, 3) := by decide +kernel
theorem dX12_add_4 : decode cX12_add 4 = .ok (.istore_n 3, 1) := by decide +kernel
theorem dX12_add_5 : decode cX12_add 5 = .ok (.aload_n 0, 1) := by decide +kernel
theorem dX12_add_6 : decode cX12_add 6 = .ok (.dup, 1) := by decide +kernel
theorem dX12_add_7 : decode cX12_add 7 = .ok (.getfield 435, 3) := by decide +kernel
theorem dX12_add_10 : decode cX12_add 10 = .ok (.iconst 1, 1) := by decide +kernel
theorem dX12_add_11 : decode cX12_add 11 = .ok (.iadd, 1) := by decide +kernel
theorem dX12_add_12 : decode cX12_add 12 = .ok (.putfield 435, 3) := by decide +kernel
theorem dX12_add_15 : decode cX12_add 15 = .ok (.aload_n 0, 1) := by decide +kernel
theorem dX12_add_16 : decode cX12_add 16 = .ok (.getfield 125, 3) := by decide +kernel
theorem dX12_add_19 : decode cX12_add 19 = .ok (.iload_n 3, 1) := by decide +kernel
theorem dX12_add_20 : decode cX12_add 20 = .ok (.iload_n 1, 1) := by decide +kernel
theorem dX12_add_21 : decode cX12_add 21 = .ok (.iastore, 1) := by decide +kernel
theorem dX12_add_22 : decode cX12_add 22 = .ok (.aload_n 0, 1) := by decide +kernel
theorem dX12_add_23 : decode cX12_add 23 = .ok (.getfield 128, 3) := by decide +kernel
theorem dX12_add_26 : decode cX12_add 26 = .ok (.iload_n 3, 1) := by decide +kernel
theorem dX12_add_27 : decode cX12_add 27 = .ok (.aload_n 0, 1) := by decide +kernel
theorem dX12_add_28 : decode cX12_add 28 = .ok (.iload_n 1, 1) := by decide +kernel
theorem dX12_add_29 : decode cX12_add 29 = .ok (.invokevirtual 416, 3) := by decide +kernel
theorem dX12_add_32 : decode cX12_add 32 = .ok (.ifCond .eq 7, 3) := by decide +kernel
theorem dX12_add_35 : decode cX12_add 35 = .ok (.iconst 0, 1) := by decide +kernel
theorem dX12_add_36 : decode cX12_add 36 = .ok (.goto 4, 3) := by decide +kernel
theorem dX12_add_39 : decode cX12_add 39 = .ok (.iload_n 2, 1) := by decide +kernel
theorem dX12_add_40 : decode cX12_add 40 = .ok (.iastore, 1) := by decide +kernel
theorem dX12_add_41 : decode cX12_add 41 = .ok (.aload_n 0, 1) := by decide +kernel
theorem dX12_add_42 : decode cX12_add 42 = .ok (.getfield 131, 3) := by decide +kernel
theorem dX12_add_45 : decode cX12_add 45 = .ok (.iload_n 3, 1) := by decide +kernel
theorem dX12_add_46 : decode cX12_add 46 = .ok (.aload_n 0, 1) := by decide +kernel
theorem dX12_add_47 : decode cX12_add 47 = .ok (.getfield 452, 3) := by decide +kernel
theorem dX12_add_50 : decode cX12_add 50 = .ok (.iastore, 1) := by decide +kernel
theorem dX12_add_51 : decode cX12_add 51 = .ok (.aload_n 0, 1) := by decide +kernel
theorem dX12_add_52 : decode cX12_add 52 = .ok (.getfield 134, 3) := by decide +kernel
theorem dX12_add_55 : decode cX12_add 55 = .ok (.iload_n 3, 1) := by decide +kernel
theorem dX12_add_56 : decode cX12_add 56 = .ok (.iconst 1, 1) := by decide +kernel
theorem dX12_add_57 : decode cX12_add 57 = .ok (.bastore, 1) := by decide +kernel
theorem dX12_add_58 : decode cX12_add 58 = .ok (.aload_n 0, 1) := by decide +kernel
theorem dX12_add_59 : decode cX12_add 59 = .ok (.iload_n 1, 1) := by decide +kernel
theorem dX12_add_60 : decode cX12_add 60 = .ok (.iload_n 2, 1) := by decide +kernel
theorem dX12_add_61 : decode cX12_add 61 = .ok (.invokevirtual 455, 3) := by decide +kernel
theorem dX12_add_64 : decode cX12_add 64 = .ok (.istore 4, 2) := by decide +kernel
theorem dX12_add_66 : decode cX12_add 66 = .ok (.iconst 0, 1) := by decide +kernel
theorem dX12_add_67 : decode cX12_add 67 = .ok (.istore 5, 2) := by decide +kernel
theorem dX12_add_69 : decode cX12_add 69 = .ok (.iload 5, 2) := by decide +kernel
theorem dX12_add_71 : decode cX12_add 71 = .ok (.iload 4, 2) := by decide +kernel
theorem dX12_add_73 : decode cX12_add 73 = .ok (.if_icmp .ge 39, 3) := by decide +kernel
theorem dX12_add_76 : decode cX12_add 76 = .ok (.aload_n 0, 1) := by decide +kernel
theorem dX12_add_77 : decode cX12_add 77 = .ok (.getfield 138, 3) := by decide +kernel
theorem dX12_add_80 : decode cX12_add 80 = .ok (.aload_n 0, 1) := by decide +kernel
theorem dX12_add_81 : decode cX12_add 81 = .ok (.getfield 452, 3) := by decide +kernel
theorem dX12_add_84 : decode cX12_add 84 = .ok (.iload 5, 2) := by decide +kernel
theorem dX12_add_86 : decode cX12_add 86 = .ok (.iadd, 1) := by decide +kernel
theorem dX12_add_87 : decode cX12_add 87 = .ok (.aload_n 0, 1) := by decide +kernel
theorem dX12_add_88 : decode cX12_add 88 = .ok (.iload_n 1, 1) := by decide +kernel
theorem dX12_add_89 : decode cX12_add 89 = .ok (.iload 5, 2) := by decide +kernel
theorem dX12_add_91 : decode cX12_add 91 = .ok (.invokevirtual 458, 3) := by decide +kernel
theorem dX12_add_94 : decode cX12_add 94 = .ok (.iconst 5, 1) := by decide +kernel
theorem dX12_add_95 : decode cX12_add 95 = .ok (.if_icmp .ne 9, 3) := by decide +kernel
theorem dX12_add_98 : decode cX12_add 98 = .ok (.ldc2_w 433, 3) := by decide +kernel
theorem dX12_add_101 : decode cX12_add 101 = .ok (.goto 4, 3) := by decide +kernel
theorem dX12_add_104 : decode cX12_add 104 = .ok (.lconst 0, 1) := by decide +kernel
theorem dX12_add_105 : decode cX12_add 105 = .ok (.lastore, 1) := by decide +kernel
theorem dX12_add_106 : decode cX12_add 106 = .ok (.iinc 5 1, 3) := by decide +kernel
theorem dX12_add_109 : decode cX12_add 109 = .ok (.goto (-40), 3) := by decide +kernel
theorem dX12_add_112 : decode cX12_add 112 = .ok (.aload_n 0, 1) := by decide +kernel
theorem dX12_add_113 : decode cX12_add 113 = .ok (.dup, 1) := by decide +kernel
theorem dX12_add_114 : decode cX12_add 114 = .ok (.getfield 452, 3) := by decide +kernel
theorem dX12_add_117 : decode cX12_add 117 = .ok (.iload 4, 2) := by decide +kernel
theorem dX12_add_119 : decode cX12_add 119 = .ok (.iadd, 1) := by decide +kernel
theorem dX12_add_120 : decode cX12_add 120 = .ok (.putfield 452, 3) := by decide +kernel
theorem dX12_add_123 : decode cX12_add 123 = .ok (.aload_n 0, 1) := by decide +kernel
theorem dX12_add_124 : decode cX12_add 124 = .ok (.dup, 1) := by decide +kernel
theorem dX12_add_125 : decode cX12_add 125 = .ok (.getfield 461, 3) := by decide +kernel
theorem dX12_add_128 : decode cX12_add 128 = .ok (.iload 4, 2) := by decide +kernel
theorem dX12_add_130 : decode cX12_add 130 = .ok (.iadd, 1) := by decide +kernel
theorem dX12_add_131 : decode cX12_add 131 = .ok (.putfield 461, 3) := by decide +kernel
theorem dX12_add_134 : decode cX12_add 134 = .ok (.iload_n 3, 1) := by decide +kernel
theorem dX12_add_135 : decode cX12_add 135 = .ok (.ireturn, 1) := by decide +kernel
theorem dX12_addRoot_0 : decode cX12_addRoot 0 = .ok (.aload_n 0, 1) := by decide +kernel
theorem dX12_addRoot_1 : decode cX12_addRoot 1 = .ok (.getfield 237, 3) := by decide +kernel
theorem dX12_addRoot_4 : decode cX12_addRoot 4 = .ok (.sipush 128, 3) := by decide +kernel
theorem dX12_addRoot_7 : decode cX12_addRoot 7 = .ok (.iload_n 1, 1) := by decide +kernel
theorem dX12_addRoot_8 : decode cX12_addRoot 8 = .ok (.imul, 1) := by decide +kernel
theorem dX12_addRoot_9 : decode cX12_addRoot 9 = .ok (.aload_n 0, 1) := by decide +kernel
theorem dX12_addRoot_10 : decode cX12_addRoot 10 = .ok (.getfield 234, 3) := by decide +kernel
theorem dX12_addRoot_13 : decode cX12_addRoot 13 = .ok (.iload_n 1, 1) := by decide +kernel
theorem dX12_addRoot_14 : decode cX12_addRoot 14 = .ok (.iaload, 1) := by decide +kernel
theorem dX12_addRoot_15 : decode cX12_addRoot 15 = .ok (.iadd, 1) := by decide +kernel
theorem dX12_addRoot_16 : decode cX12_addRoot 16 = .ok (.iload_n 2, 1) := by decide +kernel
theorem dX12_addRoot_17 : decode cX12_addRoot 17 = .ok (.iastore, 1) := by decide +kernel
theorem dX12_addRoot_18 : decode cX12_addRoot 18 = .ok (.aload_n 0, 1) := by decide +kernel
theorem dX12_addRoot_19 : decode cX12_addRoot 19 = .ok (.getfield 240, 3) := by decide +kernel
theorem dX12_addRoot_22 : decode cX12_addRoot 22 = .ok (.sipush 128, 3) := by decide +kernel
theorem dX12_addRoot_25 : decode cX12_addRoot 25 = .ok (.iload_n 1, 1) := by decide +kernel
theorem dX12_addRoot_26 : decode cX12_addRoot 26 = .ok (.imul, 1) := by decide +kernel
theorem dX12_addRoot_27 : decode cX12_addRoot 27 = .ok (.aload_n 0, 1) := by decide +kernel
theorem dX12_addRoot_28 : decode cX12_addRoot 28 = .ok (.getfield 234, 3) := by decide +kernel
theorem dX12_addRoot_31 : decode cX12_addRoot 31 = .ok (.iload_n 1, 1) := by decide +kernel
theorem dX12_addRoot_32 : decode cX12_addRoot 32 = .ok (.iaload, 1) := by decide +kernel
theorem dX12_addRoot_33 : decode cX12_addRoot 33 = .ok (.iadd, 1) := by decide +kernel
theorem dX12_addRoot_34 : decode cX12_addRoot 34 = .ok (.iload_n 3, 1) := by decide +kernel
theorem dX12_addRoot_35 : decode cX12_addRoot 35 = .ok (.iastore, 1) := by decide +kernel
theorem dX12_addRoot_36 : decode cX12_addRoot 36 = .ok (.aload_n 0, 1) := by decide +kernel
theorem dX12_addRoot_37 : decode cX12_addRoot 37 = .ok (.getfield 234, 3) := by decide +kernel
theorem dX12_addRoot_40 : decode cX12_addRoot 40 = .ok (.iload_n 1, 1) := by decide +kernel
theorem dX12_addRoot_41 : decode cX12_addRoot 41 = .ok (.dup2, 1) := by decide +kernel
theorem dX12_addRoot_42 : decode cX12_addRoot 42 = .ok (.iaload, 1) := by decide +kernel
theorem dX12_addRoot_43 : decode cX12_addRoot 43 = .ok (.iconst 1, 1) := by decide +kernel
theorem dX12_addRoot_44 : decode cX12_addRoot 44 = .ok (.iadd, 1) := by decide +kernel
theorem dX12_addRoot_45 : decode cX12_addRoot 45 = .ok (.iastore, 1) := by decide +kernel
theorem dX12_addRoot_46 : decode cX12_addRoot 46 = .ok (.return_, 1) := by decide +kernel
theorem dX12_advance_0 : decode cX12_advance 0 = .ok (.aload_n 0, 1) := by decide +kernel
theorem dX12_advance_1 : decode cX12_advance 1 = .ok (.aload_n 0, 1) := by decide +kernel
theorem dX12_advance_2 : decode cX12_advance 2 = .ok (.getfield 631, 3) := by decide +kernel
theorem dX12_advance_5 : decode cX12_advance 5 = .ok (.invokevirtual 634, 3) := by decide +kernel
theorem dX12_advance_8 : decode cX12_advance 8 = .ok (.istore_n 1, 1) := by decide +kernel
theorem dX12_advance_9 : decode cX12_advance 9 = .ok (.iload_n 1, 1) := by decide +kernel
theorem dX12_advance_10 : decode cX12_advance 10 = .ok (.bipush 9, 2) := by decide +kernel
theorem dX12_advance_12 : decode cX12_advance 12 = .ok (.if_icmp .eq 21, 3) := by decide +kernel
theorem dX12_advance_15 : decode cX12_advance 15 = .ok (.iload_n 1, 1) := by decide +kernel
theorem dX12_advance_16 : decode cX12_advance 16 = .ok (.bipush 10, 2) := by decide +kernel
theorem dX12_advance_18 : decode cX12_advance 18 = .ok (.if_icmp .eq 15, 3) := by decide +kernel
theorem dX12_advance_21 : decode cX12_advance 21 = .ok (.iload_n 1, 1) := by decide +kernel
theorem dX12_advance_22 : decode cX12_advance 22 = .ok (.bipush 13, 2) := by decide +kernel
theorem dX12_advance_24 : decode cX12_advance 24 = .ok (.if_icmp .eq 9, 3) := by decide +kernel
theorem dX12_advance_27 : decode cX12_advance 27 = .ok (.iload_n 1, 1) := by decide +kernel
theorem dX12_advance_28 : decode cX12_advance 28 = .ok (.bipush 32, 2) := by decide +kernel
theorem dX12_advance_30 : decode cX12_advance 30 = .ok (.if_icmp .ne 25, 3) := by decide +kernel
theorem dX12_advance_33 : decode cX12_advance 33 = .ok (.aload_n 0, 1) := by decide +kernel
theorem dX12_advance_34 : decode cX12_advance 34 = .ok (.dup, 1) := by decide +kernel
theorem dX12_advance_35 : decode cX12_advance 35 = .ok (.getfield 631, 3) := by decide +kernel
theorem dX12_advance_38 : decode cX12_advance 38 = .ok (.iconst 1, 1) := by decide +kernel
theorem dX12_advance_39 : decode cX12_advance 39 = .ok (.iadd, 1) := by decide +kernel
theorem dX12_advance_40 : decode cX12_advance 40 = .ok (.putfield 631, 3) := by decide +kernel
theorem dX12_advance_43 : decode cX12_advance 43 = .ok (.aload_n 0, 1) := by decide +kernel
theorem dX12_advance_44 : decode cX12_advance 44 = .ok (.aload_n 0, 1) := by decide +kernel
theorem dX12_advance_45 : decode cX12_advance 45 = .ok (.getfield 631, 3) := by decide +kernel
theorem dX12_advance_48 : decode cX12_advance 48 = .ok (.invokevirtual 634, 3) := by decide +kernel
theorem dX12_advance_51 : decode cX12_advance 51 = .ok (.istore_n 1, 1) := by decide +kernel
theorem dX12_advance_52 : decode cX12_advance 52 = .ok (.goto (-43), 3) := by decide +kernel
theorem dX12_advance_55 : decode cX12_advance 55 = .ok (.aload_n 0, 1) := by decide +kernel
theorem dX12_advance_56 : decode cX12_advance 56 = .ok (.aload_n 0, 1) := by decide +kernel
theorem dX12_advance_57 : decode cX12_advance 57 = .ok (.getfield 631, 3) := by decide +kernel
theorem dX12_advance_60 : decode cX12_advance 60 = .ok (.putfield 637, 3) := by decide +kernel
theorem dX12_advance_63 : decode cX12_advance 63 = .ok (.aload_n 0, 1) := by decide +kernel
theorem dX12_advance_64 : decode cX12_advance 64 = .ok (.lconst 0, 1) := by decide +kernel
theorem dX12_advance_65 : decode cX12_advance 65 = .ok (.putfield 640, 3) := by decide +kernel
theorem dX12_advance_68 : decode cX12_advance 68 = .ok (.iload_n 1, 1) := by decide +kernel
theorem dX12_advance_69 : decode cX12_advance 69 = .ok (.iconst (-1), 1) := by decide +kernel
theorem dX12_advance_70 : decode cX12_advance 70 = .ok (.if_icmp .ne 11, 3) := by decide +kernel
theorem dX12_advance_73 : decode cX12_advance 73 = .ok (.aload_n 0, 1) := by decide +kernel
theorem dX12_advance_74 : decode cX12_advance 74 = .ok (.iconst 0, 1) := by decide +kernel
theorem dX12_advance_75 : decode cX12_advance 75 = .ok (.putfield 644, 3) := by decide +kernel
theorem dX12_advance_78 : decode cX12_advance 78 = .ok (.goto 426, 3) := by decide +kernel
theorem dX12_advance_81 : decode cX12_advance 81 = .ok (.iload_n 1, 1) := by decide +kernel
theorem dX12_advance_82 : decode cX12_advance 82 = .ok (.invokestatic 406, 3) := by decide +kernel
theorem dX12_advance_85 : decode cX12_advance 85 = .ok (.ifCond .eq 113, 3) := by decide +kernel
theorem dX12_advance_88 : decode cX12_advance 88 = .ok (.aload_n 0, 1) := by decide +kernel
theorem dX12_advance_89 : decode cX12_advance 89 = .ok (.aload_n 0, 1) := by decide +kernel
theorem dX12_advance_90 : decode cX12_advance 90 = .ok (.getfield 631, 3) := by decide +kernel
theorem dX12_advance_93 : decode cX12_advance 93 = .ok (.invokevirtual 634, 3) := by decide +kernel
theorem dX12_advance_96 : decode cX12_advance 96 = .ok (.invokestatic 406, 3) := by decide +kernel
theorem dX12_advance_99 : decode cX12_advance 99 = .ok (.ifCond .ne 17, 3) := by decide +kernel
theorem dX12_advance_102 : decode cX12_advance 102 = .ok (.aload_n 0, 1) := by decide +kernel
theorem dX12_advance_103 : decode cX12_advance 103 = .ok (.aload_n 0, 1) := by decide +kernel
theorem dX12_advance_104 : decode cX12_advance 104 = .ok (.getfield 631, 3) := by decide +kernel
theorem dX12_advance_107 : decode cX12_advance 107 = .ok (.invokevirtual 634, 3) := by decide +kernel
theorem dX12_advance_110 : decode cX12_advance 110 = .ok (.invokestatic 394, 3) := by decide +kernel
theorem dX12_advance_113 : decode cX12_advance 113 = .ok (.ifCond .eq 59, 3) := by decide +kernel
theorem dX12_advance_116 : decode cX12_advance 116 = .ok (.aload_n 0, 1) := by decide +kernel
theorem dX12_advance_117 : decode cX12_advance 117 = .ok (.aload_n 0, 1) := by decide +kernel
theorem dX12_advance_118 : decode cX12_advance 118 = .ok (.getfield 631, 3) := by decide +kernel
theorem dX12_advance_121 : decode cX12_advance 121 = .ok (.aload_n 0, 1) := by decide +kernel
theorem dX12_advance_122 : decode cX12_advance 122 = .ok (.getfield 637, 3) := by decide +kernel
theorem dX12_advance_125 : decode cX12_advance 125 = .ok (.isub, 1) := by decide +kernel
theorem dX12_advance_126 : decode cX12_advance 126 = .ok (.bipush 10, 2) := by decide +kernel
theorem dX12_advance_128 : decode cX12_advance 128 = .ok (.if_icmp .ge 27, 3) := by decide +kernel
theorem dX12_advance_131 : decode cX12_advance 131 = .ok (.ldc2_w 400, 3) := by decide +kernel
theorem dX12_advance_134 : decode cX12_advance 134 = .ok (.aload_n 0, 1) := by decide +kernel
theorem dX12_advance_135 : decode cX12_advance 135 = .ok (.getfield 640, 3) := by decide +kernel
theorem dX12_advance_138 : decode cX12_advance 138 = .ok (.lmul, 1) := by decide +kernel
theorem dX12_advance_139 : decode cX12_advance 139 = .ok (.aload_n 0, 1) := by decide +kernel
theorem dX12_advance_140 : decode cX12_advance 140 = .ok (.aload_n 0, 1) := by decide +kernel
theorem dX12_advance_141 : decode cX12_advance 141 = .ok (.getfield 631, 3) := by decide +kernel
theorem dX12_advance_144 : decode cX12_advance 144 = .ok (.invokevirtual 634, 3) := by decide +kernel
theorem dX12_advance_147 : decode cX12_advance 147 = .ok (.invokestatic 402, 3) := by decide +kernel
theorem dX12_advance_150 : decode cX12_advance 150 = .ok (.i2l, 1) := by decide +kernel
theorem dX12_advance_151 : decode cX12_advance 151 = .ok (.ladd, 1) := by decide +kernel
theorem dX12_advance_152 : decode cX12_advance 152 = .ok (.goto 4, 3) := by decide +kernel
theorem dX12_advance_155 : decode cX12_advance 155 = .ok (.lconst 0, 1) := by decide +kernel
theorem dX12_advance_156 : decode cX12_advance 156 = .ok (.putfield 640, 3) := by decide +kernel
theorem dX12_advance_159 : decode cX12_advance 159 = .ok (.aload_n 0, 1) := by decide +kernel
theorem dX12_advance_160 : decode cX12_advance 160 = .ok (.dup, 1) := by decide +kernel
theorem dX12_advance_161 : decode cX12_advance 161 = .ok (.getfield 631, 3) := by decide +kernel
theorem dX12_advance_164 : decode cX12_advance 164 = .ok (.iconst 1, 1) := by decide +kernel
theorem dX12_advance_165 : decode cX12_advance 165 = .ok (.iadd, 1) := by decide +kernel
theorem dX12_advance_166 : decode cX12_advance 166 = .ok (.putfield 631, 3) := by decide +kernel
theorem dX12_advance_169 : decode cX12_advance 169 = .ok (.goto (-81), 3) := by decide +kernel
theorem dX12_advance_172 : decode cX12_advance 172 = .ok (.aload_n 0, 1) := by decide +kernel
theorem dX12_advance_173 : decode cX12_advance 173 = .ok (.aload_n 0, 1) := by decide +kernel
theorem dX12_advance_174 : decode cX12_advance 174 = .ok (.getfield 631, 3) := by decide +kernel
theorem dX12_advance_177 : decode cX12_advance 177 = .ok (.aload_n 0, 1) := by decide +kernel
theorem dX12_advance_178 : decode cX12_advance 178 = .ok (.getfield 637, 3) := by decide +kernel
theorem dX12_advance_181 : decode cX12_advance 181 = .ok (.isub, 1) := by decide +kernel
theorem dX12_advance_182 : decode cX12_advance 182 = .ok (.bipush 10, 2) := by decide +kernel
theorem dX12_advance_184 : decode cX12_advance 184 = .ok (.if_icmp .le 7, 3) := by decide +kernel
theorem dX12_advance_187 : decode cX12_advance 187 = .ok (.iconst 4, 1) := by decide +kernel
theorem dX12_advance_188 : decode cX12_advance 188 = .ok (.goto 4, 3) := by decide +kernel
theorem dX12_advance_191 : decode cX12_advance 191 = .ok (.iconst 1, 1) := by decide +kernel
theorem dX12_advance_192 : decode cX12_advance 192 = .ok (.putfield 644, 3) := by decide +kernel
theorem dX12_advance_195 : decode cX12_advance 195 = .ok (.goto 309, 3) := by decide +kernel
theorem dX12_advance_198 : decode cX12_advance 198 = .ok (.iload_n 1, 1) := by decide +kernel
theorem dX12_advance_199 : decode cX12_advance 199 = .ok (.invokestatic 394, 3) := by decide +kernel
theorem dX12_advance_202 : decode cX12_advance 202 = .ok (.ifCond .eq 100, 3) := by decide +kernel
theorem dX12_advance_205 : decode cX12_advance 205 = .ok (.aload_n 0, 1) := by decide +kernel
theorem dX12_advance_206 : decode cX12_advance 206 = .ok (.aload_n 0, 1) := by decide +kernel
theorem dX12_advance_207 : decode cX12_advance 207 = .ok (.getfield 631, 3) := by decide +kernel
theorem dX12_advance_210 : decode cX12_advance 210 = .ok (.invokevirtual 634, 3) := by decide +kernel
theorem dX12_advance_213 : decode cX12_advance 213 = .ok (.invokestatic 394, 3) := by decide +kernel
theorem dX12_advance_216 : decode cX12_advance 216 = .ok (.ifCond .eq 60, 3) := by decide +kernel
theorem dX12_advance_219 : decode cX12_advance 219 = .ok (.aload_n 0, 1) := by decide +kernel
theorem dX12_advance_220 : decode cX12_advance 220 = .ok (.aload_n 0, 1) := by decide +kernel
theorem dX12_advance_221 : decode cX12_advance 221 = .ok (.getfield 631, 3) := by decide +kernel
theorem dX12_advance_224 : decode cX12_advance 224 = .ok (.aload_n 0, 1) := by decide +kernel
theorem dX12_advance_225 : decode cX12_advance 225 = .ok (.getfield 637, 3) := by decide +kernel
theorem dX12_advance_228 : decode cX12_advance 228 = .ok (.isub, 1) := by decide +kernel
theorem dX12_advance_229 : decode cX12_advance 229 = .ok (.bipush 18, 2) := by decide +kernel
theorem dX12_advance_231 : decode cX12_advance 231 = .ok (.if_icmp .ge 28, 3) := by decide +kernel
theorem dX12_advance_234 : decode cX12_advance 234 = .ok (.ldc2_w 647, 3) := by decide +kernel
theorem dX12_advance_237 : decode cX12_advance 237 = .ok (.aload_n 0, 1) := by decide +kernel
theorem dX12_advance_238 : decode cX12_advance 238 = .ok (.getfield 640, 3) := by decide +kernel
theorem dX12_advance_241 : decode cX12_advance 241 = .ok (.lmul, 1) := by decide +kernel
theorem dX12_advance_242 : decode cX12_advance 242 = .ok (.aload_n 0, 1) := by decide +kernel
theorem dX12_advance_243 : decode cX12_advance 243 = .ok (.aload_n 0, 1) := by decide +kernel
theorem dX12_advance_244 : decode cX12_advance 244 = .ok (.getfield 631, 3) := by decide +kernel
theorem dX12_advance_247 : decode cX12_advance 247 = .ok (.invokevirtual 634, 3) := by decide +kernel
theorem dX12_advance_250 : decode cX12_advance 250 = .ok (.i2l, 1) := by decide +kernel
theorem dX12_advance_251 : decode cX12_advance 251 = .ok (.ladd, 1) := by decide +kernel
theorem dX12_advance_252 : decode cX12_advance 252 = .ok (.ldc2_w 649, 3) := by decide +kernel
theorem dX12_advance_255 : decode cX12_advance 255 = .ok (.lsub, 1) := by decide +kernel
theorem dX12_advance_256 : decode cX12_advance 256 = .ok (.goto 4, 3) := by decide +kernel
theorem dX12_advance_259 : decode cX12_advance 259 = .ok (.lconst 0, 1) := by decide +kernel
theorem dX12_advance_260 : decode cX12_advance 260 = .ok (.putfield 640, 3) := by decide +kernel
theorem dX12_advance_263 : decode cX12_advance 263 = .ok (.aload_n 0, 1) := by decide +kernel
theorem dX12_advance_264 : decode cX12_advance 264 = .ok (.dup, 1) := by decide +kernel
theorem dX12_advance_265 : decode cX12_advance 265 = .ok (.getfield 631, 3) := by decide +kernel
theorem dX12_advance_268 : decode cX12_advance 268 = .ok (.iconst 1, 1) := by decide +kernel
theorem dX12_advance_269 : decode cX12_advance 269 = .ok (.iadd, 1) := by decide +kernel
theorem dX12_advance_270 : decode cX12_advance 270 = .ok (.putfield 631, 3) := by decide +kernel
theorem dX12_advance_273 : decode cX12_advance 273 = .ok (.goto (-68), 3) := by decide +kernel
theorem dX12_advance_276 : decode cX12_advance 276 = .ok (.aload_n 0, 1) := by decide +kernel
theorem dX12_advance_277 : decode cX12_advance 277 = .ok (.aload_n 0, 1) := by decide +kernel
theorem dX12_advance_278 : decode cX12_advance 278 = .ok (.getfield 631, 3) := by decide +kernel
theorem dX12_advance_281 : decode cX12_advance 281 = .ok (.aload_n 0, 1) := by decide +kernel
theorem dX12_advance_282 : decode cX12_advance 282 = .ok (.getfield 637, 3) := by decide +kernel
theorem dX12_advance_285 : decode cX12_advance 285 = .ok (.isub, 1) := by decide +kernel
theorem dX12_advance_286 : decode cX12_advance 286 = .ok (.bipush 18, 2) := by decide +kernel
theorem dX12_advance_288 : decode cX12_advance 288 = .ok (.if_icmp .le 7, 3) := by decide +kernel
theorem dX12_advance_291 : decode cX12_advance 291 = .ok (.iconst 4, 1) := by decide +kernel
theorem dX12_advance_292 : decode cX12_advance 292 = .ok (.goto 4, 3) := by decide +kernel
theorem dX12_advance_295 : decode cX12_advance 295 = .ok (.iconst 2, 1) := by decide +kernel
theorem dX12_advance_296 : decode cX12_advance 296 = .ok (.putfield 644, 3) := by decide +kernel
theorem dX12_advance_299 : decode cX12_advance 299 = .ok (.goto 205, 3) := by decide +kernel
theorem dX12_advance_302 : decode cX12_advance 302 = .ok (.aload_n 0, 1) := by decide +kernel
theorem dX12_advance_303 : decode cX12_advance 303 = .ok (.aload_n 0, 1) := by decide +kernel
theorem dX12_advance_304 : decode cX12_advance 304 = .ok (.getfield 631, 3) := by decide +kernel
theorem dX12_advance_307 : decode cX12_advance 307 = .ok (.iconst 1, 1) := by decide +kernel
theorem dX12_advance_308 : decode cX12_advance 308 = .ok (.iadd, 1) := by decide +kernel
theorem dX12_advance_309 : decode cX12_advance 309 = .ok (.invokevirtual 634, 3) := by decide +kernel
theorem dX12_advance_312 : decode cX12_advance 312 = .ok (.istore_n 2, 1) := by decide +kernel
theorem dX12_advance_313 : decode cX12_advance 313 = .ok (.iload_n 1, 1) := by decide +kernel
theorem dX12_advance_314 : decode cX12_advance 314 = .ok (.bipush 33, 2) := by decide +kernel
theorem dX12_advance_316 : decode cX12_advance 316 = .ok (.if_icmp .eq 15, 3) := by decide +kernel
theorem dX12_advance_319 : decode cX12_advance 319 = .ok (.iload_n 1, 1) := by decide +kernel
theorem dX12_advance_320 : decode cX12_advance 320 = .ok (.bipush 60, 2) := by decide +kernel
theorem dX12_advance_322 : decode cX12_advance 322 = .ok (.if_icmp .eq 9, 3) := by decide +kernel
theorem dX12_advance_325 : decode cX12_advance 325 = .ok (.iload_n 1, 1) := by decide +kernel
theorem dX12_advance_326 : decode cX12_advance 326 = .ok (.bipush 62, 2) := by decide +kernel
theorem dX12_advance_328 : decode cX12_advance 328 = .ok (.if_icmp .ne 13, 3) := by decide +kernel
theorem dX12_advance_331 : decode cX12_advance 331 = .ok (.iload_n 2, 1) := by decide +kernel
theorem dX12_advance_332 : decode cX12_advance 332 = .ok (.bipush 61, 2) := by decide +kernel
theorem dX12_advance_334 : decode cX12_advance 334 = .ok (.if_icmp .ne 7, 3) := by decide +kernel
theorem dX12_advance_337 : decode cX12_advance 337 = .ok (.iconst 1, 1) := by decide +kernel
theorem dX12_advance_338 : decode cX12_advance 338 = .ok (.goto 4, 3) := by decide +kernel
theorem dX12_advance_341 : decode cX12_advance 341 = .ok (.iconst 0, 1) := by decide +kernel
theorem dX12_advance_342 : decode cX12_advance 342 = .ok (.istore_n 3, 1) := by decide +kernel
theorem dX12_advance_343 : decode cX12_advance 343 = .ok (.iload_n 1, 1) := by decide +kernel
theorem dX12_advance_344 : decode cX12_advance 344 = .ok (.bipush 40, 2) := by decide +kernel
theorem dX12_advance_346 : decode cX12_advance 346 = .ok (.if_icmp .eq 93, 3) := by decide +kernel
theorem dX12_advance_349 : decode cX12_advance 349 = .ok (.iload_n 1, 1) := by decide +kernel
theorem dX12_advance_350 : decode cX12_advance 350 = .ok (.bipush 41, 2) := by decide +kernel
theorem dX12_advance_352 : decode cX12_advance 352 = .ok (.if_icmp .eq 87, 3) := by decide +kernel
theorem dX12_advance_355 : decode cX12_advance 355 = .ok (.iload_n 1, 1) := by decide +kernel
theorem dX12_advance_356 : decode cX12_advance 356 = .ok (.bipush 91, 2) := by decide +kernel
theorem dX12_advance_358 : decode cX12_advance 358 = .ok (.if_icmp .eq 81, 3) := by decide +kernel
theorem dX12_advance_361 : decode cX12_advance 361 = .ok (.iload_n 1, 1) := by decide +kernel
theorem dX12_advance_362 : decode cX12_advance 362 = .ok (.bipush 93, 2) := by decide +kernel
theorem dX12_advance_364 : decode cX12_advance 364 = .ok (.if_icmp .eq 75, 3) := by decide +kernel
theorem dX12_advance_367 : decode cX12_advance 367 = .ok (.iload_n 1, 1) := by decide +kernel
theorem dX12_advance_368 : decode cX12_advance 368 = .ok (.bipush 46, 2) := by decide +kernel
theorem dX12_advance_370 : decode cX12_advance 370 = .ok (.if_icmp .eq 69, 3) := by decide +kernel
theorem dX12_advance_373 : decode cX12_advance 373 = .ok (.iload_n 1, 1) := by decide +kernel
theorem dX12_advance_374 : decode cX12_advance 374 = .ok (.bipush 44, 2) := by decide +kernel
theorem dX12_advance_376 : decode cX12_advance 376 = .ok (.if_icmp .eq 63, 3) := by decide +kernel
theorem dX12_advance_379 : decode cX12_advance 379 = .ok (.iload_n 1, 1) := by decide +kernel
theorem dX12_advance_380 : decode cX12_advance 380 = .ok (.bipush 58, 2) := by decide +kernel
theorem dX12_advance_382 : decode cX12_advance 382 = .ok (.if_icmp .eq 57, 3) := by decide +kernel
theorem dX12_advance_385 : decode cX12_advance 385 = .ok (.iload_n 1, 1) := by decide +kernel
theorem dX12_advance_386 : decode cX12_advance 386 = .ok (.bipush 59, 2) := by decide +kernel
theorem dX12_advance_388 : decode cX12_advance 388 = .ok (.if_icmp .eq 51, 3) := by decide +kernel
theorem dX12_advance_391 : decode cX12_advance 391 = .ok (.iload_n 1, 1) := by decide +kernel
theorem dX12_advance_392 : decode cX12_advance 392 = .ok (.bipush 61, 2) := by decide +kernel
theorem dX12_advance_394 : decode cX12_advance 394 = .ok (.if_icmp .eq 45, 3) := by decide +kernel
theorem dX12_advance_397 : decode cX12_advance 397 = .ok (.iload_n 1, 1) := by decide +kernel
theorem dX12_advance_398 : decode cX12_advance 398 = .ok (.bipush 60, 2) := by decide +kernel
theorem dX12_advance_400 : decode cX12_advance 400 = .ok (.if_icmp .eq 39, 3) := by decide +kernel
theorem dX12_advance_403 : decode cX12_advance 403 = .ok (.iload_n 1, 1) := by decide +kernel
theorem dX12_advance_404 : decode cX12_advance 404 = .ok (.bipush 62, 2) := by decide +kernel
theorem dX12_advance_406 : decode cX12_advance 406 = .ok (.if_icmp .eq 33, 3) := by decide +kernel
theorem dX12_advance_409 : decode cX12_advance 409 = .ok (.iload_n 1, 1) := by decide +kernel
theorem dX12_advance_410 : decode cX12_advance 410 = .ok (.bipush 43, 2) := by decide +kernel
theorem dX12_advance_412 : decode cX12_advance 412 = .ok (.if_icmp .eq 27, 3) := by decide +kernel
theorem dX12_advance_415 : decode cX12_advance 415 = .ok (.iload_n 1, 1) := by decide +kernel
theorem dX12_advance_416 : decode cX12_advance 416 = .ok (.bipush 45, 2) := by decide +kernel
theorem dX12_advance_418 : decode cX12_advance 418 = .ok (.if_icmp .eq 21, 3) := by decide +kernel
theorem dX12_advance_421 : decode cX12_advance 421 = .ok (.iload_n 1, 1) := by decide +kernel
theorem dX12_advance_422 : decode cX12_advance 422 = .ok (.bipush 42, 2) := by decide +kernel
theorem dX12_advance_424 : decode cX12_advance 424 = .ok (.if_icmp .eq 15, 3) := by decide +kernel
theorem dX12_advance_427 : decode cX12_advance 427 = .ok (.iload_n 1, 1) := by decide +kernel
theorem dX12_advance_428 : decode cX12_advance 428 = .ok (.bipush 47, 2) := by decide +kernel
theorem dX12_advance_430 : decode cX12_advance 430 = .ok (.if_icmp .eq 9, 3) := by decide +kernel
theorem dX12_advance_433 : decode cX12_advance 433 = .ok (.iload_n 1, 1) := by decide +kernel
theorem dX12_advance_434 : decode cX12_advance 434 = .ok (.bipush 37, 2) := by decide +kernel
theorem dX12_advance_436 : decode cX12_advance 436 = .ok (.if_icmp .ne 7, 3) := by decide +kernel
theorem dX12_advance_439 : decode cX12_advance 439 = .ok (.iconst 1, 1) := by decide +kernel
theorem dX12_advance_440 : decode cX12_advance 440 = .ok (.goto 4, 3) := by decide +kernel
theorem dX12_advance_443 : decode cX12_advance 443 = .ok (.iconst 0, 1) := by decide +kernel
theorem dX12_advance_444 : decode cX12_advance 444 = .ok (.istore 4, 2) := by decide +kernel
theorem dX12_advance_446 : decode cX12_advance 446 = .ok (.aload_n 0, 1) := by decide +kernel
theorem dX12_advance_447 : decode cX12_advance 447 = .ok (.iload_n 3, 1) := by decide +kernel
theorem dX12_advance_448 : decode cX12_advance 448 = .ok (.ifCond .ne 8, 3) := by decide +kernel
theorem dX12_advance_451 : decode cX12_advance 451 = .ok (.iload 4, 2) := by decide +kernel
theorem dX12_advance_453 : decode cX12_advance 453 = .ok (.ifCond .eq 7, 3) := by decide +kernel
theorem dX12_advance_456 : decode cX12_advance 456 = .ok (.iconst 3, 1) := by decide +kernel
theorem dX12_advance_457 : decode cX12_advance 457 = .ok (.goto 4, 3) := by decide +kernel
theorem dX12_advance_460 : decode cX12_advance 460 = .ok (.iconst 4, 1) := by decide +kernel
theorem dX12_advance_461 : decode cX12_advance 461 = .ok (.putfield 644, 3) := by decide +kernel
theorem dX12_advance_464 : decode cX12_advance 464 = .ok (.aload_n 0, 1) := by decide +kernel
theorem dX12_advance_465 : decode cX12_advance 465 = .ok (.iload_n 3, 1) := by decide +kernel
theorem dX12_advance_466 : decode cX12_advance 466 = .ok (.ifCond .eq 15, 3) := by decide +kernel
theorem dX12_advance_469 : decode cX12_advance 469 = .ok (.ldc2_w 651, 3) := by decide +kernel
theorem dX12_advance_472 : decode cX12_advance 472 = .ok (.iload_n 1, 1) := by decide +kernel
theorem dX12_advance_473 : decode cX12_advance 473 = .ok (.i2l, 1) := by decide +kernel
theorem dX12_advance_474 : decode cX12_advance 474 = .ok (.lmul, 1) := by decide +kernel
theorem dX12_advance_475 : decode cX12_advance 475 = .ok (.iload_n 2, 1) := by decide +kernel
theorem dX12_advance_476 : decode cX12_advance 476 = .ok (.i2l, 1) := by decide +kernel
theorem dX12_advance_477 : decode cX12_advance 477 = .ok (.ladd, 1) := by decide +kernel
theorem dX12_advance_478 : decode cX12_advance 478 = .ok (.goto 5, 3) := by decide +kernel
theorem dX12_advance_481 : decode cX12_advance 481 = .ok (.iload_n 1, 1) := by decide +kernel
theorem dX12_advance_482 : decode cX12_advance 482 = .ok (.i2l, 1) := by decide +kernel
theorem dX12_advance_483 : decode cX12_advance 483 = .ok (.putfield 640, 3) := by decide +kernel
theorem dX12_advance_486 : decode cX12_advance 486 = .ok (.aload_n 0, 1) := by decide +kernel
theorem dX12_advance_487 : decode cX12_advance 487 = .ok (.dup, 1) := by decide +kernel
theorem dX12_advance_488 : decode cX12_advance 488 = .ok (.getfield 631, 3) := by decide +kernel
theorem dX12_advance_491 : decode cX12_advance 491 = .ok (.iload_n 3, 1) := by decide +kernel
theorem dX12_advance_492 : decode cX12_advance 492 = .ok (.ifCond .eq 7, 3) := by decide +kernel
theorem dX12_advance_495 : decode cX12_advance 495 = .ok (.iconst 2, 1) := by decide +kernel
theorem dX12_advance_496 : decode cX12_advance 496 = .ok (.goto 4, 3) := by decide +kernel
theorem dX12_advance_499 : decode cX12_advance 499 = .ok (.iconst 1, 1) := by decide +kernel
theorem dX12_advance_500 : decode cX12_advance 500 = .ok (.iadd, 1) := by decide +kernel
theorem dX12_advance_501 : decode cX12_advance 501 = .ok (.putfield 631, 3) := by decide +kernel
theorem dX12_advance_504 : decode cX12_advance 504 = .ok (.return_, 1) := by decide +kernel
theorem dX12_answer_0 : decode cX12_answer 0 = .ok (.aload_n 0, 1) := by decide +kernel
theorem dX12_answer_1 : decode cX12_answer 1 = .ok (.iload_n 1, 1) := by decide +kernel
theorem dX12_answer_2 : decode cX12_answer 2 = .ok (.ifCond .lt 20, 3) := by decide +kernel
theorem dX12_answer_5 : decode cX12_answer 5 = .ok (.iload_n 1, 1) := by decide +kernel
theorem dX12_answer_6 : decode cX12_answer 6 = .ok (.aload_n 0, 1) := by decide +kernel
theorem dX12_answer_7 : decode cX12_answer 7 = .ok (.getfield 852, 3) := by decide +kernel
theorem dX12_answer_10 : decode cX12_answer 10 = .ok (.if_icmp .ge 12, 3) := by decide +kernel
theorem dX12_answer_13 : decode cX12_answer 13 = .ok (.iload_n 2, 1) := by decide +kernel
theorem dX12_answer_14 : decode cX12_answer 14 = .ok (.ifCond .lt 8, 3) := by decide +kernel
theorem dX12_answer_17 : decode cX12_answer 17 = .ok (.iload_n 2, 1) := by decide +kernel
theorem dX12_answer_18 : decode cX12_answer 18 = .ok (.iconst 2, 1) := by decide +kernel
theorem dX12_answer_19 : decode cX12_answer 19 = .ok (.if_icmp .le 7, 3) := by decide +kernel
theorem dX12_answer_22 : decode cX12_answer 22 = .ok (.iconst 1, 1) := by decide +kernel
theorem dX12_answer_23 : decode cX12_answer 23 = .ok (.goto 4, 3) := by decide +kernel
theorem dX12_answer_26 : decode cX12_answer 26 = .ok (.iconst 0, 1) := by decide +kernel
theorem dX12_answer_27 : decode cX12_answer 27 = .ok (.putfield 388, 3) := by decide +kernel
theorem dX12_answer_30 : decode cX12_answer 30 = .ok (.aload_n 0, 1) := by decide +kernel
theorem dX12_answer_31 : decode cX12_answer 31 = .ok (.getfield 388, 3) := by decide +kernel
theorem dX12_answer_34 : decode cX12_answer 34 = .ok (.ifCond .le 5, 3) := by decide +kernel
theorem dX12_answer_37 : decode cX12_answer 37 = .ok (.lconst 0, 1) := by decide +kernel
theorem dX12_answer_38 : decode cX12_answer 38 = .ok (.lreturn, 1) := by decide +kernel
theorem dX12_answer_39 : decode cX12_answer 39 = .ok (.iload_n 2, 1) := by decide +kernel
theorem dX12_answer_40 : decode cX12_answer 40 = .ok (.ifCond .ne 13, 3) := by decide +kernel
theorem dX12_answer_43 : decode cX12_answer 43 = .ok (.aload_n 0, 1) := by decide +kernel
theorem dX12_answer_44 : decode cX12_answer 44 = .ok (.getfield 300, 3) := by decide +kernel
theorem dX12_answer_47 : decode cX12_answer 47 = .ok (.iload_n 1, 1) := by decide +kernel
theorem dX12_answer_48 : decode cX12_answer 48 = .ok (.iaload, 1) := by decide +kernel
theorem dX12_answer_49 : decode cX12_answer 49 = .ok (.i2l, 1) := by decide +kernel
theorem dX12_answer_50 : decode cX12_answer 50 = .ok (.goto 24, 3) := by decide +kernel
theorem dX12_answer_53 : decode cX12_answer 53 = .ok (.iload_n 2, 1) := by decide +kernel
theorem dX12_answer_54 : decode cX12_answer 54 = .ok (.iconst 1, 1) := by decide +kernel
theorem dX12_answer_55 : decode cX12_answer 55 = .ok (.if_icmp .ne 13, 3) := by decide +kernel
theorem dX12_answer_58 : decode cX12_answer 58 = .ok (.aload_n 0, 1) := by decide +kernel
theorem dX12_answer_59 : decode cX12_answer 59 = .ok (.getfield 303, 3) := by decide +kernel
theorem dX12_answer_62 : decode cX12_answer 62 = .ok (.iload_n 1, 1) := by decide +kernel
theorem dX12_answer_63 : decode cX12_answer 63 = .ok (.iaload, 1) := by decide +kernel
theorem dX12_answer_64 : decode cX12_answer 64 = .ok (.i2l, 1) := by decide +kernel
theorem dX12_answer_65 : decode cX12_answer 65 = .ok (.goto 9, 3) := by decide +kernel
theorem dX12_answer_68 : decode cX12_answer 68 = .ok (.aload_n 0, 1) := by decide +kernel
theorem dX12_answer_69 : decode cX12_answer 69 = .ok (.getfield 306, 3) := by decide +kernel
theorem dX12_answer_72 : decode cX12_answer 72 = .ok (.iload_n 1, 1) := by decide +kernel
theorem dX12_answer_73 : decode cX12_answer 73 = .ok (.laload, 1) := by decide +kernel
theorem dX12_answer_74 : decode cX12_answer 74 = .ok (.lreturn, 1) := by decide +kernel
theorem dX12_answerAll_0 : decode cX12_answerAll 0 = .ok (.aload_n 0, 1) := by decide +kernel
theorem dX12_answerAll_1 : decode cX12_answerAll 1 = .ok (.iload_n 1, 1) := by decide +kernel
theorem dX12_answerAll_2 : decode cX12_answerAll 2 = .ok (.invokevirtual 865, 3) := by decide +kernel
theorem dX12_answerAll_5 : decode cX12_answerAll 5 = .ok (.aload_n 0, 1) := by decide +kernel
theorem dX12_answerAll_6 : decode cX12_answerAll 6 = .ok (.iload_n 2, 1) := by decide +kernel
theorem dX12_answerAll_7 : decode cX12_answerAll 7 = .ok (.bipush 11, 2) := by decide +kernel
theorem dX12_answerAll_9 : decode cX12_answerAll 9 = .ok (.invokevirtual 849, 3) := by decide +kernel
theorem dX12_answerAll_12 : decode cX12_answerAll 12 = .ok (.iconst 0, 1) := by decide +kernel
theorem dX12_answerAll_13 : decode cX12_answerAll 13 = .ok (.istore 5, 2) := by decide +kernel
theorem dX12_answerAll_15 : decode cX12_answerAll 15 = .ok (.iload 5, 2) := by decide +kernel
theorem dX12_answerAll_17 : decode cX12_answerAll 17 = .ok (.aload_n 0, 1) := by decide +kernel
theorem dX12_answerAll_18 : decode cX12_answerAll 18 = .ok (.getfield 297, 3) := by decide +kernel
theorem dX12_answerAll_21 : decode cX12_answerAll 21 = .ok (.bipush 11, 2) := by decide +kernel
theorem dX12_answerAll_23 : decode cX12_answerAll 23 = .ok (.iaload, 1) := by decide +kernel
theorem dX12_answerAll_24 : decode cX12_answerAll 24 = .ok (.if_icmp .ge 155, 3) := by decide +kernel
theorem dX12_answerAll_27 : decode cX12_answerAll 27 = .ok (.aload_n 0, 1) := by decide +kernel
theorem dX12_answerAll_28 : decode cX12_answerAll 28 = .ok (.getfield 782, 3) := by decide +kernel
theorem dX12_answerAll_31 : decode cX12_answerAll 31 = .ok (.ifCond .ne 148, 3) := by decide +kernel
theorem dX12_answerAll_34 : decode cX12_answerAll 34 = .ok (.aload_n 0, 1) := by decide +kernel
theorem dX12_answerAll_35 : decode cX12_answerAll 35 = .ok (.invokevirtual 795, 3) := by decide +kernel
theorem dX12_answerAll_38 : decode cX12_answerAll 38 = .ok (.aload_n 0, 1) := by decide +kernel
theorem dX12_answerAll_39 : decode cX12_answerAll 39 = .ok (.aload_n 0, 1) := by decide +kernel
theorem dX12_answerAll_40 : decode cX12_answerAll 40 = .ok (.getfield 294, 3) := by decide +kernel
theorem dX12_answerAll_43 : decode cX12_answerAll 43 = .ok (.ldc_w 868, 3) := by decide +kernel
theorem dX12_answerAll_46 : decode cX12_answerAll 46 = .ok (.iload 5, 2) := by decide +kernel
theorem dX12_answerAll_48 : decode cX12_answerAll 48 = .ok (.iadd, 1) := by decide +kernel
theorem dX12_answerAll_49 : decode cX12_answerAll 49 = .ok (.iaload, 1) := by decide +kernel
theorem dX12_answerAll_50 : decode cX12_answerAll 50 = .ok (.putfield 810, 3) := by decide +kernel
theorem dX12_answerAll_53 : decode cX12_answerAll 53 = .ok (.iload_n 3, 1) := by decide +kernel
theorem dX12_answerAll_54 : decode cX12_answerAll 54 = .ok (.iconst (-1), 1) := by decide +kernel
theorem dX12_answerAll_55 : decode cX12_answerAll 55 = .ok (.if_icmp .eq 15, 3) := by decide +kernel
theorem dX12_answerAll_58 : decode cX12_answerAll 58 = .ok (.aload_n 0, 1) := by decide +kernel
theorem dX12_answerAll_59 : decode cX12_answerAll 59 = .ok (.getfield 782, 3) := by decide +kernel
theorem dX12_answerAll_62 : decode cX12_answerAll 62 = .ok (.ifCond .ne 8, 3) := by decide +kernel
theorem dX12_answerAll_65 : decode cX12_answerAll 65 = .ok (.aload_n 0, 1) := by decide +kernel
theorem dX12_answerAll_66 : decode cX12_answerAll 66 = .ok (.iload_n 3, 1) := by decide +kernel
theorem dX12_answerAll_67 : decode cX12_answerAll 67 = .ok (.invokevirtual 829, 3) := by decide +kernel
theorem dX12_answerAll_70 : decode cX12_answerAll 70 = .ok (.aload_n 0, 1) := by decide +kernel
theorem dX12_answerAll_71 : decode cX12_answerAll 71 = .ok (.getfield 782, 3) := by decide +kernel
theorem dX12_answerAll_74 : decode cX12_answerAll 74 = .ok (.ifCond .ne 99, 3) := by decide +kernel
theorem dX12_answerAll_77 : decode cX12_answerAll 77 = .ok (.iload_n 3, 1) := by decide +kernel
theorem dX12_answerAll_78 : decode cX12_answerAll 78 = .ok (.iconst (-1), 1) := by decide +kernel
theorem dX12_answerAll_79 : decode cX12_answerAll 79 = .ok (.if_icmp .eq 23, 3) := by decide +kernel
theorem dX12_answerAll_82 : decode cX12_answerAll 82 = .ok (.aload_n 0, 1) := by decide +kernel
theorem dX12_answerAll_83 : decode cX12_answerAll 83 = .ok (.getfield 785, 3) := by decide +kernel
theorem dX12_answerAll_86 : decode cX12_answerAll 86 = .ok (.iconst 1, 1) := by decide +kernel
theorem dX12_answerAll_87 : decode cX12_answerAll 87 = .ok (.if_icmp .ne 86, 3) := by decide +kernel
theorem dX12_answerAll_90 : decode cX12_answerAll 90 = .ok (.aload_n 0, 1) := by decide +kernel
theorem dX12_answerAll_91 : decode cX12_answerAll 91 = .ok (.getfield 788, 3) := by decide +kernel
theorem dX12_answerAll_94 : decode cX12_answerAll 94 = .ok (.lconst 0, 1) := by decide +kernel
theorem dX12_answerAll_95 : decode cX12_answerAll 95 = .ok (.lcmp, 1) := by decide +kernel
theorem dX12_answerAll_96 : decode cX12_answerAll 96 = .ok (.ifCond .ne 6, 3) := by decide +kernel
theorem dX12_answerAll_99 : decode cX12_answerAll 99 = .ok (.goto 74, 3) := by decide +kernel
theorem dX12_answerAll_102 : decode cX12_answerAll 102 = .ok (.aload_n 0, 1) := by decide +kernel
theorem dX12_answerAll_103 : decode cX12_answerAll 103 = .ok (.iconst 2, 1) := by decide +kernel
theorem dX12_answerAll_104 : decode cX12_answerAll 104 = .ok (.aload_n 0, 1) := by decide +kernel
theorem dX12_answerAll_105 : decode cX12_answerAll 105 = .ok (.getfield 810, 3) := by decide +kernel
theorem dX12_answerAll_108 : decode cX12_answerAll 108 = .ok (.i2l, 1) := by decide +kernel
theorem dX12_answerAll_109 : decode cX12_answerAll 109 = .ok (.invokevirtual 791, 3) := by decide +kernel
theorem dX12_answerAll_112 : decode cX12_answerAll 112 = .ok (.iload 4, 2) := by decide +kernel
theorem dX12_answerAll_114 : decode cX12_answerAll 114 = .ok (.iconst (-1), 1) := by decide +kernel
theorem dX12_answerAll_115 : decode cX12_answerAll 115 = .ok (.if_icmp .eq 9, 3) := by decide +kernel
theorem dX12_answerAll_118 : decode cX12_answerAll 118 = .ok (.aload_n 0, 1) := by decide +kernel
theorem dX12_answerAll_119 : decode cX12_answerAll 119 = .ok (.iload 4, 2) := by decide +kernel
theorem dX12_answerAll_121 : decode cX12_answerAll 121 = .ok (.invokevirtual 829, 3) := by decide +kernel
theorem dX12_answerAll_124 : decode cX12_answerAll 124 = .ok (.aload_n 0, 1) := by decide +kernel
theorem dX12_answerAll_125 : decode cX12_answerAll 125 = .ok (.getfield 300, 3) := by decide +kernel
theorem dX12_answerAll_128 : decode cX12_answerAll 128 = .ok (.aload_n 0, 1) := by decide +kernel
theorem dX12_answerAll_129 : decode cX12_answerAll 129 = .ok (.getfield 852, 3) := by decide +kernel
theorem dX12_answerAll_132 : decode cX12_answerAll 132 = .ok (.aload_n 0, 1) := by decide +kernel
theorem dX12_answerAll_133 : decode cX12_answerAll 133 = .ok (.getfield 810, 3) := by decide +kernel
theorem dX12_answerAll_136 : decode cX12_answerAll 136 = .ok (.iastore, 1) := by decide +kernel
theorem dX12_answerAll_137 : decode cX12_answerAll 137 = .ok (.aload_n 0, 1) := by decide +kernel
theorem dX12_answerAll_138 : decode cX12_answerAll 138 = .ok (.getfield 303, 3) := by decide +kernel
theorem dX12_answerAll_141 : decode cX12_answerAll 141 = .ok (.aload_n 0, 1) := by decide +kernel
theorem dX12_answerAll_142 : decode cX12_answerAll 142 = .ok (.getfield 852, 3) := by decide +kernel
theorem dX12_answerAll_145 : decode cX12_answerAll 145 = .ok (.aload_n 0, 1) := by decide +kernel
theorem dX12_answerAll_146 : decode cX12_answerAll 146 = .ok (.getfield 785, 3) := by decide +kernel
theorem dX12_answerAll_149 : decode cX12_answerAll 149 = .ok (.iastore, 1) := by decide +kernel
theorem dX12_answerAll_150 : decode cX12_answerAll 150 = .ok (.aload_n 0, 1) := by decide +kernel
theorem dX12_answerAll_151 : decode cX12_answerAll 151 = .ok (.getfield 306, 3) := by decide +kernel
theorem dX12_answerAll_154 : decode cX12_answerAll 154 = .ok (.aload_n 0, 1) := by decide +kernel
theorem dX12_answerAll_155 : decode cX12_answerAll 155 = .ok (.getfield 852, 3) := by decide +kernel
theorem dX12_answerAll_158 : decode cX12_answerAll 158 = .ok (.aload_n 0, 1) := by decide +kernel
theorem dX12_answerAll_159 : decode cX12_answerAll 159 = .ok (.getfield 788, 3) := by decide +kernel
theorem dX12_answerAll_162 : decode cX12_answerAll 162 = .ok (.lastore, 1) := by decide +kernel
theorem dX12_answerAll_163 : decode cX12_answerAll 163 = .ok (.aload_n 0, 1) := by decide +kernel
theorem dX12_answerAll_164 : decode cX12_answerAll 164 = .ok (.dup, 1) := by decide +kernel
theorem dX12_answerAll_165 : decode cX12_answerAll 165 = .ok (.getfield 852, 3) := by decide +kernel
theorem dX12_answerAll_168 : decode cX12_answerAll 168 = .ok (.iconst 1, 1) := by decide +kernel
theorem dX12_answerAll_169 : decode cX12_answerAll 169 = .ok (.iadd, 1) := by decide +kernel
theorem dX12_answerAll_170 : decode cX12_answerAll 170 = .ok (.putfield 852, 3) := by decide +kernel
theorem dX12_answerAll_173 : decode cX12_answerAll 173 = .ok (.iinc 5 1, 3) := by decide +kernel
theorem dX12_answerAll_176 : decode cX12_answerAll 176 = .ok (.goto (-161), 3) := by decide +kernel
theorem dX12_answerAll_179 : decode cX12_answerAll 179 = .ok (.aload_n 0, 1) := by decide +kernel
theorem dX12_answerAll_180 : decode cX12_answerAll 180 = .ok (.getfield 782, 3) := by decide +kernel
theorem dX12_answerAll_183 : decode cX12_answerAll 183 = .ok (.ifCond .eq 13, 3) := by decide +kernel
theorem dX12_answerAll_186 : decode cX12_answerAll 186 = .ok (.aload_n 0, 1) := by decide +kernel
theorem dX12_answerAll_187 : decode cX12_answerAll 187 = .ok (.iconst 5, 1) := by decide +kernel
theorem dX12_answerAll_188 : decode cX12_answerAll 188 = .ok (.putfield 776, 3) := by decide +kernel
theorem dX12_answerAll_191 : decode cX12_answerAll 191 = .ok (.aload_n 0, 1) := by decide +kernel
theorem dX12_answerAll_192 : decode cX12_answerAll 192 = .ok (.iconst (-1), 1) := by decide +kernel
theorem dX12_answerAll_193 : decode cX12_answerAll 193 = .ok (.putfield 268, 3) := by decide +kernel
theorem dX12_answerAll_196 : decode cX12_answerAll 196 = .ok (.return_, 1) := by decide +kernel
theorem dX12_apart_0 : decode cX12_apart 0 = .ok (.aload_n 0, 1) := by decide +kernel
theorem dX12_apart_1 : decode cX12_apart 1 = .ok (.iconst 0, 1) := by decide +kernel
theorem dX12_apart_2 : decode cX12_apart 2 = .ok (.putfield 388, 3) := by decide +kernel
theorem dX12_apart_5 : decode cX12_apart 5 = .ok (.aload_n 0, 1) := by decide +kernel
theorem dX12_apart_6 : decode cX12_apart 6 = .ok (.iload_n 1, 1) := by decide +kernel
theorem dX12_apart_7 : decode cX12_apart 7 = .ok (.invokevirtual 416, 3) := by decide +kernel
theorem dX12_apart_10 : decode cX12_apart 10 = .ok (.ifCond .ne 5, 3) := by decide +kernel
theorem dX12_apart_13 : decode cX12_apart 13 = .ok (.iconst 0, 1) := by decide +kernel
theorem dX12_apart_14 : decode cX12_apart 14 = .ok (.ireturn, 1) := by decide +kernel
theorem dX12_apart_15 : decode cX12_apart 15 = .ok (.aload_n 0, 1) := by decide +kernel
theorem dX12_apart_16 : decode cX12_apart 16 = .ok (.getfield 122, 3) := by decide +kernel
theorem dX12_apart_19 : decode cX12_apart 19 = .ok (.iload_n 1, 1) := by decide +kernel
theorem dX12_apart_20 : decode cX12_apart 20 = .ok (.iload_n 2, 1) := by decide +kernel
theorem dX12_apart_21 : decode cX12_apart 21 = .ok (.bastore, 1) := by decide +kernel
theorem dX12_apart_22 : decode cX12_apart 22 = .ok (.iconst 1, 1) := by decide +kernel
theorem dX12_apart_23 : decode cX12_apart 23 = .ok (.ireturn, 1) := by decide +kernel
theorem dX12_areDoubles_0 : decode cX12_areDoubles 0 = .ok (.aload_n 0, 1) := by decide +kernel
theorem dX12_areDoubles_1 : decode cX12_areDoubles 1 = .ok (.getfield 189, 3) := by decide +kernel
theorem dX12_areDoubles_4 : decode cX12_areDoubles 4 = .ok (.aload_n 0, 1) := by decide +kernel
theorem dX12_areDoubles_5 : decode cX12_areDoubles 5 = .ok (.iload_n 1, 1) := by decide +kernel
theorem dX12_areDoubles_6 : decode cX12_areDoubles 6 = .ok (.iload_n 2, 1) := by decide +kernel
theorem dX12_areDoubles_7 : decode cX12_areDoubles 7 = .ok (.invokevirtual 545, 3) := by decide +kernel
theorem dX12_areDoubles_10 : decode cX12_areDoubles 10 = .ok (.iaload, 1) := by decide +kernel
theorem dX12_areDoubles_11 : decode cX12_areDoubles 11 = .ok (.aload_n 0, 1) := by decide +kernel
theorem dX12_areDoubles_12 : decode cX12_areDoubles 12 = .ok (.getfield 189, 3) := by decide +kernel
theorem dX12_areDoubles_15 : decode cX12_areDoubles 15 = .ok (.aload_n 0, 1) := by decide +kernel
theorem dX12_areDoubles_16 : decode cX12_areDoubles 16 = .ok (.iload_n 1, 1) := by decide +kernel
theorem dX12_areDoubles_17 : decode cX12_areDoubles 17 = .ok (.iload_n 3, 1) := by decide +kernel
theorem dX12_areDoubles_18 : decode cX12_areDoubles 18 = .ok (.invokevirtual 545, 3) := by decide +kernel
theorem dX12_areDoubles_21 : decode cX12_areDoubles 21 = .ok (.iaload, 1) := by decide +kernel
theorem dX12_areDoubles_22 : decode cX12_areDoubles 22 = .ok (.if_icmp .ne 32, 3) := by decide +kernel
theorem dX12_areDoubles_25 : decode cX12_areDoubles 25 = .ok (.aload_n 0, 1) := by decide +kernel
theorem dX12_areDoubles_26 : decode cX12_areDoubles 26 = .ok (.getfield 192, 3) := by decide +kernel
theorem dX12_areDoubles_29 : decode cX12_areDoubles 29 = .ok (.aload_n 0, 1) := by decide +kernel
theorem dX12_areDoubles_30 : decode cX12_areDoubles 30 = .ok (.iload_n 1, 1) := by decide +kernel
theorem dX12_areDoubles_31 : decode cX12_areDoubles 31 = .ok (.iload_n 2, 1) := by decide +kernel
theorem dX12_areDoubles_32 : decode cX12_areDoubles 32 = .ok (.invokevirtual 545, 3) := by decide +kernel
theorem dX12_areDoubles_35 : decode cX12_areDoubles 35 = .ok (.iaload, 1) := by decide +kernel
theorem dX12_areDoubles_36 : decode cX12_areDoubles 36 = .ok (.aload_n 0, 1) := by decide +kernel
theorem dX12_areDoubles_37 : decode cX12_areDoubles 37 = .ok (.getfield 192, 3) := by decide +kernel
theorem dX12_areDoubles_40 : decode cX12_areDoubles 40 = .ok (.aload_n 0, 1) := by decide +kernel
theorem dX12_areDoubles_41 : decode cX12_areDoubles 41 = .ok (.iload_n 1, 1) := by decide +kernel
theorem dX12_areDoubles_42 : decode cX12_areDoubles 42 = .ok (.iload_n 3, 1) := by decide +kernel
theorem dX12_areDoubles_43 : decode cX12_areDoubles 43 = .ok (.invokevirtual 545, 3) := by decide +kernel
theorem dX12_areDoubles_46 : decode cX12_areDoubles 46 = .ok (.iaload, 1) := by decide +kernel
theorem dX12_areDoubles_47 : decode cX12_areDoubles 47 = .ok (.if_icmp .ne 7, 3) := by decide +kernel
theorem dX12_areDoubles_50 : decode cX12_areDoubles 50 = .ok (.iconst 1, 1) := by decide +kernel
theorem dX12_areDoubles_51 : decode cX12_areDoubles 51 = .ok (.goto 4, 3) := by decide +kernel
theorem dX12_areDoubles_54 : decode cX12_areDoubles 54 = .ok (.iconst 0, 1) := by decide +kernel
theorem dX12_areDoubles_55 : decode cX12_areDoubles 55 = .ok (.istore 4, 2) := by decide +kernel
theorem dX12_areDoubles_57 : decode cX12_areDoubles 57 = .ok (.iconst 0, 1) := by decide +kernel
theorem dX12_areDoubles_58 : decode cX12_areDoubles 58 = .ok (.istore 5, 2) := by decide +kernel
theorem dX12_areDoubles_60 : decode cX12_areDoubles 60 = .ok (.iload 4, 2) := by decide +kernel
theorem dX12_areDoubles_62 : decode cX12_areDoubles 62 = .ok (.ifCond .eq 47, 3) := by decide +kernel
theorem dX12_areDoubles_65 : decode cX12_areDoubles 65 = .ok (.iload 5, 2) := by decide +kernel
theorem dX12_areDoubles_67 : decode cX12_areDoubles 67 = .ok (.aload_n 0, 1) := by decide +kernel
theorem dX12_areDoubles_68 : decode cX12_areDoubles 68 = .ok (.iload_n 1, 1) := by decide +kernel
theorem dX12_areDoubles_69 : decode cX12_areDoubles 69 = .ok (.iload_n 2, 1) := by decide +kernel
theorem dX12_areDoubles_70 : decode cX12_areDoubles 70 = .ok (.invokevirtual 570, 3) := by decide +kernel
theorem dX12_areDoubles_73 : decode cX12_areDoubles 73 = .ok (.if_icmp .ge 36, 3) := by decide +kernel
theorem dX12_areDoubles_76 : decode cX12_areDoubles 76 = .ok (.aload_n 0, 1) := by decide +kernel
theorem dX12_areDoubles_77 : decode cX12_areDoubles 77 = .ok (.iload_n 1, 1) := by decide +kernel
theorem dX12_areDoubles_78 : decode cX12_areDoubles 78 = .ok (.iload_n 2, 1) := by decide +kernel
theorem dX12_areDoubles_79 : decode cX12_areDoubles 79 = .ok (.iload 5, 2) := by decide +kernel
theorem dX12_areDoubles_81 : decode cX12_areDoubles 81 = .ok (.invokevirtual 577, 3) := by decide +kernel
theorem dX12_areDoubles_84 : decode cX12_areDoubles 84 = .ok (.aload_n 0, 1) := by decide +kernel
theorem dX12_areDoubles_85 : decode cX12_areDoubles 85 = .ok (.iload_n 1, 1) := by decide +kernel
theorem dX12_areDoubles_86 : decode cX12_areDoubles 86 = .ok (.iload_n 3, 1) := by decide +kernel
theorem dX12_areDoubles_87 : decode cX12_areDoubles 87 = .ok (.iload 5, 2) := by decide +kernel
theorem dX12_areDoubles_89 : decode cX12_areDoubles 89 = .ok (.invokevirtual 577, 3) := by decide +kernel
theorem dX12_areDoubles_92 : decode cX12_areDoubles 92 = .ok (.lcmp, 1) := by decide +kernel
theorem dX12_areDoubles_93 : decode cX12_areDoubles 93 = .ok (.ifCond .ne 7, 3) := by decide +kernel
theorem dX12_areDoubles_96 : decode cX12_areDoubles 96 = .ok (.iconst 1, 1) := by decide +kernel
theorem dX12_areDoubles_97 : decode cX12_areDoubles 97 = .ok (.goto 4, 3) := by decide +kernel
theorem dX12_areDoubles_100 : decode cX12_areDoubles 100 = .ok (.iconst 0, 1) := by decide +kernel
theorem dX12_areDoubles_101 : decode cX12_areDoubles 101 = .ok (.istore 4, 2) := by decide +kernel
theorem dX12_areDoubles_103 : decode cX12_areDoubles 103 = .ok (.iinc 5 1, 3) := by decide +kernel
theorem dX12_areDoubles_106 : decode cX12_areDoubles 106 = .ok (.goto (-46), 3) := by decide +kernel
theorem dX12_areDoubles_109 : decode cX12_areDoubles 109 = .ok (.iload 4, 2) := by decide +kernel
theorem dX12_areDoubles_111 : decode cX12_areDoubles 111 = .ok (.ireturn, 1) := by decide +kernel
theorem dX12_ask_0 : decode cX12_ask 0 = .ok (.aload_n 0, 1) := by decide +kernel
theorem dX12_ask_1 : decode cX12_ask 1 = .ok (.aload_n 0, 1) := by decide +kernel
theorem dX12_ask_2 : decode cX12_ask 2 = .ok (.iload_n 1, 1) := by decide +kernel
theorem dX12_ask_3 : decode cX12_ask 3 = .ok (.invokevirtual 542, 3) := by decide +kernel
theorem dX12_ask_6 : decode cX12_ask 6 = .ok (.ifCond .eq 7, 3) := by decide +kernel
theorem dX12_ask_9 : decode cX12_ask 9 = .ok (.iconst 0, 1) := by decide +kernel
theorem dX12_ask_10 : decode cX12_ask 10 = .ok (.goto 4, 3) := by decide +kernel
theorem dX12_ask_13 : decode cX12_ask 13 = .ok (.iconst 1, 1) := by decide +kernel
theorem dX12_ask_14 : decode cX12_ask 14 = .ok (.putfield 388, 3) := by decide +kernel
theorem dX12_ask_17 : decode cX12_ask 17 = .ok (.aload_n 0, 1) := by decide +kernel
theorem dX12_ask_18 : decode cX12_ask 18 = .ok (.getfield 388, 3) := by decide +kernel
theorem dX12_ask_21 : decode cX12_ask 21 = .ok (.ifCond .le 5, 3) := by decide +kernel
theorem dX12_ask_24 : decode cX12_ask 24 = .ok (.iconst 0, 1) := by decide +kernel
theorem dX12_ask_25 : decode cX12_ask 25 = .ok (.ireturn, 1) := by decide +kernel
theorem dX12_ask_26 : decode cX12_ask 26 = .ok (.aload_n 0, 1) := by decide +kernel
theorem dX12_ask_27 : decode cX12_ask 27 = .ok (.iconst 0, 1) := by decide +kernel
theorem dX12_ask_28 : decode cX12_ask 28 = .ok (.putfield 852, 3) := by decide +kernel
theorem dX12_ask_31 : decode cX12_ask 31 = .ok (.aload_n 0, 1) := by decide +kernel
theorem dX12_ask_32 : decode cX12_ask 32 = .ok (.iconst 0, 1) := by decide +kernel
theorem dX12_ask_33 : decode cX12_ask 33 = .ok (.invokevirtual 855, 3) := by decide +kernel
theorem dX12_ask_36 : decode cX12_ask 36 = .ok (.aload_n 0, 1) := by decide +kernel
theorem dX12_ask_37 : decode cX12_ask 37 = .ok (.iconst 0, 1) := by decide +kernel
theorem dX12_ask_38 : decode cX12_ask 38 = .ok (.putfield 764, 3) := by decide +kernel
theorem dX12_ask_41 : decode cX12_ask 41 = .ok (.aload_n 0, 1) := by decide +kernel
theorem dX12_ask_42 : decode cX12_ask 42 = .ok (.invokevirtual 771, 3) := by decide +kernel
theorem dX12_ask_45 : decode cX12_ask 45 = .ok (.istore_n 2, 1) := by decide +kernel
theorem dX12_ask_46 : decode cX12_ask 46 = .ok (.aload_n 0, 1) := by decide +kernel
theorem dX12_ask_47 : decode cX12_ask 47 = .ok (.iconst 1, 1) := by decide +kernel
theorem dX12_ask_48 : decode cX12_ask 48 = .ok (.putfield 764, 3) := by decide +kernel
theorem dX12_ask_51 : decode cX12_ask 51 = .ok (.aload_n 0, 1) := by decide +kernel
theorem dX12_ask_52 : decode cX12_ask 52 = .ok (.iconst 3, 1) := by decide +kernel
theorem dX12_ask_53 : decode cX12_ask 53 = .ok (.invokevirtual 768, 3) := by decide +kernel
theorem dX12_ask_56 : decode cX12_ask 56 = .ok (.ifCond .eq 10, 3) := by decide +kernel
theorem dX12_ask_59 : decode cX12_ask 59 = .ok (.aload_n 0, 1) := by decide +kernel
theorem dX12_ask_60 : decode cX12_ask 60 = .ok (.invokevirtual 743, 3) := by decide +kernel
theorem dX12_ask_63 : decode cX12_ask 63 = .ok (.goto 4, 3) := by decide +kernel
theorem dX12_ask_66 : decode cX12_ask 66 = .ok (.iconst (-1), 1) := by decide +kernel
theorem dX12_ask_67 : decode cX12_ask 67 = .ok (.istore_n 3, 1) := by decide +kernel
theorem dX12_ask_68 : decode cX12_ask 68 = .ok (.aload_n 0, 1) := by decide +kernel
theorem dX12_ask_69 : decode cX12_ask 69 = .ok (.iconst 4, 1) := by decide +kernel
theorem dX12_ask_70 : decode cX12_ask 70 = .ok (.invokevirtual 768, 3) := by decide +kernel
theorem dX12_ask_73 : decode cX12_ask 73 = .ok (.ifCond .eq 10, 3) := by decide +kernel
theorem dX12_ask_76 : decode cX12_ask 76 = .ok (.aload_n 0, 1) := by decide +kernel
theorem dX12_ask_77 : decode cX12_ask 77 = .ok (.invokevirtual 743, 3) := by decide +kernel
theorem dX12_ask_80 : decode cX12_ask 80 = .ok (.goto 4, 3) := by decide +kernel
theorem dX12_ask_83 : decode cX12_ask 83 = .ok (.iconst (-1), 1) := by decide +kernel
theorem dX12_ask_84 : decode cX12_ask 84 = .ok (.istore 4, 2) := by decide +kernel
theorem dX12_ask_86 : decode cX12_ask 86 = .ok (.aload_n 0, 1) := by decide +kernel
theorem dX12_ask_87 : decode cX12_ask 87 = .ok (.invokevirtual 858, 3) := by decide +kernel
theorem dX12_ask_90 : decode cX12_ask 90 = .ok (.aload_n 0, 1) := by decide +kernel
theorem dX12_ask_91 : decode cX12_ask 91 = .ok (.getfield 776, 3) := by decide +kernel
theorem dX12_ask_94 : decode cX12_ask 94 = .ok (.ifCond .ne 12, 3) := by decide +kernel
theorem dX12_ask_97 : decode cX12_ask 97 = .ok (.aload_n 0, 1) := by decide +kernel
theorem dX12_ask_98 : decode cX12_ask 98 = .ok (.iload_n 1, 1) := by decide +kernel
theorem dX12_ask_99 : decode cX12_ask 99 = .ok (.iload_n 2, 1) := by decide +kernel
theorem dX12_ask_100 : decode cX12_ask 100 = .ok (.iload_n 3, 1) := by decide +kernel
theorem dX12_ask_101 : decode cX12_ask 101 = .ok (.iload 4, 2) := by decide +kernel
theorem dX12_ask_103 : decode cX12_ask 103 = .ok (.invokevirtual 861, 3) := by decide +kernel
theorem dX12_ask_106 : decode cX12_ask 106 = .ok (.aload_n 0, 1) := by decide +kernel
theorem dX12_ask_107 : decode cX12_ask 107 = .ok (.aload_n 0, 1) := by decide +kernel
theorem dX12_ask_108 : decode cX12_ask 108 = .ok (.getfield 776, 3) := by decide +kernel
theorem dX12_ask_111 : decode cX12_ask 111 = .ok (.ifCond .le 7, 3) := by decide +kernel
theorem dX12_ask_114 : decode cX12_ask 114 = .ok (.iconst 2, 1) := by decide +kernel
theorem dX12_ask_115 : decode cX12_ask 115 = .ok (.goto 4, 3) := by decide +kernel
theorem dX12_ask_118 : decode cX12_ask 118 = .ok (.iconst 0, 1) := by decide +kernel
theorem dX12_ask_119 : decode cX12_ask 119 = .ok (.putfield 388, 3) := by decide +kernel
theorem dX12_ask_122 : decode cX12_ask 122 = .ok (.aload_n 0, 1) := by decide +kernel
theorem dX12_ask_123 : decode cX12_ask 123 = .ok (.getfield 388, 3) := by decide +kernel
theorem dX12_ask_126 : decode cX12_ask 126 = .ok (.ifCond .le 8, 3) := by decide +kernel
theorem dX12_ask_129 : decode cX12_ask 129 = .ok (.aload_n 0, 1) := by decide +kernel
theorem dX12_ask_130 : decode cX12_ask 130 = .ok (.iconst 0, 1) := by decide +kernel
theorem dX12_ask_131 : decode cX12_ask 131 = .ok (.putfield 852, 3) := by decide +kernel
theorem dX12_ask_134 : decode cX12_ask 134 = .ok (.aload_n 0, 1) := by decide +kernel
theorem dX12_ask_135 : decode cX12_ask 135 = .ok (.getfield 852, 3) := by decide +kernel
theorem dX12_ask_138 : decode cX12_ask 138 = .ok (.ireturn, 1) := by decide +kernel
theorem dX12_at_0 : decode cX12_at 0 = .ok (.sipush 400, 3) := by decide +kernel
theorem dX12_at_3 : decode cX12_at 3 = .ok (.iload_n 1, 1) := by decide +kernel
theorem dX12_at_4 : decode cX12_at 4 = .ok (.imul, 1) := by decide +kernel
theorem dX12_at_5 : decode cX12_at 5 = .ok (.iload_n 2, 1) := by decide +kernel
theorem dX12_at_6 : decode cX12_at 6 = .ok (.iadd, 1) := by decide +kernel
theorem dX12_at_7 : decode cX12_at 7 = .ok (.ireturn, 1) := by decide +kernel
theorem dX12_beginText_0 : decode cX12_beginText 0 = .ok (.aload_n 0, 1) := by decide +kernel
theorem dX12_beginText_1 : decode cX12_beginText 1 = .ok (.iload_n 1, 1) := by decide +kernel
theorem dX12_beginText_2 : decode cX12_beginText 2 = .ok (.putfield 673, 3) := by decide +kernel
theorem dX12_beginText_5 : decode cX12_beginText 5 = .ok (.aload_n 0, 1) := by decide +kernel
theorem dX12_beginText_6 : decode cX12_beginText 6 = .ok (.iconst 0, 1) := by decide +kernel
theorem dX12_beginText_7 : decode cX12_beginText 7 = .ok (.putfield 670, 3) := by decide +kernel
theorem dX12_beginText_10 : decode cX12_beginText 10 = .ok (.aload_n 0, 1) := by decide +kernel
theorem dX12_beginText_11 : decode cX12_beginText 11 = .ok (.iconst 0, 1) := by decide +kernel
theorem dX12_beginText_12 : decode cX12_beginText 12 = .ok (.putfield 676, 3) := by decide +kernel
theorem dX12_beginText_15 : decode cX12_beginText 15 = .ok (.aload_n 0, 1) := by decide +kernel
theorem dX12_beginText_16 : decode cX12_beginText 16 = .ok (.iconst 0, 1) := by decide +kernel
theorem dX12_beginText_17 : decode cX12_beginText 17 = .ok (.putfield 761, 3) := by decide +kernel
theorem dX12_beginText_20 : decode cX12_beginText 20 = .ok (.aload_n 0, 1) := by decide +kernel
theorem dX12_beginText_21 : decode cX12_beginText 21 = .ok (.iconst 0, 1) := by decide +kernel
theorem dX12_beginText_22 : decode cX12_beginText 22 = .ok (.putfield 625, 3) := by decide +kernel
theorem dX12_beginText_25 : decode cX12_beginText 25 = .ok (.aload_n 0, 1) := by decide +kernel
theorem dX12_beginText_26 : decode cX12_beginText 26 = .ok (.iconst (-1), 1) := by decide +kernel
theorem dX12_beginText_27 : decode cX12_beginText 27 = .ok (.putfield 628, 3) := by decide +kernel
theorem dX12_beginText_30 : decode cX12_beginText 30 = .ok (.aload_n 0, 1) := by decide +kernel
theorem dX12_beginText_31 : decode cX12_beginText 31 = .ok (.iconst 0, 1) := by decide +kernel
theorem dX12_beginText_32 : decode cX12_beginText 32 = .ok (.putfield 631, 3) := by decide +kernel
theorem dX12_beginText_35 : decode cX12_beginText 35 = .ok (.aload_n 0, 1) := by decide +kernel
theorem dX12_beginText_36 : decode cX12_beginText 36 = .ok (.invokevirtual 661, 3) := by decide +kernel
theorem dX12_beginText_39 : decode cX12_beginText 39 = .ok (.return_, 1) := by decide +kernel
theorem dX12_beginWalk_0 : decode cX12_beginWalk 0 = .ok (.aload_n 0, 1) := by decide +kernel
theorem dX12_beginWalk_1 : decode cX12_beginWalk 1 = .ok (.iconst 0, 1) := by decide +kernel
theorem dX12_beginWalk_2 : decode cX12_beginWalk 2 = .ok (.putfield 522, 3) := by decide +kernel
theorem dX12_beginWalk_5 : decode cX12_beginWalk 5 = .ok (.iconst 0, 1) := by decide +kernel
theorem dX12_beginWalk_6 : decode cX12_beginWalk 6 = .ok (.istore_n 1, 1) := by decide +kernel
theorem dX12_beginWalk_7 : decode cX12_beginWalk 7 = .ok (.iload_n 1, 1) := by decide +kernel
theorem dX12_beginWalk_8 : decode cX12_beginWalk 8 = .ok (.sipush 400, 3) := by decide +kernel
theorem dX12_beginWalk_11 : decode cX12_beginWalk 11 = .ok (.if_icmp .ge 16, 3) := by decide +kernel
theorem dX12_beginWalk_14 : decode cX12_beginWalk 14 = .ok (.aload_n 0, 1) := by decide +kernel
theorem dX12_beginWalk_15 : decode cX12_beginWalk 15 = .ok (.getfield 180, 3) := by decide +kernel
theorem dX12_beginWalk_18 : decode cX12_beginWalk 18 = .ok (.iload_n 1, 1) := by decide +kernel
theorem dX12_beginWalk_19 : decode cX12_beginWalk 19 = .ok (.iconst (-1), 1) := by decide +kernel
theorem dX12_beginWalk_20 : decode cX12_beginWalk 20 = .ok (.iastore, 1) := by decide +kernel
theorem dX12_beginWalk_21 : decode cX12_beginWalk 21 = .ok (.iinc 1 1, 3) := by decide +kernel
theorem dX12_beginWalk_24 : decode cX12_beginWalk 24 = .ok (.goto (-17), 3) := by decide +kernel
theorem dX12_beginWalk_27 : decode cX12_beginWalk 27 = .ok (.return_, 1) := by decide +kernel
theorem dX12_beginWork_0 : decode cX12_beginWork 0 = .ok (.aload_n 0, 1) := by decide +kernel
theorem dX12_beginWork_1 : decode cX12_beginWork 1 = .ok (.iload_n 1, 1) := by decide +kernel
theorem dX12_beginWork_2 : decode cX12_beginWork 2 = .ok (.putfield 826, 3) := by decide +kernel
theorem dX12_beginWork_5 : decode cX12_beginWork 5 = .ok (.aload_n 0, 1) := by decide +kernel
theorem dX12_beginWork_6 : decode cX12_beginWork 6 = .ok (.iconst 0, 1) := by decide +kernel
theorem dX12_beginWork_7 : decode cX12_beginWork 7 = .ok (.putfield 779, 3) := by decide +kernel
theorem dX12_beginWork_10 : decode cX12_beginWork 10 = .ok (.aload_n 0, 1) := by decide +kernel
theorem dX12_beginWork_11 : decode cX12_beginWork 11 = .ok (.iconst 0, 1) := by decide +kernel
theorem dX12_beginWork_12 : decode cX12_beginWork 12 = .ok (.putfield 782, 3) := by decide +kernel
theorem dX12_beginWork_15 : decode cX12_beginWork 15 = .ok (.aload_n 0, 1) := by decide +kernel
theorem dX12_beginWork_16 : decode cX12_beginWork 16 = .ok (.iconst 0, 1) := by decide +kernel
theorem dX12_beginWork_17 : decode cX12_beginWork 17 = .ok (.putfield 846, 3) := by decide +kernel
theorem dX12_beginWork_20 : decode cX12_beginWork 20 = .ok (.return_, 1) := by decide +kernel
theorem dX12_broken_0 : decode cX12_broken 0 = .ok (.aload_n 0, 1) := by decide +kernel
theorem dX12_broken_1 : decode cX12_broken 1 = .ok (.iload_n 1, 1) := by decide +kernel
theorem dX12_broken_2 : decode cX12_broken 2 = .ok (.ifCond .lt 11, 3) := by decide +kernel
theorem dX12_broken_5 : decode cX12_broken 5 = .ok (.iload_n 1, 1) := by decide +kernel
theorem dX12_broken_6 : decode cX12_broken 6 = .ok (.aload_n 0, 1) := by decide +kernel
theorem dX12_broken_7 : decode cX12_broken 7 = .ok (.getfield 872, 3) := by decide +kernel
theorem dX12_broken_10 : decode cX12_broken 10 = .ok (.if_icmp .lt 7, 3) := by decide +kernel
theorem dX12_broken_13 : decode cX12_broken 13 = .ok (.iconst 1, 1) := by decide +kernel
theorem dX12_broken_14 : decode cX12_broken 14 = .ok (.goto 4, 3) := by decide +kernel
theorem dX12_broken_17 : decode cX12_broken 17 = .ok (.iconst 0, 1) := by decide +kernel
theorem dX12_broken_18 : decode cX12_broken 18 = .ok (.putfield 388, 3) := by decide +kernel
theorem dX12_broken_21 : decode cX12_broken 21 = .ok (.aload_n 0, 1) := by decide +kernel
theorem dX12_broken_22 : decode cX12_broken 22 = .ok (.getfield 388, 3) := by decide +kernel
theorem dX12_broken_25 : decode cX12_broken 25 = .ok (.ifCond .le 7, 3) := by decide +kernel
theorem dX12_broken_28 : decode cX12_broken 28 = .ok (.iconst 0, 1) := by decide +kernel
theorem dX12_broken_29 : decode cX12_broken 29 = .ok (.goto 9, 3) := by decide +kernel
theorem dX12_broken_32 : decode cX12_broken 32 = .ok (.aload_n 0, 1) := by decide +kernel
theorem dX12_broken_33 : decode cX12_broken 33 = .ok (.getfield 312, 3) := by decide +kernel
theorem dX12_broken_36 : decode cX12_broken 36 = .ok (.iload_n 1, 1) := by decide +kernel
theorem dX12_broken_37 : decode cX12_broken 37 = .ok (.iaload, 1) := by decide +kernel
theorem dX12_broken_38 : decode cX12_broken 38 = .ok (.ireturn, 1) := by decide +kernel
theorem dX12_byteAt_0 : decode cX12_byteAt 0 = .ok (.iload_n 1, 1) := by decide +kernel
theorem dX12_byteAt_1 : decode cX12_byteAt 1 = .ok (.aload_n 0, 1) := by decide +kernel
theorem dX12_byteAt_2 : decode cX12_byteAt 2 = .ok (.getfield 391, 3) := by decide +kernel
theorem dX12_byteAt_5 : decode cX12_byteAt 5 = .ok (.if_icmp .ge 16, 3) := by decide +kernel
theorem dX12_byteAt_8 : decode cX12_byteAt 8 = .ok (.aload_n 0, 1) := by decide +kernel
theorem dX12_byteAt_9 : decode cX12_byteAt 9 = .ok (.getfield 7, 3) := by decide +kernel
theorem dX12_byteAt_12 : decode cX12_byteAt 12 = .ok (.iload_n 1, 1) := by decide +kernel
theorem dX12_byteAt_13 : decode cX12_byteAt 13 = .ok (.baload, 1) := by decide +kernel
theorem dX12_byteAt_14 : decode cX12_byteAt 14 = .ok (.sipush 255, 3) := by decide +kernel
theorem dX12_byteAt_17 : decode cX12_byteAt 17 = .ok (.iand, 1) := by decide +kernel
theorem dX12_byteAt_18 : decode cX12_byteAt 18 = .ok (.goto 4, 3) := by decide +kernel
theorem dX12_byteAt_21 : decode cX12_byteAt 21 = .ok (.iconst (-1), 1) := by decide +kernel
theorem dX12_byteAt_22 : decode cX12_byteAt 22 = .ok (.ireturn, 1) := by decide +kernel
theorem dX12_bytes_0 : decode cX12_bytes 0 = .ok (.aload_n 0, 1) := by decide +kernel
theorem dX12_bytes_1 : decode cX12_bytes 1 = .ok (.aload_n 0, 1) := by decide +kernel
theorem dX12_bytes_2 : decode cX12_bytes 2 = .ok (.iload_n 1, 1) := by decide +kernel
theorem dX12_bytes_3 : decode cX12_bytes 3 = .ok (.invokevirtual 542, 3) := by decide +kernel
theorem dX12_bytes_6 : decode cX12_bytes 6 = .ok (.ifCond .eq 7, 3) := by decide +kernel
theorem dX12_bytes_9 : decode cX12_bytes 9 = .ok (.iconst 0, 1) := by decide +kernel
theorem dX12_bytes_10 : decode cX12_bytes 10 = .ok (.goto 4, 3) := by decide +kernel
theorem dX12_bytes_13 : decode cX12_bytes 13 = .ok (.iconst 1, 1) := by decide +kernel
theorem dX12_bytes_14 : decode cX12_bytes 14 = .ok (.putfield 388, 3) := by decide +kernel
theorem dX12_bytes_17 : decode cX12_bytes 17 = .ok (.aload_n 0, 1) := by decide +kernel
theorem dX12_bytes_18 : decode cX12_bytes 18 = .ok (.getfield 388, 3) := by decide +kernel
theorem dX12_bytes_21 : decode cX12_bytes 21 = .ok (.ifCond .le 5, 3) := by decide +kernel
theorem dX12_bytes_24 : decode cX12_bytes 24 = .ok (.iconst 0, 1) := by decide +kernel
theorem dX12_bytes_25 : decode cX12_bytes 25 = .ok (.ireturn, 1) := by decide +kernel
theorem dX12_bytes_26 : decode cX12_bytes 26 = .ok (.aload_n 0, 1) := by decide +kernel
theorem dX12_bytes_27 : decode cX12_bytes 27 = .ok (.aload_n 0, 1) := by decide +kernel
theorem dX12_bytes_28 : decode cX12_bytes 28 = .ok (.iload_n 1, 1) := by decide +kernel
theorem dX12_bytes_29 : decode cX12_bytes 29 = .ok (.invokevirtual 972, 3) := by decide +kernel
theorem dX12_bytes_32 : decode cX12_bytes 32 = .ok (.ifCond .eq 7, 3) := by decide +kernel
theorem dX12_bytes_35 : decode cX12_bytes 35 = .ok (.iconst 0, 1) := by decide +kernel
theorem dX12_bytes_36 : decode cX12_bytes 36 = .ok (.goto 4, 3) := by decide +kernel
theorem dX12_bytes_39 : decode cX12_bytes 39 = .ok (.iconst 2, 1) := by decide +kernel
theorem dX12_bytes_40 : decode cX12_bytes 40 = .ok (.putfield 388, 3) := by decide +kernel
theorem dX12_bytes_43 : decode cX12_bytes 43 = .ok (.aload_n 0, 1) := by decide +kernel
theorem dX12_bytes_44 : decode cX12_bytes 44 = .ok (.getfield 388, 3) := by decide +kernel
theorem dX12_bytes_47 : decode cX12_bytes 47 = .ok (.ifCond .le 5, 3) := by decide +kernel
theorem dX12_bytes_50 : decode cX12_bytes 50 = .ok (.iconst 0, 1) := by decide +kernel
theorem dX12_bytes_51 : decode cX12_bytes 51 = .ok (.ireturn, 1) := by decide +kernel
theorem dX12_bytes_52 : decode cX12_bytes 52 = .ok (.iconst 0, 1) := by decide +kernel
theorem dX12_bytes_53 : decode cX12_bytes 53 = .ok (.istore_n 2, 1) := by decide +kernel
theorem dX12_bytes_54 : decode cX12_bytes 54 = .ok (.iload_n 2, 1) := by decide +kernel
theorem dX12_bytes_55 : decode cX12_bytes 55 = .ok (.aload_n 0, 1) := by decide +kernel
theorem dX12_bytes_56 : decode cX12_bytes 56 = .ok (.getfield 953, 3) := by decide +kernel
theorem dX12_bytes_59 : decode cX12_bytes 59 = .ok (.if_icmp .ge 21, 3) := by decide +kernel
theorem dX12_bytes_62 : decode cX12_bytes 62 = .ok (.aload_n 0, 1) := by decide +kernel
theorem dX12_bytes_63 : decode cX12_bytes 63 = .ok (.getfield 7, 3) := by decide +kernel
theorem dX12_bytes_66 : decode cX12_bytes 66 = .ok (.iload_n 2, 1) := by decide +kernel
theorem dX12_bytes_67 : decode cX12_bytes 67 = .ok (.aload_n 0, 1) := by decide +kernel
theorem dX12_bytes_68 : decode cX12_bytes 68 = .ok (.getfield 369, 3) := by decide +kernel
theorem dX12_bytes_71 : decode cX12_bytes 71 = .ok (.iload_n 2, 1) := by decide +kernel
theorem dX12_bytes_72 : decode cX12_bytes 72 = .ok (.baload, 1) := by decide +kernel
theorem dX12_bytes_73 : decode cX12_bytes 73 = .ok (.bastore, 1) := by decide +kernel
theorem dX12_bytes_74 : decode cX12_bytes 74 = .ok (.iinc 2 1, 3) := by decide +kernel
theorem dX12_bytes_77 : decode cX12_bytes 77 = .ok (.goto (-23), 3) := by decide +kernel
theorem dX12_bytes_80 : decode cX12_bytes 80 = .ok (.aload_n 0, 1) := by decide +kernel
theorem dX12_bytes_81 : decode cX12_bytes 81 = .ok (.aload_n 0, 1) := by decide +kernel
theorem dX12_bytes_82 : decode cX12_bytes 82 = .ok (.getfield 953, 3) := by decide +kernel
theorem dX12_bytes_85 : decode cX12_bytes 85 = .ok (.putfield 391, 3) := by decide +kernel
theorem dX12_bytes_88 : decode cX12_bytes 88 = .ok (.aload_n 0, 1) := by decide +kernel
theorem dX12_bytes_89 : decode cX12_bytes 89 = .ok (.getfield 391, 3) := by decide +kernel
theorem dX12_bytes_92 : decode cX12_bytes 92 = .ok (.ireturn, 1) := by decide +kernel
theorem dX12_check_0 : decode cX12_check 0 = .ok (.iconst 1, 1) := by decide +kernel
theorem dX12_check_1 : decode cX12_check 1 = .ok (.istore_n 3, 1) := by decide +kernel
theorem dX12_check_2 : decode cX12_check 2 = .ok (.iload_n 1, 1) := by decide +kernel
theorem dX12_check_3 : decode cX12_check 3 = .ok (.istore 4, 2) := by decide +kernel
theorem dX12_check_5 : decode cX12_check 5 = .ok (.iload 4, 2) := by decide +kernel
theorem dX12_check_7 : decode cX12_check 7 = .ok (.iload_n 2, 1) := by decide +kernel
theorem dX12_check_8 : decode cX12_check 8 = .ok (.if_icmp .ge 24, 3) := by decide +kernel
theorem dX12_check_11 : decode cX12_check 11 = .ok (.iload_n 3, 1) := by decide +kernel
theorem dX12_check_12 : decode cX12_check 12 = .ok (.ldc_w 956, 3) := by decide +kernel
theorem dX12_check_15 : decode cX12_check 15 = .ok (.imul, 1) := by decide +kernel
theorem dX12_check_16 : decode cX12_check 16 = .ok (.aload_n 0, 1) := by decide +kernel
theorem dX12_check_17 : decode cX12_check 17 = .ok (.iload 4, 2) := by decide +kernel
theorem dX12_check_19 : decode cX12_check 19 = .ok (.baload, 1) := by decide +kernel
theorem dX12_check_20 : decode cX12_check 20 = .ok (.sipush 255, 3) := by decide +kernel
theorem dX12_check_23 : decode cX12_check 23 = .ok (.iand, 1) := by decide +kernel
theorem dX12_check_24 : decode cX12_check 24 = .ok (.ixor, 1) := by decide +kernel
theorem dX12_check_25 : decode cX12_check 25 = .ok (.istore_n 3, 1) := by decide +kernel
theorem dX12_check_26 : decode cX12_check 26 = .ok (.iinc 4 1, 3) := by decide +kernel
theorem dX12_check_29 : decode cX12_check 29 = .ok (.goto (-24), 3) := by decide +kernel
theorem dX12_check_32 : decode cX12_check 32 = .ok (.iload_n 3, 1) := by decide +kernel
theorem dX12_check_33 : decode cX12_check 33 = .ok (.ireturn, 1) := by decide +kernel
theorem dX12_checkLinks_0 : decode cX12_checkLinks 0 = .ok (.iconst 0, 1) := by decide +kernel
theorem dX12_checkLinks_1 : decode cX12_checkLinks 1 = .ok (.istore_n 1, 1) := by decide +kernel
theorem dX12_checkLinks_2 : decode cX12_checkLinks 2 = .ok (.iload_n 1, 1) := by decide +kernel
theorem dX12_checkLinks_3 : decode cX12_checkLinks 3 = .ok (.aload_n 0, 1) := by decide +kernel
theorem dX12_checkLinks_4 : decode cX12_checkLinks 4 = .ok (.getfield 183, 3) := by decide +kernel
theorem dX12_checkLinks_7 : decode cX12_checkLinks 7 = .ok (.iconst 4, 1) := by decide +kernel
theorem dX12_checkLinks_8 : decode cX12_checkLinks 8 = .ok (.iaload, 1) := by decide +kernel
theorem dX12_checkLinks_9 : decode cX12_checkLinks 9 = .ok (.if_icmp .ge 131, 3) := by decide +kernel
theorem dX12_checkLinks_12 : decode cX12_checkLinks 12 = .ok (.aload_n 0, 1) := by decide +kernel
theorem dX12_checkLinks_13 : decode cX12_checkLinks 13 = .ok (.getfield 625, 3) := by decide +kernel
theorem dX12_checkLinks_16 : decode cX12_checkLinks 16 = .ok (.ifCond .ne 124, 3) := by decide +kernel
theorem dX12_checkLinks_19 : decode cX12_checkLinks 19 = .ok (.iconst 0, 1) := by decide +kernel
theorem dX12_checkLinks_20 : decode cX12_checkLinks 20 = .ok (.istore_n 2, 1) := by decide +kernel
theorem dX12_checkLinks_21 : decode cX12_checkLinks 21 = .ok (.iload_n 2, 1) := by decide +kernel
theorem dX12_checkLinks_22 : decode cX12_checkLinks 22 = .ok (.aload_n 0, 1) := by decide +kernel
theorem dX12_checkLinks_23 : decode cX12_checkLinks 23 = .ok (.iconst 4, 1) := by decide +kernel
theorem dX12_checkLinks_24 : decode cX12_checkLinks 24 = .ok (.iload_n 1, 1) := by decide +kernel
theorem dX12_checkLinks_25 : decode cX12_checkLinks 25 = .ok (.invokevirtual 570, 3) := by decide +kernel
theorem dX12_checkLinks_28 : decode cX12_checkLinks 28 = .ok (.if_icmp .ge 106, 3) := by decide +kernel
theorem dX12_checkLinks_31 : decode cX12_checkLinks 31 = .ok (.aload_n 0, 1) := by decide +kernel
theorem dX12_checkLinks_32 : decode cX12_checkLinks 32 = .ok (.getfield 625, 3) := by decide +kernel
theorem dX12_checkLinks_35 : decode cX12_checkLinks 35 = .ok (.ifCond .ne 99, 3) := by decide +kernel
theorem dX12_checkLinks_38 : decode cX12_checkLinks 38 = .ok (.aload_n 0, 1) := by decide +kernel
theorem dX12_checkLinks_39 : decode cX12_checkLinks 39 = .ok (.iconst 4, 1) := by decide +kernel
theorem dX12_checkLinks_40 : decode cX12_checkLinks 40 = .ok (.iload_n 1, 1) := by decide +kernel
theorem dX12_checkLinks_41 : decode cX12_checkLinks 41 = .ok (.iload_n 2, 1) := by decide +kernel
theorem dX12_checkLinks_42 : decode cX12_checkLinks 42 = .ok (.invokevirtual 573, 3) := by decide +kernel
theorem dX12_checkLinks_45 : decode cX12_checkLinks 45 = .ok (.ifCond .eq 13, 3) := by decide +kernel
theorem dX12_checkLinks_48 : decode cX12_checkLinks 48 = .ok (.aload_n 0, 1) := by decide +kernel
theorem dX12_checkLinks_49 : decode cX12_checkLinks 49 = .ok (.iconst 4, 1) := by decide +kernel
theorem dX12_checkLinks_50 : decode cX12_checkLinks 50 = .ok (.iload_n 1, 1) := by decide +kernel
theorem dX12_checkLinks_51 : decode cX12_checkLinks 51 = .ok (.iload_n 2, 1) := by decide +kernel
theorem dX12_checkLinks_52 : decode cX12_checkLinks 52 = .ok (.invokevirtual 577, 3) := by decide +kernel
theorem dX12_checkLinks_55 : decode cX12_checkLinks 55 = .ok (.goto 6, 3) := by decide +kernel
theorem dX12_checkLinks_58 : decode cX12_checkLinks 58 = .ok (.ldc2_w 433, 3) := by decide +kernel
theorem dX12_checkLinks_61 : decode cX12_checkLinks 61 = .ok (.lstore_n 3, 1) := by decide +kernel
theorem dX12_checkLinks_62 : decode cX12_checkLinks 62 = .ok (.lload_n 3, 1) := by decide +kernel
theorem dX12_checkLinks_63 : decode cX12_checkLinks 63 = .ok (.ldc2_w 433, 3) := by decide +kernel
theorem dX12_checkLinks_66 : decode cX12_checkLinks 66 = .ok (.lcmp, 1) := by decide +kernel
theorem dX12_checkLinks_67 : decode cX12_checkLinks 67 = .ok (.ifCond .eq 61, 3) := by decide +kernel
theorem dX12_checkLinks_70 : decode cX12_checkLinks 70 = .ok (.aload_n 0, 1) := by decide +kernel
theorem dX12_checkLinks_71 : decode cX12_checkLinks 71 = .ok (.aload_n 0, 1) := by decide +kernel
theorem dX12_checkLinks_72 : decode cX12_checkLinks 72 = .ok (.getfield 189, 3) := by decide +kernel
theorem dX12_checkLinks_75 : decode cX12_checkLinks 75 = .ok (.aload_n 0, 1) := by decide +kernel
theorem dX12_checkLinks_76 : decode cX12_checkLinks 76 = .ok (.iconst 4, 1) := by decide +kernel
theorem dX12_checkLinks_77 : decode cX12_checkLinks 77 = .ok (.lload_n 3, 1) := by decide +kernel
theorem dX12_checkLinks_78 : decode cX12_checkLinks 78 = .ok (.l2i, 1) := by decide +kernel
theorem dX12_checkLinks_79 : decode cX12_checkLinks 79 = .ok (.invokevirtual 545, 3) := by decide +kernel
theorem dX12_checkLinks_82 : decode cX12_checkLinks 82 = .ok (.iaload, 1) := by decide +kernel
theorem dX12_checkLinks_83 : decode cX12_checkLinks 83 = .ok (.aload_n 0, 1) := by decide +kernel
theorem dX12_checkLinks_84 : decode cX12_checkLinks 84 = .ok (.aload_n 0, 1) := by decide +kernel
theorem dX12_checkLinks_85 : decode cX12_checkLinks 85 = .ok (.getfield 189, 3) := by decide +kernel
theorem dX12_checkLinks_88 : decode cX12_checkLinks 88 = .ok (.aload_n 0, 1) := by decide +kernel
theorem dX12_checkLinks_89 : decode cX12_checkLinks 89 = .ok (.iconst 4, 1) := by decide +kernel
theorem dX12_checkLinks_90 : decode cX12_checkLinks 90 = .ok (.iload_n 1, 1) := by decide +kernel
theorem dX12_checkLinks_91 : decode cX12_checkLinks 91 = .ok (.invokevirtual 545, 3) := by decide +kernel
theorem dX12_checkLinks_94 : decode cX12_checkLinks 94 = .ok (.iaload, 1) := by decide +kernel
theorem dX12_checkLinks_95 : decode cX12_checkLinks 95 = .ok (.iload_n 2, 1) := by decide +kernel
theorem dX12_checkLinks_96 : decode cX12_checkLinks 96 = .ok (.invokevirtual 492, 3) := by decide +kernel
theorem dX12_checkLinks_99 : decode cX12_checkLinks 99 = .ok (.invokevirtual 449, 3) := by decide +kernel
theorem dX12_checkLinks_102 : decode cX12_checkLinks 102 = .ok (.ifCond .ne 26, 3) := by decide +kernel
theorem dX12_checkLinks_105 : decode cX12_checkLinks 105 = .ok (.aload_n 0, 1) := by decide +kernel
theorem dX12_checkLinks_106 : decode cX12_checkLinks 106 = .ok (.iconst 4, 1) := by decide +kernel
theorem dX12_checkLinks_107 : decode cX12_checkLinks 107 = .ok (.aload_n 0, 1) := by decide +kernel
theorem dX12_checkLinks_108 : decode cX12_checkLinks 108 = .ok (.getfield 378, 3) := by decide +kernel
theorem dX12_checkLinks_111 : decode cX12_checkLinks 111 = .ok (.aload_n 0, 1) := by decide +kernel
theorem dX12_checkLinks_112 : decode cX12_checkLinks 112 = .ok (.getfield 195, 3) := by decide +kernel
theorem dX12_checkLinks_115 : decode cX12_checkLinks 115 = .ok (.aload_n 0, 1) := by decide +kernel
theorem dX12_checkLinks_116 : decode cX12_checkLinks 116 = .ok (.iconst 4, 1) := by decide +kernel
theorem dX12_checkLinks_117 : decode cX12_checkLinks 117 = .ok (.iload_n 1, 1) := by decide +kernel
theorem dX12_checkLinks_118 : decode cX12_checkLinks 118 = .ok (.invokevirtual 545, 3) := by decide +kernel
theorem dX12_checkLinks_121 : decode cX12_checkLinks 121 = .ok (.iaload, 1) := by decide +kernel
theorem dX12_checkLinks_122 : decode cX12_checkLinks 122 = .ok (.iload_n 2, 1) := by decide +kernel
theorem dX12_checkLinks_123 : decode cX12_checkLinks 123 = .ok (.iadd, 1) := by decide +kernel
theorem dX12_checkLinks_124 : decode cX12_checkLinks 124 = .ok (.iaload, 1) := by decide +kernel
theorem dX12_checkLinks_125 : decode cX12_checkLinks 125 = .ok (.invokevirtual 653, 3) := by decide +kernel
theorem dX12_checkLinks_128 : decode cX12_checkLinks 128 = .ok (.iinc 2 1, 3) := by decide +kernel
theorem dX12_checkLinks_131 : decode cX12_checkLinks 131 = .ok (.goto (-110), 3) := by decide +kernel
theorem dX12_checkLinks_134 : decode cX12_checkLinks 134 = .ok (.iinc 1 1, 3) := by decide +kernel
theorem dX12_checkLinks_137 : decode cX12_checkLinks 137 = .ok (.goto (-135), 3) := by decide +kernel
theorem dX12_checkLinks_140 : decode cX12_checkLinks 140 = .ok (.return_, 1) := by decide +kernel
theorem dX12_checkOrder_0 : decode cX12_checkOrder 0 = .ok (.iconst 0, 1) := by decide +kernel
theorem dX12_checkOrder_1 : decode cX12_checkOrder 1 = .ok (.istore_n 1, 1) := by decide +kernel
theorem dX12_checkOrder_2 : decode cX12_checkOrder 2 = .ok (.iload_n 1, 1) := by decide +kernel
theorem dX12_checkOrder_3 : decode cX12_checkOrder 3 = .ok (.aload_n 0, 1) := by decide +kernel
theorem dX12_checkOrder_4 : decode cX12_checkOrder 4 = .ok (.getfield 183, 3) := by decide +kernel
theorem dX12_checkOrder_7 : decode cX12_checkOrder 7 = .ok (.iconst 4, 1) := by decide +kernel
theorem dX12_checkOrder_8 : decode cX12_checkOrder 8 = .ok (.iaload, 1) := by decide +kernel
theorem dX12_checkOrder_9 : decode cX12_checkOrder 9 = .ok (.if_icmp .ge 16, 3) := by decide +kernel
theorem dX12_checkOrder_12 : decode cX12_checkOrder 12 = .ok (.aload_n 0, 1) := by decide +kernel
theorem dX12_checkOrder_13 : decode cX12_checkOrder 13 = .ok (.getfield 249, 3) := by decide +kernel
theorem dX12_checkOrder_16 : decode cX12_checkOrder 16 = .ok (.iload_n 1, 1) := by decide +kernel
theorem dX12_checkOrder_17 : decode cX12_checkOrder 17 = .ok (.iconst 0, 1) := by decide +kernel
theorem dX12_checkOrder_18 : decode cX12_checkOrder 18 = .ok (.bastore, 1) := by decide +kernel
theorem dX12_checkOrder_19 : decode cX12_checkOrder 19 = .ok (.iinc 1 1, 3) := by decide +kernel
theorem dX12_checkOrder_22 : decode cX12_checkOrder 22 = .ok (.goto (-20), 3) := by decide +kernel
theorem dX12_checkOrder_25 : decode cX12_checkOrder 25 = .ok (.iconst 0, 1) := by decide +kernel
theorem dX12_checkOrder_26 : decode cX12_checkOrder 26 = .ok (.istore_n 1, 1) := by decide +kernel
theorem dX12_checkOrder_27 : decode cX12_checkOrder 27 = .ok (.iconst 0, 1) := by decide +kernel
theorem dX12_checkOrder_28 : decode cX12_checkOrder 28 = .ok (.istore_n 2, 1) := by decide +kernel
theorem dX12_checkOrder_29 : decode cX12_checkOrder 29 = .ok (.iload_n 2, 1) := by decide +kernel
theorem dX12_checkOrder_30 : decode cX12_checkOrder 30 = .ok (.aload_n 0, 1) := by decide +kernel
theorem dX12_checkOrder_31 : decode cX12_checkOrder 31 = .ok (.getfield 234, 3) := by decide +kernel
theorem dX12_checkOrder_34 : decode cX12_checkOrder 34 = .ok (.iconst 4, 1) := by decide +kernel
theorem dX12_checkOrder_35 : decode cX12_checkOrder 35 = .ok (.iaload, 1) := by decide +kernel
theorem dX12_checkOrder_36 : decode cX12_checkOrder 36 = .ok (.if_icmp .ge 32, 3) := by decide +kernel
theorem dX12_checkOrder_39 : decode cX12_checkOrder 39 = .ok (.aload_n 0, 1) := by decide +kernel
theorem dX12_checkOrder_40 : decode cX12_checkOrder 40 = .ok (.getfield 625, 3) := by decide +kernel
theorem dX12_checkOrder_43 : decode cX12_checkOrder 43 = .ok (.ifCond .ne 25, 3) := by decide +kernel
theorem dX12_checkOrder_46 : decode cX12_checkOrder 46 = .ok (.aload_n 0, 1) := by decide +kernel
theorem dX12_checkOrder_47 : decode cX12_checkOrder 47 = .ok (.aload_n 0, 1) := by decide +kernel
theorem dX12_checkOrder_48 : decode cX12_checkOrder 48 = .ok (.getfield 240, 3) := by decide +kernel
theorem dX12_checkOrder_51 : decode cX12_checkOrder 51 = .ok (.sipush 512, 3) := by decide +kernel
theorem dX12_checkOrder_54 : decode cX12_checkOrder 54 = .ok (.iload_n 2, 1) := by decide +kernel
theorem dX12_checkOrder_55 : decode cX12_checkOrder 55 = .ok (.iadd, 1) := by decide +kernel
theorem dX12_checkOrder_56 : decode cX12_checkOrder 56 = .ok (.iaload, 1) := by decide +kernel
theorem dX12_checkOrder_57 : decode cX12_checkOrder 57 = .ok (.iload_n 1, 1) := by decide +kernel
theorem dX12_checkOrder_58 : decode cX12_checkOrder 58 = .ok (.invokevirtual 1001, 3) := by decide +kernel
theorem dX12_checkOrder_61 : decode cX12_checkOrder 61 = .ok (.istore_n 1, 1) := by decide +kernel
theorem dX12_checkOrder_62 : decode cX12_checkOrder 62 = .ok (.iinc 2 1, 3) := by decide +kernel
theorem dX12_checkOrder_65 : decode cX12_checkOrder 65 = .ok (.goto (-36), 3) := by decide +kernel
theorem dX12_checkOrder_68 : decode cX12_checkOrder 68 = .ok (.iconst 0, 1) := by decide +kernel
theorem dX12_checkOrder_69 : decode cX12_checkOrder 69 = .ok (.istore_n 2, 1) := by decide +kernel
theorem dX12_checkOrder_70 : decode cX12_checkOrder 70 = .ok (.iload_n 2, 1) := by decide +kernel
theorem dX12_checkOrder_71 : decode cX12_checkOrder 71 = .ok (.iload_n 1, 1) := by decide +kernel
theorem dX12_checkOrder_72 : decode cX12_checkOrder 72 = .ok (.if_icmp .ge 84, 3) := by decide +kernel
theorem dX12_checkOrder_75 : decode cX12_checkOrder 75 = .ok (.aload_n 0, 1) := by decide +kernel
theorem dX12_checkOrder_76 : decode cX12_checkOrder 76 = .ok (.getfield 625, 3) := by decide +kernel
theorem dX12_checkOrder_79 : decode cX12_checkOrder 79 = .ok (.ifCond .ne 77, 3) := by decide +kernel
theorem dX12_checkOrder_82 : decode cX12_checkOrder 82 = .ok (.iconst 0, 1) := by decide +kernel
theorem dX12_checkOrder_83 : decode cX12_checkOrder 83 = .ok (.istore_n 3, 1) := by decide +kernel
theorem dX12_checkOrder_84 : decode cX12_checkOrder 84 = .ok (.iload_n 3, 1) := by decide +kernel
theorem dX12_checkOrder_85 : decode cX12_checkOrder 85 = .ok (.aload_n 0, 1) := by decide +kernel
theorem dX12_checkOrder_86 : decode cX12_checkOrder 86 = .ok (.iconst 4, 1) := by decide +kernel
theorem dX12_checkOrder_87 : decode cX12_checkOrder 87 = .ok (.iload_n 2, 1) := by decide +kernel
theorem dX12_checkOrder_88 : decode cX12_checkOrder 88 = .ok (.invokevirtual 570, 3) := by decide +kernel
theorem dX12_checkOrder_91 : decode cX12_checkOrder 91 = .ok (.if_icmp .ge 59, 3) := by decide +kernel
theorem dX12_checkOrder_94 : decode cX12_checkOrder 94 = .ok (.aload_n 0, 1) := by decide +kernel
theorem dX12_checkOrder_95 : decode cX12_checkOrder 95 = .ok (.getfield 625, 3) := by decide +kernel
theorem dX12_checkOrder_98 : decode cX12_checkOrder 98 = .ok (.ifCond .ne 52, 3) := by decide +kernel
theorem dX12_checkOrder_101 : decode cX12_checkOrder 101 = .ok (.aload_n 0, 1) := by decide +kernel
theorem dX12_checkOrder_102 : decode cX12_checkOrder 102 = .ok (.iconst 4, 1) := by decide +kernel
theorem dX12_checkOrder_103 : decode cX12_checkOrder 103 = .ok (.iload_n 2, 1) := by decide +kernel
theorem dX12_checkOrder_104 : decode cX12_checkOrder 104 = .ok (.iload_n 3, 1) := by decide +kernel
theorem dX12_checkOrder_105 : decode cX12_checkOrder 105 = .ok (.invokevirtual 573, 3) := by decide +kernel
theorem dX12_checkOrder_108 : decode cX12_checkOrder 108 = .ok (.ifCond .eq 13, 3) := by decide +kernel
theorem dX12_checkOrder_111 : decode cX12_checkOrder 111 = .ok (.aload_n 0, 1) := by decide +kernel
theorem dX12_checkOrder_112 : decode cX12_checkOrder 112 = .ok (.iconst 4, 1) := by decide +kernel
theorem dX12_checkOrder_113 : decode cX12_checkOrder 113 = .ok (.iload_n 2, 1) := by decide +kernel
theorem dX12_checkOrder_114 : decode cX12_checkOrder 114 = .ok (.iload_n 3, 1) := by decide +kernel
theorem dX12_checkOrder_115 : decode cX12_checkOrder 115 = .ok (.invokevirtual 577, 3) := by decide +kernel
theorem dX12_checkOrder_118 : decode cX12_checkOrder 118 = .ok (.goto 6, 3) := by decide +kernel
theorem dX12_checkOrder_121 : decode cX12_checkOrder 121 = .ok (.ldc2_w 433, 3) := by decide +kernel
theorem dX12_checkOrder_124 : decode cX12_checkOrder 124 = .ok (.lstore 4, 2) := by decide +kernel
theorem dX12_checkOrder_126 : decode cX12_checkOrder 126 = .ok (.lload 4, 2) := by decide +kernel
theorem dX12_checkOrder_128 : decode cX12_checkOrder 128 = .ok (.ldc2_w 433, 3) := by decide +kernel
theorem dX12_checkOrder_131 : decode cX12_checkOrder 131 = .ok (.lcmp, 1) := by decide +kernel
theorem dX12_checkOrder_132 : decode cX12_checkOrder 132 = .ok (.ifCond .eq 12, 3) := by decide +kernel
theorem dX12_checkOrder_135 : decode cX12_checkOrder 135 = .ok (.aload_n 0, 1) := by decide +kernel
theorem dX12_checkOrder_136 : decode cX12_checkOrder 136 = .ok (.lload 4, 2) := by decide +kernel
theorem dX12_checkOrder_138 : decode cX12_checkOrder 138 = .ok (.l2i, 1) := by decide +kernel
theorem dX12_checkOrder_139 : decode cX12_checkOrder 139 = .ok (.iload_n 1, 1) := by decide +kernel
theorem dX12_checkOrder_140 : decode cX12_checkOrder 140 = .ok (.invokevirtual 1001, 3) := by decide +kernel
theorem dX12_checkOrder_143 : decode cX12_checkOrder 143 = .ok (.istore_n 1, 1) := by decide +kernel
theorem dX12_checkOrder_144 : decode cX12_checkOrder 144 = .ok (.iinc 3 1, 3) := by decide +kernel
theorem dX12_checkOrder_147 : decode cX12_checkOrder 147 = .ok (.goto (-63), 3) := by decide +kernel
theorem dX12_checkOrder_150 : decode cX12_checkOrder 150 = .ok (.iinc 2 1, 3) := by decide +kernel
theorem dX12_checkOrder_153 : decode cX12_checkOrder 153 = .ok (.goto (-83), 3) := by decide +kernel
theorem dX12_checkOrder_156 : decode cX12_checkOrder 156 = .ok (.aload_n 0, 1) := by decide +kernel
theorem dX12_checkOrder_157 : decode cX12_checkOrder 157 = .ok (.getfield 625, 3) := by decide +kernel
theorem dX12_checkOrder_160 : decode cX12_checkOrder 160 = .ok (.ifCond .ne 25, 3) := by decide +kernel
theorem dX12_checkOrder_163 : decode cX12_checkOrder 163 = .ok (.iload_n 1, 1) := by decide +kernel
theorem dX12_checkOrder_164 : decode cX12_checkOrder 164 = .ok (.aload_n 0, 1) := by decide +kernel
theorem dX12_checkOrder_165 : decode cX12_checkOrder 165 = .ok (.getfield 183, 3) := by decide +kernel
theorem dX12_checkOrder_168 : decode cX12_checkOrder 168 = .ok (.iconst 4, 1) := by decide +kernel
theorem dX12_checkOrder_169 : decode cX12_checkOrder 169 = .ok (.iaload, 1) := by decide +kernel
theorem dX12_checkOrder_170 : decode cX12_checkOrder 170 = .ok (.if_icmp .ge 15, 3) := by decide +kernel
theorem dX12_checkOrder_173 : decode cX12_checkOrder 173 = .ok (.aload_n 0, 1) := by decide +kernel
theorem dX12_checkOrder_174 : decode cX12_checkOrder 174 = .ok (.bipush 7, 2) := by decide +kernel
theorem dX12_checkOrder_176 : decode cX12_checkOrder 176 = .ok (.aload_n 0, 1) := by decide +kernel
theorem dX12_checkOrder_177 : decode cX12_checkOrder 177 = .ok (.getfield 375, 3) := by decide +kernel
theorem dX12_checkOrder_180 : decode cX12_checkOrder 180 = .ok (.iload_n 1, 1) := by decide +kernel
theorem dX12_checkOrder_181 : decode cX12_checkOrder 181 = .ok (.iaload, 1) := by decide +kernel
theorem dX12_checkOrder_182 : decode cX12_checkOrder 182 = .ok (.invokevirtual 653, 3) := by decide +kernel
theorem dX12_checkOrder_185 : decode cX12_checkOrder 185 = .ok (.return_, 1) := by decide +kernel
theorem dX12_choose_0 : decode cX12_choose 0 = .ok (.aload_n 0, 1) := by decide +kernel
theorem dX12_choose_1 : decode cX12_choose 1 = .ok (.iconst 0, 1) := by decide +kernel
theorem dX12_choose_2 : decode cX12_choose 2 = .ok (.putfield 388, 3) := by decide +kernel
theorem dX12_choose_5 : decode cX12_choose 5 = .ok (.aload_n 0, 1) := by decide +kernel
theorem dX12_choose_6 : decode cX12_choose 6 = .ok (.iload_n 1, 1) := by decide +kernel
theorem dX12_choose_7 : decode cX12_choose 7 = .ok (.iload_n 2, 1) := by decide +kernel
theorem dX12_choose_8 : decode cX12_choose 8 = .ok (.invokevirtual 600, 3) := by decide +kernel
theorem dX12_choose_11 : decode cX12_choose 11 = .ok (.ifCond .ne 5, 3) := by decide +kernel
theorem dX12_choose_14 : decode cX12_choose 14 = .ok (.iconst 0, 1) := by decide +kernel
theorem dX12_choose_15 : decode cX12_choose 15 = .ok (.ireturn, 1) := by decide +kernel
theorem dX12_choose_16 : decode cX12_choose 16 = .ok (.aload_n 0, 1) := by decide +kernel
theorem dX12_choose_17 : decode cX12_choose 17 = .ok (.getfield 246, 3) := by decide +kernel
theorem dX12_choose_20 : decode cX12_choose 20 = .ok (.aload_n 0, 1) := by decide +kernel
theorem dX12_choose_21 : decode cX12_choose 21 = .ok (.iload_n 1, 1) := by decide +kernel
theorem dX12_choose_22 : decode cX12_choose 22 = .ok (.iload_n 2, 1) := by decide +kernel
theorem dX12_choose_23 : decode cX12_choose 23 = .ok (.invokevirtual 545, 3) := by decide +kernel
theorem dX12_choose_26 : decode cX12_choose 26 = .ok (.iload_n 3, 1) := by decide +kernel
theorem dX12_choose_27 : decode cX12_choose 27 = .ok (.bastore, 1) := by decide +kernel
theorem dX12_choose_28 : decode cX12_choose 28 = .ok (.iconst 1, 1) := by decide +kernel
theorem dX12_choose_29 : decode cX12_choose 29 = .ok (.ireturn, 1) := by decide +kernel
theorem dX12_collect_0 : decode cX12_collect 0 = .ok (.aload_n 0, 1) := by decide +kernel
theorem dX12_collect_1 : decode cX12_collect 1 = .ok (.iconst 0, 1) := by decide +kernel
theorem dX12_collect_2 : decode cX12_collect 2 = .ok (.putfield 388, 3) := by decide +kernel
theorem dX12_collect_5 : decode cX12_collect 5 = .ok (.aload_n 0, 1) := by decide +kernel
theorem dX12_collect_6 : decode cX12_collect 6 = .ok (.invokevirtual 539, 3) := by decide +kernel
theorem dX12_collect_9 : decode cX12_collect 9 = .ok (.iconst 0, 1) := by decide +kernel
theorem dX12_collect_10 : decode cX12_collect 10 = .ok (.istore_n 1, 1) := by decide +kernel
theorem dX12_collect_11 : decode cX12_collect 11 = .ok (.iconst 0, 1) := by decide +kernel
theorem dX12_collect_12 : decode cX12_collect 12 = .ok (.istore_n 2, 1) := by decide +kernel
theorem dX12_collect_13 : decode cX12_collect 13 = .ok (.iload_n 2, 1) := by decide +kernel
theorem dX12_collect_14 : decode cX12_collect 14 = .ok (.aload_n 0, 1) := by decide +kernel
theorem dX12_collect_15 : decode cX12_collect 15 = .ok (.getfield 435, 3) := by decide +kernel
theorem dX12_collect_18 : decode cX12_collect 18 = .ok (.if_icmp .ge 66, 3) := by decide +kernel
theorem dX12_collect_21 : decode cX12_collect 21 = .ok (.aload_n 0, 1) := by decide +kernel
theorem dX12_collect_22 : decode cX12_collect 22 = .ok (.getfield 134, 3) := by decide +kernel
theorem dX12_collect_25 : decode cX12_collect 25 = .ok (.iload_n 2, 1) := by decide +kernel
theorem dX12_collect_26 : decode cX12_collect 26 = .ok (.baload, 1) := by decide +kernel
theorem dX12_collect_27 : decode cX12_collect 27 = .ok (.ifCond .eq 51, 3) := by decide +kernel
theorem dX12_collect_30 : decode cX12_collect 30 = .ok (.aload_n 0, 1) := by decide +kernel
theorem dX12_collect_31 : decode cX12_collect 31 = .ok (.getfield 180, 3) := by decide +kernel
theorem dX12_collect_34 : decode cX12_collect 34 = .ok (.iload_n 2, 1) := by decide +kernel
theorem dX12_collect_35 : decode cX12_collect 35 = .ok (.iaload, 1) := by decide +kernel
theorem dX12_collect_36 : decode cX12_collect 36 = .ok (.iconst (-1), 1) := by decide +kernel
theorem dX12_collect_37 : decode cX12_collect 37 = .ok (.if_icmp .eq 6, 3) := by decide +kernel
theorem dX12_collect_40 : decode cX12_collect 40 = .ok (.goto 38, 3) := by decide +kernel
theorem dX12_collect_43 : decode cX12_collect 43 = .ok (.aload_n 0, 1) := by decide +kernel
theorem dX12_collect_44 : decode cX12_collect 44 = .ok (.getfield 134, 3) := by decide +kernel
theorem dX12_collect_47 : decode cX12_collect 47 = .ok (.iload_n 2, 1) := by decide +kernel
theorem dX12_collect_48 : decode cX12_collect 48 = .ok (.iconst 0, 1) := by decide +kernel
theorem dX12_collect_49 : decode cX12_collect 49 = .ok (.bastore, 1) := by decide +kernel
theorem dX12_collect_50 : decode cX12_collect 50 = .ok (.aload_n 0, 1) := by decide +kernel
theorem dX12_collect_51 : decode cX12_collect 51 = .ok (.dup, 1) := by decide +kernel
theorem dX12_collect_52 : decode cX12_collect 52 = .ok (.getfield 461, 3) := by decide +kernel
theorem dX12_collect_55 : decode cX12_collect 55 = .ok (.aload_n 0, 1) := by decide +kernel
theorem dX12_collect_56 : decode cX12_collect 56 = .ok (.aload_n 0, 1) := by decide +kernel
theorem dX12_collect_57 : decode cX12_collect 57 = .ok (.getfield 125, 3) := by decide +kernel
theorem dX12_collect_60 : decode cX12_collect 60 = .ok (.iload_n 2, 1) := by decide +kernel
theorem dX12_collect_61 : decode cX12_collect 61 = .ok (.iaload, 1) := by decide +kernel
theorem dX12_collect_62 : decode cX12_collect 62 = .ok (.aload_n 0, 1) := by decide +kernel
theorem dX12_collect_63 : decode cX12_collect 63 = .ok (.getfield 128, 3) := by decide +kernel
theorem dX12_collect_66 : decode cX12_collect 66 = .ok (.iload_n 2, 1) := by decide +kernel
theorem dX12_collect_67 : decode cX12_collect 67 = .ok (.iaload, 1) := by decide +kernel
theorem dX12_collect_68 : decode cX12_collect 68 = .ok (.invokevirtual 455, 3) := by decide +kernel
theorem dX12_collect_71 : decode cX12_collect 71 = .ok (.isub, 1) := by decide +kernel
theorem dX12_collect_72 : decode cX12_collect 72 = .ok (.putfield 461, 3) := by decide +kernel
theorem dX12_collect_75 : decode cX12_collect 75 = .ok (.iinc 1 1, 3) := by decide +kernel
theorem dX12_collect_78 : decode cX12_collect 78 = .ok (.iinc 2 1, 3) := by decide +kernel
theorem dX12_collect_81 : decode cX12_collect 81 = .ok (.goto (-68), 3) := by decide +kernel
theorem dX12_collect_84 : decode cX12_collect 84 = .ok (.aload_n 0, 1) := by decide +kernel
theorem dX12_collect_85 : decode cX12_collect 85 = .ok (.iconst 0, 1) := by decide +kernel
theorem dX12_collect_86 : decode cX12_collect 86 = .ok (.putfield 479, 3) := by decide +kernel
theorem dX12_collect_89 : decode cX12_collect 89 = .ok (.iload_n 1, 1) := by decide +kernel
theorem dX12_collect_90 : decode cX12_collect 90 = .ok (.ireturn, 1) := by decide +kernel
theorem dX12_compared_0 : decode cX12_compared 0 = .ok (.aload_n 0, 1) := by decide +kernel
theorem dX12_compared_1 : decode cX12_compared 1 = .ok (.ldc2_w 692, 3) := by decide +kernel
theorem dX12_compared_4 : decode cX12_compared 4 = .ok (.invokevirtual 657, 3) := by decide +kernel
theorem dX12_compared_7 : decode cX12_compared 7 = .ok (.ifCond .eq 8, 3) := by decide +kernel
theorem dX12_compared_10 : decode cX12_compared 10 = .ok (.bipush 102, 2) := by decide +kernel
theorem dX12_compared_12 : decode cX12_compared 12 = .ok (.goto 79, 3) := by decide +kernel
theorem dX12_compared_15 : decode cX12_compared 15 = .ok (.aload_n 0, 1) := by decide +kernel
theorem dX12_compared_16 : decode cX12_compared 16 = .ok (.ldc2_w 694, 3) := by decide +kernel
theorem dX12_compared_19 : decode cX12_compared 19 = .ok (.invokevirtual 657, 3) := by decide +kernel
theorem dX12_compared_22 : decode cX12_compared 22 = .ok (.ifCond .eq 8, 3) := by decide +kernel
theorem dX12_compared_25 : decode cX12_compared 25 = .ok (.bipush 103, 2) := by decide +kernel
theorem dX12_compared_27 : decode cX12_compared 27 = .ok (.goto 64, 3) := by decide +kernel
theorem dX12_compared_30 : decode cX12_compared 30 = .ok (.aload_n 0, 1) := by decide +kernel
theorem dX12_compared_31 : decode cX12_compared 31 = .ok (.ldc2_w 696, 3) := by decide +kernel
theorem dX12_compared_34 : decode cX12_compared 34 = .ok (.invokevirtual 657, 3) := by decide +kernel
theorem dX12_compared_37 : decode cX12_compared 37 = .ok (.ifCond .eq 8, 3) := by decide +kernel
theorem dX12_compared_40 : decode cX12_compared 40 = .ok (.bipush 104, 2) := by decide +kernel
theorem dX12_compared_42 : decode cX12_compared 42 = .ok (.goto 49, 3) := by decide +kernel
theorem dX12_compared_45 : decode cX12_compared 45 = .ok (.aload_n 0, 1) := by decide +kernel
theorem dX12_compared_46 : decode cX12_compared 46 = .ok (.ldc2_w 698, 3) := by decide +kernel
theorem dX12_compared_49 : decode cX12_compared 49 = .ok (.invokevirtual 657, 3) := by decide +kernel
theorem dX12_compared_52 : decode cX12_compared 52 = .ok (.ifCond .eq 8, 3) := by decide +kernel
theorem dX12_compared_55 : decode cX12_compared 55 = .ok (.bipush 105, 2) := by decide +kernel
theorem dX12_compared_57 : decode cX12_compared 57 = .ok (.goto 34, 3) := by decide +kernel
theorem dX12_compared_60 : decode cX12_compared 60 = .ok (.aload_n 0, 1) := by decide +kernel
theorem dX12_compared_61 : decode cX12_compared 61 = .ok (.ldc2_w 700, 3) := by decide +kernel
theorem dX12_compared_64 : decode cX12_compared 64 = .ok (.invokevirtual 657, 3) := by decide +kernel
theorem dX12_compared_67 : decode cX12_compared 67 = .ok (.ifCond .eq 8, 3) := by decide +kernel
theorem dX12_compared_70 : decode cX12_compared 70 = .ok (.bipush 106, 2) := by decide +kernel
theorem dX12_compared_72 : decode cX12_compared 72 = .ok (.goto 19, 3) := by decide +kernel
theorem dX12_compared_75 : decode cX12_compared 75 = .ok (.aload_n 0, 1) := by decide +kernel
theorem dX12_compared_76 : decode cX12_compared 76 = .ok (.ldc2_w 702, 3) := by decide +kernel
theorem dX12_compared_79 : decode cX12_compared 79 = .ok (.invokevirtual 657, 3) := by decide +kernel
theorem dX12_compared_82 : decode cX12_compared 82 = .ok (.ifCond .eq 8, 3) := by decide +kernel
theorem dX12_compared_85 : decode cX12_compared 85 = .ok (.bipush 107, 2) := by decide +kernel
theorem dX12_compared_87 : decode cX12_compared 87 = .ok (.goto 4, 3) := by decide +kernel
theorem dX12_compared_90 : decode cX12_compared 90 = .ok (.iconst (-1), 1) := by decide +kernel
theorem dX12_compared_91 : decode cX12_compared 91 = .ok (.ireturn, 1) := by decide +kernel
theorem dX12_copy_0 : decode cX12_copy 0 = .ok (.aload_n 0, 1) := by decide +kernel
theorem dX12_copy_1 : decode cX12_copy 1 = .ok (.aload_n 0, 1) := by decide +kernel
theorem dX12_copy_2 : decode cX12_copy 2 = .ok (.iload_n 1, 1) := by decide +kernel
theorem dX12_copy_3 : decode cX12_copy 3 = .ok (.invokevirtual 473, 3) := by decide +kernel
theorem dX12_copy_6 : decode cX12_copy 6 = .ok (.ifCond .ne 7, 3) := by decide +kernel
theorem dX12_copy_9 : decode cX12_copy 9 = .ok (.iconst 1, 1) := by decide +kernel
theorem dX12_copy_10 : decode cX12_copy 10 = .ok (.goto 17, 3) := by decide +kernel
theorem dX12_copy_13 : decode cX12_copy 13 = .ok (.iload_n 2, 1) := by decide +kernel
theorem dX12_copy_14 : decode cX12_copy 14 = .ok (.ifCond .lt 8, 3) := by decide +kernel
theorem dX12_copy_17 : decode cX12_copy 17 = .ok (.iload_n 2, 1) := by decide +kernel
theorem dX12_copy_18 : decode cX12_copy 18 = .ok (.iconst 2, 1) := by decide +kernel
theorem dX12_copy_19 : decode cX12_copy 19 = .ok (.if_icmp .le 7, 3) := by decide +kernel
theorem dX12_copy_22 : decode cX12_copy 22 = .ok (.iconst 2, 1) := by decide +kernel
theorem dX12_copy_23 : decode cX12_copy 23 = .ok (.goto 4, 3) := by decide +kernel
theorem dX12_copy_26 : decode cX12_copy 26 = .ok (.iconst 0, 1) := by decide +kernel
theorem dX12_copy_27 : decode cX12_copy 27 = .ok (.putfield 388, 3) := by decide +kernel
theorem dX12_copy_30 : decode cX12_copy 30 = .ok (.aload_n 0, 1) := by decide +kernel
theorem dX12_copy_31 : decode cX12_copy 31 = .ok (.getfield 388, 3) := by decide +kernel
theorem dX12_copy_34 : decode cX12_copy 34 = .ok (.ifCond .le 5, 3) := by decide +kernel
theorem dX12_copy_37 : decode cX12_copy 37 = .ok (.iconst 0, 1) := by decide +kernel
theorem dX12_copy_38 : decode cX12_copy 38 = .ok (.ireturn, 1) := by decide +kernel
theorem dX12_copy_39 : decode cX12_copy 39 = .ok (.aload_n 0, 1) := by decide +kernel
theorem dX12_copy_40 : decode cX12_copy 40 = .ok (.invokevirtual 532, 3) := by decide +kernel
theorem dX12_copy_43 : decode cX12_copy 43 = .ok (.aload_n 0, 1) := by decide +kernel
theorem dX12_copy_44 : decode cX12_copy 44 = .ok (.iload_n 1, 1) := by decide +kernel
theorem dX12_copy_45 : decode cX12_copy 45 = .ok (.i2l, 1) := by decide +kernel
theorem dX12_copy_46 : decode cX12_copy 46 = .ok (.invokevirtual 528, 3) := by decide +kernel
theorem dX12_copy_49 : decode cX12_copy 49 = .ok (.iconst 0, 1) := by decide +kernel
theorem dX12_copy_50 : decode cX12_copy 50 = .ok (.istore_n 3, 1) := by decide +kernel
theorem dX12_copy_51 : decode cX12_copy 51 = .ok (.iload_n 3, 1) := by decide +kernel
theorem dX12_copy_52 : decode cX12_copy 52 = .ok (.aload_n 0, 1) := by decide +kernel
theorem dX12_copy_53 : decode cX12_copy 53 = .ok (.getfield 522, 3) := by decide +kernel
theorem dX12_copy_56 : decode cX12_copy 56 = .ok (.if_icmp .ge 33, 3) := by decide +kernel
theorem dX12_copy_59 : decode cX12_copy 59 = .ok (.iload_n 2, 1) := by decide +kernel
theorem dX12_copy_60 : decode cX12_copy 60 = .ok (.ifCond .le 29, 3) := by decide +kernel
theorem dX12_copy_63 : decode cX12_copy 63 = .ok (.aload_n 0, 1) := by decide +kernel
theorem dX12_copy_64 : decode cX12_copy 64 = .ok (.aload_n 0, 1) := by decide +kernel
theorem dX12_copy_65 : decode cX12_copy 65 = .ok (.getfield 177, 3) := by decide +kernel
theorem dX12_copy_68 : decode cX12_copy 68 = .ok (.iload_n 3, 1) := by decide +kernel
theorem dX12_copy_69 : decode cX12_copy 69 = .ok (.iaload, 1) := by decide +kernel
theorem dX12_copy_70 : decode cX12_copy 70 = .ok (.iload_n 2, 1) := by decide +kernel
theorem dX12_copy_71 : decode cX12_copy 71 = .ok (.iconst 2, 1) := by decide +kernel
theorem dX12_copy_72 : decode cX12_copy 72 = .ok (.if_icmp .ne 7, 3) := by decide +kernel
theorem dX12_copy_75 : decode cX12_copy 75 = .ok (.iconst 1, 1) := by decide +kernel
theorem dX12_copy_76 : decode cX12_copy 76 = .ok (.goto 4, 3) := by decide +kernel
theorem dX12_copy_79 : decode cX12_copy 79 = .ok (.iconst 0, 1) := by decide +kernel
theorem dX12_copy_80 : decode cX12_copy 80 = .ok (.invokevirtual 535, 3) := by decide +kernel
theorem dX12_copy_83 : decode cX12_copy 83 = .ok (.iinc 3 1, 3) := by decide +kernel
theorem dX12_copy_86 : decode cX12_copy 86 = .ok (.goto (-35), 3) := by decide +kernel
theorem dX12_copy_89 : decode cX12_copy 89 = .ok (.iconst 0, 1) := by decide +kernel
theorem dX12_copy_90 : decode cX12_copy 90 = .ok (.istore_n 3, 1) := by decide +kernel
theorem dX12_copy_91 : decode cX12_copy 91 = .ok (.iconst 0, 1) := by decide +kernel
theorem dX12_copy_92 : decode cX12_copy 92 = .ok (.istore 4, 2) := by decide +kernel
theorem dX12_copy_94 : decode cX12_copy 94 = .ok (.iload 4, 2) := by decide +kernel
theorem dX12_copy_96 : decode cX12_copy 96 = .ok (.aload_n 0, 1) := by decide +kernel
theorem dX12_copy_97 : decode cX12_copy 97 = .ok (.getfield 522, 3) := by decide +kernel
theorem dX12_copy_100 : decode cX12_copy 100 = .ok (.if_icmp .ge 40, 3) := by decide +kernel
theorem dX12_copy_103 : decode cX12_copy 103 = .ok (.iload_n 3, 1) := by decide +kernel
theorem dX12_copy_104 : decode cX12_copy 104 = .ok (.aload_n 0, 1) := by decide +kernel
theorem dX12_copy_105 : decode cX12_copy 105 = .ok (.aload_n 0, 1) := by decide +kernel
theorem dX12_copy_106 : decode cX12_copy 106 = .ok (.getfield 125, 3) := by decide +kernel
theorem dX12_copy_109 : decode cX12_copy 109 = .ok (.aload_n 0, 1) := by decide +kernel
theorem dX12_copy_110 : decode cX12_copy 110 = .ok (.getfield 177, 3) := by decide +kernel
theorem dX12_copy_113 : decode cX12_copy 113 = .ok (.iload 4, 2) := by decide +kernel
theorem dX12_copy_115 : decode cX12_copy 115 = .ok (.iaload, 1) := by decide +kernel
theorem dX12_copy_116 : decode cX12_copy 116 = .ok (.iaload, 1) := by decide +kernel
theorem dX12_copy_117 : decode cX12_copy 117 = .ok (.aload_n 0, 1) := by decide +kernel
theorem dX12_copy_118 : decode cX12_copy 118 = .ok (.getfield 128, 3) := by decide +kernel
theorem dX12_copy_121 : decode cX12_copy 121 = .ok (.aload_n 0, 1) := by decide +kernel
theorem dX12_copy_122 : decode cX12_copy 122 = .ok (.getfield 177, 3) := by decide +kernel
theorem dX12_copy_125 : decode cX12_copy 125 = .ok (.iload 4, 2) := by decide +kernel
theorem dX12_copy_127 : decode cX12_copy 127 = .ok (.iaload, 1) := by decide +kernel
theorem dX12_copy_128 : decode cX12_copy 128 = .ok (.iaload, 1) := by decide +kernel
theorem dX12_copy_129 : decode cX12_copy 129 = .ok (.invokevirtual 455, 3) := by decide +kernel
theorem dX12_copy_132 : decode cX12_copy 132 = .ok (.iadd, 1) := by decide +kernel
theorem dX12_copy_133 : decode cX12_copy 133 = .ok (.istore_n 3, 1) := by decide +kernel
theorem dX12_copy_134 : decode cX12_copy 134 = .ok (.iinc 4 1, 3) := by decide +kernel
theorem dX12_copy_137 : decode cX12_copy 137 = .ok (.goto (-43), 3) := by decide +kernel
theorem dX12_copy_140 : decode cX12_copy 140 = .ok (.aload_n 0, 1) := by decide +kernel
theorem dX12_copy_141 : decode cX12_copy 141 = .ok (.aload_n 0, 1) := by decide +kernel
theorem dX12_copy_142 : decode cX12_copy 142 = .ok (.getfield 435, 3) := by decide +kernel
theorem dX12_copy_145 : decode cX12_copy 145 = .ok (.aload_n 0, 1) := by decide +kernel
theorem dX12_copy_146 : decode cX12_copy 146 = .ok (.getfield 522, 3) := by decide +kernel
theorem dX12_copy_149 : decode cX12_copy 149 = .ok (.iadd, 1) := by decide +kernel
theorem dX12_copy_150 : decode cX12_copy 150 = .ok (.sipush 400, 3) := by decide +kernel
theorem dX12_copy_153 : decode cX12_copy 153 = .ok (.if_icmp .gt 15, 3) := by decide +kernel
theorem dX12_copy_156 : decode cX12_copy 156 = .ok (.aload_n 0, 1) := by decide +kernel
theorem dX12_copy_157 : decode cX12_copy 157 = .ok (.getfield 461, 3) := by decide +kernel
theorem dX12_copy_160 : decode cX12_copy 160 = .ok (.iload_n 3, 1) := by decide +kernel
theorem dX12_copy_161 : decode cX12_copy 161 = .ok (.iadd, 1) := by decide +kernel
theorem dX12_copy_162 : decode cX12_copy 162 = .ok (.sipush 4000, 3) := by decide +kernel
theorem dX12_copy_165 : decode cX12_copy 165 = .ok (.if_icmp .le 7, 3) := by decide +kernel
theorem dX12_copy_168 : decode cX12_copy 168 = .ok (.iconst 3, 1) := by decide +kernel
theorem dX12_copy_169 : decode cX12_copy 169 = .ok (.goto 4, 3) := by decide +kernel
theorem dX12_copy_172 : decode cX12_copy 172 = .ok (.iconst 0, 1) := by decide +kernel
theorem dX12_copy_173 : decode cX12_copy 173 = .ok (.putfield 388, 3) := by decide +kernel
theorem dX12_copy_176 : decode cX12_copy 176 = .ok (.aload_n 0, 1) := by decide +kernel
theorem dX12_copy_177 : decode cX12_copy 177 = .ok (.getfield 388, 3) := by decide +kernel
theorem dX12_copy_180 : decode cX12_copy 180 = .ok (.ifCond .le 5, 3) := by decide +kernel
theorem dX12_copy_183 : decode cX12_copy 183 = .ok (.iconst 0, 1) := by decide +kernel
theorem dX12_copy_184 : decode cX12_copy 184 = .ok (.ireturn, 1) := by decide +kernel
theorem dX12_copy_185 : decode cX12_copy 185 = .ok (.aload_n 0, 1) := by decide +kernel
theorem dX12_copy_186 : decode cX12_copy 186 = .ok (.getfield 435, 3) := by decide +kernel
theorem dX12_copy_189 : decode cX12_copy 189 = .ok (.istore 4, 2) := by decide +kernel
theorem dX12_copy_191 : decode cX12_copy 191 = .ok (.iconst 0, 1) := by decide +kernel
theorem dX12_copy_192 : decode cX12_copy 192 = .ok (.istore 5, 2) := by decide +kernel
theorem dX12_copy_194 : decode cX12_copy 194 = .ok (.iload 5, 2) := by decide +kernel
theorem dX12_copy_196 : decode cX12_copy 196 = .ok (.aload_n 0, 1) := by decide +kernel
theorem dX12_copy_197 : decode cX12_copy 197 = .ok (.getfield 522, 3) := by decide +kernel
theorem dX12_copy_200 : decode cX12_copy 200 = .ok (.if_icmp .ge 39, 3) := by decide +kernel
theorem dX12_copy_203 : decode cX12_copy 203 = .ok (.aload_n 0, 1) := by decide +kernel
theorem dX12_copy_204 : decode cX12_copy 204 = .ok (.aload_n 0, 1) := by decide +kernel
theorem dX12_copy_205 : decode cX12_copy 205 = .ok (.getfield 125, 3) := by decide +kernel
theorem dX12_copy_208 : decode cX12_copy 208 = .ok (.aload_n 0, 1) := by decide +kernel
theorem dX12_copy_209 : decode cX12_copy 209 = .ok (.getfield 177, 3) := by decide +kernel
theorem dX12_copy_212 : decode cX12_copy 212 = .ok (.iload 5, 2) := by decide +kernel
theorem dX12_copy_214 : decode cX12_copy 214 = .ok (.iaload, 1) := by decide +kernel
theorem dX12_copy_215 : decode cX12_copy 215 = .ok (.iaload, 1) := by decide +kernel
theorem dX12_copy_216 : decode cX12_copy 216 = .ok (.aload_n 0, 1) := by decide +kernel
theorem dX12_copy_217 : decode cX12_copy 217 = .ok (.getfield 128, 3) := by decide +kernel
theorem dX12_copy_220 : decode cX12_copy 220 = .ok (.aload_n 0, 1) := by decide +kernel
theorem dX12_copy_221 : decode cX12_copy 221 = .ok (.getfield 177, 3) := by decide +kernel
theorem dX12_copy_224 : decode cX12_copy 224 = .ok (.iload 5, 2) := by decide +kernel
theorem dX12_copy_226 : decode cX12_copy 226 = .ok (.iaload, 1) := by decide +kernel
theorem dX12_copy_227 : decode cX12_copy 227 = .ok (.iaload, 1) := by decide +kernel
theorem dX12_copy_228 : decode cX12_copy 228 = .ok (.invokevirtual 467, 3) := by decide +kernel
theorem dX12_copy_231 : decode cX12_copy 231 = .ok (.istore 6, 2) := by decide +kernel
theorem dX12_copy_233 : decode cX12_copy 233 = .ok (.iinc 5 1, 3) := by decide +kernel
theorem dX12_copy_236 : decode cX12_copy 236 = .ok (.goto (-42), 3) := by decide +kernel
theorem dX12_copy_239 : decode cX12_copy 239 = .ok (.iconst 0, 1) := by decide +kernel
theorem dX12_copy_240 : decode cX12_copy 240 = .ok (.istore 5, 2) := by decide +kernel
theorem dX12_copy_242 : decode cX12_copy 242 = .ok (.iload 5, 2) := by decide +kernel
theorem dX12_copy_244 : decode cX12_copy 244 = .ok (.aload_n 0, 1) := by decide +kernel
theorem dX12_copy_245 : decode cX12_copy 245 = .ok (.getfield 522, 3) := by decide +kernel
theorem dX12_copy_248 : decode cX12_copy 248 = .ok (.if_icmp .ge 146, 3) := by decide +kernel
theorem dX12_copy_251 : decode cX12_copy 251 = .ok (.aload_n 0, 1) := by decide +kernel
theorem dX12_copy_252 : decode cX12_copy 252 = .ok (.getfield 177, 3) := by decide +kernel
theorem dX12_copy_255 : decode cX12_copy 255 = .ok (.iload 5, 2) := by decide +kernel
theorem dX12_copy_257 : decode cX12_copy 257 = .ok (.iaload, 1) := by decide +kernel
theorem dX12_copy_258 : decode cX12_copy 258 = .ok (.istore 6, 2) := by decide +kernel
theorem dX12_copy_260 : decode cX12_copy 260 = .ok (.iconst 0, 1) := by decide +kernel
theorem dX12_copy_261 : decode cX12_copy 261 = .ok (.istore 7, 2) := by decide +kernel
theorem dX12_copy_263 : decode cX12_copy 263 = .ok (.iload 7, 2) := by decide +kernel
theorem dX12_copy_265 : decode cX12_copy 265 = .ok (.aload_n 0, 1) := by decide +kernel
theorem dX12_copy_266 : decode cX12_copy 266 = .ok (.aload_n 0, 1) := by decide +kernel
theorem dX12_copy_267 : decode cX12_copy 267 = .ok (.getfield 125, 3) := by decide +kernel
theorem dX12_copy_270 : decode cX12_copy 270 = .ok (.iload 6, 2) := by decide +kernel
theorem dX12_copy_272 : decode cX12_copy 272 = .ok (.iaload, 1) := by decide +kernel
theorem dX12_copy_273 : decode cX12_copy 273 = .ok (.aload_n 0, 1) := by decide +kernel
theorem dX12_copy_274 : decode cX12_copy 274 = .ok (.getfield 128, 3) := by decide +kernel
theorem dX12_copy_277 : decode cX12_copy 277 = .ok (.iload 6, 2) := by decide +kernel
theorem dX12_copy_279 : decode cX12_copy 279 = .ok (.iaload, 1) := by decide +kernel
theorem dX12_copy_280 : decode cX12_copy 280 = .ok (.invokevirtual 455, 3) := by decide +kernel
theorem dX12_copy_283 : decode cX12_copy 283 = .ok (.if_icmp .ge 105, 3) := by decide +kernel
theorem dX12_copy_286 : decode cX12_copy 286 = .ok (.aload_n 0, 1) := by decide +kernel
theorem dX12_copy_287 : decode cX12_copy 287 = .ok (.getfield 138, 3) := by decide +kernel
theorem dX12_copy_290 : decode cX12_copy 290 = .ok (.aload_n 0, 1) := by decide +kernel
theorem dX12_copy_291 : decode cX12_copy 291 = .ok (.getfield 131, 3) := by decide +kernel
theorem dX12_copy_294 : decode cX12_copy 294 = .ok (.iload 6, 2) := by decide +kernel
theorem dX12_copy_296 : decode cX12_copy 296 = .ok (.iaload, 1) := by decide +kernel
theorem dX12_copy_297 : decode cX12_copy 297 = .ok (.iload 7, 2) := by decide +kernel
theorem dX12_copy_299 : decode cX12_copy 299 = .ok (.iadd, 1) := by decide +kernel
theorem dX12_copy_300 : decode cX12_copy 300 = .ok (.laload, 1) := by decide +kernel
theorem dX12_copy_301 : decode cX12_copy 301 = .ok (.lstore 8, 2) := by decide +kernel
theorem dX12_copy_303 : decode cX12_copy 303 = .ok (.aload_n 0, 1) := by decide +kernel
theorem dX12_copy_304 : decode cX12_copy 304 = .ok (.iload 6, 2) := by decide +kernel
theorem dX12_copy_306 : decode cX12_copy 306 = .ok (.iload 7, 2) := by decide +kernel
theorem dX12_copy_308 : decode cX12_copy 308 = .ok (.invokevirtual 512, 3) := by decide +kernel
theorem dX12_copy_311 : decode cX12_copy 311 = .ok (.ifCond .eq 28, 3) := by decide +kernel
theorem dX12_copy_314 : decode cX12_copy 314 = .ok (.lload 8, 2) := by decide +kernel
theorem dX12_copy_316 : decode cX12_copy 316 = .ok (.ldc2_w 433, 3) := by decide +kernel
theorem dX12_copy_319 : decode cX12_copy 319 = .ok (.lcmp, 1) := by decide +kernel
theorem dX12_copy_320 : decode cX12_copy 320 = .ok (.ifCond .eq 19, 3) := by decide +kernel
theorem dX12_copy_323 : decode cX12_copy 323 = .ok (.aload_n 0, 1) := by decide +kernel
theorem dX12_copy_324 : decode cX12_copy 324 = .ok (.getfield 180, 3) := by decide +kernel
theorem dX12_copy_327 : decode cX12_copy 327 = .ok (.lload 8, 2) := by decide +kernel
theorem dX12_copy_329 : decode cX12_copy 329 = .ok (.l2i, 1) := by decide +kernel
theorem dX12_copy_330 : decode cX12_copy 330 = .ok (.iaload, 1) := by decide +kernel
theorem dX12_copy_331 : decode cX12_copy 331 = .ok (.iconst (-1), 1) := by decide +kernel
theorem dX12_copy_332 : decode cX12_copy 332 = .ok (.if_icmp .eq 7, 3) := by decide +kernel
theorem dX12_copy_335 : decode cX12_copy 335 = .ok (.iconst 1, 1) := by decide +kernel
theorem dX12_copy_336 : decode cX12_copy 336 = .ok (.goto 4, 3) := by decide +kernel
theorem dX12_copy_339 : decode cX12_copy 339 = .ok (.iconst 0, 1) := by decide +kernel
theorem dX12_copy_340 : decode cX12_copy 340 = .ok (.istore 10, 2) := by decide +kernel
theorem dX12_copy_342 : decode cX12_copy 342 = .ok (.aload_n 0, 1) := by decide +kernel
theorem dX12_copy_343 : decode cX12_copy 343 = .ok (.getfield 138, 3) := by decide +kernel
theorem dX12_copy_346 : decode cX12_copy 346 = .ok (.aload_n 0, 1) := by decide +kernel
theorem dX12_copy_347 : decode cX12_copy 347 = .ok (.getfield 131, 3) := by decide +kernel
theorem dX12_copy_350 : decode cX12_copy 350 = .ok (.iload 4, 2) := by decide +kernel
theorem dX12_copy_352 : decode cX12_copy 352 = .ok (.iload 5, 2) := by decide +kernel
theorem dX12_copy_354 : decode cX12_copy 354 = .ok (.iadd, 1) := by decide +kernel
theorem dX12_copy_355 : decode cX12_copy 355 = .ok (.iaload, 1) := by decide +kernel
theorem dX12_copy_356 : decode cX12_copy 356 = .ok (.iload 7, 2) := by decide +kernel
theorem dX12_copy_358 : decode cX12_copy 358 = .ok (.iadd, 1) := by decide +kernel
theorem dX12_copy_359 : decode cX12_copy 359 = .ok (.iload 10, 2) := by decide +kernel
theorem dX12_copy_361 : decode cX12_copy 361 = .ok (.ifCond .eq 18, 3) := by decide +kernel
theorem dX12_copy_364 : decode cX12_copy 364 = .ok (.iload 4, 2) := by decide +kernel
theorem dX12_copy_366 : decode cX12_copy 366 = .ok (.aload_n 0, 1) := by decide +kernel
theorem dX12_copy_367 : decode cX12_copy 367 = .ok (.getfield 180, 3) := by decide +kernel
theorem dX12_copy_370 : decode cX12_copy 370 = .ok (.lload 8, 2) := by decide +kernel
theorem dX12_copy_372 : decode cX12_copy 372 = .ok (.l2i, 1) := by decide +kernel
theorem dX12_copy_373 : decode cX12_copy 373 = .ok (.iaload, 1) := by decide +kernel
theorem dX12_copy_374 : decode cX12_copy 374 = .ok (.iadd, 1) := by decide +kernel
theorem dX12_copy_375 : decode cX12_copy 375 = .ok (.i2l, 1) := by decide +kernel
theorem dX12_copy_376 : decode cX12_copy 376 = .ok (.goto 5, 3) := by decide +kernel
theorem dX12_copy_379 : decode cX12_copy 379 = .ok (.lload 8, 2) := by decide +kernel
theorem dX12_copy_381 : decode cX12_copy 381 = .ok (.lastore, 1) := by decide +kernel
theorem dX12_copy_382 : decode cX12_copy 382 = .ok (.iinc 7 1, 3) := by decide +kernel
theorem dX12_copy_385 : decode cX12_copy 385 = .ok (.goto (-122), 3) := by decide +kernel
theorem dX12_copy_388 : decode cX12_copy 388 = .ok (.iinc 5 1, 3) := by decide +kernel
theorem dX12_copy_391 : decode cX12_copy 391 = .ok (.goto (-149), 3) := by decide +kernel
theorem dX12_copy_394 : decode cX12_copy 394 = .ok (.iload 4, 2) := by decide +kernel
theorem dX12_copy_396 : decode cX12_copy 396 = .ok (.ireturn, 1) := by decide +kernel
theorem dX12_copyNow_0 : decode cX12_copyNow 0 = .ok (.aload_n 0, 1) := by decide +kernel
theorem dX12_copyNow_1 : decode cX12_copyNow 1 = .ok (.getfield 183, 3) := by decide +kernel
theorem dX12_copyNow_4 : decode cX12_copyNow 4 = .ok (.iload_n 1, 1) := by decide +kernel
theorem dX12_copyNow_5 : decode cX12_copyNow 5 = .ok (.aload_n 0, 1) := by decide +kernel
theorem dX12_copyNow_6 : decode cX12_copyNow 6 = .ok (.getfield 183, 3) := by decide +kernel
theorem dX12_copyNow_9 : decode cX12_copyNow 9 = .ok (.iconst 4, 1) := by decide +kernel
theorem dX12_copyNow_10 : decode cX12_copyNow 10 = .ok (.iaload, 1) := by decide +kernel
theorem dX12_copyNow_11 : decode cX12_copyNow 11 = .ok (.iastore, 1) := by decide +kernel
theorem dX12_copyNow_12 : decode cX12_copyNow 12 = .ok (.iconst 0, 1) := by decide +kernel
theorem dX12_copyNow_13 : decode cX12_copyNow 13 = .ok (.istore_n 2, 1) := by decide +kernel
theorem dX12_copyNow_14 : decode cX12_copyNow 14 = .ok (.iload_n 2, 1) := by decide +kernel
theorem dX12_copyNow_15 : decode cX12_copyNow 15 = .ok (.aload_n 0, 1) := by decide +kernel
theorem dX12_copyNow_16 : decode cX12_copyNow 16 = .ok (.getfield 183, 3) := by decide +kernel
theorem dX12_copyNow_19 : decode cX12_copyNow 19 = .ok (.iconst 4, 1) := by decide +kernel
theorem dX12_copyNow_20 : decode cX12_copyNow 20 = .ok (.iaload, 1) := by decide +kernel
theorem dX12_copyNow_21 : decode cX12_copyNow 21 = .ok (.if_icmp .ge 97, 3) := by decide +kernel
theorem dX12_copyNow_24 : decode cX12_copyNow 24 = .ok (.aload_n 0, 1) := by decide +kernel
theorem dX12_copyNow_25 : decode cX12_copyNow 25 = .ok (.getfield 186, 3) := by decide +kernel
theorem dX12_copyNow_28 : decode cX12_copyNow 28 = .ok (.aload_n 0, 1) := by decide +kernel
theorem dX12_copyNow_29 : decode cX12_copyNow 29 = .ok (.iload_n 1, 1) := by decide +kernel
theorem dX12_copyNow_30 : decode cX12_copyNow 30 = .ok (.iload_n 2, 1) := by decide +kernel
theorem dX12_copyNow_31 : decode cX12_copyNow 31 = .ok (.invokevirtual 545, 3) := by decide +kernel
theorem dX12_copyNow_34 : decode cX12_copyNow 34 = .ok (.aload_n 0, 1) := by decide +kernel
theorem dX12_copyNow_35 : decode cX12_copyNow 35 = .ok (.getfield 186, 3) := by decide +kernel
theorem dX12_copyNow_38 : decode cX12_copyNow 38 = .ok (.aload_n 0, 1) := by decide +kernel
theorem dX12_copyNow_39 : decode cX12_copyNow 39 = .ok (.iconst 4, 1) := by decide +kernel
theorem dX12_copyNow_40 : decode cX12_copyNow 40 = .ok (.iload_n 2, 1) := by decide +kernel
theorem dX12_copyNow_41 : decode cX12_copyNow 41 = .ok (.invokevirtual 545, 3) := by decide +kernel
theorem dX12_copyNow_44 : decode cX12_copyNow 44 = .ok (.iaload, 1) := by decide +kernel
theorem dX12_copyNow_45 : decode cX12_copyNow 45 = .ok (.iastore, 1) := by decide +kernel
theorem dX12_copyNow_46 : decode cX12_copyNow 46 = .ok (.aload_n 0, 1) := by decide +kernel
theorem dX12_copyNow_47 : decode cX12_copyNow 47 = .ok (.getfield 189, 3) := by decide +kernel
theorem dX12_copyNow_50 : decode cX12_copyNow 50 = .ok (.aload_n 0, 1) := by decide +kernel
theorem dX12_copyNow_51 : decode cX12_copyNow 51 = .ok (.iload_n 1, 1) := by decide +kernel
theorem dX12_copyNow_52 : decode cX12_copyNow 52 = .ok (.iload_n 2, 1) := by decide +kernel
theorem dX12_copyNow_53 : decode cX12_copyNow 53 = .ok (.invokevirtual 545, 3) := by decide +kernel
theorem dX12_copyNow_56 : decode cX12_copyNow 56 = .ok (.aload_n 0, 1) := by decide +kernel
theorem dX12_copyNow_57 : decode cX12_copyNow 57 = .ok (.getfield 189, 3) := by decide +kernel
theorem dX12_copyNow_60 : decode cX12_copyNow 60 = .ok (.aload_n 0, 1) := by decide +kernel
theorem dX12_copyNow_61 : decode cX12_copyNow 61 = .ok (.iconst 4, 1) := by decide +kernel
theorem dX12_copyNow_62 : decode cX12_copyNow 62 = .ok (.iload_n 2, 1) := by decide +kernel
theorem dX12_copyNow_63 : decode cX12_copyNow 63 = .ok (.invokevirtual 545, 3) := by decide +kernel
theorem dX12_copyNow_66 : decode cX12_copyNow 66 = .ok (.iaload, 1) := by decide +kernel
theorem dX12_copyNow_67 : decode cX12_copyNow 67 = .ok (.iastore, 1) := by decide +kernel
theorem dX12_copyNow_68 : decode cX12_copyNow 68 = .ok (.aload_n 0, 1) := by decide +kernel
theorem dX12_copyNow_69 : decode cX12_copyNow 69 = .ok (.getfield 192, 3) := by decide +kernel
theorem dX12_copyNow_72 : decode cX12_copyNow 72 = .ok (.aload_n 0, 1) := by decide +kernel
theorem dX12_copyNow_73 : decode cX12_copyNow 73 = .ok (.iload_n 1, 1) := by decide +kernel
theorem dX12_copyNow_74 : decode cX12_copyNow 74 = .ok (.iload_n 2, 1) := by decide +kernel
theorem dX12_copyNow_75 : decode cX12_copyNow 75 = .ok (.invokevirtual 545, 3) := by decide +kernel
theorem dX12_copyNow_78 : decode cX12_copyNow 78 = .ok (.aload_n 0, 1) := by decide +kernel
theorem dX12_copyNow_79 : decode cX12_copyNow 79 = .ok (.getfield 192, 3) := by decide +kernel
theorem dX12_copyNow_82 : decode cX12_copyNow 82 = .ok (.aload_n 0, 1) := by decide +kernel
theorem dX12_copyNow_83 : decode cX12_copyNow 83 = .ok (.iconst 4, 1) := by decide +kernel
theorem dX12_copyNow_84 : decode cX12_copyNow 84 = .ok (.iload_n 2, 1) := by decide +kernel
theorem dX12_copyNow_85 : decode cX12_copyNow 85 = .ok (.invokevirtual 545, 3) := by decide +kernel
theorem dX12_copyNow_88 : decode cX12_copyNow 88 = .ok (.iaload, 1) := by decide +kernel
theorem dX12_copyNow_89 : decode cX12_copyNow 89 = .ok (.iastore, 1) := by decide +kernel
theorem dX12_copyNow_90 : decode cX12_copyNow 90 = .ok (.aload_n 0, 1) := by decide +kernel
theorem dX12_copyNow_91 : decode cX12_copyNow 91 = .ok (.getfield 195, 3) := by decide +kernel
theorem dX12_copyNow_94 : decode cX12_copyNow 94 = .ok (.aload_n 0, 1) := by decide +kernel
theorem dX12_copyNow_95 : decode cX12_copyNow 95 = .ok (.iload_n 1, 1) := by decide +kernel
theorem dX12_copyNow_96 : decode cX12_copyNow 96 = .ok (.iload_n 2, 1) := by decide +kernel
theorem dX12_copyNow_97 : decode cX12_copyNow 97 = .ok (.invokevirtual 545, 3) := by decide +kernel
theorem dX12_copyNow_100 : decode cX12_copyNow 100 = .ok (.aload_n 0, 1) := by decide +kernel
theorem dX12_copyNow_101 : decode cX12_copyNow 101 = .ok (.getfield 195, 3) := by decide +kernel
theorem dX12_copyNow_104 : decode cX12_copyNow 104 = .ok (.aload_n 0, 1) := by decide +kernel
theorem dX12_copyNow_105 : decode cX12_copyNow 105 = .ok (.iconst 4, 1) := by decide +kernel
theorem dX12_copyNow_106 : decode cX12_copyNow 106 = .ok (.iload_n 2, 1) := by decide +kernel
theorem dX12_copyNow_107 : decode cX12_copyNow 107 = .ok (.invokevirtual 545, 3) := by decide +kernel
theorem dX12_copyNow_110 : decode cX12_copyNow 110 = .ok (.iaload, 1) := by decide +kernel
theorem dX12_copyNow_111 : decode cX12_copyNow 111 = .ok (.iastore, 1) := by decide +kernel
theorem dX12_copyNow_112 : decode cX12_copyNow 112 = .ok (.iinc 2 1, 3) := by decide +kernel
theorem dX12_copyNow_115 : decode cX12_copyNow 115 = .ok (.goto (-101), 3) := by decide +kernel
theorem dX12_copyNow_118 : decode cX12_copyNow 118 = .ok (.iconst 0, 1) := by decide +kernel
theorem dX12_copyNow_119 : decode cX12_copyNow 119 = .ok (.istore_n 2, 1) := by decide +kernel
theorem dX12_copyNow_120 : decode cX12_copyNow 120 = .ok (.iload_n 2, 1) := by decide +kernel
theorem dX12_copyNow_121 : decode cX12_copyNow 121 = .ok (.sipush 4000, 3) := by decide +kernel
theorem dX12_copyNow_124 : decode cX12_copyNow 124 = .ok (.if_icmp .ge 31, 3) := by decide +kernel
theorem dX12_copyNow_127 : decode cX12_copyNow 127 = .ok (.aload_n 0, 1) := by decide +kernel
theorem dX12_copyNow_128 : decode cX12_copyNow 128 = .ok (.getfield 243, 3) := by decide +kernel
theorem dX12_copyNow_131 : decode cX12_copyNow 131 = .ok (.sipush 4000, 3) := by decide +kernel
theorem dX12_copyNow_134 : decode cX12_copyNow 134 = .ok (.iload_n 1, 1) := by decide +kernel
theorem dX12_copyNow_135 : decode cX12_copyNow 135 = .ok (.imul, 1) := by decide +kernel
theorem dX12_copyNow_136 : decode cX12_copyNow 136 = .ok (.iload_n 2, 1) := by decide +kernel
theorem dX12_copyNow_137 : decode cX12_copyNow 137 = .ok (.iadd, 1) := by decide +kernel
theorem dX12_copyNow_138 : decode cX12_copyNow 138 = .ok (.aload_n 0, 1) := by decide +kernel
theorem dX12_copyNow_139 : decode cX12_copyNow 139 = .ok (.getfield 243, 3) := by decide +kernel
theorem dX12_copyNow_142 : decode cX12_copyNow 142 = .ok (.sipush 16000, 3) := by decide +kernel
theorem dX12_copyNow_145 : decode cX12_copyNow 145 = .ok (.iload_n 2, 1) := by decide +kernel
theorem dX12_copyNow_146 : decode cX12_copyNow 146 = .ok (.iadd, 1) := by decide +kernel
theorem dX12_copyNow_147 : decode cX12_copyNow 147 = .ok (.laload, 1) := by decide +kernel
theorem dX12_copyNow_148 : decode cX12_copyNow 148 = .ok (.lastore, 1) := by decide +kernel
theorem dX12_copyNow_149 : decode cX12_copyNow 149 = .ok (.iinc 2 1, 3) := by decide +kernel
theorem dX12_copyNow_152 : decode cX12_copyNow 152 = .ok (.goto (-32), 3) := by decide +kernel
theorem dX12_copyNow_155 : decode cX12_copyNow 155 = .ok (.aload_n 0, 1) := by decide +kernel
theorem dX12_copyNow_156 : decode cX12_copyNow 156 = .ok (.getfield 234, 3) := by decide +kernel
theorem dX12_copyNow_159 : decode cX12_copyNow 159 = .ok (.iload_n 1, 1) := by decide +kernel
theorem dX12_copyNow_160 : decode cX12_copyNow 160 = .ok (.iconst 0, 1) := by decide +kernel
theorem dX12_copyNow_161 : decode cX12_copyNow 161 = .ok (.iastore, 1) := by decide +kernel
theorem dX12_copyNow_162 : decode cX12_copyNow 162 = .ok (.iconst 0, 1) := by decide +kernel
theorem dX12_copyNow_163 : decode cX12_copyNow 163 = .ok (.istore_n 2, 1) := by decide +kernel
theorem dX12_copyNow_164 : decode cX12_copyNow 164 = .ok (.iload_n 2, 1) := by decide +kernel
theorem dX12_copyNow_165 : decode cX12_copyNow 165 = .ok (.aload_n 0, 1) := by decide +kernel
theorem dX12_copyNow_166 : decode cX12_copyNow 166 = .ok (.getfield 234, 3) := by decide +kernel
theorem dX12_copyNow_169 : decode cX12_copyNow 169 = .ok (.iconst 4, 1) := by decide +kernel
theorem dX12_copyNow_170 : decode cX12_copyNow 170 = .ok (.iaload, 1) := by decide +kernel
theorem dX12_copyNow_171 : decode cX12_copyNow 171 = .ok (.if_icmp .ge 34, 3) := by decide +kernel
theorem dX12_copyNow_174 : decode cX12_copyNow 174 = .ok (.aload_n 0, 1) := by decide +kernel
theorem dX12_copyNow_175 : decode cX12_copyNow 175 = .ok (.iload_n 1, 1) := by decide +kernel
