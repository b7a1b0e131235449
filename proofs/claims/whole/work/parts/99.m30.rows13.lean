theorem dX8_needDominators_145 : decode cX8_needDominators 145 = .ok (.iconst 1, 1) := by decide +kernel
theorem dX8_needDominators_146 : decode cX8_needDominators 146 = .ok (.iastore, 1) := by decide +kernel
theorem dX8_needDominators_147 : decode cX8_needDominators 147 = .ok (.iinc 3 1, 3) := by decide +kernel
theorem dX8_needDominators_150 : decode cX8_needDominators 150 = .ok (.goto (-43), 3) := by decide +kernel
theorem dX8_needDominators_153 : decode cX8_needDominators 153 = .ok (.aload_n 1, 1) := by decide +kernel
theorem dX8_needDominators_154 : decode cX8_needDominators 154 = .ok (.getfield 64, 3) := by decide +kernel
theorem dX8_needDominators_157 : decode cX8_needDominators 157 = .ok (.iconst 1, 1) := by decide +kernel
theorem dX8_needDominators_158 : decode cX8_needDominators 158 = .ok (.isub, 1) := by decide +kernel
theorem dX8_needDominators_159 : decode cX8_needDominators 159 = .ok (.istore_n 3, 1) := by decide +kernel
theorem dX8_needDominators_160 : decode cX8_needDominators 160 = .ok (.iload_n 3, 1) := by decide +kernel
theorem dX8_needDominators_161 : decode cX8_needDominators 161 = .ok (.ifCond .lt 58, 3) := by decide +kernel
theorem dX8_needDominators_164 : decode cX8_needDominators 164 = .ok (.aload_n 0, 1) := by decide +kernel
theorem dX8_needDominators_165 : decode cX8_needDominators 165 = .ok (.getfield 27, 3) := by decide +kernel
theorem dX8_needDominators_168 : decode cX8_needDominators 168 = .ok (.iload_n 3, 1) := by decide +kernel
theorem dX8_needDominators_169 : decode cX8_needDominators 169 = .ok (.iaload, 1) := by decide +kernel
theorem dX8_needDominators_170 : decode cX8_needDominators 170 = .ok (.ifCond .lt 43, 3) := by decide +kernel
theorem dX8_needDominators_173 : decode cX8_needDominators 173 = .ok (.aload_n 0, 1) := by decide +kernel
theorem dX8_needDominators_174 : decode cX8_needDominators 174 = .ok (.getfield 30, 3) := by decide +kernel
theorem dX8_needDominators_177 : decode cX8_needDominators 177 = .ok (.aload_n 0, 1) := by decide +kernel
theorem dX8_needDominators_178 : decode cX8_needDominators 178 = .ok (.getfield 27, 3) := by decide +kernel
theorem dX8_needDominators_181 : decode cX8_needDominators 181 = .ok (.iload_n 3, 1) := by decide +kernel
theorem dX8_needDominators_182 : decode cX8_needDominators 182 = .ok (.iaload, 1) := by decide +kernel
theorem dX8_needDominators_183 : decode cX8_needDominators 183 = .ok (.dup2, 1) := by decide +kernel
theorem dX8_needDominators_184 : decode cX8_needDominators 184 = .ok (.iaload, 1) := by decide +kernel
theorem dX8_needDominators_185 : decode cX8_needDominators 185 = .ok (.aload_n 0, 1) := by decide +kernel
theorem dX8_needDominators_186 : decode cX8_needDominators 186 = .ok (.getfield 30, 3) := by decide +kernel
theorem dX8_needDominators_189 : decode cX8_needDominators 189 = .ok (.iload_n 3, 1) := by decide +kernel
theorem dX8_needDominators_190 : decode cX8_needDominators 190 = .ok (.iaload, 1) := by decide +kernel
theorem dX8_needDominators_191 : decode cX8_needDominators 191 = .ok (.iadd, 1) := by decide +kernel
theorem dX8_needDominators_192 : decode cX8_needDominators 192 = .ok (.iastore, 1) := by decide +kernel
theorem dX8_needDominators_193 : decode cX8_needDominators 193 = .ok (.aload_n 0, 1) := by decide +kernel
theorem dX8_needDominators_194 : decode cX8_needDominators 194 = .ok (.getfield 33, 3) := by decide +kernel
theorem dX8_needDominators_197 : decode cX8_needDominators 197 = .ok (.aload_n 0, 1) := by decide +kernel
theorem dX8_needDominators_198 : decode cX8_needDominators 198 = .ok (.getfield 27, 3) := by decide +kernel
theorem dX8_needDominators_201 : decode cX8_needDominators 201 = .ok (.iload_n 3, 1) := by decide +kernel
theorem dX8_needDominators_202 : decode cX8_needDominators 202 = .ok (.iaload, 1) := by decide +kernel
theorem dX8_needDominators_203 : decode cX8_needDominators 203 = .ok (.dup2, 1) := by decide +kernel
theorem dX8_needDominators_204 : decode cX8_needDominators 204 = .ok (.iaload, 1) := by decide +kernel
theorem dX8_needDominators_205 : decode cX8_needDominators 205 = .ok (.aload_n 0, 1) := by decide +kernel
theorem dX8_needDominators_206 : decode cX8_needDominators 206 = .ok (.getfield 33, 3) := by decide +kernel
theorem dX8_needDominators_209 : decode cX8_needDominators 209 = .ok (.iload_n 3, 1) := by decide +kernel
theorem dX8_needDominators_210 : decode cX8_needDominators 210 = .ok (.iaload, 1) := by decide +kernel
theorem dX8_needDominators_211 : decode cX8_needDominators 211 = .ok (.iadd, 1) := by decide +kernel
theorem dX8_needDominators_212 : decode cX8_needDominators 212 = .ok (.iastore, 1) := by decide +kernel
theorem dX8_needDominators_213 : decode cX8_needDominators 213 = .ok (.iinc 3 (-1), 3) := by decide +kernel
theorem dX8_needDominators_216 : decode cX8_needDominators 216 = .ok (.goto (-56), 3) := by decide +kernel
theorem dX8_needDominators_219 : decode cX8_needDominators 219 = .ok (.return_, 1) := by decide +kernel
theorem dX8_needHolders_0 : decode cX8_needHolders 0 = .ok (.aload_n 0, 1) := by decide +kernel
theorem dX8_needHolders_1 : decode cX8_needHolders 1 = .ok (.getfield 60, 3) := by decide +kernel
theorem dX8_needHolders_4 : decode cX8_needHolders 4 = .ok (.iconst 1, 1) := by decide +kernel
theorem dX8_needHolders_5 : decode cX8_needHolders 5 = .ok (.iand, 1) := by decide +kernel
theorem dX8_needHolders_6 : decode cX8_needHolders 6 = .ok (.ifCond .eq 4, 3) := by decide +kernel
theorem dX8_needHolders_9 : decode cX8_needHolders 9 = .ok (.return_, 1) := by decide +kernel
theorem dX8_needHolders_10 : decode cX8_needHolders 10 = .ok (.aload_n 0, 1) := by decide +kernel
theorem dX8_needHolders_11 : decode cX8_needHolders 11 = .ok (.dup, 1) := by decide +kernel
theorem dX8_needHolders_12 : decode cX8_needHolders 12 = .ok (.getfield 60, 3) := by decide +kernel
theorem dX8_needHolders_15 : decode cX8_needHolders 15 = .ok (.iconst 1, 1) := by decide +kernel
theorem dX8_needHolders_16 : decode cX8_needHolders 16 = .ok (.ior, 1) := by decide +kernel
theorem dX8_needHolders_17 : decode cX8_needHolders 17 = .ok (.putfield 60, 3) := by decide +kernel
theorem dX8_needHolders_20 : decode cX8_needHolders 20 = .ok (.aload_n 0, 1) := by decide +kernel
theorem dX8_needHolders_21 : decode cX8_needHolders 21 = .ok (.getfield 17, 3) := by decide +kernel
theorem dX8_needHolders_24 : decode cX8_needHolders 24 = .ok (.iconst 0, 1) := by decide +kernel
theorem dX8_needHolders_25 : decode cX8_needHolders 25 = .ok (.aload_n 1, 1) := by decide +kernel
theorem dX8_needHolders_26 : decode cX8_needHolders 26 = .ok (.getfield 64, 3) := by decide +kernel
theorem dX8_needHolders_29 : decode cX8_needHolders 29 = .ok (.iconst 1, 1) := by decide +kernel
theorem dX8_needHolders_30 : decode cX8_needHolders 30 = .ok (.iadd, 1) := by decide +kernel
theorem dX8_needHolders_31 : decode cX8_needHolders 31 = .ok (.iconst 0, 1) := by decide +kernel
theorem dX8_needHolders_32 : decode cX8_needHolders 32 = .ok (.invokestatic 67, 3) := by decide +kernel
theorem dX8_needHolders_35 : decode cX8_needHolders 35 = .ok (.iconst 0, 1) := by decide +kernel
theorem dX8_needHolders_36 : decode cX8_needHolders 36 = .ok (.istore_n 2, 1) := by decide +kernel
theorem dX8_needHolders_37 : decode cX8_needHolders 37 = .ok (.iload_n 2, 1) := by decide +kernel
theorem dX8_needHolders_38 : decode cX8_needHolders 38 = .ok (.aload_n 1, 1) := by decide +kernel
theorem dX8_needHolders_39 : decode cX8_needHolders 39 = .ok (.getfield 73, 3) := by decide +kernel
theorem dX8_needHolders_42 : decode cX8_needHolders 42 = .ok (.if_icmp .ge 26, 3) := by decide +kernel
theorem dX8_needHolders_45 : decode cX8_needHolders 45 = .ok (.aload_n 0, 1) := by decide +kernel
theorem dX8_needHolders_46 : decode cX8_needHolders 46 = .ok (.getfield 17, 3) := by decide +kernel
theorem dX8_needHolders_49 : decode cX8_needHolders 49 = .ok (.aload_n 1, 1) := by decide +kernel
theorem dX8_needHolders_50 : decode cX8_needHolders 50 = .ok (.getfield 76, 3) := by decide +kernel
theorem dX8_needHolders_53 : decode cX8_needHolders 53 = .ok (.iload_n 2, 1) := by decide +kernel
theorem dX8_needHolders_54 : decode cX8_needHolders 54 = .ok (.iaload, 1) := by decide +kernel
theorem dX8_needHolders_55 : decode cX8_needHolders 55 = .ok (.iconst 1, 1) := by decide +kernel
theorem dX8_needHolders_56 : decode cX8_needHolders 56 = .ok (.iadd, 1) := by decide +kernel
theorem dX8_needHolders_57 : decode cX8_needHolders 57 = .ok (.dup2, 1) := by decide +kernel
theorem dX8_needHolders_58 : decode cX8_needHolders 58 = .ok (.iaload, 1) := by decide +kernel
theorem dX8_needHolders_59 : decode cX8_needHolders 59 = .ok (.iconst 1, 1) := by decide +kernel
theorem dX8_needHolders_60 : decode cX8_needHolders 60 = .ok (.iadd, 1) := by decide +kernel
theorem dX8_needHolders_61 : decode cX8_needHolders 61 = .ok (.iastore, 1) := by decide +kernel
theorem dX8_needHolders_62 : decode cX8_needHolders 62 = .ok (.iinc 2 1, 3) := by decide +kernel
theorem dX8_needHolders_65 : decode cX8_needHolders 65 = .ok (.goto (-28), 3) := by decide +kernel
theorem dX8_needHolders_68 : decode cX8_needHolders 68 = .ok (.iconst 0, 1) := by decide +kernel
theorem dX8_needHolders_69 : decode cX8_needHolders 69 = .ok (.istore_n 2, 1) := by decide +kernel
theorem dX8_needHolders_70 : decode cX8_needHolders 70 = .ok (.iload_n 2, 1) := by decide +kernel
theorem dX8_needHolders_71 : decode cX8_needHolders 71 = .ok (.aload_n 1, 1) := by decide +kernel
theorem dX8_needHolders_72 : decode cX8_needHolders 72 = .ok (.getfield 79, 3) := by decide +kernel
theorem dX8_needHolders_75 : decode cX8_needHolders 75 = .ok (.aload_n 1, 1) := by decide +kernel
theorem dX8_needHolders_76 : decode cX8_needHolders 76 = .ok (.getfield 64, 3) := by decide +kernel
theorem dX8_needHolders_79 : decode cX8_needHolders 79 = .ok (.iaload, 1) := by decide +kernel
theorem dX8_needHolders_80 : decode cX8_needHolders 80 = .ok (.if_icmp .ge 49, 3) := by decide +kernel
theorem dX8_needHolders_83 : decode cX8_needHolders 83 = .ok (.aload_n 1, 1) := by decide +kernel
theorem dX8_needHolders_84 : decode cX8_needHolders 84 = .ok (.getfield 82, 3) := by decide +kernel
theorem dX8_needHolders_87 : decode cX8_needHolders 87 = .ok (.iload_n 2, 1) := by decide +kernel
theorem dX8_needHolders_88 : decode cX8_needHolders 88 = .ok (.baload, 1) := by decide +kernel
theorem dX8_needHolders_89 : decode cX8_needHolders 89 = .ok (.ifCond .eq 34, 3) := by decide +kernel
theorem dX8_needHolders_92 : decode cX8_needHolders 92 = .ok (.aload_n 1, 1) := by decide +kernel
theorem dX8_needHolders_93 : decode cX8_needHolders 93 = .ok (.getfield 86, 3) := by decide +kernel
theorem dX8_needHolders_96 : decode cX8_needHolders 96 = .ok (.iload_n 2, 1) := by decide +kernel
theorem dX8_needHolders_97 : decode cX8_needHolders 97 = .ok (.laload, 1) := by decide +kernel
theorem dX8_needHolders_98 : decode cX8_needHolders 98 = .ok (.ldc2_w 90, 3) := by decide +kernel
theorem dX8_needHolders_101 : decode cX8_needHolders 101 = .ok (.lcmp, 1) := by decide +kernel
theorem dX8_needHolders_102 : decode cX8_needHolders 102 = .ok (.ifCond .eq 21, 3) := by decide +kernel
theorem dX8_needHolders_105 : decode cX8_needHolders 105 = .ok (.aload_n 0, 1) := by decide +kernel
theorem dX8_needHolders_106 : decode cX8_needHolders 106 = .ok (.getfield 17, 3) := by decide +kernel
theorem dX8_needHolders_109 : decode cX8_needHolders 109 = .ok (.aload_n 1, 1) := by decide +kernel
theorem dX8_needHolders_110 : decode cX8_needHolders 110 = .ok (.getfield 86, 3) := by decide +kernel
theorem dX8_needHolders_113 : decode cX8_needHolders 113 = .ok (.iload_n 2, 1) := by decide +kernel
theorem dX8_needHolders_114 : decode cX8_needHolders 114 = .ok (.laload, 1) := by decide +kernel
theorem dX8_needHolders_115 : decode cX8_needHolders 115 = .ok (.l2i, 1) := by decide +kernel
theorem dX8_needHolders_116 : decode cX8_needHolders 116 = .ok (.iconst 1, 1) := by decide +kernel
theorem dX8_needHolders_117 : decode cX8_needHolders 117 = .ok (.iadd, 1) := by decide +kernel
theorem dX8_needHolders_118 : decode cX8_needHolders 118 = .ok (.dup2, 1) := by decide +kernel
theorem dX8_needHolders_119 : decode cX8_needHolders 119 = .ok (.iaload, 1) := by decide +kernel
theorem dX8_needHolders_120 : decode cX8_needHolders 120 = .ok (.iconst 1, 1) := by decide +kernel
theorem dX8_needHolders_121 : decode cX8_needHolders 121 = .ok (.iadd, 1) := by decide +kernel
theorem dX8_needHolders_122 : decode cX8_needHolders 122 = .ok (.iastore, 1) := by decide +kernel
theorem dX8_needHolders_123 : decode cX8_needHolders 123 = .ok (.iinc 2 1, 3) := by decide +kernel
theorem dX8_needHolders_126 : decode cX8_needHolders 126 = .ok (.goto (-56), 3) := by decide +kernel
theorem dX8_needHolders_129 : decode cX8_needHolders 129 = .ok (.iconst 0, 1) := by decide +kernel
theorem dX8_needHolders_130 : decode cX8_needHolders 130 = .ok (.istore_n 2, 1) := by decide +kernel
theorem dX8_needHolders_131 : decode cX8_needHolders 131 = .ok (.iload_n 2, 1) := by decide +kernel
theorem dX8_needHolders_132 : decode cX8_needHolders 132 = .ok (.aload_n 1, 1) := by decide +kernel
theorem dX8_needHolders_133 : decode cX8_needHolders 133 = .ok (.getfield 64, 3) := by decide +kernel
theorem dX8_needHolders_136 : decode cX8_needHolders 136 = .ok (.if_icmp .ge 38, 3) := by decide +kernel
theorem dX8_needHolders_139 : decode cX8_needHolders 139 = .ok (.aload_n 0, 1) := by decide +kernel
theorem dX8_needHolders_140 : decode cX8_needHolders 140 = .ok (.getfield 17, 3) := by decide +kernel
theorem dX8_needHolders_143 : decode cX8_needHolders 143 = .ok (.iload_n 2, 1) := by decide +kernel
theorem dX8_needHolders_144 : decode cX8_needHolders 144 = .ok (.iconst 1, 1) := by decide +kernel
theorem dX8_needHolders_145 : decode cX8_needHolders 145 = .ok (.iadd, 1) := by decide +kernel
theorem dX8_needHolders_146 : decode cX8_needHolders 146 = .ok (.dup2, 1) := by decide +kernel
theorem dX8_needHolders_147 : decode cX8_needHolders 147 = .ok (.iaload, 1) := by decide +kernel
theorem dX8_needHolders_148 : decode cX8_needHolders 148 = .ok (.aload_n 0, 1) := by decide +kernel
theorem dX8_needHolders_149 : decode cX8_needHolders 149 = .ok (.getfield 17, 3) := by decide +kernel
theorem dX8_needHolders_152 : decode cX8_needHolders 152 = .ok (.iload_n 2, 1) := by decide +kernel
theorem dX8_needHolders_153 : decode cX8_needHolders 153 = .ok (.iaload, 1) := by decide +kernel
theorem dX8_needHolders_154 : decode cX8_needHolders 154 = .ok (.iadd, 1) := by decide +kernel
theorem dX8_needHolders_155 : decode cX8_needHolders 155 = .ok (.iastore, 1) := by decide +kernel
theorem dX8_needHolders_156 : decode cX8_needHolders 156 = .ok (.aload_n 0, 1) := by decide +kernel
theorem dX8_needHolders_157 : decode cX8_needHolders 157 = .ok (.getfield 54, 3) := by decide +kernel
theorem dX8_needHolders_160 : decode cX8_needHolders 160 = .ok (.iload_n 2, 1) := by decide +kernel
theorem dX8_needHolders_161 : decode cX8_needHolders 161 = .ok (.aload_n 0, 1) := by decide +kernel
theorem dX8_needHolders_162 : decode cX8_needHolders 162 = .ok (.getfield 17, 3) := by decide +kernel
theorem dX8_needHolders_165 : decode cX8_needHolders 165 = .ok (.iload_n 2, 1) := by decide +kernel
theorem dX8_needHolders_166 : decode cX8_needHolders 166 = .ok (.iaload, 1) := by decide +kernel
theorem dX8_needHolders_167 : decode cX8_needHolders 167 = .ok (.iastore, 1) := by decide +kernel
theorem dX8_needHolders_168 : decode cX8_needHolders 168 = .ok (.iinc 2 1, 3) := by decide +kernel
theorem dX8_needHolders_171 : decode cX8_needHolders 171 = .ok (.goto (-40), 3) := by decide +kernel
theorem dX8_needHolders_174 : decode cX8_needHolders 174 = .ok (.iconst 0, 1) := by decide +kernel
theorem dX8_needHolders_175 : decode cX8_needHolders 175 = .ok (.istore_n 2, 1) := by decide +kernel
theorem dX8_needHolders_176 : decode cX8_needHolders 176 = .ok (.iload_n 2, 1) := by decide +kernel
theorem dX8_needHolders_177 : decode cX8_needHolders 177 = .ok (.aload_n 1, 1) := by decide +kernel
theorem dX8_needHolders_178 : decode cX8_needHolders 178 = .ok (.getfield 73, 3) := by decide +kernel
theorem dX8_needHolders_181 : decode cX8_needHolders 181 = .ok (.if_icmp .ge 26, 3) := by decide +kernel
theorem dX8_needHolders_184 : decode cX8_needHolders 184 = .ok (.aload_n 0, 1) := by decide +kernel
theorem dX8_needHolders_185 : decode cX8_needHolders 185 = .ok (.aload_n 1, 1) := by decide +kernel
theorem dX8_needHolders_186 : decode cX8_needHolders 186 = .ok (.getfield 76, 3) := by decide +kernel
theorem dX8_needHolders_189 : decode cX8_needHolders 189 = .ok (.iload_n 2, 1) := by decide +kernel
theorem dX8_needHolders_190 : decode cX8_needHolders 190 = .ok (.iaload, 1) := by decide +kernel
theorem dX8_needHolders_191 : decode cX8_needHolders 191 = .ok (.iconst (-1), 1) := by decide +kernel
theorem dX8_needHolders_192 : decode cX8_needHolders 192 = .ok (.aload_n 1, 1) := by decide +kernel
theorem dX8_needHolders_193 : decode cX8_needHolders 193 = .ok (.getfield 92, 3) := by decide +kernel
theorem dX8_needHolders_196 : decode cX8_needHolders 196 = .ok (.iload_n 2, 1) := by decide +kernel
theorem dX8_needHolders_197 : decode cX8_needHolders 197 = .ok (.iaload, 1) := by decide +kernel
theorem dX8_needHolders_198 : decode cX8_needHolders 198 = .ok (.invokevirtual 95, 3) := by decide +kernel
theorem dX8_needHolders_201 : decode cX8_needHolders 201 = .ok (.iinc 2 1, 3) := by decide +kernel
theorem dX8_needHolders_204 : decode cX8_needHolders 204 = .ok (.goto (-28), 3) := by decide +kernel
theorem dX8_needHolders_207 : decode cX8_needHolders 207 = .ok (.iconst 0, 1) := by decide +kernel
theorem dX8_needHolders_208 : decode cX8_needHolders 208 = .ok (.istore_n 2, 1) := by decide +kernel
theorem dX8_needHolders_209 : decode cX8_needHolders 209 = .ok (.iload_n 2, 1) := by decide +kernel
theorem dX8_needHolders_210 : decode cX8_needHolders 210 = .ok (.aload_n 1, 1) := by decide +kernel
theorem dX8_needHolders_211 : decode cX8_needHolders 211 = .ok (.getfield 64, 3) := by decide +kernel
theorem dX8_needHolders_214 : decode cX8_needHolders 214 = .ok (.if_icmp .ge 76, 3) := by decide +kernel
theorem dX8_needHolders_217 : decode cX8_needHolders 217 = .ok (.aload_n 1, 1) := by decide +kernel
theorem dX8_needHolders_218 : decode cX8_needHolders 218 = .ok (.getfield 79, 3) := by decide +kernel
theorem dX8_needHolders_221 : decode cX8_needHolders 221 = .ok (.iload_n 2, 1) := by decide +kernel
theorem dX8_needHolders_222 : decode cX8_needHolders 222 = .ok (.iaload, 1) := by decide +kernel
theorem dX8_needHolders_223 : decode cX8_needHolders 223 = .ok (.istore_n 3, 1) := by decide +kernel
theorem dX8_needHolders_224 : decode cX8_needHolders 224 = .ok (.iload_n 3, 1) := by decide +kernel
theorem dX8_needHolders_225 : decode cX8_needHolders 225 = .ok (.aload_n 1, 1) := by decide +kernel
theorem dX8_needHolders_226 : decode cX8_needHolders 226 = .ok (.getfield 79, 3) := by decide +kernel
theorem dX8_needHolders_229 : decode cX8_needHolders 229 = .ok (.iload_n 2, 1) := by decide +kernel
theorem dX8_needHolders_230 : decode cX8_needHolders 230 = .ok (.iconst 1, 1) := by decide +kernel
theorem dX8_needHolders_231 : decode cX8_needHolders 231 = .ok (.iadd, 1) := by decide +kernel
theorem dX8_needHolders_232 : decode cX8_needHolders 232 = .ok (.iaload, 1) := by decide +kernel
theorem dX8_needHolders_233 : decode cX8_needHolders 233 = .ok (.if_icmp .ge 51, 3) := by decide +kernel
theorem dX8_needHolders_236 : decode cX8_needHolders 236 = .ok (.aload_n 1, 1) := by decide +kernel
theorem dX8_needHolders_237 : decode cX8_needHolders 237 = .ok (.getfield 82, 3) := by decide +kernel
theorem dX8_needHolders_240 : decode cX8_needHolders 240 = .ok (.iload_n 3, 1) := by decide +kernel
theorem dX8_needHolders_241 : decode cX8_needHolders 241 = .ok (.baload, 1) := by decide +kernel
theorem dX8_needHolders_242 : decode cX8_needHolders 242 = .ok (.ifCond .eq 36, 3) := by decide +kernel
theorem dX8_needHolders_245 : decode cX8_needHolders 245 = .ok (.aload_n 1, 1) := by decide +kernel
theorem dX8_needHolders_246 : decode cX8_needHolders 246 = .ok (.getfield 86, 3) := by decide +kernel
theorem dX8_needHolders_249 : decode cX8_needHolders 249 = .ok (.iload_n 3, 1) := by decide +kernel
theorem dX8_needHolders_250 : decode cX8_needHolders 250 = .ok (.laload, 1) := by decide +kernel
theorem dX8_needHolders_251 : decode cX8_needHolders 251 = .ok (.ldc2_w 90, 3) := by decide +kernel
theorem dX8_needHolders_254 : decode cX8_needHolders 254 = .ok (.lcmp, 1) := by decide +kernel
theorem dX8_needHolders_255 : decode cX8_needHolders 255 = .ok (.ifCond .eq 23, 3) := by decide +kernel
theorem dX8_needHolders_258 : decode cX8_needHolders 258 = .ok (.aload_n 0, 1) := by decide +kernel
theorem dX8_needHolders_259 : decode cX8_needHolders 259 = .ok (.aload_n 1, 1) := by decide +kernel
theorem dX8_needHolders_260 : decode cX8_needHolders 260 = .ok (.getfield 86, 3) := by decide +kernel
theorem dX8_needHolders_263 : decode cX8_needHolders 263 = .ok (.iload_n 3, 1) := by decide +kernel
theorem dX8_needHolders_264 : decode cX8_needHolders 264 = .ok (.laload, 1) := by decide +kernel
theorem dX8_needHolders_265 : decode cX8_needHolders 265 = .ok (.l2i, 1) := by decide +kernel
theorem dX8_needHolders_266 : decode cX8_needHolders 266 = .ok (.iload_n 2, 1) := by decide +kernel
theorem dX8_needHolders_267 : decode cX8_needHolders 267 = .ok (.iload_n 3, 1) := by decide +kernel
theorem dX8_needHolders_268 : decode cX8_needHolders 268 = .ok (.aload_n 1, 1) := by decide +kernel
theorem dX8_needHolders_269 : decode cX8_needHolders 269 = .ok (.getfield 79, 3) := by decide +kernel
theorem dX8_needHolders_272 : decode cX8_needHolders 272 = .ok (.iload_n 2, 1) := by decide +kernel
theorem dX8_needHolders_273 : decode cX8_needHolders 273 = .ok (.iaload, 1) := by decide +kernel
theorem dX8_needHolders_274 : decode cX8_needHolders 274 = .ok (.isub, 1) := by decide +kernel
theorem dX8_needHolders_275 : decode cX8_needHolders 275 = .ok (.invokevirtual 95, 3) := by decide +kernel
theorem dX8_needHolders_278 : decode cX8_needHolders 278 = .ok (.iinc 3 1, 3) := by decide +kernel
theorem dX8_needHolders_281 : decode cX8_needHolders 281 = .ok (.goto (-57), 3) := by decide +kernel
theorem dX8_needHolders_284 : decode cX8_needHolders 284 = .ok (.iinc 2 1, 3) := by decide +kernel
theorem dX8_needHolders_287 : decode cX8_needHolders 287 = .ok (.goto (-78), 3) := by decide +kernel
theorem dX8_needHolders_290 : decode cX8_needHolders 290 = .ok (.return_, 1) := by decide +kernel
theorem dX8_needRings_0 : decode cX8_needRings 0 = .ok (.aload_n 0, 1) := by decide +kernel
theorem dX8_needRings_1 : decode cX8_needRings 1 = .ok (.getfield 60, 3) := by decide +kernel
theorem dX8_needRings_4 : decode cX8_needRings 4 = .ok (.iconst 4, 1) := by decide +kernel
theorem dX8_needRings_5 : decode cX8_needRings 5 = .ok (.iand, 1) := by decide +kernel
theorem dX8_needRings_6 : decode cX8_needRings 6 = .ok (.ifCond .eq 4, 3) := by decide +kernel
theorem dX8_needRings_9 : decode cX8_needRings 9 = .ok (.return_, 1) := by decide +kernel
theorem dX8_needRings_10 : decode cX8_needRings 10 = .ok (.aload_n 0, 1) := by decide +kernel
theorem dX8_needRings_11 : decode cX8_needRings 11 = .ok (.dup, 1) := by decide +kernel
theorem dX8_needRings_12 : decode cX8_needRings 12 = .ok (.getfield 60, 3) := by decide +kernel
theorem dX8_needRings_15 : decode cX8_needRings 15 = .ok (.iconst 4, 1) := by decide +kernel
theorem dX8_needRings_16 : decode cX8_needRings 16 = .ok (.ior, 1) := by decide +kernel
theorem dX8_needRings_17 : decode cX8_needRings 17 = .ok (.putfield 60, 3) := by decide +kernel
theorem dX8_needRings_20 : decode cX8_needRings 20 = .ok (.iconst 0, 1) := by decide +kernel
theorem dX8_needRings_21 : decode cX8_needRings 21 = .ok (.istore_n 2, 1) := by decide +kernel
theorem dX8_needRings_22 : decode cX8_needRings 22 = .ok (.iload_n 2, 1) := by decide +kernel
theorem dX8_needRings_23 : decode cX8_needRings 23 = .ok (.aload_n 1, 1) := by decide +kernel
theorem dX8_needRings_24 : decode cX8_needRings 24 = .ok (.getfield 64, 3) := by decide +kernel
theorem dX8_needRings_27 : decode cX8_needRings 27 = .ok (.if_icmp .ge 35, 3) := by decide +kernel
theorem dX8_needRings_30 : decode cX8_needRings 30 = .ok (.aload_n 0, 1) := by decide +kernel
theorem dX8_needRings_31 : decode cX8_needRings 31 = .ok (.getfield 42, 3) := by decide +kernel
theorem dX8_needRings_34 : decode cX8_needRings 34 = .ok (.iload_n 2, 1) := by decide +kernel
theorem dX8_needRings_35 : decode cX8_needRings 35 = .ok (.iconst (-1), 1) := by decide +kernel
theorem dX8_needRings_36 : decode cX8_needRings 36 = .ok (.iastore, 1) := by decide +kernel
theorem dX8_needRings_37 : decode cX8_needRings 37 = .ok (.aload_n 0, 1) := by decide +kernel
theorem dX8_needRings_38 : decode cX8_needRings 38 = .ok (.getfield 36, 3) := by decide +kernel
theorem dX8_needRings_41 : decode cX8_needRings 41 = .ok (.iload_n 2, 1) := by decide +kernel
theorem dX8_needRings_42 : decode cX8_needRings 42 = .ok (.iconst (-1), 1) := by decide +kernel
theorem dX8_needRings_43 : decode cX8_needRings 43 = .ok (.iastore, 1) := by decide +kernel
theorem dX8_needRings_44 : decode cX8_needRings 44 = .ok (.aload_n 0, 1) := by decide +kernel
theorem dX8_needRings_45 : decode cX8_needRings 45 = .ok (.getfield 54, 3) := by decide +kernel
theorem dX8_needRings_48 : decode cX8_needRings 48 = .ok (.iload_n 2, 1) := by decide +kernel
theorem dX8_needRings_49 : decode cX8_needRings 49 = .ok (.aload_n 1, 1) := by decide +kernel
theorem dX8_needRings_50 : decode cX8_needRings 50 = .ok (.getfield 79, 3) := by decide +kernel
theorem dX8_needRings_53 : decode cX8_needRings 53 = .ok (.iload_n 2, 1) := by decide +kernel
theorem dX8_needRings_54 : decode cX8_needRings 54 = .ok (.iaload, 1) := by decide +kernel
theorem dX8_needRings_55 : decode cX8_needRings 55 = .ok (.iastore, 1) := by decide +kernel
theorem dX8_needRings_56 : decode cX8_needRings 56 = .ok (.iinc 2 1, 3) := by decide +kernel
theorem dX8_needRings_59 : decode cX8_needRings 59 = .ok (.goto (-37), 3) := by decide +kernel
theorem dX8_needRings_62 : decode cX8_needRings 62 = .ok (.iconst 0, 1) := by decide +kernel
theorem dX8_needRings_63 : decode cX8_needRings 63 = .ok (.istore_n 2, 1) := by decide +kernel
theorem dX8_needRings_64 : decode cX8_needRings 64 = .ok (.iconst 0, 1) := by decide +kernel
theorem dX8_needRings_65 : decode cX8_needRings 65 = .ok (.istore_n 3, 1) := by decide +kernel
theorem dX8_needRings_66 : decode cX8_needRings 66 = .ok (.iload_n 3, 1) := by decide +kernel
theorem dX8_needRings_67 : decode cX8_needRings 67 = .ok (.aload_n 1, 1) := by decide +kernel
theorem dX8_needRings_68 : decode cX8_needRings 68 = .ok (.getfield 64, 3) := by decide +kernel
theorem dX8_needRings_71 : decode cX8_needRings 71 = .ok (.if_icmp .ge 27, 3) := by decide +kernel
theorem dX8_needRings_74 : decode cX8_needRings 74 = .ok (.aload_n 0, 1) := by decide +kernel
theorem dX8_needRings_75 : decode cX8_needRings 75 = .ok (.getfield 42, 3) := by decide +kernel
theorem dX8_needRings_78 : decode cX8_needRings 78 = .ok (.iload_n 3, 1) := by decide +kernel
theorem dX8_needRings_79 : decode cX8_needRings 79 = .ok (.iaload, 1) := by decide +kernel
theorem dX8_needRings_80 : decode cX8_needRings 80 = .ok (.iconst (-1), 1) := by decide +kernel
theorem dX8_needRings_81 : decode cX8_needRings 81 = .ok (.if_icmp .ne 11, 3) := by decide +kernel
theorem dX8_needRings_84 : decode cX8_needRings 84 = .ok (.aload_n 0, 1) := by decide +kernel
theorem dX8_needRings_85 : decode cX8_needRings 85 = .ok (.aload_n 1, 1) := by decide +kernel
theorem dX8_needRings_86 : decode cX8_needRings 86 = .ok (.iload_n 3, 1) := by decide +kernel
theorem dX8_needRings_87 : decode cX8_needRings 87 = .ok (.iload_n 2, 1) := by decide +kernel
theorem dX8_needRings_88 : decode cX8_needRings 88 = .ok (.invokevirtual 119, 3) := by decide +kernel
theorem dX8_needRings_91 : decode cX8_needRings 91 = .ok (.istore_n 2, 1) := by decide +kernel
theorem dX8_needRings_92 : decode cX8_needRings 92 = .ok (.iinc 3 1, 3) := by decide +kernel
theorem dX8_needRings_95 : decode cX8_needRings 95 = .ok (.goto (-29), 3) := by decide +kernel
theorem dX8_needRings_98 : decode cX8_needRings 98 = .ok (.aload_n 0, 1) := by decide +kernel
theorem dX8_needRings_99 : decode cX8_needRings 99 = .ok (.aload_n 1, 1) := by decide +kernel
theorem dX8_needRings_100 : decode cX8_needRings 100 = .ok (.invokevirtual 123, 3) := by decide +kernel
theorem dX8_needRings_103 : decode cX8_needRings 103 = .ok (.return_, 1) := by decide +kernel
theorem dX8_needTwins_0 : decode cX8_needTwins 0 = .ok (.aload_n 0, 1) := by decide +kernel
theorem dX8_needTwins_1 : decode cX8_needTwins 1 = .ok (.getfield 60, 3) := by decide +kernel
theorem dX8_needTwins_4 : decode cX8_needTwins 4 = .ok (.bipush 8, 2) := by decide +kernel
theorem dX8_needTwins_6 : decode cX8_needTwins 6 = .ok (.iand, 1) := by decide +kernel
theorem dX8_needTwins_7 : decode cX8_needTwins 7 = .ok (.ifCond .eq 4, 3) := by decide +kernel
theorem dX8_needTwins_10 : decode cX8_needTwins 10 = .ok (.return_, 1) := by decide +kernel
theorem dX8_needTwins_11 : decode cX8_needTwins 11 = .ok (.aload_n 0, 1) := by decide +kernel
theorem dX8_needTwins_12 : decode cX8_needTwins 12 = .ok (.dup, 1) := by decide +kernel
theorem dX8_needTwins_13 : decode cX8_needTwins 13 = .ok (.getfield 60, 3) := by decide +kernel
theorem dX8_needTwins_16 : decode cX8_needTwins 16 = .ok (.bipush 8, 2) := by decide +kernel
theorem dX8_needTwins_18 : decode cX8_needTwins 18 = .ok (.ior, 1) := by decide +kernel
theorem dX8_needTwins_19 : decode cX8_needTwins 19 = .ok (.putfield 60, 3) := by decide +kernel
theorem dX8_needTwins_22 : decode cX8_needTwins 22 = .ok (.aload_n 0, 1) := by decide +kernel
theorem dX8_needTwins_23 : decode cX8_needTwins 23 = .ok (.getfield 57, 3) := by decide +kernel
theorem dX8_needTwins_26 : decode cX8_needTwins 26 = .ok (.iconst (-1), 1) := by decide +kernel
theorem dX8_needTwins_27 : decode cX8_needTwins 27 = .ok (.invokestatic 149, 3) := by decide +kernel
theorem dX8_needTwins_30 : decode cX8_needTwins 30 = .ok (.iconst 0, 1) := by decide +kernel
theorem dX8_needTwins_31 : decode cX8_needTwins 31 = .ok (.istore_n 2, 1) := by decide +kernel
theorem dX8_needTwins_32 : decode cX8_needTwins 32 = .ok (.iload_n 2, 1) := by decide +kernel
theorem dX8_needTwins_33 : decode cX8_needTwins 33 = .ok (.aload_n 1, 1) := by decide +kernel
theorem dX8_needTwins_34 : decode cX8_needTwins 34 = .ok (.getfield 64, 3) := by decide +kernel
theorem dX8_needTwins_37 : decode cX8_needTwins 37 = .ok (.if_icmp .ge 120, 3) := by decide +kernel
theorem dX8_needTwins_40 : decode cX8_needTwins 40 = .ok (.aload_n 1, 1) := by decide +kernel
theorem dX8_needTwins_41 : decode cX8_needTwins 41 = .ok (.iload_n 2, 1) := by decide +kernel
theorem dX8_needTwins_42 : decode cX8_needTwins 42 = .ok (.invokestatic 152, 3) := by decide +kernel
theorem dX8_needTwins_45 : decode cX8_needTwins 45 = .ok (.istore_n 3, 1) := by decide +kernel
theorem dX8_needTwins_46 : decode cX8_needTwins 46 = .ok (.aload_n 0, 1) := by decide +kernel
theorem dX8_needTwins_47 : decode cX8_needTwins 47 = .ok (.getfield 57, 3) := by decide +kernel
theorem dX8_needTwins_50 : decode cX8_needTwins 50 = .ok (.iload_n 3, 1) := by decide +kernel
theorem dX8_needTwins_51 : decode cX8_needTwins 51 = .ok (.iaload, 1) := by decide +kernel
theorem dX8_needTwins_52 : decode cX8_needTwins 52 = .ok (.istore 4, 2) := by decide +kernel
theorem dX8_needTwins_54 : decode cX8_needTwins 54 = .ok (.iconst 0, 1) := by decide +kernel
theorem dX8_needTwins_55 : decode cX8_needTwins 55 = .ok (.istore 5, 2) := by decide +kernel
theorem dX8_needTwins_57 : decode cX8_needTwins 57 = .ok (.iload 5, 2) := by decide +kernel
theorem dX8_needTwins_59 : decode cX8_needTwins 59 = .ok (.aload_n 1, 1) := by decide +kernel
theorem dX8_needTwins_60 : decode cX8_needTwins 60 = .ok (.getfield 64, 3) := by decide +kernel
theorem dX8_needTwins_63 : decode cX8_needTwins 63 = .ok (.if_icmp .ge 34, 3) := by decide +kernel
theorem dX8_needTwins_66 : decode cX8_needTwins 66 = .ok (.iload 4, 2) := by decide +kernel
theorem dX8_needTwins_68 : decode cX8_needTwins 68 = .ok (.iconst (-1), 1) := by decide +kernel
theorem dX8_needTwins_69 : decode cX8_needTwins 69 = .ok (.if_icmp .eq 28, 3) := by decide +kernel
theorem dX8_needTwins_72 : decode cX8_needTwins 72 = .ok (.aload_n 1, 1) := by decide +kernel
theorem dX8_needTwins_73 : decode cX8_needTwins 73 = .ok (.iload 4, 2) := by decide +kernel
theorem dX8_needTwins_75 : decode cX8_needTwins 75 = .ok (.iload_n 2, 1) := by decide +kernel
theorem dX8_needTwins_76 : decode cX8_needTwins 76 = .ok (.invokestatic 155, 3) := by decide +kernel
theorem dX8_needTwins_79 : decode cX8_needTwins 79 = .ok (.ifCond .ne 18, 3) := by decide +kernel
theorem dX8_needTwins_82 : decode cX8_needTwins 82 = .ok (.aload_n 0, 1) := by decide +kernel
theorem dX8_needTwins_83 : decode cX8_needTwins 83 = .ok (.getfield 54, 3) := by decide +kernel
theorem dX8_needTwins_86 : decode cX8_needTwins 86 = .ok (.iload 4, 2) := by decide +kernel
theorem dX8_needTwins_88 : decode cX8_needTwins 88 = .ok (.iaload, 1) := by decide +kernel
theorem dX8_needTwins_89 : decode cX8_needTwins 89 = .ok (.istore 4, 2) := by decide +kernel
theorem dX8_needTwins_91 : decode cX8_needTwins 91 = .ok (.iinc 5 1, 3) := by decide +kernel
theorem dX8_needTwins_94 : decode cX8_needTwins 94 = .ok (.goto (-37), 3) := by decide +kernel
theorem dX8_needTwins_97 : decode cX8_needTwins 97 = .ok (.iload 4, 2) := by decide +kernel
theorem dX8_needTwins_99 : decode cX8_needTwins 99 = .ok (.iconst (-1), 1) := by decide +kernel
theorem dX8_needTwins_100 : decode cX8_needTwins 100 = .ok (.if_icmp .ne 32, 3) := by decide +kernel
theorem dX8_needTwins_103 : decode cX8_needTwins 103 = .ok (.iload_n 2, 1) := by decide +kernel
theorem dX8_needTwins_104 : decode cX8_needTwins 104 = .ok (.istore 4, 2) := by decide +kernel
theorem dX8_needTwins_106 : decode cX8_needTwins 106 = .ok (.aload_n 0, 1) := by decide +kernel
theorem dX8_needTwins_107 : decode cX8_needTwins 107 = .ok (.getfield 54, 3) := by decide +kernel
theorem dX8_needTwins_110 : decode cX8_needTwins 110 = .ok (.iload_n 2, 1) := by decide +kernel
theorem dX8_needTwins_111 : decode cX8_needTwins 111 = .ok (.aload_n 0, 1) := by decide +kernel
theorem dX8_needTwins_112 : decode cX8_needTwins 112 = .ok (.getfield 57, 3) := by decide +kernel
theorem dX8_needTwins_115 : decode cX8_needTwins 115 = .ok (.iload_n 3, 1) := by decide +kernel
theorem dX8_needTwins_116 : decode cX8_needTwins 116 = .ok (.iaload, 1) := by decide +kernel
theorem dX8_needTwins_117 : decode cX8_needTwins 117 = .ok (.iastore, 1) := by decide +kernel
theorem dX8_needTwins_118 : decode cX8_needTwins 118 = .ok (.aload_n 0, 1) := by decide +kernel
theorem dX8_needTwins_119 : decode cX8_needTwins 119 = .ok (.getfield 57, 3) := by decide +kernel
theorem dX8_needTwins_122 : decode cX8_needTwins 122 = .ok (.iload_n 3, 1) := by decide +kernel
theorem dX8_needTwins_123 : decode cX8_needTwins 123 = .ok (.iload_n 2, 1) := by decide +kernel
theorem dX8_needTwins_124 : decode cX8_needTwins 124 = .ok (.iastore, 1) := by decide +kernel
theorem dX8_needTwins_125 : decode cX8_needTwins 125 = .ok (.aload_n 0, 1) := by decide +kernel
theorem dX8_needTwins_126 : decode cX8_needTwins 126 = .ok (.getfield 45, 3) := by decide +kernel
theorem dX8_needTwins_129 : decode cX8_needTwins 129 = .ok (.iload_n 2, 1) := by decide +kernel
theorem dX8_needTwins_130 : decode cX8_needTwins 130 = .ok (.iconst 0, 1) := by decide +kernel
theorem dX8_needTwins_131 : decode cX8_needTwins 131 = .ok (.iastore, 1) := by decide +kernel
theorem dX8_needTwins_132 : decode cX8_needTwins 132 = .ok (.aload_n 0, 1) := by decide +kernel
theorem dX8_needTwins_133 : decode cX8_needTwins 133 = .ok (.getfield 39, 3) := by decide +kernel
theorem dX8_needTwins_136 : decode cX8_needTwins 136 = .ok (.iload_n 2, 1) := by decide +kernel
theorem dX8_needTwins_137 : decode cX8_needTwins 137 = .ok (.iload 4, 2) := by decide +kernel
theorem dX8_needTwins_139 : decode cX8_needTwins 139 = .ok (.iastore, 1) := by decide +kernel
theorem dX8_needTwins_140 : decode cX8_needTwins 140 = .ok (.aload_n 0, 1) := by decide +kernel
theorem dX8_needTwins_141 : decode cX8_needTwins 141 = .ok (.getfield 45, 3) := by decide +kernel
theorem dX8_needTwins_144 : decode cX8_needTwins 144 = .ok (.iload 4, 2) := by decide +kernel
theorem dX8_needTwins_146 : decode cX8_needTwins 146 = .ok (.dup2, 1) := by decide +kernel
theorem dX8_needTwins_147 : decode cX8_needTwins 147 = .ok (.iaload, 1) := by decide +kernel
theorem dX8_needTwins_148 : decode cX8_needTwins 148 = .ok (.iconst 1, 1) := by decide +kernel
theorem dX8_needTwins_149 : decode cX8_needTwins 149 = .ok (.iadd, 1) := by decide +kernel
theorem dX8_needTwins_150 : decode cX8_needTwins 150 = .ok (.iastore, 1) := by decide +kernel
theorem dX8_needTwins_151 : decode cX8_needTwins 151 = .ok (.iinc 2 1, 3) := by decide +kernel
theorem dX8_needTwins_154 : decode cX8_needTwins 154 = .ok (.goto (-122), 3) := by decide +kernel
theorem dX8_needTwins_157 : decode cX8_needTwins 157 = .ok (.aload_n 0, 1) := by decide +kernel
theorem dX8_needTwins_158 : decode cX8_needTwins 158 = .ok (.iconst 0, 1) := by decide +kernel
theorem dX8_needTwins_159 : decode cX8_needTwins 159 = .ok (.putfield 159, 3) := by decide +kernel
theorem dX8_needTwins_162 : decode cX8_needTwins 162 = .ok (.iconst 0, 1) := by decide +kernel
theorem dX8_needTwins_163 : decode cX8_needTwins 163 = .ok (.istore_n 2, 1) := by decide +kernel
theorem dX8_needTwins_164 : decode cX8_needTwins 164 = .ok (.iload_n 2, 1) := by decide +kernel
theorem dX8_needTwins_165 : decode cX8_needTwins 165 = .ok (.aload_n 1, 1) := by decide +kernel
theorem dX8_needTwins_166 : decode cX8_needTwins 166 = .ok (.getfield 64, 3) := by decide +kernel
theorem dX8_needTwins_169 : decode cX8_needTwins 169 = .ok (.if_icmp .ge 81, 3) := by decide +kernel
theorem dX8_needTwins_172 : decode cX8_needTwins 172 = .ok (.aload_n 0, 1) := by decide +kernel
theorem dX8_needTwins_173 : decode cX8_needTwins 173 = .ok (.getfield 39, 3) := by decide +kernel
theorem dX8_needTwins_176 : decode cX8_needTwins 176 = .ok (.iload_n 2, 1) := by decide +kernel
theorem dX8_needTwins_177 : decode cX8_needTwins 177 = .ok (.iaload, 1) := by decide +kernel
theorem dX8_needTwins_178 : decode cX8_needTwins 178 = .ok (.istore_n 3, 1) := by decide +kernel
theorem dX8_needTwins_179 : decode cX8_needTwins 179 = .ok (.iload_n 3, 1) := by decide +kernel
theorem dX8_needTwins_180 : decode cX8_needTwins 180 = .ok (.iload_n 2, 1) := by decide +kernel
theorem dX8_needTwins_181 : decode cX8_needTwins 181 = .ok (.if_icmp .ne 51, 3) := by decide +kernel
theorem dX8_needTwins_184 : decode cX8_needTwins 184 = .ok (.aload_n 0, 1) := by decide +kernel
theorem dX8_needTwins_185 : decode cX8_needTwins 185 = .ok (.getfield 51, 3) := by decide +kernel
theorem dX8_needTwins_188 : decode cX8_needTwins 188 = .ok (.iload_n 2, 1) := by decide +kernel
theorem dX8_needTwins_189 : decode cX8_needTwins 189 = .ok (.aload_n 0, 1) := by decide +kernel
theorem dX8_needTwins_190 : decode cX8_needTwins 190 = .ok (.getfield 45, 3) := by decide +kernel
theorem dX8_needTwins_193 : decode cX8_needTwins 193 = .ok (.iload_n 2, 1) := by decide +kernel
theorem dX8_needTwins_194 : decode cX8_needTwins 194 = .ok (.iaload, 1) := by decide +kernel
theorem dX8_needTwins_195 : decode cX8_needTwins 195 = .ok (.iconst 1, 1) := by decide +kernel
theorem dX8_needTwins_196 : decode cX8_needTwins 196 = .ok (.if_icmp .le 10, 3) := by decide +kernel
theorem dX8_needTwins_199 : decode cX8_needTwins 199 = .ok (.aload_n 0, 1) := by decide +kernel
theorem dX8_needTwins_200 : decode cX8_needTwins 200 = .ok (.getfield 159, 3) := by decide +kernel
theorem dX8_needTwins_203 : decode cX8_needTwins 203 = .ok (.goto 4, 3) := by decide +kernel
theorem dX8_needTwins_206 : decode cX8_needTwins 206 = .ok (.iconst (-1), 1) := by decide +kernel
theorem dX8_needTwins_207 : decode cX8_needTwins 207 = .ok (.iastore, 1) := by decide +kernel
theorem dX8_needTwins_208 : decode cX8_needTwins 208 = .ok (.aload_n 0, 1) := by decide +kernel
theorem dX8_needTwins_209 : decode cX8_needTwins 209 = .ok (.dup, 1) := by decide +kernel
theorem dX8_needTwins_210 : decode cX8_needTwins 210 = .ok (.getfield 159, 3) := by decide +kernel
theorem dX8_needTwins_213 : decode cX8_needTwins 213 = .ok (.aload_n 0, 1) := by decide +kernel
theorem dX8_needTwins_214 : decode cX8_needTwins 214 = .ok (.getfield 45, 3) := by decide +kernel
theorem dX8_needTwins_217 : decode cX8_needTwins 217 = .ok (.iload_n 2, 1) := by decide +kernel
theorem dX8_needTwins_218 : decode cX8_needTwins 218 = .ok (.iaload, 1) := by decide +kernel
theorem dX8_needTwins_219 : decode cX8_needTwins 219 = .ok (.iconst 1, 1) := by decide +kernel
theorem dX8_needTwins_220 : decode cX8_needTwins 220 = .ok (.if_icmp .le 7, 3) := by decide +kernel
theorem dX8_needTwins_223 : decode cX8_needTwins 223 = .ok (.iconst 1, 1) := by decide +kernel
theorem dX8_needTwins_224 : decode cX8_needTwins 224 = .ok (.goto 4, 3) := by decide +kernel
theorem dX8_needTwins_227 : decode cX8_needTwins 227 = .ok (.iconst 0, 1) := by decide +kernel
theorem dX8_needTwins_228 : decode cX8_needTwins 228 = .ok (.iadd, 1) := by decide +kernel
theorem dX8_needTwins_229 : decode cX8_needTwins 229 = .ok (.putfield 159, 3) := by decide +kernel
theorem dX8_needTwins_232 : decode cX8_needTwins 232 = .ok (.aload_n 0, 1) := by decide +kernel
theorem dX8_needTwins_233 : decode cX8_needTwins 233 = .ok (.getfield 39, 3) := by decide +kernel
theorem dX8_needTwins_236 : decode cX8_needTwins 236 = .ok (.iload_n 2, 1) := by decide +kernel
theorem dX8_needTwins_237 : decode cX8_needTwins 237 = .ok (.aload_n 0, 1) := by decide +kernel
theorem dX8_needTwins_238 : decode cX8_needTwins 238 = .ok (.getfield 51, 3) := by decide +kernel
theorem dX8_needTwins_241 : decode cX8_needTwins 241 = .ok (.iload_n 3, 1) := by decide +kernel
theorem dX8_needTwins_242 : decode cX8_needTwins 242 = .ok (.iaload, 1) := by decide +kernel
theorem dX8_needTwins_243 : decode cX8_needTwins 243 = .ok (.iastore, 1) := by decide +kernel
theorem dX8_needTwins_244 : decode cX8_needTwins 244 = .ok (.iinc 2 1, 3) := by decide +kernel
theorem dX8_needTwins_247 : decode cX8_needTwins 247 = .ok (.goto (-83), 3) := by decide +kernel
theorem dX8_needTwins_250 : decode cX8_needTwins 250 = .ok (.return_, 1) := by decide +kernel
theorem dX8_nextLink_0 : decode cX8_nextLink 0 = .ok (.aload_n 0, 1) := by decide +kernel
theorem dX8_nextLink_1 : decode cX8_nextLink 1 = .ok (.getfield 54, 3) := by decide +kernel
theorem dX8_nextLink_4 : decode cX8_nextLink 4 = .ok (.iload_n 2, 1) := by decide +kernel
theorem dX8_nextLink_5 : decode cX8_nextLink 5 = .ok (.iaload, 1) := by decide +kernel
theorem dX8_nextLink_6 : decode cX8_nextLink 6 = .ok (.aload_n 1, 1) := by decide +kernel
theorem dX8_nextLink_7 : decode cX8_nextLink 7 = .ok (.getfield 79, 3) := by decide +kernel
theorem dX8_nextLink_10 : decode cX8_nextLink 10 = .ok (.iload_n 2, 1) := by decide +kernel
theorem dX8_nextLink_11 : decode cX8_nextLink 11 = .ok (.iconst 1, 1) := by decide +kernel
theorem dX8_nextLink_12 : decode cX8_nextLink 12 = .ok (.iadd, 1) := by decide +kernel
theorem dX8_nextLink_13 : decode cX8_nextLink 13 = .ok (.iaload, 1) := by decide +kernel
theorem dX8_nextLink_14 : decode cX8_nextLink 14 = .ok (.if_icmp .ge 53, 3) := by decide +kernel
theorem dX8_nextLink_17 : decode cX8_nextLink 17 = .ok (.aload_n 0, 1) := by decide +kernel
theorem dX8_nextLink_18 : decode cX8_nextLink 18 = .ok (.getfield 54, 3) := by decide +kernel
theorem dX8_nextLink_21 : decode cX8_nextLink 21 = .ok (.iload_n 2, 1) := by decide +kernel
theorem dX8_nextLink_22 : decode cX8_nextLink 22 = .ok (.iaload, 1) := by decide +kernel
theorem dX8_nextLink_23 : decode cX8_nextLink 23 = .ok (.istore_n 3, 1) := by decide +kernel
theorem dX8_nextLink_24 : decode cX8_nextLink 24 = .ok (.aload_n 0, 1) := by decide +kernel
theorem dX8_nextLink_25 : decode cX8_nextLink 25 = .ok (.getfield 54, 3) := by decide +kernel
theorem dX8_nextLink_28 : decode cX8_nextLink 28 = .ok (.iload_n 2, 1) := by decide +kernel
theorem dX8_nextLink_29 : decode cX8_nextLink 29 = .ok (.dup2, 1) := by decide +kernel
theorem dX8_nextLink_30 : decode cX8_nextLink 30 = .ok (.iaload, 1) := by decide +kernel
theorem dX8_nextLink_31 : decode cX8_nextLink 31 = .ok (.iconst 1, 1) := by decide +kernel
theorem dX8_nextLink_32 : decode cX8_nextLink 32 = .ok (.iadd, 1) := by decide +kernel
theorem dX8_nextLink_33 : decode cX8_nextLink 33 = .ok (.iastore, 1) := by decide +kernel
theorem dX8_nextLink_34 : decode cX8_nextLink 34 = .ok (.aload_n 1, 1) := by decide +kernel
theorem dX8_nextLink_35 : decode cX8_nextLink 35 = .ok (.getfield 82, 3) := by decide +kernel
theorem dX8_nextLink_38 : decode cX8_nextLink 38 = .ok (.iload_n 3, 1) := by decide +kernel
theorem dX8_nextLink_39 : decode cX8_nextLink 39 = .ok (.baload, 1) := by decide +kernel
theorem dX8_nextLink_40 : decode cX8_nextLink 40 = .ok (.ifCond .eq 24, 3) := by decide +kernel
theorem dX8_nextLink_43 : decode cX8_nextLink 43 = .ok (.aload_n 1, 1) := by decide +kernel
theorem dX8_nextLink_44 : decode cX8_nextLink 44 = .ok (.getfield 86, 3) := by decide +kernel
theorem dX8_nextLink_47 : decode cX8_nextLink 47 = .ok (.iload_n 3, 1) := by decide +kernel
theorem dX8_nextLink_48 : decode cX8_nextLink 48 = .ok (.laload, 1) := by decide +kernel
theorem dX8_nextLink_49 : decode cX8_nextLink 49 = .ok (.ldc2_w 90, 3) := by decide +kernel
theorem dX8_nextLink_52 : decode cX8_nextLink 52 = .ok (.lcmp, 1) := by decide +kernel
theorem dX8_nextLink_53 : decode cX8_nextLink 53 = .ok (.ifCond .eq 11, 3) := by decide +kernel
theorem dX8_nextLink_56 : decode cX8_nextLink 56 = .ok (.aload_n 1, 1) := by decide +kernel
theorem dX8_nextLink_57 : decode cX8_nextLink 57 = .ok (.getfield 86, 3) := by decide +kernel
theorem dX8_nextLink_60 : decode cX8_nextLink 60 = .ok (.iload_n 3, 1) := by decide +kernel
theorem dX8_nextLink_61 : decode cX8_nextLink 61 = .ok (.laload, 1) := by decide +kernel
theorem dX8_nextLink_62 : decode cX8_nextLink 62 = .ok (.l2i, 1) := by decide +kernel
theorem dX8_nextLink_63 : decode cX8_nextLink 63 = .ok (.ireturn, 1) := by decide +kernel
theorem dX8_nextLink_64 : decode cX8_nextLink 64 = .ok (.goto (-64), 3) := by decide +kernel
theorem dX8_nextLink_67 : decode cX8_nextLink 67 = .ok (.iconst (-1), 1) := by decide +kernel
theorem dX8_nextLink_68 : decode cX8_nextLink 68 = .ok (.ireturn, 1) := by decide +kernel
theorem dX8_numberRings_0 : decode cX8_numberRings 0 = .ok (.aload_n 0, 1) := by decide +kernel
theorem dX8_numberRings_1 : decode cX8_numberRings 1 = .ok (.getfield 45, 3) := by decide +kernel
theorem dX8_numberRings_4 : decode cX8_numberRings 4 = .ok (.iconst 0, 1) := by decide +kernel
theorem dX8_numberRings_5 : decode cX8_numberRings 5 = .ok (.aload_n 1, 1) := by decide +kernel
theorem dX8_numberRings_6 : decode cX8_numberRings 6 = .ok (.getfield 64, 3) := by decide +kernel
theorem dX8_numberRings_9 : decode cX8_numberRings 9 = .ok (.iconst 0, 1) := by decide +kernel
theorem dX8_numberRings_10 : decode cX8_numberRings 10 = .ok (.invokestatic 67, 3) := by decide +kernel
theorem dX8_numberRings_13 : decode cX8_numberRings 13 = .ok (.aload_n 0, 1) := by decide +kernel
theorem dX8_numberRings_14 : decode cX8_numberRings 14 = .ok (.getfield 51, 3) := by decide +kernel
theorem dX8_numberRings_17 : decode cX8_numberRings 17 = .ok (.iconst 0, 1) := by decide +kernel
theorem dX8_numberRings_18 : decode cX8_numberRings 18 = .ok (.aload_n 1, 1) := by decide +kernel
theorem dX8_numberRings_19 : decode cX8_numberRings 19 = .ok (.getfield 64, 3) := by decide +kernel
theorem dX8_numberRings_22 : decode cX8_numberRings 22 = .ok (.bipush (-2), 2) := by decide +kernel
theorem dX8_numberRings_24 : decode cX8_numberRings 24 = .ok (.invokestatic 67, 3) := by decide +kernel
theorem dX8_numberRings_27 : decode cX8_numberRings 27 = .ok (.iconst 0, 1) := by decide +kernel
theorem dX8_numberRings_28 : decode cX8_numberRings 28 = .ok (.istore_n 2, 1) := by decide +kernel
theorem dX8_numberRings_29 : decode cX8_numberRings 29 = .ok (.iload_n 2, 1) := by decide +kernel
theorem dX8_numberRings_30 : decode cX8_numberRings 30 = .ok (.aload_n 1, 1) := by decide +kernel
theorem dX8_numberRings_31 : decode cX8_numberRings 31 = .ok (.getfield 64, 3) := by decide +kernel
theorem dX8_numberRings_34 : decode cX8_numberRings 34 = .ok (.if_icmp .ge 24, 3) := by decide +kernel
theorem dX8_numberRings_37 : decode cX8_numberRings 37 = .ok (.aload_n 0, 1) := by decide +kernel
theorem dX8_numberRings_38 : decode cX8_numberRings 38 = .ok (.getfield 45, 3) := by decide +kernel
theorem dX8_numberRings_41 : decode cX8_numberRings 41 = .ok (.aload_n 0, 1) := by decide +kernel
theorem dX8_numberRings_42 : decode cX8_numberRings 42 = .ok (.getfield 36, 3) := by decide +kernel
theorem dX8_numberRings_45 : decode cX8_numberRings 45 = .ok (.iload_n 2, 1) := by decide +kernel
theorem dX8_numberRings_46 : decode cX8_numberRings 46 = .ok (.iaload, 1) := by decide +kernel
theorem dX8_numberRings_47 : decode cX8_numberRings 47 = .ok (.dup2, 1) := by decide +kernel
theorem dX8_numberRings_48 : decode cX8_numberRings 48 = .ok (.iaload, 1) := by decide +kernel
theorem dX8_numberRings_49 : decode cX8_numberRings 49 = .ok (.iconst 1, 1) := by decide +kernel
theorem dX8_numberRings_50 : decode cX8_numberRings 50 = .ok (.iadd, 1) := by decide +kernel
theorem dX8_numberRings_51 : decode cX8_numberRings 51 = .ok (.iastore, 1) := by decide +kernel
theorem dX8_numberRings_52 : decode cX8_numberRings 52 = .ok (.iinc 2 1, 3) := by decide +kernel
theorem dX8_numberRings_55 : decode cX8_numberRings 55 = .ok (.goto (-26), 3) := by decide +kernel
theorem dX8_numberRings_58 : decode cX8_numberRings 58 = .ok (.aload_n 0, 1) := by decide +kernel
theorem dX8_numberRings_59 : decode cX8_numberRings 59 = .ok (.iconst 0, 1) := by decide +kernel
theorem dX8_numberRings_60 : decode cX8_numberRings 60 = .ok (.putfield 142, 3) := by decide +kernel
theorem dX8_numberRings_63 : decode cX8_numberRings 63 = .ok (.iconst 0, 1) := by decide +kernel
theorem dX8_numberRings_64 : decode cX8_numberRings 64 = .ok (.istore_n 2, 1) := by decide +kernel
theorem dX8_numberRings_65 : decode cX8_numberRings 65 = .ok (.iload_n 2, 1) := by decide +kernel
theorem dX8_numberRings_66 : decode cX8_numberRings 66 = .ok (.aload_n 1, 1) := by decide +kernel
theorem dX8_numberRings_67 : decode cX8_numberRings 67 = .ok (.getfield 64, 3) := by decide +kernel
theorem dX8_numberRings_70 : decode cX8_numberRings 70 = .ok (.if_icmp .ge 84, 3) := by decide +kernel
theorem dX8_numberRings_73 : decode cX8_numberRings 73 = .ok (.aload_n 0, 1) := by decide +kernel
theorem dX8_numberRings_74 : decode cX8_numberRings 74 = .ok (.getfield 36, 3) := by decide +kernel
theorem dX8_numberRings_77 : decode cX8_numberRings 77 = .ok (.iload_n 2, 1) := by decide +kernel
theorem dX8_numberRings_78 : decode cX8_numberRings 78 = .ok (.iaload, 1) := by decide +kernel
theorem dX8_numberRings_79 : decode cX8_numberRings 79 = .ok (.istore_n 3, 1) := by decide +kernel
theorem dX8_numberRings_80 : decode cX8_numberRings 80 = .ok (.aload_n 0, 1) := by decide +kernel
theorem dX8_numberRings_81 : decode cX8_numberRings 81 = .ok (.getfield 51, 3) := by decide +kernel
theorem dX8_numberRings_84 : decode cX8_numberRings 84 = .ok (.iload_n 3, 1) := by decide +kernel
theorem dX8_numberRings_85 : decode cX8_numberRings 85 = .ok (.iaload, 1) := by decide +kernel
theorem dX8_numberRings_86 : decode cX8_numberRings 86 = .ok (.bipush (-2), 2) := by decide +kernel
theorem dX8_numberRings_88 : decode cX8_numberRings 88 = .ok (.if_icmp .ne 48, 3) := by decide +kernel
theorem dX8_numberRings_91 : decode cX8_numberRings 91 = .ok (.aload_n 0, 1) := by decide +kernel
theorem dX8_numberRings_92 : decode cX8_numberRings 92 = .ok (.getfield 51, 3) := by decide +kernel
theorem dX8_numberRings_95 : decode cX8_numberRings 95 = .ok (.iload_n 3, 1) := by decide +kernel
theorem dX8_numberRings_96 : decode cX8_numberRings 96 = .ok (.iconst (-1), 1) := by decide +kernel
theorem dX8_numberRings_97 : decode cX8_numberRings 97 = .ok (.iastore, 1) := by decide +kernel
theorem dX8_numberRings_98 : decode cX8_numberRings 98 = .ok (.aload_n 0, 1) := by decide +kernel
theorem dX8_numberRings_99 : decode cX8_numberRings 99 = .ok (.getfield 45, 3) := by decide +kernel
theorem dX8_numberRings_102 : decode cX8_numberRings 102 = .ok (.iload_n 3, 1) := by decide +kernel
theorem dX8_numberRings_103 : decode cX8_numberRings 103 = .ok (.iaload, 1) := by decide +kernel
theorem dX8_numberRings_104 : decode cX8_numberRings 104 = .ok (.iconst 1, 1) := by decide +kernel
theorem dX8_numberRings_105 : decode cX8_numberRings 105 = .ok (.if_icmp .gt 11, 3) := by decide +kernel
theorem dX8_numberRings_108 : decode cX8_numberRings 108 = .ok (.aload_n 1, 1) := by decide +kernel
theorem dX8_numberRings_109 : decode cX8_numberRings 109 = .ok (.iload_n 2, 1) := by decide +kernel
theorem dX8_numberRings_110 : decode cX8_numberRings 110 = .ok (.invokestatic 145, 3) := by decide +kernel
theorem dX8_numberRings_113 : decode cX8_numberRings 113 = .ok (.ifCond .eq 23, 3) := by decide +kernel
theorem dX8_numberRings_116 : decode cX8_numberRings 116 = .ok (.aload_n 0, 1) := by decide +kernel
theorem dX8_numberRings_117 : decode cX8_numberRings 117 = .ok (.getfield 51, 3) := by decide +kernel
theorem dX8_numberRings_120 : decode cX8_numberRings 120 = .ok (.iload_n 3, 1) := by decide +kernel
theorem dX8_numberRings_121 : decode cX8_numberRings 121 = .ok (.aload_n 0, 1) := by decide +kernel
theorem dX8_numberRings_122 : decode cX8_numberRings 122 = .ok (.getfield 142, 3) := by decide +kernel
theorem dX8_numberRings_125 : decode cX8_numberRings 125 = .ok (.iastore, 1) := by decide +kernel
theorem dX8_numberRings_126 : decode cX8_numberRings 126 = .ok (.aload_n 0, 1) := by decide +kernel
theorem dX8_numberRings_127 : decode cX8_numberRings 127 = .ok (.dup, 1) := by decide +kernel
theorem dX8_numberRings_128 : decode cX8_numberRings 128 = .ok (.getfield 142, 3) := by decide +kernel
theorem dX8_numberRings_131 : decode cX8_numberRings 131 = .ok (.iconst 1, 1) := by decide +kernel
theorem dX8_numberRings_132 : decode cX8_numberRings 132 = .ok (.iadd, 1) := by decide +kernel
theorem dX8_numberRings_133 : decode cX8_numberRings 133 = .ok (.putfield 142, 3) := by decide +kernel
theorem dX8_numberRings_136 : decode cX8_numberRings 136 = .ok (.aload_n 0, 1) := by decide +kernel
theorem dX8_numberRings_137 : decode cX8_numberRings 137 = .ok (.getfield 36, 3) := by decide +kernel
theorem dX8_numberRings_140 : decode cX8_numberRings 140 = .ok (.iload_n 2, 1) := by decide +kernel
theorem dX8_numberRings_141 : decode cX8_numberRings 141 = .ok (.aload_n 0, 1) := by decide +kernel
theorem dX8_numberRings_142 : decode cX8_numberRings 142 = .ok (.getfield 51, 3) := by decide +kernel
theorem dX8_numberRings_145 : decode cX8_numberRings 145 = .ok (.iload_n 3, 1) := by decide +kernel
theorem dX8_numberRings_146 : decode cX8_numberRings 146 = .ok (.iaload, 1) := by decide +kernel
theorem dX8_numberRings_147 : decode cX8_numberRings 147 = .ok (.iastore, 1) := by decide +kernel
theorem dX8_numberRings_148 : decode cX8_numberRings 148 = .ok (.iinc 2 1, 3) := by decide +kernel
theorem dX8_numberRings_151 : decode cX8_numberRings 151 = .ok (.goto (-86), 3) := by decide +kernel
theorem dX8_numberRings_154 : decode cX8_numberRings 154 = .ok (.return_, 1) := by decide +kernel
theorem dX9_isBlank_0 : decode cX9_isBlank 0 = .ok (.iload_n 0, 1) := by decide +kernel
theorem dX9_isBlank_1 : decode cX9_isBlank 1 = .ok (.bipush 9, 2) := by decide +kernel
theorem dX9_isBlank_3 : decode cX9_isBlank 3 = .ok (.if_icmp .eq 21, 3) := by decide +kernel
theorem dX9_isBlank_6 : decode cX9_isBlank 6 = .ok (.iload_n 0, 1) := by decide +kernel
theorem dX9_isBlank_7 : decode cX9_isBlank 7 = .ok (.bipush 10, 2) := by decide +kernel
theorem dX9_isBlank_9 : decode cX9_isBlank 9 = .ok (.if_icmp .eq 15, 3) := by decide +kernel
theorem dX9_isBlank_12 : decode cX9_isBlank 12 = .ok (.iload_n 0, 1) := by decide +kernel
theorem dX9_isBlank_13 : decode cX9_isBlank 13 = .ok (.bipush 13, 2) := by decide +kernel
theorem dX9_isBlank_15 : decode cX9_isBlank 15 = .ok (.if_icmp .eq 9, 3) := by decide +kernel
theorem dX9_isBlank_18 : decode cX9_isBlank 18 = .ok (.iload_n 0, 1) := by decide +kernel
theorem dX9_isBlank_19 : decode cX9_isBlank 19 = .ok (.bipush 32, 2) := by decide +kernel
theorem dX9_isBlank_21 : decode cX9_isBlank 21 = .ok (.if_icmp .ne 7, 3) := by decide +kernel
theorem dX9_isBlank_24 : decode cX9_isBlank 24 = .ok (.iconst 1, 1) := by decide +kernel
theorem dX9_isBlank_25 : decode cX9_isBlank 25 = .ok (.goto 4, 3) := by decide +kernel
theorem dX9_isBlank_28 : decode cX9_isBlank 28 = .ok (.iconst 0, 1) := by decide +kernel
theorem dX9_isBlank_29 : decode cX9_isBlank 29 = .ok (.ireturn, 1) := by decide +kernel
theorem dX9_keywordOf_0 : decode cX9_keywordOf 0 = .ok (.iconst 0, 1) := by decide +kernel
theorem dX9_keywordOf_1 : decode cX9_keywordOf 1 = .ok (.istore_n 3, 1) := by decide +kernel
theorem dX9_keywordOf_2 : decode cX9_keywordOf 2 = .ok (.iload_n 3, 1) := by decide +kernel
theorem dX9_keywordOf_3 : decode cX9_keywordOf 3 = .ok (.bipush 29, 2) := by decide +kernel
theorem dX9_keywordOf_5 : decode cX9_keywordOf 5 = .ok (.if_icmp .ge 25, 3) := by decide +kernel
theorem dX9_keywordOf_8 : decode cX9_keywordOf 8 = .ok (.aload_n 0, 1) := by decide +kernel
theorem dX9_keywordOf_9 : decode cX9_keywordOf 9 = .ok (.getfield 28, 3) := by decide +kernel
theorem dX9_keywordOf_12 : decode cX9_keywordOf 12 = .ok (.iload_n 3, 1) := by decide +kernel
theorem dX9_keywordOf_13 : decode cX9_keywordOf 13 = .ok (.laload, 1) := by decide +kernel
theorem dX9_keywordOf_14 : decode cX9_keywordOf 14 = .ok (.lload_n 1, 1) := by decide +kernel
theorem dX9_keywordOf_15 : decode cX9_keywordOf 15 = .ok (.lcmp, 1) := by decide +kernel
theorem dX9_keywordOf_16 : decode cX9_keywordOf 16 = .ok (.ifCond .ne 8, 3) := by decide +kernel
theorem dX9_keywordOf_19 : decode cX9_keywordOf 19 = .ok (.bipush 30, 2) := by decide +kernel
theorem dX9_keywordOf_21 : decode cX9_keywordOf 21 = .ok (.iload_n 3, 1) := by decide +kernel
theorem dX9_keywordOf_22 : decode cX9_keywordOf 22 = .ok (.iadd, 1) := by decide +kernel
theorem dX9_keywordOf_23 : decode cX9_keywordOf 23 = .ok (.ireturn, 1) := by decide +kernel
theorem dX9_keywordOf_24 : decode cX9_keywordOf 24 = .ok (.iinc 3 1, 3) := by decide +kernel
theorem dX9_keywordOf_27 : decode cX9_keywordOf 27 = .ok (.goto (-25), 3) := by decide +kernel
theorem dX9_keywordOf_30 : decode cX9_keywordOf 30 = .ok (.iconst (-1), 1) := by decide +kernel
theorem dX9_keywordOf_31 : decode cX9_keywordOf 31 = .ok (.ireturn, 1) := by decide +kernel
theorem dX9_nextWord_0 : decode cX9_nextWord 0 = .ok (.aload_n 0, 1) := by decide +kernel
theorem dX9_nextWord_1 : decode cX9_nextWord 1 = .ok (.aload_n 0, 1) := by decide +kernel
theorem dX9_nextWord_2 : decode cX9_nextWord 2 = .ok (.getfield 18, 3) := by decide +kernel
theorem dX9_nextWord_5 : decode cX9_nextWord 5 = .ok (.aload_n 0, 1) := by decide +kernel
theorem dX9_nextWord_6 : decode cX9_nextWord 6 = .ok (.getfield 85, 3) := by decide +kernel
theorem dX9_nextWord_9 : decode cX9_nextWord 9 = .ok (.iaload, 1) := by decide +kernel
theorem dX9_nextWord_10 : decode cX9_nextWord 10 = .ok (.putfield 75, 3) := by decide +kernel
theorem dX9_nextWord_13 : decode cX9_nextWord 13 = .ok (.aload_n 0, 1) := by decide +kernel
theorem dX9_nextWord_14 : decode cX9_nextWord 14 = .ok (.aload_n 0, 1) := by decide +kernel
theorem dX9_nextWord_15 : decode cX9_nextWord 15 = .ok (.getfield 21, 3) := by decide +kernel
theorem dX9_nextWord_18 : decode cX9_nextWord 18 = .ok (.aload_n 0, 1) := by decide +kernel
theorem dX9_nextWord_19 : decode cX9_nextWord 19 = .ok (.getfield 85, 3) := by decide +kernel
theorem dX9_nextWord_22 : decode cX9_nextWord 22 = .ok (.iaload, 1) := by decide +kernel
theorem dX9_nextWord_23 : decode cX9_nextWord 23 = .ok (.putfield 78, 3) := by decide +kernel
theorem dX9_nextWord_26 : decode cX9_nextWord 26 = .ok (.aload_n 0, 1) := by decide +kernel
theorem dX9_nextWord_27 : decode cX9_nextWord 27 = .ok (.aload_n 0, 1) := by decide +kernel
theorem dX9_nextWord_28 : decode cX9_nextWord 28 = .ok (.getfield 24, 3) := by decide +kernel
theorem dX9_nextWord_31 : decode cX9_nextWord 31 = .ok (.aload_n 0, 1) := by decide +kernel
theorem dX9_nextWord_32 : decode cX9_nextWord 32 = .ok (.getfield 85, 3) := by decide +kernel
theorem dX9_nextWord_35 : decode cX9_nextWord 35 = .ok (.laload, 1) := by decide +kernel
theorem dX9_nextWord_36 : decode cX9_nextWord 36 = .ok (.putfield 81, 3) := by decide +kernel
theorem dX9_nextWord_39 : decode cX9_nextWord 39 = .ok (.aload_n 0, 1) := by decide +kernel
theorem dX9_nextWord_40 : decode cX9_nextWord 40 = .ok (.getfield 75, 3) := by decide +kernel
theorem dX9_nextWord_43 : decode cX9_nextWord 43 = .ok (.ifCond .eq 23, 3) := by decide +kernel
theorem dX9_nextWord_46 : decode cX9_nextWord 46 = .ok (.aload_n 0, 1) := by decide +kernel
theorem dX9_nextWord_47 : decode cX9_nextWord 47 = .ok (.getfield 85, 3) := by decide +kernel
theorem dX9_nextWord_50 : decode cX9_nextWord 50 = .ok (.sipush 4000, 3) := by decide +kernel
theorem dX9_nextWord_53 : decode cX9_nextWord 53 = .ok (.if_icmp .ge 13, 3) := by decide +kernel
theorem dX9_nextWord_56 : decode cX9_nextWord 56 = .ok (.aload_n 0, 1) := by decide +kernel
theorem dX9_nextWord_57 : decode cX9_nextWord 57 = .ok (.dup, 1) := by decide +kernel
theorem dX9_nextWord_58 : decode cX9_nextWord 58 = .ok (.getfield 85, 3) := by decide +kernel
theorem dX9_nextWord_61 : decode cX9_nextWord 61 = .ok (.iconst 1, 1) := by decide +kernel
theorem dX9_nextWord_62 : decode cX9_nextWord 62 = .ok (.iadd, 1) := by decide +kernel
theorem dX9_nextWord_63 : decode cX9_nextWord 63 = .ok (.putfield 85, 3) := by decide +kernel
theorem dX9_nextWord_66 : decode cX9_nextWord 66 = .ok (.return_, 1) := by decide +kernel
theorem dX9_putReady_0 : decode cX9_putReady 0 = .ok (.iconst 0, 1) := by decide +kernel
theorem dX9_putReady_1 : decode cX9_putReady 1 = .ok (.istore_n 3, 1) := by decide +kernel
theorem dX9_putReady_2 : decode cX9_putReady 2 = .ok (.iload_n 3, 1) := by decide +kernel
theorem dX9_putReady_3 : decode cX9_putReady 3 = .ok (.iconst 4, 1) := by decide +kernel
theorem dX9_putReady_4 : decode cX9_putReady 4 = .ok (.if_icmp .ge 38, 3) := by decide +kernel
theorem dX9_putReady_7 : decode cX9_putReady 7 = .ok (.iload_n 1, 1) := by decide +kernel
theorem dX9_putReady_8 : decode cX9_putReady 8 = .ok (.iload_n 3, 1) := by decide +kernel
theorem dX9_putReady_9 : decode cX9_putReady 9 = .ok (.iadd, 1) := by decide +kernel
theorem dX9_putReady_10 : decode cX9_putReady 10 = .ok (.bipush 20, 2) := by decide +kernel
theorem dX9_putReady_12 : decode cX9_putReady 12 = .ok (.if_icmp .ge 30, 3) := by decide +kernel
theorem dX9_putReady_15 : decode cX9_putReady 15 = .ok (.aload_n 0, 1) := by decide +kernel
theorem dX9_putReady_16 : decode cX9_putReady 16 = .ok (.getfield 15, 3) := by decide +kernel
theorem dX9_putReady_19 : decode cX9_putReady 19 = .ok (.iload_n 1, 1) := by decide +kernel
theorem dX9_putReady_20 : decode cX9_putReady 20 = .ok (.iload_n 3, 1) := by decide +kernel
theorem dX9_putReady_21 : decode cX9_putReady 21 = .ok (.iadd, 1) := by decide +kernel
theorem dX9_putReady_22 : decode cX9_putReady 22 = .ok (.iload_n 2, 1) := by decide +kernel
theorem dX9_putReady_23 : decode cX9_putReady 23 = .ok (.bipush 24, 2) := by decide +kernel
theorem dX9_putReady_25 : decode cX9_putReady 25 = .ok (.bipush 8, 2) := by decide +kernel
theorem dX9_putReady_27 : decode cX9_putReady 27 = .ok (.iload_n 3, 1) := by decide +kernel
theorem dX9_putReady_28 : decode cX9_putReady 28 = .ok (.imul, 1) := by decide +kernel
theorem dX9_putReady_29 : decode cX9_putReady 29 = .ok (.isub, 1) := by decide +kernel
theorem dX9_putReady_30 : decode cX9_putReady 30 = .ok (.iushr, 1) := by decide +kernel
theorem dX9_putReady_31 : decode cX9_putReady 31 = .ok (.sipush 255, 3) := by decide +kernel
theorem dX9_putReady_34 : decode cX9_putReady 34 = .ok (.iand, 1) := by decide +kernel
theorem dX9_putReady_35 : decode cX9_putReady 35 = .ok (.iastore, 1) := by decide +kernel
theorem dX9_putReady_36 : decode cX9_putReady 36 = .ok (.iinc 3 1, 3) := by decide +kernel
theorem dX9_putReady_39 : decode cX9_putReady 39 = .ok (.goto (-37), 3) := by decide +kernel
theorem dX9_putReady_42 : decode cX9_putReady 42 = .ok (.return_, 1) := by decide +kernel
theorem dX9_scanName_0 : decode cX9_scanName 0 = .ok (.aload_n 0, 1) := by decide +kernel
theorem dX9_scanName_1 : decode cX9_scanName 1 = .ok (.getfield 69, 3) := by decide +kernel
theorem dX9_scanName_4 : decode cX9_scanName 4 = .ok (.aload_n 0, 1) := by decide +kernel
theorem dX9_scanName_5 : decode cX9_scanName 5 = .ok (.getfield 49, 3) := by decide +kernel
theorem dX9_scanName_8 : decode cX9_scanName 8 = .ok (.if_icmp .ge 57, 3) := by decide +kernel
theorem dX9_scanName_11 : decode cX9_scanName 11 = .ok (.aload_n 0, 1) := by decide +kernel
theorem dX9_scanName_12 : decode cX9_scanName 12 = .ok (.getfield 11, 3) := by decide +kernel
theorem dX9_scanName_15 : decode cX9_scanName 15 = .ok (.aload_n 0, 1) := by decide +kernel
theorem dX9_scanName_16 : decode cX9_scanName 16 = .ok (.getfield 69, 3) := by decide +kernel
theorem dX9_scanName_19 : decode cX9_scanName 19 = .ok (.iaload, 1) := by decide +kernel
theorem dX9_scanName_20 : decode cX9_scanName 20 = .ok (.invokestatic 45, 3) := by decide +kernel
theorem dX9_scanName_23 : decode cX9_scanName 23 = .ok (.ifCond .le 42, 3) := by decide +kernel
theorem dX9_scanName_26 : decode cX9_scanName 26 = .ok (.aload_n 0, 1) := by decide +kernel
theorem dX9_scanName_27 : decode cX9_scanName 27 = .ok (.aload_n 0, 1) := by decide +kernel
theorem dX9_scanName_28 : decode cX9_scanName 28 = .ok (.getfield 81, 3) := by decide +kernel
theorem dX9_scanName_31 : decode cX9_scanName 31 = .ok (.ldc2_w 43, 3) := by decide +kernel
theorem dX9_scanName_34 : decode cX9_scanName 34 = .ok (.lmul, 1) := by decide +kernel
theorem dX9_scanName_35 : decode cX9_scanName 35 = .ok (.aload_n 0, 1) := by decide +kernel
theorem dX9_scanName_36 : decode cX9_scanName 36 = .ok (.getfield 11, 3) := by decide +kernel
theorem dX9_scanName_39 : decode cX9_scanName 39 = .ok (.aload_n 0, 1) := by decide +kernel
theorem dX9_scanName_40 : decode cX9_scanName 40 = .ok (.getfield 69, 3) := by decide +kernel
theorem dX9_scanName_43 : decode cX9_scanName 43 = .ok (.iaload, 1) := by decide +kernel
theorem dX9_scanName_44 : decode cX9_scanName 44 = .ok (.invokestatic 45, 3) := by decide +kernel
theorem dX9_scanName_47 : decode cX9_scanName 47 = .ok (.i2l, 1) := by decide +kernel
theorem dX9_scanName_48 : decode cX9_scanName 48 = .ok (.ladd, 1) := by decide +kernel
theorem dX9_scanName_49 : decode cX9_scanName 49 = .ok (.putfield 81, 3) := by decide +kernel
theorem dX9_scanName_52 : decode cX9_scanName 52 = .ok (.aload_n 0, 1) := by decide +kernel
theorem dX9_scanName_53 : decode cX9_scanName 53 = .ok (.dup, 1) := by decide +kernel
theorem dX9_scanName_54 : decode cX9_scanName 54 = .ok (.getfield 69, 3) := by decide +kernel
theorem dX9_scanName_57 : decode cX9_scanName 57 = .ok (.iconst 1, 1) := by decide +kernel
theorem dX9_scanName_58 : decode cX9_scanName 58 = .ok (.iadd, 1) := by decide +kernel
theorem dX9_scanName_59 : decode cX9_scanName 59 = .ok (.putfield 69, 3) := by decide +kernel
theorem dX9_scanName_62 : decode cX9_scanName 62 = .ok (.goto (-62), 3) := by decide +kernel
theorem dX9_scanName_65 : decode cX9_scanName 65 = .ok (.aload_n 0, 1) := by decide +kernel
theorem dX9_scanName_66 : decode cX9_scanName 66 = .ok (.getfield 69, 3) := by decide +kernel
theorem dX9_scanName_69 : decode cX9_scanName 69 = .ok (.aload_n 0, 1) := by decide +kernel
theorem dX9_scanName_70 : decode cX9_scanName 70 = .ok (.getfield 78, 3) := by decide +kernel
theorem dX9_scanName_73 : decode cX9_scanName 73 = .ok (.isub, 1) := by decide +kernel
theorem dX9_scanName_74 : decode cX9_scanName 74 = .ok (.bipush 10, 2) := by decide +kernel
theorem dX9_scanName_76 : decode cX9_scanName 76 = .ok (.if_icmp .le 9, 3) := by decide +kernel
theorem dX9_scanName_79 : decode cX9_scanName 79 = .ok (.aload_n 0, 1) := by decide +kernel
theorem dX9_scanName_80 : decode cX9_scanName 80 = .ok (.iconst 1, 1) := by decide +kernel
theorem dX9_scanName_81 : decode cX9_scanName 81 = .ok (.putfield 75, 3) := by decide +kernel
theorem dX9_scanName_84 : decode cX9_scanName 84 = .ok (.return_, 1) := by decide +kernel
theorem dX9_scanName_85 : decode cX9_scanName 85 = .ok (.aload_n 0, 1) := by decide +kernel
theorem dX9_scanName_86 : decode cX9_scanName 86 = .ok (.aload_n 0, 1) := by decide +kernel
theorem dX9_scanName_87 : decode cX9_scanName 87 = .ok (.getfield 81, 3) := by decide +kernel
theorem dX9_scanName_90 : decode cX9_scanName 90 = .ok (.invokevirtual 107, 3) := by decide +kernel
theorem dX9_scanName_93 : decode cX9_scanName 93 = .ok (.istore_n 1, 1) := by decide +kernel
theorem dX9_scanName_94 : decode cX9_scanName 94 = .ok (.aload_n 0, 1) := by decide +kernel
theorem dX9_scanName_95 : decode cX9_scanName 95 = .ok (.iload_n 1, 1) := by decide +kernel
theorem dX9_scanName_96 : decode cX9_scanName 96 = .ok (.iconst (-1), 1) := by decide +kernel
theorem dX9_scanName_97 : decode cX9_scanName 97 = .ok (.if_icmp .ne 7, 3) := by decide +kernel
theorem dX9_scanName_100 : decode cX9_scanName 100 = .ok (.iconst 2, 1) := by decide +kernel
theorem dX9_scanName_101 : decode cX9_scanName 101 = .ok (.goto 4, 3) := by decide +kernel
theorem dX9_scanName_104 : decode cX9_scanName 104 = .ok (.iload_n 1, 1) := by decide +kernel
theorem dX9_scanName_105 : decode cX9_scanName 105 = .ok (.putfield 75, 3) := by decide +kernel
theorem dX9_scanName_108 : decode cX9_scanName 108 = .ok (.return_, 1) := by decide +kernel
theorem dX9_scanNumber_0 : decode cX9_scanNumber 0 = .ok (.aload_n 0, 1) := by decide +kernel
theorem dX9_scanNumber_1 : decode cX9_scanNumber 1 = .ok (.getfield 69, 3) := by decide +kernel
theorem dX9_scanNumber_4 : decode cX9_scanNumber 4 = .ok (.aload_n 0, 1) := by decide +kernel
theorem dX9_scanNumber_5 : decode cX9_scanNumber 5 = .ok (.getfield 49, 3) := by decide +kernel
theorem dX9_scanNumber_8 : decode cX9_scanNumber 8 = .ok (.if_icmp .ge 58, 3) := by decide +kernel
theorem dX9_scanNumber_11 : decode cX9_scanNumber 11 = .ok (.aload_n 0, 1) := by decide +kernel
theorem dX9_scanNumber_12 : decode cX9_scanNumber 12 = .ok (.getfield 11, 3) := by decide +kernel
theorem dX9_scanNumber_15 : decode cX9_scanNumber 15 = .ok (.aload_n 0, 1) := by decide +kernel
theorem dX9_scanNumber_16 : decode cX9_scanNumber 16 = .ok (.getfield 69, 3) := by decide +kernel
theorem dX9_scanNumber_19 : decode cX9_scanNumber 19 = .ok (.iaload, 1) := by decide +kernel
theorem dX9_scanNumber_20 : decode cX9_scanNumber 20 = .ok (.invokestatic 65, 3) := by decide +kernel
theorem dX9_scanNumber_23 : decode cX9_scanNumber 23 = .ok (.ifCond .eq 43, 3) := by decide +kernel
theorem dX9_scanNumber_26 : decode cX9_scanNumber 26 = .ok (.aload_n 0, 1) := by decide +kernel
theorem dX9_scanNumber_27 : decode cX9_scanNumber 27 = .ok (.aload_n 0, 1) := by decide +kernel
theorem dX9_scanNumber_28 : decode cX9_scanNumber 28 = .ok (.getfield 81, 3) := by decide +kernel
theorem dX9_scanNumber_31 : decode cX9_scanNumber 31 = .ok (.ldc2_w 103, 3) := by decide +kernel
theorem dX9_scanNumber_34 : decode cX9_scanNumber 34 = .ok (.lmul, 1) := by decide +kernel
theorem dX9_scanNumber_35 : decode cX9_scanNumber 35 = .ok (.aload_n 0, 1) := by decide +kernel
theorem dX9_scanNumber_36 : decode cX9_scanNumber 36 = .ok (.getfield 11, 3) := by decide +kernel
theorem dX9_scanNumber_39 : decode cX9_scanNumber 39 = .ok (.aload_n 0, 1) := by decide +kernel
theorem dX9_scanNumber_40 : decode cX9_scanNumber 40 = .ok (.getfield 69, 3) := by decide +kernel
theorem dX9_scanNumber_43 : decode cX9_scanNumber 43 = .ok (.iaload, 1) := by decide +kernel
theorem dX9_scanNumber_44 : decode cX9_scanNumber 44 = .ok (.i2l, 1) := by decide +kernel
theorem dX9_scanNumber_45 : decode cX9_scanNumber 45 = .ok (.ladd, 1) := by decide +kernel
theorem dX9_scanNumber_46 : decode cX9_scanNumber 46 = .ok (.ldc2_w 105, 3) := by decide +kernel
theorem dX9_scanNumber_49 : decode cX9_scanNumber 49 = .ok (.lsub, 1) := by decide +kernel
theorem dX9_scanNumber_50 : decode cX9_scanNumber 50 = .ok (.putfield 81, 3) := by decide +kernel
theorem dX9_scanNumber_53 : decode cX9_scanNumber 53 = .ok (.aload_n 0, 1) := by decide +kernel
theorem dX9_scanNumber_54 : decode cX9_scanNumber 54 = .ok (.dup, 1) := by decide +kernel
theorem dX9_scanNumber_55 : decode cX9_scanNumber 55 = .ok (.getfield 69, 3) := by decide +kernel
theorem dX9_scanNumber_58 : decode cX9_scanNumber 58 = .ok (.iconst 1, 1) := by decide +kernel
theorem dX9_scanNumber_59 : decode cX9_scanNumber 59 = .ok (.iadd, 1) := by decide +kernel
theorem dX9_scanNumber_60 : decode cX9_scanNumber 60 = .ok (.putfield 69, 3) := by decide +kernel
theorem dX9_scanNumber_63 : decode cX9_scanNumber 63 = .ok (.goto (-63), 3) := by decide +kernel
theorem dX9_scanNumber_66 : decode cX9_scanNumber 66 = .ok (.aload_n 0, 1) := by decide +kernel
theorem dX9_scanNumber_67 : decode cX9_scanNumber 67 = .ok (.aload_n 0, 1) := by decide +kernel
theorem dX9_scanNumber_68 : decode cX9_scanNumber 68 = .ok (.getfield 69, 3) := by decide +kernel
theorem dX9_scanNumber_71 : decode cX9_scanNumber 71 = .ok (.aload_n 0, 1) := by decide +kernel
theorem dX9_scanNumber_72 : decode cX9_scanNumber 72 = .ok (.getfield 78, 3) := by decide +kernel
theorem dX9_scanNumber_75 : decode cX9_scanNumber 75 = .ok (.isub, 1) := by decide +kernel
theorem dX9_scanNumber_76 : decode cX9_scanNumber 76 = .ok (.bipush 18, 2) := by decide +kernel
theorem dX9_scanNumber_78 : decode cX9_scanNumber 78 = .ok (.if_icmp .le 7, 3) := by decide +kernel
theorem dX9_scanNumber_81 : decode cX9_scanNumber 81 = .ok (.iconst 1, 1) := by decide +kernel
theorem dX9_scanNumber_82 : decode cX9_scanNumber 82 = .ok (.goto 4, 3) := by decide +kernel
theorem dX9_scanNumber_85 : decode cX9_scanNumber 85 = .ok (.iconst 3, 1) := by decide +kernel
theorem dX9_scanNumber_86 : decode cX9_scanNumber 86 = .ok (.putfield 75, 3) := by decide +kernel
theorem dX9_scanNumber_89 : decode cX9_scanNumber 89 = .ok (.return_, 1) := by decide +kernel
theorem dX9_scanSign_0 : decode cX9_scanSign 0 = .ok (.aload_n 0, 1) := by decide +kernel
theorem dX9_scanSign_1 : decode cX9_scanSign 1 = .ok (.getfield 11, 3) := by decide +kernel
theorem dX9_scanSign_4 : decode cX9_scanSign 4 = .ok (.aload_n 0, 1) := by decide +kernel
theorem dX9_scanSign_5 : decode cX9_scanSign 5 = .ok (.getfield 69, 3) := by decide +kernel
theorem dX9_scanSign_8 : decode cX9_scanSign 8 = .ok (.iaload, 1) := by decide +kernel
theorem dX9_scanSign_9 : decode cX9_scanSign 9 = .ok (.istore_n 1, 1) := by decide +kernel
theorem dX9_scanSign_10 : decode cX9_scanSign 10 = .ok (.aload_n 0, 1) := by decide +kernel
theorem dX9_scanSign_11 : decode cX9_scanSign 11 = .ok (.dup, 1) := by decide +kernel
theorem dX9_scanSign_12 : decode cX9_scanSign 12 = .ok (.getfield 69, 3) := by decide +kernel
theorem dX9_scanSign_15 : decode cX9_scanSign 15 = .ok (.iconst 1, 1) := by decide +kernel
theorem dX9_scanSign_16 : decode cX9_scanSign 16 = .ok (.iadd, 1) := by decide +kernel
theorem dX9_scanSign_17 : decode cX9_scanSign 17 = .ok (.putfield 69, 3) := by decide +kernel
theorem dX9_scanSign_20 : decode cX9_scanSign 20 = .ok (.ldc 111, 2) := by decide +kernel
theorem dX9_scanSign_22 : decode cX9_scanSign 22 = .ok (.iload_n 1, 1) := by decide +kernel
theorem dX9_scanSign_23 : decode cX9_scanSign 23 = .ok (.i2c, 1) := by decide +kernel
theorem dX9_scanSign_24 : decode cX9_scanSign 24 = .ok (.invokevirtual 113, 3) := by decide +kernel
theorem dX9_scanSign_27 : decode cX9_scanSign 27 = .ok (.istore_n 2, 1) := by decide +kernel
theorem dX9_scanSign_28 : decode cX9_scanSign 28 = .ok (.aload_n 0, 1) := by decide +kernel
theorem dX9_scanSign_29 : decode cX9_scanSign 29 = .ok (.iload_n 2, 1) := by decide +kernel
theorem dX9_scanSign_30 : decode cX9_scanSign 30 = .ok (.ifCond .ge 7, 3) := by decide +kernel
theorem dX9_scanSign_33 : decode cX9_scanSign 33 = .ok (.iconst 1, 1) := by decide +kernel
theorem dX9_scanSign_34 : decode cX9_scanSign 34 = .ok (.goto 6, 3) := by decide +kernel
theorem dX9_scanSign_37 : decode cX9_scanSign 37 = .ok (.iconst 4, 1) := by decide +kernel
theorem dX9_scanSign_38 : decode cX9_scanSign 38 = .ok (.iload_n 2, 1) := by decide +kernel
theorem dX9_scanSign_39 : decode cX9_scanSign 39 = .ok (.iadd, 1) := by decide +kernel
theorem dX9_scanSign_40 : decode cX9_scanSign 40 = .ok (.putfield 75, 3) := by decide +kernel
theorem dX9_scanSign_43 : decode cX9_scanSign 43 = .ok (.aload_n 0, 1) := by decide +kernel
theorem dX9_scanSign_44 : decode cX9_scanSign 44 = .ok (.getfield 69, 3) := by decide +kernel
theorem dX9_scanSign_47 : decode cX9_scanSign 47 = .ok (.aload_n 0, 1) := by decide +kernel
theorem dX9_scanSign_48 : decode cX9_scanSign 48 = .ok (.getfield 49, 3) := by decide +kernel
theorem dX9_scanSign_51 : decode cX9_scanSign 51 = .ok (.if_icmp .ge 17, 3) := by decide +kernel
theorem dX9_scanSign_54 : decode cX9_scanSign 54 = .ok (.aload_n 0, 1) := by decide +kernel
theorem dX9_scanSign_55 : decode cX9_scanSign 55 = .ok (.getfield 11, 3) := by decide +kernel
theorem dX9_scanSign_58 : decode cX9_scanSign 58 = .ok (.aload_n 0, 1) := by decide +kernel
theorem dX9_scanSign_59 : decode cX9_scanSign 59 = .ok (.getfield 69, 3) := by decide +kernel
theorem dX9_scanSign_62 : decode cX9_scanSign 62 = .ok (.iaload, 1) := by decide +kernel
theorem dX9_scanSign_63 : decode cX9_scanSign 63 = .ok (.bipush 61, 2) := by decide +kernel
theorem dX9_scanSign_65 : decode cX9_scanSign 65 = .ok (.if_icmp .eq 4, 3) := by decide +kernel
theorem dX9_scanSign_68 : decode cX9_scanSign 68 = .ok (.return_, 1) := by decide +kernel
theorem dX9_scanSign_69 : decode cX9_scanSign 69 = .ok (.iload_n 1, 1) := by decide +kernel
theorem dX9_scanSign_70 : decode cX9_scanSign 70 = .ok (.bipush 33, 2) := by decide +kernel
theorem dX9_scanSign_72 : decode cX9_scanSign 72 = .ok (.if_icmp .ne 12, 3) := by decide +kernel
theorem dX9_scanSign_75 : decode cX9_scanSign 75 = .ok (.aload_n 0, 1) := by decide +kernel
theorem dX9_scanSign_76 : decode cX9_scanSign 76 = .ok (.bipush 20, 2) := by decide +kernel
theorem dX9_scanSign_78 : decode cX9_scanSign 78 = .ok (.putfield 75, 3) := by decide +kernel
theorem dX9_scanSign_81 : decode cX9_scanSign 81 = .ok (.goto 34, 3) := by decide +kernel
theorem dX9_scanSign_84 : decode cX9_scanSign 84 = .ok (.iload_n 1, 1) := by decide +kernel
theorem dX9_scanSign_85 : decode cX9_scanSign 85 = .ok (.bipush 60, 2) := by decide +kernel
theorem dX9_scanSign_87 : decode cX9_scanSign 87 = .ok (.if_icmp .ne 12, 3) := by decide +kernel
theorem dX9_scanSign_90 : decode cX9_scanSign 90 = .ok (.aload_n 0, 1) := by decide +kernel
theorem dX9_scanSign_91 : decode cX9_scanSign 91 = .ok (.bipush 21, 2) := by decide +kernel
theorem dX9_scanSign_93 : decode cX9_scanSign 93 = .ok (.putfield 75, 3) := by decide +kernel
theorem dX9_scanSign_96 : decode cX9_scanSign 96 = .ok (.goto 19, 3) := by decide +kernel
theorem dX9_scanSign_99 : decode cX9_scanSign 99 = .ok (.iload_n 1, 1) := by decide +kernel
theorem dX9_scanSign_100 : decode cX9_scanSign 100 = .ok (.bipush 62, 2) := by decide +kernel
theorem dX9_scanSign_102 : decode cX9_scanSign 102 = .ok (.if_icmp .ne 12, 3) := by decide +kernel
theorem dX9_scanSign_105 : decode cX9_scanSign 105 = .ok (.aload_n 0, 1) := by decide +kernel
theorem dX9_scanSign_106 : decode cX9_scanSign 106 = .ok (.bipush 22, 2) := by decide +kernel
theorem dX9_scanSign_108 : decode cX9_scanSign 108 = .ok (.putfield 75, 3) := by decide +kernel
theorem dX9_scanSign_111 : decode cX9_scanSign 111 = .ok (.goto 4, 3) := by decide +kernel
theorem dX9_scanSign_114 : decode cX9_scanSign 114 = .ok (.return_, 1) := by decide +kernel
theorem dX9_scanSign_115 : decode cX9_scanSign 115 = .ok (.aload_n 0, 1) := by decide +kernel
theorem dX9_scanSign_116 : decode cX9_scanSign 116 = .ok (.dup, 1) := by decide +kernel
theorem dX9_scanSign_117 : decode cX9_scanSign 117 = .ok (.getfield 69, 3) := by decide +kernel
theorem dX9_scanSign_120 : decode cX9_scanSign 120 = .ok (.iconst 1, 1) := by decide +kernel
theorem dX9_scanSign_121 : decode cX9_scanSign 121 = .ok (.iadd, 1) := by decide +kernel
theorem dX9_scanSign_122 : decode cX9_scanSign 122 = .ok (.putfield 69, 3) := by decide +kernel
theorem dX9_scanSign_125 : decode cX9_scanSign 125 = .ok (.return_, 1) := by decide +kernel
theorem dX9_scanWord_0 : decode cX9_scanWord 0 = .ok (.aload_n 0, 1) := by decide +kernel
theorem dX9_scanWord_1 : decode cX9_scanWord 1 = .ok (.getfield 69, 3) := by decide +kernel
theorem dX9_scanWord_4 : decode cX9_scanWord 4 = .ok (.aload_n 0, 1) := by decide +kernel
theorem dX9_scanWord_5 : decode cX9_scanWord 5 = .ok (.getfield 49, 3) := by decide +kernel
theorem dX9_scanWord_8 : decode cX9_scanWord 8 = .ok (.if_icmp .ge 31, 3) := by decide +kernel
theorem dX9_scanWord_11 : decode cX9_scanWord 11 = .ok (.aload_n 0, 1) := by decide +kernel
theorem dX9_scanWord_12 : decode cX9_scanWord 12 = .ok (.getfield 11, 3) := by decide +kernel
theorem dX9_scanWord_15 : decode cX9_scanWord 15 = .ok (.aload_n 0, 1) := by decide +kernel
theorem dX9_scanWord_16 : decode cX9_scanWord 16 = .ok (.getfield 69, 3) := by decide +kernel
theorem dX9_scanWord_19 : decode cX9_scanWord 19 = .ok (.iaload, 1) := by decide +kernel
theorem dX9_scanWord_20 : decode cX9_scanWord 20 = .ok (.invokestatic 91, 3) := by decide +kernel
theorem dX9_scanWord_23 : decode cX9_scanWord 23 = .ok (.ifCond .eq 16, 3) := by decide +kernel
theorem dX9_scanWord_26 : decode cX9_scanWord 26 = .ok (.aload_n 0, 1) := by decide +kernel
theorem dX9_scanWord_27 : decode cX9_scanWord 27 = .ok (.dup, 1) := by decide +kernel
theorem dX9_scanWord_28 : decode cX9_scanWord 28 = .ok (.getfield 69, 3) := by decide +kernel
theorem dX9_scanWord_31 : decode cX9_scanWord 31 = .ok (.iconst 1, 1) := by decide +kernel
theorem dX9_scanWord_32 : decode cX9_scanWord 32 = .ok (.iadd, 1) := by decide +kernel
theorem dX9_scanWord_33 : decode cX9_scanWord 33 = .ok (.putfield 69, 3) := by decide +kernel
theorem dX9_scanWord_36 : decode cX9_scanWord 36 = .ok (.goto (-36), 3) := by decide +kernel
theorem dX9_scanWord_39 : decode cX9_scanWord 39 = .ok (.aload_n 0, 1) := by decide +kernel
theorem dX9_scanWord_40 : decode cX9_scanWord 40 = .ok (.aload_n 0, 1) := by decide +kernel
theorem dX9_scanWord_41 : decode cX9_scanWord 41 = .ok (.getfield 69, 3) := by decide +kernel
theorem dX9_scanWord_44 : decode cX9_scanWord 44 = .ok (.putfield 78, 3) := by decide +kernel
theorem dX9_scanWord_47 : decode cX9_scanWord 47 = .ok (.aload_n 0, 1) := by decide +kernel
theorem dX9_scanWord_48 : decode cX9_scanWord 48 = .ok (.lconst 0, 1) := by decide +kernel
theorem dX9_scanWord_49 : decode cX9_scanWord 49 = .ok (.putfield 81, 3) := by decide +kernel
theorem dX9_scanWord_52 : decode cX9_scanWord 52 = .ok (.aload_n 0, 1) := by decide +kernel
theorem dX9_scanWord_53 : decode cX9_scanWord 53 = .ok (.getfield 69, 3) := by decide +kernel
theorem dX9_scanWord_56 : decode cX9_scanWord 56 = .ok (.aload_n 0, 1) := by decide +kernel
theorem dX9_scanWord_57 : decode cX9_scanWord 57 = .ok (.getfield 49, 3) := by decide +kernel
theorem dX9_scanWord_60 : decode cX9_scanWord 60 = .ok (.if_icmp .lt 11, 3) := by decide +kernel
theorem dX9_scanWord_63 : decode cX9_scanWord 63 = .ok (.aload_n 0, 1) := by decide +kernel
theorem dX9_scanWord_64 : decode cX9_scanWord 64 = .ok (.iconst 0, 1) := by decide +kernel
theorem dX9_scanWord_65 : decode cX9_scanWord 65 = .ok (.putfield 75, 3) := by decide +kernel
theorem dX9_scanWord_68 : decode cX9_scanWord 68 = .ok (.goto 51, 3) := by decide +kernel
theorem dX9_scanWord_71 : decode cX9_scanWord 71 = .ok (.aload_n 0, 1) := by decide +kernel
theorem dX9_scanWord_72 : decode cX9_scanWord 72 = .ok (.getfield 11, 3) := by decide +kernel
theorem dX9_scanWord_75 : decode cX9_scanWord 75 = .ok (.aload_n 0, 1) := by decide +kernel
theorem dX9_scanWord_76 : decode cX9_scanWord 76 = .ok (.getfield 69, 3) := by decide +kernel
theorem dX9_scanWord_79 : decode cX9_scanWord 79 = .ok (.iaload, 1) := by decide +kernel
theorem dX9_scanWord_80 : decode cX9_scanWord 80 = .ok (.invokestatic 65, 3) := by decide +kernel
theorem dX9_scanWord_83 : decode cX9_scanWord 83 = .ok (.ifCond .eq 10, 3) := by decide +kernel
theorem dX9_scanWord_86 : decode cX9_scanWord 86 = .ok (.aload_n 0, 1) := by decide +kernel
theorem dX9_scanWord_87 : decode cX9_scanWord 87 = .ok (.invokevirtual 94, 3) := by decide +kernel
theorem dX9_scanWord_90 : decode cX9_scanWord 90 = .ok (.goto 29, 3) := by decide +kernel
theorem dX9_scanWord_93 : decode cX9_scanWord 93 = .ok (.aload_n 0, 1) := by decide +kernel
theorem dX9_scanWord_94 : decode cX9_scanWord 94 = .ok (.getfield 11, 3) := by decide +kernel
theorem dX9_scanWord_97 : decode cX9_scanWord 97 = .ok (.aload_n 0, 1) := by decide +kernel
theorem dX9_scanWord_98 : decode cX9_scanWord 98 = .ok (.getfield 69, 3) := by decide +kernel
theorem dX9_scanWord_101 : decode cX9_scanWord 101 = .ok (.iaload, 1) := by decide +kernel
theorem dX9_scanWord_102 : decode cX9_scanWord 102 = .ok (.invokestatic 45, 3) := by decide +kernel
theorem dX9_scanWord_105 : decode cX9_scanWord 105 = .ok (.ifCond .le 10, 3) := by decide +kernel
theorem dX9_scanWord_108 : decode cX9_scanWord 108 = .ok (.aload_n 0, 1) := by decide +kernel
theorem dX9_scanWord_109 : decode cX9_scanWord 109 = .ok (.invokevirtual 97, 3) := by decide +kernel
theorem dX9_scanWord_112 : decode cX9_scanWord 112 = .ok (.goto 7, 3) := by decide +kernel
theorem dX9_scanWord_115 : decode cX9_scanWord 115 = .ok (.aload_n 0, 1) := by decide +kernel
theorem dX9_scanWord_116 : decode cX9_scanWord 116 = .ok (.invokevirtual 100, 3) := by decide +kernel
theorem dX9_scanWord_119 : decode cX9_scanWord 119 = .ok (.return_, 1) := by decide +kernel
theorem dX9_startWords_0 : decode cX9_startWords 0 = .ok (.aload_n 0, 1) := by decide +kernel
theorem dX9_startWords_1 : decode cX9_startWords 1 = .ok (.iconst 0, 1) := by decide +kernel
theorem dX9_startWords_2 : decode cX9_startWords 2 = .ok (.putfield 69, 3) := by decide +kernel
theorem dX9_startWords_5 : decode cX9_startWords 5 = .ok (.iconst 0, 1) := by decide +kernel
theorem dX9_startWords_6 : decode cX9_startWords 6 = .ok (.istore_n 1, 1) := by decide +kernel
theorem dX9_startWords_7 : decode cX9_startWords 7 = .ok (.aload_n 0, 1) := by decide +kernel
theorem dX9_startWords_8 : decode cX9_startWords 8 = .ok (.invokevirtual 72, 3) := by decide +kernel
theorem dX9_startWords_11 : decode cX9_startWords 11 = .ok (.aload_n 0, 1) := by decide +kernel
theorem dX9_startWords_12 : decode cX9_startWords 12 = .ok (.getfield 18, 3) := by decide +kernel
theorem dX9_startWords_15 : decode cX9_startWords 15 = .ok (.iload_n 1, 1) := by decide +kernel
theorem dX9_startWords_16 : decode cX9_startWords 16 = .ok (.aload_n 0, 1) := by decide +kernel
theorem dX9_startWords_17 : decode cX9_startWords 17 = .ok (.getfield 75, 3) := by decide +kernel
theorem dX9_startWords_20 : decode cX9_startWords 20 = .ok (.iastore, 1) := by decide +kernel
theorem dX9_startWords_21 : decode cX9_startWords 21 = .ok (.aload_n 0, 1) := by decide +kernel
theorem dX9_startWords_22 : decode cX9_startWords 22 = .ok (.getfield 21, 3) := by decide +kernel
theorem dX9_startWords_25 : decode cX9_startWords 25 = .ok (.iload_n 1, 1) := by decide +kernel
theorem dX9_startWords_26 : decode cX9_startWords 26 = .ok (.aload_n 0, 1) := by decide +kernel
theorem dX9_startWords_27 : decode cX9_startWords 27 = .ok (.getfield 78, 3) := by decide +kernel
theorem dX9_startWords_30 : decode cX9_startWords 30 = .ok (.iastore, 1) := by decide +kernel
theorem dX9_startWords_31 : decode cX9_startWords 31 = .ok (.aload_n 0, 1) := by decide +kernel
theorem dX9_startWords_32 : decode cX9_startWords 32 = .ok (.getfield 24, 3) := by decide +kernel
theorem dX9_startWords_35 : decode cX9_startWords 35 = .ok (.iload_n 1, 1) := by decide +kernel
theorem dX9_startWords_36 : decode cX9_startWords 36 = .ok (.aload_n 0, 1) := by decide +kernel
theorem dX9_startWords_37 : decode cX9_startWords 37 = .ok (.getfield 81, 3) := by decide +kernel
theorem dX9_startWords_40 : decode cX9_startWords 40 = .ok (.lastore, 1) := by decide +kernel
theorem dX9_startWords_41 : decode cX9_startWords 41 = .ok (.iinc 1 1, 3) := by decide +kernel
theorem dX9_startWords_44 : decode cX9_startWords 44 = .ok (.aload_n 0, 1) := by decide +kernel
theorem dX9_startWords_45 : decode cX9_startWords 45 = .ok (.getfield 75, 3) := by decide +kernel
theorem dX9_startWords_48 : decode cX9_startWords 48 = .ok (.ifCond .eq 10, 3) := by decide +kernel
theorem dX9_startWords_51 : decode cX9_startWords 51 = .ok (.iload_n 1, 1) := by decide +kernel
theorem dX9_startWords_52 : decode cX9_startWords 52 = .ok (.sipush 4000, 3) := by decide +kernel
theorem dX9_startWords_55 : decode cX9_startWords 55 = .ok (.if_icmp .le (-48), 3) := by decide +kernel
theorem dX9_startWords_58 : decode cX9_startWords 58 = .ok (.aload_n 0, 1) := by decide +kernel
theorem dX9_startWords_59 : decode cX9_startWords 59 = .ok (.iconst 0, 1) := by decide +kernel
theorem dX9_startWords_60 : decode cX9_startWords 60 = .ok (.putfield 85, 3) := by decide +kernel
theorem dX9_startWords_63 : decode cX9_startWords 63 = .ok (.aload_n 0, 1) := by decide +kernel
theorem dX9_startWords_64 : decode cX9_startWords 64 = .ok (.invokevirtual 88, 3) := by decide +kernel
theorem dX9_startWords_67 : decode cX9_startWords 67 = .ok (.return_, 1) := by decide +kernel
theorem dX9_takeReady_0 : decode cX9_takeReady 0 = .ok (.iload_n 1, 1) := by decide +kernel
theorem dX9_takeReady_1 : decode cX9_takeReady 1 = .ok (.ifCond .lt 21, 3) := by decide +kernel
theorem dX9_takeReady_4 : decode cX9_takeReady 4 = .ok (.iload_n 1, 1) := by decide +kernel
theorem dX9_takeReady_5 : decode cX9_takeReady 5 = .ok (.bipush 20, 2) := by decide +kernel
theorem dX9_takeReady_7 : decode cX9_takeReady 7 = .ok (.if_icmp .gt 15, 3) := by decide +kernel
theorem dX9_takeReady_10 : decode cX9_takeReady 10 = .ok (.aload_n 0, 1) := by decide +kernel
theorem dX9_takeReady_11 : decode cX9_takeReady 11 = .ok (.getfield 49, 3) := by decide +kernel
theorem dX9_takeReady_14 : decode cX9_takeReady 14 = .ok (.iload_n 1, 1) := by decide +kernel
theorem dX9_takeReady_15 : decode cX9_takeReady 15 = .ok (.iadd, 1) := by decide +kernel
theorem dX9_takeReady_16 : decode cX9_takeReady 16 = .ok (.sipush 4000, 3) := by decide +kernel
theorem dX9_takeReady_19 : decode cX9_takeReady 19 = .ok (.if_icmp .le 5, 3) := by decide +kernel
theorem dX9_takeReady_22 : decode cX9_takeReady 22 = .ok (.iconst (-1), 1) := by decide +kernel
theorem dX9_takeReady_23 : decode cX9_takeReady 23 = .ok (.ireturn, 1) := by decide +kernel
theorem dX9_takeReady_24 : decode cX9_takeReady 24 = .ok (.aload_n 0, 1) := by decide +kernel
theorem dX9_takeReady_25 : decode cX9_takeReady 25 = .ok (.getfield 15, 3) := by decide +kernel
theorem dX9_takeReady_28 : decode cX9_takeReady 28 = .ok (.iconst 0, 1) := by decide +kernel
theorem dX9_takeReady_29 : decode cX9_takeReady 29 = .ok (.aload_n 0, 1) := by decide +kernel
theorem dX9_takeReady_30 : decode cX9_takeReady 30 = .ok (.getfield 11, 3) := by decide +kernel
theorem dX9_takeReady_33 : decode cX9_takeReady 33 = .ok (.aload_n 0, 1) := by decide +kernel
theorem dX9_takeReady_34 : decode cX9_takeReady 34 = .ok (.getfield 49, 3) := by decide +kernel
theorem dX9_takeReady_37 : decode cX9_takeReady 37 = .ok (.iload_n 1, 1) := by decide +kernel
theorem dX9_takeReady_38 : decode cX9_takeReady 38 = .ok (.invokestatic 53, 3) := by decide +kernel
theorem dX9_takeReady_41 : decode cX9_takeReady 41 = .ok (.aload_n 0, 1) := by decide +kernel
theorem dX9_takeReady_42 : decode cX9_takeReady 42 = .ok (.dup, 1) := by decide +kernel
theorem dX9_takeReady_43 : decode cX9_takeReady 43 = .ok (.getfield 49, 3) := by decide +kernel
theorem dX9_takeReady_46 : decode cX9_takeReady 46 = .ok (.iload_n 1, 1) := by decide +kernel
theorem dX9_takeReady_47 : decode cX9_takeReady 47 = .ok (.iadd, 1) := by decide +kernel
theorem dX9_takeReady_48 : decode cX9_takeReady 48 = .ok (.putfield 49, 3) := by decide +kernel
theorem dX9_takeReady_51 : decode cX9_takeReady 51 = .ok (.aload_n 0, 1) := by decide +kernel
theorem dX9_takeReady_52 : decode cX9_takeReady 52 = .ok (.getfield 15, 3) := by decide +kernel
theorem dX9_takeReady_55 : decode cX9_takeReady 55 = .ok (.iconst 0, 1) := by decide +kernel
theorem dX9_takeReady_56 : decode cX9_takeReady 56 = .ok (.invokestatic 59, 3) := by decide +kernel
theorem dX9_takeReady_59 : decode cX9_takeReady 59 = .ok (.aload_n 0, 1) := by decide +kernel
theorem dX9_takeReady_60 : decode cX9_takeReady 60 = .ok (.getfield 49, 3) := by decide +kernel
theorem dX9_takeReady_63 : decode cX9_takeReady 63 = .ok (.ireturn, 1) := by decide +kernel
theorem dX9_wholeName_0 : decode cX9_wholeName 0 = .ok (.aload_n 0, 1) := by decide +kernel
theorem dX9_wholeName_1 : decode cX9_wholeName 1 = .ok (.getfield 49, 3) := by decide +kernel
theorem dX9_wholeName_4 : decode cX9_wholeName 4 = .ok (.bipush 10, 2) := by decide +kernel
theorem dX9_wholeName_6 : decode cX9_wholeName 6 = .ok (.if_icmp .le 5, 3) := by decide +kernel
theorem dX9_wholeName_9 : decode cX9_wholeName 9 = .ok (.lconst 0, 1) := by decide +kernel
theorem dX9_wholeName_10 : decode cX9_wholeName 10 = .ok (.lreturn, 1) := by decide +kernel
theorem dX9_wholeName_11 : decode cX9_wholeName 11 = .ok (.aload_n 0, 1) := by decide +kernel
theorem dX9_wholeName_12 : decode cX9_wholeName 12 = .ok (.iconst 0, 1) := by decide +kernel
theorem dX9_wholeName_13 : decode cX9_wholeName 13 = .ok (.putfield 69, 3) := by decide +kernel
theorem dX9_wholeName_16 : decode cX9_wholeName 16 = .ok (.aload_n 0, 1) := by decide +kernel
theorem dX9_wholeName_17 : decode cX9_wholeName 17 = .ok (.invokevirtual 72, 3) := by decide +kernel
theorem dX9_wholeName_20 : decode cX9_wholeName 20 = .ok (.aload_n 0, 1) := by decide +kernel
theorem dX9_wholeName_21 : decode cX9_wholeName 21 = .ok (.getfield 75, 3) := by decide +kernel
theorem dX9_wholeName_24 : decode cX9_wholeName 24 = .ok (.iconst 2, 1) := by decide +kernel
theorem dX9_wholeName_25 : decode cX9_wholeName 25 = .ok (.if_icmp .ne 28, 3) := by decide +kernel
theorem dX9_wholeName_28 : decode cX9_wholeName 28 = .ok (.aload_n 0, 1) := by decide +kernel
theorem dX9_wholeName_29 : decode cX9_wholeName 29 = .ok (.getfield 78, 3) := by decide +kernel
theorem dX9_wholeName_32 : decode cX9_wholeName 32 = .ok (.ifCond .ne 21, 3) := by decide +kernel
theorem dX9_wholeName_35 : decode cX9_wholeName 35 = .ok (.aload_n 0, 1) := by decide +kernel
theorem dX9_wholeName_36 : decode cX9_wholeName 36 = .ok (.getfield 69, 3) := by decide +kernel
theorem dX9_wholeName_39 : decode cX9_wholeName 39 = .ok (.aload_n 0, 1) := by decide +kernel
theorem dX9_wholeName_40 : decode cX9_wholeName 40 = .ok (.getfield 49, 3) := by decide +kernel
theorem dX9_wholeName_43 : decode cX9_wholeName 43 = .ok (.if_icmp .ne 10, 3) := by decide +kernel
theorem dX9_wholeName_46 : decode cX9_wholeName 46 = .ok (.aload_n 0, 1) := by decide +kernel
theorem dX9_wholeName_47 : decode cX9_wholeName 47 = .ok (.getfield 81, 3) := by decide +kernel
theorem dX9_wholeName_50 : decode cX9_wholeName 50 = .ok (.goto 4, 3) := by decide +kernel
theorem dX9_wholeName_53 : decode cX9_wholeName 53 = .ok (.lconst 0, 1) := by decide +kernel
theorem dX9_wholeName_54 : decode cX9_wholeName 54 = .ok (.lreturn, 1) := by decide +kernel
