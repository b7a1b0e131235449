theorem dX0_init_0 : decode cX0_init 0 = .ok (.aload_n 0, 1) := by decide +kernel
theorem dX0_init_1 : decode cX0_init 1 = .ok (.invokespecial 5, 3) := by decide +kernel
theorem dX0_init_4 : decode cX0_init 4 = .ok (.aload_n 0, 1) := by decide +kernel
theorem dX0_init_5 : decode cX0_init 5 = .ok (.aload_n 1, 1) := by decide +kernel
theorem dX0_init_6 : decode cX0_init 6 = .ok (.putfield 11, 3) := by decide +kernel
theorem dX0_init_9 : decode cX0_init 9 = .ok (.aload_n 0, 1) := by decide +kernel
theorem dX0_init_10 : decode cX0_init 10 = .ok (.sipush 4000, 3) := by decide +kernel
theorem dX0_init_13 : decode cX0_init 13 = .ok (.newarray .int, 2) := by decide +kernel
theorem dX0_init_15 : decode cX0_init 15 = .ok (.putfield 19, 3) := by decide +kernel
theorem dX0_init_18 : decode cX0_init 18 = .ok (.aload_n 0, 1) := by decide +kernel
theorem dX0_init_19 : decode cX0_init 19 = .ok (.sipush 8000, 3) := by decide +kernel
theorem dX0_init_22 : decode cX0_init 22 = .ok (.newarray .int, 2) := by decide +kernel
theorem dX0_init_24 : decode cX0_init 24 = .ok (.putfield 23, 3) := by decide +kernel
theorem dX0_init_27 : decode cX0_init 27 = .ok (.aload_n 0, 1) := by decide +kernel
theorem dX0_init_28 : decode cX0_init 28 = .ok (.aload_n 0, 1) := by decide +kernel
theorem dX0_init_29 : decode cX0_init 29 = .ok (.getfield 19, 3) := by decide +kernel
theorem dX0_init_32 : decode cX0_init 32 = .ok (.putfield 26, 3) := by decide +kernel
theorem dX0_init_35 : decode cX0_init 35 = .ok (.aload_n 0, 1) := by decide +kernel
theorem dX0_init_36 : decode cX0_init 36 = .ok (.sipush 400, 3) := by decide +kernel
theorem dX0_init_39 : decode cX0_init 39 = .ok (.newarray .int, 2) := by decide +kernel
theorem dX0_init_41 : decode cX0_init 41 = .ok (.putfield 29, 3) := by decide +kernel
theorem dX0_init_44 : decode cX0_init 44 = .ok (.aload_n 0, 1) := by decide +kernel
theorem dX0_init_45 : decode cX0_init 45 = .ok (.sipush 4000, 3) := by decide +kernel
theorem dX0_init_48 : decode cX0_init 48 = .ok (.newarray .int, 2) := by decide +kernel
theorem dX0_init_50 : decode cX0_init 50 = .ok (.putfield 32, 3) := by decide +kernel
theorem dX0_init_53 : decode cX0_init 53 = .ok (.return_, 1) := by decide +kernel
theorem dX0_encode_0 : decode cX0_encode 0 = .ok (.aload_n 0, 1) := by decide +kernel
theorem dX0_encode_1 : decode cX0_encode 1 = .ok (.iconst 0, 1) := by decide +kernel
theorem dX0_encode_2 : decode cX0_encode 2 = .ok (.putfield 35, 3) := by decide +kernel
theorem dX0_encode_5 : decode cX0_encode 5 = .ok (.aload_n 0, 1) := by decide +kernel
theorem dX0_encode_6 : decode cX0_encode 6 = .ok (.bipush 72, 2) := by decide +kernel
theorem dX0_encode_8 : decode cX0_encode 8 = .ok (.invokevirtual 39, 3) := by decide +kernel
theorem dX0_encode_11 : decode cX0_encode 11 = .ok (.aload_n 0, 1) := by decide +kernel
theorem dX0_encode_12 : decode cX0_encode 12 = .ok (.bipush 80, 2) := by decide +kernel
theorem dX0_encode_14 : decode cX0_encode 14 = .ok (.invokevirtual 39, 3) := by decide +kernel
theorem dX0_encode_17 : decode cX0_encode 17 = .ok (.aload_n 0, 1) := by decide +kernel
theorem dX0_encode_18 : decode cX0_encode 18 = .ok (.aload_n 1, 1) := by decide +kernel
theorem dX0_encode_19 : decode cX0_encode 19 = .ok (.getfield 43, 3) := by decide +kernel
theorem dX0_encode_22 : decode cX0_encode 22 = .ok (.i2l, 1) := by decide +kernel
theorem dX0_encode_23 : decode cX0_encode 23 = .ok (.invokevirtual 46, 3) := by decide +kernel
theorem dX0_encode_26 : decode cX0_encode 26 = .ok (.iconst 0, 1) := by decide +kernel
theorem dX0_encode_27 : decode cX0_encode 27 = .ok (.istore_n 2, 1) := by decide +kernel
theorem dX0_encode_28 : decode cX0_encode 28 = .ok (.iload_n 2, 1) := by decide +kernel
theorem dX0_encode_29 : decode cX0_encode 29 = .ok (.aload_n 1, 1) := by decide +kernel
theorem dX0_encode_30 : decode cX0_encode 30 = .ok (.getfield 43, 3) := by decide +kernel
theorem dX0_encode_33 : decode cX0_encode 33 = .ok (.if_icmp .ge 105, 3) := by decide +kernel
theorem dX0_encode_138 : decode cX0_encode 138 = .ok (.aload_n 0, 1) := by decide +kernel
theorem dX0_encode_139 : decode cX0_encode 139 = .ok (.aload_n 1, 1) := by decide +kernel
theorem dX0_encode_140 : decode cX0_encode 140 = .ok (.getfield 70, 3) := by decide +kernel
theorem dX0_encode_143 : decode cX0_encode 143 = .ok (.i2l, 1) := by decide +kernel
theorem dX0_encode_144 : decode cX0_encode 144 = .ok (.invokevirtual 46, 3) := by decide +kernel
theorem dX0_encode_147 : decode cX0_encode 147 = .ok (.iconst 0, 1) := by decide +kernel
theorem dX0_encode_148 : decode cX0_encode 148 = .ok (.istore_n 2, 1) := by decide +kernel
theorem dX0_encode_149 : decode cX0_encode 149 = .ok (.iload_n 2, 1) := by decide +kernel
theorem dX0_encode_150 : decode cX0_encode 150 = .ok (.aload_n 1, 1) := by decide +kernel
theorem dX0_encode_151 : decode cX0_encode 151 = .ok (.getfield 70, 3) := by decide +kernel
theorem dX0_encode_154 : decode cX0_encode 154 = .ok (.if_icmp .ge 31, 3) := by decide +kernel
theorem dX0_encode_185 : decode cX0_encode 185 = .ok (.aload_n 0, 1) := by decide +kernel
theorem dX0_encode_186 : decode cX0_encode 186 = .ok (.getfield 19, 3) := by decide +kernel
theorem dX0_encode_189 : decode cX0_encode 189 = .ok (.iconst 0, 1) := by decide +kernel
theorem dX0_encode_190 : decode cX0_encode 190 = .ok (.aload_n 0, 1) := by decide +kernel
theorem dX0_encode_191 : decode cX0_encode 191 = .ok (.getfield 35, 3) := by decide +kernel
theorem dX0_encode_194 : decode cX0_encode 194 = .ok (.aload_n 0, 1) := by decide +kernel
theorem dX0_encode_195 : decode cX0_encode 195 = .ok (.getfield 19, 3) := by decide +kernel
theorem dX0_encode_198 : decode cX0_encode 198 = .ok (.arraylength, 1) := by decide +kernel
theorem dX0_encode_199 : decode cX0_encode 199 = .ok (.invokestatic 79, 3) := by decide +kernel
theorem dX0_encode_202 : decode cX0_encode 202 = .ok (.invokestatic 85, 3) := by decide +kernel
theorem dX0_encode_205 : decode cX0_encode 205 = .ok (.istore_n 2, 1) := by decide +kernel
theorem dX0_encode_206 : decode cX0_encode 206 = .ok (.iconst 0, 1) := by decide +kernel
theorem dX0_encode_207 : decode cX0_encode 207 = .ok (.istore_n 3, 1) := by decide +kernel
theorem dX0_encode_208 : decode cX0_encode 208 = .ok (.iload_n 3, 1) := by decide +kernel
theorem dX0_encode_209 : decode cX0_encode 209 = .ok (.iconst 4, 1) := by decide +kernel
theorem dX0_encode_210 : decode cX0_encode 210 = .ok (.if_icmp .ge 23, 3) := by decide +kernel
theorem dX0_encode_213 : decode cX0_encode 213 = .ok (.aload_n 0, 1) := by decide +kernel
theorem dX0_encode_214 : decode cX0_encode 214 = .ok (.iload_n 2, 1) := by decide +kernel
theorem dX0_encode_215 : decode cX0_encode 215 = .ok (.bipush 8, 2) := by decide +kernel
theorem dX0_encode_217 : decode cX0_encode 217 = .ok (.iload_n 3, 1) := by decide +kernel
theorem dX0_encode_218 : decode cX0_encode 218 = .ok (.imul, 1) := by decide +kernel
theorem dX0_encode_219 : decode cX0_encode 219 = .ok (.iushr, 1) := by decide +kernel
theorem dX0_encode_220 : decode cX0_encode 220 = .ok (.sipush 255, 3) := by decide +kernel
theorem dX0_encode_223 : decode cX0_encode 223 = .ok (.iand, 1) := by decide +kernel
theorem dX0_encode_224 : decode cX0_encode 224 = .ok (.invokevirtual 39, 3) := by decide +kernel
theorem dX0_encode_227 : decode cX0_encode 227 = .ok (.iinc 3 1, 3) := by decide +kernel
theorem dX0_encode_230 : decode cX0_encode 230 = .ok (.goto (-22), 3) := by decide +kernel
theorem dX0_encode_233 : decode cX0_encode 233 = .ok (.aload_n 0, 1) := by decide +kernel
theorem dX0_encode_234 : decode cX0_encode 234 = .ok (.getfield 35, 3) := by decide +kernel
theorem dX0_encode_237 : decode cX0_encode 237 = .ok (.ireturn, 1) := by decide +kernel
theorem dX0_put_0 : decode cX0_put 0 = .ok (.aload_n 0, 1) := by decide +kernel
theorem dX0_put_1 : decode cX0_put 1 = .ok (.getfield 35, 3) := by decide +kernel
theorem dX0_put_4 : decode cX0_put 4 = .ok (.aload_n 0, 1) := by decide +kernel
theorem dX0_put_5 : decode cX0_put 5 = .ok (.getfield 19, 3) := by decide +kernel
theorem dX0_put_8 : decode cX0_put 8 = .ok (.arraylength, 1) := by decide +kernel
theorem dX0_put_9 : decode cX0_put 9 = .ok (.if_icmp .ge 13, 3) := by decide +kernel
theorem dX0_put_12 : decode cX0_put 12 = .ok (.aload_n 0, 1) := by decide +kernel
theorem dX0_put_13 : decode cX0_put 13 = .ok (.getfield 19, 3) := by decide +kernel
theorem dX0_put_16 : decode cX0_put 16 = .ok (.aload_n 0, 1) := by decide +kernel
theorem dX0_put_17 : decode cX0_put 17 = .ok (.getfield 35, 3) := by decide +kernel
theorem dX0_put_20 : decode cX0_put 20 = .ok (.iload_n 1, 1) := by decide +kernel
theorem dX0_put_21 : decode cX0_put 21 = .ok (.iastore, 1) := by decide +kernel
theorem dX0_put_22 : decode cX0_put 22 = .ok (.aload_n 0, 1) := by decide +kernel
theorem dX0_put_23 : decode cX0_put 23 = .ok (.dup, 1) := by decide +kernel
theorem dX0_put_24 : decode cX0_put 24 = .ok (.getfield 35, 3) := by decide +kernel
theorem dX0_put_27 : decode cX0_put 27 = .ok (.iconst 1, 1) := by decide +kernel
theorem dX0_put_28 : decode cX0_put 28 = .ok (.iadd, 1) := by decide +kernel
theorem dX0_put_29 : decode cX0_put 29 = .ok (.putfield 35, 3) := by decide +kernel
theorem dX0_put_32 : decode cX0_put 32 = .ok (.return_, 1) := by decide +kernel
theorem dX0_putNumber_0 : decode cX0_putNumber 0 = .ok (.lload_n 1, 1) := by decide +kernel
theorem dX0_putNumber_1 : decode cX0_putNumber 1 = .ok (.lstore_n 3, 1) := by decide +kernel
theorem dX0_putNumber_2 : decode cX0_putNumber 2 = .ok (.iconst 0, 1) := by decide +kernel
theorem dX0_putNumber_3 : decode cX0_putNumber 3 = .ok (.istore 5, 2) := by decide +kernel
theorem dX0_putNumber_5 : decode cX0_putNumber 5 = .ok (.iload 5, 2) := by decide +kernel
theorem dX0_putNumber_7 : decode cX0_putNumber 7 = .ok (.bipush 10, 2) := by decide +kernel
theorem dX0_putNumber_9 : decode cX0_putNumber 9 = .ok (.if_icmp .ge 37, 3) := by decide +kernel
theorem dX0_putNumber_12 : decode cX0_putNumber 12 = .ok (.lload_n 3, 1) := by decide +kernel
theorem dX0_putNumber_13 : decode cX0_putNumber 13 = .ok (.bipush 7, 2) := by decide +kernel
theorem dX0_putNumber_15 : decode cX0_putNumber 15 = .ok (.lushr, 1) := by decide +kernel
theorem dX0_putNumber_16 : decode cX0_putNumber 16 = .ok (.lconst 0, 1) := by decide +kernel
theorem dX0_putNumber_17 : decode cX0_putNumber 17 = .ok (.lcmp, 1) := by decide +kernel
theorem dX0_putNumber_18 : decode cX0_putNumber 18 = .ok (.ifCond .eq 28, 3) := by decide +kernel
theorem dX0_putNumber_46 : decode cX0_putNumber 46 = .ok (.aload_n 0, 1) := by decide +kernel
theorem dX0_putNumber_47 : decode cX0_putNumber 47 = .ok (.lload_n 3, 1) := by decide +kernel
theorem dX0_putNumber_48 : decode cX0_putNumber 48 = .ok (.l2i, 1) := by decide +kernel
theorem dX0_putNumber_49 : decode cX0_putNumber 49 = .ok (.invokevirtual 39, 3) := by decide +kernel
theorem dX0_putNumber_52 : decode cX0_putNumber 52 = .ok (.return_, 1) := by decide +kernel
theorem dX0_checkOf_0 : decode cX0_checkOf 0 = .ok (.iconst 1, 1) := by decide +kernel
theorem dX0_checkOf_1 : decode cX0_checkOf 1 = .ok (.istore_n 3, 1) := by decide +kernel
theorem dX0_checkOf_2 : decode cX0_checkOf 2 = .ok (.iload_n 1, 1) := by decide +kernel
theorem dX0_checkOf_3 : decode cX0_checkOf 3 = .ok (.istore 4, 2) := by decide +kernel
theorem dX0_checkOf_5 : decode cX0_checkOf 5 = .ok (.iload 4, 2) := by decide +kernel
theorem dX0_checkOf_7 : decode cX0_checkOf 7 = .ok (.iload_n 2, 1) := by decide +kernel
theorem dX0_checkOf_8 : decode cX0_checkOf 8 = .ok (.if_icmp .ge 19, 3) := by decide +kernel
theorem dX0_checkOf_11 : decode cX0_checkOf 11 = .ok (.iload_n 3, 1) := by decide +kernel
theorem dX0_checkOf_12 : decode cX0_checkOf 12 = .ok (.ldc 91, 2) := by decide +kernel
theorem dX0_checkOf_14 : decode cX0_checkOf 14 = .ok (.imul, 1) := by decide +kernel
theorem dX0_checkOf_15 : decode cX0_checkOf 15 = .ok (.aload_n 0, 1) := by decide +kernel
theorem dX0_checkOf_16 : decode cX0_checkOf 16 = .ok (.iload 4, 2) := by decide +kernel
theorem dX0_checkOf_18 : decode cX0_checkOf 18 = .ok (.iaload, 1) := by decide +kernel
theorem dX0_checkOf_19 : decode cX0_checkOf 19 = .ok (.ixor, 1) := by decide +kernel
theorem dX0_checkOf_20 : decode cX0_checkOf 20 = .ok (.istore_n 3, 1) := by decide +kernel
theorem dX0_checkOf_21 : decode cX0_checkOf 21 = .ok (.iinc 4 1, 3) := by decide +kernel
theorem dX0_checkOf_24 : decode cX0_checkOf 24 = .ok (.goto (-19), 3) := by decide +kernel
theorem dX0_checkOf_27 : decode cX0_checkOf 27 = .ok (.iload_n 3, 1) := by decide +kernel
theorem dX0_checkOf_28 : decode cX0_checkOf 28 = .ok (.ireturn, 1) := by decide +kernel
theorem dX0_decode_0 : decode cX0_decode 0 = .ok (.aload_n 0, 1) := by decide +kernel
theorem dX0_decode_1 : decode cX0_decode 1 = .ok (.aload_n 1, 1) := by decide +kernel
theorem dX0_decode_2 : decode cX0_decode 2 = .ok (.putfield 26, 3) := by decide +kernel
theorem dX0_decode_5 : decode cX0_decode 5 = .ok (.aload_n 0, 1) := by decide +kernel
theorem dX0_decode_6 : decode cX0_decode 6 = .ok (.iload_n 2, 1) := by decide +kernel
theorem dX0_decode_7 : decode cX0_decode 7 = .ok (.putfield 92, 3) := by decide +kernel
theorem dX0_decode_10 : decode cX0_decode 10 = .ok (.aload_n 0, 1) := by decide +kernel
theorem dX0_decode_11 : decode cX0_decode 11 = .ok (.iload_n 3, 1) := by decide +kernel
theorem dX0_decode_12 : decode cX0_decode 12 = .ok (.putfield 95, 3) := by decide +kernel
theorem dX0_decode_15 : decode cX0_decode 15 = .ok (.aload_n 0, 1) := by decide +kernel
theorem dX0_decode_16 : decode cX0_decode 16 = .ok (.iload_n 2, 1) := by decide +kernel
theorem dX0_decode_17 : decode cX0_decode 17 = .ok (.putfield 98, 3) := by decide +kernel
theorem dX0_decode_20 : decode cX0_decode 20 = .ok (.aload_n 0, 1) := by decide +kernel
theorem dX0_decode_21 : decode cX0_decode 21 = .ok (.iconst 0, 1) := by decide +kernel
theorem dX0_decode_22 : decode cX0_decode 22 = .ok (.putfield 101, 3) := by decide +kernel
theorem dX0_decode_25 : decode cX0_decode 25 = .ok (.aload_n 0, 1) := by decide +kernel
theorem dX0_decode_26 : decode cX0_decode 26 = .ok (.iconst (-1), 1) := by decide +kernel
theorem dX0_decode_27 : decode cX0_decode 27 = .ok (.putfield 104, 3) := by decide +kernel
theorem dX0_decode_30 : decode cX0_decode 30 = .ok (.aload 4, 2) := by decide +kernel
theorem dX0_decode_32 : decode cX0_decode 32 = .ok (.invokevirtual 107, 3) := by decide +kernel
theorem dX0_decode_35 : decode cX0_decode 35 = .ok (.aload_n 0, 1) := by decide +kernel
theorem dX0_decode_36 : decode cX0_decode 36 = .ok (.invokevirtual 110, 3) := by decide +kernel
theorem dX0_decode_39 : decode cX0_decode 39 = .ok (.ifCond .eq 50, 3) := by decide +kernel
theorem dX0_decode_89 : decode cX0_decode 89 = .ok (.iconst 0, 1) := by decide +kernel
theorem dX0_decode_90 : decode cX0_decode 90 = .ok (.ireturn, 1) := by decide +kernel
theorem dX0_fail_0 : decode cX0_fail 0 = .ok (.aload_n 0, 1) := by decide +kernel
theorem dX0_fail_1 : decode cX0_fail 1 = .ok (.iload_n 1, 1) := by decide +kernel
theorem dX0_fail_2 : decode cX0_fail 2 = .ok (.putfield 101, 3) := by decide +kernel
theorem dX0_fail_5 : decode cX0_fail 5 = .ok (.aload_n 0, 1) := by decide +kernel
theorem dX0_fail_6 : decode cX0_fail 6 = .ok (.iload_n 2, 1) := by decide +kernel
theorem dX0_fail_7 : decode cX0_fail 7 = .ok (.aload_n 0, 1) := by decide +kernel
theorem dX0_fail_8 : decode cX0_fail 8 = .ok (.getfield 92, 3) := by decide +kernel
theorem dX0_fail_11 : decode cX0_fail 11 = .ok (.isub, 1) := by decide +kernel
theorem dX0_fail_12 : decode cX0_fail 12 = .ok (.putfield 104, 3) := by decide +kernel
theorem dX0_fail_15 : decode cX0_fail 15 = .ok (.iconst 0, 1) := by decide +kernel
theorem dX0_fail_16 : decode cX0_fail 16 = .ok (.ireturn, 1) := by decide +kernel
theorem dX0_readMarks_0 : decode cX0_readMarks 0 = .ok (.iconst 0, 1) := by decide +kernel
theorem dX0_readMarks_1 : decode cX0_readMarks 1 = .ok (.istore_n 1, 1) := by decide +kernel
theorem dX0_readMarks_2 : decode cX0_readMarks 2 = .ok (.iload_n 1, 1) := by decide +kernel
theorem dX0_readMarks_3 : decode cX0_readMarks 3 = .ok (.iconst 2, 1) := by decide +kernel
theorem dX0_readMarks_4 : decode cX0_readMarks 4 = .ok (.if_icmp .ge 73, 3) := by decide +kernel
theorem dX0_readMarks_7 : decode cX0_readMarks 7 = .ok (.aload_n 0, 1) := by decide +kernel
theorem dX0_readMarks_8 : decode cX0_readMarks 8 = .ok (.getfield 98, 3) := by decide +kernel
theorem dX0_readMarks_11 : decode cX0_readMarks 11 = .ok (.aload_n 0, 1) := by decide +kernel
theorem dX0_readMarks_12 : decode cX0_readMarks 12 = .ok (.getfield 95, 3) := by decide +kernel
theorem dX0_readMarks_15 : decode cX0_readMarks 15 = .ok (.if_icmp .lt 13, 3) := by decide +kernel
theorem dX0_readMarks_18 : decode cX0_readMarks 18 = .ok (.aload_n 0, 1) := by decide +kernel
theorem dX0_readMarks_19 : decode cX0_readMarks 19 = .ok (.iconst 1, 1) := by decide +kernel
theorem dX0_readMarks_20 : decode cX0_readMarks 20 = .ok (.aload_n 0, 1) := by decide +kernel
theorem dX0_readMarks_21 : decode cX0_readMarks 21 = .ok (.getfield 95, 3) := by decide +kernel
theorem dX0_readMarks_24 : decode cX0_readMarks 24 = .ok (.invokevirtual 130, 3) := by decide +kernel
theorem dX0_readMarks_27 : decode cX0_readMarks 27 = .ok (.ireturn, 1) := by decide +kernel
theorem dX0_append_0 : decode cX0_append 0 = .ok (.aload_n 0, 1) := by decide +kernel
theorem dX0_append_1 : decode cX0_append 1 = .ok (.getfield 197, 3) := by decide +kernel
theorem dX0_append_4 : decode cX0_append 4 = .ok (.iconst 2, 1) := by decide +kernel
theorem dX0_append_5 : decode cX0_append 5 = .ok (.iadd, 1) := by decide +kernel
theorem dX0_append_6 : decode cX0_append 6 = .ok (.iload_n 1, 1) := by decide +kernel
theorem dX0_append_7 : decode cX0_append 7 = .ok (.iadd, 1) := by decide +kernel
theorem dX0_append_8 : decode cX0_append 8 = .ok (.sipush 8000, 3) := by decide +kernel
theorem dX0_append_11 : decode cX0_append 11 = .ok (.if_icmp .le 5, 3) := by decide +kernel
theorem dX0_append_16 : decode cX0_append 16 = .ok (.aload_n 0, 1) := by decide +kernel
theorem dX0_append_17 : decode cX0_append 17 = .ok (.getfield 23, 3) := by decide +kernel
theorem dX0_append_20 : decode cX0_append 20 = .ok (.aload_n 0, 1) := by decide +kernel
theorem dX0_append_21 : decode cX0_append 21 = .ok (.getfield 197, 3) := by decide +kernel
theorem dX0_append_24 : decode cX0_append 24 = .ok (.iload_n 1, 1) := by decide +kernel
theorem dX0_append_25 : decode cX0_append 25 = .ok (.sipush 255, 3) := by decide +kernel
theorem dX0_append_28 : decode cX0_append 28 = .ok (.iand, 1) := by decide +kernel
theorem dX0_append_29 : decode cX0_append 29 = .ok (.iastore, 1) := by decide +kernel
theorem dX0_append_30 : decode cX0_append 30 = .ok (.aload_n 0, 1) := by decide +kernel
theorem dX0_append_31 : decode cX0_append 31 = .ok (.getfield 23, 3) := by decide +kernel
theorem dX0_append_34 : decode cX0_append 34 = .ok (.aload_n 0, 1) := by decide +kernel
theorem dX0_append_35 : decode cX0_append 35 = .ok (.getfield 197, 3) := by decide +kernel
theorem dX0_append_38 : decode cX0_append 38 = .ok (.iconst 1, 1) := by decide +kernel
theorem dX0_append_39 : decode cX0_append 39 = .ok (.iadd, 1) := by decide +kernel
theorem dX0_append_40 : decode cX0_append 40 = .ok (.iload_n 1, 1) := by decide +kernel
theorem dX0_append_41 : decode cX0_append 41 = .ok (.bipush 8, 2) := by decide +kernel
theorem dX0_append_43 : decode cX0_append 43 = .ok (.ishr, 1) := by decide +kernel
theorem dX0_append_44 : decode cX0_append 44 = .ok (.iastore, 1) := by decide +kernel
theorem dX0_append_45 : decode cX0_append 45 = .ok (.aload_n 0, 1) := by decide +kernel
theorem dX0_append_46 : decode cX0_append 46 = .ok (.getfield 19, 3) := by decide +kernel
theorem dX0_append_49 : decode cX0_append 49 = .ok (.iconst 0, 1) := by decide +kernel
theorem dX0_append_50 : decode cX0_append 50 = .ok (.aload_n 0, 1) := by decide +kernel
theorem dX0_append_51 : decode cX0_append 51 = .ok (.getfield 23, 3) := by decide +kernel
theorem dX0_append_54 : decode cX0_append 54 = .ok (.aload_n 0, 1) := by decide +kernel
theorem dX0_append_55 : decode cX0_append 55 = .ok (.getfield 197, 3) := by decide +kernel
theorem dX0_append_58 : decode cX0_append 58 = .ok (.iconst 2, 1) := by decide +kernel
theorem dX0_append_59 : decode cX0_append 59 = .ok (.iadd, 1) := by decide +kernel
theorem dX0_append_60 : decode cX0_append 60 = .ok (.iload_n 1, 1) := by decide +kernel
theorem dX0_append_61 : decode cX0_append 61 = .ok (.invokestatic 200, 3) := by decide +kernel
theorem dX0_append_64 : decode cX0_append 64 = .ok (.aload_n 0, 1) := by decide +kernel
theorem dX0_append_65 : decode cX0_append 65 = .ok (.dup, 1) := by decide +kernel
theorem dX0_append_66 : decode cX0_append 66 = .ok (.getfield 197, 3) := by decide +kernel
theorem dX0_append_69 : decode cX0_append 69 = .ok (.iconst 2, 1) := by decide +kernel
theorem dX0_append_70 : decode cX0_append 70 = .ok (.iload_n 1, 1) := by decide +kernel
theorem dX0_append_71 : decode cX0_append 71 = .ok (.iadd, 1) := by decide +kernel
theorem dX0_append_72 : decode cX0_append 72 = .ok (.iadd, 1) := by decide +kernel
theorem dX0_append_73 : decode cX0_append 73 = .ok (.putfield 197, 3) := by decide +kernel
theorem dX0_append_76 : decode cX0_append 76 = .ok (.aload_n 0, 1) := by decide +kernel
theorem dX0_append_77 : decode cX0_append 77 = .ok (.dup, 1) := by decide +kernel
theorem dX0_append_78 : decode cX0_append 78 = .ok (.getfield 206, 3) := by decide +kernel
theorem dX0_append_81 : decode cX0_append 81 = .ok (.iconst 1, 1) := by decide +kernel
theorem dX0_append_82 : decode cX0_append 82 = .ok (.iadd, 1) := by decide +kernel
theorem dX0_append_83 : decode cX0_append 83 = .ok (.putfield 206, 3) := by decide +kernel
theorem dX0_append_86 : decode cX0_append 86 = .ok (.iconst 1, 1) := by decide +kernel
theorem dX0_append_87 : decode cX0_append 87 = .ok (.ireturn, 1) := by decide +kernel
theorem dX0_recordEnd_0 : decode cX0_recordEnd 0 = .ok (.iload_n 1, 1) := by decide +kernel
theorem dX0_recordEnd_1 : decode cX0_recordEnd 1 = .ok (.iconst 2, 1) := by decide +kernel
theorem dX0_recordEnd_2 : decode cX0_recordEnd 2 = .ok (.iadd, 1) := by decide +kernel
theorem dX0_recordEnd_3 : decode cX0_recordEnd 3 = .ok (.aload_n 0, 1) := by decide +kernel
theorem dX0_recordEnd_4 : decode cX0_recordEnd 4 = .ok (.getfield 197, 3) := by decide +kernel
theorem dX0_recordEnd_7 : decode cX0_recordEnd 7 = .ok (.if_icmp .le 5, 3) := by decide +kernel
theorem dX0_recordEnd_10 : decode cX0_recordEnd 10 = .ok (.iconst (-1), 1) := by decide +kernel
theorem dX0_recordEnd_11 : decode cX0_recordEnd 11 = .ok (.ireturn, 1) := by decide +kernel
theorem dX0_reopenAt_0 : decode cX0_reopenAt 0 = .ok (.aload_n 0, 1) := by decide +kernel
theorem dX0_reopenAt_1 : decode cX0_reopenAt 1 = .ok (.iconst 0, 1) := by decide +kernel
theorem dX0_reopenAt_2 : decode cX0_reopenAt 2 = .ok (.iload_n 1, 1) := by decide +kernel
theorem dX0_reopenAt_3 : decode cX0_reopenAt 3 = .ok (.aload_n 0, 1) := by decide +kernel
theorem dX0_reopenAt_4 : decode cX0_reopenAt 4 = .ok (.getfield 197, 3) := by decide +kernel
theorem dX0_reopenAt_7 : decode cX0_reopenAt 7 = .ok (.invokestatic 79, 3) := by decide +kernel
theorem dX0_reopenAt_10 : decode cX0_reopenAt 10 = .ok (.invokestatic 209, 3) := by decide +kernel
theorem dX0_reopenAt_13 : decode cX0_reopenAt 13 = .ok (.putfield 197, 3) := by decide +kernel
theorem dX0_reopenAt_16 : decode cX0_reopenAt 16 = .ok (.aload_n 0, 1) := by decide +kernel
theorem dX0_reopenAt_17 : decode cX0_reopenAt 17 = .ok (.iconst 0, 1) := by decide +kernel
theorem dX0_reopenAt_18 : decode cX0_reopenAt 18 = .ok (.putfield 206, 3) := by decide +kernel
theorem dX0_reopenAt_21 : decode cX0_reopenAt 21 = .ok (.iconst 0, 1) := by decide +kernel
theorem dX0_reopenAt_22 : decode cX0_reopenAt 22 = .ok (.istore_n 3, 1) := by decide +kernel
theorem dX0_reopenAt_23 : decode cX0_reopenAt 23 = .ok (.iconst 0, 1) := by decide +kernel
theorem dX0_reopenAt_24 : decode cX0_reopenAt 24 = .ok (.istore 4, 2) := by decide +kernel
theorem dX0_reopenAt_26 : decode cX0_reopenAt 26 = .ok (.iload 4, 2) := by decide +kernel
theorem dX0_reopenAt_28 : decode cX0_reopenAt 28 = .ok (.sipush 1000, 3) := by decide +kernel
theorem dX0_reopenAt_31 : decode cX0_reopenAt 31 = .ok (.if_icmp .ge 55, 3) := by decide +kernel
theorem dX0_reopenAt_34 : decode cX0_reopenAt 34 = .ok (.aload_n 0, 1) := by decide +kernel
theorem dX0_reopenAt_35 : decode cX0_reopenAt 35 = .ok (.iload_n 3, 1) := by decide +kernel
theorem dX0_reopenAt_36 : decode cX0_reopenAt 36 = .ok (.invokevirtual 212, 3) := by decide +kernel
theorem dX0_reopenAt_39 : decode cX0_reopenAt 39 = .ok (.istore 5, 2) := by decide +kernel
theorem dX0_reopenAt_41 : decode cX0_reopenAt 41 = .ok (.iload 5, 2) := by decide +kernel
theorem dX0_reopenAt_43 : decode cX0_reopenAt 43 = .ok (.iconst (-1), 1) := by decide +kernel
theorem dX0_reopenAt_44 : decode cX0_reopenAt 44 = .ok (.if_icmp .eq 42, 3) := by decide +kernel
theorem dX0_reopenAt_86 : decode cX0_reopenAt 86 = .ok (.aload_n 0, 1) := by decide +kernel
theorem dX0_reopenAt_87 : decode cX0_reopenAt 87 = .ok (.iload_n 3, 1) := by decide +kernel
theorem dX0_reopenAt_88 : decode cX0_reopenAt 88 = .ok (.putfield 197, 3) := by decide +kernel
theorem dX0_reopenAt_91 : decode cX0_reopenAt 91 = .ok (.aload_n 0, 1) := by decide +kernel
theorem dX0_reopenAt_92 : decode cX0_reopenAt 92 = .ok (.getfield 206, 3) := by decide +kernel
theorem dX0_reopenAt_95 : decode cX0_reopenAt 95 = .ok (.ireturn, 1) := by decide +kernel
theorem dX1_init_0 : decode cX1_init 0 = .ok (.aload_n 0, 1) := by decide +kernel
theorem dX1_init_1 : decode cX1_init 1 = .ok (.invokespecial 3, 3) := by decide +kernel
theorem dX1_init_4 : decode cX1_init 4 = .ok (.aload_n 0, 1) := by decide +kernel
theorem dX1_init_5 : decode cX1_init 5 = .ok (.aload_n 1, 1) := by decide +kernel
theorem dX1_init_6 : decode cX1_init 6 = .ok (.putfield 9, 3) := by decide +kernel
theorem dX1_init_9 : decode cX1_init 9 = .ok (.aload_n 0, 1) := by decide +kernel
theorem dX1_init_10 : decode cX1_init 10 = .ok (.sipush 360, 3) := by decide +kernel
theorem dX1_init_13 : decode cX1_init 13 = .ok (.newarray .long, 2) := by decide +kernel
theorem dX1_init_15 : decode cX1_init 15 = .ok (.putfield 15, 3) := by decide +kernel
theorem dX1_init_18 : decode cX1_init 18 = .ok (.aload_n 0, 1) := by decide +kernel
theorem dX1_init_19 : decode cX1_init 19 = .ok (.sipush 360, 3) := by decide +kernel
theorem dX1_init_22 : decode cX1_init 22 = .ok (.newarray .long, 2) := by decide +kernel
theorem dX1_init_24 : decode cX1_init 24 = .ok (.putfield 19, 3) := by decide +kernel
theorem dX1_init_27 : decode cX1_init 27 = .ok (.aload_n 0, 1) := by decide +kernel
theorem dX1_init_28 : decode cX1_init 28 = .ok (.bipush 9, 2) := by decide +kernel
theorem dX1_init_30 : decode cX1_init 30 = .ok (.newarray .long, 2) := by decide +kernel
theorem dX1_init_32 : decode cX1_init 32 = .ok (.putfield 22, 3) := by decide +kernel
theorem dX1_init_35 : decode cX1_init 35 = .ok (.aload_n 0, 1) := by decide +kernel
theorem dX1_init_36 : decode cX1_init 36 = .ok (.bipush 48, 2) := by decide +kernel
theorem dX1_init_38 : decode cX1_init 38 = .ok (.newarray .long, 2) := by decide +kernel
theorem dX1_init_40 : decode cX1_init 40 = .ok (.putfield 27, 3) := by decide +kernel
theorem dX1_init_43 : decode cX1_init 43 = .ok (.aload_n 0, 1) := by decide +kernel
theorem dX1_init_44 : decode cX1_init 44 = .ok (.iconst 3, 1) := by decide +kernel
theorem dX1_init_45 : decode cX1_init 45 = .ok (.newarray .int, 2) := by decide +kernel
theorem dX1_init_47 : decode cX1_init 47 = .ok (.putfield 30, 3) := by decide +kernel
theorem dX1_init_50 : decode cX1_init 50 = .ok (.return_, 1) := by decide +kernel
theorem dX1_workOut_0 : decode cX1_workOut 0 = .ok (.aload_n 0, 1) := by decide +kernel
theorem dX1_workOut_1 : decode cX1_workOut 1 = .ok (.aload_n 1, 1) := by decide +kernel
theorem dX1_workOut_2 : decode cX1_workOut 2 = .ok (.putfield 34, 3) := by decide +kernel
theorem dX1_workOut_5 : decode cX1_workOut 5 = .ok (.aload_n 0, 1) := by decide +kernel
theorem dX1_workOut_6 : decode cX1_workOut 6 = .ok (.aload_n 2, 1) := by decide +kernel
theorem dX1_workOut_7 : decode cX1_workOut 7 = .ok (.getfield 38, 3) := by decide +kernel
theorem dX1_workOut_10 : decode cX1_workOut 10 = .ok (.bipush 40, 2) := by decide +kernel
theorem dX1_workOut_12 : decode cX1_workOut 12 = .ok (.invokestatic 44, 3) := by decide +kernel
theorem dX1_workOut_15 : decode cX1_workOut 15 = .ok (.putfield 50, 3) := by decide +kernel
theorem dX1_workOut_18 : decode cX1_workOut 18 = .ok (.aload_n 0, 1) := by decide +kernel
theorem dX1_workOut_19 : decode cX1_workOut 19 = .ok (.lconst 1, 1) := by decide +kernel
theorem dX1_workOut_20 : decode cX1_workOut 20 = .ok (.aload_n 0, 1) := by decide +kernel
theorem dX1_workOut_21 : decode cX1_workOut 21 = .ok (.getfield 50, 3) := by decide +kernel
theorem dX1_workOut_24 : decode cX1_workOut 24 = .ok (.lshl, 1) := by decide +kernel
theorem dX1_workOut_25 : decode cX1_workOut 25 = .ok (.lconst 1, 1) := by decide +kernel
theorem dX1_workOut_26 : decode cX1_workOut 26 = .ok (.lsub, 1) := by decide +kernel
theorem dX1_workOut_27 : decode cX1_workOut 27 = .ok (.putfield 51, 3) := by decide +kernel
theorem dX1_workOut_30 : decode cX1_workOut 30 = .ok (.aload_n 0, 1) := by decide +kernel
theorem dX1_workOut_31 : decode cX1_workOut 31 = .ok (.getfield 15, 3) := by decide +kernel
theorem dX1_workOut_34 : decode cX1_workOut 34 = .ok (.lconst 0, 1) := by decide +kernel
theorem dX1_workOut_35 : decode cX1_workOut 35 = .ok (.invokestatic 55, 3) := by decide +kernel
theorem dX1_workOut_38 : decode cX1_workOut 38 = .ok (.aload_n 0, 1) := by decide +kernel
theorem dX1_workOut_39 : decode cX1_workOut 39 = .ok (.getfield 19, 3) := by decide +kernel
theorem dX1_workOut_42 : decode cX1_workOut 42 = .ok (.lconst 0, 1) := by decide +kernel
theorem dX1_workOut_43 : decode cX1_workOut 43 = .ok (.invokestatic 55, 3) := by decide +kernel
theorem dX1_workOut_46 : decode cX1_workOut 46 = .ok (.aload_n 0, 1) := by decide +kernel
theorem dX1_workOut_47 : decode cX1_workOut 47 = .ok (.getfield 22, 3) := by decide +kernel
theorem dX1_workOut_50 : decode cX1_workOut 50 = .ok (.lconst 0, 1) := by decide +kernel
theorem dX1_workOut_51 : decode cX1_workOut 51 = .ok (.invokestatic 55, 3) := by decide +kernel
theorem dX1_workOut_54 : decode cX1_workOut 54 = .ok (.aload_n 0, 1) := by decide +kernel
theorem dX1_workOut_55 : decode cX1_workOut 55 = .ok (.aload_n 2, 1) := by decide +kernel
theorem dX1_workOut_56 : decode cX1_workOut 56 = .ok (.invokevirtual 61, 3) := by decide +kernel
theorem dX1_workOut_59 : decode cX1_workOut 59 = .ok (.aload_n 0, 1) := by decide +kernel
theorem dX1_workOut_60 : decode cX1_workOut 60 = .ok (.aload_n 2, 1) := by decide +kernel
theorem dX1_workOut_61 : decode cX1_workOut 61 = .ok (.invokevirtual 65, 3) := by decide +kernel
theorem dX1_workOut_64 : decode cX1_workOut 64 = .ok (.aload_n 0, 1) := by decide +kernel
theorem dX1_workOut_65 : decode cX1_workOut 65 = .ok (.iconst 1, 1) := by decide +kernel
theorem dX1_workOut_66 : decode cX1_workOut 66 = .ok (.putfield 68, 3) := by decide +kernel
theorem dX1_workOut_69 : decode cX1_workOut 69 = .ok (.iconst 0, 1) := by decide +kernel
theorem dX1_workOut_70 : decode cX1_workOut 70 = .ok (.istore_n 3, 1) := by decide +kernel
theorem dX1_workOut_71 : decode cX1_workOut 71 = .ok (.iload_n 3, 1) := by decide +kernel
theorem dX1_workOut_72 : decode cX1_workOut 72 = .ok (.ldc 72, 2) := by decide +kernel
theorem dX1_workOut_74 : decode cX1_workOut 74 = .ok (.if_icmp .ge 49, 3) := by decide +kernel
theorem dX1_workOut_77 : decode cX1_workOut 77 = .ok (.aload_n 0, 1) := by decide +kernel
theorem dX1_workOut_78 : decode cX1_workOut 78 = .ok (.getfield 68, 3) := by decide +kernel
theorem dX1_workOut_81 : decode cX1_workOut 81 = .ok (.ifCond .eq 42, 3) := by decide +kernel
theorem dX1_workOut_84 : decode cX1_workOut 84 = .ok (.aload_n 0, 1) := by decide +kernel
theorem dX1_workOut_85 : decode cX1_workOut 85 = .ok (.iconst 0, 1) := by decide +kernel
theorem dX1_workOut_86 : decode cX1_workOut 86 = .ok (.putfield 68, 3) := by decide +kernel
theorem dX1_workOut_89 : decode cX1_workOut 89 = .ok (.iconst 0, 1) := by decide +kernel
theorem dX1_workOut_90 : decode cX1_workOut 90 = .ok (.istore 4, 2) := by decide +kernel
theorem dX1_workOut_92 : decode cX1_workOut 92 = .ok (.iload 4, 2) := by decide +kernel
theorem dX1_workOut_94 : decode cX1_workOut 94 = .ok (.aload_n 0, 1) := by decide +kernel
theorem dX1_workOut_95 : decode cX1_workOut 95 = .ok (.getfield 34, 3) := by decide +kernel
theorem dX1_workOut_98 : decode cX1_workOut 98 = .ok (.getfield 73, 3) := by decide +kernel
theorem dX1_workOut_101 : decode cX1_workOut 101 = .ok (.if_icmp .ge 16, 3) := by decide +kernel
theorem dX1_workOut_117 : decode cX1_workOut 117 = .ok (.iinc 3 1, 3) := by decide +kernel
theorem dX1_workOut_120 : decode cX1_workOut 120 = .ok (.goto (-49), 3) := by decide +kernel
theorem dX1_workOut_123 : decode cX1_workOut 123 = .ok (.return_, 1) := by decide +kernel
theorem dX1_addGiven_0 : decode cX1_addGiven 0 = .ok (.iconst 0, 1) := by decide +kernel
theorem dX1_addGiven_1 : decode cX1_addGiven 1 = .ok (.istore_n 2, 1) := by decide +kernel
theorem dX1_addGiven_2 : decode cX1_addGiven 2 = .ok (.iload_n 2, 1) := by decide +kernel
theorem dX1_addGiven_3 : decode cX1_addGiven 3 = .ok (.aload_n 0, 1) := by decide +kernel
theorem dX1_addGiven_4 : decode cX1_addGiven 4 = .ok (.getfield 50, 3) := by decide +kernel
theorem dX1_addGiven_7 : decode cX1_addGiven 7 = .ok (.if_icmp .ge 104, 3) := by decide +kernel
theorem dX1_addGiven_111 : decode cX1_addGiven 111 = .ok (.return_, 1) := by decide +kernel
theorem dX1_findClasses_0 : decode cX1_findClasses 0 = .ok (.iconst 0, 1) := by decide +kernel
theorem dX1_findClasses_1 : decode cX1_findClasses 1 = .ok (.istore_n 2, 1) := by decide +kernel
theorem dX1_findClasses_2 : decode cX1_findClasses 2 = .ok (.iload_n 2, 1) := by decide +kernel
theorem dX1_findClasses_3 : decode cX1_findClasses 3 = .ok (.aload_n 0, 1) := by decide +kernel
theorem dX1_findClasses_4 : decode cX1_findClasses 4 = .ok (.getfield 34, 3) := by decide +kernel
theorem dX1_findClasses_7 : decode cX1_findClasses 7 = .ok (.getfield 73, 3) := by decide +kernel
theorem dX1_findClasses_10 : decode cX1_findClasses 10 = .ok (.if_icmp .ge 119, 3) := by decide +kernel
theorem dX1_findClasses_129 : decode cX1_findClasses 129 = .ok (.return_, 1) := by decide +kernel
theorem dX2_init_0 : decode cX2_init 0 = .ok (.aload_n 0, 1) := by decide +kernel
theorem dX2_init_1 : decode cX2_init 1 = .ok (.invokespecial 3, 3) := by decide +kernel
theorem dX2_init_4 : decode cX2_init 4 = .ok (.aload_n 0, 1) := by decide +kernel
theorem dX2_init_5 : decode cX2_init 5 = .ok (.aload_n 1, 1) := by decide +kernel
theorem dX2_init_6 : decode cX2_init 6 = .ok (.putfield 9, 3) := by decide +kernel
theorem dX2_init_9 : decode cX2_init 9 = .ok (.aload_n 0, 1) := by decide +kernel
theorem dX2_init_10 : decode cX2_init 10 = .ok (.sipush 400, 3) := by decide +kernel
theorem dX2_init_13 : decode cX2_init 13 = .ok (.newarray .int, 2) := by decide +kernel
theorem dX2_init_15 : decode cX2_init 15 = .ok (.putfield 15, 3) := by decide +kernel
theorem dX2_init_18 : decode cX2_init 18 = .ok (.aload_n 0, 1) := by decide +kernel
theorem dX2_init_19 : decode cX2_init 19 = .ok (.sipush 400, 3) := by decide +kernel
theorem dX2_init_22 : decode cX2_init 22 = .ok (.newarray .int, 2) := by decide +kernel
theorem dX2_init_24 : decode cX2_init 24 = .ok (.putfield 19, 3) := by decide +kernel
theorem dX2_init_27 : decode cX2_init 27 = .ok (.aload_n 0, 1) := by decide +kernel
theorem dX2_init_28 : decode cX2_init 28 = .ok (.sipush 400, 3) := by decide +kernel
theorem dX2_init_31 : decode cX2_init 31 = .ok (.newarray .int, 2) := by decide +kernel
theorem dX2_init_33 : decode cX2_init 33 = .ok (.putfield 22, 3) := by decide +kernel
theorem dX2_init_36 : decode cX2_init 36 = .ok (.aload_n 0, 1) := by decide +kernel
theorem dX2_init_37 : decode cX2_init 37 = .ok (.sipush 4000, 3) := by decide +kernel
theorem dX2_init_40 : decode cX2_init 40 = .ok (.newarray .long, 2) := by decide +kernel
theorem dX2_init_42 : decode cX2_init 42 = .ok (.putfield 25, 3) := by decide +kernel
theorem dX2_init_45 : decode cX2_init 45 = .ok (.aload_n 0, 1) := by decide +kernel
theorem dX2_init_46 : decode cX2_init 46 = .ok (.sipush 4000, 3) := by decide +kernel
theorem dX2_init_49 : decode cX2_init 49 = .ok (.newarray .boolean, 2) := by decide +kernel
theorem dX2_init_51 : decode cX2_init 51 = .ok (.putfield 29, 3) := by decide +kernel
theorem dX2_init_54 : decode cX2_init 54 = .ok (.aload_n 0, 1) := by decide +kernel
theorem dX2_init_55 : decode cX2_init 55 = .ok (.bipush 96, 2) := by decide +kernel
theorem dX2_init_57 : decode cX2_init 57 = .ok (.newarray .long, 2) := by decide +kernel
theorem dX2_init_59 : decode cX2_init 59 = .ok (.putfield 35, 3) := by decide +kernel
theorem dX2_init_62 : decode cX2_init 62 = .ok (.aload_n 0, 1) := by decide +kernel
theorem dX2_init_63 : decode cX2_init 63 = .ok (.bipush 12, 2) := by decide +kernel
theorem dX2_init_65 : decode cX2_init 65 = .ok (.newarray .int, 2) := by decide +kernel
theorem dX2_init_67 : decode cX2_init 67 = .ok (.putfield 38, 3) := by decide +kernel
theorem dX2_init_70 : decode cX2_init 70 = .ok (.aload_n 0, 1) := by decide +kernel
theorem dX2_init_71 : decode cX2_init 71 = .ok (.sipush 400, 3) := by decide +kernel
theorem dX2_init_74 : decode cX2_init 74 = .ok (.newarray .int, 2) := by decide +kernel
theorem dX2_init_76 : decode cX2_init 76 = .ok (.putfield 41, 3) := by decide +kernel
theorem dX2_init_79 : decode cX2_init 79 = .ok (.aload_n 0, 1) := by decide +kernel
theorem dX2_init_80 : decode cX2_init 80 = .ok (.sipush 400, 3) := by decide +kernel
theorem dX2_init_83 : decode cX2_init 83 = .ok (.newarray .int, 2) := by decide +kernel
theorem dX2_init_85 : decode cX2_init 85 = .ok (.putfield 44, 3) := by decide +kernel
theorem dX2_init_88 : decode cX2_init 88 = .ok (.return_, 1) := by decide +kernel
theorem dX2_isThere_0 : decode cX2_isThere 0 = .ok (.iload_n 1, 1) := by decide +kernel
theorem dX2_isThere_1 : decode cX2_isThere 1 = .ok (.ifCond .lt 25, 3) := by decide +kernel
theorem dX2_isThere_4 : decode cX2_isThere 4 = .ok (.iload_n 1, 1) := by decide +kernel
theorem dX2_isThere_5 : decode cX2_isThere 5 = .ok (.aload_n 0, 1) := by decide +kernel
theorem dX2_isThere_6 : decode cX2_isThere 6 = .ok (.getfield 47, 3) := by decide +kernel
theorem dX2_isThere_9 : decode cX2_isThere 9 = .ok (.if_icmp .ge 17, 3) := by decide +kernel
theorem dX2_isThere_26 : decode cX2_isThere 26 = .ok (.iconst 0, 1) := by decide +kernel
theorem dX2_isThere_27 : decode cX2_isThere 27 = .ok (.ireturn, 1) := by decide +kernel
theorem dX2_hasSlot_0 : decode cX2_hasSlot 0 = .ok (.aload_n 0, 1) := by decide +kernel
theorem dX2_hasSlot_1 : decode cX2_hasSlot 1 = .ok (.iload_n 1, 1) := by decide +kernel
theorem dX2_hasSlot_2 : decode cX2_hasSlot 2 = .ok (.invokevirtual 55, 3) := by decide +kernel
theorem dX2_hasSlot_5 : decode cX2_hasSlot 5 = .ok (.ifCond .eq 20, 3) := by decide +kernel
theorem dX2_hasSlot_25 : decode cX2_hasSlot 25 = .ok (.iconst 0, 1) := by decide +kernel
theorem dX2_hasSlot_26 : decode cX2_hasSlot 26 = .ok (.ireturn, 1) := by decide +kernel
theorem dX2_hasRoom_0 : decode cX2_hasRoom 0 = .ok (.aload_n 0, 1) := by decide +kernel
theorem dX2_hasRoom_1 : decode cX2_hasRoom 1 = .ok (.getfield 47, 3) := by decide +kernel
theorem dX2_hasRoom_4 : decode cX2_hasRoom 4 = .ok (.iload_n 1, 1) := by decide +kernel
theorem dX2_hasRoom_5 : decode cX2_hasRoom 5 = .ok (.iadd, 1) := by decide +kernel
theorem dX2_hasRoom_6 : decode cX2_hasRoom 6 = .ok (.sipush 400, 3) := by decide +kernel
theorem dX2_hasRoom_9 : decode cX2_hasRoom 9 = .ok (.if_icmp .gt 19, 3) := by decide +kernel
theorem dX2_hasRoom_12 : decode cX2_hasRoom 12 = .ok (.aload_n 0, 1) := by decide +kernel
theorem dX2_hasRoom_13 : decode cX2_hasRoom 13 = .ok (.getfield 62, 3) := by decide +kernel
theorem dX2_hasRoom_16 : decode cX2_hasRoom 16 = .ok (.iload_n 2, 1) := by decide +kernel
theorem dX2_hasRoom_17 : decode cX2_hasRoom 17 = .ok (.iadd, 1) := by decide +kernel
theorem dX2_hasRoom_18 : decode cX2_hasRoom 18 = .ok (.sipush 4000, 3) := by decide +kernel
theorem dX2_hasRoom_21 : decode cX2_hasRoom 21 = .ok (.if_icmp .gt 7, 3) := by decide +kernel
theorem dX2_hasRoom_24 : decode cX2_hasRoom 24 = .ok (.iconst 1, 1) := by decide +kernel
theorem dX2_hasRoom_25 : decode cX2_hasRoom 25 = .ok (.goto 4, 3) := by decide +kernel
theorem dX2_hasRoom_28 : decode cX2_hasRoom 28 = .ok (.iconst 0, 1) := by decide +kernel
theorem dX2_hasRoom_29 : decode cX2_hasRoom 29 = .ok (.ireturn, 1) := by decide +kernel
theorem dX2_create_0 : decode cX2_create 0 = .ok (.aload_n 0, 1) := by decide +kernel
theorem dX2_create_1 : decode cX2_create 1 = .ok (.getfield 47, 3) := by decide +kernel
theorem dX2_create_4 : decode cX2_create 4 = .ok (.istore_n 3, 1) := by decide +kernel
theorem dX2_create_5 : decode cX2_create 5 = .ok (.aload_n 0, 1) := by decide +kernel
theorem dX2_create_6 : decode cX2_create 6 = .ok (.dup, 1) := by decide +kernel
theorem dX2_create_7 : decode cX2_create 7 = .ok (.getfield 47, 3) := by decide +kernel
theorem dX2_create_10 : decode cX2_create 10 = .ok (.iconst 1, 1) := by decide +kernel
theorem dX2_create_11 : decode cX2_create 11 = .ok (.iadd, 1) := by decide +kernel
theorem dX2_create_12 : decode cX2_create 12 = .ok (.putfield 47, 3) := by decide +kernel
theorem dX2_create_15 : decode cX2_create 15 = .ok (.aload_n 0, 1) := by decide +kernel
theorem dX2_create_16 : decode cX2_create 16 = .ok (.dup, 1) := by decide +kernel
theorem dX2_create_17 : decode cX2_create 17 = .ok (.getfield 75, 3) := by decide +kernel
theorem dX2_create_20 : decode cX2_create 20 = .ok (.iconst 1, 1) := by decide +kernel
theorem dX2_create_21 : decode cX2_create 21 = .ok (.iadd, 1) := by decide +kernel
theorem dX2_create_22 : decode cX2_create 22 = .ok (.putfield 75, 3) := by decide +kernel
theorem dX2_create_25 : decode cX2_create 25 = .ok (.aload_n 0, 1) := by decide +kernel
theorem dX2_create_26 : decode cX2_create 26 = .ok (.getfield 15, 3) := by decide +kernel
theorem dX2_create_29 : decode cX2_create 29 = .ok (.iload_n 3, 1) := by decide +kernel
theorem dX2_create_30 : decode cX2_create 30 = .ok (.iload_n 1, 1) := by decide +kernel
theorem dX2_create_31 : decode cX2_create 31 = .ok (.iastore, 1) := by decide +kernel
theorem dX2_create_32 : decode cX2_create 32 = .ok (.aload_n 0, 1) := by decide +kernel
theorem dX2_create_33 : decode cX2_create 33 = .ok (.getfield 19, 3) := by decide +kernel
theorem dX2_create_36 : decode cX2_create 36 = .ok (.iload_n 3, 1) := by decide +kernel
theorem dX2_create_37 : decode cX2_create 37 = .ok (.iload_n 2, 1) := by decide +kernel
theorem dX2_create_38 : decode cX2_create 38 = .ok (.iastore, 1) := by decide +kernel
theorem dX2_create_39 : decode cX2_create 39 = .ok (.aload_n 0, 1) := by decide +kernel
theorem dX2_create_40 : decode cX2_create 40 = .ok (.getfield 22, 3) := by decide +kernel
theorem dX2_create_43 : decode cX2_create 43 = .ok (.iload_n 3, 1) := by decide +kernel
theorem dX2_create_44 : decode cX2_create 44 = .ok (.aload_n 0, 1) := by decide +kernel
theorem dX2_create_45 : decode cX2_create 45 = .ok (.getfield 62, 3) := by decide +kernel
theorem dX2_create_48 : decode cX2_create 48 = .ok (.iastore, 1) := by decide +kernel
theorem dX2_create_49 : decode cX2_create 49 = .ok (.aload_n 0, 1) := by decide +kernel
theorem dX2_create_50 : decode cX2_create 50 = .ok (.getfield 9, 3) := by decide +kernel
theorem dX2_create_53 : decode cX2_create 53 = .ok (.iload_n 1, 1) := by decide +kernel
theorem dX2_create_54 : decode cX2_create 54 = .ok (.invokevirtual 78, 3) := by decide +kernel
theorem dX2_create_57 : decode cX2_create 57 = .ok (.aload_n 0, 1) := by decide +kernel
theorem dX2_create_58 : decode cX2_create 58 = .ok (.getfield 9, 3) := by decide +kernel
theorem dX2_create_61 : decode cX2_create 61 = .ok (.iload_n 1, 1) := by decide +kernel
theorem dX2_create_62 : decode cX2_create 62 = .ok (.iload_n 2, 1) := by decide +kernel
theorem dX2_create_63 : decode cX2_create 63 = .ok (.invokevirtual 51, 3) := by decide +kernel
theorem dX2_create_66 : decode cX2_create 66 = .ok (.istore 4, 2) := by decide +kernel
theorem dX2_create_68 : decode cX2_create 68 = .ok (.iconst 0, 1) := by decide +kernel
theorem dX2_create_69 : decode cX2_create 69 = .ok (.istore 5, 2) := by decide +kernel
theorem dX2_create_71 : decode cX2_create 71 = .ok (.iload 5, 2) := by decide +kernel
theorem dX2_create_73 : decode cX2_create 73 = .ok (.iload 4, 2) := by decide +kernel
theorem dX2_create_75 : decode cX2_create 75 = .ok (.if_icmp .ge 65, 3) := by decide +kernel
theorem dX2_create_78 : decode cX2_create 78 = .ok (.aload_n 0, 1) := by decide +kernel
theorem dX2_create_79 : decode cX2_create 79 = .ok (.getfield 9, 3) := by decide +kernel
theorem dX2_create_82 : decode cX2_create 82 = .ok (.iload_n 1, 1) := by decide +kernel
theorem dX2_create_83 : decode cX2_create 83 = .ok (.iload 5, 2) := by decide +kernel
theorem dX2_create_85 : decode cX2_create 85 = .ok (.invokevirtual 82, 3) := by decide +kernel
theorem dX2_create_88 : decode cX2_create 88 = .ok (.istore 6, 2) := by decide +kernel
theorem dX2_create_90 : decode cX2_create 90 = .ok (.aload_n 0, 1) := by decide +kernel
theorem dX2_create_91 : decode cX2_create 91 = .ok (.getfield 29, 3) := by decide +kernel
theorem dX2_create_94 : decode cX2_create 94 = .ok (.aload_n 0, 1) := by decide +kernel
theorem dX2_create_95 : decode cX2_create 95 = .ok (.getfield 62, 3) := by decide +kernel
theorem dX2_create_98 : decode cX2_create 98 = .ok (.iload 6, 2) := by decide +kernel
theorem dX2_create_100 : decode cX2_create 100 = .ok (.iconst 5, 1) := by decide +kernel
theorem dX2_create_101 : decode cX2_create 101 = .ok (.if_icmp .ne 7, 3) := by decide +kernel
theorem dX2_create_104 : decode cX2_create 104 = .ok (.iconst 1, 1) := by decide +kernel
theorem dX2_create_105 : decode cX2_create 105 = .ok (.goto 4, 3) := by decide +kernel
theorem dX2_create_108 : decode cX2_create 108 = .ok (.iconst 0, 1) := by decide +kernel
theorem dX2_create_109 : decode cX2_create 109 = .ok (.bastore, 1) := by decide +kernel
theorem dX2_create_110 : decode cX2_create 110 = .ok (.aload_n 0, 1) := by decide +kernel
theorem dX2_create_111 : decode cX2_create 111 = .ok (.getfield 25, 3) := by decide +kernel
theorem dX2_create_114 : decode cX2_create 114 = .ok (.aload_n 0, 1) := by decide +kernel
theorem dX2_create_115 : decode cX2_create 115 = .ok (.getfield 62, 3) := by decide +kernel
theorem dX2_create_118 : decode cX2_create 118 = .ok (.iload 6, 2) := by decide +kernel
theorem dX2_create_120 : decode cX2_create 120 = .ok (.invokestatic 85, 3) := by decide +kernel
theorem dX2_create_123 : decode cX2_create 123 = .ok (.lastore, 1) := by decide +kernel
theorem dX2_create_124 : decode cX2_create 124 = .ok (.aload_n 0, 1) := by decide +kernel
theorem dX2_create_125 : decode cX2_create 125 = .ok (.dup, 1) := by decide +kernel
theorem dX2_create_126 : decode cX2_create 126 = .ok (.getfield 62, 3) := by decide +kernel
theorem dX2_create_129 : decode cX2_create 129 = .ok (.iconst 1, 1) := by decide +kernel
theorem dX2_create_130 : decode cX2_create 130 = .ok (.iadd, 1) := by decide +kernel
theorem dX2_create_131 : decode cX2_create 131 = .ok (.putfield 62, 3) := by decide +kernel
theorem dX2_create_134 : decode cX2_create 134 = .ok (.iinc 5 1, 3) := by decide +kernel
theorem dX2_create_137 : decode cX2_create 137 = .ok (.goto (-66), 3) := by decide +kernel
theorem dX2_create_140 : decode cX2_create 140 = .ok (.iload_n 3, 1) := by decide +kernel
theorem dX2_create_141 : decode cX2_create 141 = .ok (.ireturn, 1) := by decide +kernel
theorem dX2_clearMarks_0 : decode cX2_clearMarks 0 = .ok (.aload_n 0, 1) := by decide +kernel
theorem dX2_clearMarks_1 : decode cX2_clearMarks 1 = .ok (.getfield 44, 3) := by decide +kernel
theorem dX2_clearMarks_4 : decode cX2_clearMarks 4 = .ok (.iconst 0, 1) := by decide +kernel
theorem dX2_clearMarks_5 : decode cX2_clearMarks 5 = .ok (.aload_n 0, 1) := by decide +kernel
theorem dX2_clearMarks_6 : decode cX2_clearMarks 6 = .ok (.getfield 47, 3) := by decide +kernel
theorem dX2_clearMarks_9 : decode cX2_clearMarks 9 = .ok (.iconst (-1), 1) := by decide +kernel
theorem dX2_clearMarks_10 : decode cX2_clearMarks 10 = .ok (.invokestatic 109, 3) := by decide +kernel
theorem dX2_clearMarks_13 : decode cX2_clearMarks 13 = .ok (.return_, 1) := by decide +kernel
theorem dX2_meetRoots_0 : decode cX2_meetRoots 0 = .ok (.iconst 0, 1) := by decide +kernel
theorem dX2_meetRoots_1 : decode cX2_meetRoots 1 = .ok (.istore_n 1, 1) := by decide +kernel
theorem dX2_meetRoots_2 : decode cX2_meetRoots 2 = .ok (.iconst 0, 1) := by decide +kernel
theorem dX2_meetRoots_3 : decode cX2_meetRoots 3 = .ok (.istore_n 2, 1) := by decide +kernel
theorem dX2_meetRoots_4 : decode cX2_meetRoots 4 = .ok (.iload_n 2, 1) := by decide +kernel
theorem dX2_meetRoots_5 : decode cX2_meetRoots 5 = .ok (.aload_n 0, 1) := by decide +kernel
theorem dX2_meetRoots_6 : decode cX2_meetRoots 6 = .ok (.getfield 89, 3) := by decide +kernel
theorem dX2_meetRoots_9 : decode cX2_meetRoots 9 = .ok (.if_icmp .ge 22, 3) := by decide +kernel
theorem dX2_meetRoots_31 : decode cX2_meetRoots 31 = .ok (.iconst 0, 1) := by decide +kernel
theorem dX2_meetRoots_32 : decode cX2_meetRoots 32 = .ok (.istore_n 2, 1) := by decide +kernel
theorem dX2_meetRoots_33 : decode cX2_meetRoots 33 = .ok (.iload_n 2, 1) := by decide +kernel
theorem dX2_meetRoots_34 : decode cX2_meetRoots 34 = .ok (.aload_n 0, 1) := by decide +kernel
theorem dX2_meetRoots_35 : decode cX2_meetRoots 35 = .ok (.getfield 9, 3) := by decide +kernel
theorem dX2_meetRoots_38 : decode cX2_meetRoots 38 = .ok (.invokevirtual 99, 3) := by decide +kernel
theorem dX2_meetRoots_41 : decode cX2_meetRoots 41 = .ok (.if_icmp .ge 32, 3) := by decide +kernel
theorem dX2_meetRoots_73 : decode cX2_meetRoots 73 = .ok (.iload_n 1, 1) := by decide +kernel
theorem dX2_meetRoots_74 : decode cX2_meetRoots 74 = .ok (.ireturn, 1) := by decide +kernel
theorem dX2_dropUnreached_0 : decode cX2_dropUnreached 0 = .ok (.aload_n 0, 1) := by decide +kernel
theorem dX2_dropUnreached_1 : decode cX2_dropUnreached 1 = .ok (.invokevirtual 119, 3) := by decide +kernel
theorem dX2_dropUnreached_4 : decode cX2_dropUnreached 4 = .ok (.aload_n 0, 1) := by decide +kernel
theorem dX2_dropUnreached_5 : decode cX2_dropUnreached 5 = .ok (.invokevirtual 122, 3) := by decide +kernel
theorem dX2_dropUnreached_8 : decode cX2_dropUnreached 8 = .ok (.istore_n 1, 1) := by decide +kernel
theorem dX2_dropUnreached_9 : decode cX2_dropUnreached 9 = .ok (.iconst 0, 1) := by decide +kernel
theorem dX2_dropUnreached_10 : decode cX2_dropUnreached 10 = .ok (.istore_n 2, 1) := by decide +kernel
theorem dX2_dropUnreached_11 : decode cX2_dropUnreached 11 = .ok (.iload_n 2, 1) := by decide +kernel
theorem dX2_dropUnreached_12 : decode cX2_dropUnreached 12 = .ok (.iload_n 1, 1) := by decide +kernel
theorem dX2_dropUnreached_13 : decode cX2_dropUnreached 13 = .ok (.if_icmp .ge 21, 3) := by decide +kernel
theorem dX2_dropUnreached_34 : decode cX2_dropUnreached 34 = .ok (.aload_n 0, 1) := by decide +kernel
theorem dX2_dropUnreached_35 : decode cX2_dropUnreached 35 = .ok (.getfield 75, 3) := by decide +kernel
theorem dX2_dropUnreached_38 : decode cX2_dropUnreached 38 = .ok (.iload_n 1, 1) := by decide +kernel
theorem dX2_dropUnreached_39 : decode cX2_dropUnreached 39 = .ok (.isub, 1) := by decide +kernel
theorem dX2_dropUnreached_40 : decode cX2_dropUnreached 40 = .ok (.istore_n 2, 1) := by decide +kernel
theorem dX2_dropUnreached_41 : decode cX2_dropUnreached 41 = .ok (.iconst 0, 1) := by decide +kernel
theorem dX2_dropUnreached_42 : decode cX2_dropUnreached 42 = .ok (.istore_n 3, 1) := by decide +kernel
theorem dX2_dropUnreached_43 : decode cX2_dropUnreached 43 = .ok (.iconst 0, 1) := by decide +kernel
theorem dX2_dropUnreached_44 : decode cX2_dropUnreached 44 = .ok (.istore 4, 2) := by decide +kernel
theorem dX2_dropUnreached_46 : decode cX2_dropUnreached 46 = .ok (.iload 4, 2) := by decide +kernel
theorem dX2_dropUnreached_48 : decode cX2_dropUnreached 48 = .ok (.aload_n 0, 1) := by decide +kernel
theorem dX2_dropUnreached_49 : decode cX2_dropUnreached 49 = .ok (.getfield 47, 3) := by decide +kernel
theorem dX2_dropUnreached_52 : decode cX2_dropUnreached 52 = .ok (.if_icmp .ge 80, 3) := by decide +kernel
theorem dX2_dropUnreached_132 : decode cX2_dropUnreached 132 = .ok (.aload_n 0, 1) := by decide +kernel
theorem dX2_dropUnreached_133 : decode cX2_dropUnreached 133 = .ok (.iload_n 3, 1) := by decide +kernel
theorem dX2_dropUnreached_134 : decode cX2_dropUnreached 134 = .ok (.putfield 62, 3) := by decide +kernel
theorem dX2_dropUnreached_137 : decode cX2_dropUnreached 137 = .ok (.aload_n 0, 1) := by decide +kernel
theorem dX2_dropUnreached_138 : decode cX2_dropUnreached 138 = .ok (.iload_n 1, 1) := by decide +kernel
theorem dX2_dropUnreached_139 : decode cX2_dropUnreached 139 = .ok (.putfield 75, 3) := by decide +kernel
theorem dX2_dropUnreached_142 : decode cX2_dropUnreached 142 = .ok (.iload_n 2, 1) := by decide +kernel
theorem dX2_dropUnreached_143 : decode cX2_dropUnreached 143 = .ok (.ireturn, 1) := by decide +kernel
theorem dX3_init_0 : decode cX3_init 0 = .ok (.aload_n 0, 1) := by decide +kernel
theorem dX3_init_1 : decode cX3_init 1 = .ok (.invokespecial 3, 3) := by decide +kernel
theorem dX3_init_4 : decode cX3_init 4 = .ok (.aload_n 0, 1) := by decide +kernel
theorem dX3_init_5 : decode cX3_init 5 = .ok (.aload_n 1, 1) := by decide +kernel
theorem dX3_init_6 : decode cX3_init 6 = .ok (.putfield 9, 3) := by decide +kernel
theorem dX3_init_9 : decode cX3_init 9 = .ok (.aload_n 0, 1) := by decide +kernel
theorem dX3_init_10 : decode cX3_init 10 = .ok (.bipush 100, 2) := by decide +kernel
theorem dX3_init_12 : decode cX3_init 12 = .ok (.newarray .int, 2) := by decide +kernel
theorem dX3_init_14 : decode cX3_init 14 = .ok (.putfield 15, 3) := by decide +kernel
theorem dX3_init_17 : decode cX3_init 17 = .ok (.aload_n 0, 1) := by decide +kernel
theorem dX3_init_18 : decode cX3_init 18 = .ok (.bipush 100, 2) := by decide +kernel
theorem dX3_init_20 : decode cX3_init 20 = .ok (.newarray .int, 2) := by decide +kernel
theorem dX3_init_22 : decode cX3_init 22 = .ok (.putfield 19, 3) := by decide +kernel
theorem dX3_init_25 : decode cX3_init 25 = .ok (.aload_n 0, 1) := by decide +kernel
theorem dX3_init_26 : decode cX3_init 26 = .ok (.bipush 100, 2) := by decide +kernel
theorem dX3_init_28 : decode cX3_init 28 = .ok (.newarray .long, 2) := by decide +kernel
theorem dX3_init_30 : decode cX3_init 30 = .ok (.putfield 22, 3) := by decide +kernel
theorem dX3_init_33 : decode cX3_init 33 = .ok (.aload_n 0, 1) := by decide +kernel
theorem dX3_init_34 : decode cX3_init 34 = .ok (.bipush 6, 2) := by decide +kernel
theorem dX3_init_36 : decode cX3_init 36 = .ok (.newarray .int, 2) := by decide +kernel
theorem dX3_init_38 : decode cX3_init 38 = .ok (.putfield 26, 3) := by decide +kernel
theorem dX3_init_41 : decode cX3_init 41 = .ok (.aload_n 0, 1) := by decide +kernel
theorem dX3_init_42 : decode cX3_init 42 = .ok (.bipush 6, 2) := by decide +kernel
theorem dX3_init_44 : decode cX3_init 44 = .ok (.newarray .int, 2) := by decide +kernel
theorem dX3_init_46 : decode cX3_init 46 = .ok (.putfield 29, 3) := by decide +kernel
theorem dX3_init_49 : decode cX3_init 49 = .ok (.aload_n 0, 1) := by decide +kernel
theorem dX3_init_50 : decode cX3_init 50 = .ok (.bipush 6, 2) := by decide +kernel
theorem dX3_init_52 : decode cX3_init 52 = .ok (.newarray .int, 2) := by decide +kernel
theorem dX3_init_54 : decode cX3_init 54 = .ok (.putfield 32, 3) := by decide +kernel
theorem dX3_init_57 : decode cX3_init 57 = .ok (.aload_n 0, 1) := by decide +kernel
theorem dX3_init_58 : decode cX3_init 58 = .ok (.bipush 6, 2) := by decide +kernel
theorem dX3_init_60 : decode cX3_init 60 = .ok (.newarray .int, 2) := by decide +kernel
theorem dX3_init_62 : decode cX3_init 62 = .ok (.putfield 35, 3) := by decide +kernel
theorem dX3_init_65 : decode cX3_init 65 = .ok (.aload_n 0, 1) := by decide +kernel
theorem dX3_init_66 : decode cX3_init 66 = .ok (.sipush 144, 3) := by decide +kernel
theorem dX3_init_69 : decode cX3_init 69 = .ok (.newarray .long, 2) := by decide +kernel
theorem dX3_init_71 : decode cX3_init 71 = .ok (.putfield 38, 3) := by decide +kernel
theorem dX3_init_74 : decode cX3_init 74 = .ok (.return_, 1) := by decide +kernel
theorem dX3_forgetUndo_0 : decode cX3_forgetUndo 0 = .ok (.aload_n 0, 1) := by decide +kernel
theorem dX3_forgetUndo_1 : decode cX3_forgetUndo 1 = .ok (.iconst 0, 1) := by decide +kernel
theorem dX3_forgetUndo_2 : decode cX3_forgetUndo 2 = .ok (.putfield 119, 3) := by decide +kernel
theorem dX3_forgetUndo_5 : decode cX3_forgetUndo 5 = .ok (.return_, 1) := by decide +kernel
theorem dX3_takeBack_0 : decode cX3_takeBack 0 = .ok (.aload_n 0, 1) := by decide +kernel
theorem dX3_takeBack_1 : decode cX3_takeBack 1 = .ok (.getfield 119, 3) := by decide +kernel
theorem dX3_takeBack_4 : decode cX3_takeBack 4 = .ok (.ifCond .ne 5, 3) := by decide +kernel
theorem dX3_takeBack_7 : decode cX3_takeBack 7 = .ok (.iconst (-1), 1) := by decide +kernel
theorem dX3_takeBack_8 : decode cX3_takeBack 8 = .ok (.ireturn, 1) := by decide +kernel
theorem dX4_init_0 : decode cX4_init 0 = .ok (.aload_n 0, 1) := by decide +kernel
theorem dX4_init_1 : decode cX4_init 1 = .ok (.invokespecial 5, 3) := by decide +kernel
theorem dX4_init_4 : decode cX4_init 4 = .ok (.aload_n 0, 1) := by decide +kernel
theorem dX4_init_5 : decode cX4_init 5 = .ok (.aload_n 1, 1) := by decide +kernel
theorem dX4_init_6 : decode cX4_init 6 = .ok (.putfield 11, 3) := by decide +kernel
theorem dX4_init_9 : decode cX4_init 9 = .ok (.aload_n 0, 1) := by decide +kernel
theorem dX4_init_10 : decode cX4_init 10 = .ok (.bipush 121, 2) := by decide +kernel
theorem dX4_init_12 : decode cX4_init 12 = .ok (.newarray .int, 2) := by decide +kernel
theorem dX4_init_14 : decode cX4_init 14 = .ok (.putfield 19, 3) := by decide +kernel
theorem dX4_init_17 : decode cX4_init 17 = .ok (.aload_n 0, 1) := by decide +kernel
theorem dX4_init_18 : decode cX4_init 18 = .ok (.bipush 121, 2) := by decide +kernel
theorem dX4_init_20 : decode cX4_init 20 = .ok (.newarray .long, 2) := by decide +kernel
theorem dX4_init_22 : decode cX4_init 22 = .ok (.putfield 23, 3) := by decide +kernel
theorem dX4_init_25 : decode cX4_init 25 = .ok (.aload_n 0, 1) := by decide +kernel
theorem dX4_init_26 : decode cX4_init 26 = .ok (.bipush 11, 2) := by decide +kernel
theorem dX4_init_28 : decode cX4_init 28 = .ok (.newarray .int, 2) := by decide +kernel
theorem dX4_init_30 : decode cX4_init 30 = .ok (.putfield 27, 3) := by decide +kernel
theorem dX4_init_33 : decode cX4_init 33 = .ok (.aload_n 0, 1) := by decide +kernel
theorem dX4_init_34 : decode cX4_init 34 = .ok (.bipush 11, 2) := by decide +kernel
theorem dX4_init_36 : decode cX4_init 36 = .ok (.newarray .int, 2) := by decide +kernel
theorem dX4_init_38 : decode cX4_init 38 = .ok (.putfield 30, 3) := by decide +kernel
theorem dX4_init_41 : decode cX4_init 41 = .ok (.aload_n 0, 1) := by decide +kernel
theorem dX4_init_42 : decode cX4_init 42 = .ok (.bipush 11, 2) := by decide +kernel
theorem dX4_init_44 : decode cX4_init 44 = .ok (.newarray .int, 2) := by decide +kernel
theorem dX4_init_46 : decode cX4_init 46 = .ok (.putfield 33, 3) := by decide +kernel
theorem dX4_init_49 : decode cX4_init 49 = .ok (.aload_n 0, 1) := by decide +kernel
theorem dX4_init_50 : decode cX4_init 50 = .ok (.bipush 11, 2) := by decide +kernel
theorem dX4_init_52 : decode cX4_init 52 = .ok (.newarray .int, 2) := by decide +kernel
theorem dX4_init_54 : decode cX4_init 54 = .ok (.putfield 36, 3) := by decide +kernel
theorem dX4_init_57 : decode cX4_init 57 = .ok (.aload_n 0, 1) := by decide +kernel
theorem dX4_init_58 : decode cX4_init 58 = .ok (.bipush 11, 2) := by decide +kernel
theorem dX4_init_60 : decode cX4_init 60 = .ok (.newarray .int, 2) := by decide +kernel
theorem dX4_init_62 : decode cX4_init 62 = .ok (.putfield 39, 3) := by decide +kernel
theorem dX4_init_65 : decode cX4_init 65 = .ok (.aload_n 0, 1) := by decide +kernel
theorem dX4_init_66 : decode cX4_init 66 = .ok (.bipush 11, 2) := by decide +kernel
theorem dX4_init_68 : decode cX4_init 68 = .ok (.newarray .long, 2) := by decide +kernel
theorem dX4_init_70 : decode cX4_init 70 = .ok (.putfield 42, 3) := by decide +kernel
theorem dX4_init_73 : decode cX4_init 73 = .ok (.aload_n 0, 1) := by decide +kernel
theorem dX4_init_74 : decode cX4_init 74 = .ok (.bipush 11, 2) := by decide +kernel
theorem dX4_init_76 : decode cX4_init 76 = .ok (.newarray .boolean, 2) := by decide +kernel
theorem dX4_init_78 : decode cX4_init 78 = .ok (.putfield 45, 3) := by decide +kernel
theorem dX4_init_81 : decode cX4_init 81 = .ok (.aload_n 0, 1) := by decide +kernel
theorem dX4_init_82 : decode cX4_init 82 = .ok (.sipush 4400, 3) := by decide +kernel
theorem dX4_init_85 : decode cX4_init 85 = .ok (.newarray .int, 2) := by decide +kernel
theorem dX4_init_87 : decode cX4_init 87 = .ok (.putfield 49, 3) := by decide +kernel
theorem dX4_init_90 : decode cX4_init 90 = .ok (.aload_n 0, 1) := by decide +kernel
theorem dX4_init_91 : decode cX4_init 91 = .ok (.sipush 4400, 3) := by decide +kernel
theorem dX4_init_94 : decode cX4_init 94 = .ok (.newarray .int, 2) := by decide +kernel
theorem dX4_init_96 : decode cX4_init 96 = .ok (.putfield 52, 3) := by decide +kernel
theorem dX4_init_99 : decode cX4_init 99 = .ok (.aload_n 0, 1) := by decide +kernel
theorem dX4_init_100 : decode cX4_init 100 = .ok (.bipush 11, 2) := by decide +kernel
theorem dX4_init_102 : decode cX4_init 102 = .ok (.newarray .int, 2) := by decide +kernel
theorem dX4_init_104 : decode cX4_init 104 = .ok (.putfield 55, 3) := by decide +kernel
theorem dX4_init_107 : decode cX4_init 107 = .ok (.aload_n 0, 1) := by decide +kernel
theorem dX4_init_108 : decode cX4_init 108 = .ok (.sipush 4000, 3) := by decide +kernel
theorem dX4_init_111 : decode cX4_init 111 = .ok (.newarray .int, 2) := by decide +kernel
theorem dX4_init_113 : decode cX4_init 113 = .ok (.putfield 58, 3) := by decide +kernel
theorem dX4_init_116 : decode cX4_init 116 = .ok (.aload_n 0, 1) := by decide +kernel
theorem dX4_init_117 : decode cX4_init 117 = .ok (.sipush 4000, 3) := by decide +kernel
theorem dX4_init_120 : decode cX4_init 120 = .ok (.newarray .int, 2) := by decide +kernel
theorem dX4_init_122 : decode cX4_init 122 = .ok (.putfield 61, 3) := by decide +kernel
theorem dX4_init_125 : decode cX4_init 125 = .ok (.aload_n 0, 1) := by decide +kernel
theorem dX4_init_126 : decode cX4_init 126 = .ok (.sipush 4000, 3) := by decide +kernel
theorem dX4_init_129 : decode cX4_init 129 = .ok (.newarray .long, 2) := by decide +kernel
theorem dX4_init_131 : decode cX4_init 131 = .ok (.putfield 64, 3) := by decide +kernel
theorem dX4_init_134 : decode cX4_init 134 = .ok (.return_, 1) := by decide +kernel
theorem dX5_init_0 : decode cX5_init 0 = .ok (.aload_n 0, 1) := by decide +kernel
theorem dX5_init_1 : decode cX5_init 1 = .ok (.invokespecial 3, 3) := by decide +kernel
theorem dX5_init_4 : decode cX5_init 4 = .ok (.aload_n 0, 1) := by decide +kernel
theorem dX5_init_5 : decode cX5_init 5 = .ok (.sipush 400, 3) := by decide +kernel
theorem dX5_init_8 : decode cX5_init 8 = .ok (.newarray .int, 2) := by decide +kernel
theorem dX5_init_10 : decode cX5_init 10 = .ok (.putfield 11, 3) := by decide +kernel
theorem dX5_init_13 : decode cX5_init 13 = .ok (.aload_n 0, 1) := by decide +kernel
theorem dX5_init_14 : decode cX5_init 14 = .ok (.sipush 400, 3) := by decide +kernel
theorem dX5_init_17 : decode cX5_init 17 = .ok (.newarray .int, 2) := by decide +kernel
theorem dX5_init_19 : decode cX5_init 19 = .ok (.putfield 15, 3) := by decide +kernel
theorem dX5_init_22 : decode cX5_init 22 = .ok (.aload_n 0, 1) := by decide +kernel
theorem dX5_init_23 : decode cX5_init 23 = .ok (.sipush 400, 3) := by decide +kernel
theorem dX5_init_26 : decode cX5_init 26 = .ok (.newarray .int, 2) := by decide +kernel
theorem dX5_init_28 : decode cX5_init 28 = .ok (.putfield 18, 3) := by decide +kernel
theorem dX5_init_31 : decode cX5_init 31 = .ok (.aload_n 0, 1) := by decide +kernel
theorem dX5_init_32 : decode cX5_init 32 = .ok (.sipush 401, 3) := by decide +kernel
theorem dX5_init_35 : decode cX5_init 35 = .ok (.newarray .int, 2) := by decide +kernel
theorem dX5_init_37 : decode cX5_init 37 = .ok (.putfield 21, 3) := by decide +kernel
theorem dX5_init_40 : decode cX5_init 40 = .ok (.aload_n 0, 1) := by decide +kernel
theorem dX5_init_41 : decode cX5_init 41 = .ok (.sipush 400, 3) := by decide +kernel
theorem dX5_init_44 : decode cX5_init 44 = .ok (.newarray .int, 2) := by decide +kernel
theorem dX5_init_46 : decode cX5_init 46 = .ok (.putfield 24, 3) := by decide +kernel
theorem dX5_init_49 : decode cX5_init 49 = .ok (.aload_n 0, 1) := by decide +kernel
theorem dX5_init_50 : decode cX5_init 50 = .ok (.sipush 400, 3) := by decide +kernel
theorem dX5_init_53 : decode cX5_init 53 = .ok (.newarray .int, 2) := by decide +kernel
theorem dX5_init_55 : decode cX5_init 55 = .ok (.putfield 27, 3) := by decide +kernel
theorem dX5_init_58 : decode cX5_init 58 = .ok (.aload_n 0, 1) := by decide +kernel
theorem dX5_init_59 : decode cX5_init 59 = .ok (.sipush 400, 3) := by decide +kernel
theorem dX5_init_62 : decode cX5_init 62 = .ok (.newarray .int, 2) := by decide +kernel
theorem dX5_init_64 : decode cX5_init 64 = .ok (.putfield 30, 3) := by decide +kernel
theorem dX5_init_67 : decode cX5_init 67 = .ok (.aload_n 0, 1) := by decide +kernel
theorem dX5_init_68 : decode cX5_init 68 = .ok (.sipush 400, 3) := by decide +kernel
theorem dX5_init_71 : decode cX5_init 71 = .ok (.newarray .int, 2) := by decide +kernel
theorem dX5_init_73 : decode cX5_init 73 = .ok (.putfield 35, 3) := by decide +kernel
theorem dX5_init_76 : decode cX5_init 76 = .ok (.aload_n 0, 1) := by decide +kernel
theorem dX5_init_77 : decode cX5_init 77 = .ok (.getfield 35, 3) := by decide +kernel
theorem dX5_init_80 : decode cX5_init 80 = .ok (.iconst (-1), 1) := by decide +kernel
theorem dX5_init_81 : decode cX5_init 81 = .ok (.invokestatic 38, 3) := by decide +kernel
theorem dX5_init_84 : decode cX5_init 84 = .ok (.aload_n 0, 1) := by decide +kernel
theorem dX5_init_85 : decode cX5_init 85 = .ok (.sipush 4000, 3) := by decide +kernel
theorem dX5_init_88 : decode cX5_init 88 = .ok (.newarray .long, 2) := by decide +kernel
theorem dX5_init_90 : decode cX5_init 90 = .ok (.putfield 44, 3) := by decide +kernel
theorem dX5_init_93 : decode cX5_init 93 = .ok (.aload_n 0, 1) := by decide +kernel
theorem dX5_init_94 : decode cX5_init 94 = .ok (.sipush 4000, 3) := by decide +kernel
theorem dX5_init_97 : decode cX5_init 97 = .ok (.newarray .boolean, 2) := by decide +kernel
theorem dX5_init_99 : decode cX5_init 99 = .ok (.putfield 48, 3) := by decide +kernel
theorem dX5_init_102 : decode cX5_init 102 = .ok (.aload_n 0, 1) := by decide +kernel
theorem dX5_init_103 : decode cX5_init 103 = .ok (.bipush 108, 2) := by decide +kernel
theorem dX5_init_105 : decode cX5_init 105 = .ok (.newarray .int, 2) := by decide +kernel
theorem dX5_init_107 : decode cX5_init 107 = .ok (.putfield 52, 3) := by decide +kernel
theorem dX5_init_110 : decode cX5_init 110 = .ok (.aload_n 0, 1) := by decide +kernel
theorem dX5_init_111 : decode cX5_init 111 = .ok (.bipush 108, 2) := by decide +kernel
theorem dX5_init_113 : decode cX5_init 113 = .ok (.newarray .int, 2) := by decide +kernel
theorem dX5_init_115 : decode cX5_init 115 = .ok (.putfield 55, 3) := by decide +kernel
theorem dX5_init_118 : decode cX5_init 118 = .ok (.aload_n 0, 1) := by decide +kernel
theorem dX5_init_119 : decode cX5_init 119 = .ok (.sipush 400, 3) := by decide +kernel
theorem dX5_init_122 : decode cX5_init 122 = .ok (.newarray .boolean, 2) := by decide +kernel
theorem dX5_init_124 : decode cX5_init 124 = .ok (.putfield 58, 3) := by decide +kernel
theorem dX5_init_127 : decode cX5_init 127 = .ok (.aload_n 0, 1) := by decide +kernel
theorem dX5_init_128 : decode cX5_init 128 = .ok (.sipush 400, 3) := by decide +kernel
theorem dX5_init_131 : decode cX5_init 131 = .ok (.newarray .int, 2) := by decide +kernel
theorem dX5_init_133 : decode cX5_init 133 = .ok (.putfield 61, 3) := by decide +kernel
theorem dX5_init_136 : decode cX5_init 136 = .ok (.aload_n 0, 1) := by decide +kernel
theorem dX5_init_137 : decode cX5_init 137 = .ok (.sipush 400, 3) := by decide +kernel
theorem dX5_init_140 : decode cX5_init 140 = .ok (.newarray .int, 2) := by decide +kernel
theorem dX5_init_142 : decode cX5_init 142 = .ok (.putfield 64, 3) := by decide +kernel
theorem dX5_init_145 : decode cX5_init 145 = .ok (.aload_n 0, 1) := by decide +kernel
theorem dX5_init_146 : decode cX5_init 146 = .ok (.sipush 400, 3) := by decide +kernel
theorem dX5_init_149 : decode cX5_init 149 = .ok (.newarray .int, 2) := by decide +kernel
theorem dX5_init_151 : decode cX5_init 151 = .ok (.putfield 67, 3) := by decide +kernel
theorem dX5_init_154 : decode cX5_init 154 = .ok (.aload_n 0, 1) := by decide +kernel
theorem dX5_init_155 : decode cX5_init 155 = .ok (.sipush 400, 3) := by decide +kernel
theorem dX5_init_158 : decode cX5_init 158 = .ok (.newarray .int, 2) := by decide +kernel
theorem dX5_init_160 : decode cX5_init 160 = .ok (.putfield 70, 3) := by decide +kernel
theorem dX5_init_163 : decode cX5_init 163 = .ok (.aload_n 0, 1) := by decide +kernel
theorem dX5_init_164 : decode cX5_init 164 = .ok (.new 73, 3) := by decide +kernel
theorem dX5_init_167 : decode cX5_init 167 = .ok (.dup, 1) := by decide +kernel
theorem dX5_init_168 : decode cX5_init 168 = .ok (.aload_n 1, 1) := by decide +kernel
theorem dX5_init_169 : decode cX5_init 169 = .ok (.invokespecial 75, 3) := by decide +kernel
theorem dX5_init_172 : decode cX5_init 172 = .ok (.putfield 78, 3) := by decide +kernel
theorem dX5_init_175 : decode cX5_init 175 = .ok (.return_, 1) := by decide +kernel
theorem dX5_forget_0 : decode cX5_forget 0 = .ok (.iconst 0, 1) := by decide +kernel
theorem dX5_forget_1 : decode cX5_forget 1 = .ok (.istore_n 1, 1) := by decide +kernel
theorem dX5_forget_2 : decode cX5_forget 2 = .ok (.iload_n 1, 1) := by decide +kernel
theorem dX5_forget_3 : decode cX5_forget 3 = .ok (.aload_n 0, 1) := by decide +kernel
theorem dX5_forget_4 : decode cX5_forget 4 = .ok (.getfield 82, 3) := by decide +kernel
theorem dX5_forget_7 : decode cX5_forget 7 = .ok (.if_icmp .ge 28, 3) := by decide +kernel
theorem dX5_forget_35 : decode cX5_forget 35 = .ok (.aload_n 0, 1) := by decide +kernel
theorem dX5_forget_36 : decode cX5_forget 36 = .ok (.iconst 0, 1) := by decide +kernel
theorem dX5_forget_37 : decode cX5_forget 37 = .ok (.putfield 82, 3) := by decide +kernel
theorem dX5_forget_40 : decode cX5_forget 40 = .ok (.aload_n 0, 1) := by decide +kernel
theorem dX5_forget_41 : decode cX5_forget 41 = .ok (.iconst 0, 1) := by decide +kernel
theorem dX5_forget_42 : decode cX5_forget 42 = .ok (.putfield 86, 3) := by decide +kernel
theorem dX5_forget_45 : decode cX5_forget 45 = .ok (.aload_n 0, 1) := by decide +kernel
theorem dX5_forget_46 : decode cX5_forget 46 = .ok (.iconst 0, 1) := by decide +kernel
theorem dX5_forget_47 : decode cX5_forget 47 = .ok (.putfield 89, 3) := by decide +kernel
theorem dX5_forget_50 : decode cX5_forget 50 = .ok (.aload_n 0, 1) := by decide +kernel
theorem dX5_forget_51 : decode cX5_forget 51 = .ok (.getfield 78, 3) := by decide +kernel
theorem dX5_forget_54 : decode cX5_forget 54 = .ok (.iconst 0, 1) := by decide +kernel
theorem dX5_forget_55 : decode cX5_forget 55 = .ok (.putfield 92, 3) := by decide +kernel
theorem dX5_forget_58 : decode cX5_forget 58 = .ok (.return_, 1) := by decide +kernel
theorem dX5_takeFrom_0 : decode cX5_takeFrom 0 = .ok (.aload_n 0, 1) := by decide +kernel
theorem dX5_takeFrom_1 : decode cX5_takeFrom 1 = .ok (.invokevirtual 95, 3) := by decide +kernel
theorem dX5_takeFrom_4 : decode cX5_takeFrom 4 = .ok (.iconst 0, 1) := by decide +kernel
theorem dX5_takeFrom_5 : decode cX5_takeFrom 5 = .ok (.istore_n 2, 1) := by decide +kernel
theorem dX5_takeFrom_6 : decode cX5_takeFrom 6 = .ok (.iload_n 2, 1) := by decide +kernel
theorem dX5_takeFrom_7 : decode cX5_takeFrom 7 = .ok (.aload_n 1, 1) := by decide +kernel
theorem dX5_takeFrom_8 : decode cX5_takeFrom 8 = .ok (.getfield 98, 3) := by decide +kernel
theorem dX5_takeFrom_11 : decode cX5_takeFrom 11 = .ok (.if_icmp .ge 22, 3) := by decide +kernel
theorem dX5_takeFrom_33 : decode cX5_takeFrom 33 = .ok (.aload_n 1, 1) := by decide +kernel
theorem dX5_takeFrom_34 : decode cX5_takeFrom 34 = .ok (.getfield 98, 3) := by decide +kernel
theorem dX5_takeFrom_37 : decode cX5_takeFrom 37 = .ok (.istore_n 2, 1) := by decide +kernel
theorem dX5_takeFrom_38 : decode cX5_takeFrom 38 = .ok (.iconst 0, 1) := by decide +kernel
theorem dX5_takeFrom_39 : decode cX5_takeFrom 39 = .ok (.istore_n 3, 1) := by decide +kernel
theorem dX5_takeFrom_40 : decode cX5_takeFrom 40 = .ok (.iload_n 3, 1) := by decide +kernel
theorem dX5_takeFrom_41 : decode cX5_takeFrom 41 = .ok (.aload_n 1, 1) := by decide +kernel
theorem dX5_takeFrom_42 : decode cX5_takeFrom 42 = .ok (.getfield 107, 3) := by decide +kernel
theorem dX5_takeFrom_45 : decode cX5_takeFrom 45 = .ok (.invokevirtual 111, 3) := by decide +kernel
theorem dX5_takeFrom_48 : decode cX5_takeFrom 48 = .ok (.if_icmp .ge 35, 3) := by decide +kernel
theorem dX5_takeFrom_83 : decode cX5_takeFrom 83 = .ok (.iconst 0, 1) := by decide +kernel
theorem dX5_takeFrom_84 : decode cX5_takeFrom 84 = .ok (.istore_n 3, 1) := by decide +kernel
theorem dX5_takeFrom_85 : decode cX5_takeFrom 85 = .ok (.iload_n 3, 1) := by decide +kernel
theorem dX5_takeFrom_86 : decode cX5_takeFrom 86 = .ok (.aload_n 0, 1) := by decide +kernel
theorem dX5_takeFrom_87 : decode cX5_takeFrom 87 = .ok (.getfield 82, 3) := by decide +kernel
theorem dX5_takeFrom_90 : decode cX5_takeFrom 90 = .ok (.if_icmp .ge 15, 3) := by decide +kernel
theorem dX5_takeFrom_105 : decode cX5_takeFrom 105 = .ok (.return_, 1) := by decide +kernel
theorem dX5_ringCount_0 : decode cX5_ringCount 0 = .ok (.aload_n 0, 1) := by decide +kernel
theorem dX5_ringCount_1 : decode cX5_ringCount 1 = .ok (.getfield 78, 3) := by decide +kernel
theorem dX5_ringCount_4 : decode cX5_ringCount 4 = .ok (.aload_n 0, 1) := by decide +kernel
theorem dX5_ringCount_5 : decode cX5_ringCount 5 = .ok (.invokevirtual 176, 3) := by decide +kernel
theorem dX5_ringCount_8 : decode cX5_ringCount 8 = .ok (.aload_n 0, 1) := by decide +kernel
theorem dX5_ringCount_9 : decode cX5_ringCount 9 = .ok (.getfield 78, 3) := by decide +kernel
theorem dX5_ringCount_12 : decode cX5_ringCount 12 = .ok (.getfield 182, 3) := by decide +kernel
theorem dX5_ringCount_15 : decode cX5_ringCount 15 = .ok (.ireturn, 1) := by decide +kernel
theorem dX5_ringMember_0 : decode cX5_ringMember 0 = .ok (.aload_n 0, 1) := by decide +kernel
theorem dX5_ringMember_1 : decode cX5_ringMember 1 = .ok (.getfield 78, 3) := by decide +kernel
theorem dX5_ringMember_4 : decode cX5_ringMember 4 = .ok (.aload_n 0, 1) := by decide +kernel
theorem dX5_ringMember_5 : decode cX5_ringMember 5 = .ok (.invokevirtual 176, 3) := by decide +kernel
theorem dX5_ringMember_8 : decode cX5_ringMember 8 = .ok (.aload_n 0, 1) := by decide +kernel
theorem dX5_ringMember_9 : decode cX5_ringMember 9 = .ok (.aload_n 0, 1) := by decide +kernel
theorem dX5_ringMember_10 : decode cX5_ringMember 10 = .ok (.getfield 78, 3) := by decide +kernel
theorem dX5_ringMember_13 : decode cX5_ringMember 13 = .ok (.getfield 179, 3) := by decide +kernel
theorem dX5_ringMember_16 : decode cX5_ringMember 16 = .ok (.iload_n 1, 1) := by decide +kernel
theorem dX5_ringMember_17 : decode cX5_ringMember 17 = .ok (.iload_n 2, 1) := by decide +kernel
theorem dX5_ringMember_18 : decode cX5_ringMember 18 = .ok (.invokevirtual 185, 3) := by decide +kernel
theorem dX5_ringMember_21 : decode cX5_ringMember 21 = .ok (.ireturn, 1) := by decide +kernel
theorem dX5_twinCount_0 : decode cX5_twinCount 0 = .ok (.aload_n 0, 1) := by decide +kernel
theorem dX5_twinCount_1 : decode cX5_twinCount 1 = .ok (.getfield 78, 3) := by decide +kernel
theorem dX5_twinCount_4 : decode cX5_twinCount 4 = .ok (.aload_n 0, 1) := by decide +kernel
theorem dX5_twinCount_5 : decode cX5_twinCount 5 = .ok (.invokevirtual 189, 3) := by decide +kernel
theorem dX5_twinCount_8 : decode cX5_twinCount 8 = .ok (.aload_n 0, 1) := by decide +kernel
theorem dX5_twinCount_9 : decode cX5_twinCount 9 = .ok (.getfield 78, 3) := by decide +kernel
theorem dX5_twinCount_12 : decode cX5_twinCount 12 = .ok (.getfield 195, 3) := by decide +kernel
theorem dX5_twinCount_15 : decode cX5_twinCount 15 = .ok (.ireturn, 1) := by decide +kernel
theorem dX5_twinMember_0 : decode cX5_twinMember 0 = .ok (.aload_n 0, 1) := by decide +kernel
theorem dX5_twinMember_1 : decode cX5_twinMember 1 = .ok (.getfield 78, 3) := by decide +kernel
theorem dX5_twinMember_4 : decode cX5_twinMember 4 = .ok (.aload_n 0, 1) := by decide +kernel
theorem dX5_twinMember_5 : decode cX5_twinMember 5 = .ok (.invokevirtual 189, 3) := by decide +kernel
theorem dX5_twinMember_8 : decode cX5_twinMember 8 = .ok (.aload_n 0, 1) := by decide +kernel
theorem dX5_twinMember_9 : decode cX5_twinMember 9 = .ok (.aload_n 0, 1) := by decide +kernel
theorem dX5_twinMember_10 : decode cX5_twinMember 10 = .ok (.getfield 78, 3) := by decide +kernel
theorem dX5_twinMember_13 : decode cX5_twinMember 13 = .ok (.getfield 192, 3) := by decide +kernel
theorem dX5_twinMember_16 : decode cX5_twinMember 16 = .ok (.iload_n 1, 1) := by decide +kernel
theorem dX5_twinMember_17 : decode cX5_twinMember 17 = .ok (.iload_n 2, 1) := by decide +kernel
theorem dX5_twinMember_18 : decode cX5_twinMember 18 = .ok (.invokevirtual 185, 3) := by decide +kernel
theorem dX5_twinMember_21 : decode cX5_twinMember 21 = .ok (.ireturn, 1) := by decide +kernel
theorem dX5_memberOf_0 : decode cX5_memberOf 0 = .ok (.iload_n 3, 1) := by decide +kernel
theorem dX5_memberOf_1 : decode cX5_memberOf 1 = .ok (.istore 4, 2) := by decide +kernel
theorem dX5_memberOf_3 : decode cX5_memberOf 3 = .ok (.iconst 0, 1) := by decide +kernel
theorem dX5_memberOf_4 : decode cX5_memberOf 4 = .ok (.istore 5, 2) := by decide +kernel
theorem dX5_memberOf_6 : decode cX5_memberOf 6 = .ok (.iload 5, 2) := by decide +kernel
theorem dX5_memberOf_8 : decode cX5_memberOf 8 = .ok (.aload_n 0, 1) := by decide +kernel
theorem dX5_memberOf_9 : decode cX5_memberOf 9 = .ok (.getfield 82, 3) := by decide +kernel
theorem dX5_memberOf_12 : decode cX5_memberOf 12 = .ok (.if_icmp .ge 28, 3) := by decide +kernel
theorem dX5_memberOf_40 : decode cX5_memberOf 40 = .ok (.iconst (-1), 1) := by decide +kernel
theorem dX5_memberOf_41 : decode cX5_memberOf 41 = .ok (.ireturn, 1) := by decide +kernel
theorem dX5_allSizes_0 : decode cX5_allSizes 0 = .ok (.iconst 0, 1) := by decide +kernel
theorem dX5_allSizes_1 : decode cX5_allSizes 1 = .ok (.istore_n 2, 1) := by decide +kernel
theorem dX5_allSizes_2 : decode cX5_allSizes 2 = .ok (.iconst 0, 1) := by decide +kernel
theorem dX5_allSizes_3 : decode cX5_allSizes 3 = .ok (.istore_n 3, 1) := by decide +kernel
theorem dX5_allSizes_4 : decode cX5_allSizes 4 = .ok (.iload_n 3, 1) := by decide +kernel
theorem dX5_allSizes_5 : decode cX5_allSizes 5 = .ok (.aload_n 0, 1) := by decide +kernel
theorem dX5_allSizes_6 : decode cX5_allSizes 6 = .ok (.getfield 82, 3) := by decide +kernel
theorem dX5_allSizes_9 : decode cX5_allSizes 9 = .ok (.if_icmp .ge 28, 3) := by decide +kernel
theorem dX5_allSizes_37 : decode cX5_allSizes 37 = .ok (.iload_n 2, 1) := by decide +kernel
theorem dX5_allSizes_38 : decode cX5_allSizes 38 = .ok (.ireturn, 1) := by decide +kernel
theorem dX5_doubledSizes_0 : decode cX5_doubledSizes 0 = .ok (.aload_n 0, 1) := by decide +kernel
theorem dX5_doubledSizes_1 : decode cX5_doubledSizes 1 = .ok (.getfield 78, 3) := by decide +kernel
theorem dX5_doubledSizes_4 : decode cX5_doubledSizes 4 = .ok (.aload_n 0, 1) := by decide +kernel
theorem dX5_doubledSizes_5 : decode cX5_doubledSizes 5 = .ok (.invokevirtual 189, 3) := by decide +kernel
theorem dX5_doubledSizes_8 : decode cX5_doubledSizes 8 = .ok (.iconst 0, 1) := by decide +kernel
theorem dX5_doubledSizes_9 : decode cX5_doubledSizes 9 = .ok (.istore_n 2, 1) := by decide +kernel
theorem dX5_doubledSizes_10 : decode cX5_doubledSizes 10 = .ok (.iconst 0, 1) := by decide +kernel
theorem dX5_doubledSizes_11 : decode cX5_doubledSizes 11 = .ok (.istore_n 3, 1) := by decide +kernel
theorem dX5_doubledSizes_12 : decode cX5_doubledSizes 12 = .ok (.iconst 0, 1) := by decide +kernel
theorem dX5_doubledSizes_13 : decode cX5_doubledSizes 13 = .ok (.istore 4, 2) := by decide +kernel
theorem dX5_doubledSizes_15 : decode cX5_doubledSizes 15 = .ok (.iload 4, 2) := by decide +kernel
theorem dX5_doubledSizes_17 : decode cX5_doubledSizes 17 = .ok (.aload_n 0, 1) := by decide +kernel
theorem dX5_doubledSizes_18 : decode cX5_doubledSizes 18 = .ok (.getfield 82, 3) := by decide +kernel
theorem dX5_doubledSizes_21 : decode cX5_doubledSizes 21 = .ok (.if_icmp .ge 64, 3) := by decide +kernel
theorem dX5_doubledSizes_85 : decode cX5_doubledSizes 85 = .ok (.iload_n 2, 1) := by decide +kernel
theorem dX5_doubledSizes_86 : decode cX5_doubledSizes 86 = .ok (.ireturn, 1) := by decide +kernel
theorem dX5_findLost_0 : decode cX5_findLost 0 = .ok (.aload_n 0, 1) := by decide +kernel
theorem dX5_findLost_1 : decode cX5_findLost 1 = .ok (.getfield 64, 3) := by decide +kernel
theorem dX5_findLost_4 : decode cX5_findLost 4 = .ok (.iconst 0, 1) := by decide +kernel
theorem dX5_findLost_5 : decode cX5_findLost 5 = .ok (.aload_n 0, 1) := by decide +kernel
theorem dX5_findLost_6 : decode cX5_findLost 6 = .ok (.getfield 82, 3) := by decide +kernel
theorem dX5_findLost_9 : decode cX5_findLost 9 = .ok (.iconst 0, 1) := by decide +kernel
theorem dX5_findLost_10 : decode cX5_findLost 10 = .ok (.invokestatic 209, 3) := by decide +kernel
theorem dX5_findLost_13 : decode cX5_findLost 13 = .ok (.iconst 0, 1) := by decide +kernel
theorem dX5_findLost_14 : decode cX5_findLost 14 = .ok (.istore_n 1, 1) := by decide +kernel
theorem dX5_findLost_15 : decode cX5_findLost 15 = .ok (.iconst 0, 1) := by decide +kernel
theorem dX5_findLost_16 : decode cX5_findLost 16 = .ok (.istore_n 2, 1) := by decide +kernel
theorem dX5_findLost_17 : decode cX5_findLost 17 = .ok (.iload_n 2, 1) := by decide +kernel
theorem dX5_findLost_18 : decode cX5_findLost 18 = .ok (.aload_n 0, 1) := by decide +kernel
theorem dX5_findLost_19 : decode cX5_findLost 19 = .ok (.getfield 86, 3) := by decide +kernel
theorem dX5_findLost_22 : decode cX5_findLost 22 = .ok (.if_icmp .ge 21, 3) := by decide +kernel
theorem dX5_findLost_43 : decode cX5_findLost 43 = .ok (.iconst 0, 1) := by decide +kernel
theorem dX5_findLost_44 : decode cX5_findLost 44 = .ok (.istore_n 2, 1) := by decide +kernel
theorem dX5_findLost_45 : decode cX5_findLost 45 = .ok (.iload_n 2, 1) := by decide +kernel
theorem dX5_findLost_46 : decode cX5_findLost 46 = .ok (.iload_n 1, 1) := by decide +kernel
theorem dX5_findLost_47 : decode cX5_findLost 47 = .ok (.if_icmp .ge 79, 3) := by decide +kernel
theorem dX5_findLost_126 : decode cX5_findLost 126 = .ok (.aload_n 0, 1) := by decide +kernel
theorem dX5_findLost_127 : decode cX5_findLost 127 = .ok (.iconst 0, 1) := by decide +kernel
theorem dX5_findLost_128 : decode cX5_findLost 128 = .ok (.putfield 89, 3) := by decide +kernel
theorem dX5_findLost_131 : decode cX5_findLost 131 = .ok (.iconst 0, 1) := by decide +kernel
theorem dX5_findLost_132 : decode cX5_findLost 132 = .ok (.istore_n 2, 1) := by decide +kernel
theorem dX5_findLost_133 : decode cX5_findLost 133 = .ok (.iload_n 2, 1) := by decide +kernel
theorem dX5_findLost_134 : decode cX5_findLost 134 = .ok (.aload_n 0, 1) := by decide +kernel
theorem dX5_findLost_135 : decode cX5_findLost 135 = .ok (.getfield 82, 3) := by decide +kernel
theorem dX5_findLost_138 : decode cX5_findLost 138 = .ok (.if_icmp .ge 38, 3) := by decide +kernel
theorem dX5_findLost_176 : decode cX5_findLost 176 = .ok (.aload_n 0, 1) := by decide +kernel
theorem dX5_findLost_177 : decode cX5_findLost 177 = .ok (.getfield 89, 3) := by decide +kernel
theorem dX5_findLost_180 : decode cX5_findLost 180 = .ok (.ireturn, 1) := by decide +kernel
theorem dX5_listMissing_0 : decode cX5_listMissing 0 = .ok (.iconst 0, 1) := by decide +kernel
theorem dX5_listMissing_1 : decode cX5_listMissing 1 = .ok (.istore_n 3, 1) := by decide +kernel
theorem dX5_listMissing_2 : decode cX5_listMissing 2 = .ok (.iconst 0, 1) := by decide +kernel
theorem dX5_listMissing_3 : decode cX5_listMissing 3 = .ok (.istore 4, 2) := by decide +kernel
theorem dX5_listMissing_5 : decode cX5_listMissing 5 = .ok (.iload 4, 2) := by decide +kernel
theorem dX5_listMissing_7 : decode cX5_listMissing 7 = .ok (.aload_n 0, 1) := by decide +kernel
theorem dX5_listMissing_8 : decode cX5_listMissing 8 = .ok (.getfield 82, 3) := by decide +kernel
theorem dX5_listMissing_11 : decode cX5_listMissing 11 = .ok (.if_icmp .ge 33, 3) := by decide +kernel
theorem dX5_listMissing_44 : decode cX5_listMissing 44 = .ok (.iload_n 3, 1) := by decide +kernel
theorem dX5_listMissing_45 : decode cX5_listMissing 45 = .ok (.ireturn, 1) := by decide +kernel
theorem dX5_listChanged_0 : decode cX5_listChanged 0 = .ok (.iconst 0, 1) := by decide +kernel
theorem dX5_listChanged_1 : decode cX5_listChanged 1 = .ok (.istore_n 3, 1) := by decide +kernel
theorem dX5_listChanged_2 : decode cX5_listChanged 2 = .ok (.iconst 0, 1) := by decide +kernel
theorem dX5_listChanged_3 : decode cX5_listChanged 3 = .ok (.istore 4, 2) := by decide +kernel
theorem dX5_listChanged_5 : decode cX5_listChanged 5 = .ok (.iload 4, 2) := by decide +kernel
theorem dX5_listChanged_7 : decode cX5_listChanged 7 = .ok (.aload_n 0, 1) := by decide +kernel
theorem dX5_listChanged_8 : decode cX5_listChanged 8 = .ok (.getfield 82, 3) := by decide +kernel
theorem dX5_listChanged_11 : decode cX5_listChanged 11 = .ok (.if_icmp .ge 49, 3) := by decide +kernel
theorem dX5_listChanged_60 : decode cX5_listChanged 60 = .ok (.iload_n 3, 1) := by decide +kernel
theorem dX5_listChanged_61 : decode cX5_listChanged 61 = .ok (.ireturn, 1) := by decide +kernel
theorem dX6_init_0 : decode cX6_init 0 = .ok (.aload_n 0, 1) := by decide +kernel
theorem dX6_init_1 : decode cX6_init 1 = .ok (.invokespecial 3, 3) := by decide +kernel
theorem dX6_init_4 : decode cX6_init 4 = .ok (.aload_n 0, 1) := by decide +kernel
theorem dX6_init_5 : decode cX6_init 5 = .ok (.aload_n 1, 1) := by decide +kernel
theorem dX6_init_6 : decode cX6_init 6 = .ok (.putfield 9, 3) := by decide +kernel
theorem dX6_init_9 : decode cX6_init 9 = .ok (.aload_n 0, 1) := by decide +kernel
theorem dX6_init_10 : decode cX6_init 10 = .ok (.sipush 500, 3) := by decide +kernel
theorem dX6_init_13 : decode cX6_init 13 = .ok (.newarray .int, 2) := by decide +kernel
theorem dX6_init_15 : decode cX6_init 15 = .ok (.putfield 15, 3) := by decide +kernel
theorem dX6_init_18 : decode cX6_init 18 = .ok (.aload_n 0, 1) := by decide +kernel
theorem dX6_init_19 : decode cX6_init 19 = .ok (.sipush 500, 3) := by decide +kernel
theorem dX6_init_22 : decode cX6_init 22 = .ok (.newarray .int, 2) := by decide +kernel
theorem dX6_init_24 : decode cX6_init 24 = .ok (.putfield 19, 3) := by decide +kernel
theorem dX6_init_27 : decode cX6_init 27 = .ok (.aload_n 0, 1) := by decide +kernel
theorem dX6_init_28 : decode cX6_init 28 = .ok (.sipush 500, 3) := by decide +kernel
theorem dX6_init_31 : decode cX6_init 31 = .ok (.newarray .int, 2) := by decide +kernel
theorem dX6_init_33 : decode cX6_init 33 = .ok (.putfield 22, 3) := by decide +kernel
theorem dX6_init_36 : decode cX6_init 36 = .ok (.aload_n 0, 1) := by decide +kernel
theorem dX6_init_37 : decode cX6_init 37 = .ok (.sipush 500, 3) := by decide +kernel
theorem dX6_init_40 : decode cX6_init 40 = .ok (.newarray .long, 2) := by decide +kernel
theorem dX6_init_42 : decode cX6_init 42 = .ok (.putfield 25, 3) := by decide +kernel
theorem dX6_init_45 : decode cX6_init 45 = .ok (.aload_n 0, 1) := by decide +kernel
theorem dX6_init_46 : decode cX6_init 46 = .ok (.bipush 10, 2) := by decide +kernel
theorem dX6_init_48 : decode cX6_init 48 = .ok (.newarray .long, 2) := by decide +kernel
theorem dX6_init_50 : decode cX6_init 50 = .ok (.putfield 29, 3) := by decide +kernel
theorem dX6_init_53 : decode cX6_init 53 = .ok (.aload_n 0, 1) := by decide +kernel
theorem dX6_init_54 : decode cX6_init 54 = .ok (.bipush 10, 2) := by decide +kernel
theorem dX6_init_56 : decode cX6_init 56 = .ok (.newarray .int, 2) := by decide +kernel
theorem dX6_init_58 : decode cX6_init 58 = .ok (.putfield 32, 3) := by decide +kernel
theorem dX6_init_61 : decode cX6_init 61 = .ok (.aload_n 0, 1) := by decide +kernel
theorem dX6_init_62 : decode cX6_init 62 = .ok (.bipush 120, 2) := by decide +kernel
theorem dX6_init_64 : decode cX6_init 64 = .ok (.newarray .int, 2) := by decide +kernel
theorem dX6_init_66 : decode cX6_init 66 = .ok (.putfield 35, 3) := by decide +kernel
theorem dX6_init_69 : decode cX6_init 69 = .ok (.return_, 1) := by decide +kernel
theorem dX6_readPromise_0 : decode cX6_readPromise 0 = .ok (.aload_n 0, 1) := by decide +kernel
theorem dX6_readPromise_1 : decode cX6_readPromise 1 = .ok (.invokevirtual 38, 3) := by decide +kernel
theorem dX6_readPromise_4 : decode cX6_readPromise 4 = .ok (.aload_n 0, 1) := by decide +kernel
theorem dX6_readPromise_5 : decode cX6_readPromise 5 = .ok (.invokevirtual 41, 3) := by decide +kernel
theorem dX6_readPromise_8 : decode cX6_readPromise 8 = .ok (.ifCond .eq 24, 3) := by decide +kernel
theorem dX6_readPromise_32 : decode cX6_readPromise 32 = .ok (.iconst 0, 1) := by decide +kernel
theorem dX6_readPromise_33 : decode cX6_readPromise 33 = .ok (.ireturn, 1) := by decide +kernel
theorem dX6_readQuestion_0 : decode cX6_readQuestion 0 = .ok (.aload_n 0, 1) := by decide +kernel
theorem dX6_readQuestion_1 : decode cX6_readQuestion 1 = .ok (.invokevirtual 38, 3) := by decide +kernel
theorem dX6_readQuestion_4 : decode cX6_readQuestion 4 = .ok (.aload_n 0, 1) := by decide +kernel
theorem dX6_readQuestion_5 : decode cX6_readQuestion 5 = .ok (.iconst 0, 1) := by decide +kernel
theorem dX6_readQuestion_6 : decode cX6_readQuestion 6 = .ok (.invokevirtual 54, 3) := by decide +kernel
theorem dX6_readQuestion_9 : decode cX6_readQuestion 9 = .ok (.ifCond .ne 5, 3) := by decide +kernel
theorem dX6_readQuestion_12 : decode cX6_readQuestion 12 = .ok (.iconst 0, 1) := by decide +kernel
theorem dX6_readQuestion_13 : decode cX6_readQuestion 13 = .ok (.ireturn, 1) := by decide +kernel
theorem dX6_start_0 : decode cX6_start 0 = .ok (.aload_n 0, 1) := by decide +kernel
theorem dX6_start_1 : decode cX6_start 1 = .ok (.iconst 0, 1) := by decide +kernel
theorem dX6_start_2 : decode cX6_start 2 = .ok (.putfield 72, 3) := by decide +kernel
theorem dX6_start_5 : decode cX6_start 5 = .ok (.aload_n 0, 1) := by decide +kernel
theorem dX6_start_6 : decode cX6_start 6 = .ok (.iconst 0, 1) := by decide +kernel
theorem dX6_start_7 : decode cX6_start 7 = .ok (.putfield 75, 3) := by decide +kernel
theorem dX6_start_10 : decode cX6_start 10 = .ok (.aload_n 0, 1) := by decide +kernel
theorem dX6_start_11 : decode cX6_start 11 = .ok (.iconst (-1), 1) := by decide +kernel
theorem dX6_start_12 : decode cX6_start 12 = .ok (.putfield 78, 3) := by decide +kernel
theorem dX6_start_15 : decode cX6_start 15 = .ok (.aload_n 0, 1) := by decide +kernel
theorem dX6_start_16 : decode cX6_start 16 = .ok (.iconst 0, 1) := by decide +kernel
theorem dX6_start_17 : decode cX6_start 17 = .ok (.putfield 81, 3) := by decide +kernel
theorem dX6_start_20 : decode cX6_start 20 = .ok (.aload_n 0, 1) := by decide +kernel
theorem dX6_start_21 : decode cX6_start 21 = .ok (.iconst 0, 1) := by decide +kernel
theorem dX6_start_22 : decode cX6_start 22 = .ok (.putfield 84, 3) := by decide +kernel
theorem dX6_start_25 : decode cX6_start 25 = .ok (.aload_n 0, 1) := by decide +kernel
theorem dX6_start_26 : decode cX6_start 26 = .ok (.iconst 0, 1) := by decide +kernel
theorem dX6_start_27 : decode cX6_start 27 = .ok (.putfield 87, 3) := by decide +kernel
theorem dX6_start_30 : decode cX6_start 30 = .ok (.aload_n 0, 1) := by decide +kernel
theorem dX6_start_31 : decode cX6_start 31 = .ok (.iconst 0, 1) := by decide +kernel
theorem dX6_start_32 : decode cX6_start 32 = .ok (.putfield 90, 3) := by decide +kernel
theorem dX6_start_35 : decode cX6_start 35 = .ok (.aload_n 0, 1) := by decide +kernel
theorem dX6_start_36 : decode cX6_start 36 = .ok (.iconst 0, 1) := by decide +kernel
theorem dX6_start_37 : decode cX6_start 37 = .ok (.putfield 93, 3) := by decide +kernel
theorem dX6_start_40 : decode cX6_start 40 = .ok (.aload_n 0, 1) := by decide +kernel
theorem dX6_start_41 : decode cX6_start 41 = .ok (.iconst 0, 1) := by decide +kernel
theorem dX6_start_42 : decode cX6_start 42 = .ok (.putfield 62, 3) := by decide +kernel
theorem dX6_start_45 : decode cX6_start 45 = .ok (.aload_n 0, 1) := by decide +kernel
theorem dX6_start_46 : decode cX6_start 46 = .ok (.iconst 0, 1) := by decide +kernel
theorem dX6_start_47 : decode cX6_start 47 = .ok (.putfield 96, 3) := by decide +kernel
theorem dX6_start_50 : decode cX6_start 50 = .ok (.aload_n 0, 1) := by decide +kernel
theorem dX6_start_51 : decode cX6_start 51 = .ok (.iconst 0, 1) := by decide +kernel
theorem dX6_start_52 : decode cX6_start 52 = .ok (.putfield 99, 3) := by decide +kernel
theorem dX6_start_55 : decode cX6_start 55 = .ok (.aload_n 0, 1) := by decide +kernel
theorem dX6_start_56 : decode cX6_start 56 = .ok (.getfield 9, 3) := by decide +kernel
theorem dX6_start_59 : decode cX6_start 59 = .ok (.invokevirtual 102, 3) := by decide +kernel
theorem dX6_start_62 : decode cX6_start 62 = .ok (.return_, 1) := by decide +kernel
theorem dX6_fail_0 : decode cX6_fail 0 = .ok (.aload_n 0, 1) := by decide +kernel
theorem dX6_fail_1 : decode cX6_fail 1 = .ok (.iload_n 1, 1) := by decide +kernel
theorem dX6_fail_2 : decode cX6_fail 2 = .ok (.putfield 75, 3) := by decide +kernel
theorem dX6_fail_5 : decode cX6_fail 5 = .ok (.aload_n 0, 1) := by decide +kernel
theorem dX6_fail_6 : decode cX6_fail 6 = .ok (.aload_n 0, 1) := by decide +kernel
theorem dX6_fail_7 : decode cX6_fail 7 = .ok (.getfield 9, 3) := by decide +kernel
theorem dX6_fail_10 : decode cX6_fail 10 = .ok (.getfield 111, 3) := by decide +kernel
theorem dX6_fail_13 : decode cX6_fail 13 = .ok (.putfield 78, 3) := by decide +kernel
theorem dX6_fail_16 : decode cX6_fail 16 = .ok (.iconst 0, 1) := by decide +kernel
theorem dX6_fail_17 : decode cX6_fail 17 = .ok (.ireturn, 1) := by decide +kernel
theorem dX6_refuse_0 : decode cX6_refuse 0 = .ok (.aload_n 0, 1) := by decide +kernel
theorem dX6_refuse_1 : decode cX6_refuse 1 = .ok (.aload_n 0, 1) := by decide +kernel
theorem dX6_refuse_2 : decode cX6_refuse 2 = .ok (.getfield 9, 3) := by decide +kernel
theorem dX6_refuse_5 : decode cX6_refuse 5 = .ok (.getfield 45, 3) := by decide +kernel
theorem dX6_refuse_8 : decode cX6_refuse 8 = .ok (.iconst 1, 1) := by decide +kernel
theorem dX6_refuse_9 : decode cX6_refuse 9 = .ok (.if_icmp .ne 7, 3) := by decide +kernel
theorem dX6_refuse_16 : decode cX6_refuse 16 = .ok (.iconst 1, 1) := by decide +kernel
theorem dX6_refuse_17 : decode cX6_refuse 17 = .ok (.invokevirtual 112, 3) := by decide +kernel
theorem dX6_refuse_20 : decode cX6_refuse 20 = .ok (.ireturn, 1) := by decide +kernel
theorem dX6_readSet_0 : decode cX6_readSet 0 = .ok (.aload_n 0, 1) := by decide +kernel
theorem dX6_readSet_1 : decode cX6_readSet 1 = .ok (.getfield 9, 3) := by decide +kernel
theorem dX6_readSet_4 : decode cX6_readSet 4 = .ok (.getfield 45, 3) := by decide +kernel
theorem dX6_readSet_7 : decode cX6_readSet 7 = .ok (.istore_n 2, 1) := by decide +kernel
theorem dX6_readSet_8 : decode cX6_readSet 8 = .ok (.iload_n 2, 1) := by decide +kernel
theorem dX6_readSet_9 : decode cX6_readSet 9 = .ok (.bipush 30, 2) := by decide +kernel
theorem dX6_readSet_11 : decode cX6_readSet 11 = .ok (.if_icmp .eq 38, 3) := by decide +kernel
theorem dX6_readSet_14 : decode cX6_readSet 14 = .ok (.iload_n 2, 1) := by decide +kernel
theorem dX6_readSet_15 : decode cX6_readSet 15 = .ok (.bipush 31, 2) := by decide +kernel
theorem dX6_readSet_17 : decode cX6_readSet 17 = .ok (.if_icmp .eq 32, 3) := by decide +kernel
theorem dX6_readSet_20 : decode cX6_readSet 20 = .ok (.iload_n 2, 1) := by decide +kernel
theorem dX6_readSet_21 : decode cX6_readSet 21 = .ok (.bipush 32, 2) := by decide +kernel
theorem dX6_readSet_23 : decode cX6_readSet 23 = .ok (.if_icmp .eq 26, 3) := by decide +kernel
theorem dX6_readSet_26 : decode cX6_readSet 26 = .ok (.iload_n 2, 1) := by decide +kernel
theorem dX6_readSet_27 : decode cX6_readSet 27 = .ok (.bipush 55, 2) := by decide +kernel
theorem dX6_readSet_29 : decode cX6_readSet 29 = .ok (.if_icmp .eq 20, 3) := by decide +kernel
theorem dX6_readSet_32 : decode cX6_readSet 32 = .ok (.iload_n 2, 1) := by decide +kernel
theorem dX6_readSet_33 : decode cX6_readSet 33 = .ok (.bipush 56, 2) := by decide +kernel
theorem dX6_readSet_35 : decode cX6_readSet 35 = .ok (.if_icmp .eq 14, 3) := by decide +kernel
theorem dX6_readSet_38 : decode cX6_readSet 38 = .ok (.iload_n 2, 1) := by decide +kernel
theorem dX6_readSet_39 : decode cX6_readSet 39 = .ok (.bipush 57, 2) := by decide +kernel
theorem dX6_readSet_41 : decode cX6_readSet 41 = .ok (.if_icmp .eq 8, 3) := by decide +kernel
theorem dX6_readSet_44 : decode cX6_readSet 44 = .ok (.aload_n 0, 1) := by decide +kernel
theorem dX6_readSet_45 : decode cX6_readSet 45 = .ok (.invokevirtual 51, 3) := by decide +kernel
theorem dX6_readSet_48 : decode cX6_readSet 48 = .ok (.ireturn, 1) := by decide +kernel
theorem dX6_readE_0 : decode cX6_readE 0 = .ok (.aload_n 0, 1) := by decide +kernel
theorem dX6_readE_1 : decode cX6_readE 1 = .ok (.invokevirtual 128, 3) := by decide +kernel
theorem dX6_readE_4 : decode cX6_readE 4 = .ok (.ifCond .ne 5, 3) := by decide +kernel
theorem dX6_readE_7 : decode cX6_readE 7 = .ok (.iconst 0, 1) := by decide +kernel
theorem dX6_readE_8 : decode cX6_readE 8 = .ok (.ireturn, 1) := by decide +kernel
theorem dX6_readAnds_0 : decode cX6_readAnds 0 = .ok (.aload_n 0, 1) := by decide +kernel
theorem dX6_readAnds_1 : decode cX6_readAnds 1 = .ok (.invokevirtual 131, 3) := by decide +kernel
theorem dX6_readAnds_4 : decode cX6_readAnds 4 = .ok (.ifCond .ne 5, 3) := by decide +kernel
theorem dX6_readAnds_7 : decode cX6_readAnds 7 = .ok (.iconst 0, 1) := by decide +kernel
theorem dX6_readAnds_8 : decode cX6_readAnds 8 = .ok (.ireturn, 1) := by decide +kernel
theorem dX6_readNots_0 : decode cX6_readNots 0 = .ok (.iconst 0, 1) := by decide +kernel
theorem dX6_readNots_1 : decode cX6_readNots 1 = .ok (.istore_n 1, 1) := by decide +kernel
theorem dX6_readNots_2 : decode cX6_readNots 2 = .ok (.aload_n 0, 1) := by decide +kernel
theorem dX6_readNots_3 : decode cX6_readNots 3 = .ok (.getfield 9, 3) := by decide +kernel
theorem dX6_readNots_6 : decode cX6_readNots 6 = .ok (.getfield 45, 3) := by decide +kernel
theorem dX6_readNots_9 : decode cX6_readNots 9 = .ok (.bipush 38, 2) := by decide +kernel
theorem dX6_readNots_11 : decode cX6_readNots 11 = .ok (.if_icmp .ne 31, 3) := by decide +kernel
theorem dX6_readNots_42 : decode cX6_readNots 42 = .ok (.aload_n 0, 1) := by decide +kernel
theorem dX6_readNots_43 : decode cX6_readNots 43 = .ok (.invokevirtual 134, 3) := by decide +kernel
theorem dX6_readNots_46 : decode cX6_readNots 46 = .ok (.ifCond .ne 5, 3) := by decide +kernel
theorem dX6_readNots_49 : decode cX6_readNots 49 = .ok (.iconst 0, 1) := by decide +kernel
theorem dX6_readNots_50 : decode cX6_readNots 50 = .ok (.ireturn, 1) := by decide +kernel
theorem dX6_readComparison_0 : decode cX6_readComparison 0 = .ok (.aload_n 0, 1) := by decide +kernel
theorem dX6_readComparison_1 : decode cX6_readComparison 1 = .ok (.invokevirtual 137, 3) := by decide +kernel
theorem dX6_readComparison_4 : decode cX6_readComparison 4 = .ok (.ifCond .ne 5, 3) := by decide +kernel
theorem dX6_readComparison_7 : decode cX6_readComparison 7 = .ok (.iconst 0, 1) := by decide +kernel
theorem dX6_readComparison_8 : decode cX6_readComparison 8 = .ok (.ireturn, 1) := by decide +kernel
theorem dX6_readSums_0 : decode cX6_readSums 0 = .ok (.aload_n 0, 1) := by decide +kernel
theorem dX6_readSums_1 : decode cX6_readSums 1 = .ok (.invokevirtual 144, 3) := by decide +kernel
theorem dX6_readSums_4 : decode cX6_readSums 4 = .ok (.ifCond .ne 5, 3) := by decide +kernel
theorem dX6_readSums_7 : decode cX6_readSums 7 = .ok (.iconst 0, 1) := by decide +kernel
theorem dX6_readSums_8 : decode cX6_readSums 8 = .ok (.ireturn, 1) := by decide +kernel
theorem dX6_readProducts_0 : decode cX6_readProducts 0 = .ok (.aload_n 0, 1) := by decide +kernel
theorem dX6_readProducts_1 : decode cX6_readProducts 1 = .ok (.invokevirtual 147, 3) := by decide +kernel
theorem dX6_readProducts_4 : decode cX6_readProducts 4 = .ok (.ifCond .ne 5, 3) := by decide +kernel
theorem dX6_readProducts_7 : decode cX6_readProducts 7 = .ok (.iconst 0, 1) := by decide +kernel
theorem dX6_readProducts_8 : decode cX6_readProducts 8 = .ok (.ireturn, 1) := by decide +kernel
theorem dX6_readSigned_0 : decode cX6_readSigned 0 = .ok (.iconst 0, 1) := by decide +kernel
theorem dX6_readSigned_1 : decode cX6_readSigned 1 = .ok (.istore_n 1, 1) := by decide +kernel
theorem dX6_readSigned_2 : decode cX6_readSigned 2 = .ok (.aload_n 0, 1) := by decide +kernel
theorem dX6_readSigned_3 : decode cX6_readSigned 3 = .ok (.getfield 9, 3) := by decide +kernel
theorem dX6_readSigned_6 : decode cX6_readSigned 6 = .ok (.getfield 45, 3) := by decide +kernel
theorem dX6_readSigned_9 : decode cX6_readSigned 9 = .ok (.bipush 16, 2) := by decide +kernel
theorem dX6_readSigned_11 : decode cX6_readSigned 11 = .ok (.if_icmp .ne 31, 3) := by decide +kernel
theorem dX6_readSigned_42 : decode cX6_readSigned 42 = .ok (.aload_n 0, 1) := by decide +kernel
theorem dX6_readSigned_43 : decode cX6_readSigned 43 = .ok (.invokevirtual 125, 3) := by decide +kernel
theorem dX6_readSigned_46 : decode cX6_readSigned 46 = .ok (.ifCond .ne 5, 3) := by decide +kernel
theorem dX6_readSigned_49 : decode cX6_readSigned 49 = .ok (.iconst 0, 1) := by decide +kernel
theorem dX6_readSigned_50 : decode cX6_readSigned 50 = .ok (.ireturn, 1) := by decide +kernel
theorem dX6_readP_0 : decode cX6_readP 0 = .ok (.aload_n 0, 1) := by decide +kernel
theorem dX6_readP_1 : decode cX6_readP 1 = .ok (.getfield 99, 3) := by decide +kernel
theorem dX6_readP_4 : decode cX6_readP 4 = .ok (.istore_n 1, 1) := by decide +kernel
theorem dX6_readP_5 : decode cX6_readP 5 = .ok (.iconst 0, 1) := by decide +kernel
theorem dX6_readP_6 : decode cX6_readP 6 = .ok (.istore_n 2, 1) := by decide +kernel
theorem dX6_readP_7 : decode cX6_readP 7 = .ok (.iload_n 2, 1) := by decide +kernel
theorem dX6_readP_8 : decode cX6_readP 8 = .ok (.bipush 120, 2) := by decide +kernel
theorem dX6_readP_10 : decode cX6_readP 10 = .ok (.if_icmp .gt 81, 3) := by decide +kernel
theorem dX6_readP_13 : decode cX6_readP 13 = .ok (.aload_n 0, 1) := by decide +kernel
theorem dX6_readP_14 : decode cX6_readP 14 = .ok (.getfield 9, 3) := by decide +kernel
theorem dX6_readP_17 : decode cX6_readP 17 = .ok (.getfield 45, 3) := by decide +kernel
theorem dX6_readP_20 : decode cX6_readP 20 = .ok (.bipush 50, 2) := by decide +kernel
theorem dX6_readP_22 : decode cX6_readP 22 = .ok (.if_icmp .lt 69, 3) := by decide +kernel
theorem dX6_readP_91 : decode cX6_readP 91 = .ok (.aload_n 0, 1) := by decide +kernel
theorem dX6_readP_92 : decode cX6_readP 92 = .ok (.invokevirtual 150, 3) := by decide +kernel
theorem dX6_readP_95 : decode cX6_readP 95 = .ok (.ifCond .eq 10, 3) := by decide +kernel
theorem dX6_readP_105 : decode cX6_readP 105 = .ok (.iconst 0, 1) := by decide +kernel
theorem dX6_readP_106 : decode cX6_readP 106 = .ok (.ireturn, 1) := by decide +kernel
theorem dX6_readAtom_0 : decode cX6_readAtom 0 = .ok (.aload_n 0, 1) := by decide +kernel
theorem dX6_readAtom_1 : decode cX6_readAtom 1 = .ok (.getfield 9, 3) := by decide +kernel
theorem dX6_readAtom_4 : decode cX6_readAtom 4 = .ok (.getfield 45, 3) := by decide +kernel
theorem dX6_readAtom_7 : decode cX6_readAtom 7 = .ok (.lookupswitch 149 #[(2, 134), (3, 73), (4, 144), (33, 139), (39, 87), (40, 95), (41, 103), (58, 111)], 73) := by decide +kernel
theorem dX6_readAtom_156 : decode cX6_readAtom 156 = .ok (.aload_n 0, 1) := by decide +kernel
theorem dX6_readAtom_157 : decode cX6_readAtom 157 = .ok (.getfield 9, 3) := by decide +kernel
theorem dX6_readAtom_160 : decode cX6_readAtom 160 = .ok (.getfield 45, 3) := by decide +kernel
theorem dX6_readAtom_163 : decode cX6_readAtom 163 = .ok (.bipush 44, 2) := by decide +kernel
theorem dX6_readAtom_165 : decode cX6_readAtom 165 = .ok (.if_icmp .lt 22, 3) := by decide +kernel
theorem dX6_readAtom_187 : decode cX6_readAtom 187 = .ok (.aload_n 0, 1) := by decide +kernel
theorem dX6_readAtom_188 : decode cX6_readAtom 188 = .ok (.invokevirtual 51, 3) := by decide +kernel
theorem dX6_readAtom_191 : decode cX6_readAtom 191 = .ok (.ireturn, 1) := by decide +kernel
theorem dX7_init_0 : decode cX7_init 0 = .ok (.aload_n 0, 1) := by decide +kernel
theorem dX7_init_1 : decode cX7_init 1 = .ok (.invokespecial 3, 3) := by decide +kernel
theorem dX7_init_4 : decode cX7_init 4 = .ok (.aload_n 0, 1) := by decide +kernel
theorem dX7_init_5 : decode cX7_init 5 = .ok (.aload_n 1, 1) := by decide +kernel
theorem dX7_init_6 : decode cX7_init 6 = .ok (.putfield 9, 3) := by decide +kernel
theorem dX7_init_9 : decode cX7_init 9 = .ok (.aload_n 0, 1) := by decide +kernel
theorem dX7_init_10 : decode cX7_init 10 = .ok (.ldc 15, 2) := by decide +kernel
theorem dX7_init_12 : decode cX7_init 12 = .ok (.invokestatic 17, 3) := by decide +kernel
theorem dX7_init_15 : decode cX7_init 15 = .ok (.putfield 23, 3) := by decide +kernel
theorem dX7_init_18 : decode cX7_init 18 = .ok (.aload_n 0, 1) := by decide +kernel
theorem dX7_init_19 : decode cX7_init 19 = .ok (.ldc 27, 2) := by decide +kernel
theorem dX7_init_21 : decode cX7_init 21 = .ok (.invokestatic 17, 3) := by decide +kernel
theorem dX7_init_24 : decode cX7_init 24 = .ok (.putfield 29, 3) := by decide +kernel
theorem dX7_init_27 : decode cX7_init 27 = .ok (.aload_n 0, 1) := by decide +kernel
theorem dX7_init_28 : decode cX7_init 28 = .ok (.bipush 12, 2) := by decide +kernel
theorem dX7_init_30 : decode cX7_init 30 = .ok (.newarray .int, 2) := by decide +kernel
theorem dX7_init_32 : decode cX7_init 32 = .ok (.putfield 32, 3) := by decide +kernel
theorem dX7_init_35 : decode cX7_init 35 = .ok (.aload_n 0, 1) := by decide +kernel
theorem dX7_init_36 : decode cX7_init 36 = .ok (.bipush 12, 2) := by decide +kernel
theorem dX7_init_38 : decode cX7_init 38 = .ok (.newarray .int, 2) := by decide +kernel
theorem dX7_init_40 : decode cX7_init 40 = .ok (.putfield 36, 3) := by decide +kernel
theorem dX7_init_43 : decode cX7_init 43 = .ok (.aload_n 0, 1) := by decide +kernel
theorem dX7_init_44 : decode cX7_init 44 = .ok (.bipush 12, 2) := by decide +kernel
theorem dX7_init_46 : decode cX7_init 46 = .ok (.newarray .int, 2) := by decide +kernel
theorem dX7_init_48 : decode cX7_init 48 = .ok (.putfield 39, 3) := by decide +kernel
theorem dX7_init_51 : decode cX7_init 51 = .ok (.aload_n 0, 1) := by decide +kernel
theorem dX7_init_52 : decode cX7_init 52 = .ok (.bipush 12, 2) := by decide +kernel
theorem dX7_init_54 : decode cX7_init 54 = .ok (.newarray .int, 2) := by decide +kernel
theorem dX7_init_56 : decode cX7_init 56 = .ok (.putfield 42, 3) := by decide +kernel
theorem dX7_init_59 : decode cX7_init 59 = .ok (.aload_n 0, 1) := by decide +kernel
theorem dX7_init_60 : decode cX7_init 60 = .ok (.bipush 12, 2) := by decide +kernel
theorem dX7_init_62 : decode cX7_init 62 = .ok (.newarray .int, 2) := by decide +kernel
theorem dX7_init_64 : decode cX7_init 64 = .ok (.putfield 45, 3) := by decide +kernel
theorem dX7_init_67 : decode cX7_init 67 = .ok (.aload_n 0, 1) := by decide +kernel
theorem dX7_init_68 : decode cX7_init 68 = .ok (.bipush 48, 2) := by decide +kernel
theorem dX7_init_70 : decode cX7_init 70 = .ok (.newarray .int, 2) := by decide +kernel
theorem dX7_init_72 : decode cX7_init 72 = .ok (.putfield 48, 3) := by decide +kernel
theorem dX7_init_75 : decode cX7_init 75 = .ok (.aload_n 0, 1) := by decide +kernel
theorem dX7_init_76 : decode cX7_init 76 = .ok (.bipush 48, 2) := by decide +kernel
theorem dX7_init_78 : decode cX7_init 78 = .ok (.newarray .int, 2) := by decide +kernel
theorem dX7_init_80 : decode cX7_init 80 = .ok (.putfield 51, 3) := by decide +kernel
theorem dX7_init_83 : decode cX7_init 83 = .ok (.aload_n 0, 1) := by decide +kernel
theorem dX7_init_84 : decode cX7_init 84 = .ok (.bipush 48, 2) := by decide +kernel
theorem dX7_init_86 : decode cX7_init 86 = .ok (.newarray .int, 2) := by decide +kernel
theorem dX7_init_88 : decode cX7_init 88 = .ok (.putfield 54, 3) := by decide +kernel
theorem dX7_init_91 : decode cX7_init 91 = .ok (.aload_n 0, 1) := by decide +kernel
theorem dX7_init_92 : decode cX7_init 92 = .ok (.bipush 48, 2) := by decide +kernel
theorem dX7_init_94 : decode cX7_init 94 = .ok (.newarray .long, 2) := by decide +kernel
theorem dX7_init_96 : decode cX7_init 96 = .ok (.putfield 57, 3) := by decide +kernel
theorem dX7_init_99 : decode cX7_init 99 = .ok (.aload_n 0, 1) := by decide +kernel
theorem dX7_init_100 : decode cX7_init 100 = .ok (.iconst 3, 1) := by decide +kernel
theorem dX7_init_101 : decode cX7_init 101 = .ok (.newarray .long, 2) := by decide +kernel
theorem dX7_init_103 : decode cX7_init 103 = .ok (.putfield 61, 3) := by decide +kernel
theorem dX7_init_106 : decode cX7_init 106 = .ok (.aload_n 0, 1) := by decide +kernel
theorem dX7_init_107 : decode cX7_init 107 = .ok (.bipush 6, 2) := by decide +kernel
theorem dX7_init_109 : decode cX7_init 109 = .ok (.newarray .long, 2) := by decide +kernel
theorem dX7_init_111 : decode cX7_init 111 = .ok (.putfield 64, 3) := by decide +kernel
theorem dX7_init_114 : decode cX7_init 114 = .ok (.aload_n 0, 1) := by decide +kernel
theorem dX7_init_115 : decode cX7_init 115 = .ok (.bipush 6, 2) := by decide +kernel
theorem dX7_init_117 : decode cX7_init 117 = .ok (.newarray .int, 2) := by decide +kernel
theorem dX7_init_119 : decode cX7_init 119 = .ok (.putfield 67, 3) := by decide +kernel
theorem dX7_init_122 : decode cX7_init 122 = .ok (.return_, 1) := by decide +kernel
theorem dX7_readAll_0 : decode cX7_readAll 0 = .ok (.aload_n 0, 1) := by decide +kernel
theorem dX7_readAll_1 : decode cX7_readAll 1 = .ok (.iconst 0, 1) := by decide +kernel
theorem dX7_readAll_2 : decode cX7_readAll 2 = .ok (.putfield 70, 3) := by decide +kernel
theorem dX7_readAll_5 : decode cX7_readAll 5 = .ok (.aload_n 0, 1) := by decide +kernel
theorem dX7_readAll_6 : decode cX7_readAll 6 = .ok (.iconst 0, 1) := by decide +kernel
theorem dX7_readAll_7 : decode cX7_readAll 7 = .ok (.putfield 74, 3) := by decide +kernel
theorem dX7_readAll_10 : decode cX7_readAll 10 = .ok (.aload_n 0, 1) := by decide +kernel
theorem dX7_readAll_11 : decode cX7_readAll 11 = .ok (.iconst 0, 1) := by decide +kernel
theorem dX7_readAll_12 : decode cX7_readAll 12 = .ok (.putfield 77, 3) := by decide +kernel
theorem dX7_readAll_15 : decode cX7_readAll 15 = .ok (.aload_n 0, 1) := by decide +kernel
theorem dX7_readAll_16 : decode cX7_readAll 16 = .ok (.iconst (-1), 1) := by decide +kernel
theorem dX7_readAll_17 : decode cX7_readAll 17 = .ok (.putfield 80, 3) := by decide +kernel
theorem dX7_readAll_20 : decode cX7_readAll 20 = .ok (.aload_n 0, 1) := by decide +kernel
theorem dX7_readAll_21 : decode cX7_readAll 21 = .ok (.getfield 9, 3) := by decide +kernel
theorem dX7_readAll_24 : decode cX7_readAll 24 = .ok (.invokevirtual 83, 3) := by decide +kernel
theorem dX7_readAll_27 : decode cX7_readAll 27 = .ok (.iconst 0, 1) := by decide +kernel
theorem dX7_readAll_28 : decode cX7_readAll 28 = .ok (.istore_n 1, 1) := by decide +kernel
theorem dX7_readAll_29 : decode cX7_readAll 29 = .ok (.iload_n 1, 1) := by decide +kernel
theorem dX7_readAll_30 : decode cX7_readAll 30 = .ok (.bipush 12, 2) := by decide +kernel
theorem dX7_readAll_32 : decode cX7_readAll 32 = .ok (.if_icmp .gt 38, 3) := by decide +kernel
theorem dX7_readAll_35 : decode cX7_readAll 35 = .ok (.aload_n 0, 1) := by decide +kernel
theorem dX7_readAll_36 : decode cX7_readAll 36 = .ok (.getfield 9, 3) := by decide +kernel
theorem dX7_readAll_39 : decode cX7_readAll 39 = .ok (.getfield 86, 3) := by decide +kernel
theorem dX7_readAll_42 : decode cX7_readAll 42 = .ok (.ifCond .eq 28, 3) := by decide +kernel
theorem dX7_readAll_70 : decode cX7_readAll 70 = .ok (.iconst 1, 1) := by decide +kernel
theorem dX7_readAll_71 : decode cX7_readAll 71 = .ok (.ireturn, 1) := by decide +kernel
theorem dX8_init_0 : decode cX8_init 0 = .ok (.aload_n 0, 1) := by decide +kernel
theorem dX8_init_1 : decode cX8_init 1 = .ok (.invokespecial 3, 3) := by decide +kernel
theorem dX8_init_4 : decode cX8_init 4 = .ok (.aload_n 0, 1) := by decide +kernel
theorem dX8_init_5 : decode cX8_init 5 = .ok (.aload_n 1, 1) := by decide +kernel
theorem dX8_init_6 : decode cX8_init 6 = .ok (.putfield 9, 3) := by decide +kernel
theorem dX8_init_9 : decode cX8_init 9 = .ok (.aload_n 0, 1) := by decide +kernel
theorem dX8_init_10 : decode cX8_init 10 = .ok (.sipush 401, 3) := by decide +kernel
theorem dX8_init_13 : decode cX8_init 13 = .ok (.newarray .int, 2) := by decide +kernel
theorem dX8_init_15 : decode cX8_init 15 = .ok (.putfield 17, 3) := by decide +kernel
theorem dX8_init_18 : decode cX8_init 18 = .ok (.aload_n 0, 1) := by decide +kernel
theorem dX8_init_19 : decode cX8_init 19 = .ok (.sipush 4108, 3) := by decide +kernel
theorem dX8_init_22 : decode cX8_init 22 = .ok (.newarray .int, 2) := by decide +kernel
theorem dX8_init_24 : decode cX8_init 24 = .ok (.putfield 21, 3) := by decide +kernel
theorem dX8_init_27 : decode cX8_init 27 = .ok (.aload_n 0, 1) := by decide +kernel
theorem dX8_init_28 : decode cX8_init 28 = .ok (.sipush 4108, 3) := by decide +kernel
theorem dX8_init_31 : decode cX8_init 31 = .ok (.newarray .int, 2) := by decide +kernel
theorem dX8_init_33 : decode cX8_init 33 = .ok (.putfield 24, 3) := by decide +kernel
theorem dX8_init_36 : decode cX8_init 36 = .ok (.aload_n 0, 1) := by decide +kernel
theorem dX8_init_37 : decode cX8_init 37 = .ok (.sipush 400, 3) := by decide +kernel
theorem dX8_init_40 : decode cX8_init 40 = .ok (.newarray .int, 2) := by decide +kernel
theorem dX8_init_42 : decode cX8_init 42 = .ok (.putfield 27, 3) := by decide +kernel
theorem dX8_init_45 : decode cX8_init 45 = .ok (.aload_n 0, 1) := by decide +kernel
theorem dX8_init_46 : decode cX8_init 46 = .ok (.sipush 400, 3) := by decide +kernel
theorem dX8_init_49 : decode cX8_init 49 = .ok (.newarray .int, 2) := by decide +kernel
theorem dX8_init_51 : decode cX8_init 51 = .ok (.putfield 30, 3) := by decide +kernel
theorem dX8_init_54 : decode cX8_init 54 = .ok (.aload_n 0, 1) := by decide +kernel
theorem dX8_init_55 : decode cX8_init 55 = .ok (.sipush 400, 3) := by decide +kernel
theorem dX8_init_58 : decode cX8_init 58 = .ok (.newarray .int, 2) := by decide +kernel
theorem dX8_init_60 : decode cX8_init 60 = .ok (.putfield 33, 3) := by decide +kernel
theorem dX8_init_63 : decode cX8_init 63 = .ok (.aload_n 0, 1) := by decide +kernel
theorem dX8_init_64 : decode cX8_init 64 = .ok (.sipush 400, 3) := by decide +kernel
theorem dX8_init_67 : decode cX8_init 67 = .ok (.newarray .int, 2) := by decide +kernel
theorem dX8_init_69 : decode cX8_init 69 = .ok (.putfield 36, 3) := by decide +kernel
theorem dX8_init_72 : decode cX8_init 72 = .ok (.aload_n 0, 1) := by decide +kernel
theorem dX8_init_73 : decode cX8_init 73 = .ok (.sipush 400, 3) := by decide +kernel
theorem dX8_init_76 : decode cX8_init 76 = .ok (.newarray .int, 2) := by decide +kernel
theorem dX8_init_78 : decode cX8_init 78 = .ok (.putfield 39, 3) := by decide +kernel
theorem dX8_init_81 : decode cX8_init 81 = .ok (.aload_n 0, 1) := by decide +kernel
theorem dX8_init_82 : decode cX8_init 82 = .ok (.sipush 400, 3) := by decide +kernel
theorem dX8_init_85 : decode cX8_init 85 = .ok (.newarray .int, 2) := by decide +kernel
theorem dX8_init_87 : decode cX8_init 87 = .ok (.putfield 42, 3) := by decide +kernel
theorem dX8_init_90 : decode cX8_init 90 = .ok (.aload_n 0, 1) := by decide +kernel
theorem dX8_init_91 : decode cX8_init 91 = .ok (.sipush 400, 3) := by decide +kernel
theorem dX8_init_94 : decode cX8_init 94 = .ok (.newarray .int, 2) := by decide +kernel
theorem dX8_init_96 : decode cX8_init 96 = .ok (.putfield 45, 3) := by decide +kernel
theorem dX8_init_99 : decode cX8_init 99 = .ok (.aload_n 0, 1) := by decide +kernel
theorem dX8_init_100 : decode cX8_init 100 = .ok (.sipush 400, 3) := by decide +kernel
theorem dX8_init_103 : decode cX8_init 103 = .ok (.newarray .int, 2) := by decide +kernel
theorem dX8_init_105 : decode cX8_init 105 = .ok (.putfield 48, 3) := by decide +kernel
theorem dX8_init_108 : decode cX8_init 108 = .ok (.aload_n 0, 1) := by decide +kernel
theorem dX8_init_109 : decode cX8_init 109 = .ok (.sipush 400, 3) := by decide +kernel
theorem dX8_init_112 : decode cX8_init 112 = .ok (.newarray .int, 2) := by decide +kernel
theorem dX8_init_114 : decode cX8_init 114 = .ok (.putfield 51, 3) := by decide +kernel
theorem dX8_init_117 : decode cX8_init 117 = .ok (.aload_n 0, 1) := by decide +kernel
theorem dX8_init_118 : decode cX8_init 118 = .ok (.sipush 400, 3) := by decide +kernel
theorem dX8_init_121 : decode cX8_init 121 = .ok (.newarray .int, 2) := by decide +kernel
theorem dX8_init_123 : decode cX8_init 123 = .ok (.putfield 54, 3) := by decide +kernel
theorem dX8_init_126 : decode cX8_init 126 = .ok (.aload_n 0, 1) := by decide +kernel
theorem dX8_init_127 : decode cX8_init 127 = .ok (.sipush 512, 3) := by decide +kernel
theorem dX8_init_130 : decode cX8_init 130 = .ok (.newarray .int, 2) := by decide +kernel
theorem dX8_init_132 : decode cX8_init 132 = .ok (.putfield 57, 3) := by decide +kernel
theorem dX8_init_135 : decode cX8_init 135 = .ok (.return_, 1) := by decide +kernel
theorem dX8_needRings_0 : decode cX8_needRings 0 = .ok (.aload_n 0, 1) := by decide +kernel
theorem dX8_needRings_1 : decode cX8_needRings 1 = .ok (.getfield 60, 3) := by decide +kernel
theorem dX8_needRings_4 : decode cX8_needRings 4 = .ok (.iconst 4, 1) := by decide +kernel
theorem dX8_needRings_5 : decode cX8_needRings 5 = .ok (.iand, 1) := by decide +kernel
theorem dX8_needRings_6 : decode cX8_needRings 6 = .ok (.ifCond .eq 4, 3) := by decide +kernel
theorem dX8_needRings_10 : decode cX8_needRings 10 = .ok (.aload_n 0, 1) := by decide +kernel
theorem dX8_needRings_11 : decode cX8_needRings 11 = .ok (.dup, 1) := by decide +kernel
theorem dX8_needRings_12 : decode cX8_needRings 12 = .ok (.getfield 60, 3) := by decide +kernel
theorem dX8_needRings_15 : decode cX8_needRings 15 = .ok (.iconst 4, 1) := by decide +kernel
theorem dX8_needRings_16 : decode cX8_needRings 16 = .ok (.ior, 1) := by decide +kernel
theorem dX8_needRings_17 : decode cX8_needRings 17 = .ok (.putfield 60, 3) := by decide +kernel
theorem dX8_needRings_20 : decode cX8_needRings 20 = .ok (.iconst 0, 1) := by decide +kernel
theorem dX8_needRings_21 : decode cX8_needRings 21 = .ok (.istore_n 2, 1) := by decide +kernel
theorem dX8_needRings_22 : decode cX8_needRings 22 = .ok (.iload_n 2, 1) := by decide +kernel
theorem dX8_needRings_23 : decode cX8_needRings 23 = .ok (.aload_n 1, 1) := by decide +kernel
theorem dX8_needRings_24 : decode cX8_needRings 24 = .ok (.getfield 64, 3) := by decide +kernel
theorem dX8_needRings_27 : decode cX8_needRings 27 = .ok (.if_icmp .ge 35, 3) := by decide +kernel
theorem dX8_needRings_62 : decode cX8_needRings 62 = .ok (.iconst 0, 1) := by decide +kernel
theorem dX8_needRings_63 : decode cX8_needRings 63 = .ok (.istore_n 2, 1) := by decide +kernel
theorem dX8_needRings_64 : decode cX8_needRings 64 = .ok (.iconst 0, 1) := by decide +kernel
theorem dX8_needRings_65 : decode cX8_needRings 65 = .ok (.istore_n 3, 1) := by decide +kernel
theorem dX8_needRings_66 : decode cX8_needRings 66 = .ok (.iload_n 3, 1) := by decide +kernel
theorem dX8_needRings_67 : decode cX8_needRings 67 = .ok (.aload_n 1, 1) := by decide +kernel
theorem dX8_needRings_68 : decode cX8_needRings 68 = .ok (.getfield 64, 3) := by decide +kernel
theorem dX8_needRings_71 : decode cX8_needRings 71 = .ok (.if_icmp .ge 27, 3) := by decide +kernel
theorem dX8_needRings_98 : decode cX8_needRings 98 = .ok (.aload_n 0, 1) := by decide +kernel
theorem dX8_needRings_99 : decode cX8_needRings 99 = .ok (.aload_n 1, 1) := by decide +kernel
theorem dX8_needRings_100 : decode cX8_needRings 100 = .ok (.invokevirtual 123, 3) := by decide +kernel
theorem dX8_needRings_103 : decode cX8_needRings 103 = .ok (.return_, 1) := by decide +kernel
theorem dX8_numberRings_0 : decode cX8_numberRings 0 = .ok (.aload_n 0, 1) := by decide +kernel
theorem dX8_numberRings_1 : decode cX8_numberRings 1 = .ok (.getfield 45, 3) := by decide +kernel
theorem dX8_numberRings_4 : decode cX8_numberRings 4 = .ok (.iconst 0, 1) := by decide +kernel
theorem dX8_numberRings_5 : decode cX8_numberRings 5 = .ok (.aload_n 1, 1) := by decide +kernel
theorem dX8_numberRings_6 : decode cX8_numberRings 6 = .ok (.getfield 64, 3) := by decide +kernel
theorem dX8_numberRings_9 : decode cX8_numberRings 9 = .ok (.iconst 0, 1) := by decide +kernel
theorem dX8_numberRings_10 : decode cX8_numberRings 10 = .ok (.invokestatic 67, 3) := by decide +kernel
theorem dX8_numberRings_13 : decode cX8_numberRings 13 = .ok (.aload_n 0, 1) := by decide +kernel
theorem dX8_numberRings_14 : decode cX8_numberRings 14 = .ok (.getfield 51, 3) := by decide +kernel
theorem dX8_numberRings_17 : decode cX8_numberRings 17 = .ok (.iconst 0, 1) := by decide +kernel
theorem dX8_numberRings_18 : decode cX8_numberRings 18 = .ok (.aload_n 1, 1) := by decide +kernel
theorem dX8_numberRings_19 : decode cX8_numberRings 19 = .ok (.getfield 64, 3) := by decide +kernel
theorem dX8_numberRings_22 : decode cX8_numberRings 22 = .ok (.bipush (-2), 2) := by decide +kernel
theorem dX8_numberRings_24 : decode cX8_numberRings 24 = .ok (.invokestatic 67, 3) := by decide +kernel
theorem dX8_numberRings_27 : decode cX8_numberRings 27 = .ok (.iconst 0, 1) := by decide +kernel
theorem dX8_numberRings_28 : decode cX8_numberRings 28 = .ok (.istore_n 2, 1) := by decide +kernel
theorem dX8_numberRings_29 : decode cX8_numberRings 29 = .ok (.iload_n 2, 1) := by decide +kernel
theorem dX8_numberRings_30 : decode cX8_numberRings 30 = .ok (.aload_n 1, 1) := by decide +kernel
theorem dX8_numberRings_31 : decode cX8_numberRings 31 = .ok (.getfield 64, 3) := by decide +kernel
theorem dX8_numberRings_34 : decode cX8_numberRings 34 = .ok (.if_icmp .ge 24, 3) := by decide +kernel
theorem dX8_numberRings_58 : decode cX8_numberRings 58 = .ok (.aload_n 0, 1) := by decide +kernel
theorem dX8_numberRings_59 : decode cX8_numberRings 59 = .ok (.iconst 0, 1) := by decide +kernel
theorem dX8_numberRings_60 : decode cX8_numberRings 60 = .ok (.putfield 142, 3) := by decide +kernel
theorem dX8_numberRings_63 : decode cX8_numberRings 63 = .ok (.iconst 0, 1) := by decide +kernel
theorem dX8_numberRings_64 : decode cX8_numberRings 64 = .ok (.istore_n 2, 1) := by decide +kernel
theorem dX8_numberRings_65 : decode cX8_numberRings 65 = .ok (.iload_n 2, 1) := by decide +kernel
theorem dX8_numberRings_66 : decode cX8_numberRings 66 = .ok (.aload_n 1, 1) := by decide +kernel
theorem dX8_numberRings_67 : decode cX8_numberRings 67 = .ok (.getfield 64, 3) := by decide +kernel
theorem dX8_numberRings_70 : decode cX8_numberRings 70 = .ok (.if_icmp .ge 84, 3) := by decide +kernel
theorem dX8_numberRings_154 : decode cX8_numberRings 154 = .ok (.return_, 1) := by decide +kernel
theorem dX8_needTwins_0 : decode cX8_needTwins 0 = .ok (.aload_n 0, 1) := by decide +kernel
theorem dX8_needTwins_1 : decode cX8_needTwins 1 = .ok (.getfield 60, 3) := by decide +kernel
theorem dX8_needTwins_4 : decode cX8_needTwins 4 = .ok (.bipush 8, 2) := by decide +kernel
theorem dX8_needTwins_6 : decode cX8_needTwins 6 = .ok (.iand, 1) := by decide +kernel
theorem dX8_needTwins_7 : decode cX8_needTwins 7 = .ok (.ifCond .eq 4, 3) := by decide +kernel
theorem dX8_needTwins_11 : decode cX8_needTwins 11 = .ok (.aload_n 0, 1) := by decide +kernel
theorem dX8_needTwins_12 : decode cX8_needTwins 12 = .ok (.dup, 1) := by decide +kernel
theorem dX8_needTwins_13 : decode cX8_needTwins 13 = .ok (.getfield 60, 3) := by decide +kernel
theorem dX8_needTwins_16 : decode cX8_needTwins 16 = .ok (.bipush 8, 2) := by decide +kernel
theorem dX8_needTwins_18 : decode cX8_needTwins 18 = .ok (.ior, 1) := by decide +kernel
theorem dX8_needTwins_19 : decode cX8_needTwins 19 = .ok (.putfield 60, 3) := by decide +kernel
theorem dX8_needTwins_22 : decode cX8_needTwins 22 = .ok (.aload_n 0, 1) := by decide +kernel
theorem dX8_needTwins_23 : decode cX8_needTwins 23 = .ok (.getfield 57, 3) := by decide +kernel
theorem dX8_needTwins_26 : decode cX8_needTwins 26 = .ok (.iconst (-1), 1) := by decide +kernel
theorem dX8_needTwins_27 : decode cX8_needTwins 27 = .ok (.invokestatic 149, 3) := by decide +kernel
theorem dX8_needTwins_30 : decode cX8_needTwins 30 = .ok (.iconst 0, 1) := by decide +kernel
theorem dX8_needTwins_31 : decode cX8_needTwins 31 = .ok (.istore_n 2, 1) := by decide +kernel
theorem dX8_needTwins_32 : decode cX8_needTwins 32 = .ok (.iload_n 2, 1) := by decide +kernel
theorem dX8_needTwins_33 : decode cX8_needTwins 33 = .ok (.aload_n 1, 1) := by decide +kernel
theorem dX8_needTwins_34 : decode cX8_needTwins 34 = .ok (.getfield 64, 3) := by decide +kernel
theorem dX8_needTwins_37 : decode cX8_needTwins 37 = .ok (.if_icmp .ge 120, 3) := by decide +kernel
theorem dX8_needTwins_157 : decode cX8_needTwins 157 = .ok (.aload_n 0, 1) := by decide +kernel
theorem dX8_needTwins_158 : decode cX8_needTwins 158 = .ok (.iconst 0, 1) := by decide +kernel
theorem dX8_needTwins_159 : decode cX8_needTwins 159 = .ok (.putfield 159, 3) := by decide +kernel
theorem dX8_needTwins_162 : decode cX8_needTwins 162 = .ok (.iconst 0, 1) := by decide +kernel
theorem dX8_needTwins_163 : decode cX8_needTwins 163 = .ok (.istore_n 2, 1) := by decide +kernel
theorem dX8_needTwins_164 : decode cX8_needTwins 164 = .ok (.iload_n 2, 1) := by decide +kernel
theorem dX8_needTwins_165 : decode cX8_needTwins 165 = .ok (.aload_n 1, 1) := by decide +kernel
theorem dX8_needTwins_166 : decode cX8_needTwins 166 = .ok (.getfield 64, 3) := by decide +kernel
theorem dX8_needTwins_169 : decode cX8_needTwins 169 = .ok (.if_icmp .ge 81, 3) := by decide +kernel
theorem dX8_needTwins_250 : decode cX8_needTwins 250 = .ok (.return_, 1) := by decide +kernel
theorem dX9_init_0 : decode cX9_init 0 = .ok (.aload_n 0, 1) := by decide +kernel
theorem dX9_init_1 : decode cX9_init 1 = .ok (.invokespecial 3, 3) := by decide +kernel
theorem dX9_init_4 : decode cX9_init 4 = .ok (.aload_n 0, 1) := by decide +kernel
theorem dX9_init_5 : decode cX9_init 5 = .ok (.sipush 4000, 3) := by decide +kernel
theorem dX9_init_8 : decode cX9_init 8 = .ok (.newarray .int, 2) := by decide +kernel
theorem dX9_init_10 : decode cX9_init 10 = .ok (.putfield 11, 3) := by decide +kernel
theorem dX9_init_13 : decode cX9_init 13 = .ok (.aload_n 0, 1) := by decide +kernel
theorem dX9_init_14 : decode cX9_init 14 = .ok (.bipush 20, 2) := by decide +kernel
theorem dX9_init_16 : decode cX9_init 16 = .ok (.newarray .int, 2) := by decide +kernel
theorem dX9_init_18 : decode cX9_init 18 = .ok (.putfield 15, 3) := by decide +kernel
theorem dX9_init_21 : decode cX9_init 21 = .ok (.aload_n 0, 1) := by decide +kernel
theorem dX9_init_22 : decode cX9_init 22 = .ok (.sipush 4001, 3) := by decide +kernel
theorem dX9_init_25 : decode cX9_init 25 = .ok (.newarray .int, 2) := by decide +kernel
theorem dX9_init_27 : decode cX9_init 27 = .ok (.putfield 18, 3) := by decide +kernel
theorem dX9_init_30 : decode cX9_init 30 = .ok (.aload_n 0, 1) := by decide +kernel
theorem dX9_init_31 : decode cX9_init 31 = .ok (.sipush 4001, 3) := by decide +kernel
theorem dX9_init_34 : decode cX9_init 34 = .ok (.newarray .int, 2) := by decide +kernel
theorem dX9_init_36 : decode cX9_init 36 = .ok (.putfield 21, 3) := by decide +kernel
theorem dX9_init_39 : decode cX9_init 39 = .ok (.aload_n 0, 1) := by decide +kernel
theorem dX9_init_40 : decode cX9_init 40 = .ok (.sipush 4001, 3) := by decide +kernel
theorem dX9_init_43 : decode cX9_init 43 = .ok (.newarray .long, 2) := by decide +kernel
theorem dX9_init_45 : decode cX9_init 45 = .ok (.putfield 24, 3) := by decide +kernel
theorem dX9_init_48 : decode cX9_init 48 = .ok (.aload_n 0, 1) := by decide +kernel
theorem dX9_init_49 : decode cX9_init 49 = .ok (.bipush 29, 2) := by decide +kernel
theorem dX9_init_51 : decode cX9_init 51 = .ok (.newarray .long, 2) := by decide +kernel
theorem dX9_init_53 : decode cX9_init 53 = .ok (.putfield 28, 3) := by decide +kernel
theorem dX9_init_56 : decode cX9_init 56 = .ok (.iconst 0, 1) := by decide +kernel
theorem dX9_init_57 : decode cX9_init 57 = .ok (.istore_n 1, 1) := by decide +kernel
theorem dX9_init_58 : decode cX9_init 58 = .ok (.lconst 0, 1) := by decide +kernel
theorem dX9_init_59 : decode cX9_init 59 = .ok (.lstore_n 2, 1) := by decide +kernel
theorem dX9_init_60 : decode cX9_init 60 = .ok (.iconst 0, 1) := by decide +kernel
theorem dX9_init_61 : decode cX9_init 61 = .ok (.istore 4, 2) := by decide +kernel
theorem dX9_init_63 : decode cX9_init 63 = .ok (.iload 4, 2) := by decide +kernel
theorem dX9_init_65 : decode cX9_init 65 = .ok (.ldc 31, 2) := by decide +kernel
theorem dX9_init_67 : decode cX9_init 67 = .ok (.invokevirtual 33, 3) := by decide +kernel
theorem dX9_init_70 : decode cX9_init 70 = .ok (.if_icmp .ge 60, 3) := by decide +kernel
theorem dX9_init_73 : decode cX9_init 73 = .ok (.ldc 31, 2) := by decide +kernel
theorem dX9_init_75 : decode cX9_init 75 = .ok (.iload 4, 2) := by decide +kernel
theorem dX9_init_77 : decode cX9_init 77 = .ok (.invokevirtual 39, 3) := by decide +kernel
theorem dX9_init_80 : decode cX9_init 80 = .ok (.bipush 32, 2) := by decide +kernel
theorem dX9_init_82 : decode cX9_init 82 = .ok (.if_icmp .eq 24, 3) := by decide +kernel
theorem dX9_init_85 : decode cX9_init 85 = .ok (.lload_n 2, 1) := by decide +kernel
theorem dX9_init_86 : decode cX9_init 86 = .ok (.ldc2_w 43, 3) := by decide +kernel
theorem dX9_init_89 : decode cX9_init 89 = .ok (.lmul, 1) := by decide +kernel
theorem dX9_init_90 : decode cX9_init 90 = .ok (.ldc 31, 2) := by decide +kernel
theorem dX9_init_92 : decode cX9_init 92 = .ok (.iload 4, 2) := by decide +kernel
theorem dX9_init_94 : decode cX9_init 94 = .ok (.invokevirtual 39, 3) := by decide +kernel
theorem dX9_init_97 : decode cX9_init 97 = .ok (.invokestatic 45, 3) := by decide +kernel
theorem dX9_init_100 : decode cX9_init 100 = .ok (.i2l, 1) := by decide +kernel
theorem dX9_init_101 : decode cX9_init 101 = .ok (.ladd, 1) := by decide +kernel
theorem dX9_init_102 : decode cX9_init 102 = .ok (.lstore_n 2, 1) := by decide +kernel
theorem dX9_init_103 : decode cX9_init 103 = .ok (.goto 21, 3) := by decide +kernel
theorem dX9_init_106 : decode cX9_init 106 = .ok (.iload_n 1, 1) := by decide +kernel
theorem dX9_init_107 : decode cX9_init 107 = .ok (.bipush 29, 2) := by decide +kernel
theorem dX9_init_109 : decode cX9_init 109 = .ok (.if_icmp .ge 15, 3) := by decide +kernel
theorem dX9_init_112 : decode cX9_init 112 = .ok (.aload_n 0, 1) := by decide +kernel
theorem dX9_init_113 : decode cX9_init 113 = .ok (.getfield 28, 3) := by decide +kernel
theorem dX9_init_116 : decode cX9_init 116 = .ok (.iload_n 1, 1) := by decide +kernel
theorem dX9_init_117 : decode cX9_init 117 = .ok (.lload_n 2, 1) := by decide +kernel
theorem dX9_init_118 : decode cX9_init 118 = .ok (.lastore, 1) := by decide +kernel
theorem dX9_init_119 : decode cX9_init 119 = .ok (.lconst 0, 1) := by decide +kernel
theorem dX9_init_120 : decode cX9_init 120 = .ok (.lstore_n 2, 1) := by decide +kernel
theorem dX9_init_121 : decode cX9_init 121 = .ok (.iinc 1 1, 3) := by decide +kernel
theorem dX9_init_124 : decode cX9_init 124 = .ok (.iinc 4 1, 3) := by decide +kernel
theorem dX9_init_127 : decode cX9_init 127 = .ok (.goto (-64), 3) := by decide +kernel
theorem dX9_init_130 : decode cX9_init 130 = .ok (.return_, 1) := by decide +kernel
theorem dX9_putReady_0 : decode cX9_putReady 0 = .ok (.iconst 0, 1) := by decide +kernel
theorem dX9_putReady_1 : decode cX9_putReady 1 = .ok (.istore_n 3, 1) := by decide +kernel
theorem dX9_putReady_2 : decode cX9_putReady 2 = .ok (.iload_n 3, 1) := by decide +kernel
theorem dX9_putReady_3 : decode cX9_putReady 3 = .ok (.iconst 4, 1) := by decide +kernel
theorem dX9_putReady_4 : decode cX9_putReady 4 = .ok (.if_icmp .ge 38, 3) := by decide +kernel
theorem dX9_putReady_7 : decode cX9_putReady 7 = .ok (.iload_n 1, 1) := by decide +kernel
theorem dX9_putReady_8 : decode cX9_putReady 8 = .ok (.iload_n 3, 1) := by decide +kernel
theorem dX9_putReady_9 : decode cX9_putReady 9 = .ok (.iadd, 1) := by decide +kernel
theorem dX9_putReady_10 : decode cX9_putReady 10 = .ok (.bipush 20, 2) := by decide +kernel
theorem dX9_putReady_12 : decode cX9_putReady 12 = .ok (.if_icmp .ge 30, 3) := by decide +kernel
theorem dX9_putReady_15 : decode cX9_putReady 15 = .ok (.aload_n 0, 1) := by decide +kernel
theorem dX9_putReady_16 : decode cX9_putReady 16 = .ok (.getfield 15, 3) := by decide +kernel
theorem dX9_putReady_19 : decode cX9_putReady 19 = .ok (.iload_n 1, 1) := by decide +kernel
theorem dX9_putReady_20 : decode cX9_putReady 20 = .ok (.iload_n 3, 1) := by decide +kernel
theorem dX9_putReady_21 : decode cX9_putReady 21 = .ok (.iadd, 1) := by decide +kernel
theorem dX9_putReady_22 : decode cX9_putReady 22 = .ok (.iload_n 2, 1) := by decide +kernel
theorem dX9_putReady_23 : decode cX9_putReady 23 = .ok (.bipush 24, 2) := by decide +kernel
theorem dX9_putReady_25 : decode cX9_putReady 25 = .ok (.bipush 8, 2) := by decide +kernel
theorem dX9_putReady_27 : decode cX9_putReady 27 = .ok (.iload_n 3, 1) := by decide +kernel
theorem dX9_putReady_28 : decode cX9_putReady 28 = .ok (.imul, 1) := by decide +kernel
theorem dX9_putReady_29 : decode cX9_putReady 29 = .ok (.isub, 1) := by decide +kernel
theorem dX9_putReady_30 : decode cX9_putReady 30 = .ok (.iushr, 1) := by decide +kernel
theorem dX9_putReady_31 : decode cX9_putReady 31 = .ok (.sipush 255, 3) := by decide +kernel
theorem dX9_putReady_34 : decode cX9_putReady 34 = .ok (.iand, 1) := by decide +kernel
theorem dX9_putReady_35 : decode cX9_putReady 35 = .ok (.iastore, 1) := by decide +kernel
theorem dX9_putReady_36 : decode cX9_putReady 36 = .ok (.iinc 3 1, 3) := by decide +kernel
theorem dX9_putReady_39 : decode cX9_putReady 39 = .ok (.goto (-37), 3) := by decide +kernel
theorem dX9_putReady_42 : decode cX9_putReady 42 = .ok (.return_, 1) := by decide +kernel
theorem dX9_takeReady_0 : decode cX9_takeReady 0 = .ok (.iload_n 1, 1) := by decide +kernel
theorem dX9_takeReady_1 : decode cX9_takeReady 1 = .ok (.ifCond .lt 21, 3) := by decide +kernel
theorem dX9_takeReady_4 : decode cX9_takeReady 4 = .ok (.iload_n 1, 1) := by decide +kernel
theorem dX9_takeReady_5 : decode cX9_takeReady 5 = .ok (.bipush 20, 2) := by decide +kernel
theorem dX9_takeReady_7 : decode cX9_takeReady 7 = .ok (.if_icmp .gt 15, 3) := by decide +kernel
theorem dX9_takeReady_10 : decode cX9_takeReady 10 = .ok (.aload_n 0, 1) := by decide +kernel
theorem dX9_takeReady_11 : decode cX9_takeReady 11 = .ok (.getfield 49, 3) := by decide +kernel
theorem dX9_takeReady_14 : decode cX9_takeReady 14 = .ok (.iload_n 1, 1) := by decide +kernel
theorem dX9_takeReady_15 : decode cX9_takeReady 15 = .ok (.iadd, 1) := by decide +kernel
theorem dX9_takeReady_16 : decode cX9_takeReady 16 = .ok (.sipush 4000, 3) := by decide +kernel
theorem dX9_takeReady_19 : decode cX9_takeReady 19 = .ok (.if_icmp .le 5, 3) := by decide +kernel
theorem dX9_takeReady_22 : decode cX9_takeReady 22 = .ok (.iconst (-1), 1) := by decide +kernel
theorem dX9_takeReady_23 : decode cX9_takeReady 23 = .ok (.ireturn, 1) := by decide +kernel
theorem dX9_takeReady_24 : decode cX9_takeReady 24 = .ok (.aload_n 0, 1) := by decide +kernel
theorem dX9_takeReady_25 : decode cX9_takeReady 25 = .ok (.getfield 15, 3) := by decide +kernel
theorem dX9_takeReady_28 : decode cX9_takeReady 28 = .ok (.iconst 0, 1) := by decide +kernel
theorem dX9_takeReady_29 : decode cX9_takeReady 29 = .ok (.aload_n 0, 1) := by decide +kernel
theorem dX9_takeReady_30 : decode cX9_takeReady 30 = .ok (.getfield 11, 3) := by decide +kernel
theorem dX9_takeReady_33 : decode cX9_takeReady 33 = .ok (.aload_n 0, 1) := by decide +kernel
theorem dX9_takeReady_34 : decode cX9_takeReady 34 = .ok (.getfield 49, 3) := by decide +kernel
theorem dX9_takeReady_37 : decode cX9_takeReady 37 = .ok (.iload_n 1, 1) := by decide +kernel
theorem dX9_takeReady_38 : decode cX9_takeReady 38 = .ok (.invokestatic 53, 3) := by decide +kernel
theorem dX9_takeReady_41 : decode cX9_takeReady 41 = .ok (.aload_n 0, 1) := by decide +kernel
theorem dX9_takeReady_42 : decode cX9_takeReady 42 = .ok (.dup, 1) := by decide +kernel
theorem dX9_takeReady_43 : decode cX9_takeReady 43 = .ok (.getfield 49, 3) := by decide +kernel
theorem dX9_takeReady_46 : decode cX9_takeReady 46 = .ok (.iload_n 1, 1) := by decide +kernel
theorem dX9_takeReady_47 : decode cX9_takeReady 47 = .ok (.iadd, 1) := by decide +kernel
theorem dX9_takeReady_48 : decode cX9_takeReady 48 = .ok (.putfield 49, 3) := by decide +kernel
theorem dX9_takeReady_51 : decode cX9_takeReady 51 = .ok (.aload_n 0, 1) := by decide +kernel
theorem dX9_takeReady_52 : decode cX9_takeReady 52 = .ok (.getfield 15, 3) := by decide +kernel
theorem dX9_takeReady_55 : decode cX9_takeReady 55 = .ok (.iconst 0, 1) := by decide +kernel
theorem dX9_takeReady_56 : decode cX9_takeReady 56 = .ok (.invokestatic 59, 3) := by decide +kernel
theorem dX9_takeReady_59 : decode cX9_takeReady 59 = .ok (.aload_n 0, 1) := by decide +kernel
theorem dX9_takeReady_60 : decode cX9_takeReady 60 = .ok (.getfield 49, 3) := by decide +kernel
theorem dX9_takeReady_63 : decode cX9_takeReady 63 = .ok (.ireturn, 1) := by decide +kernel
theorem dX9_symbolOf_0 : decode cX9_symbolOf 0 = .ok (.iload_n 0, 1) := by decide +kernel
theorem dX9_symbolOf_1 : decode cX9_symbolOf 1 = .ok (.bipush 65, 2) := by decide +kernel
theorem dX9_symbolOf_3 : decode cX9_symbolOf 3 = .ok (.if_icmp .lt 16, 3) := by decide +kernel
theorem dX9_symbolOf_6 : decode cX9_symbolOf 6 = .ok (.iload_n 0, 1) := by decide +kernel
theorem dX9_symbolOf_7 : decode cX9_symbolOf 7 = .ok (.bipush 90, 2) := by decide +kernel
theorem dX9_symbolOf_9 : decode cX9_symbolOf 9 = .ok (.if_icmp .gt 10, 3) := by decide +kernel
theorem dX9_symbolOf_12 : decode cX9_symbolOf 12 = .ok (.iload_n 0, 1) := by decide +kernel
theorem dX9_symbolOf_13 : decode cX9_symbolOf 13 = .ok (.bipush 65, 2) := by decide +kernel
theorem dX9_symbolOf_15 : decode cX9_symbolOf 15 = .ok (.isub, 1) := by decide +kernel
theorem dX9_symbolOf_16 : decode cX9_symbolOf 16 = .ok (.iconst 1, 1) := by decide +kernel
theorem dX9_symbolOf_17 : decode cX9_symbolOf 17 = .ok (.iadd, 1) := by decide +kernel
theorem dX9_symbolOf_18 : decode cX9_symbolOf 18 = .ok (.ireturn, 1) := by decide +kernel
theorem dX9_symbolOf_19 : decode cX9_symbolOf 19 = .ok (.iload_n 0, 1) := by decide +kernel
theorem dX9_symbolOf_20 : decode cX9_symbolOf 20 = .ok (.bipush 97, 2) := by decide +kernel
theorem dX9_symbolOf_22 : decode cX9_symbolOf 22 = .ok (.if_icmp .lt 17, 3) := by decide +kernel
theorem dX9_symbolOf_25 : decode cX9_symbolOf 25 = .ok (.iload_n 0, 1) := by decide +kernel
theorem dX9_symbolOf_26 : decode cX9_symbolOf 26 = .ok (.bipush 122, 2) := by decide +kernel
theorem dX9_symbolOf_28 : decode cX9_symbolOf 28 = .ok (.if_icmp .gt 11, 3) := by decide +kernel
theorem dX9_symbolOf_31 : decode cX9_symbolOf 31 = .ok (.iload_n 0, 1) := by decide +kernel
theorem dX9_symbolOf_32 : decode cX9_symbolOf 32 = .ok (.bipush 97, 2) := by decide +kernel
theorem dX9_symbolOf_34 : decode cX9_symbolOf 34 = .ok (.isub, 1) := by decide +kernel
theorem dX9_symbolOf_35 : decode cX9_symbolOf 35 = .ok (.bipush 27, 2) := by decide +kernel
theorem dX9_symbolOf_37 : decode cX9_symbolOf 37 = .ok (.iadd, 1) := by decide +kernel
theorem dX9_symbolOf_38 : decode cX9_symbolOf 38 = .ok (.ireturn, 1) := by decide +kernel
theorem dX9_symbolOf_39 : decode cX9_symbolOf 39 = .ok (.iload_n 0, 1) := by decide +kernel
theorem dX9_symbolOf_40 : decode cX9_symbolOf 40 = .ok (.invokestatic 65, 3) := by decide +kernel
theorem dX9_symbolOf_43 : decode cX9_symbolOf 43 = .ok (.ifCond .eq 13, 3) := by decide +kernel
theorem dX9_symbolOf_46 : decode cX9_symbolOf 46 = .ok (.iload_n 0, 1) := by decide +kernel
theorem dX9_symbolOf_47 : decode cX9_symbolOf 47 = .ok (.bipush 48, 2) := by decide +kernel
theorem dX9_symbolOf_49 : decode cX9_symbolOf 49 = .ok (.isub, 1) := by decide +kernel
theorem dX9_symbolOf_50 : decode cX9_symbolOf 50 = .ok (.bipush 53, 2) := by decide +kernel
theorem dX9_symbolOf_52 : decode cX9_symbolOf 52 = .ok (.iadd, 1) := by decide +kernel
theorem dX9_symbolOf_53 : decode cX9_symbolOf 53 = .ok (.goto 4, 3) := by decide +kernel
theorem dX9_symbolOf_56 : decode cX9_symbolOf 56 = .ok (.iconst 0, 1) := by decide +kernel
theorem dX9_symbolOf_57 : decode cX9_symbolOf 57 = .ok (.ireturn, 1) := by decide +kernel
theorem dX9_isDigit_0 : decode cX9_isDigit 0 = .ok (.iload_n 0, 1) := by decide +kernel
theorem dX9_isDigit_1 : decode cX9_isDigit 1 = .ok (.bipush 48, 2) := by decide +kernel
theorem dX9_isDigit_3 : decode cX9_isDigit 3 = .ok (.if_icmp .lt 13, 3) := by decide +kernel
theorem dX9_isDigit_6 : decode cX9_isDigit 6 = .ok (.iload_n 0, 1) := by decide +kernel
theorem dX9_isDigit_7 : decode cX9_isDigit 7 = .ok (.bipush 57, 2) := by decide +kernel
theorem dX9_isDigit_9 : decode cX9_isDigit 9 = .ok (.if_icmp .gt 7, 3) := by decide +kernel
theorem dX9_isDigit_12 : decode cX9_isDigit 12 = .ok (.iconst 1, 1) := by decide +kernel
theorem dX9_isDigit_13 : decode cX9_isDigit 13 = .ok (.goto 4, 3) := by decide +kernel
theorem dX9_isDigit_16 : decode cX9_isDigit 16 = .ok (.iconst 0, 1) := by decide +kernel
theorem dX9_isDigit_17 : decode cX9_isDigit 17 = .ok (.ireturn, 1) := by decide +kernel
theorem dX9_codeOf_0 : decode cX9_codeOf 0 = .ok (.lconst 0, 1) := by decide +kernel
theorem dX9_codeOf_1 : decode cX9_codeOf 1 = .ok (.lstore_n 1, 1) := by decide +kernel
theorem dX9_codeOf_2 : decode cX9_codeOf 2 = .ok (.iconst 0, 1) := by decide +kernel
theorem dX9_codeOf_3 : decode cX9_codeOf 3 = .ok (.istore_n 3, 1) := by decide +kernel
theorem dX9_codeOf_4 : decode cX9_codeOf 4 = .ok (.iload_n 3, 1) := by decide +kernel
theorem dX9_codeOf_5 : decode cX9_codeOf 5 = .ok (.aload_n 0, 1) := by decide +kernel
theorem dX9_codeOf_6 : decode cX9_codeOf 6 = .ok (.invokevirtual 33, 3) := by decide +kernel
theorem dX9_codeOf_9 : decode cX9_codeOf 9 = .ok (.if_icmp .ge 25, 3) := by decide +kernel
theorem dX9_codeOf_12 : decode cX9_codeOf 12 = .ok (.lload_n 1, 1) := by decide +kernel
theorem dX9_codeOf_13 : decode cX9_codeOf 13 = .ok (.ldc2_w 43, 3) := by decide +kernel
theorem dX9_codeOf_16 : decode cX9_codeOf 16 = .ok (.lmul, 1) := by decide +kernel
theorem dX9_codeOf_17 : decode cX9_codeOf 17 = .ok (.aload_n 0, 1) := by decide +kernel
theorem dX9_codeOf_18 : decode cX9_codeOf 18 = .ok (.iload_n 3, 1) := by decide +kernel
theorem dX9_codeOf_19 : decode cX9_codeOf 19 = .ok (.invokevirtual 39, 3) := by decide +kernel
theorem dX9_codeOf_22 : decode cX9_codeOf 22 = .ok (.invokestatic 45, 3) := by decide +kernel
theorem dX9_codeOf_25 : decode cX9_codeOf 25 = .ok (.i2l, 1) := by decide +kernel
theorem dX9_codeOf_26 : decode cX9_codeOf 26 = .ok (.ladd, 1) := by decide +kernel
theorem dX9_codeOf_27 : decode cX9_codeOf 27 = .ok (.lstore_n 1, 1) := by decide +kernel
theorem dX9_codeOf_28 : decode cX9_codeOf 28 = .ok (.iinc 3 1, 3) := by decide +kernel
theorem dX9_codeOf_31 : decode cX9_codeOf 31 = .ok (.goto (-27), 3) := by decide +kernel
theorem dX9_codeOf_34 : decode cX9_codeOf 34 = .ok (.lload_n 1, 1) := by decide +kernel
theorem dX9_codeOf_35 : decode cX9_codeOf 35 = .ok (.lreturn, 1) := by decide +kernel
theorem dX9_wholeName_0 : decode cX9_wholeName 0 = .ok (.aload_n 0, 1) := by decide +kernel
theorem dX9_wholeName_1 : decode cX9_wholeName 1 = .ok (.getfield 49, 3) := by decide +kernel
theorem dX9_wholeName_4 : decode cX9_wholeName 4 = .ok (.bipush 10, 2) := by decide +kernel
theorem dX9_wholeName_6 : decode cX9_wholeName 6 = .ok (.if_icmp .le 5, 3) := by decide +kernel
theorem dX9_wholeName_11 : decode cX9_wholeName 11 = .ok (.aload_n 0, 1) := by decide +kernel
theorem dX9_wholeName_12 : decode cX9_wholeName 12 = .ok (.iconst 0, 1) := by decide +kernel
theorem dX9_wholeName_13 : decode cX9_wholeName 13 = .ok (.putfield 69, 3) := by decide +kernel
theorem dX9_wholeName_16 : decode cX9_wholeName 16 = .ok (.aload_n 0, 1) := by decide +kernel
theorem dX9_wholeName_17 : decode cX9_wholeName 17 = .ok (.invokevirtual 72, 3) := by decide +kernel
theorem dX9_wholeName_20 : decode cX9_wholeName 20 = .ok (.aload_n 0, 1) := by decide +kernel
theorem dX9_wholeName_21 : decode cX9_wholeName 21 = .ok (.getfield 75, 3) := by decide +kernel
theorem dX9_wholeName_24 : decode cX9_wholeName 24 = .ok (.iconst 2, 1) := by decide +kernel
theorem dX9_wholeName_25 : decode cX9_wholeName 25 = .ok (.if_icmp .ne 28, 3) := by decide +kernel
theorem dX9_wholeName_53 : decode cX9_wholeName 53 = .ok (.lconst 0, 1) := by decide +kernel
theorem dX9_wholeName_54 : decode cX9_wholeName 54 = .ok (.lreturn, 1) := by decide +kernel
theorem dX9_startWords_0 : decode cX9_startWords 0 = .ok (.aload_n 0, 1) := by decide +kernel
theorem dX9_startWords_1 : decode cX9_startWords 1 = .ok (.iconst 0, 1) := by decide +kernel
theorem dX9_startWords_2 : decode cX9_startWords 2 = .ok (.putfield 69, 3) := by decide +kernel
theorem dX9_startWords_5 : decode cX9_startWords 5 = .ok (.iconst 0, 1) := by decide +kernel
theorem dX9_startWords_6 : decode cX9_startWords 6 = .ok (.istore_n 1, 1) := by decide +kernel
theorem dX9_startWords_7 : decode cX9_startWords 7 = .ok (.aload_n 0, 1) := by decide +kernel
theorem dX9_startWords_8 : decode cX9_startWords 8 = .ok (.invokevirtual 72, 3) := by decide +kernel
theorem dX9_startWords_11 : decode cX9_startWords 11 = .ok (.aload_n 0, 1) := by decide +kernel
theorem dX9_startWords_12 : decode cX9_startWords 12 = .ok (.getfield 18, 3) := by decide +kernel
theorem dX9_startWords_15 : decode cX9_startWords 15 = .ok (.iload_n 1, 1) := by decide +kernel
theorem dX9_startWords_16 : decode cX9_startWords 16 = .ok (.aload_n 0, 1) := by decide +kernel
theorem dX9_startWords_17 : decode cX9_startWords 17 = .ok (.getfield 75, 3) := by decide +kernel
theorem dX9_startWords_20 : decode cX9_startWords 20 = .ok (.iastore, 1) := by decide +kernel
theorem dX9_startWords_21 : decode cX9_startWords 21 = .ok (.aload_n 0, 1) := by decide +kernel
theorem dX9_startWords_22 : decode cX9_startWords 22 = .ok (.getfield 21, 3) := by decide +kernel
theorem dX9_startWords_25 : decode cX9_startWords 25 = .ok (.iload_n 1, 1) := by decide +kernel
theorem dX9_startWords_26 : decode cX9_startWords 26 = .ok (.aload_n 0, 1) := by decide +kernel
theorem dX9_startWords_27 : decode cX9_startWords 27 = .ok (.getfield 78, 3) := by decide +kernel
theorem dX9_startWords_30 : decode cX9_startWords 30 = .ok (.iastore, 1) := by decide +kernel
theorem dX9_startWords_31 : decode cX9_startWords 31 = .ok (.aload_n 0, 1) := by decide +kernel
theorem dX9_startWords_32 : decode cX9_startWords 32 = .ok (.getfield 24, 3) := by decide +kernel
theorem dX9_startWords_35 : decode cX9_startWords 35 = .ok (.iload_n 1, 1) := by decide +kernel
theorem dX9_startWords_36 : decode cX9_startWords 36 = .ok (.aload_n 0, 1) := by decide +kernel
theorem dX9_startWords_37 : decode cX9_startWords 37 = .ok (.getfield 81, 3) := by decide +kernel
theorem dX9_startWords_40 : decode cX9_startWords 40 = .ok (.lastore, 1) := by decide +kernel
theorem dX9_startWords_41 : decode cX9_startWords 41 = .ok (.iinc 1 1, 3) := by decide +kernel
theorem dX9_startWords_44 : decode cX9_startWords 44 = .ok (.aload_n 0, 1) := by decide +kernel
theorem dX9_startWords_45 : decode cX9_startWords 45 = .ok (.getfield 75, 3) := by decide +kernel
theorem dX9_startWords_48 : decode cX9_startWords 48 = .ok (.ifCond .eq 10, 3) := by decide +kernel
theorem dX9_startWords_58 : decode cX9_startWords 58 = .ok (.aload_n 0, 1) := by decide +kernel
theorem dX9_startWords_59 : decode cX9_startWords 59 = .ok (.iconst 0, 1) := by decide +kernel
theorem dX9_startWords_60 : decode cX9_startWords 60 = .ok (.putfield 85, 3) := by decide +kernel
theorem dX9_startWords_63 : decode cX9_startWords 63 = .ok (.aload_n 0, 1) := by decide +kernel
theorem dX9_startWords_64 : decode cX9_startWords 64 = .ok (.invokevirtual 88, 3) := by decide +kernel
theorem dX9_startWords_67 : decode cX9_startWords 67 = .ok (.return_, 1) := by decide +kernel
theorem dX9_nextWord_0 : decode cX9_nextWord 0 = .ok (.aload_n 0, 1) := by decide +kernel
theorem dX9_nextWord_1 : decode cX9_nextWord 1 = .ok (.aload_n 0, 1) := by decide +kernel
theorem dX9_nextWord_2 : decode cX9_nextWord 2 = .ok (.getfield 18, 3) := by decide +kernel
theorem dX9_nextWord_5 : decode cX9_nextWord 5 = .ok (.aload_n 0, 1) := by decide +kernel
theorem dX9_nextWord_6 : decode cX9_nextWord 6 = .ok (.getfield 85, 3) := by decide +kernel
theorem dX9_nextWord_9 : decode cX9_nextWord 9 = .ok (.iaload, 1) := by decide +kernel
theorem dX9_nextWord_10 : decode cX9_nextWord 10 = .ok (.putfield 75, 3) := by decide +kernel
theorem dX9_nextWord_13 : decode cX9_nextWord 13 = .ok (.aload_n 0, 1) := by decide +kernel
theorem dX9_nextWord_14 : decode cX9_nextWord 14 = .ok (.aload_n 0, 1) := by decide +kernel
theorem dX9_nextWord_15 : decode cX9_nextWord 15 = .ok (.getfield 21, 3) := by decide +kernel
theorem dX9_nextWord_18 : decode cX9_nextWord 18 = .ok (.aload_n 0, 1) := by decide +kernel
theorem dX9_nextWord_19 : decode cX9_nextWord 19 = .ok (.getfield 85, 3) := by decide +kernel
theorem dX9_nextWord_22 : decode cX9_nextWord 22 = .ok (.iaload, 1) := by decide +kernel
theorem dX9_nextWord_23 : decode cX9_nextWord 23 = .ok (.putfield 78, 3) := by decide +kernel
theorem dX9_nextWord_26 : decode cX9_nextWord 26 = .ok (.aload_n 0, 1) := by decide +kernel
theorem dX9_nextWord_27 : decode cX9_nextWord 27 = .ok (.aload_n 0, 1) := by decide +kernel
theorem dX9_nextWord_28 : decode cX9_nextWord 28 = .ok (.getfield 24, 3) := by decide +kernel
theorem dX9_nextWord_31 : decode cX9_nextWord 31 = .ok (.aload_n 0, 1) := by decide +kernel
theorem dX9_nextWord_32 : decode cX9_nextWord 32 = .ok (.getfield 85, 3) := by decide +kernel
theorem dX9_nextWord_35 : decode cX9_nextWord 35 = .ok (.laload, 1) := by decide +kernel
theorem dX9_nextWord_36 : decode cX9_nextWord 36 = .ok (.putfield 81, 3) := by decide +kernel
theorem dX9_nextWord_39 : decode cX9_nextWord 39 = .ok (.aload_n 0, 1) := by decide +kernel
theorem dX9_nextWord_40 : decode cX9_nextWord 40 = .ok (.getfield 75, 3) := by decide +kernel
theorem dX9_nextWord_43 : decode cX9_nextWord 43 = .ok (.ifCond .eq 23, 3) := by decide +kernel
theorem dX9_nextWord_66 : decode cX9_nextWord 66 = .ok (.return_, 1) := by decide +kernel
theorem dX9_scanWord_0 : decode cX9_scanWord 0 = .ok (.aload_n 0, 1) := by decide +kernel
theorem dX9_scanWord_1 : decode cX9_scanWord 1 = .ok (.getfield 69, 3) := by decide +kernel
theorem dX9_scanWord_4 : decode cX9_scanWord 4 = .ok (.aload_n 0, 1) := by decide +kernel
theorem dX9_scanWord_5 : decode cX9_scanWord 5 = .ok (.getfield 49, 3) := by decide +kernel
theorem dX9_scanWord_8 : decode cX9_scanWord 8 = .ok (.if_icmp .ge 31, 3) := by decide +kernel
theorem dX9_scanWord_39 : decode cX9_scanWord 39 = .ok (.aload_n 0, 1) := by decide +kernel
theorem dX9_scanWord_40 : decode cX9_scanWord 40 = .ok (.aload_n 0, 1) := by decide +kernel
theorem dX9_scanWord_41 : decode cX9_scanWord 41 = .ok (.getfield 69, 3) := by decide +kernel
theorem dX9_scanWord_44 : decode cX9_scanWord 44 = .ok (.putfield 78, 3) := by decide +kernel
theorem dX9_scanWord_47 : decode cX9_scanWord 47 = .ok (.aload_n 0, 1) := by decide +kernel
theorem dX9_scanWord_48 : decode cX9_scanWord 48 = .ok (.lconst 0, 1) := by decide +kernel
theorem dX9_scanWord_49 : decode cX9_scanWord 49 = .ok (.putfield 81, 3) := by decide +kernel
theorem dX9_scanWord_52 : decode cX9_scanWord 52 = .ok (.aload_n 0, 1) := by decide +kernel
theorem dX9_scanWord_53 : decode cX9_scanWord 53 = .ok (.getfield 69, 3) := by decide +kernel
theorem dX9_scanWord_56 : decode cX9_scanWord 56 = .ok (.aload_n 0, 1) := by decide +kernel
theorem dX9_scanWord_57 : decode cX9_scanWord 57 = .ok (.getfield 49, 3) := by decide +kernel
theorem dX9_scanWord_60 : decode cX9_scanWord 60 = .ok (.if_icmp .lt 11, 3) := by decide +kernel
theorem dX9_scanWord_63 : decode cX9_scanWord 63 = .ok (.aload_n 0, 1) := by decide +kernel
theorem dX9_scanWord_64 : decode cX9_scanWord 64 = .ok (.iconst 0, 1) := by decide +kernel
theorem dX9_scanWord_65 : decode cX9_scanWord 65 = .ok (.putfield 75, 3) := by decide +kernel
theorem dX9_scanWord_68 : decode cX9_scanWord 68 = .ok (.goto 51, 3) := by decide +kernel
theorem dX9_scanWord_119 : decode cX9_scanWord 119 = .ok (.return_, 1) := by decide +kernel
theorem dX10_init_0 : decode cX10_init 0 = .ok (.aload_n 0, 1) := by decide +kernel
theorem dX10_init_1 : decode cX10_init 1 = .ok (.invokespecial 5, 3) := by decide +kernel
theorem dX10_init_4 : decode cX10_init 4 = .ok (.aload_n 0, 1) := by decide +kernel
theorem dX10_init_5 : decode cX10_init 5 = .ok (.bipush 16, 2) := by decide +kernel
theorem dX10_init_7 : decode cX10_init 7 = .ok (.newarray .long, 2) := by decide +kernel
theorem dX10_init_9 : decode cX10_init 9 = .ok (.putfield 11, 3) := by decide +kernel
theorem dX10_init_12 : decode cX10_init 12 = .ok (.aload_n 0, 1) := by decide +kernel
theorem dX10_init_13 : decode cX10_init 13 = .ok (.bipush 16, 2) := by decide +kernel
theorem dX10_init_15 : decode cX10_init 15 = .ok (.newarray .int, 2) := by decide +kernel
theorem dX10_init_17 : decode cX10_init 17 = .ok (.putfield 15, 3) := by decide +kernel
theorem dX10_init_20 : decode cX10_init 20 = .ok (.aload_n 0, 1) := by decide +kernel
theorem dX10_init_21 : decode cX10_init 21 = .ok (.bipush 16, 2) := by decide +kernel
theorem dX10_init_23 : decode cX10_init 23 = .ok (.newarray .int, 2) := by decide +kernel
theorem dX10_init_25 : decode cX10_init 25 = .ok (.putfield 19, 3) := by decide +kernel
theorem dX10_init_28 : decode cX10_init 28 = .ok (.aload_n 0, 1) := by decide +kernel
theorem dX10_init_29 : decode cX10_init 29 = .ok (.bipush 16, 2) := by decide +kernel
theorem dX10_init_31 : decode cX10_init 31 = .ok (.newarray .boolean, 2) := by decide +kernel
theorem dX10_init_33 : decode cX10_init 33 = .ok (.putfield 22, 3) := by decide +kernel
theorem dX10_init_36 : decode cX10_init 36 = .ok (.aload_n 0, 1) := by decide +kernel
theorem dX10_init_37 : decode cX10_init 37 = .ok (.bipush 16, 2) := by decide +kernel
theorem dX10_init_39 : decode cX10_init 39 = .ok (.newarray .boolean, 2) := by decide +kernel
theorem dX10_init_41 : decode cX10_init 41 = .ok (.putfield 26, 3) := by decide +kernel
theorem dX10_init_44 : decode cX10_init 44 = .ok (.aload_n 0, 1) := by decide +kernel
theorem dX10_init_45 : decode cX10_init 45 = .ok (.bipush 16, 2) := by decide +kernel
theorem dX10_init_47 : decode cX10_init 47 = .ok (.newarray .int, 2) := by decide +kernel
theorem dX10_init_49 : decode cX10_init 49 = .ok (.putfield 29, 3) := by decide +kernel
theorem dX10_init_52 : decode cX10_init 52 = .ok (.aload_n 0, 1) := by decide +kernel
theorem dX10_init_53 : decode cX10_init 53 = .ok (.bipush 16, 2) := by decide +kernel
theorem dX10_init_55 : decode cX10_init 55 = .ok (.newarray .int, 2) := by decide +kernel
theorem dX10_init_57 : decode cX10_init 57 = .ok (.putfield 32, 3) := by decide +kernel
theorem dX10_init_60 : decode cX10_init 60 = .ok (.aload_n 0, 1) := by decide +kernel
theorem dX10_init_61 : decode cX10_init 61 = .ok (.bipush 16, 2) := by decide +kernel
theorem dX10_init_63 : decode cX10_init 63 = .ok (.newarray .int, 2) := by decide +kernel
theorem dX10_init_65 : decode cX10_init 65 = .ok (.putfield 35, 3) := by decide +kernel
theorem dX10_init_68 : decode cX10_init 68 = .ok (.aload_n 0, 1) := by decide +kernel
theorem dX10_init_69 : decode cX10_init 69 = .ok (.bipush 16, 2) := by decide +kernel
theorem dX10_init_71 : decode cX10_init 71 = .ok (.newarray .int, 2) := by decide +kernel
theorem dX10_init_73 : decode cX10_init 73 = .ok (.putfield 38, 3) := by decide +kernel
theorem dX10_init_76 : decode cX10_init 76 = .ok (.aload_n 0, 1) := by decide +kernel
theorem dX10_init_77 : decode cX10_init 77 = .ok (.bipush 96, 2) := by decide +kernel
theorem dX10_init_79 : decode cX10_init 79 = .ok (.newarray .long, 2) := by decide +kernel
theorem dX10_init_81 : decode cX10_init 81 = .ok (.putfield 41, 3) := by decide +kernel
theorem dX10_init_84 : decode cX10_init 84 = .ok (.aload_n 0, 1) := by decide +kernel
theorem dX10_init_85 : decode cX10_init 85 = .ok (.bipush 96, 2) := by decide +kernel
theorem dX10_init_87 : decode cX10_init 87 = .ok (.newarray .int, 2) := by decide +kernel
theorem dX10_init_89 : decode cX10_init 89 = .ok (.putfield 44, 3) := by decide +kernel
theorem dX10_init_92 : decode cX10_init 92 = .ok (.aload_n 0, 1) := by decide +kernel
theorem dX10_init_93 : decode cX10_init 93 = .ok (.bipush 96, 2) := by decide +kernel
theorem dX10_init_95 : decode cX10_init 95 = .ok (.newarray .int, 2) := by decide +kernel
theorem dX10_init_97 : decode cX10_init 97 = .ok (.putfield 47, 3) := by decide +kernel
theorem dX10_init_100 : decode cX10_init 100 = .ok (.aload_n 0, 1) := by decide +kernel
theorem dX10_init_101 : decode cX10_init 101 = .ok (.bipush 96, 2) := by decide +kernel
theorem dX10_init_103 : decode cX10_init 103 = .ok (.newarray .boolean, 2) := by decide +kernel
theorem dX10_init_105 : decode cX10_init 105 = .ok (.putfield 50, 3) := by decide +kernel
theorem dX10_init_108 : decode cX10_init 108 = .ok (.aload_n 0, 1) := by decide +kernel
theorem dX10_init_109 : decode cX10_init 109 = .ok (.bipush 96, 2) := by decide +kernel
theorem dX10_init_111 : decode cX10_init 111 = .ok (.newarray .int, 2) := by decide +kernel
theorem dX10_init_113 : decode cX10_init 113 = .ok (.putfield 53, 3) := by decide +kernel
theorem dX10_init_116 : decode cX10_init 116 = .ok (.aload_n 0, 1) := by decide +kernel
theorem dX10_init_117 : decode cX10_init 117 = .ok (.sipush 1536, 3) := by decide +kernel
theorem dX10_init_120 : decode cX10_init 120 = .ok (.newarray .long, 2) := by decide +kernel
theorem dX10_init_122 : decode cX10_init 122 = .ok (.putfield 56, 3) := by decide +kernel
theorem dX10_init_125 : decode cX10_init 125 = .ok (.aload_n 0, 1) := by decide +kernel
theorem dX10_init_126 : decode cX10_init 126 = .ok (.sipush 1536, 3) := by decide +kernel
theorem dX10_init_129 : decode cX10_init 129 = .ok (.newarray .int, 2) := by decide +kernel
theorem dX10_init_131 : decode cX10_init 131 = .ok (.putfield 59, 3) := by decide +kernel
theorem dX10_init_134 : decode cX10_init 134 = .ok (.aload_n 0, 1) := by decide +kernel
theorem dX10_init_135 : decode cX10_init 135 = .ok (.sipush 1536, 3) := by decide +kernel
theorem dX10_init_138 : decode cX10_init 138 = .ok (.newarray .int, 2) := by decide +kernel
theorem dX10_init_140 : decode cX10_init 140 = .ok (.putfield 62, 3) := by decide +kernel
theorem dX10_init_143 : decode cX10_init 143 = .ok (.return_, 1) := by decide +kernel
theorem dX10_isClass_0 : decode cX10_isClass 0 = .ok (.iload_n 1, 1) := by decide +kernel
theorem dX10_isClass_1 : decode cX10_isClass 1 = .ok (.ifCond .lt 15, 3) := by decide +kernel
theorem dX10_isClass_4 : decode cX10_isClass 4 = .ok (.iload_n 1, 1) := by decide +kernel
theorem dX10_isClass_5 : decode cX10_isClass 5 = .ok (.aload_n 0, 1) := by decide +kernel
theorem dX10_isClass_6 : decode cX10_isClass 6 = .ok (.getfield 65, 3) := by decide +kernel
theorem dX10_isClass_9 : decode cX10_isClass 9 = .ok (.if_icmp .ge 7, 3) := by decide +kernel
theorem dX10_isClass_16 : decode cX10_isClass 16 = .ok (.iconst 0, 1) := by decide +kernel
theorem dX10_isClass_17 : decode cX10_isClass 17 = .ok (.ireturn, 1) := by decide +kernel
theorem dX10_isArray_0 : decode cX10_isArray 0 = .ok (.iload_n 0, 1) := by decide +kernel
theorem dX10_isArray_1 : decode cX10_isArray 1 = .ok (.bipush 20, 2) := by decide +kernel
theorem dX10_isArray_3 : decode cX10_isArray 3 = .ok (.if_icmp .lt 7, 3) := by decide +kernel
theorem dX10_isArray_6 : decode cX10_isArray 6 = .ok (.iconst 1, 1) := by decide +kernel
theorem dX10_isArray_7 : decode cX10_isArray 7 = .ok (.goto 4, 3) := by decide +kernel
theorem dX10_isArray_10 : decode cX10_isArray 10 = .ok (.iconst 0, 1) := by decide +kernel
theorem dX10_isArray_11 : decode cX10_isArray 11 = .ok (.ireturn, 1) := by decide +kernel
theorem dX10_isType_0 : decode cX10_isType 0 = .ok (.aload_n 0, 1) := by decide +kernel
theorem dX10_isType_1 : decode cX10_isType 1 = .ok (.iload_n 1, 1) := by decide +kernel
theorem dX10_isType_2 : decode cX10_isType 2 = .ok (.invokevirtual 69, 3) := by decide +kernel
theorem dX10_isType_5 : decode cX10_isType 5 = .ok (.ifCond .ne 38, 3) := by decide +kernel
theorem dX10_isType_8 : decode cX10_isType 8 = .ok (.iload_n 1, 1) := by decide +kernel
theorem dX10_isType_9 : decode cX10_isType 9 = .ok (.bipush 20, 2) := by decide +kernel
theorem dX10_isType_11 : decode cX10_isType 11 = .ok (.if_icmp .lt 9, 3) := by decide +kernel
theorem dX10_isType_14 : decode cX10_isType 14 = .ok (.iload_n 1, 1) := by decide +kernel
theorem dX10_isType_15 : decode cX10_isType 15 = .ok (.bipush 24, 2) := by decide +kernel
theorem dX10_isType_17 : decode cX10_isType 17 = .ok (.if_icmp .le 26, 3) := by decide +kernel
theorem dX10_isType_20 : decode cX10_isType 20 = .ok (.iload_n 1, 1) := by decide +kernel
theorem dX10_isType_21 : decode cX10_isType 21 = .ok (.bipush 29, 2) := by decide +kernel
theorem dX10_isType_23 : decode cX10_isType 23 = .ok (.if_icmp .eq 20, 3) := by decide +kernel
theorem dX10_isType_26 : decode cX10_isType 26 = .ok (.iload_n 1, 1) := by decide +kernel
theorem dX10_isType_27 : decode cX10_isType 27 = .ok (.bipush 30, 2) := by decide +kernel
theorem dX10_isType_29 : decode cX10_isType 29 = .ok (.if_icmp .lt 18, 3) := by decide +kernel
theorem dX10_isType_32 : decode cX10_isType 32 = .ok (.aload_n 0, 1) := by decide +kernel
theorem dX10_isType_33 : decode cX10_isType 33 = .ok (.iload_n 1, 1) := by decide +kernel
theorem dX10_isType_34 : decode cX10_isType 34 = .ok (.bipush 30, 2) := by decide +kernel
theorem dX10_isType_36 : decode cX10_isType 36 = .ok (.isub, 1) := by decide +kernel
theorem dX10_isType_37 : decode cX10_isType 37 = .ok (.invokevirtual 69, 3) := by decide +kernel
theorem dX10_isType_40 : decode cX10_isType 40 = .ok (.ifCond .eq 7, 3) := by decide +kernel
theorem dX10_isType_43 : decode cX10_isType 43 = .ok (.iconst 1, 1) := by decide +kernel
theorem dX10_isType_44 : decode cX10_isType 44 = .ok (.goto 4, 3) := by decide +kernel
theorem dX10_isType_47 : decode cX10_isType 47 = .ok (.iconst 0, 1) := by decide +kernel
theorem dX10_isType_48 : decode cX10_isType 48 = .ok (.ireturn, 1) := by decide +kernel
theorem dX10_hasField__0 : decode cX10_hasField_ 0 = .ok (.aload_n 0, 1) := by decide +kernel
theorem dX10_hasField__1 : decode cX10_hasField_ 1 = .ok (.iload_n 1, 1) := by decide +kernel
theorem dX10_hasField__2 : decode cX10_hasField_ 2 = .ok (.invokevirtual 69, 3) := by decide +kernel
theorem dX10_hasField__5 : decode cX10_hasField_ 5 = .ok (.ifCond .eq 21, 3) := by decide +kernel
theorem dX10_hasField__26 : decode cX10_hasField_ 26 = .ok (.iconst 0, 1) := by decide +kernel
theorem dX10_hasField__27 : decode cX10_hasField_ 27 = .ok (.ireturn, 1) := by decide +kernel
theorem dX10_staticField_0 : decode cX10_staticField 0 = .ok (.aload_n 0, 1) := by decide +kernel
theorem dX10_staticField_1 : decode cX10_staticField 1 = .ok (.iload_n 1, 1) := by decide +kernel
theorem dX10_staticField_2 : decode cX10_staticField 2 = .ok (.invokevirtual 69, 3) := by decide +kernel
theorem dX10_staticField_5 : decode cX10_staticField 5 = .ok (.ifCond .eq 17, 3) := by decide +kernel
theorem dX10_staticField_22 : decode cX10_staticField 22 = .ok (.iconst (-1), 1) := by decide +kernel
theorem dX10_staticField_23 : decode cX10_staticField 23 = .ok (.ireturn, 1) := by decide +kernel
theorem dX10_ownFields_0 : decode cX10_ownFields 0 = .ok (.aload_n 0, 1) := by decide +kernel
theorem dX10_ownFields_1 : decode cX10_ownFields 1 = .ok (.getfield 65, 3) := by decide +kernel
theorem dX10_ownFields_4 : decode cX10_ownFields 4 = .ok (.bipush 6, 2) := by decide +kernel
theorem dX10_ownFields_6 : decode cX10_ownFields 6 = .ok (.imul, 1) := by decide +kernel
theorem dX10_ownFields_7 : decode cX10_ownFields 7 = .ok (.ireturn, 1) := by decide +kernel
theorem dX10_use_0 : decode cX10_use 0 = .ok (.aload_n 0, 1) := by decide +kernel
theorem dX10_use_1 : decode cX10_use 1 = .ok (.iload_n 1, 1) := by decide +kernel
theorem dX10_use_2 : decode cX10_use 2 = .ok (.invokevirtual 69, 3) := by decide +kernel
theorem dX10_use_5 : decode cX10_use 5 = .ok (.ifCond .eq 10, 3) := by decide +kernel
theorem dX10_use_15 : decode cX10_use 15 = .ok (.return_, 1) := by decide +kernel
theorem dX10_slotsOf_0 : decode cX10_slotsOf 0 = .ok (.iload_n 1, 1) := by decide +kernel
theorem dX10_slotsOf_1 : decode cX10_slotsOf 1 = .ok (.invokestatic 86, 3) := by decide +kernel
theorem dX10_slotsOf_4 : decode cX10_slotsOf 4 = .ok (.ifCond .eq 7, 3) := by decide +kernel
theorem dX10_slotsOf_7 : decode cX10_slotsOf 7 = .ok (.iload_n 2, 1) := by decide +kernel
theorem dX10_slotsOf_8 : decode cX10_slotsOf 8 = .ok (.goto 9, 3) := by decide +kernel
theorem dX10_slotsOf_11 : decode cX10_slotsOf 11 = .ok (.aload_n 0, 1) := by decide +kernel
theorem dX10_slotsOf_12 : decode cX10_slotsOf 12 = .ok (.getfield 35, 3) := by decide +kernel
theorem dX10_slotsOf_17 : decode cX10_slotsOf 17 = .ok (.ireturn, 1) := by decide +kernel
theorem dX10_kindAt_0 : decode cX10_kindAt 0 = .ok (.iload_n 1, 1) := by decide +kernel
theorem dX10_kindAt_1 : decode cX10_kindAt 1 = .ok (.bipush 29, 2) := by decide +kernel
theorem dX10_kindAt_3 : decode cX10_kindAt 3 = .ok (.if_icmp .lt 5, 3) := by decide +kernel
theorem dX10_kindAt_6 : decode cX10_kindAt 6 = .ok (.iconst 5, 1) := by decide +kernel
theorem dX10_kindAt_7 : decode cX10_kindAt 7 = .ok (.ireturn, 1) := by decide +kernel
theorem dX10_kindAt_8 : decode cX10_kindAt 8 = .ok (.iload_n 1, 1) := by decide +kernel
theorem dX10_kindAt_9 : decode cX10_kindAt 9 = .ok (.bipush 20, 2) := by decide +kernel
theorem dX10_kindAt_11 : decode cX10_kindAt 11 = .ok (.if_icmp .lt 10, 3) := by decide +kernel
theorem dX10_kindAt_14 : decode cX10_kindAt 14 = .ok (.iload_n 1, 1) := by decide +kernel
theorem dX10_kindAt_15 : decode cX10_kindAt 15 = .ok (.bipush 20, 2) := by decide +kernel
theorem dX10_kindAt_17 : decode cX10_kindAt 17 = .ok (.isub, 1) := by decide +kernel
theorem dX10_kindAt_18 : decode cX10_kindAt 18 = .ok (.goto 14, 3) := by decide +kernel
theorem dX10_kindAt_21 : decode cX10_kindAt 21 = .ok (.aload_n 0, 1) := by decide +kernel
theorem dX10_kindAt_22 : decode cX10_kindAt 22 = .ok (.getfield 59, 3) := by decide +kernel
theorem dX10_kindAt_32 : decode cX10_kindAt 32 = .ok (.ireturn, 1) := by decide +kernel
theorem dX10_firstValue_0 : decode cX10_firstValue 0 = .ok (.iload_n 0, 1) := by decide +kernel
theorem dX10_firstValue_1 : decode cX10_firstValue 1 = .ok (.iconst 5, 1) := by decide +kernel
theorem dX10_firstValue_2 : decode cX10_firstValue 2 = .ok (.if_icmp .ne 9, 3) := by decide +kernel
theorem dX10_firstValue_5 : decode cX10_firstValue 5 = .ok (.ldc2_w 96, 3) := by decide +kernel
theorem dX10_firstValue_8 : decode cX10_firstValue 8 = .ok (.goto 4, 3) := by decide +kernel
theorem dX10_firstValue_11 : decode cX10_firstValue 11 = .ok (.lconst 0, 1) := by decide +kernel
theorem dX10_firstValue_12 : decode cX10_firstValue 12 = .ok (.lreturn, 1) := by decide +kernel
theorem dX11_init_0 : decode cX11_init 0 = .ok (.aload_n 0, 1) := by decide +kernel
theorem dX11_init_1 : decode cX11_init 1 = .ok (.invokespecial 3, 3) := by decide +kernel
theorem dX11_init_4 : decode cX11_init 4 = .ok (.aload_n 0, 1) := by decide +kernel
theorem dX11_init_5 : decode cX11_init 5 = .ok (.new 9, 3) := by decide +kernel
theorem dX11_init_8 : decode cX11_init 8 = .ok (.dup, 1) := by decide +kernel
theorem dX11_init_9 : decode cX11_init 9 = .ok (.invokespecial 11, 3) := by decide +kernel
theorem dX11_init_12 : decode cX11_init 12 = .ok (.putfield 12, 3) := by decide +kernel
theorem dX11_init_15 : decode cX11_init 15 = .ok (.aload_n 0, 1) := by decide +kernel
theorem dX11_init_16 : decode cX11_init 16 = .ok (.new 16, 3) := by decide +kernel
theorem dX11_init_19 : decode cX11_init 19 = .ok (.dup, 1) := by decide +kernel
theorem dX11_init_20 : decode cX11_init 20 = .ok (.invokespecial 18, 3) := by decide +kernel
theorem dX11_init_23 : decode cX11_init 23 = .ok (.putfield 19, 3) := by decide +kernel
theorem dX11_init_26 : decode cX11_init 26 = .ok (.aload_n 0, 1) := by decide +kernel
theorem dX11_init_27 : decode cX11_init 27 = .ok (.new 23, 3) := by decide +kernel
theorem dX11_init_30 : decode cX11_init 30 = .ok (.dup, 1) := by decide +kernel
theorem dX11_init_31 : decode cX11_init 31 = .ok (.aload_n 0, 1) := by decide +kernel
theorem dX11_init_32 : decode cX11_init 32 = .ok (.getfield 19, 3) := by decide +kernel
theorem dX11_init_35 : decode cX11_init 35 = .ok (.invokespecial 25, 3) := by decide +kernel
theorem dX11_init_38 : decode cX11_init 38 = .ok (.putfield 28, 3) := by decide +kernel
theorem dX11_init_41 : decode cX11_init 41 = .ok (.aload_n 0, 1) := by decide +kernel
theorem dX11_init_42 : decode cX11_init 42 = .ok (.new 32, 3) := by decide +kernel
theorem dX11_init_45 : decode cX11_init 45 = .ok (.dup, 1) := by decide +kernel
theorem dX11_init_46 : decode cX11_init 46 = .ok (.aload_n 0, 1) := by decide +kernel
theorem dX11_init_47 : decode cX11_init 47 = .ok (.getfield 19, 3) := by decide +kernel
theorem dX11_init_50 : decode cX11_init 50 = .ok (.invokespecial 34, 3) := by decide +kernel
theorem dX11_init_53 : decode cX11_init 53 = .ok (.putfield 35, 3) := by decide +kernel
theorem dX11_init_56 : decode cX11_init 56 = .ok (.aload_n 0, 1) := by decide +kernel
theorem dX11_init_57 : decode cX11_init 57 = .ok (.iconst 4, 1) := by decide +kernel
theorem dX11_init_58 : decode cX11_init 58 = .ok (.anewarray 39, 3) := by decide +kernel
theorem dX11_init_61 : decode cX11_init 61 = .ok (.putfield 41, 3) := by decide +kernel
theorem dX11_init_64 : decode cX11_init 64 = .ok (.iconst 0, 1) := by decide +kernel
theorem dX11_init_65 : decode cX11_init 65 = .ok (.istore_n 1, 1) := by decide +kernel
theorem dX11_init_66 : decode cX11_init 66 = .ok (.iload_n 1, 1) := by decide +kernel
theorem dX11_init_67 : decode cX11_init 67 = .ok (.iconst 4, 1) := by decide +kernel
theorem dX11_init_68 : decode cX11_init 68 = .ok (.if_icmp .ge 26, 3) := by decide +kernel
theorem dX11_init_71 : decode cX11_init 71 = .ok (.aload_n 0, 1) := by decide +kernel
theorem dX11_init_72 : decode cX11_init 72 = .ok (.getfield 41, 3) := by decide +kernel
theorem dX11_init_75 : decode cX11_init 75 = .ok (.iload_n 1, 1) := by decide +kernel
theorem dX11_init_76 : decode cX11_init 76 = .ok (.new 39, 3) := by decide +kernel
theorem dX11_init_79 : decode cX11_init 79 = .ok (.dup, 1) := by decide +kernel
theorem dX11_init_80 : decode cX11_init 80 = .ok (.aload_n 0, 1) := by decide +kernel
theorem dX11_init_81 : decode cX11_init 81 = .ok (.getfield 19, 3) := by decide +kernel
theorem dX11_init_84 : decode cX11_init 84 = .ok (.invokespecial 45, 3) := by decide +kernel
theorem dX11_init_87 : decode cX11_init 87 = .ok (.aastore, 1) := by decide +kernel
theorem dX11_init_88 : decode cX11_init 88 = .ok (.iinc 1 1, 3) := by decide +kernel
theorem dX11_init_91 : decode cX11_init 91 = .ok (.goto (-25), 3) := by decide +kernel
theorem dX11_init_94 : decode cX11_init 94 = .ok (.aload_n 0, 1) := by decide +kernel
theorem dX11_init_95 : decode cX11_init 95 = .ok (.new 39, 3) := by decide +kernel
theorem dX11_init_98 : decode cX11_init 98 = .ok (.dup, 1) := by decide +kernel
theorem dX11_init_99 : decode cX11_init 99 = .ok (.aload_n 0, 1) := by decide +kernel
theorem dX11_init_100 : decode cX11_init 100 = .ok (.getfield 19, 3) := by decide +kernel
theorem dX11_init_103 : decode cX11_init 103 = .ok (.invokespecial 45, 3) := by decide +kernel
theorem dX11_init_106 : decode cX11_init 106 = .ok (.putfield 46, 3) := by decide +kernel
theorem dX11_init_109 : decode cX11_init 109 = .ok (.aload_n 0, 1) := by decide +kernel
theorem dX11_init_110 : decode cX11_init 110 = .ok (.new 50, 3) := by decide +kernel
theorem dX11_init_113 : decode cX11_init 113 = .ok (.dup, 1) := by decide +kernel
theorem dX11_init_114 : decode cX11_init 114 = .ok (.aload_n 0, 1) := by decide +kernel
theorem dX11_init_115 : decode cX11_init 115 = .ok (.getfield 12, 3) := by decide +kernel
theorem dX11_init_118 : decode cX11_init 118 = .ok (.invokespecial 52, 3) := by decide +kernel
theorem dX11_init_121 : decode cX11_init 121 = .ok (.putfield 55, 3) := by decide +kernel
theorem dX11_init_124 : decode cX11_init 124 = .ok (.aload_n 0, 1) := by decide +kernel
theorem dX11_init_125 : decode cX11_init 125 = .ok (.new 59, 3) := by decide +kernel
theorem dX11_init_128 : decode cX11_init 128 = .ok (.dup, 1) := by decide +kernel
theorem dX11_init_129 : decode cX11_init 129 = .ok (.aload_n 0, 1) := by decide +kernel
theorem dX11_init_130 : decode cX11_init 130 = .ok (.getfield 19, 3) := by decide +kernel
theorem dX11_init_133 : decode cX11_init 133 = .ok (.invokespecial 61, 3) := by decide +kernel
theorem dX11_init_136 : decode cX11_init 136 = .ok (.putfield 62, 3) := by decide +kernel
theorem dX11_init_139 : decode cX11_init 139 = .ok (.aload_n 0, 1) := by decide +kernel
theorem dX11_init_140 : decode cX11_init 140 = .ok (.iconst 3, 1) := by decide +kernel
theorem dX11_init_141 : decode cX11_init 141 = .ok (.anewarray 50, 3) := by decide +kernel
theorem dX11_init_144 : decode cX11_init 144 = .ok (.putfield 66, 3) := by decide +kernel
theorem dX11_init_147 : decode cX11_init 147 = .ok (.iconst 0, 1) := by decide +kernel
theorem dX11_init_148 : decode cX11_init 148 = .ok (.istore_n 1, 1) := by decide +kernel
theorem dX11_init_149 : decode cX11_init 149 = .ok (.iload_n 1, 1) := by decide +kernel
theorem dX11_init_150 : decode cX11_init 150 = .ok (.iconst 3, 1) := by decide +kernel
theorem dX11_init_151 : decode cX11_init 151 = .ok (.if_icmp .ge 26, 3) := by decide +kernel
theorem dX11_init_154 : decode cX11_init 154 = .ok (.aload_n 0, 1) := by decide +kernel
theorem dX11_init_155 : decode cX11_init 155 = .ok (.getfield 66, 3) := by decide +kernel
theorem dX11_init_158 : decode cX11_init 158 = .ok (.iload_n 1, 1) := by decide +kernel
theorem dX11_init_159 : decode cX11_init 159 = .ok (.new 50, 3) := by decide +kernel
theorem dX11_init_162 : decode cX11_init 162 = .ok (.dup, 1) := by decide +kernel
theorem dX11_init_163 : decode cX11_init 163 = .ok (.aload_n 0, 1) := by decide +kernel
theorem dX11_init_164 : decode cX11_init 164 = .ok (.getfield 12, 3) := by decide +kernel
theorem dX11_init_167 : decode cX11_init 167 = .ok (.invokespecial 52, 3) := by decide +kernel
theorem dX11_init_170 : decode cX11_init 170 = .ok (.aastore, 1) := by decide +kernel
theorem dX11_init_171 : decode cX11_init 171 = .ok (.iinc 1 1, 3) := by decide +kernel
theorem dX11_init_174 : decode cX11_init 174 = .ok (.goto (-25), 3) := by decide +kernel
theorem dX11_init_177 : decode cX11_init 177 = .ok (.aload_n 0, 1) := by decide +kernel
theorem dX11_init_178 : decode cX11_init 178 = .ok (.iconst 3, 1) := by decide +kernel
theorem dX11_init_179 : decode cX11_init 179 = .ok (.newarray .int, 2) := by decide +kernel
theorem dX11_init_181 : decode cX11_init 181 = .ok (.putfield 70, 3) := by decide +kernel
theorem dX11_init_184 : decode cX11_init 184 = .ok (.aload_n 0, 1) := by decide +kernel
theorem dX11_init_185 : decode cX11_init 185 = .ok (.new 74, 3) := by decide +kernel
theorem dX11_init_188 : decode cX11_init 188 = .ok (.dup, 1) := by decide +kernel
theorem dX11_init_189 : decode cX11_init 189 = .ok (.aload_n 0, 1) := by decide +kernel
theorem dX11_init_190 : decode cX11_init 190 = .ok (.getfield 12, 3) := by decide +kernel
theorem dX11_init_193 : decode cX11_init 193 = .ok (.invokespecial 76, 3) := by decide +kernel
theorem dX11_init_196 : decode cX11_init 196 = .ok (.putfield 77, 3) := by decide +kernel
theorem dX11_init_199 : decode cX11_init 199 = .ok (.aload_n 0, 1) := by decide +kernel
theorem dX11_init_200 : decode cX11_init 200 = .ok (.new 81, 3) := by decide +kernel
theorem dX11_init_203 : decode cX11_init 203 = .ok (.dup, 1) := by decide +kernel
theorem dX11_init_204 : decode cX11_init 204 = .ok (.aload_n 0, 1) := by decide +kernel
theorem dX11_init_205 : decode cX11_init 205 = .ok (.getfield 19, 3) := by decide +kernel
theorem dX11_init_208 : decode cX11_init 208 = .ok (.invokespecial 83, 3) := by decide +kernel
theorem dX11_init_211 : decode cX11_init 211 = .ok (.putfield 84, 3) := by decide +kernel
theorem dX11_init_214 : decode cX11_init 214 = .ok (.aload_n 0, 1) := by decide +kernel
theorem dX11_init_215 : decode cX11_init 215 = .ok (.new 88, 3) := by decide +kernel
theorem dX11_init_218 : decode cX11_init 218 = .ok (.dup, 1) := by decide +kernel
theorem dX11_init_219 : decode cX11_init 219 = .ok (.aload_n 0, 1) := by decide +kernel
theorem dX11_init_220 : decode cX11_init 220 = .ok (.getfield 19, 3) := by decide +kernel
theorem dX11_init_223 : decode cX11_init 223 = .ok (.invokespecial 90, 3) := by decide +kernel
theorem dX11_init_226 : decode cX11_init 226 = .ok (.putfield 91, 3) := by decide +kernel
theorem dX11_init_229 : decode cX11_init 229 = .ok (.aload_n 0, 1) := by decide +kernel
theorem dX11_init_230 : decode cX11_init 230 = .ok (.sipush 400, 3) := by decide +kernel
theorem dX11_init_233 : decode cX11_init 233 = .ok (.newarray .int, 2) := by decide +kernel
theorem dX11_init_235 : decode cX11_init 235 = .ok (.putfield 95, 3) := by decide +kernel
theorem dX11_init_238 : decode cX11_init 238 = .ok (.aload_n 0, 1) := by decide +kernel
theorem dX11_init_239 : decode cX11_init 239 = .ok (.iconst (-1), 1) := by decide +kernel
theorem dX11_init_240 : decode cX11_init 240 = .ok (.putfield 98, 3) := by decide +kernel
theorem dX11_init_243 : decode cX11_init 243 = .ok (.return_, 1) := by decide +kernel
theorem dX11_feed_0 : decode cX11_feed 0 = .ok (.aload_n 0, 1) := by decide +kernel
theorem dX11_feed_1 : decode cX11_feed 1 = .ok (.getfield 12, 3) := by decide +kernel
theorem dX11_feed_4 : decode cX11_feed 4 = .ok (.iconst 0, 1) := by decide +kernel
theorem dX11_feed_5 : decode cX11_feed 5 = .ok (.iload_n 1, 1) := by decide +kernel
theorem dX11_feed_6 : decode cX11_feed 6 = .ok (.invokevirtual 102, 3) := by decide +kernel
theorem dX11_feed_9 : decode cX11_feed 9 = .ok (.aload_n 0, 1) := by decide +kernel
theorem dX11_feed_10 : decode cX11_feed 10 = .ok (.getfield 12, 3) := by decide +kernel
theorem dX11_feed_13 : decode cX11_feed 13 = .ok (.iconst 4, 1) := by decide +kernel
theorem dX11_feed_14 : decode cX11_feed 14 = .ok (.iload_n 2, 1) := by decide +kernel
theorem dX11_feed_15 : decode cX11_feed 15 = .ok (.invokevirtual 102, 3) := by decide +kernel
theorem dX11_feed_18 : decode cX11_feed 18 = .ok (.aload_n 0, 1) := by decide +kernel
theorem dX11_feed_19 : decode cX11_feed 19 = .ok (.getfield 12, 3) := by decide +kernel
theorem dX11_feed_22 : decode cX11_feed 22 = .ok (.bipush 8, 2) := by decide +kernel
theorem dX11_feed_24 : decode cX11_feed 24 = .ok (.iload_n 3, 1) := by decide +kernel
theorem dX11_feed_25 : decode cX11_feed 25 = .ok (.invokevirtual 102, 3) := by decide +kernel
theorem dX11_feed_28 : decode cX11_feed 28 = .ok (.aload_n 0, 1) := by decide +kernel
theorem dX11_feed_29 : decode cX11_feed 29 = .ok (.getfield 12, 3) := by decide +kernel
theorem dX11_feed_32 : decode cX11_feed 32 = .ok (.bipush 12, 2) := by decide +kernel
theorem dX11_feed_34 : decode cX11_feed 34 = .ok (.iload 4, 2) := by decide +kernel
theorem dX11_feed_36 : decode cX11_feed 36 = .ok (.invokevirtual 102, 3) := by decide +kernel
theorem dX11_feed_39 : decode cX11_feed 39 = .ok (.aload_n 0, 1) := by decide +kernel
theorem dX11_feed_40 : decode cX11_feed 40 = .ok (.getfield 12, 3) := by decide +kernel
theorem dX11_feed_43 : decode cX11_feed 43 = .ok (.bipush 16, 2) := by decide +kernel
theorem dX11_feed_45 : decode cX11_feed 45 = .ok (.iload 5, 2) := by decide +kernel
theorem dX11_feed_47 : decode cX11_feed 47 = .ok (.invokevirtual 102, 3) := by decide +kernel
theorem dX11_feed_50 : decode cX11_feed 50 = .ok (.return_, 1) := by decide +kernel
theorem dX11_end_0 : decode cX11_end 0 = .ok (.aload_n 0, 1) := by decide +kernel
theorem dX11_end_1 : decode cX11_end 1 = .ok (.getfield 12, 3) := by decide +kernel
theorem dX11_end_4 : decode cX11_end 4 = .ok (.iload_n 1, 1) := by decide +kernel
theorem dX11_end_5 : decode cX11_end 5 = .ok (.invokevirtual 106, 3) := by decide +kernel
theorem dX11_end_8 : decode cX11_end 8 = .ok (.ireturn, 1) := by decide +kernel
theorem dX11_wipe_0 : decode cX11_wipe 0 = .ok (.aload_n 0, 1) := by decide +kernel
theorem dX11_wipe_1 : decode cX11_wipe 1 = .ok (.getfield 12, 3) := by decide +kernel
theorem dX11_wipe_4 : decode cX11_wipe 4 = .ok (.iconst 0, 1) := by decide +kernel
theorem dX11_wipe_5 : decode cX11_wipe 5 = .ok (.putfield 110, 3) := by decide +kernel
theorem dX11_wipe_8 : decode cX11_wipe 8 = .ok (.return_, 1) := by decide +kernel
theorem dX11_flip_0 : decode cX11_flip 0 = .ok (.iload_n 1, 1) := by decide +kernel
theorem dX11_flip_1 : decode cX11_flip 1 = .ok (.ifCond .lt 24, 3) := by decide +kernel
theorem dX11_flip_4 : decode cX11_flip 4 = .ok (.iload_n 1, 1) := by decide +kernel
theorem dX11_flip_5 : decode cX11_flip 5 = .ok (.aload_n 0, 1) := by decide +kernel
theorem dX11_flip_6 : decode cX11_flip 6 = .ok (.getfield 12, 3) := by decide +kernel
theorem dX11_flip_9 : decode cX11_flip 9 = .ok (.getfield 110, 3) := by decide +kernel
theorem dX11_flip_12 : decode cX11_flip 12 = .ok (.if_icmp .ge 13, 3) := by decide +kernel
theorem dX11_flip_25 : decode cX11_flip 25 = .ok (.iconst 0, 1) := by decide +kernel
theorem dX11_flip_26 : decode cX11_flip 26 = .ok (.ireturn, 1) := by decide +kernel
theorem dX11_cut_0 : decode cX11_cut 0 = .ok (.iload_n 1, 1) := by decide +kernel
theorem dX11_cut_1 : decode cX11_cut 1 = .ok (.ifCond .lt 14, 3) := by decide +kernel
theorem dX11_cut_4 : decode cX11_cut 4 = .ok (.iload_n 1, 1) := by decide +kernel
theorem dX11_cut_5 : decode cX11_cut 5 = .ok (.aload_n 0, 1) := by decide +kernel
theorem dX11_cut_6 : decode cX11_cut 6 = .ok (.getfield 12, 3) := by decide +kernel
theorem dX11_cut_9 : decode cX11_cut 9 = .ok (.getfield 110, 3) := by decide +kernel
theorem dX11_cut_12 : decode cX11_cut 12 = .ok (.if_icmp .le 5, 3) := by decide +kernel
theorem dX11_cut_15 : decode cX11_cut 15 = .ok (.iconst 0, 1) := by decide +kernel
theorem dX11_cut_16 : decode cX11_cut 16 = .ok (.ireturn, 1) := by decide +kernel
theorem dX11_cut_17 : decode cX11_cut 17 = .ok (.aload_n 0, 1) := by decide +kernel
theorem dX11_cut_18 : decode cX11_cut 18 = .ok (.getfield 12, 3) := by decide +kernel
theorem dX11_cut_21 : decode cX11_cut 21 = .ok (.iload_n 1, 1) := by decide +kernel
theorem dX11_cut_22 : decode cX11_cut 22 = .ok (.putfield 110, 3) := by decide +kernel
theorem dX11_cut_25 : decode cX11_cut 25 = .ok (.iconst 1, 1) := by decide +kernel
theorem dX11_cut_26 : decode cX11_cut 26 = .ok (.ireturn, 1) := by decide +kernel
theorem dX11_letter_0 : decode cX11_letter 0 = .ok (.iload_n 1, 1) := by decide +kernel
theorem dX11_letter_1 : decode cX11_letter 1 = .ok (.ifCond .lt 26, 3) := by decide +kernel
theorem dX11_letter_4 : decode cX11_letter 4 = .ok (.iload_n 1, 1) := by decide +kernel
theorem dX11_letter_5 : decode cX11_letter 5 = .ok (.aload_n 0, 1) := by decide +kernel
theorem dX11_letter_6 : decode cX11_letter 6 = .ok (.getfield 12, 3) := by decide +kernel
theorem dX11_letter_9 : decode cX11_letter 9 = .ok (.getfield 110, 3) := by decide +kernel
theorem dX11_letter_12 : decode cX11_letter 12 = .ok (.if_icmp .ge 15, 3) := by decide +kernel
theorem dX11_letter_27 : decode cX11_letter 27 = .ok (.iconst (-1), 1) := by decide +kernel
theorem dX11_letter_28 : decode cX11_letter 28 = .ok (.ireturn, 1) := by decide +kernel
theorem dX11_type_0 : decode cX11_type 0 = .ok (.iload_n 1, 1) := by decide +kernel
theorem dX11_type_1 : decode cX11_type 1 = .ok (.iconst (-1), 1) := by decide +kernel
theorem dX11_type_2 : decode cX11_type 2 = .ok (.if_icmp .eq 14, 3) := by decide +kernel
theorem dX11_type_5 : decode cX11_type 5 = .ok (.aload_n 0, 1) := by decide +kernel
theorem dX11_type_6 : decode cX11_type 6 = .ok (.getfield 19, 3) := by decide +kernel
theorem dX11_type_9 : decode cX11_type 9 = .ok (.iload_n 1, 1) := by decide +kernel
theorem dX11_type_10 : decode cX11_type 10 = .ok (.invokevirtual 116, 3) := by decide +kernel
theorem dX11_type_13 : decode cX11_type 13 = .ok (.ifCond .eq 12, 3) := by decide +kernel
theorem dX11_type_16 : decode cX11_type 16 = .ok (.iload_n 2, 1) := by decide +kernel
theorem dX11_type_17 : decode cX11_type 17 = .ok (.ifCond .lt 8, 3) := by decide +kernel
theorem dX11_type_20 : decode cX11_type 20 = .ok (.iload_n 2, 1) := by decide +kernel
theorem dX11_type_21 : decode cX11_type 21 = .ok (.iconst 4, 1) := by decide +kernel
theorem dX11_type_22 : decode cX11_type 22 = .ok (.if_icmp .lt 11, 3) := by decide +kernel
theorem dX11_type_25 : decode cX11_type 25 = .ok (.new 120, 3) := by decide +kernel
theorem dX11_type_28 : decode cX11_type 28 = .ok (.dup, 1) := by decide +kernel
theorem dX11_type_29 : decode cX11_type 29 = .ok (.invokespecial 122, 3) := by decide +kernel
theorem dX11_type_32 : decode cX11_type 32 = .ok (.athrow, 1) := by decide +kernel
theorem dX11_type_33 : decode cX11_type 33 = .ok (.aload_n 0, 1) := by decide +kernel
theorem dX11_type_34 : decode cX11_type 34 = .ok (.getfield 12, 3) := by decide +kernel
theorem dX11_type_37 : decode cX11_type 37 = .ok (.invokevirtual 123, 3) := by decide +kernel
theorem dX11_type_40 : decode cX11_type 40 = .ok (.lstore_n 3, 1) := by decide +kernel
theorem dX11_type_41 : decode cX11_type 41 = .ok (.lload_n 3, 1) := by decide +kernel
theorem dX11_type_42 : decode cX11_type 42 = .ok (.lconst 0, 1) := by decide +kernel
theorem dX11_type_43 : decode cX11_type 43 = .ok (.lcmp, 1) := by decide +kernel
theorem dX11_type_44 : decode cX11_type 44 = .ok (.ifCond .ne 11, 3) := by decide +kernel
theorem dX11_type_47 : decode cX11_type 47 = .ok (.new 127, 3) := by decide +kernel
theorem dX11_type_50 : decode cX11_type 50 = .ok (.dup, 1) := by decide +kernel
theorem dX11_type_51 : decode cX11_type 51 = .ok (.invokespecial 129, 3) := by decide +kernel
theorem dX11_type_54 : decode cX11_type 54 = .ok (.athrow, 1) := by decide +kernel
theorem dX11_field_0 : decode cX11_field 0 = .ok (.aload_n 0, 1) := by decide +kernel
theorem dX11_field_1 : decode cX11_field 1 = .ok (.getfield 19, 3) := by decide +kernel
theorem dX11_field_4 : decode cX11_field 4 = .ok (.iload_n 1, 1) := by decide +kernel
theorem dX11_field_5 : decode cX11_field 5 = .ok (.invokevirtual 116, 3) := by decide +kernel
theorem dX11_field_8 : decode cX11_field 8 = .ok (.ifCond .ne 11, 3) := by decide +kernel
theorem dX11_field_11 : decode cX11_field 11 = .ok (.new 120, 3) := by decide +kernel
theorem dX11_field_14 : decode cX11_field 14 = .ok (.dup, 1) := by decide +kernel
theorem dX11_field_15 : decode cX11_field 15 = .ok (.invokespecial 122, 3) := by decide +kernel
theorem dX11_field_18 : decode cX11_field 18 = .ok (.athrow, 1) := by decide +kernel
theorem dX11_typeLook_0 : decode cX11_typeLook 0 = .ok (.aload_n 0, 1) := by decide +kernel
theorem dX11_typeLook_1 : decode cX11_typeLook 1 = .ok (.getfield 19, 3) := by decide +kernel
theorem dX11_typeLook_4 : decode cX11_typeLook 4 = .ok (.iload_n 1, 1) := by decide +kernel
theorem dX11_typeLook_5 : decode cX11_typeLook 5 = .ok (.invokevirtual 116, 3) := by decide +kernel
theorem dX11_typeLook_8 : decode cX11_typeLook 8 = .ok (.ifCond .ne 5, 3) := by decide +kernel
theorem dX11_typeLook_11 : decode cX11_typeLook 11 = .ok (.iconst (-1), 1) := by decide +kernel
theorem dX11_typeLook_12 : decode cX11_typeLook 12 = .ok (.ireturn, 1) := by decide +kernel
theorem dX11_fieldLook_0 : decode cX11_fieldLook 0 = .ok (.aload_n 0, 1) := by decide +kernel
theorem dX11_fieldLook_1 : decode cX11_fieldLook 1 = .ok (.getfield 19, 3) := by decide +kernel
theorem dX11_fieldLook_4 : decode cX11_fieldLook 4 = .ok (.iload_n 1, 1) := by decide +kernel
theorem dX11_fieldLook_5 : decode cX11_fieldLook 5 = .ok (.iload_n 2, 1) := by decide +kernel
theorem dX11_fieldLook_6 : decode cX11_fieldLook 6 = .ok (.invokevirtual 188, 3) := by decide +kernel
theorem dX11_fieldLook_9 : decode cX11_fieldLook 9 = .ok (.ifCond .ne 5, 3) := by decide +kernel
theorem dX11_fieldLook_12 : decode cX11_fieldLook 12 = .ok (.iconst (-1), 1) := by decide +kernel
theorem dX11_fieldLook_13 : decode cX11_fieldLook 13 = .ok (.ireturn, 1) := by decide +kernel
theorem dX11_make_0 : decode cX11_make 0 = .ok (.aload_n 0, 1) := by decide +kernel
theorem dX11_make_1 : decode cX11_make 1 = .ok (.getfield 19, 3) := by decide +kernel
theorem dX11_make_4 : decode cX11_make 4 = .ok (.iload_n 1, 1) := by decide +kernel
theorem dX11_make_5 : decode cX11_make 5 = .ok (.invokevirtual 144, 3) := by decide +kernel
theorem dX11_make_8 : decode cX11_make 8 = .ok (.ifCond .eq 20, 3) := by decide +kernel
theorem dX11_make_11 : decode cX11_make 11 = .ok (.iload_n 1, 1) := by decide +kernel
theorem dX11_make_12 : decode cX11_make 12 = .ok (.invokestatic 206, 3) := by decide +kernel
theorem dX11_make_15 : decode cX11_make 15 = .ok (.ifCond .eq 21, 3) := by decide +kernel
theorem dX11_make_18 : decode cX11_make 18 = .ok (.iload_n 2, 1) := by decide +kernel
theorem dX11_make_19 : decode cX11_make 19 = .ok (.ifCond .lt 9, 3) := by decide +kernel
theorem dX11_make_22 : decode cX11_make 22 = .ok (.iload_n 2, 1) := by decide +kernel
theorem dX11_make_23 : decode cX11_make 23 = .ok (.bipush 60, 2) := by decide +kernel
theorem dX11_make_25 : decode cX11_make 25 = .ok (.if_icmp .le 11, 3) := by decide +kernel
theorem dX11_make_28 : decode cX11_make 28 = .ok (.new 127, 3) := by decide +kernel
theorem dX11_make_31 : decode cX11_make 31 = .ok (.dup, 1) := by decide +kernel
theorem dX11_make_32 : decode cX11_make 32 = .ok (.invokespecial 129, 3) := by decide +kernel
theorem dX11_make_35 : decode cX11_make 35 = .ok (.athrow, 1) := by decide +kernel
theorem dX11_make_36 : decode cX11_make 36 = .ok (.iload_n 1, 1) := by decide +kernel
theorem dX11_make_37 : decode cX11_make 37 = .ok (.invokestatic 206, 3) := by decide +kernel
theorem dX11_make_40 : decode cX11_make 40 = .ok (.ifCond .eq 7, 3) := by decide +kernel
theorem dX11_make_43 : decode cX11_make 43 = .ok (.iload_n 2, 1) := by decide +kernel
theorem dX11_make_44 : decode cX11_make 44 = .ok (.goto 4, 3) := by decide +kernel
theorem dX11_make_48 : decode cX11_make 48 = .ok (.istore_n 3, 1) := by decide +kernel
theorem dX11_make_49 : decode cX11_make 49 = .ok (.aload_n 0, 1) := by decide +kernel
theorem dX11_make_50 : decode cX11_make 50 = .ok (.getfield 28, 3) := by decide +kernel
theorem dX11_make_53 : decode cX11_make 53 = .ok (.iconst 1, 1) := by decide +kernel
theorem dX11_make_54 : decode cX11_make 54 = .ok (.aload_n 0, 1) := by decide +kernel
theorem dX11_make_55 : decode cX11_make 55 = .ok (.getfield 19, 3) := by decide +kernel
theorem dX11_make_58 : decode cX11_make 58 = .ok (.iload_n 1, 1) := by decide +kernel
theorem dX11_make_59 : decode cX11_make 59 = .ok (.iload_n 3, 1) := by decide +kernel
theorem dX11_make_60 : decode cX11_make 60 = .ok (.invokevirtual 209, 3) := by decide +kernel
theorem dX11_make_63 : decode cX11_make 63 = .ok (.invokevirtual 212, 3) := by decide +kernel
theorem dX11_make_66 : decode cX11_make 66 = .ok (.ifCond .ne 11, 3) := by decide +kernel
theorem dX11_make_77 : decode cX11_make 77 = .ok (.aload_n 0, 1) := by decide +kernel
theorem dX11_make_78 : decode cX11_make 78 = .ok (.getfield 28, 3) := by decide +kernel
theorem dX11_make_81 : decode cX11_make 81 = .ok (.iload_n 1, 1) := by decide +kernel
theorem dX11_make_82 : decode cX11_make 82 = .ok (.iload_n 3, 1) := by decide +kernel
theorem dX11_make_83 : decode cX11_make 83 = .ok (.invokevirtual 215, 3) := by decide +kernel
theorem dX11_make_86 : decode cX11_make 86 = .ok (.ireturn, 1) := by decide +kernel
theorem dX11_root_0 : decode cX11_root 0 = .ok (.aload_n 0, 1) := by decide +kernel
theorem dX11_root_1 : decode cX11_root 1 = .ok (.getfield 28, 3) := by decide +kernel
theorem dX11_root_4 : decode cX11_root 4 = .ok (.iload_n 1, 1) := by decide +kernel
theorem dX11_root_5 : decode cX11_root 5 = .ok (.invokevirtual 218, 3) := by decide +kernel
theorem dX11_root_8 : decode cX11_root 8 = .ok (.ifCond .ne 11, 3) := by decide +kernel
theorem dX11_root_11 : decode cX11_root 11 = .ok (.new 221, 3) := by decide +kernel
theorem dX11_root_14 : decode cX11_root 14 = .ok (.dup, 1) := by decide +kernel
theorem dX11_root_15 : decode cX11_root 15 = .ok (.invokespecial 223, 3) := by decide +kernel
theorem dX11_root_18 : decode cX11_root 18 = .ok (.athrow, 1) := by decide +kernel
theorem dX11_set_0 : decode cX11_set 0 = .ok (.aload_n 0, 1) := by decide +kernel
theorem dX11_set_1 : decode cX11_set 1 = .ok (.getfield 28, 3) := by decide +kernel
theorem dX11_set_4 : decode cX11_set 4 = .ok (.iload_n 1, 1) := by decide +kernel
theorem dX11_set_5 : decode cX11_set 5 = .ok (.iload_n 2, 1) := by decide +kernel
theorem dX11_set_6 : decode cX11_set 6 = .ok (.invokevirtual 237, 3) := by decide +kernel
theorem dX11_set_9 : decode cX11_set 9 = .ok (.ifCond .ne 11, 3) := by decide +kernel
theorem dX11_set_12 : decode cX11_set 12 = .ok (.new 221, 3) := by decide +kernel
theorem dX11_set_15 : decode cX11_set 15 = .ok (.dup, 1) := by decide +kernel
theorem dX11_set_16 : decode cX11_set 16 = .ok (.invokespecial 223, 3) := by decide +kernel
theorem dX11_set_19 : decode cX11_set 19 = .ok (.athrow, 1) := by decide +kernel
theorem dX11_setStatic_0 : decode cX11_setStatic 0 = .ok (.aload_n 0, 1) := by decide +kernel
theorem dX11_setStatic_1 : decode cX11_setStatic 1 = .ok (.getfield 19, 3) := by decide +kernel
theorem dX11_setStatic_4 : decode cX11_setStatic 4 = .ok (.iload_n 1, 1) := by decide +kernel
theorem dX11_setStatic_5 : decode cX11_setStatic 5 = .ok (.iload_n 2, 1) := by decide +kernel
theorem dX11_setStatic_6 : decode cX11_setStatic 6 = .ok (.invokevirtual 260, 3) := by decide +kernel
theorem dX11_setStatic_9 : decode cX11_setStatic 9 = .ok (.istore 5, 2) := by decide +kernel
theorem dX11_setStatic_11 : decode cX11_setStatic 11 = .ok (.iload 5, 2) := by decide +kernel
theorem dX11_setStatic_13 : decode cX11_setStatic 13 = .ok (.iconst (-1), 1) := by decide +kernel
theorem dX11_setStatic_14 : decode cX11_setStatic 14 = .ok (.if_icmp .ne 11, 3) := by decide +kernel
theorem dX11_setStatic_17 : decode cX11_setStatic 17 = .ok (.new 221, 3) := by decide +kernel
theorem dX11_setStatic_20 : decode cX11_setStatic 20 = .ok (.dup, 1) := by decide +kernel
theorem dX11_setStatic_21 : decode cX11_setStatic 21 = .ok (.invokespecial 223, 3) := by decide +kernel
theorem dX11_setStatic_24 : decode cX11_setStatic 24 = .ok (.athrow, 1) := by decide +kernel
theorem dX11_get_0 : decode cX11_get 0 = .ok (.aload_n 0, 1) := by decide +kernel
theorem dX11_get_1 : decode cX11_get 1 = .ok (.getfield 28, 3) := by decide +kernel
theorem dX11_get_4 : decode cX11_get 4 = .ok (.iload_n 1, 1) := by decide +kernel
theorem dX11_get_5 : decode cX11_get 5 = .ok (.iload_n 2, 1) := by decide +kernel
theorem dX11_get_6 : decode cX11_get 6 = .ok (.invokevirtual 237, 3) := by decide +kernel
theorem dX11_get_9 : decode cX11_get 9 = .ok (.ifCond .ne 11, 3) := by decide +kernel
theorem dX11_get_12 : decode cX11_get 12 = .ok (.new 221, 3) := by decide +kernel
theorem dX11_get_15 : decode cX11_get 15 = .ok (.dup, 1) := by decide +kernel
theorem dX11_get_16 : decode cX11_get 16 = .ok (.invokespecial 223, 3) := by decide +kernel
theorem dX11_get_19 : decode cX11_get 19 = .ok (.athrow, 1) := by decide +kernel
theorem dX11_getStatic_0 : decode cX11_getStatic 0 = .ok (.aload_n 0, 1) := by decide +kernel
theorem dX11_getStatic_1 : decode cX11_getStatic 1 = .ok (.getfield 19, 3) := by decide +kernel
theorem dX11_getStatic_4 : decode cX11_getStatic 4 = .ok (.iload_n 1, 1) := by decide +kernel
theorem dX11_getStatic_5 : decode cX11_getStatic 5 = .ok (.iload_n 2, 1) := by decide +kernel
theorem dX11_getStatic_6 : decode cX11_getStatic 6 = .ok (.invokevirtual 260, 3) := by decide +kernel
theorem dX11_getStatic_9 : decode cX11_getStatic 9 = .ok (.istore_n 3, 1) := by decide +kernel
theorem dX11_getStatic_10 : decode cX11_getStatic 10 = .ok (.iload_n 3, 1) := by decide +kernel
theorem dX11_getStatic_11 : decode cX11_getStatic 11 = .ok (.iconst (-1), 1) := by decide +kernel
theorem dX11_getStatic_12 : decode cX11_getStatic 12 = .ok (.if_icmp .ne 11, 3) := by decide +kernel
theorem dX11_getStatic_15 : decode cX11_getStatic 15 = .ok (.new 221, 3) := by decide +kernel
theorem dX11_getStatic_18 : decode cX11_getStatic 18 = .ok (.dup, 1) := by decide +kernel
theorem dX11_getStatic_19 : decode cX11_getStatic 19 = .ok (.invokespecial 223, 3) := by decide +kernel
theorem dX11_getStatic_22 : decode cX11_getStatic 22 = .ok (.athrow, 1) := by decide +kernel
theorem dX11_object_0 : decode cX11_object 0 = .ok (.aload_n 0, 1) := by decide +kernel
theorem dX11_object_1 : decode cX11_object 1 = .ok (.getfield 28, 3) := by decide +kernel
theorem dX11_object_4 : decode cX11_object 4 = .ok (.iload_n 1, 1) := by decide +kernel
theorem dX11_object_5 : decode cX11_object 5 = .ok (.invokevirtual 218, 3) := by decide +kernel
theorem dX11_object_8 : decode cX11_object 8 = .ok (.ifCond .ne 5, 3) := by decide +kernel
theorem dX11_object_11 : decode cX11_object 11 = .ok (.iconst (-1), 1) := by decide +kernel
theorem dX11_object_12 : decode cX11_object 12 = .ok (.ireturn, 1) := by decide +kernel
theorem dX11_collect_0 : decode cX11_collect 0 = .ok (.aload_n 0, 1) := by decide +kernel
theorem dX11_collect_1 : decode cX11_collect 1 = .ok (.getfield 35, 3) := by decide +kernel
theorem dX11_collect_4 : decode cX11_collect 4 = .ok (.invokevirtual 276, 3) := by decide +kernel
theorem dX11_collect_7 : decode cX11_collect 7 = .ok (.aload_n 0, 1) := by decide +kernel
theorem dX11_collect_8 : decode cX11_collect 8 = .ok (.getfield 28, 3) := by decide +kernel
theorem dX11_collect_11 : decode cX11_collect 11 = .ok (.invokevirtual 279, 3) := by decide +kernel
theorem dX11_collect_14 : decode cX11_collect 14 = .ok (.ireturn, 1) := by decide +kernel
theorem dX11_undo_0 : decode cX11_undo 0 = .ok (.aload_n 0, 1) := by decide +kernel
theorem dX11_undo_1 : decode cX11_undo 1 = .ok (.getfield 35, 3) := by decide +kernel
theorem dX11_undo_4 : decode cX11_undo 4 = .ok (.aload_n 0, 1) := by decide +kernel
theorem dX11_undo_5 : decode cX11_undo 5 = .ok (.getfield 28, 3) := by decide +kernel
theorem dX11_undo_8 : decode cX11_undo 8 = .ok (.invokevirtual 283, 3) := by decide +kernel
theorem dX11_undo_11 : decode cX11_undo 11 = .ok (.ireturn, 1) := by decide +kernel
theorem dX11_swap_0 : decode cX11_swap 0 = .ok (.aload_n 0, 1) := by decide +kernel
theorem dX11_swap_1 : decode cX11_swap 1 = .ok (.getfield 28, 3) := by decide +kernel
theorem dX11_swap_4 : decode cX11_swap 4 = .ok (.iload_n 1, 1) := by decide +kernel
theorem dX11_swap_5 : decode cX11_swap 5 = .ok (.invokevirtual 218, 3) := by decide +kernel
theorem dX11_swap_8 : decode cX11_swap 8 = .ok (.ifCond .eq 14, 3) := by decide +kernel
theorem dX11_swap_22 : decode cX11_swap 22 = .ok (.new 221, 3) := by decide +kernel
theorem dX11_swap_25 : decode cX11_swap 25 = .ok (.dup, 1) := by decide +kernel
theorem dX11_swap_26 : decode cX11_swap 26 = .ok (.invokespecial 223, 3) := by decide +kernel
theorem dX11_swap_29 : decode cX11_swap 29 = .ok (.athrow, 1) := by decide +kernel
theorem dX11_copy_0 : decode cX11_copy 0 = .ok (.aload_n 0, 1) := by decide +kernel
theorem dX11_copy_1 : decode cX11_copy 1 = .ok (.getfield 28, 3) := by decide +kernel
theorem dX11_copy_4 : decode cX11_copy 4 = .ok (.iload_n 1, 1) := by decide +kernel
theorem dX11_copy_5 : decode cX11_copy 5 = .ok (.invokevirtual 218, 3) := by decide +kernel
theorem dX11_copy_8 : decode cX11_copy 8 = .ok (.ifCond .ne 11, 3) := by decide +kernel
theorem dX11_copy_11 : decode cX11_copy 11 = .ok (.new 221, 3) := by decide +kernel
theorem dX11_copy_14 : decode cX11_copy 14 = .ok (.dup, 1) := by decide +kernel
theorem dX11_copy_15 : decode cX11_copy 15 = .ok (.invokespecial 223, 3) := by decide +kernel
theorem dX11_copy_18 : decode cX11_copy 18 = .ok (.athrow, 1) := by decide +kernel
theorem dX11_apart_0 : decode cX11_apart 0 = .ok (.aload_n 0, 1) := by decide +kernel
theorem dX11_apart_1 : decode cX11_apart 1 = .ok (.getfield 19, 3) := by decide +kernel
theorem dX11_apart_4 : decode cX11_apart 4 = .ok (.iload_n 1, 1) := by decide +kernel
theorem dX11_apart_5 : decode cX11_apart 5 = .ok (.invokevirtual 116, 3) := by decide +kernel
theorem dX11_apart_8 : decode cX11_apart 8 = .ok (.ifCond .ne 5, 3) := by decide +kernel
theorem dX11_apart_11 : decode cX11_apart 11 = .ok (.iconst 0, 1) := by decide +kernel
theorem dX11_apart_12 : decode cX11_apart 12 = .ok (.ireturn, 1) := by decide +kernel
theorem dX11_watch_0 : decode cX11_watch 0 = .ok (.aload_n 0, 1) := by decide +kernel
theorem dX11_watch_1 : decode cX11_watch 1 = .ok (.getfield 19, 3) := by decide +kernel
theorem dX11_watch_4 : decode cX11_watch 4 = .ok (.iload_n 1, 1) := by decide +kernel
theorem dX11_watch_5 : decode cX11_watch 5 = .ok (.iload_n 2, 1) := by decide +kernel
theorem dX11_watch_6 : decode cX11_watch 6 = .ok (.invokevirtual 188, 3) := by decide +kernel
theorem dX11_watch_9 : decode cX11_watch 9 = .ok (.ifCond .ne 11, 3) := by decide +kernel
theorem dX11_watch_12 : decode cX11_watch 12 = .ok (.new 221, 3) := by decide +kernel
theorem dX11_watch_15 : decode cX11_watch 15 = .ok (.dup, 1) := by decide +kernel
theorem dX11_watch_16 : decode cX11_watch 16 = .ok (.invokespecial 223, 3) := by decide +kernel
theorem dX11_watch_19 : decode cX11_watch 19 = .ok (.athrow, 1) := by decide +kernel
theorem dX11_rows_0 : decode cX11_rows 0 = .ok (.iload_n 1, 1) := by decide +kernel
theorem dX11_rows_1 : decode cX11_rows 1 = .ok (.ifCond .lt 26, 3) := by decide +kernel
theorem dX11_rows_4 : decode cX11_rows 4 = .ok (.iload_n 1, 1) := by decide +kernel
theorem dX11_rows_5 : decode cX11_rows 5 = .ok (.aload_n 0, 1) := by decide +kernel
theorem dX11_rows_6 : decode cX11_rows 6 = .ok (.getfield 35, 3) := by decide +kernel
theorem dX11_rows_9 : decode cX11_rows 9 = .ok (.getfield 309, 3) := by decide +kernel
theorem dX11_rows_12 : decode cX11_rows 12 = .ok (.if_icmp .ge 15, 3) := by decide +kernel
theorem dX11_rows_27 : decode cX11_rows 27 = .ok (.iconst (-1), 1) := by decide +kernel
theorem dX11_rows_28 : decode cX11_rows 28 = .ok (.ireturn, 1) := by decide +kernel
theorem dX11_row_0 : decode cX11_row 0 = .ok (.iload_n 2, 1) := by decide +kernel
theorem dX11_row_1 : decode cX11_row 1 = .ok (.ifCond .lt 21, 3) := by decide +kernel
theorem dX11_row_4 : decode cX11_row 4 = .ok (.iload_n 2, 1) := by decide +kernel
theorem dX11_row_5 : decode cX11_row 5 = .ok (.aload_n 0, 1) := by decide +kernel
theorem dX11_row_6 : decode cX11_row 6 = .ok (.iload_n 1, 1) := by decide +kernel
theorem dX11_row_7 : decode cX11_row 7 = .ok (.invokevirtual 319, 3) := by decide +kernel
theorem dX11_row_10 : decode cX11_row 10 = .ok (.if_icmp .ge 12, 3) := by decide +kernel
theorem dX11_row_22 : decode cX11_row 22 = .ok (.new 221, 3) := by decide +kernel
theorem dX11_row_25 : decode cX11_row 25 = .ok (.dup, 1) := by decide +kernel
theorem dX11_row_26 : decode cX11_row 26 = .ok (.invokespecial 223, 3) := by decide +kernel
theorem dX11_row_29 : decode cX11_row 29 = .ok (.athrow, 1) := by decide +kernel
theorem dX11_promise_0 : decode cX11_promise 0 = .ok (.aload_n 0, 1) := by decide +kernel
theorem dX11_promise_1 : decode cX11_promise 1 = .ok (.getfield 326, 3) := by decide +kernel
theorem dX11_promise_4 : decode cX11_promise 4 = .ok (.iconst 3, 1) := by decide +kernel
theorem dX11_promise_5 : decode cX11_promise 5 = .ok (.if_icmp .ne 11, 3) := by decide +kernel
theorem dX11_promise_16 : decode cX11_promise 16 = .ok (.aload_n 0, 1) := by decide +kernel
theorem dX11_promise_17 : decode cX11_promise 17 = .ok (.getfield 66, 3) := by decide +kernel
theorem dX11_promise_20 : decode cX11_promise 20 = .ok (.aload_n 0, 1) := by decide +kernel
theorem dX11_promise_21 : decode cX11_promise 21 = .ok (.getfield 326, 3) := by decide +kernel
theorem dX11_promise_24 : decode cX11_promise 24 = .ok (.aaload, 1) := by decide +kernel
theorem dX11_promise_25 : decode cX11_promise 25 = .ok (.astore_n 1, 1) := by decide +kernel
theorem dX11_promise_26 : decode cX11_promise 26 = .ok (.aload_n 1, 1) := by decide +kernel
theorem dX11_promise_27 : decode cX11_promise 27 = .ok (.invokevirtual 329, 3) := by decide +kernel
theorem dX11_promise_30 : decode cX11_promise 30 = .ok (.istore_n 2, 1) := by decide +kernel
theorem dX11_promise_31 : decode cX11_promise 31 = .ok (.aload_n 0, 1) := by decide +kernel
theorem dX11_promise_32 : decode cX11_promise 32 = .ok (.aload_n 1, 1) := by decide +kernel
theorem dX11_promise_33 : decode cX11_promise 33 = .ok (.getfield 333, 3) := by decide +kernel
theorem dX11_promise_36 : decode cX11_promise 36 = .ok (.aload_n 1, 1) := by decide +kernel
theorem dX11_promise_37 : decode cX11_promise 37 = .ok (.getfield 336, 3) := by decide +kernel
theorem dX11_promise_40 : decode cX11_promise 40 = .ok (.invokevirtual 339, 3) := by decide +kernel
theorem dX11_promise_43 : decode cX11_promise 43 = .ok (.iload_n 2, 1) := by decide +kernel
theorem dX11_promise_44 : decode cX11_promise 44 = .ok (.ifCond .ne 11, 3) := by decide +kernel
theorem dX11_promise_47 : decode cX11_promise 47 = .ok (.new 127, 3) := by decide +kernel
theorem dX11_promise_50 : decode cX11_promise 50 = .ok (.dup, 1) := by decide +kernel
theorem dX11_promise_51 : decode cX11_promise 51 = .ok (.invokespecial 129, 3) := by decide +kernel
theorem dX11_promise_54 : decode cX11_promise 54 = .ok (.athrow, 1) := by decide +kernel
theorem dX11_broken_0 : decode cX11_broken 0 = .ok (.iload_n 1, 1) := by decide +kernel
theorem dX11_broken_1 : decode cX11_broken 1 = .ok (.ifCond .lt 11, 3) := by decide +kernel
theorem dX11_broken_4 : decode cX11_broken 4 = .ok (.iload_n 1, 1) := by decide +kernel
theorem dX11_broken_5 : decode cX11_broken 5 = .ok (.aload_n 0, 1) := by decide +kernel
theorem dX11_broken_6 : decode cX11_broken 6 = .ok (.getfield 326, 3) := by decide +kernel
theorem dX11_broken_9 : decode cX11_broken 9 = .ok (.if_icmp .lt 11, 3) := by decide +kernel
theorem dX11_broken_12 : decode cX11_broken 12 = .ok (.new 221, 3) := by decide +kernel
theorem dX11_broken_15 : decode cX11_broken 15 = .ok (.dup, 1) := by decide +kernel
theorem dX11_broken_16 : decode cX11_broken 16 = .ok (.invokespecial 223, 3) := by decide +kernel
theorem dX11_broken_19 : decode cX11_broken 19 = .ok (.athrow, 1) := by decide +kernel
theorem dX11_take_0 : decode cX11_take 0 = .ok (.iload_n 1, 1) := by decide +kernel
theorem dX11_take_1 : decode cX11_take 1 = .ok (.invokestatic 353, 3) := by decide +kernel
theorem dX11_take_4 : decode cX11_take 4 = .ok (.aload_n 0, 1) := by decide +kernel
theorem dX11_take_5 : decode cX11_take 5 = .ok (.getfield 41, 3) := by decide +kernel
theorem dX11_take_8 : decode cX11_take 8 = .ok (.iload_n 1, 1) := by decide +kernel
theorem dX11_take_9 : decode cX11_take 9 = .ok (.aaload, 1) := by decide +kernel
theorem dX11_take_10 : decode cX11_take 10 = .ok (.aload_n 0, 1) := by decide +kernel
theorem dX11_take_11 : decode cX11_take 11 = .ok (.getfield 28, 3) := by decide +kernel
theorem dX11_take_14 : decode cX11_take 14 = .ok (.invokevirtual 342, 3) := by decide +kernel
theorem dX11_take_17 : decode cX11_take 17 = .ok (.aload_n 0, 1) := by decide +kernel
theorem dX11_take_18 : decode cX11_take 18 = .ok (.getfield 41, 3) := by decide +kernel
theorem dX11_take_21 : decode cX11_take 21 = .ok (.iload_n 1, 1) := by decide +kernel
theorem dX11_take_22 : decode cX11_take 22 = .ok (.aaload, 1) := by decide +kernel
theorem dX11_take_23 : decode cX11_take 23 = .ok (.getfield 356, 3) := by decide +kernel
theorem dX11_take_26 : decode cX11_take 26 = .ok (.ireturn, 1) := by decide +kernel
theorem dX11_thing_0 : decode cX11_thing 0 = .ok (.aload_n 0, 1) := by decide +kernel
theorem dX11_thing_1 : decode cX11_thing 1 = .ok (.iload_n 1, 1) := by decide +kernel
theorem dX11_thing_2 : decode cX11_thing 2 = .ok (.iload_n 2, 1) := by decide +kernel
theorem dX11_thing_3 : decode cX11_thing 3 = .ok (.invokevirtual 359, 3) := by decide +kernel
theorem dX11_thing_6 : decode cX11_thing 6 = .ok (.ifCond .ne 5, 3) := by decide +kernel
theorem dX11_thing_9 : decode cX11_thing 9 = .ok (.iconst (-1), 1) := by decide +kernel
theorem dX11_thing_10 : decode cX11_thing 10 = .ok (.ireturn, 1) := by decide +kernel
theorem dX11_slot_0 : decode cX11_slot 0 = .ok (.aload_n 0, 1) := by decide +kernel
theorem dX11_slot_1 : decode cX11_slot 1 = .ok (.iload_n 1, 1) := by decide +kernel
theorem dX11_slot_2 : decode cX11_slot 2 = .ok (.iload_n 2, 1) := by decide +kernel
theorem dX11_slot_3 : decode cX11_slot 3 = .ok (.invokevirtual 359, 3) := by decide +kernel
theorem dX11_slot_6 : decode cX11_slot 6 = .ok (.ifCond .eq 36, 3) := by decide +kernel
theorem dX11_slot_42 : decode cX11_slot 42 = .ok (.new 221, 3) := by decide +kernel
theorem dX11_slot_45 : decode cX11_slot 45 = .ok (.dup, 1) := by decide +kernel
theorem dX11_slot_46 : decode cX11_slot 46 = .ok (.invokespecial 223, 3) := by decide +kernel
theorem dX11_slot_49 : decode cX11_slot 49 = .ok (.athrow, 1) := by decide +kernel
theorem dX11_holder_0 : decode cX11_holder 0 = .ok (.aload_n 0, 1) := by decide +kernel
theorem dX11_holder_1 : decode cX11_holder 1 = .ok (.iload_n 1, 1) := by decide +kernel
theorem dX11_holder_2 : decode cX11_holder 2 = .ok (.iload_n 2, 1) := by decide +kernel
theorem dX11_holder_3 : decode cX11_holder 3 = .ok (.invokevirtual 359, 3) := by decide +kernel
theorem dX11_holder_6 : decode cX11_holder 6 = .ok (.ifCond .eq 32, 3) := by decide +kernel
theorem dX11_holder_38 : decode cX11_holder 38 = .ok (.new 221, 3) := by decide +kernel
theorem dX11_holder_41 : decode cX11_holder 41 = .ok (.dup, 1) := by decide +kernel
theorem dX11_holder_42 : decode cX11_holder 42 = .ok (.invokespecial 223, 3) := by decide +kernel
theorem dX11_holder_45 : decode cX11_holder 45 = .ok (.athrow, 1) := by decide +kernel
theorem dX11_picture_0 : decode cX11_picture 0 = .ok (.iload_n 1, 1) := by decide +kernel
theorem dX11_picture_1 : decode cX11_picture 1 = .ok (.invokestatic 411, 3) := by decide +kernel
theorem dX11_picture_4 : decode cX11_picture 4 = .ok (.ifCond .ne 5, 3) := by decide +kernel
theorem dX11_picture_7 : decode cX11_picture 7 = .ok (.iconst (-1), 1) := by decide +kernel
theorem dX11_picture_8 : decode cX11_picture 8 = .ok (.ireturn, 1) := by decide +kernel
theorem dX11_picture_9 : decode cX11_picture 9 = .ok (.aload_n 0, 1) := by decide +kernel
theorem dX11_picture_10 : decode cX11_picture 10 = .ok (.getfield 41, 3) := by decide +kernel
theorem dX11_picture_13 : decode cX11_picture 13 = .ok (.iload_n 1, 1) := by decide +kernel
theorem dX11_picture_14 : decode cX11_picture 14 = .ok (.aaload, 1) := by decide +kernel
theorem dX11_picture_15 : decode cX11_picture 15 = .ok (.astore_n 3, 1) := by decide +kernel
theorem dX11_picture_16 : decode cX11_picture 16 = .ok (.iload_n 2, 1) := by decide +kernel
theorem dX11_picture_17 : decode cX11_picture 17 = .ok (.tableswitch 95 0 5 #[39, 44, 49, 54, 63, 72], 39) := by decide +kernel
theorem dX11_picture_56 : decode cX11_picture 56 = .ok (.aload_n 3, 1) := by decide +kernel
theorem dX11_picture_57 : decode cX11_picture 57 = .ok (.getfield 356, 3) := by decide +kernel
theorem dX11_picture_60 : decode cX11_picture 60 = .ok (.ireturn, 1) := by decide +kernel
theorem dX11_picture_61 : decode cX11_picture 61 = .ok (.aload_n 3, 1) := by decide +kernel
theorem dX11_picture_62 : decode cX11_picture 62 = .ok (.invokevirtual 414, 3) := by decide +kernel
theorem dX11_picture_65 : decode cX11_picture 65 = .ok (.ireturn, 1) := by decide +kernel
theorem dX11_picture_66 : decode cX11_picture 66 = .ok (.aload_n 3, 1) := by decide +kernel
theorem dX11_picture_67 : decode cX11_picture 67 = .ok (.invokevirtual 417, 3) := by decide +kernel
theorem dX11_picture_70 : decode cX11_picture 70 = .ok (.ireturn, 1) := by decide +kernel
theorem dX11_picture_71 : decode cX11_picture 71 = .ok (.aload_n 3, 1) := by decide +kernel
theorem dX11_picture_72 : decode cX11_picture 72 = .ok (.aload_n 0, 1) := by decide +kernel
theorem dX11_picture_73 : decode cX11_picture 73 = .ok (.getfield 19, 3) := by decide +kernel
theorem dX11_picture_76 : decode cX11_picture 76 = .ok (.invokevirtual 420, 3) := by decide +kernel
theorem dX11_picture_79 : decode cX11_picture 79 = .ok (.ireturn, 1) := by decide +kernel
theorem dX11_picture_80 : decode cX11_picture 80 = .ok (.aload_n 3, 1) := by decide +kernel
theorem dX11_picture_81 : decode cX11_picture 81 = .ok (.aload_n 0, 1) := by decide +kernel
theorem dX11_picture_82 : decode cX11_picture 82 = .ok (.getfield 19, 3) := by decide +kernel
theorem dX11_picture_85 : decode cX11_picture 85 = .ok (.invokevirtual 424, 3) := by decide +kernel
theorem dX11_picture_88 : decode cX11_picture 88 = .ok (.ireturn, 1) := by decide +kernel
theorem dX11_picture_89 : decode cX11_picture 89 = .ok (.aload_n 3, 1) := by decide +kernel
theorem dX11_picture_90 : decode cX11_picture 90 = .ok (.getfield 356, 3) := by decide +kernel
theorem dX11_picture_93 : decode cX11_picture 93 = .ok (.ifCond .ne 7, 3) := by decide +kernel
theorem dX11_picture_96 : decode cX11_picture 96 = .ok (.iconst (-1), 1) := by decide +kernel
theorem dX11_picture_97 : decode cX11_picture 97 = .ok (.goto 14, 3) := by decide +kernel
theorem dX11_picture_111 : decode cX11_picture 111 = .ok (.ireturn, 1) := by decide +kernel
theorem dX11_picture_112 : decode cX11_picture 112 = .ok (.iload_n 2, 1) := by decide +kernel
theorem dX11_picture_113 : decode cX11_picture 113 = .ok (.sipush 200, 3) := by decide +kernel
theorem dX11_picture_116 : decode cX11_picture 116 = .ok (.if_icmp .lt 36, 3) := by decide +kernel
theorem dX11_picture_119 : decode cX11_picture 119 = .ok (.aload_n 0, 1) := by decide +kernel
theorem dX11_picture_120 : decode cX11_picture 120 = .ok (.getfield 19, 3) := by decide +kernel
theorem dX11_picture_123 : decode cX11_picture 123 = .ok (.iload_n 2, 1) := by decide +kernel
theorem dX11_picture_124 : decode cX11_picture 124 = .ok (.sipush 200, 3) := by decide +kernel
theorem dX11_picture_127 : decode cX11_picture 127 = .ok (.isub, 1) := by decide +kernel
theorem dX11_picture_128 : decode cX11_picture 128 = .ok (.invokevirtual 116, 3) := by decide +kernel
theorem dX11_picture_131 : decode cX11_picture 131 = .ok (.ifCond .eq 19, 3) := by decide +kernel
theorem dX11_picture_150 : decode cX11_picture 150 = .ok (.iconst (-1), 1) := by decide +kernel
theorem dX11_picture_151 : decode cX11_picture 151 = .ok (.ireturn, 1) := by decide +kernel
theorem dX11_picture_152 : decode cX11_picture 152 = .ok (.iload_n 2, 1) := by decide +kernel
theorem dX11_picture_153 : decode cX11_picture 153 = .ok (.bipush 100, 2) := by decide +kernel
theorem dX11_picture_155 : decode cX11_picture 155 = .ok (.if_icmp .lt 28, 3) := by decide +kernel
theorem dX11_picture_158 : decode cX11_picture 158 = .ok (.aload_n 0, 1) := by decide +kernel
theorem dX11_picture_159 : decode cX11_picture 159 = .ok (.getfield 19, 3) := by decide +kernel
theorem dX11_picture_162 : decode cX11_picture 162 = .ok (.iload_n 2, 1) := by decide +kernel
theorem dX11_picture_163 : decode cX11_picture 163 = .ok (.bipush 100, 2) := by decide +kernel
theorem dX11_picture_165 : decode cX11_picture 165 = .ok (.isub, 1) := by decide +kernel
theorem dX11_picture_166 : decode cX11_picture 166 = .ok (.invokevirtual 116, 3) := by decide +kernel
theorem dX11_picture_169 : decode cX11_picture 169 = .ok (.ifCond .eq 14, 3) := by decide +kernel
theorem dX11_picture_183 : decode cX11_picture 183 = .ok (.iconst (-1), 1) := by decide +kernel
theorem dX11_picture_184 : decode cX11_picture 184 = .ok (.ireturn, 1) := by decide +kernel
theorem dX11_member_0 : decode cX11_member 0 = .ok (.iload_n 1, 1) := by decide +kernel
theorem dX11_member_1 : decode cX11_member 1 = .ok (.invokestatic 411, 3) := by decide +kernel
theorem dX11_member_4 : decode cX11_member 4 = .ok (.ifCond .eq 21, 3) := by decide +kernel
theorem dX11_member_7 : decode cX11_member 7 = .ok (.iload_n 2, 1) := by decide +kernel
theorem dX11_member_8 : decode cX11_member 8 = .ok (.ifCond .lt 17, 3) := by decide +kernel
theorem dX11_member_11 : decode cX11_member 11 = .ok (.iload_n 2, 1) := by decide +kernel
theorem dX11_member_12 : decode cX11_member 12 = .ok (.iconst 1, 1) := by decide +kernel
theorem dX11_member_13 : decode cX11_member 13 = .ok (.if_icmp .gt 12, 3) := by decide +kernel
theorem dX11_member_16 : decode cX11_member 16 = .ok (.iload_n 3, 1) := by decide +kernel
theorem dX11_member_17 : decode cX11_member 17 = .ok (.ifCond .lt 8, 3) := by decide +kernel
theorem dX11_member_20 : decode cX11_member 20 = .ok (.iload 4, 2) := by decide +kernel
theorem dX11_member_22 : decode cX11_member 22 = .ok (.ifCond .ge 11, 3) := by decide +kernel
theorem dX11_member_25 : decode cX11_member 25 = .ok (.new 221, 3) := by decide +kernel
theorem dX11_member_28 : decode cX11_member 28 = .ok (.dup, 1) := by decide +kernel
theorem dX11_member_29 : decode cX11_member 29 = .ok (.invokespecial 223, 3) := by decide +kernel
theorem dX11_member_32 : decode cX11_member 32 = .ok (.athrow, 1) := by decide +kernel
theorem dX11_member_33 : decode cX11_member 33 = .ok (.iload_n 2, 1) := by decide +kernel
theorem dX11_member_34 : decode cX11_member 34 = .ok (.ifCond .ne 18, 3) := by decide +kernel
theorem dX11_member_37 : decode cX11_member 37 = .ok (.aload_n 0, 1) := by decide +kernel
theorem dX11_member_38 : decode cX11_member 38 = .ok (.getfield 41, 3) := by decide +kernel
theorem dX11_member_41 : decode cX11_member 41 = .ok (.iload_n 1, 1) := by decide +kernel
theorem dX11_member_42 : decode cX11_member 42 = .ok (.aaload, 1) := by decide +kernel
theorem dX11_member_43 : decode cX11_member 43 = .ok (.iload_n 3, 1) := by decide +kernel
theorem dX11_member_44 : decode cX11_member 44 = .ok (.iload 4, 2) := by decide +kernel
theorem dX11_member_46 : decode cX11_member 46 = .ok (.invokevirtual 432, 3) := by decide +kernel
theorem dX11_member_49 : decode cX11_member 49 = .ok (.goto 15, 3) := by decide +kernel
theorem dX11_member_52 : decode cX11_member 52 = .ok (.aload_n 0, 1) := by decide +kernel
theorem dX11_member_53 : decode cX11_member 53 = .ok (.getfield 41, 3) := by decide +kernel
theorem dX11_member_56 : decode cX11_member 56 = .ok (.iload_n 1, 1) := by decide +kernel
theorem dX11_member_57 : decode cX11_member 57 = .ok (.aaload, 1) := by decide +kernel
theorem dX11_member_58 : decode cX11_member 58 = .ok (.iload_n 3, 1) := by decide +kernel
theorem dX11_member_59 : decode cX11_member 59 = .ok (.iload 4, 2) := by decide +kernel
theorem dX11_member_61 : decode cX11_member 61 = .ok (.invokevirtual 435, 3) := by decide +kernel
theorem dX11_member_64 : decode cX11_member 64 = .ok (.istore 5, 2) := by decide +kernel
theorem dX11_member_66 : decode cX11_member 66 = .ok (.iload 5, 2) := by decide +kernel
theorem dX11_member_68 : decode cX11_member 68 = .ok (.iconst (-1), 1) := by decide +kernel
theorem dX11_member_69 : decode cX11_member 69 = .ok (.if_icmp .ne 11, 3) := by decide +kernel
theorem dX11_member_72 : decode cX11_member 72 = .ok (.new 221, 3) := by decide +kernel
theorem dX11_member_75 : decode cX11_member 75 = .ok (.dup, 1) := by decide +kernel
theorem dX11_member_76 : decode cX11_member 76 = .ok (.invokespecial 223, 3) := by decide +kernel
theorem dX11_member_79 : decode cX11_member 79 = .ok (.athrow, 1) := by decide +kernel
theorem dX11_choose_0 : decode cX11_choose 0 = .ok (.aload_n 0, 1) := by decide +kernel
theorem dX11_choose_1 : decode cX11_choose 1 = .ok (.iload_n 1, 1) := by decide +kernel
theorem dX11_choose_2 : decode cX11_choose 2 = .ok (.iload_n 2, 1) := by decide +kernel
theorem dX11_choose_3 : decode cX11_choose 3 = .ok (.invokevirtual 359, 3) := by decide +kernel
theorem dX11_choose_6 : decode cX11_choose 6 = .ok (.ifCond .ne 5, 3) := by decide +kernel
theorem dX11_choose_9 : decode cX11_choose 9 = .ok (.iconst 0, 1) := by decide +kernel
theorem dX11_choose_10 : decode cX11_choose 10 = .ok (.ireturn, 1) := by decide +kernel
theorem dX11_lost_0 : decode cX11_lost 0 = .ok (.iload_n 1, 1) := by decide +kernel
theorem dX11_lost_1 : decode cX11_lost 1 = .ok (.invokestatic 353, 3) := by decide +kernel
theorem dX11_lost_4 : decode cX11_lost 4 = .ok (.aload_n 0, 1) := by decide +kernel
theorem dX11_lost_5 : decode cX11_lost 5 = .ok (.getfield 41, 3) := by decide +kernel
theorem dX11_lost_8 : decode cX11_lost 8 = .ok (.iload_n 1, 1) := by decide +kernel
theorem dX11_lost_9 : decode cX11_lost 9 = .ok (.aaload, 1) := by decide +kernel
theorem dX11_lost_10 : decode cX11_lost 10 = .ok (.invokevirtual 441, 3) := by decide +kernel
theorem dX11_lost_13 : decode cX11_lost 13 = .ok (.ireturn, 1) := by decide +kernel
theorem dX11_lostThing_0 : decode cX11_lostThing 0 = .ok (.iload_n 1, 1) := by decide +kernel
theorem dX11_lostThing_1 : decode cX11_lostThing 1 = .ok (.invokestatic 411, 3) := by decide +kernel
theorem dX11_lostThing_4 : decode cX11_lostThing 4 = .ok (.ifCond .eq 34, 3) := by decide +kernel
theorem dX11_lostThing_7 : decode cX11_lostThing 7 = .ok (.iload_n 2, 1) := by decide +kernel
theorem dX11_lostThing_8 : decode cX11_lostThing 8 = .ok (.ifCond .lt 30, 3) := by decide +kernel
theorem dX11_lostThing_11 : decode cX11_lostThing 11 = .ok (.iload_n 2, 1) := by decide +kernel
theorem dX11_lostThing_12 : decode cX11_lostThing 12 = .ok (.aload_n 0, 1) := by decide +kernel
theorem dX11_lostThing_13 : decode cX11_lostThing 13 = .ok (.getfield 41, 3) := by decide +kernel
theorem dX11_lostThing_16 : decode cX11_lostThing 16 = .ok (.iload_n 1, 1) := by decide +kernel
theorem dX11_lostThing_17 : decode cX11_lostThing 17 = .ok (.aaload, 1) := by decide +kernel
theorem dX11_lostThing_18 : decode cX11_lostThing 18 = .ok (.getfield 444, 3) := by decide +kernel
theorem dX11_lostThing_21 : decode cX11_lostThing 21 = .ok (.if_icmp .ge 17, 3) := by decide +kernel
theorem dX11_lostThing_38 : decode cX11_lostThing 38 = .ok (.iconst (-1), 1) := by decide +kernel
theorem dX11_lostThing_39 : decode cX11_lostThing 39 = .ok (.ireturn, 1) := by decide +kernel
theorem dX11_growth_0 : decode cX11_growth 0 = .ok (.iload_n 1, 1) := by decide +kernel
theorem dX11_growth_1 : decode cX11_growth 1 = .ok (.invokestatic 353, 3) := by decide +kernel
theorem dX11_growth_4 : decode cX11_growth 4 = .ok (.iload_n 2, 1) := by decide +kernel
theorem dX11_growth_5 : decode cX11_growth 5 = .ok (.invokestatic 353, 3) := by decide +kernel
theorem dX11_growth_8 : decode cX11_growth 8 = .ok (.iload_n 3, 1) := by decide +kernel
theorem dX11_growth_9 : decode cX11_growth 9 = .ok (.ifCond .lt 8, 3) := by decide +kernel
theorem dX11_growth_12 : decode cX11_growth 12 = .ok (.iload_n 3, 1) := by decide +kernel
theorem dX11_growth_13 : decode cX11_growth 13 = .ok (.iconst 2, 1) := by decide +kernel
theorem dX11_growth_14 : decode cX11_growth 14 = .ok (.if_icmp .le 11, 3) := by decide +kernel
theorem dX11_growth_17 : decode cX11_growth 17 = .ok (.new 120, 3) := by decide +kernel
theorem dX11_growth_20 : decode cX11_growth 20 = .ok (.dup, 1) := by decide +kernel
theorem dX11_growth_21 : decode cX11_growth 21 = .ok (.invokespecial 122, 3) := by decide +kernel
theorem dX11_growth_24 : decode cX11_growth 24 = .ok (.athrow, 1) := by decide +kernel
theorem dX11_growth_25 : decode cX11_growth 25 = .ok (.iload_n 3, 1) := by decide +kernel
theorem dX11_growth_26 : decode cX11_growth 26 = .ok (.ifCond .ne 29, 3) := by decide +kernel
theorem dX11_growth_29 : decode cX11_growth 29 = .ok (.aload_n 0, 1) := by decide +kernel
theorem dX11_growth_30 : decode cX11_growth 30 = .ok (.aload_n 0, 1) := by decide +kernel
theorem dX11_growth_31 : decode cX11_growth 31 = .ok (.getfield 41, 3) := by decide +kernel
theorem dX11_growth_34 : decode cX11_growth 34 = .ok (.iload_n 2, 1) := by decide +kernel
theorem dX11_growth_35 : decode cX11_growth 35 = .ok (.aaload, 1) := by decide +kernel
theorem dX11_growth_36 : decode cX11_growth 36 = .ok (.aload_n 0, 1) := by decide +kernel
theorem dX11_growth_37 : decode cX11_growth 37 = .ok (.getfield 41, 3) := by decide +kernel
theorem dX11_growth_40 : decode cX11_growth 40 = .ok (.iload_n 1, 1) := by decide +kernel
theorem dX11_growth_41 : decode cX11_growth 41 = .ok (.aaload, 1) := by decide +kernel
theorem dX11_growth_42 : decode cX11_growth 42 = .ok (.aload_n 0, 1) := by decide +kernel
theorem dX11_growth_43 : decode cX11_growth 43 = .ok (.getfield 95, 3) := by decide +kernel
theorem dX11_growth_46 : decode cX11_growth 46 = .ok (.invokevirtual 450, 3) := by decide +kernel
theorem dX11_growth_49 : decode cX11_growth 49 = .ok (.putfield 454, 3) := by decide +kernel
theorem dX11_growth_52 : decode cX11_growth 52 = .ok (.goto 57, 3) := by decide +kernel
theorem dX11_growth_55 : decode cX11_growth 55 = .ok (.iload_n 3, 1) := by decide +kernel
theorem dX11_growth_56 : decode cX11_growth 56 = .ok (.iconst 1, 1) := by decide +kernel
theorem dX11_growth_57 : decode cX11_growth 57 = .ok (.if_icmp .ne 29, 3) := by decide +kernel
theorem dX11_growth_60 : decode cX11_growth 60 = .ok (.aload_n 0, 1) := by decide +kernel
theorem dX11_growth_61 : decode cX11_growth 61 = .ok (.aload_n 0, 1) := by decide +kernel
theorem dX11_growth_62 : decode cX11_growth 62 = .ok (.getfield 41, 3) := by decide +kernel
theorem dX11_growth_65 : decode cX11_growth 65 = .ok (.iload_n 1, 1) := by decide +kernel
theorem dX11_growth_66 : decode cX11_growth 66 = .ok (.aaload, 1) := by decide +kernel
theorem dX11_growth_67 : decode cX11_growth 67 = .ok (.aload_n 0, 1) := by decide +kernel
theorem dX11_growth_68 : decode cX11_growth 68 = .ok (.getfield 41, 3) := by decide +kernel
theorem dX11_growth_71 : decode cX11_growth 71 = .ok (.iload_n 2, 1) := by decide +kernel
theorem dX11_growth_72 : decode cX11_growth 72 = .ok (.aaload, 1) := by decide +kernel
theorem dX11_growth_73 : decode cX11_growth 73 = .ok (.aload_n 0, 1) := by decide +kernel
theorem dX11_growth_74 : decode cX11_growth 74 = .ok (.getfield 95, 3) := by decide +kernel
theorem dX11_growth_77 : decode cX11_growth 77 = .ok (.invokevirtual 450, 3) := by decide +kernel
theorem dX11_growth_80 : decode cX11_growth 80 = .ok (.putfield 454, 3) := by decide +kernel
theorem dX11_growth_83 : decode cX11_growth 83 = .ok (.goto 26, 3) := by decide +kernel
theorem dX11_growth_86 : decode cX11_growth 86 = .ok (.aload_n 0, 1) := by decide +kernel
theorem dX11_growth_87 : decode cX11_growth 87 = .ok (.aload_n 0, 1) := by decide +kernel
theorem dX11_growth_88 : decode cX11_growth 88 = .ok (.getfield 41, 3) := by decide +kernel
theorem dX11_growth_91 : decode cX11_growth 91 = .ok (.iload_n 2, 1) := by decide +kernel
theorem dX11_growth_92 : decode cX11_growth 92 = .ok (.aaload, 1) := by decide +kernel
theorem dX11_growth_93 : decode cX11_growth 93 = .ok (.aload_n 0, 1) := by decide +kernel
theorem dX11_growth_94 : decode cX11_growth 94 = .ok (.getfield 41, 3) := by decide +kernel
theorem dX11_growth_97 : decode cX11_growth 97 = .ok (.iload_n 1, 1) := by decide +kernel
theorem dX11_growth_98 : decode cX11_growth 98 = .ok (.aaload, 1) := by decide +kernel
theorem dX11_growth_99 : decode cX11_growth 99 = .ok (.aload_n 0, 1) := by decide +kernel
theorem dX11_growth_100 : decode cX11_growth 100 = .ok (.getfield 95, 3) := by decide +kernel
theorem dX11_growth_103 : decode cX11_growth 103 = .ok (.invokevirtual 457, 3) := by decide +kernel
theorem dX11_growth_106 : decode cX11_growth 106 = .ok (.putfield 454, 3) := by decide +kernel
theorem dX11_growth_109 : decode cX11_growth 109 = .ok (.aload_n 0, 1) := by decide +kernel
theorem dX11_growth_110 : decode cX11_growth 110 = .ok (.getfield 454, 3) := by decide +kernel
theorem dX11_growth_113 : decode cX11_growth 113 = .ok (.ireturn, 1) := by decide +kernel
theorem dX11_grown_0 : decode cX11_grown 0 = .ok (.iload_n 1, 1) := by decide +kernel
theorem dX11_grown_1 : decode cX11_grown 1 = .ok (.ifCond .lt 20, 3) := by decide +kernel
theorem dX11_grown_4 : decode cX11_grown 4 = .ok (.iload_n 1, 1) := by decide +kernel
theorem dX11_grown_5 : decode cX11_grown 5 = .ok (.aload_n 0, 1) := by decide +kernel
theorem dX11_grown_6 : decode cX11_grown 6 = .ok (.getfield 454, 3) := by decide +kernel
theorem dX11_grown_9 : decode cX11_grown 9 = .ok (.if_icmp .ge 12, 3) := by decide +kernel
theorem dX11_grown_21 : decode cX11_grown 21 = .ok (.iconst (-1), 1) := by decide +kernel
theorem dX11_grown_22 : decode cX11_grown 22 = .ok (.ireturn, 1) := by decide +kernel
theorem dX11_like_0 : decode cX11_like 0 = .ok (.aload_n 0, 1) := by decide +kernel
theorem dX11_like_1 : decode cX11_like 1 = .ok (.iload_n 1, 1) := by decide +kernel
theorem dX11_like_2 : decode cX11_like 2 = .ok (.iload_n 2, 1) := by decide +kernel
theorem dX11_like_3 : decode cX11_like 3 = .ok (.invokevirtual 359, 3) := by decide +kernel
theorem dX11_like_6 : decode cX11_like 6 = .ok (.ifCond .eq 13, 3) := by decide +kernel
theorem dX11_like_19 : decode cX11_like 19 = .ok (.new 221, 3) := by decide +kernel
theorem dX11_like_22 : decode cX11_like 22 = .ok (.dup, 1) := by decide +kernel
theorem dX11_like_23 : decode cX11_like 23 = .ok (.invokespecial 223, 3) := by decide +kernel
theorem dX11_like_26 : decode cX11_like 26 = .ok (.athrow, 1) := by decide +kernel
theorem dX11_isPicture_0 : decode cX11_isPicture 0 = .ok (.iload_n 0, 1) := by decide +kernel
theorem dX11_isPicture_1 : decode cX11_isPicture 1 = .ok (.ifCond .lt 12, 3) := by decide +kernel
theorem dX11_isPicture_4 : decode cX11_isPicture 4 = .ok (.iload_n 0, 1) := by decide +kernel
theorem dX11_isPicture_5 : decode cX11_isPicture 5 = .ok (.iconst 4, 1) := by decide +kernel
theorem dX11_isPicture_6 : decode cX11_isPicture 6 = .ok (.if_icmp .ge 7, 3) := by decide +kernel
theorem dX11_isPicture_9 : decode cX11_isPicture 9 = .ok (.iconst 1, 1) := by decide +kernel
theorem dX11_isPicture_10 : decode cX11_isPicture 10 = .ok (.goto 4, 3) := by decide +kernel
theorem dX11_isPicture_13 : decode cX11_isPicture 13 = .ok (.iconst 0, 1) := by decide +kernel
theorem dX11_isPicture_14 : decode cX11_isPicture 14 = .ok (.ireturn, 1) := by decide +kernel
theorem dX11_isThing_0 : decode cX11_isThing 0 = .ok (.iload_n 1, 1) := by decide +kernel
theorem dX11_isThing_1 : decode cX11_isThing 1 = .ok (.invokestatic 411, 3) := by decide +kernel
theorem dX11_isThing_4 : decode cX11_isThing 4 = .ok (.ifCond .eq 24, 3) := by decide +kernel
theorem dX11_isThing_7 : decode cX11_isThing 7 = .ok (.iload_n 2, 1) := by decide +kernel
theorem dX11_isThing_8 : decode cX11_isThing 8 = .ok (.ifCond .lt 20, 3) := by decide +kernel
theorem dX11_isThing_11 : decode cX11_isThing 11 = .ok (.iload_n 2, 1) := by decide +kernel
theorem dX11_isThing_12 : decode cX11_isThing 12 = .ok (.aload_n 0, 1) := by decide +kernel
theorem dX11_isThing_13 : decode cX11_isThing 13 = .ok (.getfield 41, 3) := by decide +kernel
theorem dX11_isThing_16 : decode cX11_isThing 16 = .ok (.iload_n 1, 1) := by decide +kernel
theorem dX11_isThing_17 : decode cX11_isThing 17 = .ok (.aaload, 1) := by decide +kernel
theorem dX11_isThing_18 : decode cX11_isThing 18 = .ok (.getfield 356, 3) := by decide +kernel
theorem dX11_isThing_21 : decode cX11_isThing 21 = .ok (.if_icmp .ge 7, 3) := by decide +kernel
theorem dX11_isThing_28 : decode cX11_isThing 28 = .ok (.iconst 0, 1) := by decide +kernel
theorem dX11_isThing_29 : decode cX11_isThing 29 = .ok (.ireturn, 1) := by decide +kernel
theorem dX11_needPicture_0 : decode cX11_needPicture 0 = .ok (.iload_n 0, 1) := by decide +kernel
theorem dX11_needPicture_1 : decode cX11_needPicture 1 = .ok (.invokestatic 411, 3) := by decide +kernel
theorem dX11_needPicture_4 : decode cX11_needPicture 4 = .ok (.ifCond .ne 11, 3) := by decide +kernel
theorem dX11_needPicture_7 : decode cX11_needPicture 7 = .ok (.new 120, 3) := by decide +kernel
theorem dX11_needPicture_10 : decode cX11_needPicture 10 = .ok (.dup, 1) := by decide +kernel
theorem dX11_needPicture_11 : decode cX11_needPicture 11 = .ok (.invokespecial 122, 3) := by decide +kernel
theorem dX11_needPicture_14 : decode cX11_needPicture 14 = .ok (.athrow, 1) := by decide +kernel
theorem dX11_needPicture_15 : decode cX11_needPicture 15 = .ok (.return_, 1) := by decide +kernel
theorem dX11_ask_0 : decode cX11_ask 0 = .ok (.iload_n 1, 1) := by decide +kernel
theorem dX11_ask_1 : decode cX11_ask 1 = .ok (.invokestatic 353, 3) := by decide +kernel
theorem dX11_ask_4 : decode cX11_ask 4 = .ok (.aload_n 0, 1) := by decide +kernel
theorem dX11_ask_5 : decode cX11_ask 5 = .ok (.getfield 62, 3) := by decide +kernel
theorem dX11_ask_8 : decode cX11_ask 8 = .ok (.iconst 0, 1) := by decide +kernel
theorem dX11_ask_9 : decode cX11_ask 9 = .ok (.putfield 464, 3) := by decide +kernel
theorem dX11_ask_12 : decode cX11_ask 12 = .ok (.aload_n 0, 1) := by decide +kernel
theorem dX11_ask_13 : decode cX11_ask 13 = .ok (.getfield 55, 3) := by decide +kernel
theorem dX11_ask_16 : decode cX11_ask 16 = .ok (.invokevirtual 466, 3) := by decide +kernel
theorem dX11_ask_19 : decode cX11_ask 19 = .ok (.istore_n 2, 1) := by decide +kernel
theorem dX11_ask_20 : decode cX11_ask 20 = .ok (.aload_n 0, 1) := by decide +kernel
theorem dX11_ask_21 : decode cX11_ask 21 = .ok (.aload_n 0, 1) := by decide +kernel
theorem dX11_ask_22 : decode cX11_ask 22 = .ok (.getfield 55, 3) := by decide +kernel
theorem dX11_ask_25 : decode cX11_ask 25 = .ok (.getfield 333, 3) := by decide +kernel
theorem dX11_ask_28 : decode cX11_ask 28 = .ok (.aload_n 0, 1) := by decide +kernel
theorem dX11_ask_29 : decode cX11_ask 29 = .ok (.getfield 55, 3) := by decide +kernel
theorem dX11_ask_32 : decode cX11_ask 32 = .ok (.getfield 336, 3) := by decide +kernel
theorem dX11_ask_35 : decode cX11_ask 35 = .ok (.invokevirtual 339, 3) := by decide +kernel
theorem dX11_ask_38 : decode cX11_ask 38 = .ok (.iload_n 2, 1) := by decide +kernel
theorem dX11_ask_39 : decode cX11_ask 39 = .ok (.ifCond .eq 37, 3) := by decide +kernel
theorem dX11_ask_76 : decode cX11_ask 76 = .ok (.aload_n 0, 1) := by decide +kernel
theorem dX11_ask_77 : decode cX11_ask 77 = .ok (.getfield 469, 3) := by decide +kernel
theorem dX11_ask_80 : decode cX11_ask 80 = .ok (.ifCond .eq 11, 3) := by decide +kernel
theorem dX11_ask_83 : decode cX11_ask 83 = .ok (.new 127, 3) := by decide +kernel
theorem dX11_ask_86 : decode cX11_ask 86 = .ok (.dup, 1) := by decide +kernel
theorem dX11_ask_87 : decode cX11_ask 87 = .ok (.invokespecial 129, 3) := by decide +kernel
theorem dX11_ask_90 : decode cX11_ask 90 = .ok (.athrow, 1) := by decide +kernel
theorem dX11_answer_0 : decode cX11_answer 0 = .ok (.iload_n 1, 1) := by decide +kernel
theorem dX11_answer_1 : decode cX11_answer 1 = .ok (.ifCond .lt 23, 3) := by decide +kernel
theorem dX11_answer_4 : decode cX11_answer 4 = .ok (.iload_n 1, 1) := by decide +kernel
theorem dX11_answer_5 : decode cX11_answer 5 = .ok (.aload_n 0, 1) := by decide +kernel
theorem dX11_answer_6 : decode cX11_answer 6 = .ok (.getfield 62, 3) := by decide +kernel
theorem dX11_answer_9 : decode cX11_answer 9 = .ok (.getfield 464, 3) := by decide +kernel
theorem dX11_answer_12 : decode cX11_answer 12 = .ok (.if_icmp .ge 12, 3) := by decide +kernel
theorem dX11_answer_24 : decode cX11_answer 24 = .ok (.new 221, 3) := by decide +kernel
theorem dX11_answer_27 : decode cX11_answer 27 = .ok (.dup, 1) := by decide +kernel
theorem dX11_answer_28 : decode cX11_answer 28 = .ok (.invokespecial 223, 3) := by decide +kernel
theorem dX11_answer_31 : decode cX11_answer 31 = .ok (.athrow, 1) := by decide +kernel
theorem dX11_rules_0 : decode cX11_rules 0 = .ok (.iload_n 1, 1) := by decide +kernel
theorem dX11_rules_1 : decode cX11_rules 1 = .ok (.invokestatic 353, 3) := by decide +kernel
theorem dX11_rules_4 : decode cX11_rules 4 = .ok (.aload_n 0, 1) := by decide +kernel
theorem dX11_rules_5 : decode cX11_rules 5 = .ok (.getfield 41, 3) := by decide +kernel
theorem dX11_rules_8 : decode cX11_rules 8 = .ok (.iload_n 1, 1) := by decide +kernel
theorem dX11_rules_9 : decode cX11_rules 9 = .ok (.aaload, 1) := by decide +kernel
theorem dX11_rules_10 : decode cX11_rules 10 = .ok (.getfield 356, 3) := by decide +kernel
theorem dX11_rules_13 : decode cX11_rules 13 = .ok (.bipush 40, 2) := by decide +kernel
theorem dX11_rules_15 : decode cX11_rules 15 = .ok (.if_icmp .le 11, 3) := by decide +kernel
theorem dX11_rules_26 : decode cX11_rules 26 = .ok (.aload_n 0, 1) := by decide +kernel
theorem dX11_rules_27 : decode cX11_rules 27 = .ok (.getfield 77, 3) := by decide +kernel
theorem dX11_rules_30 : decode cX11_rules 30 = .ok (.invokevirtual 481, 3) := by decide +kernel
theorem dX11_rules_33 : decode cX11_rules 33 = .ok (.istore_n 2, 1) := by decide +kernel
theorem dX11_rules_34 : decode cX11_rules 34 = .ok (.aload_n 0, 1) := by decide +kernel
theorem dX11_rules_35 : decode cX11_rules 35 = .ok (.aload_n 0, 1) := by decide +kernel
theorem dX11_rules_36 : decode cX11_rules 36 = .ok (.getfield 77, 3) := by decide +kernel
theorem dX11_rules_39 : decode cX11_rules 39 = .ok (.getfield 484, 3) := by decide +kernel
theorem dX11_rules_42 : decode cX11_rules 42 = .ok (.aload_n 0, 1) := by decide +kernel
theorem dX11_rules_43 : decode cX11_rules 43 = .ok (.getfield 77, 3) := by decide +kernel
theorem dX11_rules_46 : decode cX11_rules 46 = .ok (.getfield 485, 3) := by decide +kernel
theorem dX11_rules_49 : decode cX11_rules 49 = .ok (.invokevirtual 339, 3) := by decide +kernel
theorem dX11_rules_52 : decode cX11_rules 52 = .ok (.iload_n 2, 1) := by decide +kernel
theorem dX11_rules_53 : decode cX11_rules 53 = .ok (.ifCond .ne 11, 3) := by decide +kernel
theorem dX11_rules_64 : decode cX11_rules 64 = .ok (.aload_n 0, 1) := by decide +kernel
theorem dX11_rules_65 : decode cX11_rules 65 = .ok (.getfield 84, 3) := by decide +kernel
theorem dX11_rules_68 : decode cX11_rules 68 = .ok (.aload_n 0, 1) := by decide +kernel
theorem dX11_rules_69 : decode cX11_rules 69 = .ok (.getfield 77, 3) := by decide +kernel
theorem dX11_rules_72 : decode cX11_rules 72 = .ok (.aload_n 0, 1) := by decide +kernel
theorem dX11_rules_73 : decode cX11_rules 73 = .ok (.getfield 41, 3) := by decide +kernel
theorem dX11_rules_76 : decode cX11_rules 76 = .ok (.iload_n 1, 1) := by decide +kernel
theorem dX11_rules_77 : decode cX11_rules 77 = .ok (.aaload, 1) := by decide +kernel
theorem dX11_rules_78 : decode cX11_rules 78 = .ok (.invokevirtual 486, 3) := by decide +kernel
theorem dX11_rules_81 : decode cX11_rules 81 = .ok (.iconst 0, 1) := by decide +kernel
theorem dX11_rules_82 : decode cX11_rules 82 = .ok (.istore_n 3, 1) := by decide +kernel
theorem dX11_rules_83 : decode cX11_rules 83 = .ok (.iconst 0, 1) := by decide +kernel
theorem dX11_rules_84 : decode cX11_rules 84 = .ok (.istore 4, 2) := by decide +kernel
theorem dX11_rules_86 : decode cX11_rules 86 = .ok (.iload 4, 2) := by decide +kernel
theorem dX11_rules_88 : decode cX11_rules 88 = .ok (.aload_n 0, 1) := by decide +kernel
theorem dX11_rules_89 : decode cX11_rules 89 = .ok (.getfield 77, 3) := by decide +kernel
theorem dX11_rules_92 : decode cX11_rules 92 = .ok (.getfield 490, 3) := by decide +kernel
theorem dX11_rules_95 : decode cX11_rules 95 = .ok (.if_icmp .ge 21, 3) := by decide +kernel
theorem dX11_rules_116 : decode cX11_rules 116 = .ok (.iload_n 3, 1) := by decide +kernel
theorem dX11_rules_117 : decode cX11_rules 117 = .ok (.ireturn, 1) := by decide +kernel
theorem dX11_facts_0 : decode cX11_facts 0 = .ok (.iload_n 1, 1) := by decide +kernel
theorem dX11_facts_1 : decode cX11_facts 1 = .ok (.ifCond .lt 25, 3) := by decide +kernel
theorem dX11_facts_4 : decode cX11_facts 4 = .ok (.iload_n 1, 1) := by decide +kernel
theorem dX11_facts_5 : decode cX11_facts 5 = .ok (.aload_n 0, 1) := by decide +kernel
theorem dX11_facts_6 : decode cX11_facts 6 = .ok (.getfield 77, 3) := by decide +kernel
theorem dX11_facts_9 : decode cX11_facts 9 = .ok (.getfield 490, 3) := by decide +kernel
theorem dX11_facts_12 : decode cX11_facts 12 = .ok (.if_icmp .ge 14, 3) := by decide +kernel
theorem dX11_facts_26 : decode cX11_facts 26 = .ok (.iconst (-1), 1) := by decide +kernel
theorem dX11_facts_27 : decode cX11_facts 27 = .ok (.ireturn, 1) := by decide +kernel
theorem dX11_isFact_0 : decode cX11_isFact 0 = .ok (.iload_n 1, 1) := by decide +kernel
theorem dX11_isFact_1 : decode cX11_isFact 1 = .ok (.ifCond .lt 14, 3) := by decide +kernel
theorem dX11_isFact_4 : decode cX11_isFact 4 = .ok (.iload_n 1, 1) := by decide +kernel
theorem dX11_isFact_5 : decode cX11_isFact 5 = .ok (.aload_n 0, 1) := by decide +kernel
theorem dX11_isFact_6 : decode cX11_isFact 6 = .ok (.getfield 77, 3) := by decide +kernel
theorem dX11_isFact_9 : decode cX11_isFact 9 = .ok (.getfield 490, 3) := by decide +kernel
theorem dX11_isFact_12 : decode cX11_isFact 12 = .ok (.if_icmp .lt 11, 3) := by decide +kernel
theorem dX11_isFact_15 : decode cX11_isFact 15 = .ok (.new 221, 3) := by decide +kernel
theorem dX11_isFact_18 : decode cX11_isFact 18 = .ok (.dup, 1) := by decide +kernel
theorem dX11_isFact_19 : decode cX11_isFact 19 = .ok (.invokespecial 223, 3) := by decide +kernel
theorem dX11_isFact_22 : decode cX11_isFact 22 = .ok (.athrow, 1) := by decide +kernel
theorem dX11_fault_0 : decode cX11_fault 0 = .ok (.iload_n 1, 1) := by decide +kernel
theorem dX11_fault_1 : decode cX11_fault 1 = .ok (.ifCond .ne 8, 3) := by decide +kernel
theorem dX11_fault_4 : decode cX11_fault 4 = .ok (.aload_n 0, 1) := by decide +kernel
theorem dX11_fault_5 : decode cX11_fault 5 = .ok (.getfield 469, 3) := by decide +kernel
theorem dX11_fault_8 : decode cX11_fault 8 = .ok (.ireturn, 1) := by decide +kernel
theorem dX11_fault_9 : decode cX11_fault 9 = .ok (.iload_n 1, 1) := by decide +kernel
theorem dX11_fault_10 : decode cX11_fault 10 = .ok (.iconst 1, 1) := by decide +kernel
theorem dX11_fault_11 : decode cX11_fault 11 = .ok (.if_icmp .ne 10, 3) := by decide +kernel
theorem dX11_fault_14 : decode cX11_fault 14 = .ok (.aload_n 0, 1) := by decide +kernel
theorem dX11_fault_15 : decode cX11_fault 15 = .ok (.getfield 98, 3) := by decide +kernel
theorem dX11_fault_18 : decode cX11_fault 18 = .ok (.goto 4, 3) := by decide +kernel
theorem dX11_fault_21 : decode cX11_fault 21 = .ok (.iconst (-1), 1) := by decide +kernel
theorem dX11_fault_22 : decode cX11_fault 22 = .ok (.ireturn, 1) := by decide +kernel
theorem dX11_tellFault_0 : decode cX11_tellFault 0 = .ok (.aload_n 0, 1) := by decide +kernel
theorem dX11_tellFault_1 : decode cX11_tellFault 1 = .ok (.iload_n 1, 1) := by decide +kernel
theorem dX11_tellFault_2 : decode cX11_tellFault 2 = .ok (.putfield 469, 3) := by decide +kernel
theorem dX11_tellFault_5 : decode cX11_tellFault 5 = .ok (.aload_n 0, 1) := by decide +kernel
theorem dX11_tellFault_6 : decode cX11_tellFault 6 = .ok (.iload_n 1, 1) := by decide +kernel
theorem dX11_tellFault_7 : decode cX11_tellFault 7 = .ok (.ifCond .ne 7, 3) := by decide +kernel
theorem dX11_tellFault_10 : decode cX11_tellFault 10 = .ok (.iconst (-1), 1) := by decide +kernel
theorem dX11_tellFault_11 : decode cX11_tellFault 11 = .ok (.goto 4, 3) := by decide +kernel
theorem dX11_tellFault_14 : decode cX11_tellFault 14 = .ok (.iload_n 2, 1) := by decide +kernel
theorem dX11_tellFault_15 : decode cX11_tellFault 15 = .ok (.putfield 98, 3) := by decide +kernel
theorem dX11_tellFault_18 : decode cX11_tellFault 18 = .ok (.return_, 1) := by decide +kernel
theorem dX11_bytes_0 : decode cX11_bytes 0 = .ok (.iload_n 1, 1) := by decide +kernel
theorem dX11_bytes_1 : decode cX11_bytes 1 = .ok (.invokestatic 353, 3) := by decide +kernel
theorem dX11_bytes_4 : decode cX11_bytes 4 = .ok (.aload_n 0, 1) := by decide +kernel
theorem dX11_bytes_5 : decode cX11_bytes 5 = .ok (.getfield 91, 3) := by decide +kernel
theorem dX11_bytes_8 : decode cX11_bytes 8 = .ok (.aload_n 0, 1) := by decide +kernel
theorem dX11_bytes_9 : decode cX11_bytes 9 = .ok (.getfield 41, 3) := by decide +kernel
theorem dX11_bytes_12 : decode cX11_bytes 12 = .ok (.iload_n 1, 1) := by decide +kernel
theorem dX11_bytes_13 : decode cX11_bytes 13 = .ok (.aaload, 1) := by decide +kernel
theorem dX11_bytes_14 : decode cX11_bytes 14 = .ok (.invokevirtual 501, 3) := by decide +kernel
theorem dX11_bytes_17 : decode cX11_bytes 17 = .ok (.istore_n 2, 1) := by decide +kernel
theorem dX11_bytes_18 : decode cX11_bytes 18 = .ok (.iload_n 2, 1) := by decide +kernel
theorem dX11_bytes_19 : decode cX11_bytes 19 = .ok (.sipush 4000, 3) := by decide +kernel
theorem dX11_bytes_22 : decode cX11_bytes 22 = .ok (.if_icmp .le 11, 3) := by decide +kernel
theorem dX11_bytes_33 : decode cX11_bytes 33 = .ok (.aload_n 0, 1) := by decide +kernel
theorem dX11_bytes_34 : decode cX11_bytes 34 = .ok (.getfield 91, 3) := by decide +kernel
theorem dX11_bytes_37 : decode cX11_bytes 37 = .ok (.getfield 505, 3) := by decide +kernel
theorem dX11_bytes_40 : decode cX11_bytes 40 = .ok (.iconst 0, 1) := by decide +kernel
theorem dX11_bytes_41 : decode cX11_bytes 41 = .ok (.aload_n 0, 1) := by decide +kernel
theorem dX11_bytes_42 : decode cX11_bytes 42 = .ok (.getfield 12, 3) := by decide +kernel
theorem dX11_bytes_45 : decode cX11_bytes 45 = .ok (.getfield 113, 3) := by decide +kernel
theorem dX11_bytes_48 : decode cX11_bytes 48 = .ok (.iconst 0, 1) := by decide +kernel
theorem dX11_bytes_49 : decode cX11_bytes 49 = .ok (.iload_n 2, 1) := by decide +kernel
theorem dX11_bytes_50 : decode cX11_bytes 50 = .ok (.invokestatic 508, 3) := by decide +kernel
theorem dX11_bytes_53 : decode cX11_bytes 53 = .ok (.aload_n 0, 1) := by decide +kernel
theorem dX11_bytes_54 : decode cX11_bytes 54 = .ok (.getfield 12, 3) := by decide +kernel
theorem dX11_bytes_57 : decode cX11_bytes 57 = .ok (.iload_n 2, 1) := by decide +kernel
theorem dX11_bytes_58 : decode cX11_bytes 58 = .ok (.putfield 110, 3) := by decide +kernel
theorem dX11_bytes_61 : decode cX11_bytes 61 = .ok (.iload_n 2, 1) := by decide +kernel
theorem dX11_bytes_62 : decode cX11_bytes 62 = .ok (.ireturn, 1) := by decide +kernel
theorem dX11_load_0 : decode cX11_load 0 = .ok (.iload_n 1, 1) := by decide +kernel
theorem dX11_load_1 : decode cX11_load 1 = .ok (.invokestatic 353, 3) := by decide +kernel
theorem dX11_load_4 : decode cX11_load 4 = .ok (.aload_n 0, 1) := by decide +kernel
theorem dX11_load_5 : decode cX11_load 5 = .ok (.getfield 91, 3) := by decide +kernel
theorem dX11_load_8 : decode cX11_load 8 = .ok (.aload_n 0, 1) := by decide +kernel
theorem dX11_load_9 : decode cX11_load 9 = .ok (.getfield 12, 3) := by decide +kernel
theorem dX11_load_12 : decode cX11_load 12 = .ok (.getfield 113, 3) := by decide +kernel
theorem dX11_load_15 : decode cX11_load 15 = .ok (.iconst 0, 1) := by decide +kernel
theorem dX11_load_16 : decode cX11_load 16 = .ok (.aload_n 0, 1) := by decide +kernel
theorem dX11_load_17 : decode cX11_load 17 = .ok (.getfield 12, 3) := by decide +kernel
theorem dX11_load_20 : decode cX11_load 20 = .ok (.getfield 110, 3) := by decide +kernel
theorem dX11_load_23 : decode cX11_load 23 = .ok (.aload_n 0, 1) := by decide +kernel
theorem dX11_load_24 : decode cX11_load 24 = .ok (.getfield 46, 3) := by decide +kernel
theorem dX11_load_27 : decode cX11_load 27 = .ok (.invokevirtual 514, 3) := by decide +kernel
theorem dX11_load_30 : decode cX11_load 30 = .ok (.istore_n 2, 1) := by decide +kernel
theorem dX11_load_31 : decode cX11_load 31 = .ok (.aload_n 0, 1) := by decide +kernel
theorem dX11_load_32 : decode cX11_load 32 = .ok (.aload_n 0, 1) := by decide +kernel
theorem dX11_load_33 : decode cX11_load 33 = .ok (.getfield 91, 3) := by decide +kernel
theorem dX11_load_36 : decode cX11_load 36 = .ok (.getfield 518, 3) := by decide +kernel
theorem dX11_load_39 : decode cX11_load 39 = .ok (.aload_n 0, 1) := by decide +kernel
theorem dX11_load_40 : decode cX11_load 40 = .ok (.getfield 91, 3) := by decide +kernel
theorem dX11_load_43 : decode cX11_load 43 = .ok (.getfield 519, 3) := by decide +kernel
theorem dX11_load_46 : decode cX11_load 46 = .ok (.invokevirtual 339, 3) := by decide +kernel
theorem dX11_load_49 : decode cX11_load 49 = .ok (.iload_n 2, 1) := by decide +kernel
theorem dX11_load_50 : decode cX11_load 50 = .ok (.ifCond .ne 11, 3) := by decide +kernel
theorem dX11_load_53 : decode cX11_load 53 = .ok (.new 127, 3) := by decide +kernel
theorem dX11_load_56 : decode cX11_load 56 = .ok (.dup, 1) := by decide +kernel
theorem dX11_load_57 : decode cX11_load 57 = .ok (.invokespecial 129, 3) := by decide +kernel
theorem dX11_load_60 : decode cX11_load 60 = .ok (.athrow, 1) := by decide +kernel
theorem dX11_keep_0 : decode cX11_keep 0 = .ok (.iload_n 1, 1) := by decide +kernel
theorem dX11_keep_1 : decode cX11_keep 1 = .ok (.invokestatic 353, 3) := by decide +kernel
theorem dX11_keep_4 : decode cX11_keep 4 = .ok (.aload_n 0, 1) := by decide +kernel
theorem dX11_keep_5 : decode cX11_keep 5 = .ok (.getfield 91, 3) := by decide +kernel
theorem dX11_keep_8 : decode cX11_keep 8 = .ok (.aload_n 0, 1) := by decide +kernel
theorem dX11_keep_9 : decode cX11_keep 9 = .ok (.getfield 41, 3) := by decide +kernel
theorem dX11_keep_12 : decode cX11_keep 12 = .ok (.iload_n 1, 1) := by decide +kernel
theorem dX11_keep_13 : decode cX11_keep 13 = .ok (.aaload, 1) := by decide +kernel
theorem dX11_keep_14 : decode cX11_keep 14 = .ok (.invokevirtual 501, 3) := by decide +kernel
theorem dX11_keep_17 : decode cX11_keep 17 = .ok (.istore_n 2, 1) := by decide +kernel
theorem dX11_keep_18 : decode cX11_keep 18 = .ok (.iload_n 2, 1) := by decide +kernel
theorem dX11_keep_19 : decode cX11_keep 19 = .ok (.sipush 4000, 3) := by decide +kernel
theorem dX11_keep_22 : decode cX11_keep 22 = .ok (.if_icmp .gt 14, 3) := by decide +kernel
theorem dX11_keep_25 : decode cX11_keep 25 = .ok (.aload_n 0, 1) := by decide +kernel
theorem dX11_keep_26 : decode cX11_keep 26 = .ok (.getfield 91, 3) := by decide +kernel
theorem dX11_keep_29 : decode cX11_keep 29 = .ok (.iload_n 2, 1) := by decide +kernel
theorem dX11_keep_30 : decode cX11_keep 30 = .ok (.invokevirtual 526, 3) := by decide +kernel
theorem dX11_keep_33 : decode cX11_keep 33 = .ok (.ifCond .ne 11, 3) := by decide +kernel
theorem dX11_keep_44 : decode cX11_keep 44 = .ok (.aload_n 0, 1) := by decide +kernel
theorem dX11_keep_45 : decode cX11_keep 45 = .ok (.getfield 91, 3) := by decide +kernel
theorem dX11_keep_48 : decode cX11_keep 48 = .ok (.getfield 529, 3) := by decide +kernel
theorem dX11_keep_51 : decode cX11_keep 51 = .ok (.ireturn, 1) := by decide +kernel
theorem dX11_reopen_0 : decode cX11_reopen 0 = .ok (.aload_n 0, 1) := by decide +kernel
theorem dX11_reopen_1 : decode cX11_reopen 1 = .ok (.getfield 91, 3) := by decide +kernel
theorem dX11_reopen_4 : decode cX11_reopen 4 = .ok (.iload_n 1, 1) := by decide +kernel
theorem dX11_reopen_5 : decode cX11_reopen 5 = .ok (.aload_n 0, 1) := by decide +kernel
theorem dX11_reopen_6 : decode cX11_reopen 6 = .ok (.getfield 46, 3) := by decide +kernel
theorem dX11_reopen_9 : decode cX11_reopen 9 = .ok (.invokevirtual 532, 3) := by decide +kernel
theorem dX11_reopen_12 : decode cX11_reopen 12 = .ok (.ireturn, 1) := by decide +kernel
theorem dX11_recall_0 : decode cX11_recall 0 = .ok (.iload_n 1, 1) := by decide +kernel
theorem dX11_recall_1 : decode cX11_recall 1 = .ok (.invokestatic 353, 3) := by decide +kernel
theorem dX11_recall_4 : decode cX11_recall 4 = .ok (.iload_n 2, 1) := by decide +kernel
theorem dX11_recall_5 : decode cX11_recall 5 = .ok (.ifCond .lt 29, 3) := by decide +kernel
theorem dX11_recall_8 : decode cX11_recall 8 = .ok (.iload_n 2, 1) := by decide +kernel
theorem dX11_recall_9 : decode cX11_recall 9 = .ok (.aload_n 0, 1) := by decide +kernel
theorem dX11_recall_10 : decode cX11_recall 10 = .ok (.getfield 91, 3) := by decide +kernel
theorem dX11_recall_13 : decode cX11_recall 13 = .ok (.getfield 529, 3) := by decide +kernel
theorem dX11_recall_16 : decode cX11_recall 16 = .ok (.if_icmp .ge 18, 3) := by decide +kernel
theorem dX11_recall_34 : decode cX11_recall 34 = .ok (.new 221, 3) := by decide +kernel
theorem dX11_recall_37 : decode cX11_recall 37 = .ok (.dup, 1) := by decide +kernel
theorem dX11_recall_38 : decode cX11_recall 38 = .ok (.invokespecial 223, 3) := by decide +kernel
theorem dX11_recall_41 : decode cX11_recall 41 = .ok (.athrow, 1) := by decide +kernel
theorem dX11_about_0 : decode cX11_about 0 = .ok (.iload_n 1, 1) := by decide +kernel
theorem dX11_about_1 : decode cX11_about 1 = .ok (.tableswitch 168 0 12 #[67, 75, 83, 91, 99, 107, 115, 123, 131, 139, 147, 152, 160], 67) := by decide +kernel
theorem dX11_about_68 : decode cX11_about 68 = .ok (.aload_n 0, 1) := by decide +kernel
theorem dX11_about_69 : decode cX11_about 69 = .ok (.getfield 12, 3) := by decide +kernel
theorem dX11_about_72 : decode cX11_about 72 = .ok (.getfield 110, 3) := by decide +kernel
theorem dX11_about_75 : decode cX11_about 75 = .ok (.ireturn, 1) := by decide +kernel
theorem dX11_about_76 : decode cX11_about 76 = .ok (.aload_n 0, 1) := by decide +kernel
theorem dX11_about_77 : decode cX11_about 77 = .ok (.getfield 19, 3) := by decide +kernel
theorem dX11_about_80 : decode cX11_about 80 = .ok (.getfield 130, 3) := by decide +kernel
theorem dX11_about_83 : decode cX11_about 83 = .ok (.ireturn, 1) := by decide +kernel
theorem dX11_about_84 : decode cX11_about 84 = .ok (.aload_n 0, 1) := by decide +kernel
theorem dX11_about_85 : decode cX11_about 85 = .ok (.getfield 28, 3) := by decide +kernel
theorem dX11_about_88 : decode cX11_about 88 = .ok (.getfield 540, 3) := by decide +kernel
theorem dX11_about_91 : decode cX11_about 91 = .ok (.ireturn, 1) := by decide +kernel
theorem dX11_about_92 : decode cX11_about 92 = .ok (.aload_n 0, 1) := by decide +kernel
theorem dX11_about_93 : decode cX11_about 93 = .ok (.getfield 28, 3) := by decide +kernel
theorem dX11_about_96 : decode cX11_about 96 = .ok (.getfield 543, 3) := by decide +kernel
theorem dX11_about_99 : decode cX11_about 99 = .ok (.ireturn, 1) := by decide +kernel
theorem dX11_about_100 : decode cX11_about 100 = .ok (.aload_n 0, 1) := by decide +kernel
theorem dX11_about_101 : decode cX11_about 101 = .ok (.getfield 28, 3) := by decide +kernel
theorem dX11_about_104 : decode cX11_about 104 = .ok (.getfield 227, 3) := by decide +kernel
theorem dX11_about_107 : decode cX11_about 107 = .ok (.ireturn, 1) := by decide +kernel
theorem dX11_about_108 : decode cX11_about 108 = .ok (.aload_n 0, 1) := by decide +kernel
theorem dX11_about_109 : decode cX11_about 109 = .ok (.getfield 35, 3) := by decide +kernel
theorem dX11_about_112 : decode cX11_about 112 = .ok (.getfield 300, 3) := by decide +kernel
theorem dX11_about_115 : decode cX11_about 115 = .ok (.ireturn, 1) := by decide +kernel
theorem dX11_about_116 : decode cX11_about 116 = .ok (.aload_n 0, 1) := by decide +kernel
theorem dX11_about_117 : decode cX11_about 117 = .ok (.getfield 35, 3) := by decide +kernel
theorem dX11_about_120 : decode cX11_about 120 = .ok (.getfield 546, 3) := by decide +kernel
theorem dX11_about_123 : decode cX11_about 123 = .ok (.ireturn, 1) := by decide +kernel
theorem dX11_about_124 : decode cX11_about 124 = .ok (.aload_n 0, 1) := by decide +kernel
theorem dX11_about_125 : decode cX11_about 125 = .ok (.getfield 91, 3) := by decide +kernel
theorem dX11_about_128 : decode cX11_about 128 = .ok (.getfield 529, 3) := by decide +kernel
theorem dX11_about_131 : decode cX11_about 131 = .ok (.ireturn, 1) := by decide +kernel
theorem dX11_about_132 : decode cX11_about 132 = .ok (.aload_n 0, 1) := by decide +kernel
theorem dX11_about_133 : decode cX11_about 133 = .ok (.getfield 91, 3) := by decide +kernel
theorem dX11_about_136 : decode cX11_about 136 = .ok (.getfield 549, 3) := by decide +kernel
theorem dX11_about_139 : decode cX11_about 139 = .ok (.ireturn, 1) := by decide +kernel
theorem dX11_about_140 : decode cX11_about 140 = .ok (.aload_n 0, 1) := by decide +kernel
theorem dX11_about_141 : decode cX11_about 141 = .ok (.getfield 35, 3) := by decide +kernel
theorem dX11_about_144 : decode cX11_about 144 = .ok (.getfield 309, 3) := by decide +kernel
theorem dX11_about_147 : decode cX11_about 147 = .ok (.ireturn, 1) := by decide +kernel
theorem dX11_about_148 : decode cX11_about 148 = .ok (.aload_n 0, 1) := by decide +kernel
theorem dX11_about_149 : decode cX11_about 149 = .ok (.getfield 326, 3) := by decide +kernel
theorem dX11_about_152 : decode cX11_about 152 = .ok (.ireturn, 1) := by decide +kernel
theorem dX11_about_153 : decode cX11_about 153 = .ok (.aload_n 0, 1) := by decide +kernel
theorem dX11_about_154 : decode cX11_about 154 = .ok (.getfield 62, 3) := by decide +kernel
theorem dX11_about_157 : decode cX11_about 157 = .ok (.getfield 464, 3) := by decide +kernel
theorem dX11_about_160 : decode cX11_about 160 = .ok (.ireturn, 1) := by decide +kernel
theorem dX11_about_161 : decode cX11_about 161 = .ok (.aload_n 0, 1) := by decide +kernel
theorem dX11_about_162 : decode cX11_about 162 = .ok (.getfield 77, 3) := by decide +kernel
theorem dX11_about_165 : decode cX11_about 165 = .ok (.getfield 490, 3) := by decide +kernel
theorem dX11_about_168 : decode cX11_about 168 = .ok (.ireturn, 1) := by decide +kernel
theorem dX11_about_169 : decode cX11_about 169 = .ok (.iconst (-1), 1) := by decide +kernel
theorem dX11_about_170 : decode cX11_about 170 = .ok (.ireturn, 1) := by decide +kernel
