/-! the cells of the class (C) and of the reference (R) -/
def ftC (ci : Nat) : List (Nat × Nat) := match ci with | 3 => ([(5, 8), (4, 1), (0, 0), (4, 2), (0, 0), (0, 0), (3, 0), (0, 0), (0, 0), (0, 0), (0, 0), (4, 3), (4, 4), (0, 0), (0, 0)] : List (Nat × Nat)) | 4 => ([(5, 8), (0, 0), (1, 0), (4, 1), (4, 2), (4, 3), (4, 4), (4, 5), (3, 0), (2, 0)] : List (Nat × Nat)) | 5 => ([(5, 8), (0, 0), (0, 0), (0, 0), (4, 1), (4, 2), (4, 3), (4, 4), (4, 5), (4, 6), (4, 7), (0, 0), (4, 8), (4, 9)] : List (Nat × Nat)) | 6 => ([(5, 8), (0, 0), (4, 1), (4, 2), (4, 3), (0, 0), (0, 0), (0, 0), (4, 4), (4, 5), (4, 6), (4, 7), (4, 8)] : List (Nat × Nat)) | 7 => ([(5, 8), (3, 0), (3, 0), (0, 0), (4, 1), (4, 2), (0, 0), (4, 3), (4, 4), (4, 5), (4, 6), (4, 7), (4, 8), (4, 9), (4, 10), (4, 11)] : List (Nat × Nat)) ++ (([(4, 12), (4, 13), (4, 14), (4, 15), (0, 0)] : List (Nat × Nat))) | 8 => ([(0, 0), (4, 1), (4, 2), (4, 3), (4, 4), (4, 5), (4, 6), (4, 7), (4, 8), (4, 9), (4, 10), (0, 0), (4, 11), (4, 12), (4, 13), (4, 14)] : List (Nat × Nat)) ++ (([(0, 0), (4, 15), (4, 16), (4, 17), (4, 18)] : List (Nat × Nat))) | 9 => ([(5, 1), (4, 1), (4, 2), (4, 3), (4, 4), (0, 0), (0, 0), (0, 0), (2, 0), (2, 0), (0, 0), (0, 0), (0, 0), (2, 0), (4, 5), (4, 6)] : List (Nat × Nat)) ++ (([(0, 0), (4, 7), (0, 0)] : List (Nat × Nat))) | 10 => ([(5, 1), (1, 0), (1, 0), (0, 0), (4, 1), (4, 2), (4, 3), (4, 4), (4, 5), (4, 6), (4, 7), (4, 8), (4, 9), (4, 10), (0, 0), (0, 0)] : List (Nat × Nat)) ++ (([(0, 0), (4, 11), (4, 12), (0, 0), (0, 0)] : List (Nat × Nat))) | 11 => ([(5, 8), (0, 0), (4, 1), (4, 2), (4, 3), (4, 4), (4, 5), (4, 6), (4, 7), (0, 0), (4, 8), (0, 0), (4, 9), (4, 10), (4, 11), (4, 12)] : List (Nat × Nat)) ++ (([(4, 13), (4, 14)] : List (Nat × Nat))) | 12 => ([(4, 1), (0, 0), (4, 2), (4, 6), (0, 0), (4, 3), (4, 4), (4, 5), (0, 0), (0, 0), (0, 0), (1, 0)] : List (Nat × Nat)) | 13 => ([(0, 0), (4, 1), (4, 2), (4, 3), (4, 4), (4, 5), (4, 6), (4, 7), (4, 8), (4, 9), (4, 10), (4, 11), (4, 12), (4, 13), (4, 14), (4, 15)] : List (Nat × Nat)) ++ (([(4, 16), (4, 17)] : List (Nat × Nat))) | 14 => ([(5, 1), (5, 8), (5, 26), (5, 36), (5, 45), (3, 0), (5, 211), (5, 219), (5, 235), (5, 260), (0, 0), (5, 261), (5, 274), (5, 280), (5, 285), (0, 0)] : List (Nat × Nat)) ++ (([(0, 0), (0, 0)] : List (Nat × Nat))) | _ => []
def ftR (ci : Nat) : List (Nat × Nat) := match ci with | 15 => ([(0, 0), (4, 1), (4, 2), (0, 0), (4, 3), (4, 4), (4, 5), (4, 6), (4, 7), (4, 8), (4, 9), (4, 10), (4, 11), (4, 12), (4, 13), (4, 14)] : List (Nat × Nat)) ++ (([(4, 15), (4, 16), (4, 17), (4, 18), (0, 0), (4, 19), (4, 20), (4, 21), (4, 22), (4, 23), (0, 0), (0, 0), (0, 0), (0, 0), (4, 24), (0, 0)] : List (Nat × Nat)) ++ (([(4, 25), (4, 26), (4, 27), (4, 28), (0, 0), (4, 29), (4, 30), (4, 31), (4, 32), (4, 33), (4, 34), (4, 35), (0, 0), (4, 36), (4, 37), (0, 0)] : List (Nat × Nat)) ++ (([(4, 38), (4, 39), (4, 40), (4, 41), (4, 42), (4, 43), (4, 44), (4, 45), (4, 46), (4, 47), (4, 48), (4, 49), (4, 50), (4, 51), (4, 52), (4, 53)] : List (Nat × Nat)) ++ (([(4, 54), (4, 55), (4, 56), (4, 57), (4, 58), (4, 59), (4, 60), (4, 61), (4, 62), (0, 0), (4, 63), (0, 0), (4, 64), (4, 65), (0, 0), (0, 0)] : List (Nat × Nat)) ++ (([(0, 0), (0, 0), (0, 0), (0, 0), (0, 0), (1, 0), (4, 66), (4, 67), (4, 68), (4, 69), (4, 70), (0, 0), (0, 0), (0, 0), (0, 0), (2, 0)] : List (Nat × Nat)) ++ (([(4, 71), (0, 0), (0, 0), (0, 0), (0, 0), (0, 0), (1, 0), (2, 0), (4, 72), (4, 73), (4, 74), (4, 75), (4, 76), (4, 77), (0, 0), (4, 78)] : List (Nat × Nat)) ++ (([(4, 79), (0, 0), (2, 0), (4, 80), (4, 81), (4, 82), (4, 83), (4, 84), (4, 85), (4, 86), (4, 87), (4, 88), (4, 89), (4, 90), (4, 91), (4, 92)] : List (Nat × Nat)) ++ (([(4, 93), (4, 94), (4, 95), (4, 96), (4, 97), (0, 0), (0, 0), (0, 0), (0, 0), (0, 0), (2, 0), (4, 98), (4, 99), (0, 0), (0, 0), (0, 0)] : List (Nat × Nat)) ++ (([(4, 100), (4, 101), (0, 0), (4, 102), (0, 0), (0, 0)] : List (Nat × Nat))))))))))) | _ => []
def tyC (cy : Nat → ClassId) : List (ClassId × FieldType) := [(cy 0, .byte), (cy 1, .int), (cy 2, .long), (cy 3, .boolean), (cy 4, .object "HeapWorks$Picture"), (cy 5, .object "HeapWorks$Program")]
def tyR (cy : Nat → ClassId) : List (ClassId × FieldType) := [(cy 0, .byte), (cy 1, .int), (cy 2, .long), (cy 3, .boolean)]
theorem tyC_ok (cy : Nat → ClassId) : jTy (tyC cy) cy := ⟨rfl, rfl, rfl, rfl⟩
theorem tyR_ok (cy : Nat → ClassId) : jTy (tyR cy) cy := ⟨rfl, rfl, rfl, rfl⟩
theorem rl_ri {x : Int} (h : ri_ x) : rl_ x := by unfold ri_ at h; unfold rl_; omega
theorem ri_max {x y : Int} (h : ri_ x) (h2 : ri_ y) : ri_ (max x y) := by unfold ri_ at *; omega
theorem ri_min {x y : Int} (h : ri_ x) (h2 : ri_ y) : ri_ (min x y) := by unfold ri_ at *; omega
theorem kC_0 : ksC[0]? = some (6, 14) := by decide +kernel
theorem kC_1 : ksC[1]? = some (6, 12) := by decide +kernel
theorem kC_10 : ksC[10]? = some (0, 16) := by decide +kernel
theorem kC_11 : ksC[11]? = some (0, 16) := by decide +kernel
theorem kC_12 : ksC[12]? = some (2, 16) := by decide +kernel
theorem kC_13 : ksC[13]? = some (2, 16) := by decide +kernel
theorem kC_14 : ksC[14]? = some (0, 16) := by decide +kernel
theorem kC_15 : ksC[15]? = some (0, 16) := by decide +kernel
theorem kC_16 : ksC[16]? = some (0, 16) := by decide +kernel
theorem kC_17 : ksC[17]? = some (0, 16) := by decide +kernel
theorem kC_18 : ksC[18]? = some (1, 96) := by decide +kernel
theorem kC_19 : ksC[19]? = some (0, 96) := by decide +kernel
theorem kC_2 : ksC[2]? = some (0, 4000) := by decide +kernel
theorem kC_20 : ksC[20]? = some (0, 96) := by decide +kernel
theorem kC_21 : ksC[21]? = some (2, 96) := by decide +kernel
theorem kC_211 : ksC[211]? = some (6, 9) := by decide +kernel
theorem kC_219 : ksC[219]? = some (6, 7) := by decide +kernel
theorem kC_22 : ksC[22]? = some (0, 96) := by decide +kernel
theorem kC_220 : ksC[220]? = some (0, 121) := by decide +kernel
theorem kC_221 : ksC[221]? = some (1, 121) := by decide +kernel
theorem kC_222 : ksC[222]? = some (0, 11) := by decide +kernel
theorem kC_223 : ksC[223]? = some (0, 11) := by decide +kernel
theorem kC_224 : ksC[224]? = some (0, 11) := by decide +kernel
theorem kC_225 : ksC[225]? = some (0, 11) := by decide +kernel
theorem kC_226 : ksC[226]? = some (0, 11) := by decide +kernel
theorem kC_227 : ksC[227]? = some (1, 11) := by decide +kernel
theorem kC_228 : ksC[228]? = some (2, 11) := by decide +kernel
theorem kC_229 : ksC[229]? = some (0, 4400) := by decide +kernel
theorem kC_23 : ksC[23]? = some (1, 1536) := by decide +kernel
theorem kC_230 : ksC[230]? = some (0, 4400) := by decide +kernel
theorem kC_231 : ksC[231]? = some (0, 11) := by decide +kernel
theorem kC_232 : ksC[232]? = some (0, 4000) := by decide +kernel
theorem kC_233 : ksC[233]? = some (0, 4000) := by decide +kernel
theorem kC_234 : ksC[234]? = some (1, 4000) := by decide +kernel
theorem kC_235 : ksC[235]? = some (5, 3) := by decide +kernel
theorem kC_24 : ksC[24]? = some (0, 1536) := by decide +kernel
theorem kC_25 : ksC[25]? = some (0, 1536) := by decide +kernel
theorem kC_26 : ksC[26]? = some (6, 5) := by decide +kernel
theorem kC_260 : ksC[260]? = some (0, 3) := by decide +kernel
theorem kC_261 : ksC[261]? = some (6, 10) := by decide +kernel
theorem kC_262 : ksC[262]? = some (0, 12) := by decide +kernel
theorem kC_263 : ksC[263]? = some (0, 12) := by decide +kernel
theorem kC_264 : ksC[264]? = some (0, 12) := by decide +kernel
theorem kC_265 : ksC[265]? = some (0, 12) := by decide +kernel
theorem kC_266 : ksC[266]? = some (0, 12) := by decide +kernel
theorem kC_267 : ksC[267]? = some (0, 48) := by decide +kernel
theorem kC_268 : ksC[268]? = some (0, 48) := by decide +kernel
theorem kC_269 : ksC[269]? = some (0, 48) := by decide +kernel
theorem kC_27 : ksC[27]? = some (0, 400) := by decide +kernel
theorem kC_270 : ksC[270]? = some (1, 48) := by decide +kernel
theorem kC_271 : ksC[271]? = some (1, 3) := by decide +kernel
theorem kC_272 : ksC[272]? = some (1, 6) := by decide +kernel
theorem kC_273 : ksC[273]? = some (0, 6) := by decide +kernel
theorem kC_274 : ksC[274]? = some (6, 4) := by decide +kernel
theorem kC_275 : ksC[275]? = some (1, 360) := by decide +kernel
theorem kC_276 : ksC[276]? = some (1, 360) := by decide +kernel
theorem kC_277 : ksC[277]? = some (1, 9) := by decide +kernel
theorem kC_278 : ksC[278]? = some (1, 48) := by decide +kernel
theorem kC_279 : ksC[279]? = some (0, 3) := by decide +kernel
theorem kC_28 : ksC[28]? = some (0, 400) := by decide +kernel
theorem kC_280 : ksC[280]? = some (6, 3) := by decide +kernel
theorem kC_281 : ksC[281]? = some (0, 4000) := by decide +kernel
theorem kC_282 : ksC[282]? = some (0, 8000) := by decide +kernel
theorem kC_283 : ksC[283]? = some (0, 400) := by decide +kernel
theorem kC_284 : ksC[284]? = some (0, 4000) := by decide +kernel
theorem kC_285 : ksC[285]? = some (0, 400) := by decide +kernel
theorem kC_29 : ksC[29]? = some (0, 400) := by decide +kernel
theorem kC_3 : ksC[3]? = some (0, 20) := by decide +kernel
theorem kC_30 : ksC[30]? = some (1, 4000) := by decide +kernel
theorem kC_31 : ksC[31]? = some (2, 4000) := by decide +kernel
theorem kC_32 : ksC[32]? = some (1, 96) := by decide +kernel
theorem kC_33 : ksC[33]? = some (0, 12) := by decide +kernel
theorem kC_34 : ksC[34]? = some (0, 400) := by decide +kernel
theorem kC_35 : ksC[35]? = some (0, 400) := by decide +kernel
theorem kC_36 : ksC[36]? = some (6, 6) := by decide +kernel
theorem kC_37 : ksC[37]? = some (0, 100) := by decide +kernel
theorem kC_38 : ksC[38]? = some (0, 100) := by decide +kernel
theorem kC_39 : ksC[39]? = some (1, 100) := by decide +kernel
theorem kC_4 : ksC[4]? = some (0, 4001) := by decide +kernel
theorem kC_40 : ksC[40]? = some (0, 6) := by decide +kernel
theorem kC_41 : ksC[41]? = some (0, 6) := by decide +kernel
theorem kC_42 : ksC[42]? = some (0, 6) := by decide +kernel
theorem kC_43 : ksC[43]? = some (0, 6) := by decide +kernel
theorem kC_44 : ksC[44]? = some (1, 144) := by decide +kernel
theorem kC_45 : ksC[45]? = some (4, 4) := by decide +kernel
theorem kC_5 : ksC[5]? = some (0, 4001) := by decide +kernel
theorem kC_6 : ksC[6]? = some (1, 4001) := by decide +kernel
theorem kC_7 : ksC[7]? = some (1, 29) := by decide +kernel
theorem kC_8 : ksC[8]? = some (6, 13) := by decide +kernel
theorem kC_9 : ksC[9]? = some (1, 16) := by decide +kernel
theorem kG_0 {c : Nat} (h : isG c) : ksC[c]? = some (6, 9) := by
  unfold isG at h
  rcases h with rfl | rfl | rfl | rfl
  · decide +kernel
  · decide +kernel
  · decide +kernel
  · decide +kernel
theorem kG_1 {c : Nat} (h : isG c) : ksC[c + 1]? = some (0, 500) := by
  unfold isG at h
  rcases h with rfl | rfl | rfl | rfl
  · decide +kernel
  · decide +kernel
  · decide +kernel
  · decide +kernel
theorem kG_2 {c : Nat} (h : isG c) : ksC[c + 2]? = some (0, 500) := by
  unfold isG at h
  rcases h with rfl | rfl | rfl | rfl
  · decide +kernel
  · decide +kernel
  · decide +kernel
  · decide +kernel
theorem kG_3 {c : Nat} (h : isG c) : ksC[c + 3]? = some (0, 500) := by
  unfold isG at h
  rcases h with rfl | rfl | rfl | rfl
  · decide +kernel
  · decide +kernel
  · decide +kernel
  · decide +kernel
theorem kG_4 {c : Nat} (h : isG c) : ksC[c + 4]? = some (1, 500) := by
  unfold isG at h
  rcases h with rfl | rfl | rfl | rfl
  · decide +kernel
  · decide +kernel
  · decide +kernel
  · decide +kernel
theorem kG_5 {c : Nat} (h : isG c) : ksC[c + 5]? = some (1, 10) := by
  unfold isG at h
  rcases h with rfl | rfl | rfl | rfl
  · decide +kernel
  · decide +kernel
  · decide +kernel
  · decide +kernel
theorem kG_6 {c : Nat} (h : isG c) : ksC[c + 6]? = some (0, 10) := by
  unfold isG at h
  rcases h with rfl | rfl | rfl | rfl
  · decide +kernel
  · decide +kernel
  · decide +kernel
  · decide +kernel
theorem kG_7 {c : Nat} (h : isG c) : ksC[c + 7]? = some (0, 120) := by
  unfold isG at h
  rcases h with rfl | rfl | rfl | rfl
  · decide +kernel
  · decide +kernel
  · decide +kernel
  · decide +kernel
theorem kP_0 {c : Nat} (h : isP c) : ksC[c]? = some (6, 8) := by
  unfold isP at h
  rcases h with rfl | rfl | rfl | rfl | rfl
  · decide +kernel
  · decide +kernel
  · decide +kernel
  · decide +kernel
  · decide +kernel
theorem kP_1 {c : Nat} (h : isP c) : ksC[c + 1]? = some (0, 400) := by
  unfold isP at h
  rcases h with rfl | rfl | rfl | rfl | rfl
  · decide +kernel
  · decide +kernel
  · decide +kernel
  · decide +kernel
  · decide +kernel
theorem kP_10 {c : Nat} (h : isP c) : ksC[c + 10]? = some (2, 4000) := by
  unfold isP at h
  rcases h with rfl | rfl | rfl | rfl | rfl
  · decide +kernel
  · decide +kernel
  · decide +kernel
  · decide +kernel
  · decide +kernel
theorem kP_11 {c : Nat} (h : isP c) : ksC[c + 11]? = some (0, 108) := by
  unfold isP at h
  rcases h with rfl | rfl | rfl | rfl | rfl
  · decide +kernel
  · decide +kernel
  · decide +kernel
  · decide +kernel
  · decide +kernel
theorem kP_12 {c : Nat} (h : isP c) : ksC[c + 12]? = some (0, 108) := by
  unfold isP at h
  rcases h with rfl | rfl | rfl | rfl | rfl
  · decide +kernel
  · decide +kernel
  · decide +kernel
  · decide +kernel
  · decide +kernel
theorem kP_13 {c : Nat} (h : isP c) : ksC[c + 13]? = some (2, 400) := by
  unfold isP at h
  rcases h with rfl | rfl | rfl | rfl | rfl
  · decide +kernel
  · decide +kernel
  · decide +kernel
  · decide +kernel
  · decide +kernel
theorem kP_14 {c : Nat} (h : isP c) : ksC[c + 14]? = some (0, 400) := by
  unfold isP at h
  rcases h with rfl | rfl | rfl | rfl | rfl
  · decide +kernel
  · decide +kernel
  · decide +kernel
  · decide +kernel
  · decide +kernel
theorem kP_15 {c : Nat} (h : isP c) : ksC[c + 15]? = some (0, 400) := by
  unfold isP at h
  rcases h with rfl | rfl | rfl | rfl | rfl
  · decide +kernel
  · decide +kernel
  · decide +kernel
  · decide +kernel
  · decide +kernel
theorem kP_16 {c : Nat} (h : isP c) : ksC[c + 16]? = some (0, 400) := by
  unfold isP at h
  rcases h with rfl | rfl | rfl | rfl | rfl
  · decide +kernel
  · decide +kernel
  · decide +kernel
  · decide +kernel
  · decide +kernel
theorem kP_17 {c : Nat} (h : isP c) : ksC[c + 17]? = some (0, 400) := by
  unfold isP at h
  rcases h with rfl | rfl | rfl | rfl | rfl
  · decide +kernel
  · decide +kernel
  · decide +kernel
  · decide +kernel
  · decide +kernel
theorem kP_18 {c : Nat} (h : isP c) : ksC[c + 18]? = some (6, 11) := by
  unfold isP at h
  rcases h with rfl | rfl | rfl | rfl | rfl
  · decide +kernel
  · decide +kernel
  · decide +kernel
  · decide +kernel
  · decide +kernel
theorem kP_19 {c : Nat} (h : isP c) : ksC[c + 19]? = some (0, 401) := by
  unfold isP at h
  rcases h with rfl | rfl | rfl | rfl | rfl
  · decide +kernel
  · decide +kernel
  · decide +kernel
  · decide +kernel
  · decide +kernel
theorem kP_2 {c : Nat} (h : isP c) : ksC[c + 2]? = some (0, 400) := by
  unfold isP at h
  rcases h with rfl | rfl | rfl | rfl | rfl
  · decide +kernel
  · decide +kernel
  · decide +kernel
  · decide +kernel
  · decide +kernel
theorem kP_20 {c : Nat} (h : isP c) : ksC[c + 20]? = some (0, 4108) := by
  unfold isP at h
  rcases h with rfl | rfl | rfl | rfl | rfl
  · decide +kernel
  · decide +kernel
  · decide +kernel
  · decide +kernel
  · decide +kernel
theorem kP_21 {c : Nat} (h : isP c) : ksC[c + 21]? = some (0, 4108) := by
  unfold isP at h
  rcases h with rfl | rfl | rfl | rfl | rfl
  · decide +kernel
  · decide +kernel
  · decide +kernel
  · decide +kernel
  · decide +kernel
theorem kP_22 {c : Nat} (h : isP c) : ksC[c + 22]? = some (0, 400) := by
  unfold isP at h
  rcases h with rfl | rfl | rfl | rfl | rfl
  · decide +kernel
  · decide +kernel
  · decide +kernel
  · decide +kernel
  · decide +kernel
theorem kP_23 {c : Nat} (h : isP c) : ksC[c + 23]? = some (0, 400) := by
  unfold isP at h
  rcases h with rfl | rfl | rfl | rfl | rfl
  · decide +kernel
  · decide +kernel
  · decide +kernel
  · decide +kernel
  · decide +kernel
theorem kP_24 {c : Nat} (h : isP c) : ksC[c + 24]? = some (0, 400) := by
  unfold isP at h
  rcases h with rfl | rfl | rfl | rfl | rfl
  · decide +kernel
  · decide +kernel
  · decide +kernel
  · decide +kernel
  · decide +kernel
theorem kP_25 {c : Nat} (h : isP c) : ksC[c + 25]? = some (0, 400) := by
  unfold isP at h
  rcases h with rfl | rfl | rfl | rfl | rfl
  · decide +kernel
  · decide +kernel
  · decide +kernel
  · decide +kernel
  · decide +kernel
theorem kP_26 {c : Nat} (h : isP c) : ksC[c + 26]? = some (0, 400) := by
  unfold isP at h
  rcases h with rfl | rfl | rfl | rfl | rfl
  · decide +kernel
  · decide +kernel
  · decide +kernel
  · decide +kernel
  · decide +kernel
theorem kP_3 {c : Nat} (h : isP c) : ksC[c + 3]? = some (0, 400) := by
  unfold isP at h
  rcases h with rfl | rfl | rfl | rfl | rfl
  · decide +kernel
  · decide +kernel
  · decide +kernel
  · decide +kernel
  · decide +kernel
theorem kP_4 {c : Nat} (h : isP c) : ksC[c + 4]? = some (0, 401) := by
  unfold isP at h
  rcases h with rfl | rfl | rfl | rfl | rfl
  · decide +kernel
  · decide +kernel
  · decide +kernel
  · decide +kernel
  · decide +kernel
theorem kP_5 {c : Nat} (h : isP c) : ksC[c + 5]? = some (0, 400) := by
  unfold isP at h
  rcases h with rfl | rfl | rfl | rfl | rfl
  · decide +kernel
  · decide +kernel
  · decide +kernel
  · decide +kernel
  · decide +kernel
theorem kP_6 {c : Nat} (h : isP c) : ksC[c + 6]? = some (0, 400) := by
  unfold isP at h
  rcases h with rfl | rfl | rfl | rfl | rfl
  · decide +kernel
  · decide +kernel
  · decide +kernel
  · decide +kernel
  · decide +kernel
theorem kP_7 {c : Nat} (h : isP c) : ksC[c + 7]? = some (0, 400) := by
  unfold isP at h
  rcases h with rfl | rfl | rfl | rfl | rfl
  · decide +kernel
  · decide +kernel
  · decide +kernel
  · decide +kernel
  · decide +kernel
theorem kP_8 {c : Nat} (h : isP c) : ksC[c + 8]? = some (0, 400) := by
  unfold isP at h
  rcases h with rfl | rfl | rfl | rfl | rfl
  · decide +kernel
  · decide +kernel
  · decide +kernel
  · decide +kernel
  · decide +kernel
theorem kP_9 {c : Nat} (h : isP c) : ksC[c + 9]? = some (1, 4000) := by
  unfold isP at h
  rcases h with rfl | rfl | rfl | rfl | rfl
  · decide +kernel
  · decide +kernel
  · decide +kernel
  · decide +kernel
  · decide +kernel
theorem kS_0 {c : Nat} (h : isS c) : ksC[c]? = some (6, 11) := by
  unfold isS at h
  rcases h with rfl | rfl | rfl | rfl | rfl
  · decide +kernel
  · decide +kernel
  · decide +kernel
  · decide +kernel
  · decide +kernel
theorem kS_1 {c : Nat} (h : isS c) : ksC[c + 1]? = some (0, 401) := by
  unfold isS at h
  rcases h with rfl | rfl | rfl | rfl | rfl
  · decide +kernel
  · decide +kernel
  · decide +kernel
  · decide +kernel
  · decide +kernel
theorem kS_10 {c : Nat} (h : isS c) : ksC[c + 10]? = some (0, 400) := by
  unfold isS at h
  rcases h with rfl | rfl | rfl | rfl | rfl
  · decide +kernel
  · decide +kernel
  · decide +kernel
  · decide +kernel
  · decide +kernel
theorem kS_11 {c : Nat} (h : isS c) : ksC[c + 11]? = some (0, 400) := by
  unfold isS at h
  rcases h with rfl | rfl | rfl | rfl | rfl
  · decide +kernel
  · decide +kernel
  · decide +kernel
  · decide +kernel
  · decide +kernel
theorem kS_12 {c : Nat} (h : isS c) : ksC[c + 12]? = some (0, 400) := by
  unfold isS at h
  rcases h with rfl | rfl | rfl | rfl | rfl
  · decide +kernel
  · decide +kernel
  · decide +kernel
  · decide +kernel
  · decide +kernel
theorem kS_13 {c : Nat} (h : isS c) : ksC[c + 13]? = some (0, 400) := by
  unfold isS at h
  rcases h with rfl | rfl | rfl | rfl | rfl
  · decide +kernel
  · decide +kernel
  · decide +kernel
  · decide +kernel
  · decide +kernel
theorem kS_14 {c : Nat} (h : isS c) : ksC[c + 14]? = some (0, 512) := by
  unfold isS at h
  rcases h with rfl | rfl | rfl | rfl | rfl
  · decide +kernel
  · decide +kernel
  · decide +kernel
  · decide +kernel
  · decide +kernel
theorem kS_2 {c : Nat} (h : isS c) : ksC[c + 2]? = some (0, 4108) := by
  unfold isS at h
  rcases h with rfl | rfl | rfl | rfl | rfl
  · decide +kernel
  · decide +kernel
  · decide +kernel
  · decide +kernel
  · decide +kernel
theorem kS_3 {c : Nat} (h : isS c) : ksC[c + 3]? = some (0, 4108) := by
  unfold isS at h
  rcases h with rfl | rfl | rfl | rfl | rfl
  · decide +kernel
  · decide +kernel
  · decide +kernel
  · decide +kernel
  · decide +kernel
theorem kS_4 {c : Nat} (h : isS c) : ksC[c + 4]? = some (0, 400) := by
  unfold isS at h
  rcases h with rfl | rfl | rfl | rfl | rfl
  · decide +kernel
  · decide +kernel
  · decide +kernel
  · decide +kernel
  · decide +kernel
theorem kS_5 {c : Nat} (h : isS c) : ksC[c + 5]? = some (0, 400) := by
  unfold isS at h
  rcases h with rfl | rfl | rfl | rfl | rfl
  · decide +kernel
  · decide +kernel
  · decide +kernel
  · decide +kernel
  · decide +kernel
theorem kS_6 {c : Nat} (h : isS c) : ksC[c + 6]? = some (0, 400) := by
  unfold isS at h
  rcases h with rfl | rfl | rfl | rfl | rfl
  · decide +kernel
  · decide +kernel
  · decide +kernel
  · decide +kernel
  · decide +kernel
theorem kS_7 {c : Nat} (h : isS c) : ksC[c + 7]? = some (0, 400) := by
  unfold isS at h
  rcases h with rfl | rfl | rfl | rfl | rfl
  · decide +kernel
  · decide +kernel
  · decide +kernel
  · decide +kernel
  · decide +kernel
theorem kS_8 {c : Nat} (h : isS c) : ksC[c + 8]? = some (0, 400) := by
  unfold isS at h
  rcases h with rfl | rfl | rfl | rfl | rfl
  · decide +kernel
  · decide +kernel
  · decide +kernel
  · decide +kernel
  · decide +kernel
theorem kS_9 {c : Nat} (h : isS c) : ksC[c + 9]? = some (0, 400) := by
  unfold isS at h
  rcases h with rfl | rfl | rfl | rfl | rfl
  · decide +kernel
  · decide +kernel
  · decide +kernel
  · decide +kernel
  · decide +kernel
theorem kR_0 : ksR[0]? = some (6, 15) := by decide +kernel
theorem kR_1 : ksR[1]? = some (3, 4000) := by decide +kernel
theorem kR_10 : ksR[10]? = some (0, 16) := by decide +kernel
theorem kR_100 : ksR[100]? = some (0, 400) := by decide +kernel
theorem kR_101 : ksR[101]? = some (0, 4000) := by decide +kernel
theorem kR_102 : ksR[102]? = some (0, 1000) := by decide +kernel
theorem kR_11 : ksR[11]? = some (0, 16) := by decide +kernel
theorem kR_12 : ksR[12]? = some (0, 96) := by decide +kernel
theorem kR_13 : ksR[13]? = some (0, 96) := by decide +kernel
theorem kR_14 : ksR[14]? = some (0, 96) := by decide +kernel
theorem kR_15 : ksR[15]? = some (0, 96) := by decide +kernel
theorem kR_16 : ksR[16]? = some (2, 16) := by decide +kernel
theorem kR_17 : ksR[17]? = some (2, 96) := by decide +kernel
theorem kR_18 : ksR[18]? = some (2, 16) := by decide +kernel
theorem kR_19 : ksR[19]? = some (0, 400) := by decide +kernel
theorem kR_2 : ksR[2]? = some (3, 20) := by decide +kernel
theorem kR_20 : ksR[20]? = some (0, 400) := by decide +kernel
theorem kR_21 : ksR[21]? = some (0, 400) := by decide +kernel
theorem kR_22 : ksR[22]? = some (2, 400) := by decide +kernel
theorem kR_23 : ksR[23]? = some (1, 38500) := by decide +kernel
theorem kR_24 : ksR[24]? = some (0, 12) := by decide +kernel
theorem kR_25 : ksR[25]? = some (0, 100) := by decide +kernel
theorem kR_26 : ksR[26]? = some (0, 100) := by decide +kernel
theorem kR_27 : ksR[27]? = some (0, 100) := by decide +kernel
theorem kR_28 : ksR[28]? = some (1, 100) := by decide +kernel
theorem kR_29 : ksR[29]? = some (0, 6) := by decide +kernel
theorem kR_3 : ksR[3]? = some (1, 29) := by decide +kernel
theorem kR_30 : ksR[30]? = some (0, 6) := by decide +kernel
theorem kR_31 : ksR[31]? = some (0, 6) := by decide +kernel
theorem kR_32 : ksR[32]? = some (0, 36) := by decide +kernel
theorem kR_33 : ksR[33]? = some (0, 36) := by decide +kernel
theorem kR_34 : ksR[34]? = some (1, 36) := by decide +kernel
theorem kR_35 : ksR[35]? = some (1, 36) := by decide +kernel
theorem kR_36 : ksR[36]? = some (0, 400) := by decide +kernel
theorem kR_37 : ksR[37]? = some (0, 400) := by decide +kernel
theorem kR_38 : ksR[38]? = some (0, 5) := by decide +kernel
theorem kR_39 : ksR[39]? = some (0, 2000) := by decide +kernel
theorem kR_4 : ksR[4]? = some (1, 16) := by decide +kernel
theorem kR_40 : ksR[40]? = some (0, 2000) := by decide +kernel
theorem kR_41 : ksR[41]? = some (0, 2000) := by decide +kernel
theorem kR_42 : ksR[42]? = some (0, 2000) := by decide +kernel
theorem kR_43 : ksR[43]? = some (0, 2000) := by decide +kernel
theorem kR_44 : ksR[44]? = some (0, 2000) := by decide +kernel
theorem kR_45 : ksR[45]? = some (0, 2000) := by decide +kernel
theorem kR_46 : ksR[46]? = some (0, 2000) := by decide +kernel
theorem kR_47 : ksR[47]? = some (0, 2000) := by decide +kernel
theorem kR_48 : ksR[48]? = some (0, 2000) := by decide +kernel
theorem kR_49 : ksR[49]? = some (0, 2000) := by decide +kernel
theorem kR_5 : ksR[5]? = some (1, 96) := by decide +kernel
theorem kR_50 : ksR[50]? = some (0, 2000) := by decide +kernel
theorem kR_51 : ksR[51]? = some (0, 2000) := by decide +kernel
theorem kR_52 : ksR[52]? = some (0, 5) := by decide +kernel
theorem kR_53 : ksR[53]? = some (0, 5) := by decide +kernel
theorem kR_54 : ksR[54]? = some (0, 5) := by decide +kernel
theorem kR_55 : ksR[55]? = some (0, 5) := by decide +kernel
theorem kR_56 : ksR[56]? = some (0, 640) := by decide +kernel
theorem kR_57 : ksR[57]? = some (0, 640) := by decide +kernel
theorem kR_58 : ksR[58]? = some (1, 20000) := by decide +kernel
theorem kR_59 : ksR[59]? = some (2, 2000) := by decide +kernel
theorem kR_6 : ksR[6]? = some (1, 96) := by decide +kernel
theorem kR_60 : ksR[60]? = some (2, 400) := by decide +kernel
theorem kR_61 : ksR[61]? = some (2, 160000) := by decide +kernel
theorem kR_62 : ksR[62]? = some (0, 400) := by decide +kernel
theorem kR_63 : ksR[63]? = some (0, 400) := by decide +kernel
theorem kR_64 : ksR[64]? = some (0, 400) := by decide +kernel
theorem kR_65 : ksR[65]? = some (0, 400) := by decide +kernel
theorem kR_66 : ksR[66]? = some (0, 480) := by decide +kernel
theorem kR_67 : ksR[67]? = some (0, 480) := by decide +kernel
theorem kR_68 : ksR[68]? = some (0, 480) := by decide +kernel
theorem kR_69 : ksR[69]? = some (0, 480) := by decide +kernel
theorem kR_7 : ksR[7]? = some (0, 16) := by decide +kernel
theorem kR_70 : ksR[70]? = some (1, 480) := by decide +kernel
theorem kR_71 : ksR[71]? = some (1, 12) := by decide +kernel
theorem kR_72 : ksR[72]? = some (0, 12) := by decide +kernel
theorem kR_73 : ksR[73]? = some (0, 52800) := by decide +kernel
theorem kR_74 : ksR[74]? = some (0, 12) := by decide +kernel
theorem kR_75 : ksR[75]? = some (0, 4400) := by decide +kernel
theorem kR_76 : ksR[76]? = some (0, 4400) := by decide +kernel
theorem kR_77 : ksR[77]? = some (1, 4400) := by decide +kernel
theorem kR_78 : ksR[78]? = some (0, 3) := by decide +kernel
theorem kR_79 : ksR[79]? = some (0, 3) := by decide +kernel
theorem kR_8 : ksR[8]? = some (0, 16) := by decide +kernel
theorem kR_80 : ksR[80]? = some (1, 6) := by decide +kernel
theorem kR_81 : ksR[81]? = some (1, 9) := by decide +kernel
theorem kR_82 : ksR[82]? = some (1, 48) := by decide +kernel
theorem kR_83 : ksR[83]? = some (0, 6) := by decide +kernel
theorem kR_84 : ksR[84]? = some (0, 12) := by decide +kernel
theorem kR_85 : ksR[85]? = some (0, 12) := by decide +kernel
theorem kR_86 : ksR[86]? = some (0, 12) := by decide +kernel
theorem kR_87 : ksR[87]? = some (0, 12) := by decide +kernel
theorem kR_88 : ksR[88]? = some (0, 48) := by decide +kernel
theorem kR_89 : ksR[89]? = some (0, 48) := by decide +kernel
theorem kR_9 : ksR[9]? = some (0, 16) := by decide +kernel
theorem kR_90 : ksR[90]? = some (0, 48) := by decide +kernel
theorem kR_91 : ksR[91]? = some (0, 48) := by decide +kernel
theorem kR_92 : ksR[92]? = some (0, 12) := by decide +kernel
theorem kR_93 : ksR[93]? = some (0, 9) := by decide +kernel
theorem kR_94 : ksR[94]? = some (2, 240) := by decide +kernel
theorem kR_95 : ksR[95]? = some (2, 9600) := by decide +kernel
theorem kR_96 : ksR[96]? = some (2, 9) := by decide +kernel
theorem kR_98 : ksR[98]? = some (3, 9000) := by decide +kernel
theorem kR_99 : ksR[99]? = some (3, 8000) := by decide +kernel
theorem fC_3_0 : (ftC 3)[0]? = some (5, 8) := by decide +kernel
theorem fC_3_1 : (ftC 3)[1]? = some (4, 1) := by decide +kernel
theorem fC_3_2 : (ftC 3)[2]? = some (0, 0) := by decide +kernel
theorem fC_3_3 : (ftC 3)[3]? = some (4, 2) := by decide +kernel
theorem fC_3_4 : (ftC 3)[4]? = some (0, 0) := by decide +kernel
theorem fC_3_5 : (ftC 3)[5]? = some (0, 0) := by decide +kernel
theorem fC_3_6 : (ftC 3)[6]? = some (3, 0) := by decide +kernel
theorem fC_3_7 : (ftC 3)[7]? = some (0, 0) := by decide +kernel
theorem fC_3_8 : (ftC 3)[8]? = some (0, 0) := by decide +kernel
theorem fC_3_9 : (ftC 3)[9]? = some (0, 0) := by decide +kernel
theorem fC_3_10 : (ftC 3)[10]? = some (0, 0) := by decide +kernel
theorem fC_3_11 : (ftC 3)[11]? = some (4, 3) := by decide +kernel
theorem fC_3_12 : (ftC 3)[12]? = some (4, 4) := by decide +kernel
theorem fC_3_13 : (ftC 3)[13]? = some (0, 0) := by decide +kernel
theorem fC_3_14 : (ftC 3)[14]? = some (0, 0) := by decide +kernel
theorem fC_4_0 : (ftC 4)[0]? = some (5, 8) := by decide +kernel
theorem fC_4_1 : (ftC 4)[1]? = some (0, 0) := by decide +kernel
theorem fC_4_2 : (ftC 4)[2]? = some (1, 0) := by decide +kernel
theorem fC_4_3 : (ftC 4)[3]? = some (4, 1) := by decide +kernel
theorem fC_4_4 : (ftC 4)[4]? = some (4, 2) := by decide +kernel
theorem fC_4_5 : (ftC 4)[5]? = some (4, 3) := by decide +kernel
theorem fC_4_6 : (ftC 4)[6]? = some (4, 4) := by decide +kernel
theorem fC_4_7 : (ftC 4)[7]? = some (4, 5) := by decide +kernel
theorem fC_4_8 : (ftC 4)[8]? = some (3, 0) := by decide +kernel
theorem fC_4_9 : (ftC 4)[9]? = some (2, 0) := by decide +kernel
theorem fC_5_0 : (ftC 5)[0]? = some (5, 8) := by decide +kernel
theorem fC_5_1 : (ftC 5)[1]? = some (0, 0) := by decide +kernel
theorem fC_5_2 : (ftC 5)[2]? = some (0, 0) := by decide +kernel
theorem fC_5_3 : (ftC 5)[3]? = some (0, 0) := by decide +kernel
theorem fC_5_4 : (ftC 5)[4]? = some (4, 1) := by decide +kernel
theorem fC_5_5 : (ftC 5)[5]? = some (4, 2) := by decide +kernel
theorem fC_5_6 : (ftC 5)[6]? = some (4, 3) := by decide +kernel
theorem fC_5_7 : (ftC 5)[7]? = some (4, 4) := by decide +kernel
theorem fC_5_8 : (ftC 5)[8]? = some (4, 5) := by decide +kernel
theorem fC_5_9 : (ftC 5)[9]? = some (4, 6) := by decide +kernel
theorem fC_5_10 : (ftC 5)[10]? = some (4, 7) := by decide +kernel
theorem fC_5_11 : (ftC 5)[11]? = some (0, 0) := by decide +kernel
theorem fC_5_12 : (ftC 5)[12]? = some (4, 8) := by decide +kernel
theorem fC_5_13 : (ftC 5)[13]? = some (4, 9) := by decide +kernel
theorem fC_6_0 : (ftC 6)[0]? = some (5, 8) := by decide +kernel
theorem fC_6_1 : (ftC 6)[1]? = some (0, 0) := by decide +kernel
theorem fC_6_2 : (ftC 6)[2]? = some (4, 1) := by decide +kernel
theorem fC_6_3 : (ftC 6)[3]? = some (4, 2) := by decide +kernel
theorem fC_6_4 : (ftC 6)[4]? = some (4, 3) := by decide +kernel
theorem fC_6_5 : (ftC 6)[5]? = some (0, 0) := by decide +kernel
theorem fC_6_6 : (ftC 6)[6]? = some (0, 0) := by decide +kernel
theorem fC_6_7 : (ftC 6)[7]? = some (0, 0) := by decide +kernel
theorem fC_6_8 : (ftC 6)[8]? = some (4, 4) := by decide +kernel
theorem fC_6_9 : (ftC 6)[9]? = some (4, 5) := by decide +kernel
theorem fC_6_10 : (ftC 6)[10]? = some (4, 6) := by decide +kernel
theorem fC_6_11 : (ftC 6)[11]? = some (4, 7) := by decide +kernel
theorem fC_6_12 : (ftC 6)[12]? = some (4, 8) := by decide +kernel
theorem fC_7_0 : (ftC 7)[0]? = some (5, 8) := by decide +kernel
theorem fC_7_1 : (ftC 7)[1]? = some (3, 0) := by decide +kernel
theorem fC_7_2 : (ftC 7)[2]? = some (3, 0) := by decide +kernel
theorem fC_7_3 : (ftC 7)[3]? = some (0, 0) := by decide +kernel
theorem fC_7_4 : (ftC 7)[4]? = some (4, 1) := by decide +kernel
theorem fC_7_5 : (ftC 7)[5]? = some (4, 2) := by decide +kernel
theorem fC_7_6 : (ftC 7)[6]? = some (0, 0) := by decide +kernel
theorem fC_7_7 : (ftC 7)[7]? = some (4, 3) := by decide +kernel
theorem fC_7_8 : (ftC 7)[8]? = some (4, 4) := by decide +kernel
theorem fC_7_9 : (ftC 7)[9]? = some (4, 5) := by decide +kernel
theorem fC_7_10 : (ftC 7)[10]? = some (4, 6) := by decide +kernel
theorem fC_7_11 : (ftC 7)[11]? = some (4, 7) := by decide +kernel
theorem fC_7_12 : (ftC 7)[12]? = some (4, 8) := by decide +kernel
theorem fC_7_13 : (ftC 7)[13]? = some (4, 9) := by decide +kernel
theorem fC_7_14 : (ftC 7)[14]? = some (4, 10) := by decide +kernel
theorem fC_7_15 : (ftC 7)[15]? = some (4, 11) := by decide +kernel
theorem fC_7_16 : (ftC 7)[16]? = some (4, 12) := by decide +kernel
theorem fC_7_17 : (ftC 7)[17]? = some (4, 13) := by decide +kernel
theorem fC_7_18 : (ftC 7)[18]? = some (4, 14) := by decide +kernel
theorem fC_7_19 : (ftC 7)[19]? = some (4, 15) := by decide +kernel
theorem fC_7_20 : (ftC 7)[20]? = some (0, 0) := by decide +kernel
theorem fC_8_0 : (ftC 8)[0]? = some (0, 0) := by decide +kernel
theorem fC_8_1 : (ftC 8)[1]? = some (4, 1) := by decide +kernel
theorem fC_8_2 : (ftC 8)[2]? = some (4, 2) := by decide +kernel
theorem fC_8_3 : (ftC 8)[3]? = some (4, 3) := by decide +kernel
theorem fC_8_4 : (ftC 8)[4]? = some (4, 4) := by decide +kernel
theorem fC_8_5 : (ftC 8)[5]? = some (4, 5) := by decide +kernel
theorem fC_8_6 : (ftC 8)[6]? = some (4, 6) := by decide +kernel
theorem fC_8_7 : (ftC 8)[7]? = some (4, 7) := by decide +kernel
theorem fC_8_8 : (ftC 8)[8]? = some (4, 8) := by decide +kernel
theorem fC_8_9 : (ftC 8)[9]? = some (4, 9) := by decide +kernel
theorem fC_8_10 : (ftC 8)[10]? = some (4, 10) := by decide +kernel
theorem fC_8_11 : (ftC 8)[11]? = some (0, 0) := by decide +kernel
theorem fC_8_12 : (ftC 8)[12]? = some (4, 11) := by decide +kernel
theorem fC_8_13 : (ftC 8)[13]? = some (4, 12) := by decide +kernel
theorem fC_8_14 : (ftC 8)[14]? = some (4, 13) := by decide +kernel
theorem fC_8_15 : (ftC 8)[15]? = some (4, 14) := by decide +kernel
theorem fC_8_16 : (ftC 8)[16]? = some (0, 0) := by decide +kernel
theorem fC_8_17 : (ftC 8)[17]? = some (4, 15) := by decide +kernel
theorem fC_8_18 : (ftC 8)[18]? = some (4, 16) := by decide +kernel
theorem fC_8_19 : (ftC 8)[19]? = some (4, 17) := by decide +kernel
theorem fC_8_20 : (ftC 8)[20]? = some (4, 18) := by decide +kernel
theorem fC_9_0 : (ftC 9)[0]? = some (5, 1) := by decide +kernel
theorem fC_9_1 : (ftC 9)[1]? = some (4, 1) := by decide +kernel
theorem fC_9_2 : (ftC 9)[2]? = some (4, 2) := by decide +kernel
theorem fC_9_3 : (ftC 9)[3]? = some (4, 3) := by decide +kernel
theorem fC_9_4 : (ftC 9)[4]? = some (4, 4) := by decide +kernel
theorem fC_9_5 : (ftC 9)[5]? = some (0, 0) := by decide +kernel
theorem fC_9_6 : (ftC 9)[6]? = some (0, 0) := by decide +kernel
theorem fC_9_7 : (ftC 9)[7]? = some (0, 0) := by decide +kernel
theorem fC_9_8 : (ftC 9)[8]? = some (2, 0) := by decide +kernel
theorem fC_9_9 : (ftC 9)[9]? = some (2, 0) := by decide +kernel
theorem fC_9_10 : (ftC 9)[10]? = some (0, 0) := by decide +kernel
theorem fC_9_11 : (ftC 9)[11]? = some (0, 0) := by decide +kernel
theorem fC_9_12 : (ftC 9)[12]? = some (0, 0) := by decide +kernel
theorem fC_9_13 : (ftC 9)[13]? = some (2, 0) := by decide +kernel
theorem fC_9_14 : (ftC 9)[14]? = some (4, 5) := by decide +kernel
theorem fC_9_15 : (ftC 9)[15]? = some (4, 6) := by decide +kernel
theorem fC_9_16 : (ftC 9)[16]? = some (0, 0) := by decide +kernel
theorem fC_9_17 : (ftC 9)[17]? = some (4, 7) := by decide +kernel
theorem fC_9_18 : (ftC 9)[18]? = some (0, 0) := by decide +kernel
theorem fC_10_0 : (ftC 10)[0]? = some (5, 1) := by decide +kernel
theorem fC_10_1 : (ftC 10)[1]? = some (1, 0) := by decide +kernel
theorem fC_10_2 : (ftC 10)[2]? = some (1, 0) := by decide +kernel
theorem fC_10_3 : (ftC 10)[3]? = some (0, 0) := by decide +kernel
theorem fC_10_4 : (ftC 10)[4]? = some (4, 1) := by decide +kernel
theorem fC_10_5 : (ftC 10)[5]? = some (4, 2) := by decide +kernel
theorem fC_10_6 : (ftC 10)[6]? = some (4, 3) := by decide +kernel
theorem fC_10_7 : (ftC 10)[7]? = some (4, 4) := by decide +kernel
theorem fC_10_8 : (ftC 10)[8]? = some (4, 5) := by decide +kernel
theorem fC_10_9 : (ftC 10)[9]? = some (4, 6) := by decide +kernel
theorem fC_10_10 : (ftC 10)[10]? = some (4, 7) := by decide +kernel
theorem fC_10_11 : (ftC 10)[11]? = some (4, 8) := by decide +kernel
theorem fC_10_12 : (ftC 10)[12]? = some (4, 9) := by decide +kernel
theorem fC_10_13 : (ftC 10)[13]? = some (4, 10) := by decide +kernel
theorem fC_10_14 : (ftC 10)[14]? = some (0, 0) := by decide +kernel
theorem fC_10_15 : (ftC 10)[15]? = some (0, 0) := by decide +kernel
theorem fC_10_16 : (ftC 10)[16]? = some (0, 0) := by decide +kernel
theorem fC_10_17 : (ftC 10)[17]? = some (4, 11) := by decide +kernel
theorem fC_10_18 : (ftC 10)[18]? = some (4, 12) := by decide +kernel
theorem fC_10_19 : (ftC 10)[19]? = some (0, 0) := by decide +kernel
theorem fC_10_20 : (ftC 10)[20]? = some (0, 0) := by decide +kernel
theorem fC_11_0 : (ftC 11)[0]? = some (5, 8) := by decide +kernel
theorem fC_11_1 : (ftC 11)[1]? = some (0, 0) := by decide +kernel
theorem fC_11_2 : (ftC 11)[2]? = some (4, 1) := by decide +kernel
theorem fC_11_3 : (ftC 11)[3]? = some (4, 2) := by decide +kernel
theorem fC_11_4 : (ftC 11)[4]? = some (4, 3) := by decide +kernel
theorem fC_11_5 : (ftC 11)[5]? = some (4, 4) := by decide +kernel
theorem fC_11_6 : (ftC 11)[6]? = some (4, 5) := by decide +kernel
theorem fC_11_7 : (ftC 11)[7]? = some (4, 6) := by decide +kernel
theorem fC_11_8 : (ftC 11)[8]? = some (4, 7) := by decide +kernel
theorem fC_11_9 : (ftC 11)[9]? = some (0, 0) := by decide +kernel
theorem fC_11_10 : (ftC 11)[10]? = some (4, 8) := by decide +kernel
theorem fC_11_11 : (ftC 11)[11]? = some (0, 0) := by decide +kernel
theorem fC_11_12 : (ftC 11)[12]? = some (4, 9) := by decide +kernel
theorem fC_11_13 : (ftC 11)[13]? = some (4, 10) := by decide +kernel
theorem fC_11_14 : (ftC 11)[14]? = some (4, 11) := by decide +kernel
theorem fC_11_15 : (ftC 11)[15]? = some (4, 12) := by decide +kernel
theorem fC_11_16 : (ftC 11)[16]? = some (4, 13) := by decide +kernel
theorem fC_11_17 : (ftC 11)[17]? = some (4, 14) := by decide +kernel
theorem fC_12_0 : (ftC 12)[0]? = some (4, 1) := by decide +kernel
theorem fC_12_1 : (ftC 12)[1]? = some (0, 0) := by decide +kernel
theorem fC_12_2 : (ftC 12)[2]? = some (4, 2) := by decide +kernel
theorem fC_12_3 : (ftC 12)[3]? = some (4, 6) := by decide +kernel
theorem fC_12_4 : (ftC 12)[4]? = some (0, 0) := by decide +kernel
theorem fC_12_5 : (ftC 12)[5]? = some (4, 3) := by decide +kernel
theorem fC_12_6 : (ftC 12)[6]? = some (4, 4) := by decide +kernel
theorem fC_12_7 : (ftC 12)[7]? = some (4, 5) := by decide +kernel
theorem fC_12_8 : (ftC 12)[8]? = some (0, 0) := by decide +kernel
theorem fC_12_9 : (ftC 12)[9]? = some (0, 0) := by decide +kernel
theorem fC_12_10 : (ftC 12)[10]? = some (0, 0) := by decide +kernel
theorem fC_12_11 : (ftC 12)[11]? = some (1, 0) := by decide +kernel
theorem fC_13_0 : (ftC 13)[0]? = some (0, 0) := by decide +kernel
theorem fC_13_1 : (ftC 13)[1]? = some (4, 1) := by decide +kernel
theorem fC_13_2 : (ftC 13)[2]? = some (4, 2) := by decide +kernel
theorem fC_13_3 : (ftC 13)[3]? = some (4, 3) := by decide +kernel
theorem fC_13_4 : (ftC 13)[4]? = some (4, 4) := by decide +kernel
theorem fC_13_5 : (ftC 13)[5]? = some (4, 5) := by decide +kernel
theorem fC_13_6 : (ftC 13)[6]? = some (4, 6) := by decide +kernel
theorem fC_13_7 : (ftC 13)[7]? = some (4, 7) := by decide +kernel
theorem fC_13_8 : (ftC 13)[8]? = some (4, 8) := by decide +kernel
theorem fC_13_9 : (ftC 13)[9]? = some (4, 9) := by decide +kernel
theorem fC_13_10 : (ftC 13)[10]? = some (4, 10) := by decide +kernel
theorem fC_13_11 : (ftC 13)[11]? = some (4, 11) := by decide +kernel
theorem fC_13_12 : (ftC 13)[12]? = some (4, 12) := by decide +kernel
theorem fC_13_13 : (ftC 13)[13]? = some (4, 13) := by decide +kernel
theorem fC_13_14 : (ftC 13)[14]? = some (4, 14) := by decide +kernel
theorem fC_13_15 : (ftC 13)[15]? = some (4, 15) := by decide +kernel
theorem fC_13_16 : (ftC 13)[16]? = some (4, 16) := by decide +kernel
theorem fC_13_17 : (ftC 13)[17]? = some (4, 17) := by decide +kernel
theorem fC_14_0 : (ftC 14)[0]? = some (5, 1) := by decide +kernel
theorem fC_14_1 : (ftC 14)[1]? = some (5, 8) := by decide +kernel
theorem fC_14_2 : (ftC 14)[2]? = some (5, 26) := by decide +kernel
theorem fC_14_3 : (ftC 14)[3]? = some (5, 36) := by decide +kernel
theorem fC_14_4 : (ftC 14)[4]? = some (5, 45) := by decide +kernel
theorem fC_14_5 : (ftC 14)[5]? = some (3, 0) := by decide +kernel
theorem fC_14_6 : (ftC 14)[6]? = some (5, 211) := by decide +kernel
theorem fC_14_7 : (ftC 14)[7]? = some (5, 219) := by decide +kernel
theorem fC_14_8 : (ftC 14)[8]? = some (5, 235) := by decide +kernel
theorem fC_14_9 : (ftC 14)[9]? = some (5, 260) := by decide +kernel
theorem fC_14_10 : (ftC 14)[10]? = some (0, 0) := by decide +kernel
theorem fC_14_11 : (ftC 14)[11]? = some (5, 261) := by decide +kernel
theorem fC_14_12 : (ftC 14)[12]? = some (5, 274) := by decide +kernel
theorem fC_14_13 : (ftC 14)[13]? = some (5, 280) := by decide +kernel
theorem fC_14_14 : (ftC 14)[14]? = some (5, 285) := by decide +kernel
theorem fC_14_15 : (ftC 14)[15]? = some (0, 0) := by decide +kernel
theorem fC_14_16 : (ftC 14)[16]? = some (0, 0) := by decide +kernel
theorem fC_14_17 : (ftC 14)[17]? = some (0, 0) := by decide +kernel
theorem fR_15_0 : (ftR 15)[0]? = some (0, 0) := by decide +kernel
theorem fR_15_1 : (ftR 15)[1]? = some (4, 1) := by decide +kernel
theorem fR_15_2 : (ftR 15)[2]? = some (4, 2) := by decide +kernel
theorem fR_15_3 : (ftR 15)[3]? = some (0, 0) := by decide +kernel
theorem fR_15_4 : (ftR 15)[4]? = some (4, 3) := by decide +kernel
theorem fR_15_5 : (ftR 15)[5]? = some (4, 4) := by decide +kernel
theorem fR_15_6 : (ftR 15)[6]? = some (4, 5) := by decide +kernel
theorem fR_15_7 : (ftR 15)[7]? = some (4, 6) := by decide +kernel
theorem fR_15_8 : (ftR 15)[8]? = some (4, 7) := by decide +kernel
theorem fR_15_9 : (ftR 15)[9]? = some (4, 8) := by decide +kernel
theorem fR_15_10 : (ftR 15)[10]? = some (4, 9) := by decide +kernel
theorem fR_15_11 : (ftR 15)[11]? = some (4, 10) := by decide +kernel
theorem fR_15_12 : (ftR 15)[12]? = some (4, 11) := by decide +kernel
theorem fR_15_13 : (ftR 15)[13]? = some (4, 12) := by decide +kernel
theorem fR_15_14 : (ftR 15)[14]? = some (4, 13) := by decide +kernel
theorem fR_15_15 : (ftR 15)[15]? = some (4, 14) := by decide +kernel
theorem fR_15_16 : (ftR 15)[16]? = some (4, 15) := by decide +kernel
theorem fR_15_17 : (ftR 15)[17]? = some (4, 16) := by decide +kernel
theorem fR_15_18 : (ftR 15)[18]? = some (4, 17) := by decide +kernel
theorem fR_15_19 : (ftR 15)[19]? = some (4, 18) := by decide +kernel
theorem fR_15_20 : (ftR 15)[20]? = some (0, 0) := by decide +kernel
theorem fR_15_21 : (ftR 15)[21]? = some (4, 19) := by decide +kernel
theorem fR_15_22 : (ftR 15)[22]? = some (4, 20) := by decide +kernel
theorem fR_15_23 : (ftR 15)[23]? = some (4, 21) := by decide +kernel
theorem fR_15_24 : (ftR 15)[24]? = some (4, 22) := by decide +kernel
theorem fR_15_25 : (ftR 15)[25]? = some (4, 23) := by decide +kernel
theorem fR_15_26 : (ftR 15)[26]? = some (0, 0) := by decide +kernel
theorem fR_15_27 : (ftR 15)[27]? = some (0, 0) := by decide +kernel
theorem fR_15_28 : (ftR 15)[28]? = some (0, 0) := by decide +kernel
theorem fR_15_29 : (ftR 15)[29]? = some (0, 0) := by decide +kernel
theorem fR_15_30 : (ftR 15)[30]? = some (4, 24) := by decide +kernel
theorem fR_15_31 : (ftR 15)[31]? = some (0, 0) := by decide +kernel
theorem fR_15_32 : (ftR 15)[32]? = some (4, 25) := by decide +kernel
theorem fR_15_33 : (ftR 15)[33]? = some (4, 26) := by decide +kernel
theorem fR_15_34 : (ftR 15)[34]? = some (4, 27) := by decide +kernel
theorem fR_15_35 : (ftR 15)[35]? = some (4, 28) := by decide +kernel
theorem fR_15_36 : (ftR 15)[36]? = some (0, 0) := by decide +kernel
theorem fR_15_37 : (ftR 15)[37]? = some (4, 29) := by decide +kernel
theorem fR_15_38 : (ftR 15)[38]? = some (4, 30) := by decide +kernel
theorem fR_15_39 : (ftR 15)[39]? = some (4, 31) := by decide +kernel
theorem fR_15_40 : (ftR 15)[40]? = some (4, 32) := by decide +kernel
theorem fR_15_41 : (ftR 15)[41]? = some (4, 33) := by decide +kernel
theorem fR_15_42 : (ftR 15)[42]? = some (4, 34) := by decide +kernel
theorem fR_15_43 : (ftR 15)[43]? = some (4, 35) := by decide +kernel
theorem fR_15_44 : (ftR 15)[44]? = some (0, 0) := by decide +kernel
theorem fR_15_45 : (ftR 15)[45]? = some (4, 36) := by decide +kernel
theorem fR_15_46 : (ftR 15)[46]? = some (4, 37) := by decide +kernel
theorem fR_15_47 : (ftR 15)[47]? = some (0, 0) := by decide +kernel
theorem fR_15_48 : (ftR 15)[48]? = some (4, 38) := by decide +kernel
theorem fR_15_49 : (ftR 15)[49]? = some (4, 39) := by decide +kernel
theorem fR_15_50 : (ftR 15)[50]? = some (4, 40) := by decide +kernel
theorem fR_15_51 : (ftR 15)[51]? = some (4, 41) := by decide +kernel
theorem fR_15_52 : (ftR 15)[52]? = some (4, 42) := by decide +kernel
theorem fR_15_53 : (ftR 15)[53]? = some (4, 43) := by decide +kernel
theorem fR_15_54 : (ftR 15)[54]? = some (4, 44) := by decide +kernel
theorem fR_15_55 : (ftR 15)[55]? = some (4, 45) := by decide +kernel
theorem fR_15_56 : (ftR 15)[56]? = some (4, 46) := by decide +kernel
theorem fR_15_57 : (ftR 15)[57]? = some (4, 47) := by decide +kernel
theorem fR_15_58 : (ftR 15)[58]? = some (4, 48) := by decide +kernel
theorem fR_15_59 : (ftR 15)[59]? = some (4, 49) := by decide +kernel
theorem fR_15_60 : (ftR 15)[60]? = some (4, 50) := by decide +kernel
theorem fR_15_61 : (ftR 15)[61]? = some (4, 51) := by decide +kernel
theorem fR_15_62 : (ftR 15)[62]? = some (4, 52) := by decide +kernel
theorem fR_15_63 : (ftR 15)[63]? = some (4, 53) := by decide +kernel
theorem fR_15_64 : (ftR 15)[64]? = some (4, 54) := by decide +kernel
theorem fR_15_65 : (ftR 15)[65]? = some (4, 55) := by decide +kernel
theorem fR_15_66 : (ftR 15)[66]? = some (4, 56) := by decide +kernel
theorem fR_15_67 : (ftR 15)[67]? = some (4, 57) := by decide +kernel
theorem fR_15_68 : (ftR 15)[68]? = some (4, 58) := by decide +kernel
theorem fR_15_69 : (ftR 15)[69]? = some (4, 59) := by decide +kernel
theorem fR_15_70 : (ftR 15)[70]? = some (4, 60) := by decide +kernel
theorem fR_15_71 : (ftR 15)[71]? = some (4, 61) := by decide +kernel
theorem fR_15_72 : (ftR 15)[72]? = some (4, 62) := by decide +kernel
theorem fR_15_73 : (ftR 15)[73]? = some (0, 0) := by decide +kernel
theorem fR_15_74 : (ftR 15)[74]? = some (4, 63) := by decide +kernel
theorem fR_15_75 : (ftR 15)[75]? = some (0, 0) := by decide +kernel
theorem fR_15_76 : (ftR 15)[76]? = some (4, 64) := by decide +kernel
theorem fR_15_77 : (ftR 15)[77]? = some (4, 65) := by decide +kernel
theorem fR_15_78 : (ftR 15)[78]? = some (0, 0) := by decide +kernel
theorem fR_15_79 : (ftR 15)[79]? = some (0, 0) := by decide +kernel
theorem fR_15_80 : (ftR 15)[80]? = some (0, 0) := by decide +kernel
theorem fR_15_81 : (ftR 15)[81]? = some (0, 0) := by decide +kernel
theorem fR_15_82 : (ftR 15)[82]? = some (0, 0) := by decide +kernel
theorem fR_15_83 : (ftR 15)[83]? = some (0, 0) := by decide +kernel
theorem fR_15_84 : (ftR 15)[84]? = some (0, 0) := by decide +kernel
theorem fR_15_85 : (ftR 15)[85]? = some (1, 0) := by decide +kernel
theorem fR_15_86 : (ftR 15)[86]? = some (4, 66) := by decide +kernel
theorem fR_15_87 : (ftR 15)[87]? = some (4, 67) := by decide +kernel
theorem fR_15_88 : (ftR 15)[88]? = some (4, 68) := by decide +kernel
theorem fR_15_89 : (ftR 15)[89]? = some (4, 69) := by decide +kernel
theorem fR_15_90 : (ftR 15)[90]? = some (4, 70) := by decide +kernel
theorem fR_15_91 : (ftR 15)[91]? = some (0, 0) := by decide +kernel
theorem fR_15_92 : (ftR 15)[92]? = some (0, 0) := by decide +kernel
theorem fR_15_93 : (ftR 15)[93]? = some (0, 0) := by decide +kernel
theorem fR_15_94 : (ftR 15)[94]? = some (0, 0) := by decide +kernel
theorem fR_15_95 : (ftR 15)[95]? = some (2, 0) := by decide +kernel
theorem fR_15_96 : (ftR 15)[96]? = some (4, 71) := by decide +kernel
theorem fR_15_97 : (ftR 15)[97]? = some (0, 0) := by decide +kernel
theorem fR_15_98 : (ftR 15)[98]? = some (0, 0) := by decide +kernel
theorem fR_15_99 : (ftR 15)[99]? = some (0, 0) := by decide +kernel
theorem fR_15_100 : (ftR 15)[100]? = some (0, 0) := by decide +kernel
theorem fR_15_101 : (ftR 15)[101]? = some (0, 0) := by decide +kernel
theorem fR_15_102 : (ftR 15)[102]? = some (1, 0) := by decide +kernel
theorem fR_15_103 : (ftR 15)[103]? = some (2, 0) := by decide +kernel
theorem fR_15_104 : (ftR 15)[104]? = some (4, 72) := by decide +kernel
theorem fR_15_105 : (ftR 15)[105]? = some (4, 73) := by decide +kernel
theorem fR_15_106 : (ftR 15)[106]? = some (4, 74) := by decide +kernel
theorem fR_15_107 : (ftR 15)[107]? = some (4, 75) := by decide +kernel
theorem fR_15_108 : (ftR 15)[108]? = some (4, 76) := by decide +kernel
theorem fR_15_109 : (ftR 15)[109]? = some (4, 77) := by decide +kernel
theorem fR_15_110 : (ftR 15)[110]? = some (0, 0) := by decide +kernel
theorem fR_15_111 : (ftR 15)[111]? = some (4, 78) := by decide +kernel
theorem fR_15_112 : (ftR 15)[112]? = some (4, 79) := by decide +kernel
theorem fR_15_113 : (ftR 15)[113]? = some (0, 0) := by decide +kernel
theorem fR_15_114 : (ftR 15)[114]? = some (2, 0) := by decide +kernel
theorem fR_15_115 : (ftR 15)[115]? = some (4, 80) := by decide +kernel
theorem fR_15_116 : (ftR 15)[116]? = some (4, 81) := by decide +kernel
theorem fR_15_117 : (ftR 15)[117]? = some (4, 82) := by decide +kernel
theorem fR_15_118 : (ftR 15)[118]? = some (4, 83) := by decide +kernel
theorem fR_15_119 : (ftR 15)[119]? = some (4, 84) := by decide +kernel
theorem fR_15_120 : (ftR 15)[120]? = some (4, 85) := by decide +kernel
theorem fR_15_121 : (ftR 15)[121]? = some (4, 86) := by decide +kernel
theorem fR_15_122 : (ftR 15)[122]? = some (4, 87) := by decide +kernel
theorem fR_15_123 : (ftR 15)[123]? = some (4, 88) := by decide +kernel
theorem fR_15_124 : (ftR 15)[124]? = some (4, 89) := by decide +kernel
theorem fR_15_125 : (ftR 15)[125]? = some (4, 90) := by decide +kernel
theorem fR_15_126 : (ftR 15)[126]? = some (4, 91) := by decide +kernel
theorem fR_15_127 : (ftR 15)[127]? = some (4, 92) := by decide +kernel
theorem fR_15_128 : (ftR 15)[128]? = some (4, 93) := by decide +kernel
theorem fR_15_129 : (ftR 15)[129]? = some (4, 94) := by decide +kernel
theorem fR_15_130 : (ftR 15)[130]? = some (4, 95) := by decide +kernel
theorem fR_15_131 : (ftR 15)[131]? = some (4, 96) := by decide +kernel
theorem fR_15_133 : (ftR 15)[133]? = some (0, 0) := by decide +kernel
theorem fR_15_134 : (ftR 15)[134]? = some (0, 0) := by decide +kernel
theorem fR_15_135 : (ftR 15)[135]? = some (0, 0) := by decide +kernel
theorem fR_15_136 : (ftR 15)[136]? = some (0, 0) := by decide +kernel
theorem fR_15_137 : (ftR 15)[137]? = some (0, 0) := by decide +kernel
theorem fR_15_138 : (ftR 15)[138]? = some (2, 0) := by decide +kernel
theorem fR_15_139 : (ftR 15)[139]? = some (4, 98) := by decide +kernel
theorem fR_15_140 : (ftR 15)[140]? = some (4, 99) := by decide +kernel
theorem fR_15_141 : (ftR 15)[141]? = some (0, 0) := by decide +kernel
theorem fR_15_142 : (ftR 15)[142]? = some (0, 0) := by decide +kernel
theorem fR_15_143 : (ftR 15)[143]? = some (0, 0) := by decide +kernel
theorem fR_15_144 : (ftR 15)[144]? = some (4, 100) := by decide +kernel
theorem fR_15_145 : (ftR 15)[145]? = some (4, 101) := by decide +kernel
theorem fR_15_146 : (ftR 15)[146]? = some (0, 0) := by decide +kernel
theorem fR_15_147 : (ftR 15)[147]? = some (4, 102) := by decide +kernel
theorem fR_15_148 : (ftR 15)[148]? = some (0, 0) := by decide +kernel
theorem fR_15_149 : (ftR 15)[149]? = some (0, 0) := by decide +kernel
theorem rk_m2 : ri_ (-2) := by unfold ri_; omega
theorem rk_m1 : ri_ (-1) := by unfold ri_; omega
theorem rk_0 : ri_ 0 := by unfold ri_; omega
theorem rk_1 : ri_ 1 := by unfold ri_; omega
theorem rk_2 : ri_ 2 := by unfold ri_; omega
theorem rk_3 : ri_ 3 := by unfold ri_; omega
theorem rk_4 : ri_ 4 := by unfold ri_; omega
theorem rk_5 : ri_ 5 := by unfold ri_; omega
theorem rk_6 : ri_ 6 := by unfold ri_; omega
theorem rk_7 : ri_ 7 := by unfold ri_; omega
theorem rk_8 : ri_ 8 := by unfold ri_; omega
theorem rk_9 : ri_ 9 := by unfold ri_; omega
theorem rk_10 : ri_ 10 := by unfold ri_; omega
theorem rk_11 : ri_ 11 := by unfold ri_; omega
theorem rk_12 : ri_ 12 := by unfold ri_; omega
theorem rk_13 : ri_ 13 := by unfold ri_; omega
theorem rk_14 : ri_ 14 := by unfold ri_; omega
theorem rk_15 : ri_ 15 := by unfold ri_; omega
theorem rk_16 : ri_ 16 := by unfold ri_; omega
theorem rk_17 : ri_ 17 := by unfold ri_; omega
theorem rk_18 : ri_ 18 := by unfold ri_; omega
theorem rk_19 : ri_ 19 := by unfold ri_; omega
theorem rk_20 : ri_ 20 := by unfold ri_; omega
theorem rk_21 : ri_ 21 := by unfold ri_; omega
theorem rk_22 : ri_ 22 := by unfold ri_; omega
theorem rk_23 : ri_ 23 := by unfold ri_; omega
theorem rk_24 : ri_ 24 := by unfold ri_; omega
theorem rk_25 : ri_ 25 := by unfold ri_; omega
theorem rk_26 : ri_ 26 := by unfold ri_; omega
theorem rk_27 : ri_ 27 := by unfold ri_; omega
theorem rk_28 : ri_ 28 := by unfold ri_; omega
theorem rk_29 : ri_ 29 := by unfold ri_; omega
theorem rk_30 : ri_ 30 := by unfold ri_; omega
theorem rk_31 : ri_ 31 := by unfold ri_; omega
theorem rk_32 : ri_ 32 := by unfold ri_; omega
theorem rk_33 : ri_ 33 := by unfold ri_; omega
theorem rk_34 : ri_ 34 := by unfold ri_; omega
theorem rk_35 : ri_ 35 := by unfold ri_; omega
theorem rk_36 : ri_ 36 := by unfold ri_; omega
theorem rk_37 : ri_ 37 := by unfold ri_; omega
theorem rk_38 : ri_ 38 := by unfold ri_; omega
theorem rk_39 : ri_ 39 := by unfold ri_; omega
theorem rk_40 : ri_ 40 := by unfold ri_; omega
theorem rk_41 : ri_ 41 := by unfold ri_; omega
theorem rk_42 : ri_ 42 := by unfold ri_; omega
theorem rk_43 : ri_ 43 := by unfold ri_; omega
theorem rk_44 : ri_ 44 := by unfold ri_; omega
theorem rk_45 : ri_ 45 := by unfold ri_; omega
theorem rk_46 : ri_ 46 := by unfold ri_; omega
theorem rk_47 : ri_ 47 := by unfold ri_; omega
theorem rk_48 : ri_ 48 := by unfold ri_; omega
theorem rk_49 : ri_ 49 := by unfold ri_; omega
theorem rk_50 : ri_ 50 := by unfold ri_; omega
theorem rk_53 : ri_ 53 := by unfold ri_; omega
theorem rk_55 : ri_ 55 := by unfold ri_; omega
theorem rk_56 : ri_ 56 := by unfold ri_; omega
theorem rk_57 : ri_ 57 := by unfold ri_; omega
theorem rk_58 : ri_ 58 := by unfold ri_; omega
theorem rk_59 : ri_ 59 := by unfold ri_; omega
theorem rk_60 : ri_ 60 := by unfold ri_; omega
theorem rk_61 : ri_ 61 := by unfold ri_; omega
theorem rk_62 : ri_ 62 := by unfold ri_; omega
theorem rk_63 : ri_ 63 := by unfold ri_; omega
theorem rk_64 : ri_ 64 := by unfold ri_; omega
theorem rk_65 : ri_ 65 := by unfold ri_; omega
theorem rk_72 : ri_ 72 := by unfold ri_; omega
theorem rk_80 : ri_ 80 := by unfold ri_; omega
theorem rk_90 : ri_ 90 := by unfold ri_; omega
theorem rk_91 : ri_ 91 := by unfold ri_; omega
theorem rk_93 : ri_ 93 := by unfold ri_; omega
theorem rk_96 : ri_ 96 := by unfold ri_; omega
theorem rk_97 : ri_ 97 := by unfold ri_; omega
theorem rk_99 : ri_ 99 := by unfold ri_; omega
theorem rk_100 : ri_ 100 := by unfold ri_; omega
theorem rk_101 : ri_ 101 := by unfold ri_; omega
theorem rk_102 : ri_ 102 := by unfold ri_; omega
theorem rk_103 : ri_ 103 := by unfold ri_; omega
theorem rk_104 : ri_ 104 := by unfold ri_; omega
theorem rk_105 : ri_ 105 := by unfold ri_; omega
theorem rk_106 : ri_ 106 := by unfold ri_; omega
theorem rk_107 : ri_ 107 := by unfold ri_; omega
theorem rk_108 : ri_ 108 := by unfold ri_; omega
theorem rk_109 : ri_ 109 := by unfold ri_; omega
theorem rk_110 : ri_ 110 := by unfold ri_; omega
theorem rk_111 : ri_ 111 := by unfold ri_; omega
theorem rk_112 : ri_ 112 := by unfold ri_; omega
theorem rk_113 : ri_ 113 := by unfold ri_; omega
theorem rk_114 : ri_ 114 := by unfold ri_; omega
theorem rk_115 : ri_ 115 := by unfold ri_; omega
theorem rk_120 : ri_ 120 := by unfold ri_; omega
theorem rk_122 : ri_ 122 := by unfold ri_; omega
theorem rk_127 : ri_ 127 := by unfold ri_; omega
theorem rk_128 : ri_ 128 := by unfold ri_; omega
theorem rk_200 : ri_ 200 := by unfold ri_; omega
theorem rk_240 : ri_ 240 := by unfold ri_; omega
theorem rk_255 : ri_ 255 := by unfold ri_; omega
theorem rk_256 : ri_ 256 := by unfold ri_; omega
theorem rk_399 : ri_ 399 := by unfold ri_; omega
theorem rk_400 : ri_ 400 := by unfold ri_; omega
theorem rk_499 : ri_ 499 := by unfold ri_; omega
theorem rk_511 : ri_ 511 := by unfold ri_; omega
theorem rk_512 : ri_ 512 := by unfold ri_; omega
theorem rk_1000 : ri_ 1000 := by unfold ri_; omega
theorem rk_1600 : ri_ 1600 := by unfold ri_; omega
theorem rk_4000 : ri_ 4000 := by unfold ri_; omega
theorem rk_4400 : ri_ 4400 := by unfold ri_; omega
theorem rk_8000 : ri_ 8000 := by unfold ri_; omega
theorem rk_9000 : ri_ 9000 := by unfold ri_; omega
theorem rk_9999 : ri_ 9999 := by unfold ri_; omega
theorem rk_16000 : ri_ 16000 := by unfold ri_; omega
theorem rk_30000 : ri_ 30000 := by unfold ri_; omega
theorem rk_48400 : ri_ 48400 := by unfold ri_; omega
theorem rk_1000000 : ri_ 1000000 := by unfold ri_; omega
theorem rk_16777619 : ri_ 16777619 := by unfold ri_; omega
theorem lk_m2 : rl_ (-2) := by unfold rl_; omega
theorem lk_m1 : rl_ (-1) := by unfold rl_; omega
theorem lkm_0 : rl_ 0 := by unfold rl_; omega
theorem lk_1 : rl_ 1 := by unfold rl_; omega
theorem lk_2 : rl_ 2 := by unfold rl_; omega
theorem lk_10 : rl_ 10 := by unfold rl_; omega
theorem lk_31 : rl_ 31 := by unfold rl_; omega
theorem lk_37 : rl_ 37 := by unfold rl_; omega
theorem lk_40 : rl_ 40 := by unfold rl_; omega
theorem lk_41 : rl_ 41 := by unfold rl_; omega
theorem lk_42 : rl_ 42 := by unfold rl_; omega
theorem lk_43 : rl_ 43 := by unfold rl_; omega
theorem lk_44 : rl_ 44 := by unfold rl_; omega
theorem lk_45 : rl_ 45 := by unfold rl_; omega
theorem lk_46 : rl_ 46 := by unfold rl_; omega
theorem lk_47 : rl_ 47 := by unfold rl_; omega
theorem lk_48 : rl_ 48 := by unfold rl_; omega
theorem lk_58 : rl_ 58 := by unfold rl_; omega
theorem lk_59 : rl_ 59 := by unfold rl_; omega
theorem lk_60 : rl_ 60 := by unfold rl_; omega
theorem lk_61 : rl_ 61 := by unfold rl_; omega
theorem lk_62 : rl_ 62 := by unfold rl_; omega
theorem lk_63 : rl_ 63 := by unfold rl_; omega
theorem lk_64 : rl_ 64 := by unfold rl_; omega
theorem lk_72 : rl_ 72 := by unfold rl_; omega
theorem lk_80 : rl_ 80 := by unfold rl_; omega
theorem lk_91 : rl_ 91 := by unfold rl_; omega
theorem lk_93 : rl_ 93 := by unfold rl_; omega
theorem lk_100 : rl_ 100 := by unfold rl_; omega
theorem lk_107 : rl_ 107 := by unfold rl_; omega
theorem lk_108 : rl_ 108 := by unfold rl_; omega
theorem lk_127 : rl_ 127 := by unfold rl_; omega
theorem lk_255 : rl_ 255 := by unfold rl_; omega
theorem lk_256 : rl_ 256 := by unfold rl_; omega
theorem lk_399 : rl_ 399 := by unfold rl_; omega
theorem lk_400 : rl_ 400 := by unfold rl_; omega
theorem lk_8509 : rl_ 8509 := by unfold rl_; omega
theorem lk_15421 : rl_ 15421 := by unfold rl_; omega
theorem lk_15933 : rl_ 15933 := by unfold rl_; omega
theorem lk_26982 : rl_ 26982 := by unfold rl_; omega
theorem lk_1818848875 : rl_ 1818848875 := by unfold rl_; omega
theorem lk_1085102592571150095 : rl_ 1085102592571150095 := by unfold rl_; omega
theorem lk_3689348814741910323 : rl_ 3689348814741910323 := by unfold rl_; omega
theorem lk_6148914691236517205 : rl_ 6148914691236517205 := by unfold rl_; omega
/-! what is known of the start besides the words: the two rows of Throwable's, the row of widths -/
def XtC (ad : Nat → Nat) (A : Nat → Prop) (U : State) : Prop := Zz A U ∧ va_Z "HeapWorks$Types" "WIDTH" "[I" (.ref (ad 900)) A U U.heap ∧ va_T .int (ad 900) 6 (fun j => .int (Ii (wdt j))) A U U.heap ∧ vk_R RX9 111 "()[],:;.=<>+-*/%" (ad 901) U ∧ va_O "java/lang/String" (ad 901) A U U.heap ∧ va_OF "java/lang/String" "coder" "B" (.int (Ii 0)) (ad 901) A U U.heap ∧ va_OF "java/lang/String" "value" "[B" (.ref (ad 902)) (ad 901) A U U.heap ∧ va_T .byte (ad 902) 16 (fun j => .int (Ii (sgb j))) A U U.heap ∧ va_Z "java/lang/String" "COMPACT_STRINGS" "Z" (.int (Ii 1)) A U U.heap
theorem XtC_ok (ad : Nat → Nat) : jX (XtC ad) := by
  refine ⟨fun A B s U H locs h hS hB hU hW => ?_, fun A U g mk a h => ?_⟩
  · obtain ⟨h1, h2, h3, h4, h5, h6, h7, h8, h9⟩ := h
    refine ⟨Zz_go h1 hS hB hU hW, ?_, ?_, vk_R.warm hW h4, ?_, ?_, ?_, ?_, ?_⟩
    · rw [hU]; exact va_Z.moved hW.alike ((h2.kept hS.2.1).narrow hB)
    · rw [hU]; exact va_T.moved hW.alike ((h3.kept hS.2.1).narrow hB)
    · rw [hU]; exact va_O.moved hW.alike ((h5.kept hS.2.1).narrow hB)
    · rw [hU]; exact va_OF.moved hW.alike ((h6.kept hS.2.1).narrow hB)
    · rw [hU]; exact va_OF.moved hW.alike ((h7.kept hS.2.1).narrow hB)
    · rw [hU]; exact va_T.moved hW.alike ((h8.kept hS.2.1).narrow hB)
    · rw [hU]; exact va_Z.moved hW.alike ((h9.kept hS.2.1).narrow hB)
  · obtain ⟨h1, h2, h3, h4, h5, h6, h7, h8, h9⟩ := h
    exact ⟨Zz_call h1, va_Z.moved (u := U) (U := U.calling g mk a) (Vm.Alike.refl U.vm) h2, va_T.moved (u := U) (U := U.calling g mk a) (Vm.Alike.refl U.vm) h3, vk_R.same (u := U) (U := U.calling g mk a) rfl h4, va_O.moved (u := U) (U := U.calling g mk a) (Vm.Alike.refl U.vm) h5, va_OF.moved (u := U) (U := U.calling g mk a) (Vm.Alike.refl U.vm) h6, va_OF.moved (u := U) (U := U.calling g mk a) (Vm.Alike.refl U.vm) h7, va_T.moved (u := U) (U := U.calling g mk a) (Vm.Alike.refl U.vm) h8, va_Z.moved (u := U) (U := U.calling g mk a) (Vm.Alike.refl U.vm) h9⟩
theorem XtC_z (ad : Nat → Nat) : ∀ A U, XtC ad A U → Zz A U := fun _ _ h => h.1
theorem XtC_w1 {ad : Nat → Nat} : ∀ A U, XtC ad A U → va_Z "HeapWorks$Types" "WIDTH" "[I" (.ref (ad 900)) A U U.heap := fun _ _ h => h.2.1
theorem XtC_w2 {ad : Nat → Nat} : ∀ A U, XtC ad A U → va_T .int (ad 900) 6 (fun j => .int (Ii (wdt j))) A U U.heap := fun _ _ h => h.2.2.1
theorem XtC_s1 {ad : Nat → Nat} : ∀ A U, XtC ad A U → vk_R RX9 111 "()[],:;.=<>+-*/%" (ad 901) U := fun _ _ h => h.2.2.2.1
theorem XtC_s0 {ad : Nat → Nat} : ∀ A U, XtC ad A U → va_O "java/lang/String" (ad 901) A U U.heap := fun _ _ h => h.2.2.2.2.1
theorem XtC_s2 {ad : Nat → Nat} : ∀ A U, XtC ad A U → va_OF "java/lang/String" "coder" "B" (.int (Ii 0)) (ad 901) A U U.heap := fun _ _ h => h.2.2.2.2.2.1
theorem XtC_s3 {ad : Nat → Nat} : ∀ A U, XtC ad A U → va_OF "java/lang/String" "value" "[B" (.ref (ad 902)) (ad 901) A U U.heap := fun _ _ h => h.2.2.2.2.2.2.1
theorem XtC_s4 {ad : Nat → Nat} : ∀ A U, XtC ad A U → va_T .byte (ad 902) 16 (fun j => .int (Ii (sgb j))) A U U.heap := fun _ _ h => h.2.2.2.2.2.2.2.1
theorem XtC_cs {ad : Nat → Nat} : ∀ A U, XtC ad A U → va_Z "java/lang/String" "COMPACT_STRINGS" "Z" (.int (Ii 1)) A U U.heap := fun _ _ h => h.2.2.2.2.2.2.2.2
def XtR (_ : Nat → Nat) (_ : Nat → Prop) (_ : State) : Prop := True
theorem XtR_ok (ad : Nat → Nat) : jX (XtR ad) := ⟨fun _ _ _ _ _ _ _ _ _ _ _ => trivial, fun _ _ _ _ _ _ => trivial⟩
