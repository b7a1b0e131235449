def l_z_X11_picture : List Cond := [.methodLink RX11 411 yX11_isPicture, .static yX11_isPicture, .initialized RX11, .fieldLink RX11 41 "HeapWorks" "pictures" "[LHeapWorks$Picture;", .fieldLink RX11 356 "HeapWorks$Picture" "things" "I", .methodLink RX11 414 yX5_ringCount, .instanceMethod yX5_ringCount, .selects RX5 yX5_ringCount yX5_ringCount, .initialized RX5, .methodLink RX11 417 yX5_twinCount, .instanceMethod yX5_twinCount, .selects RX5 yX5_twinCount yX5_twinCount, .fieldLink RX11 19 "HeapWorks" "types" "LHeapWorks$Types;", .methodLink RX11 420 yX5_allSizes, .instanceMethod yX5_allSizes, .selects RX5 yX5_allSizes yX5_allSizes, .methodLink RX11 424 yX5_doubledSizes, .instanceMethod yX5_doubledSizes, .selects RX5 yX5_doubledSizes yX5_doubledSizes, .methodLink RX11 116 yX10_isClass, .instanceMethod yX10_isClass, .selects RX10 yX10_isClass yX10_isClass, .initialized RX10, .code yX11_isPicture cX11_isPicture 1 (some .boolean), .code yX5_ringCount cX5_ringCount 1 (some .int), .fieldLink RX5 78 "HeapWorks$Picture" "shape" "LHeapWorks$Shape;", .methodLink RX5 176 yX8_needRings, .instanceMethod yX8_needRings, .selects RX8 yX8_needRings yX8_needRings, .initialized RX8, .fieldLink RX5 182 "HeapWorks$Shape" "rings" "I", .code yX8_needRings cX8_needRings 4 none, .fieldLink RX8 60 "HeapWorks$Shape" "known" "I", .fieldLink RX8 64 "HeapWorks$Picture" "things" "I", .methodLink RX8 123 yX8_numberRings, .instanceMethod yX8_numberRings, .selects RX8 yX8_numberRings yX8_numberRings, .code yX8_numberRings cX8_numberRings 4 none, .fieldLink RX8 45 "HeapWorks$Shape" "low" "[I", .methodLink RX8 67 yJ7_fill_fda19, .static yJ7_fill_fda19, .initialized RJ7, .fieldLink RX8 51 "HeapWorks$Shape" "path" "[I", .fieldLink RX8 142 "HeapWorks$Shape" "rings" "I", .code yJ7_fill_fda19 cJ7_fill_fda19 5 none, .methodLink RJ7 13 yJ7_rangeCheck_23922, .static yJ7_rangeCheck_23922, .code yJ7_rangeCheck_23922 cJ7_rangeCheck_23922 3 none, .code yX5_twinCount cX5_twinCount 1 (some .int), .methodLink RX5 189 yX8_needTwins, .instanceMethod yX8_needTwins, .selects RX8 yX8_needTwins yX8_needTwins, .fieldLink RX5 195 "HeapWorks$Shape" "twins" "I", .code yX8_needTwins cX8_needTwins 6 none, .fieldLink RX8 57 "HeapWorks$Shape" "bucket" "[I", .methodLink RX8 149 yJ7_fill_53178, .static yJ7_fill_53178, .fieldLink RX8 159 "HeapWorks$Shape" "twins" "I", .code yJ7_fill_53178 cJ7_fill_53178 4 none, .code yX5_allSizes cX5_allSizes 4 (some .int), .fieldLink RX5 82 "HeapWorks$Picture" "things" "I", .code yX5_doubledSizes cX5_doubledSizes 5 (some .int), .code yX10_isClass cX10_isClass 2 (some .boolean), .fieldLink RX10 65 "HeapWorks$Types" "count" "I"]
def w_z_X11_picture : List Cond := .code yX11_picture cX11_picture 4 (some .int) :: (l_z_X11_picture ++ ((wsX110 ++ (wsX50 ++ (wsX80 ++ wsX100)))))
theorem in_z_X11_picture_X11 : ∀ w ∈ wsX110, w ∈ w_z_X11_picture := fun w h => List.mem_cons_of_mem _ (List.mem_append_right _ (List.mem_append_left _ h))
theorem in_z_X11_picture_X5 : ∀ w ∈ wsX50, w ∈ w_z_X11_picture := fun w h => List.mem_cons_of_mem _ (List.mem_append_right _ (List.mem_append_right _ (List.mem_append_left _ h)))
theorem in_z_X11_picture_X8 : ∀ w ∈ wsX80, w ∈ w_z_X11_picture := fun w h => List.mem_cons_of_mem _ (List.mem_append_right _ (List.mem_append_right _ (List.mem_append_right _ (List.mem_append_left _ h))))
theorem in_z_X11_picture_X10 : ∀ w ∈ wsX100, w ∈ w_z_X11_picture := fun w h => List.mem_cons_of_mem _ (List.mem_append_right _ (List.mem_append_right _ (List.mem_append_right _ (List.mem_append_right _ (h)))))
theorem g_z_X11_picture_z_X11_isPicture_411 : GoodIn w_z_X11_picture (wsS RX11 411 yX11_isPicture w_z_X11_isPicture) := goodIn_app (goodIn_r (([.methodLink RX11 411 yX11_isPicture, .static yX11_isPicture, .initialized RX11] : List Cond)) [1, 2, 3] rfl (by decide +kernel)) (goodIn_r (.code yX11_isPicture cX11_isPicture 1 (some .boolean) :: l_z_X11_isPicture) [24] rfl (by decide +kernel))
theorem g_z_X11_picture_z_X5_ringCount_414 : GoodIn w_z_X11_picture (wsV RX11 414 RX5 yX5_ringCount w_z_X5_ringCount) := goodIn_app (goodIn_r (([.methodLink RX11 414 yX5_ringCount, .instanceMethod yX5_ringCount, .selects RX5 yX5_ringCount yX5_ringCount, .initialized RX5] : List Cond)) [6, 7, 8, 9] rfl (by decide +kernel)) (goodIn_ca (goodIn_r (.code yX5_ringCount cX5_ringCount 1 (some .int) :: l_z_X5_ringCount) [25, 26, 27, 28, 29, 30, 31, 32, 33, 34, 35, 36, 37, 38, 39, 40, 41, 42, 43, 44, 45, 46, 47, 48] rfl (by decide +kernel)) (goodIn_app (goodIn_in (in_z_X11_picture_X5) gd_X5) (goodIn_in (in_z_X11_picture_X8) gd_X8)))
theorem g_z_X11_picture_z_X5_twinCount_417 : GoodIn w_z_X11_picture (wsV RX11 417 RX5 yX5_twinCount w_z_X5_twinCount) := goodIn_app (goodIn_r (([.methodLink RX11 417 yX5_twinCount, .instanceMethod yX5_twinCount, .selects RX5 yX5_twinCount yX5_twinCount, .initialized RX5] : List Cond)) [10, 11, 12, 9] rfl (by decide +kernel)) (goodIn_ca (goodIn_r (.code yX5_twinCount cX5_twinCount 1 (some .int) :: l_z_X5_twinCount) [49, 26, 50, 51, 52, 30, 53, 54, 33, 55, 56, 57, 42, 34, 58, 59] rfl (by decide +kernel)) (goodIn_app (goodIn_in (in_z_X11_picture_X5) gd_X5) (goodIn_in (in_z_X11_picture_X8) gd_X8)))
theorem g_z_X11_picture_z_X5_allSizes_420 : GoodIn w_z_X11_picture (wsV RX11 420 RX5 yX5_allSizes w_z_X5_allSizes) := goodIn_app (goodIn_r (([.methodLink RX11 420 yX5_allSizes, .instanceMethod yX5_allSizes, .selects RX5 yX5_allSizes yX5_allSizes, .initialized RX5] : List Cond)) [14, 15, 16, 9] rfl (by decide +kernel)) (goodIn_ca (goodIn_r (.code yX5_allSizes cX5_allSizes 4 (some .int) :: l_z_X5_allSizes) [60, 61] rfl (by decide +kernel)) (goodIn_in (in_z_X11_picture_X5) gd_X5))
theorem g_z_X11_picture_z_X5_doubledSizes_424 : GoodIn w_z_X11_picture (wsV RX11 424 RX5 yX5_doubledSizes w_z_X5_doubledSizes) := goodIn_app (goodIn_r (([.methodLink RX11 424 yX5_doubledSizes, .instanceMethod yX5_doubledSizes, .selects RX5 yX5_doubledSizes yX5_doubledSizes, .initialized RX5] : List Cond)) [17, 18, 19, 9] rfl (by decide +kernel)) (goodIn_ca (goodIn_r (.code yX5_doubledSizes cX5_doubledSizes 5 (some .int) :: l_z_X5_doubledSizes) [62, 26, 50, 51, 52, 30, 61, 54, 33, 55, 56, 57, 42, 34, 58, 59] rfl (by decide +kernel)) (goodIn_app (goodIn_in (in_z_X11_picture_X5) gd_X5) (goodIn_in (in_z_X11_picture_X8) gd_X8)))
theorem g_z_X11_picture_z_X10_isClass_116 : GoodIn w_z_X11_picture (wsV RX11 116 RX10 yX10_isClass w_z_X10_isClass) := goodIn_app (goodIn_r (([.methodLink RX11 116 yX10_isClass, .instanceMethod yX10_isClass, .selects RX10 yX10_isClass yX10_isClass, .initialized RX10] : List Cond)) [20, 21, 22, 23] rfl (by decide +kernel)) (goodIn_ca (goodIn_r (.code yX10_isClass cX10_isClass 2 (some .boolean) :: l_z_X10_isClass) [63, 64] rfl (by decide +kernel)) (goodIn_in (in_z_X11_picture_X10) gd_X10))
set_option maxHeartbeats 4000000 in
set_option maxRecDepth 100000 in
theorem z_X11_picture (l : Launch) (dC : Nat → ClassId) (dI : Nat → Nat → Nat) (sz : Nat) (Ad0 : Nat) (Fs0 : List Value) (Ad1 : Nat) (Fs1 : List Value) (Ad2 : Nat) (Fa0 : Nat → Option Nat) (Ka0 : ClassId) (Ad3 : Nat) (Fs2 : List Value) (Ad4 : Nat) (Fs3 : List Value) (Ad5 : Nat) (Fa1 : Nat → Int32) (Ka1 : ClassId) (Ad6 : Nat) (Fa2 : Nat → Int32) (Ka2 : ClassId) (Ad7 : Nat) (Fa3 : Nat → Int32) (Ka3 : ClassId) (Va0 : Int32) (Va1 : Int32) (k_Fs0 : fh Fs0 18 [(1, .ref Ad1), (4, .ref Ad2)]) (k_Fs1 : fh Fs1 18 [(0, .int 0)]) (k_Fs2 : fh Fs2 21 [(0, .int 0), (20, .ref Ad4)]) (k_Fs3 : fh Fs3 18 [(1, .int 0), (13, .ref Ad5), (15, .ref Ad6), (17, .ref Ad7), (9, .int 0), (11, .int 0)]) (hg0 : Fa0 Va0.toNatClampNeg = some Ad3) : Met l yX11_picture w_z_X11_picture ({ frames := 5, cells := 0, slots := 0, locals := 112 }) (va_Pc [.ref Ad0, .int Va0, .int Va1] (fun U => U.heap.size = sz ∧ Wd dC dI [(Ka0, .object "HeapWorks$Picture"), (Ka1, .int), (Ka2, .int), (Ka3, .int)] (fun _ => True) [(Ad0, .inr (14, Fs0)), (Ad1, .inr (13, Fs1)), (Ad2, .inl (Ka0, 4, .inr (.inr (.inr (.inr Fa0))))), (Ad3, .inr (8, Fs2)), (Ad4, .inr (11, Fs3)), (Ad5, .inl (Ka1, 400, .inl Fa1)), (Ad6, .inl (Ka2, 400, .inl Fa2)), (Ad7, .inl (Ka3, 512, .inl Fa3))] U)) (va_Qi (fun (r : Int32) (u : List Value × (Nat → Int32)) => (Va0 < 0 ∧ r = (-1) ∧ ow Fs3 (u.1) 18 [] [(1, .int 0), (13, .ref Ad5), (15, .ref Ad6), (17, .ref Ad7), (9, .int 0), (11, .int 0)]) ∨ (¬ Va0 < 0 ∧ 4 ≤ Va0 ∧ r = (-1) ∧ ow Fs3 (u.1) 18 [] [(1, .int 0), (13, .ref Ad5), (15, .ref Ad6), (17, .ref Ad7), (9, .int 0), (11, .int 0)]) ∨ (¬ Va0 < 0 ∧ ¬ 4 ≤ Va0 ∧ Va1 = 0 ∧ r = 0 ∧ ow Fs3 (u.1) 18 [] [(1, .int 0), (13, .ref Ad5), (15, .ref Ad6), (17, .ref Ad7), (9, .int 0), (11, .int 0)]) ∨ (¬ Va0 < 0 ∧ ¬ 4 ≤ Va0 ∧ Va1 = 1 ∧ r = 0 ∧ ow Fs3 (u.1) 18 [9, 1] [(9, .int 0), (13, .ref Ad5), (15, .ref Ad6), (1, .int 4), (13, .ref Ad5), (15, .ref Ad6), (13, .ref Ad5), (15, .ref Ad6), (13, .ref Ad5), (15, .ref Ad6), (17, .ref Ad7), (11, .int 0)]) ∨ (¬ Va0 < 0 ∧ ¬ 4 ≤ Va0 ∧ Va1 = 2 ∧ r = 0 ∧ ow Fs3 (u.1) 18 [11, 1] [(11, .int 0), (1, .int 8), (17, .ref Ad7), (17, .ref Ad7), (13, .ref Ad5), (15, .ref Ad6), (17, .ref Ad7), (9, .int 0)]) ∨ (¬ Va0 < 0 ∧ ¬ 4 ≤ Va0 ∧ Va1 = 3 ∧ r = 0 ∧ ow Fs3 (u.1) 18 [] [(1, .int 0), (13, .ref Ad5), (15, .ref Ad6), (17, .ref Ad7), (9, .int 0), (11, .int 0)]) ∨ (¬ Va0 < 0 ∧ ¬ 4 ≤ Va0 ∧ Va1 = 4 ∧ r = 0 ∧ ow Fs3 (u.1) 18 [11, 1] [(11, .int 0), (1, .int 8), (17, .ref Ad7), (17, .ref Ad7), (13, .ref Ad5), (15, .ref Ad6), (17, .ref Ad7), (9, .int 0)]) ∨ (¬ Va0 < 0 ∧ ¬ 4 ≤ Va0 ∧ Va1 = 5 ∧ r = (-1) ∧ ow Fs3 (u.1) 18 [] [(1, .int 0), (13, .ref Ad5), (15, .ref Ad6), (17, .ref Ad7), (9, .int 0), (11, .int 0)]) ∨ (¬ Va0 < 0 ∧ ¬ 4 ≤ Va0 ∧ ¬ Va1 = 0 ∧ ¬ Va1 = 1 ∧ ¬ Va1 = 2 ∧ ¬ Va1 = 3 ∧ ¬ Va1 = 4 ∧ ¬ Va1 = 5 ∧ Va1 < 200 ∧ Va1 < 100 ∧ r = (-1) ∧ ow Fs3 (u.1) 18 [] [(1, .int 0), (13, .ref Ad5), (15, .ref Ad6), (17, .ref Ad7), (9, .int 0), (11, .int 0)]) ∨ (¬ Va0 < 0 ∧ ¬ 4 ≤ Va0 ∧ ¬ Va1 = 0 ∧ ¬ Va1 = 1 ∧ ¬ Va1 = 2 ∧ ¬ Va1 = 3 ∧ ¬ Va1 = 4 ∧ ¬ Va1 = 5 ∧ Va1 < 200 ∧ ¬ Va1 < 100 ∧ r = (-1) ∧ ow Fs3 (u.1) 18 [] [(1, .int 0), (13, .ref Ad5), (15, .ref Ad6), (17, .ref Ad7), (9, .int 0), (11, .int 0)]) ∨ (¬ Va0 < 0 ∧ ¬ 4 ≤ Va0 ∧ ¬ Va1 = 0 ∧ ¬ Va1 = 1 ∧ ¬ Va1 = 2 ∧ ¬ Va1 = 3 ∧ ¬ Va1 = 4 ∧ ¬ Va1 = 5 ∧ ¬ Va1 < 200 ∧ r = (-1) ∧ ow Fs3 (u.1) 18 [] [(1, .int 0), (13, .ref Ad5), (15, .ref Ad6), (17, .ref Ad7), (9, .int 0), (11, .int 0)])) (fun (u : List Value × (Nat → Int32)) t => Wd dC dI [(Ka0, .object "HeapWorks$Picture"), (Ka1, .int), (Ka2, .int), (Ka3, .int)] (va_A [(Ad0, .inr (14, Fs0)), (Ad1, .inr (13, Fs1)), (Ad2, .inl (Ka0, 4, .inr (.inr (.inr (.inr Fa0))))), (Ad3, .inr (8, Fs2)), (Ad4, .inr (11, Fs3)), (Ad5, .inl (Ka1, 400, .inl Fa1)), (Ad6, .inl (Ka2, 400, .inl Fa2)), (Ad7, .inl (Ka3, 512, .inl Fa3))] sz) [(Ad0, .inr (14, Fs0)), (Ad1, .inr (13, Fs1)), (Ad2, .inl (Ka0, 4, .inr (.inr (.inr (.inr Fa0))))), (Ad3, .inr (8, Fs2)), (Ad4, .inr (11, (u.1))), (Ad5, .inl (Ka1, 400, .inl Fa1)), (Ad6, .inl (Ka2, 400, .inl Fa2)), (Ad7, .inl (Ka3, 512, .inl ((u.2))))] t) (va_A [(Ad0, .inr (14, Fs0)), (Ad1, .inr (13, Fs1)), (Ad2, .inl (Ka0, 4, .inr (.inr (.inr (.inr Fa0))))), (Ad3, .inr (8, Fs2)), (Ad4, .inr (11, Fs3)), (Ad5, .inl (Ka1, 400, .inl Fa1)), (Ad6, .inl (Ka2, 400, .inl Fa2)), (Ad7, .inl (Ka3, 512, .inl Fa3))] sz))  0 0 (va_A [(Ad0, .inr (14, Fs0)), (Ad1, .inr (13, Fs1)), (Ad2, .inl (Ka0, 4, .inr (.inr (.inr (.inr Fa0))))), (Ad3, .inr (8, Fs2)), (Ad4, .inr (11, Fs3)), (Ad5, .inl (Ka1, 400, .inl Fa1)), (Ad6, .inl (Ka2, 400, .inl Fa2)), (Ad7, .inl (Ka3, 512, .inl Fa3))] sz) := by
  refine Met.ofW (cc := cX11_picture) (maxL := 4) (ret := (some .int)) (by decide) rfl ?_
  intro p e s m args below meth c s₁ B hml hv
  obtain ⟨rfl, hsz, hP, hK, hD0⟩ := hv
  have hx := B.exec
  have hb := B.bytes
  have hr := B.returns
  have hts := atoms_spec (ws := w_z_X11_picture) B.pre
  have hown : s.vm.findClass RX11 = some m.cls := findClass_of_methodNamed B.named
  have hlocks := B.notSynchronized
  subst hsz
  have hD := hD0.self (sz := s.heap.size)
  generalize hAe : va_A [(Ad0, .inr (14, Fs0)), (Ad1, .inr (13, Fs1)), (Ad2, .inl (Ka0, 4, .inr (.inr (.inr (.inr Fa0))))), (Ad3, .inr (8, Fs2)), (Ad4, .inr (11, Fs3)), (Ad5, .inl (Ka1, 400, .inl Fa1)), (Ad6, .inl (Ka2, 400, .inl Fa2)), (Ad7, .inl (Ka3, 512, .inl Fa3))] s.heap.size = A at hD ⊢
  have hA : ∀ q : Nat, s.heap.size ≤ q → A q := fun q h => by rw [← hAe]; exact Or.inr h
  have hS : va_S A s.heap s.heap [] := va_S.rf
  have hl := lv_entry ([.ref Ad0, .int Va0, .int Va1]) (n := 4) (Nat.le_of_ble_eq_true rfl)
  rw [lg_entry_eq]
  generalize (lg_sl ([.ref Ad0, .int Va0, .int Va1]) ++ List.replicate (4 - (lg_sl ([.ref Ad0, .int Va0, .int Va1])).length) Slot.unset).toArray = ls at hl ⊢
  have hl : lv_has ls 4 [(0, .ref Ad0), (1, .int Va0), (2, .int Va1)] := hl
  have o_Fs0 := ow_0 k_Fs0
  have o_Fs1 := ow_0 k_Fs1
  have o_Fs2 := ow_0 k_Fs2
  have o_Fs3 := ow_0 k_Fs3
  refine lv_iload_n hx hb dX11_picture_0 rfl (lv_at hl 1 rfl) ?_
  have hPc := hP.sub (ws' := []) [] rfl
  have hDc := hD.sub (ws' := []) [] (by decide) rfl
  have hKc := hK.sub (tys' := []) [] rfl
  have hFc := va_free (wc := []) hD hS hA [] rfl
  refine va_calli (va_runS (As := [.int Va0]) (rest := []) ⟨hx, hb, hml, hown, hts⟩ (z_X11_isPicture l dC dI s.heap.size Va0  ) (cwS 1 hts g_z_X11_picture_z_X11_isPicture_411 rfl rfl rfl (by decide +kernel) ⟨Nat.le_of_ble_eq_true rfl, Nat.le_of_ble_eq_true rfl⟩) ⟨fun a U g mk q => by obtain ⟨q0, q1, qP, qK, qD⟩ := q; exact ⟨q0, q1, qP, va_K.moved (u := U) (U := U.calling g mk a) (Vm.Alike.refl U.vm) qK, qD⟩, fun U hU hW => ⟨rfl, by rw [hU], by rw [hU]; exact hPc, va_K.moved hW.alike hKc, hDc.weaken (fun _ _ _ _ => trivial)⟩⟩ rfl rfl hl.1 rfl (lv_room (Nat.le_of_ble_eq_true rfl)) dX11_picture_1 ⟨Nat.le_of_ble_eq_true rfl, Nat.le_of_ble_eq_true rfl⟩) hS (fun q _ h => hFc q h) hFc (fun r101 u t H1 locs ht hvm hw hB hz1 hk1 hS => ?_)
  obtain ⟨hP1, hK1, hD1⟩ := hB
  rw [ht] at hP1
  try dsimp only at hw
  obtain ⟨hP, hD⟩ := va_join (wr := [(Ad0, .inr (14, Fs0)), (Ad1, .inr (13, Fs1)), (Ad2, .inl (Ka0, 4, .inr (.inr (.inr (.inr Fa0))))), (Ad3, .inr (8, Fs2)), (Ad4, .inr (11, Fs3)), (Ad5, .inl (Ka1, 400, .inl Fa1)), (Ad6, .inl (Ka2, 400, .inl Fa2)), (Ad7, .inl (Ka3, 512, .inl Fa3))]) (w1 := []) hP hD [] [0, 1, 2, 3, 4, 5, 6, 7] rfl rfl (by decide) (by decide) hk1 hFc hP1 hD1
  have hK := hK.sub (tys' := [(Ka0, .object "HeapWorks$Picture"), (Ka1, .int), (Ka2, .int), (Ka3, .int)]) [0, 1, 2, 3] rfl
  generalize H1 = H at hP hS ⊢
  have hP : va_P (dC, dI) vwCl [(Ad0, .inr (14, Fs0)), (Ad1, .inr (13, Fs1)), (Ad2, .inl (Ka0, 4, .inr (.inr (.inr (.inr Fa0))))), (Ad3, .inr (8, Fs2)), (Ad4, .inr (11, Fs3)), (Ad5, .inl (Ka1, 400, .inl Fa1)), (Ad6, .inl (Ka2, 400, .inl Fa2)), (Ad7, .inl (Ka3, 512, .inl Fa3))] H := hP
  have hD : va_D A [(Ad0, .inr (14, Fs0)), (Ad1, .inr (13, Fs1)), (Ad2, .inl (Ka0, 4, .inr (.inr (.inr (.inr Fa0))))), (Ad3, .inr (8, Fs2)), (Ad4, .inr (11, Fs3)), (Ad5, .inl (Ka1, 400, .inl Fa1)), (Ad6, .inl (Ka2, 400, .inl Fa2)), (Ad7, .inl (Ka3, 512, .inl Fa3))] := hD
  rcases hw with ⟨c102, er103⟩ | ⟨c104, c105, er106⟩ | ⟨c107, c108, er109⟩
  · skip
    subst er103
    refine lv_if_ne (tgt := 9) hx hb dX11_picture_4 (by decide) (fun c110 => absurd c110 (by decide)) (fun c110 => ?_)
    refine lv_iconst (v := (-1)) hx hb dX11_picture_7 (by decide) ?_
    have hP9 := hP.sub (ws' := [(Ad0, .inr (14, Fs0)), (Ad1, .inr (13, Fs1)), (Ad2, .inl (Ka0, 4, .inr (.inr (.inr (.inr Fa0))))), (Ad3, .inr (8, Fs2)), (Ad4, .inr (11, Fs3)), (Ad5, .inl (Ka1, 400, .inl Fa1)), (Ad6, .inl (Ka2, 400, .inl Fa2)), (Ad7, .inl (Ka3, 512, .inl Fa3))]) [0, 1, 2, 3, 4, 5, 6, 7] rfl
    have hD9 := hD.sub (ws' := [(Ad0, .inr (14, Fs0)), (Ad1, .inr (13, Fs1)), (Ad2, .inl (Ka0, 4, .inr (.inr (.inr (.inr Fa0))))), (Ad3, .inr (8, Fs2)), (Ad4, .inr (11, Fs3)), (Ad5, .inl (Ka1, 400, .inl Fa1)), (Ad6, .inl (Ka2, 400, .inl Fa2)), (Ad7, .inl (Ka3, 512, .inl Fa3))]) [0, 1, 2, 3, 4, 5, 6, 7] (by decide) rfl
    have hK9 := hK.sub (tys' := [(Ka0, .object "HeapWorks$Picture"), (Ka1, .int), (Ka2, .int), (Ka3, .int)]) [0, 1, 2, 3] rfl
    exact W.iret (v := (-1)) hx hb hr (fun t ht hW => ⟨⟨(-1), (Fs3, Fa3), rfl, (Or.inl ⟨c102, rfl, o_Fs3⟩), by rw [ht]; exact hP9, va_K.moved hW.alike hK9, hD9⟩, hS.F ht⟩) hS.2.2 dX11_picture_8
  · skip
    subst er106
    refine lv_if_ne (tgt := 9) hx hb dX11_picture_4 (by decide) (fun c111 => absurd c111 (by decide)) (fun c111 => ?_)
    refine lv_iconst (v := (-1)) hx hb dX11_picture_7 (by decide) ?_
    have hP9 := hP.sub (ws' := [(Ad0, .inr (14, Fs0)), (Ad1, .inr (13, Fs1)), (Ad2, .inl (Ka0, 4, .inr (.inr (.inr (.inr Fa0))))), (Ad3, .inr (8, Fs2)), (Ad4, .inr (11, Fs3)), (Ad5, .inl (Ka1, 400, .inl Fa1)), (Ad6, .inl (Ka2, 400, .inl Fa2)), (Ad7, .inl (Ka3, 512, .inl Fa3))]) [0, 1, 2, 3, 4, 5, 6, 7] rfl
    have hD9 := hD.sub (ws' := [(Ad0, .inr (14, Fs0)), (Ad1, .inr (13, Fs1)), (Ad2, .inl (Ka0, 4, .inr (.inr (.inr (.inr Fa0))))), (Ad3, .inr (8, Fs2)), (Ad4, .inr (11, Fs3)), (Ad5, .inl (Ka1, 400, .inl Fa1)), (Ad6, .inl (Ka2, 400, .inl Fa2)), (Ad7, .inl (Ka3, 512, .inl Fa3))]) [0, 1, 2, 3, 4, 5, 6, 7] (by decide) rfl
    have hK9 := hK.sub (tys' := [(Ka0, .object "HeapWorks$Picture"), (Ka1, .int), (Ka2, .int), (Ka3, .int)]) [0, 1, 2, 3] rfl
    exact W.iret (v := (-1)) hx hb hr (fun t ht hW => ⟨⟨(-1), (Fs3, Fa3), rfl, (Or.inr (Or.inl ⟨c104, c105, rfl, o_Fs3⟩)), by rw [ht]; exact hP9, va_K.moved hW.alike hK9, hD9⟩, hS.F ht⟩) hS.2.2 dX11_picture_8
  · skip
    subst er109
    refine lv_if_ne (tgt := 9) hx hb dX11_picture_4 (by decide) (fun c112 => ?_) (fun c112 => absurd c112 (by decide))
    refine lv_aload_n hx hb dX11_picture_9 rfl (lv_at hl 0 rfl) ?_
    refine va_get (D := (dC, dI)) (ci := 14) (v := .ref Ad2) (C := RX11) (T := TX11) (N := 18) hx hb hts (in_z_X11_picture_X11) hown hK hP 0 rfl rfl 4 (by decide) (hts (.fieldLink RX11 41 "HeapWorks" "pictures" "[LHeapWorks$Picture;") (by decide +kernel)) (fun _ h9 => h9) (ow_at o_Fs0 1 rfl) dX11_picture_10 ?_
    refine lv_iload_n hx hb dX11_picture_13 rfl (lv_at hl 1 rfl) ?_
    refine va_aldq hx hb hK hP 2 0 rfl rfl (by rw [vp_in_iff]; (try simp only [i_lt, i_le, i_eq, kc_0, kc_4] at c107 c108); omega) dX11_picture_14 ?_
    refine W.eq (g2 := F0 m 15 ls (.ref Ad3 :: [])) (by rw [hg0]; rfl) ?_
    refine lv_astore_n (lv' := [(3, .ref Ad3), (0, .ref Ad0), (1, .int Va0), (2, .int Va1)]) hx hb dX11_picture_15 rfl hl (by decide) rfl (fun ls hl => ?_)
    refine lv_iload_n hx hb dX11_picture_16 rfl (lv_at hl 3 rfl) ?_
    by_cases c113 : Va1 = 0
    · refine lv_tableIn (off := 39) (tgt := 56) hx hb dX11_picture_17 (by rw [c113]; decide) (by rw [c113]; decide) (by rw [c113]; decide) (by decide) ?_
      refine lv_aload_n hx hb dX11_picture_56 rfl (lv_at hl 0 rfl) ?_
      refine va_get (D := (dC, dI)) (ci := 8) (v := .int 0) (C := RX5) (T := TX5) (N := 21) hx hb hts (in_z_X11_picture_X5) hown hK hP 3 rfl rfl 0 (by decide) (hts (.fieldLink RX11 356 "HeapWorks$Picture" "things" "I") (by decide +kernel)) (fun _ h9 => h9) (ow_at o_Fs2 0 rfl) dX11_picture_57 ?_
      have hP9 := hP.sub (ws' := [(Ad0, .inr (14, Fs0)), (Ad1, .inr (13, Fs1)), (Ad2, .inl (Ka0, 4, .inr (.inr (.inr (.inr Fa0))))), (Ad3, .inr (8, Fs2)), (Ad4, .inr (11, Fs3)), (Ad5, .inl (Ka1, 400, .inl Fa1)), (Ad6, .inl (Ka2, 400, .inl Fa2)), (Ad7, .inl (Ka3, 512, .inl Fa3))]) [0, 1, 2, 3, 4, 5, 6, 7] rfl
      have hD9 := hD.sub (ws' := [(Ad0, .inr (14, Fs0)), (Ad1, .inr (13, Fs1)), (Ad2, .inl (Ka0, 4, .inr (.inr (.inr (.inr Fa0))))), (Ad3, .inr (8, Fs2)), (Ad4, .inr (11, Fs3)), (Ad5, .inl (Ka1, 400, .inl Fa1)), (Ad6, .inl (Ka2, 400, .inl Fa2)), (Ad7, .inl (Ka3, 512, .inl Fa3))]) [0, 1, 2, 3, 4, 5, 6, 7] (by decide) rfl
      have hK9 := hK.sub (tys' := [(Ka0, .object "HeapWorks$Picture"), (Ka1, .int), (Ka2, .int), (Ka3, .int)]) [0, 1, 2, 3] rfl
      exact W.iret (v := 0) hx hb hr (fun t ht hW => ⟨⟨0, (Fs3, Fa3), rfl, (Or.inr (Or.inr (Or.inl ⟨c107, c108, c113, rfl, o_Fs3⟩))), by rw [ht]; exact hP9, va_K.moved hW.alike hK9, hD9⟩, hS.F ht⟩) hS.2.2 dX11_picture_60
    by_cases c114 : Va1 = 1
    · refine lv_tableIn (off := 44) (tgt := 61) hx hb dX11_picture_17 (by rw [c114]; decide) (by rw [c114]; decide) (by rw [c114]; decide) (by decide) ?_
      refine lv_aload_n hx hb dX11_picture_61 rfl (lv_at hl 0 rfl) ?_
      have hPc := hP.sub (ws' := [(Ad3, .inr (8, Fs2)), (Ad4, .inr (11, Fs3)), (Ad5, .inl (Ka1, 400, .inl Fa1)), (Ad6, .inl (Ka2, 400, .inl Fa2))]) [3, 4, 5, 6] rfl
      have hDc := hD.sub (ws' := [(Ad3, .inr (8, Fs2)), (Ad4, .inr (11, Fs3)), (Ad5, .inl (Ka1, 400, .inl Fa1)), (Ad6, .inl (Ka2, 400, .inl Fa2))]) [3, 4, 5, 6] (by decide) rfl
      have hKc := hK.sub (tys' := [(Ka1, .int), (Ka2, .int)]) [1, 2] rfl
      have hFc := va_free (wc := [(Ad3, .inr (8, Fs2)), (Ad4, .inr (11, Fs3)), (Ad5, .inl (Ka1, 400, .inl Fa1)), (Ad6, .inl (Ka2, 400, .inl Fa2))]) hD hS hA [3, 4, 5, 6] rfl
      refine va_calli (va_runV (As := []) (rest := []) ⟨hx, hb, hml, hown, hts⟩ (z_X5_ringCount l dC dI H.size Ad3 Fs2 Ad4 Fs3 Ad5 Fa1 Ka1 Ad6 Fa2 Ka2 (fh_sub o_Fs2.2 [0, 1] rfl) (fh_sub o_Fs3.2 [0, 1, 2, 4] rfl) ) (cwV 0 hts g_z_X11_picture_z_X5_ringCount_414 rfl rfl rfl (by decide +kernel) ⟨Nat.le_of_ble_eq_true rfl, Nat.le_of_ble_eq_true rfl⟩) ⟨fun a U g mk q => by obtain ⟨q0, q1, qP, qK, qD⟩ := q; exact ⟨q0, q1, qP, va_K.moved (u := U) (U := U.calling g mk a) (Vm.Alike.refl U.vm) qK, qD⟩, va_recv hK hP (ci := 8) (q0 := 3) rfl rfl, fun U hU hW => ⟨rfl, by rw [hU], by rw [hU]; exact hPc, va_K.moved hW.alike hKc, hDc.weaken (fun _ _ _ _ => trivial)⟩⟩ rfl rfl hl.1 rfl (lv_room (Nat.le_of_ble_eq_true rfl)) dX11_picture_62 ⟨Nat.le_of_ble_eq_true rfl, Nat.le_of_ble_eq_true rfl⟩) hS (fun q _ h => hFc q h) hFc (fun r115 u t H1 locs ht hvm hw hB hz1 hk1 hS => ?_)
      obtain ⟨s116, rfl⟩ : ∃ z, z = u := ⟨_, rfl⟩
      obtain ⟨hP1, hK1, hD1⟩ := hB
      rw [ht] at hP1
      try dsimp only at hw
      obtain ⟨hP, hD⟩ := va_join (wr := [(Ad0, .inr (14, Fs0)), (Ad1, .inr (13, Fs1)), (Ad2, .inl (Ka0, 4, .inr (.inr (.inr (.inr Fa0))))), (Ad7, .inl (Ka3, 512, .inl Fa3))]) (w1 := [(Ad3, .inr (8, Fs2)), (Ad4, .inr (11, s116)), (Ad5, .inl (Ka1, 400, .inl Fa1)), (Ad6, .inl (Ka2, 400, .inl Fa2))]) hP hD [3, 4, 5, 6] [0, 1, 2, 7] rfl rfl (by decide) (by decide) hk1 hFc hP1 hD1
      have hK := hK.sub (tys' := [(Ka0, .object "HeapWorks$Picture"), (Ka3, .int), (Ka1, .int), (Ka2, .int)]) [0, 3, 1, 2] rfl
      generalize H1 = H at hP hS ⊢
      have hP : va_P (dC, dI) vwCl [(Ad0, .inr (14, Fs0)), (Ad1, .inr (13, Fs1)), (Ad2, .inl (Ka0, 4, .inr (.inr (.inr (.inr Fa0))))), (Ad7, .inl (Ka3, 512, .inl Fa3)), (Ad3, .inr (8, Fs2)), (Ad4, .inr (11, s116)), (Ad5, .inl (Ka1, 400, .inl Fa1)), (Ad6, .inl (Ka2, 400, .inl Fa2))] H := hP
      have hD : va_D A [(Ad0, .inr (14, Fs0)), (Ad1, .inr (13, Fs1)), (Ad2, .inl (Ka0, 4, .inr (.inr (.inr (.inr Fa0))))), (Ad7, .inl (Ka3, 512, .inl Fa3)), (Ad3, .inr (8, Fs2)), (Ad4, .inr (11, s116)), (Ad5, .inl (Ka1, 400, .inl Fa1)), (Ad6, .inl (Ka2, 400, .inl Fa2))] := hD
      obtain ⟨er117, o_s116⟩ := hw
      subst er117
      have o_s116 := ow_on o_Fs3 o_s116 (l' := [(9, .int 0), (13, .ref Ad5), (15, .ref Ad6), (1, .int 4), (13, .ref Ad5), (15, .ref Ad6), (13, .ref Ad5), (15, .ref Ad6), (13, .ref Ad5), (15, .ref Ad6), (17, .ref Ad7), (11, .int 0)]) (w' := [9, 1]) rfl rfl
      have hP9 := hP.sub (ws' := [(Ad0, .inr (14, Fs0)), (Ad1, .inr (13, Fs1)), (Ad2, .inl (Ka0, 4, .inr (.inr (.inr (.inr Fa0))))), (Ad3, .inr (8, Fs2)), (Ad4, .inr (11, s116)), (Ad5, .inl (Ka1, 400, .inl Fa1)), (Ad6, .inl (Ka2, 400, .inl Fa2)), (Ad7, .inl (Ka3, 512, .inl Fa3))]) [0, 1, 2, 4, 5, 6, 7, 3] rfl
      have hD9 := hD.sub (ws' := [(Ad0, .inr (14, Fs0)), (Ad1, .inr (13, Fs1)), (Ad2, .inl (Ka0, 4, .inr (.inr (.inr (.inr Fa0))))), (Ad3, .inr (8, Fs2)), (Ad4, .inr (11, s116)), (Ad5, .inl (Ka1, 400, .inl Fa1)), (Ad6, .inl (Ka2, 400, .inl Fa2)), (Ad7, .inl (Ka3, 512, .inl Fa3))]) [0, 1, 2, 4, 5, 6, 7, 3] (by decide) rfl
      have hK9 := hK.sub (tys' := [(Ka0, .object "HeapWorks$Picture"), (Ka1, .int), (Ka2, .int), (Ka3, .int)]) [0, 2, 3, 1] rfl
      exact W.iret (v := 0) hx hb hr (fun t ht hW => ⟨⟨0, (s116, Fa3), rfl, (Or.inr (Or.inr (Or.inr (Or.inl ⟨c107, c108, c114, rfl, o_s116⟩)))), by rw [ht]; exact hP9, va_K.moved hW.alike hK9, hD9⟩, hS.F ht⟩) hS.2.2 dX11_picture_65
    by_cases c118 : Va1 = 2
    · refine lv_tableIn (off := 49) (tgt := 66) hx hb dX11_picture_17 (by rw [c118]; decide) (by rw [c118]; decide) (by rw [c118]; decide) (by decide) ?_
      refine lv_aload_n hx hb dX11_picture_66 rfl (lv_at hl 0 rfl) ?_
      have hPc := hP.sub (ws' := [(Ad3, .inr (8, Fs2)), (Ad4, .inr (11, Fs3)), (Ad7, .inl (Ka3, 512, .inl Fa3))]) [3, 4, 7] rfl
      have hDc := hD.sub (ws' := [(Ad3, .inr (8, Fs2)), (Ad4, .inr (11, Fs3)), (Ad7, .inl (Ka3, 512, .inl Fa3))]) [3, 4, 7] (by decide) rfl
      have hKc := hK.sub (tys' := [(Ka3, .int)]) [3] rfl
      have hFc := va_free (wc := [(Ad3, .inr (8, Fs2)), (Ad4, .inr (11, Fs3)), (Ad7, .inl (Ka3, 512, .inl Fa3))]) hD hS hA [3, 4, 7] rfl
      refine va_calli (va_runV (As := []) (rest := []) ⟨hx, hb, hml, hown, hts⟩ (z_X5_twinCount l dC dI H.size Ad3 Fs2 Ad4 Fs3 Ad7 Fa3 Ka3 (fh_sub o_Fs2.2 [0, 1] rfl) (fh_sub o_Fs3.2 [0, 3, 5] rfl) ) (cwV 0 hts g_z_X11_picture_z_X5_twinCount_417 rfl rfl rfl (by decide +kernel) ⟨Nat.le_of_ble_eq_true rfl, Nat.le_of_ble_eq_true rfl⟩) ⟨fun a U g mk q => by obtain ⟨q0, q1, qP, qK, qD⟩ := q; exact ⟨q0, q1, qP, va_K.moved (u := U) (U := U.calling g mk a) (Vm.Alike.refl U.vm) qK, qD⟩, va_recv hK hP (ci := 8) (q0 := 3) rfl rfl, fun U hU hW => ⟨rfl, by rw [hU], by rw [hU]; exact hPc, va_K.moved hW.alike hKc, hDc.weaken (fun _ _ _ _ => trivial)⟩⟩ rfl rfl hl.1 rfl (lv_room (Nat.le_of_ble_eq_true rfl)) dX11_picture_67 ⟨Nat.le_of_ble_eq_true rfl, Nat.le_of_ble_eq_true rfl⟩) hS (fun q _ h => hFc q h) hFc (fun r119 u t H1 locs ht hvm hw hB hz1 hk1 hS => ?_)
      obtain ⟨s120, f121⟩ := u
      obtain ⟨hP1, hK1, hD1⟩ := hB
      rw [ht] at hP1
      try dsimp only at hw
      obtain ⟨hP, hD⟩ := va_join (wr := [(Ad0, .inr (14, Fs0)), (Ad1, .inr (13, Fs1)), (Ad2, .inl (Ka0, 4, .inr (.inr (.inr (.inr Fa0))))), (Ad5, .inl (Ka1, 400, .inl Fa1)), (Ad6, .inl (Ka2, 400, .inl Fa2))]) (w1 := [(Ad3, .inr (8, Fs2)), (Ad4, .inr (11, s120)), (Ad7, .inl (Ka3, 512, .inl f121))]) hP hD [3, 4, 7] [0, 1, 2, 5, 6] rfl rfl (by decide) (by decide) hk1 hFc hP1 hD1
      have hK := hK.sub (tys' := [(Ka0, .object "HeapWorks$Picture"), (Ka1, .int), (Ka2, .int), (Ka3, .int)]) [0, 1, 2, 3] rfl
      generalize H1 = H at hP hS ⊢
      have hP : va_P (dC, dI) vwCl [(Ad0, .inr (14, Fs0)), (Ad1, .inr (13, Fs1)), (Ad2, .inl (Ka0, 4, .inr (.inr (.inr (.inr Fa0))))), (Ad5, .inl (Ka1, 400, .inl Fa1)), (Ad6, .inl (Ka2, 400, .inl Fa2)), (Ad3, .inr (8, Fs2)), (Ad4, .inr (11, s120)), (Ad7, .inl (Ka3, 512, .inl f121))] H := hP
      have hD : va_D A [(Ad0, .inr (14, Fs0)), (Ad1, .inr (13, Fs1)), (Ad2, .inl (Ka0, 4, .inr (.inr (.inr (.inr Fa0))))), (Ad5, .inl (Ka1, 400, .inl Fa1)), (Ad6, .inl (Ka2, 400, .inl Fa2)), (Ad3, .inr (8, Fs2)), (Ad4, .inr (11, s120)), (Ad7, .inl (Ka3, 512, .inl f121))] := hD
      obtain ⟨er122, o_s120⟩ := hw
      subst er122
      have o_s120 := ow_on o_Fs3 o_s120 (l' := [(11, .int 0), (1, .int 8), (17, .ref Ad7), (17, .ref Ad7), (13, .ref Ad5), (15, .ref Ad6), (17, .ref Ad7), (9, .int 0)]) (w' := [11, 1]) rfl rfl
      have hP9 := hP.sub (ws' := [(Ad0, .inr (14, Fs0)), (Ad1, .inr (13, Fs1)), (Ad2, .inl (Ka0, 4, .inr (.inr (.inr (.inr Fa0))))), (Ad3, .inr (8, Fs2)), (Ad4, .inr (11, s120)), (Ad5, .inl (Ka1, 400, .inl Fa1)), (Ad6, .inl (Ka2, 400, .inl Fa2)), (Ad7, .inl (Ka3, 512, .inl f121))]) [0, 1, 2, 5, 6, 3, 4, 7] rfl
      have hD9 := hD.sub (ws' := [(Ad0, .inr (14, Fs0)), (Ad1, .inr (13, Fs1)), (Ad2, .inl (Ka0, 4, .inr (.inr (.inr (.inr Fa0))))), (Ad3, .inr (8, Fs2)), (Ad4, .inr (11, s120)), (Ad5, .inl (Ka1, 400, .inl Fa1)), (Ad6, .inl (Ka2, 400, .inl Fa2)), (Ad7, .inl (Ka3, 512, .inl f121))]) [0, 1, 2, 5, 6, 3, 4, 7] (by decide) rfl
      have hK9 := hK.sub (tys' := [(Ka0, .object "HeapWorks$Picture"), (Ka1, .int), (Ka2, .int), (Ka3, .int)]) [0, 1, 2, 3] rfl
      exact W.iret (v := 0) hx hb hr (fun t ht hW => ⟨⟨0, (s120, f121), rfl, (Or.inr (Or.inr (Or.inr (Or.inr (Or.inl ⟨c107, c108, c118, rfl, o_s120⟩))))), by rw [ht]; exact hP9, va_K.moved hW.alike hK9, hD9⟩, hS.F ht⟩) hS.2.2 dX11_picture_70
    by_cases c123 : Va1 = 3
    · refine lv_tableIn (off := 54) (tgt := 71) hx hb dX11_picture_17 (by rw [c123]; decide) (by rw [c123]; decide) (by rw [c123]; decide) (by decide) ?_
      refine lv_aload_n hx hb dX11_picture_71 rfl (lv_at hl 0 rfl) ?_
      refine lv_aload_n hx hb dX11_picture_72 rfl (lv_at hl 1 rfl) ?_
      refine va_get (D := (dC, dI)) (ci := 14) (v := .ref Ad1) (C := RX11) (T := TX11) (N := 18) hx hb hts (in_z_X11_picture_X11) hown hK hP 0 rfl rfl 1 (by decide) (hts (.fieldLink RX11 19 "HeapWorks" "types" "LHeapWorks$Types;") (by decide +kernel)) (fun _ h9 => h9) (ow_at o_Fs0 0 rfl) dX11_picture_73 ?_
      have hPc := hP.sub (ws' := [(Ad3, .inr (8, Fs2))]) [3] rfl
      have hDc := hD.sub (ws' := [(Ad3, .inr (8, Fs2))]) [3] (by decide) rfl
      have hKc := hK.sub (tys' := []) [] rfl
      have hFc := va_free (wc := [(Ad3, .inr (8, Fs2))]) hD hS hA [3] rfl
      refine va_calli (va_runV (As := [.ref Ad1]) (rest := []) ⟨hx, hb, hml, hown, hts⟩ (z_X5_allSizes l dC dI H.size Ad3 Fs2 Ad1 (fh_sub o_Fs2.2 [0] rfl) ) (cwV 1 hts g_z_X11_picture_z_X5_allSizes_420 rfl rfl rfl (by decide +kernel) ⟨Nat.le_of_ble_eq_true rfl, Nat.le_of_ble_eq_true rfl⟩) ⟨fun a U g mk q => by obtain ⟨q0, q1, qP, qK, qD⟩ := q; exact ⟨q0, q1, qP, va_K.moved (u := U) (U := U.calling g mk a) (Vm.Alike.refl U.vm) qK, qD⟩, va_recv hK hP (ci := 8) (q0 := 3) rfl rfl, fun U hU hW => ⟨rfl, by rw [hU], by rw [hU]; exact hPc, va_K.moved hW.alike hKc, hDc.weaken (fun _ _ _ _ => trivial)⟩⟩ rfl rfl hl.1 rfl (lv_room (Nat.le_of_ble_eq_true rfl)) dX11_picture_76 ⟨Nat.le_of_ble_eq_true rfl, Nat.le_of_ble_eq_true rfl⟩) hS (fun q _ h => hFc q h) hFc (fun r124 u t H1 locs ht hvm hw hB hz1 hk1 hS => ?_)
      obtain ⟨hP1, hK1, hD1⟩ := hB
      rw [ht] at hP1
      try dsimp only at hw
      obtain ⟨hP, hD⟩ := va_join (wr := [(Ad0, .inr (14, Fs0)), (Ad1, .inr (13, Fs1)), (Ad2, .inl (Ka0, 4, .inr (.inr (.inr (.inr Fa0))))), (Ad4, .inr (11, Fs3)), (Ad5, .inl (Ka1, 400, .inl Fa1)), (Ad6, .inl (Ka2, 400, .inl Fa2)), (Ad7, .inl (Ka3, 512, .inl Fa3))]) (w1 := [(Ad3, .inr (8, Fs2))]) hP hD [3] [0, 1, 2, 4, 5, 6, 7] rfl rfl (by decide) (by decide) hk1 hFc hP1 hD1
      have hK := hK.sub (tys' := [(Ka0, .object "HeapWorks$Picture"), (Ka1, .int), (Ka2, .int), (Ka3, .int)]) [0, 1, 2, 3] rfl
      generalize H1 = H at hP hS ⊢
      have hP : va_P (dC, dI) vwCl [(Ad0, .inr (14, Fs0)), (Ad1, .inr (13, Fs1)), (Ad2, .inl (Ka0, 4, .inr (.inr (.inr (.inr Fa0))))), (Ad4, .inr (11, Fs3)), (Ad5, .inl (Ka1, 400, .inl Fa1)), (Ad6, .inl (Ka2, 400, .inl Fa2)), (Ad7, .inl (Ka3, 512, .inl Fa3)), (Ad3, .inr (8, Fs2))] H := hP
      have hD : va_D A [(Ad0, .inr (14, Fs0)), (Ad1, .inr (13, Fs1)), (Ad2, .inl (Ka0, 4, .inr (.inr (.inr (.inr Fa0))))), (Ad4, .inr (11, Fs3)), (Ad5, .inl (Ka1, 400, .inl Fa1)), (Ad6, .inl (Ka2, 400, .inl Fa2)), (Ad7, .inl (Ka3, 512, .inl Fa3)), (Ad3, .inr (8, Fs2))] := hD
      have er125 := hw
      subst er125
      have hP9 := hP.sub (ws' := [(Ad0, .inr (14, Fs0)), (Ad1, .inr (13, Fs1)), (Ad2, .inl (Ka0, 4, .inr (.inr (.inr (.inr Fa0))))), (Ad3, .inr (8, Fs2)), (Ad4, .inr (11, Fs3)), (Ad5, .inl (Ka1, 400, .inl Fa1)), (Ad6, .inl (Ka2, 400, .inl Fa2)), (Ad7, .inl (Ka3, 512, .inl Fa3))]) [0, 1, 2, 7, 3, 4, 5, 6] rfl
      have hD9 := hD.sub (ws' := [(Ad0, .inr (14, Fs0)), (Ad1, .inr (13, Fs1)), (Ad2, .inl (Ka0, 4, .inr (.inr (.inr (.inr Fa0))))), (Ad3, .inr (8, Fs2)), (Ad4, .inr (11, Fs3)), (Ad5, .inl (Ka1, 400, .inl Fa1)), (Ad6, .inl (Ka2, 400, .inl Fa2)), (Ad7, .inl (Ka3, 512, .inl Fa3))]) [0, 1, 2, 7, 3, 4, 5, 6] (by decide) rfl
      have hK9 := hK.sub (tys' := [(Ka0, .object "HeapWorks$Picture"), (Ka1, .int), (Ka2, .int), (Ka3, .int)]) [0, 1, 2, 3] rfl
      exact W.iret (v := 0) hx hb hr (fun t ht hW => ⟨⟨0, (Fs3, Fa3), rfl, (Or.inr (Or.inr (Or.inr (Or.inr (Or.inr (Or.inl ⟨c107, c108, c123, rfl, o_Fs3⟩)))))), by rw [ht]; exact hP9, va_K.moved hW.alike hK9, hD9⟩, hS.F ht⟩) hS.2.2 dX11_picture_79
    by_cases c126 : Va1 = 4
    · refine lv_tableIn (off := 63) (tgt := 80) hx hb dX11_picture_17 (by rw [c126]; decide) (by rw [c126]; decide) (by rw [c126]; decide) (by decide) ?_
      refine lv_aload_n hx hb dX11_picture_80 rfl (lv_at hl 0 rfl) ?_
      refine lv_aload_n hx hb dX11_picture_81 rfl (lv_at hl 1 rfl) ?_
      refine va_get (D := (dC, dI)) (ci := 14) (v := .ref Ad1) (C := RX11) (T := TX11) (N := 18) hx hb hts (in_z_X11_picture_X11) hown hK hP 0 rfl rfl 1 (by decide) (hts (.fieldLink RX11 19 "HeapWorks" "types" "LHeapWorks$Types;") (by decide +kernel)) (fun _ h9 => h9) (ow_at o_Fs0 0 rfl) dX11_picture_82 ?_
      have hPc := hP.sub (ws' := [(Ad3, .inr (8, Fs2)), (Ad4, .inr (11, Fs3)), (Ad7, .inl (Ka3, 512, .inl Fa3))]) [3, 4, 7] rfl
      have hDc := hD.sub (ws' := [(Ad3, .inr (8, Fs2)), (Ad4, .inr (11, Fs3)), (Ad7, .inl (Ka3, 512, .inl Fa3))]) [3, 4, 7] (by decide) rfl
      have hKc := hK.sub (tys' := [(Ka3, .int)]) [3] rfl
      have hFc := va_free (wc := [(Ad3, .inr (8, Fs2)), (Ad4, .inr (11, Fs3)), (Ad7, .inl (Ka3, 512, .inl Fa3))]) hD hS hA [3, 4, 7] rfl
      refine va_calli (va_runV (As := [.ref Ad1]) (rest := []) ⟨hx, hb, hml, hown, hts⟩ (z_X5_doubledSizes l dC dI H.size Ad3 Fs2 Ad4 Fs3 Ad7 Fa3 Ka3 Ad1 (fh_sub o_Fs2.2 [0, 1] rfl) (fh_sub o_Fs3.2 [0, 3] rfl) ) (cwV 1 hts g_z_X11_picture_z_X5_doubledSizes_424 rfl rfl rfl (by decide +kernel) ⟨Nat.le_of_ble_eq_true rfl, Nat.le_of_ble_eq_true rfl⟩) ⟨fun a U g mk q => by obtain ⟨q0, q1, qP, qK, qD⟩ := q; exact ⟨q0, q1, qP, va_K.moved (u := U) (U := U.calling g mk a) (Vm.Alike.refl U.vm) qK, qD⟩, va_recv hK hP (ci := 8) (q0 := 3) rfl rfl, fun U hU hW => ⟨rfl, by rw [hU], by rw [hU]; exact hPc, va_K.moved hW.alike hKc, hDc.weaken (fun _ _ _ _ => trivial)⟩⟩ rfl rfl hl.1 rfl (lv_room (Nat.le_of_ble_eq_true rfl)) dX11_picture_85 ⟨Nat.le_of_ble_eq_true rfl, Nat.le_of_ble_eq_true rfl⟩) hS (fun q _ h => hFc q h) hFc (fun r127 u t H1 locs ht hvm hw hB hz1 hk1 hS => ?_)
      obtain ⟨s128, f129⟩ := u
      obtain ⟨hP1, hK1, hD1⟩ := hB
      rw [ht] at hP1
      try dsimp only at hw
      obtain ⟨hP, hD⟩ := va_join (wr := [(Ad0, .inr (14, Fs0)), (Ad1, .inr (13, Fs1)), (Ad2, .inl (Ka0, 4, .inr (.inr (.inr (.inr Fa0))))), (Ad5, .inl (Ka1, 400, .inl Fa1)), (Ad6, .inl (Ka2, 400, .inl Fa2))]) (w1 := [(Ad3, .inr (8, Fs2)), (Ad4, .inr (11, s128)), (Ad7, .inl (Ka3, 512, .inl f129))]) hP hD [3, 4, 7] [0, 1, 2, 5, 6] rfl rfl (by decide) (by decide) hk1 hFc hP1 hD1
      have hK := hK.sub (tys' := [(Ka0, .object "HeapWorks$Picture"), (Ka1, .int), (Ka2, .int), (Ka3, .int)]) [0, 1, 2, 3] rfl
      generalize H1 = H at hP hS ⊢
      have hP : va_P (dC, dI) vwCl [(Ad0, .inr (14, Fs0)), (Ad1, .inr (13, Fs1)), (Ad2, .inl (Ka0, 4, .inr (.inr (.inr (.inr Fa0))))), (Ad5, .inl (Ka1, 400, .inl Fa1)), (Ad6, .inl (Ka2, 400, .inl Fa2)), (Ad3, .inr (8, Fs2)), (Ad4, .inr (11, s128)), (Ad7, .inl (Ka3, 512, .inl f129))] H := hP
      have hD : va_D A [(Ad0, .inr (14, Fs0)), (Ad1, .inr (13, Fs1)), (Ad2, .inl (Ka0, 4, .inr (.inr (.inr (.inr Fa0))))), (Ad5, .inl (Ka1, 400, .inl Fa1)), (Ad6, .inl (Ka2, 400, .inl Fa2)), (Ad3, .inr (8, Fs2)), (Ad4, .inr (11, s128)), (Ad7, .inl (Ka3, 512, .inl f129))] := hD
      obtain ⟨er130, o_s128⟩ := hw
      subst er130
      have o_s128 := ow_on o_Fs3 o_s128 (l' := [(11, .int 0), (1, .int 8), (17, .ref Ad7), (17, .ref Ad7), (13, .ref Ad5), (15, .ref Ad6), (17, .ref Ad7), (9, .int 0)]) (w' := [11, 1]) rfl rfl
      have hP9 := hP.sub (ws' := [(Ad0, .inr (14, Fs0)), (Ad1, .inr (13, Fs1)), (Ad2, .inl (Ka0, 4, .inr (.inr (.inr (.inr Fa0))))), (Ad3, .inr (8, Fs2)), (Ad4, .inr (11, s128)), (Ad5, .inl (Ka1, 400, .inl Fa1)), (Ad6, .inl (Ka2, 400, .inl Fa2)), (Ad7, .inl (Ka3, 512, .inl f129))]) [0, 1, 2, 5, 6, 3, 4, 7] rfl
      have hD9 := hD.sub (ws' := [(Ad0, .inr (14, Fs0)), (Ad1, .inr (13, Fs1)), (Ad2, .inl (Ka0, 4, .inr (.inr (.inr (.inr Fa0))))), (Ad3, .inr (8, Fs2)), (Ad4, .inr (11, s128)), (Ad5, .inl (Ka1, 400, .inl Fa1)), (Ad6, .inl (Ka2, 400, .inl Fa2)), (Ad7, .inl (Ka3, 512, .inl f129))]) [0, 1, 2, 5, 6, 3, 4, 7] (by decide) rfl
      have hK9 := hK.sub (tys' := [(Ka0, .object "HeapWorks$Picture"), (Ka1, .int), (Ka2, .int), (Ka3, .int)]) [0, 1, 2, 3] rfl
      exact W.iret (v := 0) hx hb hr (fun t ht hW => ⟨⟨0, (s128, f129), rfl, (Or.inr (Or.inr (Or.inr (Or.inr (Or.inr (Or.inr (Or.inl ⟨c107, c108, c126, rfl, o_s128⟩))))))), by rw [ht]; exact hP9, va_K.moved hW.alike hK9, hD9⟩, hS.F ht⟩) hS.2.2 dX11_picture_88
    by_cases c131 : Va1 = 5
    · refine lv_tableIn (off := 72) (tgt := 89) hx hb dX11_picture_17 (by rw [c131]; decide) (by rw [c131]; decide) (by rw [c131]; decide) (by decide) ?_
      refine lv_aload_n hx hb dX11_picture_89 rfl (lv_at hl 0 rfl) ?_
      refine va_get (D := (dC, dI)) (ci := 8) (v := .int 0) (C := RX5) (T := TX5) (N := 21) hx hb hts (in_z_X11_picture_X5) hown hK hP 3 rfl rfl 0 (by decide) (hts (.fieldLink RX11 356 "HeapWorks$Picture" "things" "I") (by decide +kernel)) (fun _ h9 => h9) (ow_at o_Fs2 0 rfl) dX11_picture_90 ?_
      refine lv_if_ne (tgt := 100) hx hb dX11_picture_93 (by decide) (fun c132 => absurd c132 (by decide)) (fun c132 => ?_)
      refine lv_iconst (v := (-1)) hx hb dX11_picture_96 (by decide) ?_
      refine lv_goto (tgt := 111) hx hb dX11_picture_97 (by decide) ?_
      have hP9 := hP.sub (ws' := [(Ad0, .inr (14, Fs0)), (Ad1, .inr (13, Fs1)), (Ad2, .inl (Ka0, 4, .inr (.inr (.inr (.inr Fa0))))), (Ad3, .inr (8, Fs2)), (Ad4, .inr (11, Fs3)), (Ad5, .inl (Ka1, 400, .inl Fa1)), (Ad6, .inl (Ka2, 400, .inl Fa2)), (Ad7, .inl (Ka3, 512, .inl Fa3))]) [0, 1, 2, 3, 4, 5, 6, 7] rfl
      have hD9 := hD.sub (ws' := [(Ad0, .inr (14, Fs0)), (Ad1, .inr (13, Fs1)), (Ad2, .inl (Ka0, 4, .inr (.inr (.inr (.inr Fa0))))), (Ad3, .inr (8, Fs2)), (Ad4, .inr (11, Fs3)), (Ad5, .inl (Ka1, 400, .inl Fa1)), (Ad6, .inl (Ka2, 400, .inl Fa2)), (Ad7, .inl (Ka3, 512, .inl Fa3))]) [0, 1, 2, 3, 4, 5, 6, 7] (by decide) rfl
      have hK9 := hK.sub (tys' := [(Ka0, .object "HeapWorks$Picture"), (Ka1, .int), (Ka2, .int), (Ka3, .int)]) [0, 1, 2, 3] rfl
      exact W.iret (v := (-1)) hx hb hr (fun t ht hW => ⟨⟨(-1), (Fs3, Fa3), rfl, (Or.inr (Or.inr (Or.inr (Or.inr (Or.inr (Or.inr (Or.inr (Or.inl ⟨c107, c108, c131, rfl, o_Fs3⟩)))))))), by rw [ht]; exact hP9, va_K.moved hW.alike hK9, hD9⟩, hS.F ht⟩) hS.2.2 dX11_picture_111
    refine lv_tableOut (tgt := 112) hx hb dX11_picture_17 (by (try simp only [i_eq, i_lt, i_le, kc_0, kc_1, kc_2, kc_3, kc_4, kc_5] at c113 c114 c118 c123 c126 c131); omega) (by decide) ?_
    refine lv_iload_n hx hb dX11_picture_112 rfl (lv_at hl 3 rfl) ?_
    refine lv_sipush (v := 200) hx hb dX11_picture_113 (by decide) ?_
    refine lv_icmp_lt (tgt := 152) hx hb dX11_picture_116 (by decide) (fun c133 => ?_) (fun c133 => ?_)
    · skip
      refine lv_iload_n hx hb dX11_picture_152 rfl (lv_at hl 3 rfl) ?_
      refine lv_bipush (v := 100) hx hb dX11_picture_153 (by decide) ?_
      refine lv_icmp_lt (tgt := 183) hx hb dX11_picture_155 (by decide) (fun c134 => ?_) (fun c134 => ?_)
      · skip
        refine lv_iconst (v := (-1)) hx hb dX11_picture_183 (by decide) ?_
        have hP9 := hP.sub (ws' := [(Ad0, .inr (14, Fs0)), (Ad1, .inr (13, Fs1)), (Ad2, .inl (Ka0, 4, .inr (.inr (.inr (.inr Fa0))))), (Ad3, .inr (8, Fs2)), (Ad4, .inr (11, Fs3)), (Ad5, .inl (Ka1, 400, .inl Fa1)), (Ad6, .inl (Ka2, 400, .inl Fa2)), (Ad7, .inl (Ka3, 512, .inl Fa3))]) [0, 1, 2, 3, 4, 5, 6, 7] rfl
        have hD9 := hD.sub (ws' := [(Ad0, .inr (14, Fs0)), (Ad1, .inr (13, Fs1)), (Ad2, .inl (Ka0, 4, .inr (.inr (.inr (.inr Fa0))))), (Ad3, .inr (8, Fs2)), (Ad4, .inr (11, Fs3)), (Ad5, .inl (Ka1, 400, .inl Fa1)), (Ad6, .inl (Ka2, 400, .inl Fa2)), (Ad7, .inl (Ka3, 512, .inl Fa3))]) [0, 1, 2, 3, 4, 5, 6, 7] (by decide) rfl
        have hK9 := hK.sub (tys' := [(Ka0, .object "HeapWorks$Picture"), (Ka1, .int), (Ka2, .int), (Ka3, .int)]) [0, 1, 2, 3] rfl
        exact W.iret (v := (-1)) hx hb hr (fun t ht hW => ⟨⟨(-1), (Fs3, Fa3), rfl, (Or.inr (Or.inr (Or.inr (Or.inr (Or.inr (Or.inr (Or.inr (Or.inr (Or.inl ⟨c107, c108, c113, c114, c118, c123, c126, c131, c133, c134, rfl, o_Fs3⟩))))))))), by rw [ht]; exact hP9, va_K.moved hW.alike hK9, hD9⟩, hS.F ht⟩) hS.2.2 dX11_picture_184
      · skip
        refine lv_aload_n hx hb dX11_picture_158 rfl (lv_at hl 1 rfl) ?_
        refine va_get (D := (dC, dI)) (ci := 14) (v := .ref Ad1) (C := RX11) (T := TX11) (N := 18) hx hb hts (in_z_X11_picture_X11) hown hK hP 0 rfl rfl 1 (by decide) (hts (.fieldLink RX11 19 "HeapWorks" "types" "LHeapWorks$Types;") (by decide +kernel)) (fun _ h9 => h9) (ow_at o_Fs0 0 rfl) dX11_picture_159 ?_
        refine lv_iload_n hx hb dX11_picture_162 rfl (lv_at hl 3 rfl) ?_
        refine lv_bipush (v := 100) hx hb dX11_picture_163 (by decide) ?_
        refine lv_isub hx hb dX11_picture_165  ?_
        refine lv_topi (fun x135 ex135 => ?_)
        have tx135 : x135.toInt = (Va1 : Int32).toInt - (100 : Int32).toInt := by rw [ex135]; exact i_sub (by have bd_Va1 := i_bd Va1; (try simp only [i_lt, i_le, i_eq, kc_0, kc_1, kc_2, kc_3, kc_4, kc_5, kc_200, kc_100] at c113 c114 c118 c123 c126 c131 c133 c134 ⊢); omega) (by have bd_Va1 := i_bd Va1; (try simp only [i_lt, i_le, i_eq, kc_0, kc_1, kc_2, kc_3, kc_4, kc_5, kc_200, kc_100] at c113 c114 c118 c123 c126 c131 c133 c134 ⊢); omega)
        have hPc := hP.sub (ws' := [(Ad1, .inr (13, Fs1))]) [1] rfl
        have hDc := hD.sub (ws' := [(Ad1, .inr (13, Fs1))]) [1] (by decide) rfl
        have hKc := hK.sub (tys' := []) [] rfl
        have hFc := va_free (wc := [(Ad1, .inr (13, Fs1))]) hD hS hA [1] rfl
        refine va_calli (va_runV (As := [.int x135]) (rest := []) ⟨hx, hb, hml, hown, hts⟩ (z_X10_isClass l dC dI H.size Ad1 Fs1 x135 (fh_sub o_Fs1.2 [0] rfl) ) (cwV 1 hts g_z_X11_picture_z_X10_isClass_116 rfl rfl rfl (by decide +kernel) ⟨Nat.le_of_ble_eq_true rfl, Nat.le_of_ble_eq_true rfl⟩) ⟨fun a U g mk q => by obtain ⟨q0, q1, qP, qK, qD⟩ := q; exact ⟨q0, q1, qP, va_K.moved (u := U) (U := U.calling g mk a) (Vm.Alike.refl U.vm) qK, qD⟩, va_recv hK hP (ci := 13) (q0 := 1) rfl rfl, fun U hU hW => ⟨rfl, by rw [hU], by rw [hU]; exact hPc, va_K.moved hW.alike hKc, hDc.weaken (fun _ _ _ _ => trivial)⟩⟩ rfl rfl hl.1 rfl (lv_room (Nat.le_of_ble_eq_true rfl)) dX11_picture_166 ⟨Nat.le_of_ble_eq_true rfl, Nat.le_of_ble_eq_true rfl⟩) hS (fun q _ h => hFc q h) hFc (fun r136 u t H1 locs ht hvm hw hB hz1 hk1 hS => ?_)
        obtain ⟨hP1, hK1, hD1⟩ := hB
        rw [ht] at hP1
        try dsimp only at hw
        obtain ⟨hP, hD⟩ := va_join (wr := [(Ad0, .inr (14, Fs0)), (Ad2, .inl (Ka0, 4, .inr (.inr (.inr (.inr Fa0))))), (Ad3, .inr (8, Fs2)), (Ad4, .inr (11, Fs3)), (Ad5, .inl (Ka1, 400, .inl Fa1)), (Ad6, .inl (Ka2, 400, .inl Fa2)), (Ad7, .inl (Ka3, 512, .inl Fa3))]) (w1 := [(Ad1, .inr (13, Fs1))]) hP hD [1] [0, 2, 3, 4, 5, 6, 7] rfl rfl (by decide) (by decide) hk1 hFc hP1 hD1
        have hK := hK.sub (tys' := [(Ka0, .object "HeapWorks$Picture"), (Ka1, .int), (Ka2, .int), (Ka3, .int)]) [0, 1, 2, 3] rfl
        generalize H1 = H at hP hS ⊢
        have hP : va_P (dC, dI) vwCl [(Ad0, .inr (14, Fs0)), (Ad2, .inl (Ka0, 4, .inr (.inr (.inr (.inr Fa0))))), (Ad3, .inr (8, Fs2)), (Ad4, .inr (11, Fs3)), (Ad5, .inl (Ka1, 400, .inl Fa1)), (Ad6, .inl (Ka2, 400, .inl Fa2)), (Ad7, .inl (Ka3, 512, .inl Fa3)), (Ad1, .inr (13, Fs1))] H := hP
        have hD : va_D A [(Ad0, .inr (14, Fs0)), (Ad2, .inl (Ka0, 4, .inr (.inr (.inr (.inr Fa0))))), (Ad3, .inr (8, Fs2)), (Ad4, .inr (11, Fs3)), (Ad5, .inl (Ka1, 400, .inl Fa1)), (Ad6, .inl (Ka2, 400, .inl Fa2)), (Ad7, .inl (Ka3, 512, .inl Fa3)), (Ad1, .inr (13, Fs1))] := hD
        rcases hw with ⟨c137, er138⟩ | ⟨c139, c140, er141⟩
        · exact (by exfalso; (try simp only [i_lt, i_le, i_eq, kc_100, kc_0, kc_1, kc_2, kc_3, kc_4, kc_5, kc_200] at tx135 c137 c113 c114 c118 c123 c126 c131 c133 c134); omega)
        · skip
          subst er141
          refine lv_if_eq (tgt := 183) hx hb dX11_picture_169 (by decide) (fun c142 => ?_) (fun c142 => absurd c142 (by decide))
          refine lv_iconst (v := (-1)) hx hb dX11_picture_183 (by decide) ?_
          have hP9 := hP.sub (ws' := [(Ad0, .inr (14, Fs0)), (Ad1, .inr (13, Fs1)), (Ad2, .inl (Ka0, 4, .inr (.inr (.inr (.inr Fa0))))), (Ad3, .inr (8, Fs2)), (Ad4, .inr (11, Fs3)), (Ad5, .inl (Ka1, 400, .inl Fa1)), (Ad6, .inl (Ka2, 400, .inl Fa2)), (Ad7, .inl (Ka3, 512, .inl Fa3))]) [0, 7, 1, 2, 3, 4, 5, 6] rfl
          have hD9 := hD.sub (ws' := [(Ad0, .inr (14, Fs0)), (Ad1, .inr (13, Fs1)), (Ad2, .inl (Ka0, 4, .inr (.inr (.inr (.inr Fa0))))), (Ad3, .inr (8, Fs2)), (Ad4, .inr (11, Fs3)), (Ad5, .inl (Ka1, 400, .inl Fa1)), (Ad6, .inl (Ka2, 400, .inl Fa2)), (Ad7, .inl (Ka3, 512, .inl Fa3))]) [0, 7, 1, 2, 3, 4, 5, 6] (by decide) rfl
          have hK9 := hK.sub (tys' := [(Ka0, .object "HeapWorks$Picture"), (Ka1, .int), (Ka2, .int), (Ka3, .int)]) [0, 1, 2, 3] rfl
          exact W.iret (v := (-1)) hx hb hr (fun t ht hW => ⟨⟨(-1), (Fs3, Fa3), rfl, (Or.inr (Or.inr (Or.inr (Or.inr (Or.inr (Or.inr (Or.inr (Or.inr (Or.inr (Or.inl ⟨c107, c108, c113, c114, c118, c123, c126, c131, c133, c134, rfl, o_Fs3⟩)))))))))), by rw [ht]; exact hP9, va_K.moved hW.alike hK9, hD9⟩, hS.F ht⟩) hS.2.2 dX11_picture_184
    · skip
      refine lv_aload_n hx hb dX11_picture_119 rfl (lv_at hl 1 rfl) ?_
      refine va_get (D := (dC, dI)) (ci := 14) (v := .ref Ad1) (C := RX11) (T := TX11) (N := 18) hx hb hts (in_z_X11_picture_X11) hown hK hP 0 rfl rfl 1 (by decide) (hts (.fieldLink RX11 19 "HeapWorks" "types" "LHeapWorks$Types;") (by decide +kernel)) (fun _ h9 => h9) (ow_at o_Fs0 0 rfl) dX11_picture_120 ?_
      refine lv_iload_n hx hb dX11_picture_123 rfl (lv_at hl 3 rfl) ?_
      refine lv_sipush (v := 200) hx hb dX11_picture_124 (by decide) ?_
      refine lv_isub hx hb dX11_picture_127  ?_
      refine lv_topi (fun x143 ex143 => ?_)
      have tx143 : x143.toInt = (Va1 : Int32).toInt - (200 : Int32).toInt := by rw [ex143]; exact i_sub (by have bd_Va1 := i_bd Va1; (try simp only [i_lt, i_le, i_eq, kc_0, kc_1, kc_2, kc_3, kc_4, kc_5, kc_200] at c113 c114 c118 c123 c126 c131 c133 ⊢); omega) (by have bd_Va1 := i_bd Va1; (try simp only [i_lt, i_le, i_eq, kc_0, kc_1, kc_2, kc_3, kc_4, kc_5, kc_200] at c113 c114 c118 c123 c126 c131 c133 ⊢); omega)
      have hPc := hP.sub (ws' := [(Ad1, .inr (13, Fs1))]) [1] rfl
      have hDc := hD.sub (ws' := [(Ad1, .inr (13, Fs1))]) [1] (by decide) rfl
      have hKc := hK.sub (tys' := []) [] rfl
      have hFc := va_free (wc := [(Ad1, .inr (13, Fs1))]) hD hS hA [1] rfl
      refine va_calli (va_runV (As := [.int x143]) (rest := []) ⟨hx, hb, hml, hown, hts⟩ (z_X10_isClass l dC dI H.size Ad1 Fs1 x143 (fh_sub o_Fs1.2 [0] rfl) ) (cwV 1 hts g_z_X11_picture_z_X10_isClass_116 rfl rfl rfl (by decide +kernel) ⟨Nat.le_of_ble_eq_true rfl, Nat.le_of_ble_eq_true rfl⟩) ⟨fun a U g mk q => by obtain ⟨q0, q1, qP, qK, qD⟩ := q; exact ⟨q0, q1, qP, va_K.moved (u := U) (U := U.calling g mk a) (Vm.Alike.refl U.vm) qK, qD⟩, va_recv hK hP (ci := 13) (q0 := 1) rfl rfl, fun U hU hW => ⟨rfl, by rw [hU], by rw [hU]; exact hPc, va_K.moved hW.alike hKc, hDc.weaken (fun _ _ _ _ => trivial)⟩⟩ rfl rfl hl.1 rfl (lv_room (Nat.le_of_ble_eq_true rfl)) dX11_picture_128 ⟨Nat.le_of_ble_eq_true rfl, Nat.le_of_ble_eq_true rfl⟩) hS (fun q _ h => hFc q h) hFc (fun r144 u t H1 locs ht hvm hw hB hz1 hk1 hS => ?_)
      obtain ⟨hP1, hK1, hD1⟩ := hB
      rw [ht] at hP1
      try dsimp only at hw
      obtain ⟨hP, hD⟩ := va_join (wr := [(Ad0, .inr (14, Fs0)), (Ad2, .inl (Ka0, 4, .inr (.inr (.inr (.inr Fa0))))), (Ad3, .inr (8, Fs2)), (Ad4, .inr (11, Fs3)), (Ad5, .inl (Ka1, 400, .inl Fa1)), (Ad6, .inl (Ka2, 400, .inl Fa2)), (Ad7, .inl (Ka3, 512, .inl Fa3))]) (w1 := [(Ad1, .inr (13, Fs1))]) hP hD [1] [0, 2, 3, 4, 5, 6, 7] rfl rfl (by decide) (by decide) hk1 hFc hP1 hD1
      have hK := hK.sub (tys' := [(Ka0, .object "HeapWorks$Picture"), (Ka1, .int), (Ka2, .int), (Ka3, .int)]) [0, 1, 2, 3] rfl
      generalize H1 = H at hP hS ⊢
      have hP : va_P (dC, dI) vwCl [(Ad0, .inr (14, Fs0)), (Ad2, .inl (Ka0, 4, .inr (.inr (.inr (.inr Fa0))))), (Ad3, .inr (8, Fs2)), (Ad4, .inr (11, Fs3)), (Ad5, .inl (Ka1, 400, .inl Fa1)), (Ad6, .inl (Ka2, 400, .inl Fa2)), (Ad7, .inl (Ka3, 512, .inl Fa3)), (Ad1, .inr (13, Fs1))] H := hP
      have hD : va_D A [(Ad0, .inr (14, Fs0)), (Ad2, .inl (Ka0, 4, .inr (.inr (.inr (.inr Fa0))))), (Ad3, .inr (8, Fs2)), (Ad4, .inr (11, Fs3)), (Ad5, .inl (Ka1, 400, .inl Fa1)), (Ad6, .inl (Ka2, 400, .inl Fa2)), (Ad7, .inl (Ka3, 512, .inl Fa3)), (Ad1, .inr (13, Fs1))] := hD
      rcases hw with ⟨c145, er146⟩ | ⟨c147, c148, er149⟩
      · exact (by exfalso; (try simp only [i_lt, i_le, i_eq, kc_200, kc_0, kc_1, kc_2, kc_3, kc_4, kc_5] at tx143 c145 c113 c114 c118 c123 c126 c131 c133); omega)
      · skip
        subst er149
        refine lv_if_eq (tgt := 150) hx hb dX11_picture_131 (by decide) (fun c150 => ?_) (fun c150 => absurd c150 (by decide))
        refine lv_iconst (v := (-1)) hx hb dX11_picture_150 (by decide) ?_
        have hP9 := hP.sub (ws' := [(Ad0, .inr (14, Fs0)), (Ad1, .inr (13, Fs1)), (Ad2, .inl (Ka0, 4, .inr (.inr (.inr (.inr Fa0))))), (Ad3, .inr (8, Fs2)), (Ad4, .inr (11, Fs3)), (Ad5, .inl (Ka1, 400, .inl Fa1)), (Ad6, .inl (Ka2, 400, .inl Fa2)), (Ad7, .inl (Ka3, 512, .inl Fa3))]) [0, 7, 1, 2, 3, 4, 5, 6] rfl
        have hD9 := hD.sub (ws' := [(Ad0, .inr (14, Fs0)), (Ad1, .inr (13, Fs1)), (Ad2, .inl (Ka0, 4, .inr (.inr (.inr (.inr Fa0))))), (Ad3, .inr (8, Fs2)), (Ad4, .inr (11, Fs3)), (Ad5, .inl (Ka1, 400, .inl Fa1)), (Ad6, .inl (Ka2, 400, .inl Fa2)), (Ad7, .inl (Ka3, 512, .inl Fa3))]) [0, 7, 1, 2, 3, 4, 5, 6] (by decide) rfl
        have hK9 := hK.sub (tys' := [(Ka0, .object "HeapWorks$Picture"), (Ka1, .int), (Ka2, .int), (Ka3, .int)]) [0, 1, 2, 3] rfl
        exact W.iret (v := (-1)) hx hb hr (fun t ht hW => ⟨⟨(-1), (Fs3, Fa3), rfl, (Or.inr (Or.inr (Or.inr (Or.inr (Or.inr (Or.inr (Or.inr (Or.inr (Or.inr (Or.inr (⟨c107, c108, c113, c114, c118, c123, c126, c131, c133, rfl, o_Fs3⟩))))))))))), by rw [ht]; exact hP9, va_K.moved hW.alike hK9, hD9⟩, hS.F ht⟩) hS.2.2 dX11_picture_151

def l_z_X5_memberOf : List Cond := [.fieldLink RX5 82 "HeapWorks$Picture" "things" "I"]
def w_z_X5_memberOf : List Cond := .code yX5_memberOf cX5_memberOf 6 (some .int) :: (l_z_X5_memberOf ++ (wsX50))
theorem in_z_X5_memberOf_X5 : ∀ w ∈ wsX50, w ∈ w_z_X5_memberOf := fun w h => List.mem_cons_of_mem _ (List.mem_append_right _ (h))
set_option maxHeartbeats 4000000 in
set_option maxRecDepth 100000 in
theorem z_X5_memberOf (l : Launch) (dC : Nat → ClassId) (dI : Nat → Nat → Nat) (sz : Nat) (Ad0 : Nat) (Fs0 : List Value) (Br0 : Nat) (Va0 : Int32) (Va1 : Int32) (k_Fs0 : fh Fs0 21 [(0, .int 0)])  : Met l yX5_memberOf w_z_X5_memberOf ({ frames := 0, cells := 0, slots := 0, locals := 0 }) (va_Pc [.ref Ad0, .ref Br0, .int Va0, .int Va1] (fun U => U.heap.size = sz ∧ Wd dC dI [] (fun _ => True) [(Ad0, .inr (8, Fs0))] U)) (va_Qi (fun (r : Int32) (u : Unit) => r = (-1)) (fun (u : Unit) t => Wd dC dI [] (va_A [(Ad0, .inr (8, Fs0))] sz) [(Ad0, .inr (8, Fs0))] t) (va_A [(Ad0, .inr (8, Fs0))] sz))  0 0 (va_A [(Ad0, .inr (8, Fs0))] sz) := by
  refine Met.ofW (cc := cX5_memberOf) (maxL := 6) (ret := (some .int)) (by decide) rfl ?_
  intro p e s m args below meth c s₁ B hml hv
  obtain ⟨rfl, hsz, hP, hK, hD0⟩ := hv
  have hx := B.exec
  have hb := B.bytes
  have hr := B.returns
  have hts := atoms_spec (ws := w_z_X5_memberOf) B.pre
  have hown : s.vm.findClass RX5 = some m.cls := findClass_of_methodNamed B.named
  have hlocks := B.notSynchronized
  subst hsz
  have hD := hD0.self (sz := s.heap.size)
  generalize hAe : va_A [(Ad0, .inr (8, Fs0))] s.heap.size = A at hD ⊢
  have hA : ∀ q : Nat, s.heap.size ≤ q → A q := fun q h => by rw [← hAe]; exact Or.inr h
  have hS : va_S A s.heap s.heap [] := va_S.rf
  have hl := lv_entry ([.ref Ad0, .ref Br0, .int Va0, .int Va1]) (n := 6) (Nat.le_of_ble_eq_true rfl)
  rw [lg_entry_eq]
  generalize (lg_sl ([.ref Ad0, .ref Br0, .int Va0, .int Va1]) ++ List.replicate (6 - (lg_sl ([.ref Ad0, .ref Br0, .int Va0, .int Va1])).length) Slot.unset).toArray = ls at hl ⊢
  have hl : lv_has ls 6 [(0, .ref Ad0), (1, .ref Br0), (2, .int Va0), (3, .int Va1)] := hl
  have o_Fs0 := ow_0 k_Fs0
  refine lv_iload_n hx hb dX5_memberOf_0 rfl (lv_at hl 3 rfl) ?_
  refine lv_istore (lv' := [(4, .int Va1), (0, .ref Ad0), (1, .ref Br0), (2, .int Va0), (3, .int Va1)]) hx hb dX5_memberOf_1 hl (by decide) rfl (fun ls hl => ?_)
  refine lv_iconst (v := 0) hx hb dX5_memberOf_3 (by decide) ?_
  refine lv_istore (lv' := [(5, .int 0), (4, .int Va1), (0, .ref Ad0), (1, .ref Br0), (2, .int Va0), (3, .int Va1)]) hx hb dX5_memberOf_4 hl (by decide) rfl (fun ls hl => ?_)
  refine lv_iload hx hb dX5_memberOf_6 (lv_at hl 0 rfl) ?_
  refine lv_aload_n hx hb dX5_memberOf_8 rfl (lv_at hl 2 rfl) ?_
  refine va_get (D := (dC, dI)) (ci := 8) (v := .int 0) (C := RX5) (T := TX5) (N := 21) hx hb hts (in_z_X5_memberOf_X5) hown hK hP 0 rfl rfl 0 (by decide) (hts (.fieldLink RX5 82 "HeapWorks$Picture" "things" "I") (by decide +kernel)) (fun _ h9 => h9) (ow_at o_Fs0 0 rfl) dX5_memberOf_9 ?_
  refine lv_icmp_ge (tgt := 40) hx hb dX5_memberOf_12 (by decide) (fun c101 => ?_) (fun c101 => absurd c101 (by decide))
  refine lv_iconst (v := (-1)) hx hb dX5_memberOf_40 (by decide) ?_
  have hP9 := hP.sub (ws' := [(Ad0, .inr (8, Fs0))]) [0] rfl
  have hD9 := hD.sub (ws' := [(Ad0, .inr (8, Fs0))]) [0] (by decide) rfl
  have hK9 := hK.sub (tys' := []) [] rfl
  exact W.iret (v := (-1)) hx hb hr (fun t ht hW => ⟨⟨(-1), (), rfl, rfl, by rw [ht]; exact hP9, va_K.moved hW.alike hK9, hD9⟩, hS.F ht⟩) hS.2.2 dX5_memberOf_41

def l_z_X5_twinMember : List Cond := [.fieldLink RX5 78 "HeapWorks$Picture" "shape" "LHeapWorks$Shape;", .methodLink RX5 189 yX8_needTwins, .instanceMethod yX8_needTwins, .selects RX8 yX8_needTwins yX8_needTwins, .initialized RX8, .fieldLink RX5 192 "HeapWorks$Shape" "twin" "[I", .methodLink RX5 185 yX5_memberOf, .instanceMethod yX5_memberOf, .selects RX5 yX5_memberOf yX5_memberOf, .initialized RX5, .code yX8_needTwins cX8_needTwins 6 none, .fieldLink RX8 60 "HeapWorks$Shape" "known" "I", .fieldLink RX8 57 "HeapWorks$Shape" "bucket" "[I", .methodLink RX8 149 yJ7_fill_53178, .static yJ7_fill_53178, .initialized RJ7, .fieldLink RX8 64 "HeapWorks$Picture" "things" "I", .fieldLink RX8 159 "HeapWorks$Shape" "twins" "I", .code yJ7_fill_53178 cJ7_fill_53178 4 none, .code yX5_memberOf cX5_memberOf 6 (some .int), .fieldLink RX5 82 "HeapWorks$Picture" "things" "I"]
def w_z_X5_twinMember : List Cond := .code yX5_twinMember cX5_twinMember 3 (some .int) :: (l_z_X5_twinMember ++ ((wsX50 ++ wsX80)))
theorem in_z_X5_twinMember_X5 : ∀ w ∈ wsX50, w ∈ w_z_X5_twinMember := fun w h => List.mem_cons_of_mem _ (List.mem_append_right _ (List.mem_append_left _ h))
theorem in_z_X5_twinMember_X8 : ∀ w ∈ wsX80, w ∈ w_z_X5_twinMember := fun w h => List.mem_cons_of_mem _ (List.mem_append_right _ (List.mem_append_right _ (h)))
theorem g_z_X5_twinMember_z_X8_needTwins_189 : GoodIn w_z_X5_twinMember (wsV RX5 189 RX8 yX8_needTwins w_z_X8_needTwins) := goodIn_app (goodIn_r (([.methodLink RX5 189 yX8_needTwins, .instanceMethod yX8_needTwins, .selects RX8 yX8_needTwins yX8_needTwins, .initialized RX8] : List Cond)) [2, 3, 4, 5] rfl (by decide +kernel)) (goodIn_ca (goodIn_r (.code yX8_needTwins cX8_needTwins 6 none :: l_z_X8_needTwins) [11, 12, 13, 14, 15, 16, 17, 18, 19] rfl (by decide +kernel)) (goodIn_app (goodIn_in (in_z_X5_twinMember_X8) gd_X8) (goodIn_in (in_z_X5_twinMember_X5) gd_X5)))
theorem g_z_X5_twinMember_z_X5_memberOf_185 : GoodIn w_z_X5_twinMember (wsV RX5 185 RX5 yX5_memberOf w_z_X5_memberOf) := goodIn_app (goodIn_r (([.methodLink RX5 185 yX5_memberOf, .instanceMethod yX5_memberOf, .selects RX5 yX5_memberOf yX5_memberOf, .initialized RX5] : List Cond)) [7, 8, 9, 10] rfl (by decide +kernel)) (goodIn_ca (goodIn_r (.code yX5_memberOf cX5_memberOf 6 (some .int) :: l_z_X5_memberOf) [20, 21] rfl (by decide +kernel)) (goodIn_in (in_z_X5_twinMember_X5) gd_X5))
set_option maxHeartbeats 4000000 in
set_option maxRecDepth 100000 in
theorem z_X5_twinMember (l : Launch) (dC : Nat → ClassId) (dI : Nat → Nat → Nat) (sz : Nat) (Ad0 : Nat) (Fs0 : List Value) (Ad1 : Nat) (Fs1 : List Value) (Ad2 : Nat) (Fa0 : Nat → Int32) (Ka0 : ClassId) (Va0 : Int32) (Va1 : Int32) (Br0 : Nat) (k_Fs0 : fh Fs0 21 [(0, .int 0), (20, .ref Ad1)]) (k_Fs1 : fh Fs1 18 [(1, .int 0), (17, .ref Ad2), (10, .ref Br0)])  : Met l yX5_twinMember w_z_X5_twinMember ({ frames := 2, cells := 0, slots := 0, locals := 48 }) (va_Pc [.ref Ad0, .int Va0, .int Va1] (fun U => U.heap.size = sz ∧ Wd dC dI [(Ka0, .int)] (fun _ => True) [(Ad0, .inr (8, Fs0)), (Ad1, .inr (11, Fs1)), (Ad2, .inl (Ka0, 512, .inl Fa0))] U)) (va_Qi (fun (r : Int32) (u : List Value × (Nat → Int32)) => (r = (-1) ∧ ow Fs1 (u.1) 18 [11, 1] [(11, .int 0), (1, .int 8), (17, .ref Ad2), (17, .ref Ad2), (10, .ref Br0)])) (fun (u : List Value × (Nat → Int32)) t => Wd dC dI [(Ka0, .int)] (va_A [(Ad0, .inr (8, Fs0)), (Ad1, .inr (11, Fs1)), (Ad2, .inl (Ka0, 512, .inl Fa0))] sz) [(Ad0, .inr (8, Fs0)), (Ad1, .inr (11, (u.1))), (Ad2, .inl (Ka0, 512, .inl ((u.2))))] t) (va_A [(Ad0, .inr (8, Fs0)), (Ad1, .inr (11, Fs1)), (Ad2, .inl (Ka0, 512, .inl Fa0))] sz))  0 0 (va_A [(Ad0, .inr (8, Fs0)), (Ad1, .inr (11, Fs1)), (Ad2, .inl (Ka0, 512, .inl Fa0))] sz) := by
  refine Met.ofW (cc := cX5_twinMember) (maxL := 3) (ret := (some .int)) (by decide) rfl ?_
  intro p e s m args below meth c s₁ B hml hv
  obtain ⟨rfl, hsz, hP, hK, hD0⟩ := hv
  have hx := B.exec
  have hb := B.bytes
  have hr := B.returns
  have hts := atoms_spec (ws := w_z_X5_twinMember) B.pre
  have hown : s.vm.findClass RX5 = some m.cls := findClass_of_methodNamed B.named
  have hlocks := B.notSynchronized
  subst hsz
  have hD := hD0.self (sz := s.heap.size)
  generalize hAe : va_A [(Ad0, .inr (8, Fs0)), (Ad1, .inr (11, Fs1)), (Ad2, .inl (Ka0, 512, .inl Fa0))] s.heap.size = A at hD ⊢
  have hA : ∀ q : Nat, s.heap.size ≤ q → A q := fun q h => by rw [← hAe]; exact Or.inr h
  have hS : va_S A s.heap s.heap [] := va_S.rf
  have hl := lv_entry ([.ref Ad0, .int Va0, .int Va1]) (n := 3) (Nat.le_of_ble_eq_true rfl)
  rw [lg_entry_eq]
  generalize (lg_sl ([.ref Ad0, .int Va0, .int Va1]) ++ List.replicate (3 - (lg_sl ([.ref Ad0, .int Va0, .int Va1])).length) Slot.unset).toArray = ls at hl ⊢
  have hl : lv_has ls 3 [(0, .ref Ad0), (1, .int Va0), (2, .int Va1)] := hl
  have o_Fs0 := ow_0 k_Fs0
  have o_Fs1 := ow_0 k_Fs1
  refine lv_aload_n hx hb dX5_twinMember_0 rfl (lv_at hl 0 rfl) ?_
  refine va_get (D := (dC, dI)) (ci := 8) (v := .ref Ad1) (C := RX5) (T := TX5) (N := 21) hx hb hts (in_z_X5_twinMember_X5) hown hK hP 0 rfl rfl 20 (by decide) (hts (.fieldLink RX5 78 "HeapWorks$Picture" "shape" "LHeapWorks$Shape;") (by decide +kernel)) (fun _ h9 => h9) (ow_at o_Fs0 1 rfl) dX5_twinMember_1 ?_
  refine lv_aload_n hx hb dX5_twinMember_4 rfl (lv_at hl 0 rfl) ?_
  have hPc := hP.sub (ws' := [(Ad0, .inr (8, Fs0)), (Ad1, .inr (11, Fs1)), (Ad2, .inl (Ka0, 512, .inl Fa0))]) [0, 1, 2] rfl
  have hDc := hD.sub (ws' := [(Ad0, .inr (8, Fs0)), (Ad1, .inr (11, Fs1)), (Ad2, .inl (Ka0, 512, .inl Fa0))]) [0, 1, 2] (by decide) rfl
  have hKc := hK.sub (tys' := [(Ka0, .int)]) [0] rfl
  have hFc := va_free (wc := [(Ad0, .inr (8, Fs0)), (Ad1, .inr (11, Fs1)), (Ad2, .inl (Ka0, 512, .inl Fa0))]) hD hS hA [0, 1, 2] rfl
  refine va_callv (va_runV (As := [.ref Ad0]) (rest := []) ⟨hx, hb, hml, hown, hts⟩ (z_X8_needTwins l dC dI s.heap.size Ad0 Fs0 Ad1 Fs1 Ad2 Fa0 Ka0 (fh_sub o_Fs0.2 [0] rfl) (fh_sub o_Fs1.2 [0, 1] rfl) ) (cwV 1 hts g_z_X5_twinMember_z_X8_needTwins_189 rfl rfl rfl (by decide +kernel) ⟨Nat.le_of_ble_eq_true rfl, Nat.le_of_ble_eq_true rfl⟩) ⟨fun a U g mk q => by obtain ⟨q0, q1, qP, qK, qD⟩ := q; exact ⟨q0, q1, qP, va_K.moved (u := U) (U := U.calling g mk a) (Vm.Alike.refl U.vm) qK, qD⟩, va_recv hK hP (ci := 11) (q0 := 1) rfl rfl, fun U hU hW => ⟨rfl, by rw [hU], by rw [hU]; exact hPc, va_K.moved hW.alike hKc, hDc.weaken (fun _ _ _ _ => trivial)⟩⟩ rfl rfl hl.1 rfl (lv_room (Nat.le_of_ble_eq_true rfl)) dX5_twinMember_5 ⟨Nat.le_of_ble_eq_true rfl, Nat.le_of_ble_eq_true rfl⟩) hS (fun q _ h => hFc q h) hFc (fun u t H1 locs ht hvm hw hB hz1 hk1 hS => ?_)
  obtain ⟨s101, f102⟩ := u
  obtain ⟨hP1, hK1, hD1⟩ := hB
  rw [ht] at hP1
  try dsimp only at hw
  obtain ⟨hP, hD⟩ := va_join (wr := []) (w1 := [(Ad0, .inr (8, Fs0)), (Ad1, .inr (11, s101)), (Ad2, .inl (Ka0, 512, .inl f102))]) hP hD [0, 1, 2] [] rfl rfl (by decide) (by decide) hk1 hFc hP1 hD1
  have hK := hK.sub (tys' := [(Ka0, .int)]) [0] rfl
  generalize H1 = H at hP hS ⊢
  have hP : va_P (dC, dI) vwCl [(Ad0, .inr (8, Fs0)), (Ad1, .inr (11, s101)), (Ad2, .inl (Ka0, 512, .inl f102))] H := hP
  have hD : va_D A [(Ad0, .inr (8, Fs0)), (Ad1, .inr (11, s101)), (Ad2, .inl (Ka0, 512, .inl f102))] := hD
  have o_s101 := hw
  have o_s101 := ow_on o_Fs1 o_s101 (l' := [(11, .int 0), (1, .int 8), (17, .ref Ad2), (17, .ref Ad2), (10, .ref Br0)]) (w' := [11, 1]) rfl rfl
  refine lv_aload_n hx hb dX5_twinMember_8 rfl (lv_at hl 0 rfl) ?_
  refine lv_aload_n hx hb dX5_twinMember_9 rfl (lv_at hl 0 rfl) ?_
  refine va_get (D := (dC, dI)) (ci := 8) (v := .ref Ad1) (C := RX5) (T := TX5) (N := 21) hx hb hts (in_z_X5_twinMember_X5) hown hK hP 0 rfl rfl 20 (by decide) (hts (.fieldLink RX5 78 "HeapWorks$Picture" "shape" "LHeapWorks$Shape;") (by decide +kernel)) (fun _ h9 => h9) (ow_at o_Fs0 1 rfl) dX5_twinMember_10 ?_
  refine va_get (D := (dC, dI)) (ci := 11) (v := .ref Br0) (C := RX8) (T := TX8) (N := 18) hx hb hts (in_z_X5_twinMember_X8) hown hK hP 1 rfl rfl 10 (by decide) (hts (.fieldLink RX5 192 "HeapWorks$Shape" "twin" "[I") (by decide +kernel)) (fun _ h9 => h9) (ow_at o_s101 4 rfl) dX5_twinMember_13 ?_
  refine lv_iload_n hx hb dX5_twinMember_16 rfl (lv_at hl 1 rfl) ?_
  refine lv_iload_n hx hb dX5_twinMember_17 rfl (lv_at hl 2 rfl) ?_
  have hPc := hP.sub (ws' := [(Ad0, .inr (8, Fs0))]) [0] rfl
  have hDc := hD.sub (ws' := [(Ad0, .inr (8, Fs0))]) [0] (by decide) rfl
  have hKc := hK.sub (tys' := []) [] rfl
  have hFc := va_free (wc := [(Ad0, .inr (8, Fs0))]) hD hS hA [0] rfl
  refine va_calli (va_runV (As := [.ref Br0, .int Va0, .int Va1]) (rest := []) ⟨hx, hb, hml, hown, hts⟩ (z_X5_memberOf l dC dI H.size Ad0 Fs0 Br0 Va0 Va1 (fh_sub o_Fs0.2 [0] rfl) ) (cwV 3 hts g_z_X5_twinMember_z_X5_memberOf_185 rfl rfl rfl (by decide +kernel) ⟨Nat.le_of_ble_eq_true rfl, Nat.le_of_ble_eq_true rfl⟩) ⟨fun a U g mk q => by obtain ⟨q0, q1, qP, qK, qD⟩ := q; exact ⟨q0, q1, qP, va_K.moved (u := U) (U := U.calling g mk a) (Vm.Alike.refl U.vm) qK, qD⟩, va_recv hK hP (ci := 8) (q0 := 0) rfl rfl, fun U hU hW => ⟨rfl, by rw [hU], by rw [hU]; exact hPc, va_K.moved hW.alike hKc, hDc.weaken (fun _ _ _ _ => trivial)⟩⟩ rfl rfl hl.1 rfl (lv_room (Nat.le_of_ble_eq_true rfl)) dX5_twinMember_18 ⟨Nat.le_of_ble_eq_true rfl, Nat.le_of_ble_eq_true rfl⟩) hS (fun q _ h => hFc q h) hFc (fun r103 u t H1 locs ht hvm hw hB hz1 hk1 hS => ?_)
  obtain ⟨hP1, hK1, hD1⟩ := hB
  rw [ht] at hP1
  try dsimp only at hw
  obtain ⟨hP, hD⟩ := va_join (wr := [(Ad1, .inr (11, s101)), (Ad2, .inl (Ka0, 512, .inl f102))]) (w1 := [(Ad0, .inr (8, Fs0))]) hP hD [0] [1, 2] rfl rfl (by decide) (by decide) hk1 hFc hP1 hD1
  have hK := hK.sub (tys' := [(Ka0, .int)]) [0] rfl
  generalize H1 = H at hP hS ⊢
  have hP : va_P (dC, dI) vwCl [(Ad1, .inr (11, s101)), (Ad2, .inl (Ka0, 512, .inl f102)), (Ad0, .inr (8, Fs0))] H := hP
  have hD : va_D A [(Ad1, .inr (11, s101)), (Ad2, .inl (Ka0, 512, .inl f102)), (Ad0, .inr (8, Fs0))] := hD
  have er104 := hw
  subst er104
  have hP9 := hP.sub (ws' := [(Ad0, .inr (8, Fs0)), (Ad1, .inr (11, s101)), (Ad2, .inl (Ka0, 512, .inl f102))]) [2, 0, 1] rfl
  have hD9 := hD.sub (ws' := [(Ad0, .inr (8, Fs0)), (Ad1, .inr (11, s101)), (Ad2, .inl (Ka0, 512, .inl f102))]) [2, 0, 1] (by decide) rfl
  have hK9 := hK.sub (tys' := [(Ka0, .int)]) [0] rfl
  exact W.iret (v := (-1)) hx hb hr (fun t ht hW => ⟨⟨(-1), (s101, f102), rfl, ⟨rfl, o_s101⟩, by rw [ht]; exact hP9, va_K.moved hW.alike hK9, hD9⟩, hS.F ht⟩) hS.2.2 dX5_twinMember_21

def l_z_X5_ringMember : List Cond := [.fieldLink RX5 78 "HeapWorks$Picture" "shape" "LHeapWorks$Shape;", .methodLink RX5 176 yX8_needRings, .instanceMethod yX8_needRings, .selects RX8 yX8_needRings yX8_needRings, .initialized RX8, .fieldLink RX5 179 "HeapWorks$Shape" "ring" "[I", .methodLink RX5 185 yX5_memberOf, .instanceMethod yX5_memberOf, .selects RX5 yX5_memberOf yX5_memberOf, .initialized RX5, .code yX8_needRings cX8_needRings 4 none, .fieldLink RX8 60 "HeapWorks$Shape" "known" "I", .fieldLink RX8 64 "HeapWorks$Picture" "things" "I", .methodLink RX8 123 yX8_numberRings, .instanceMethod yX8_numberRings, .selects RX8 yX8_numberRings yX8_numberRings, .code yX8_numberRings cX8_numberRings 4 none, .fieldLink RX8 45 "HeapWorks$Shape" "low" "[I", .methodLink RX8 67 yJ7_fill_fda19, .static yJ7_fill_fda19, .initialized RJ7, .fieldLink RX8 51 "HeapWorks$Shape" "path" "[I", .fieldLink RX8 142 "HeapWorks$Shape" "rings" "I", .code yJ7_fill_fda19 cJ7_fill_fda19 5 none, .methodLink RJ7 13 yJ7_rangeCheck_23922, .static yJ7_rangeCheck_23922, .code yJ7_rangeCheck_23922 cJ7_rangeCheck_23922 3 none, .code yX5_memberOf cX5_memberOf 6 (some .int), .fieldLink RX5 82 "HeapWorks$Picture" "things" "I"]
def w_z_X5_ringMember : List Cond := .code yX5_ringMember cX5_ringMember 3 (some .int) :: (l_z_X5_ringMember ++ ((wsX50 ++ wsX80)))
theorem in_z_X5_ringMember_X5 : ∀ w ∈ wsX50, w ∈ w_z_X5_ringMember := fun w h => List.mem_cons_of_mem _ (List.mem_append_right _ (List.mem_append_left _ h))
theorem in_z_X5_ringMember_X8 : ∀ w ∈ wsX80, w ∈ w_z_X5_ringMember := fun w h => List.mem_cons_of_mem _ (List.mem_append_right _ (List.mem_append_right _ (h)))
theorem g_z_X5_ringMember_z_X8_needRings_176 : GoodIn w_z_X5_ringMember (wsV RX5 176 RX8 yX8_needRings w_z_X8_needRings) := goodIn_app (goodIn_r (([.methodLink RX5 176 yX8_needRings, .instanceMethod yX8_needRings, .selects RX8 yX8_needRings yX8_needRings, .initialized RX8] : List Cond)) [2, 3, 4, 5] rfl (by decide +kernel)) (goodIn_ca (goodIn_r (.code yX8_needRings cX8_needRings 4 none :: l_z_X8_needRings) [11, 12, 13, 14, 15, 16, 5, 17, 18, 19, 20, 21, 22, 23, 24, 25, 26, 27] rfl (by decide +kernel)) (goodIn_app (goodIn_in (in_z_X5_ringMember_X8) gd_X8) (goodIn_in (in_z_X5_ringMember_X5) gd_X5)))
theorem g_z_X5_ringMember_z_X5_memberOf_185 : GoodIn w_z_X5_ringMember (wsV RX5 185 RX5 yX5_memberOf w_z_X5_memberOf) := goodIn_app (goodIn_r (([.methodLink RX5 185 yX5_memberOf, .instanceMethod yX5_memberOf, .selects RX5 yX5_memberOf yX5_memberOf, .initialized RX5] : List Cond)) [7, 8, 9, 10] rfl (by decide +kernel)) (goodIn_ca (goodIn_r (.code yX5_memberOf cX5_memberOf 6 (some .int) :: l_z_X5_memberOf) [28, 29] rfl (by decide +kernel)) (goodIn_in (in_z_X5_ringMember_X5) gd_X5))
set_option maxHeartbeats 4000000 in
set_option maxRecDepth 100000 in
theorem z_X5_ringMember (l : Launch) (dC : Nat → ClassId) (dI : Nat → Nat → Nat) (sz : Nat) (Ad0 : Nat) (Fs0 : List Value) (Ad1 : Nat) (Fs1 : List Value) (Ad2 : Nat) (Fa0 : Nat → Int32) (Ka0 : ClassId) (Ad3 : Nat) (Fa1 : Nat → Int32) (Ka1 : ClassId) (Va0 : Int32) (Va1 : Int32) (Br0 : Nat) (k_Fs0 : fh Fs0 21 [(0, .int 0), (20, .ref Ad1)]) (k_Fs1 : fh Fs1 18 [(1, .int 0), (13, .ref Ad2), (15, .ref Ad3), (8, .ref Br0)])  : Met l yX5_ringMember w_z_X5_ringMember ({ frames := 4, cells := 0, slots := 0, locals := 92 }) (va_Pc [.ref Ad0, .int Va0, .int Va1] (fun U => U.heap.size = sz ∧ Wd dC dI [(Ka0, .int), (Ka1, .int)] (fun _ => True) [(Ad0, .inr (8, Fs0)), (Ad1, .inr (11, Fs1)), (Ad2, .inl (Ka0, 400, .inl Fa0)), (Ad3, .inl (Ka1, 400, .inl Fa1))] U)) (va_Qi (fun (r : Int32) (u : List Value) => (r = (-1) ∧ ow Fs1 (u) 18 [9, 1] [(9, .int 0), (13, .ref Ad2), (15, .ref Ad3), (1, .int 4), (13, .ref Ad2), (15, .ref Ad3), (13, .ref Ad2), (15, .ref Ad3), (8, .ref Br0)])) (fun (u : List Value) t => Wd dC dI [(Ka0, .int), (Ka1, .int)] (va_A [(Ad0, .inr (8, Fs0)), (Ad1, .inr (11, Fs1)), (Ad2, .inl (Ka0, 400, .inl Fa0)), (Ad3, .inl (Ka1, 400, .inl Fa1))] sz) [(Ad0, .inr (8, Fs0)), (Ad1, .inr (11, (u))), (Ad2, .inl (Ka0, 400, .inl Fa0)), (Ad3, .inl (Ka1, 400, .inl Fa1))] t) (va_A [(Ad0, .inr (8, Fs0)), (Ad1, .inr (11, Fs1)), (Ad2, .inl (Ka0, 400, .inl Fa0)), (Ad3, .inl (Ka1, 400, .inl Fa1))] sz))  0 0 (va_A [(Ad0, .inr (8, Fs0)), (Ad1, .inr (11, Fs1)), (Ad2, .inl (Ka0, 400, .inl Fa0)), (Ad3, .inl (Ka1, 400, .inl Fa1))] sz) := by
  refine Met.ofW (cc := cX5_ringMember) (maxL := 3) (ret := (some .int)) (by decide) rfl ?_
  intro p e s m args below meth c s₁ B hml hv
  obtain ⟨rfl, hsz, hP, hK, hD0⟩ := hv
  have hx := B.exec
  have hb := B.bytes
  have hr := B.returns
  have hts := atoms_spec (ws := w_z_X5_ringMember) B.pre
  have hown : s.vm.findClass RX5 = some m.cls := findClass_of_methodNamed B.named
  have hlocks := B.notSynchronized
  subst hsz
  have hD := hD0.self (sz := s.heap.size)
  generalize hAe : va_A [(Ad0, .inr (8, Fs0)), (Ad1, .inr (11, Fs1)), (Ad2, .inl (Ka0, 400, .inl Fa0)), (Ad3, .inl (Ka1, 400, .inl Fa1))] s.heap.size = A at hD ⊢
  have hA : ∀ q : Nat, s.heap.size ≤ q → A q := fun q h => by rw [← hAe]; exact Or.inr h
  have hS : va_S A s.heap s.heap [] := va_S.rf
  have hl := lv_entry ([.ref Ad0, .int Va0, .int Va1]) (n := 3) (Nat.le_of_ble_eq_true rfl)
  rw [lg_entry_eq]
  generalize (lg_sl ([.ref Ad0, .int Va0, .int Va1]) ++ List.replicate (3 - (lg_sl ([.ref Ad0, .int Va0, .int Va1])).length) Slot.unset).toArray = ls at hl ⊢
  have hl : lv_has ls 3 [(0, .ref Ad0), (1, .int Va0), (2, .int Va1)] := hl
  have o_Fs0 := ow_0 k_Fs0
  have o_Fs1 := ow_0 k_Fs1
  refine lv_aload_n hx hb dX5_ringMember_0 rfl (lv_at hl 0 rfl) ?_
  refine va_get (D := (dC, dI)) (ci := 8) (v := .ref Ad1) (C := RX5) (T := TX5) (N := 21) hx hb hts (in_z_X5_ringMember_X5) hown hK hP 0 rfl rfl 20 (by decide) (hts (.fieldLink RX5 78 "HeapWorks$Picture" "shape" "LHeapWorks$Shape;") (by decide +kernel)) (fun _ h9 => h9) (ow_at o_Fs0 1 rfl) dX5_ringMember_1 ?_
  refine lv_aload_n hx hb dX5_ringMember_4 rfl (lv_at hl 0 rfl) ?_
  have hPc := hP.sub (ws' := [(Ad0, .inr (8, Fs0)), (Ad1, .inr (11, Fs1)), (Ad2, .inl (Ka0, 400, .inl Fa0)), (Ad3, .inl (Ka1, 400, .inl Fa1))]) [0, 1, 2, 3] rfl
  have hDc := hD.sub (ws' := [(Ad0, .inr (8, Fs0)), (Ad1, .inr (11, Fs1)), (Ad2, .inl (Ka0, 400, .inl Fa0)), (Ad3, .inl (Ka1, 400, .inl Fa1))]) [0, 1, 2, 3] (by decide) rfl
  have hKc := hK.sub (tys' := [(Ka0, .int), (Ka1, .int)]) [0, 1] rfl
  have hFc := va_free (wc := [(Ad0, .inr (8, Fs0)), (Ad1, .inr (11, Fs1)), (Ad2, .inl (Ka0, 400, .inl Fa0)), (Ad3, .inl (Ka1, 400, .inl Fa1))]) hD hS hA [0, 1, 2, 3] rfl
  refine va_callv (va_runV (As := [.ref Ad0]) (rest := []) ⟨hx, hb, hml, hown, hts⟩ (z_X8_needRings l dC dI s.heap.size Ad0 Fs0 Ad1 Fs1 Ad2 Fa0 Ka0 Ad3 Fa1 Ka1 (fh_sub o_Fs0.2 [0] rfl) (fh_sub o_Fs1.2 [0, 1, 2] rfl) ) (cwV 1 hts g_z_X5_ringMember_z_X8_needRings_176 rfl rfl rfl (by decide +kernel) ⟨Nat.le_of_ble_eq_true rfl, Nat.le_of_ble_eq_true rfl⟩) ⟨fun a U g mk q => by obtain ⟨q0, q1, qP, qK, qD⟩ := q; exact ⟨q0, q1, qP, va_K.moved (u := U) (U := U.calling g mk a) (Vm.Alike.refl U.vm) qK, qD⟩, va_recv hK hP (ci := 11) (q0 := 1) rfl rfl, fun U hU hW => ⟨rfl, by rw [hU], by rw [hU]; exact hPc, va_K.moved hW.alike hKc, hDc.weaken (fun _ _ _ _ => trivial)⟩⟩ rfl rfl hl.1 rfl (lv_room (Nat.le_of_ble_eq_true rfl)) dX5_ringMember_5 ⟨Nat.le_of_ble_eq_true rfl, Nat.le_of_ble_eq_true rfl⟩) hS (fun q _ h => hFc q h) hFc (fun u t H1 locs ht hvm hw hB hz1 hk1 hS => ?_)
  obtain ⟨s101, rfl⟩ : ∃ z, z = u := ⟨_, rfl⟩
  obtain ⟨hP1, hK1, hD1⟩ := hB
  rw [ht] at hP1
  try dsimp only at hw
  obtain ⟨hP, hD⟩ := va_join (wr := []) (w1 := [(Ad0, .inr (8, Fs0)), (Ad1, .inr (11, s101)), (Ad2, .inl (Ka0, 400, .inl Fa0)), (Ad3, .inl (Ka1, 400, .inl Fa1))]) hP hD [0, 1, 2, 3] [] rfl rfl (by decide) (by decide) hk1 hFc hP1 hD1
  have hK := hK.sub (tys' := [(Ka0, .int), (Ka1, .int)]) [0, 1] rfl
  generalize H1 = H at hP hS ⊢
  have hP : va_P (dC, dI) vwCl [(Ad0, .inr (8, Fs0)), (Ad1, .inr (11, s101)), (Ad2, .inl (Ka0, 400, .inl Fa0)), (Ad3, .inl (Ka1, 400, .inl Fa1))] H := hP
  have hD : va_D A [(Ad0, .inr (8, Fs0)), (Ad1, .inr (11, s101)), (Ad2, .inl (Ka0, 400, .inl Fa0)), (Ad3, .inl (Ka1, 400, .inl Fa1))] := hD
  have o_s101 := hw
  have o_s101 := ow_on o_Fs1 o_s101 (l' := [(9, .int 0), (13, .ref Ad2), (15, .ref Ad3), (1, .int 4), (13, .ref Ad2), (15, .ref Ad3), (13, .ref Ad2), (15, .ref Ad3), (8, .ref Br0)]) (w' := [9, 1]) rfl rfl
  refine lv_aload_n hx hb dX5_ringMember_8 rfl (lv_at hl 0 rfl) ?_
  refine lv_aload_n hx hb dX5_ringMember_9 rfl (lv_at hl 0 rfl) ?_
  refine va_get (D := (dC, dI)) (ci := 8) (v := .ref Ad1) (C := RX5) (T := TX5) (N := 21) hx hb hts (in_z_X5_ringMember_X5) hown hK hP 0 rfl rfl 20 (by decide) (hts (.fieldLink RX5 78 "HeapWorks$Picture" "shape" "LHeapWorks$Shape;") (by decide +kernel)) (fun _ h9 => h9) (ow_at o_Fs0 1 rfl) dX5_ringMember_10 ?_
  refine va_get (D := (dC, dI)) (ci := 11) (v := .ref Br0) (C := RX8) (T := TX8) (N := 18) hx hb hts (in_z_X5_ringMember_X8) hown hK hP 1 rfl rfl 8 (by decide) (hts (.fieldLink RX5 179 "HeapWorks$Shape" "ring" "[I") (by decide +kernel)) (fun _ h9 => h9) (ow_at o_s101 8 rfl) dX5_ringMember_13 ?_
  refine lv_iload_n hx hb dX5_ringMember_16 rfl (lv_at hl 1 rfl) ?_
  refine lv_iload_n hx hb dX5_ringMember_17 rfl (lv_at hl 2 rfl) ?_
  have hPc := hP.sub (ws' := [(Ad0, .inr (8, Fs0))]) [0] rfl
  have hDc := hD.sub (ws' := [(Ad0, .inr (8, Fs0))]) [0] (by decide) rfl
  have hKc := hK.sub (tys' := []) [] rfl
  have hFc := va_free (wc := [(Ad0, .inr (8, Fs0))]) hD hS hA [0] rfl
  refine va_calli (va_runV (As := [.ref Br0, .int Va0, .int Va1]) (rest := []) ⟨hx, hb, hml, hown, hts⟩ (z_X5_memberOf l dC dI H.size Ad0 Fs0 Br0 Va0 Va1 (fh_sub o_Fs0.2 [0] rfl) ) (cwV 3 hts g_z_X5_ringMember_z_X5_memberOf_185 rfl rfl rfl (by decide +kernel) ⟨Nat.le_of_ble_eq_true rfl, Nat.le_of_ble_eq_true rfl⟩) ⟨fun a U g mk q => by obtain ⟨q0, q1, qP, qK, qD⟩ := q; exact ⟨q0, q1, qP, va_K.moved (u := U) (U := U.calling g mk a) (Vm.Alike.refl U.vm) qK, qD⟩, va_recv hK hP (ci := 8) (q0 := 0) rfl rfl, fun U hU hW => ⟨rfl, by rw [hU], by rw [hU]; exact hPc, va_K.moved hW.alike hKc, hDc.weaken (fun _ _ _ _ => trivial)⟩⟩ rfl rfl hl.1 rfl (lv_room (Nat.le_of_ble_eq_true rfl)) dX5_ringMember_18 ⟨Nat.le_of_ble_eq_true rfl, Nat.le_of_ble_eq_true rfl⟩) hS (fun q _ h => hFc q h) hFc (fun r102 u t H1 locs ht hvm hw hB hz1 hk1 hS => ?_)
  obtain ⟨hP1, hK1, hD1⟩ := hB
  rw [ht] at hP1
  try dsimp only at hw
  obtain ⟨hP, hD⟩ := va_join (wr := [(Ad1, .inr (11, s101)), (Ad2, .inl (Ka0, 400, .inl Fa0)), (Ad3, .inl (Ka1, 400, .inl Fa1))]) (w1 := [(Ad0, .inr (8, Fs0))]) hP hD [0] [1, 2, 3] rfl rfl (by decide) (by decide) hk1 hFc hP1 hD1
  have hK := hK.sub (tys' := [(Ka0, .int), (Ka1, .int)]) [0, 1] rfl
  generalize H1 = H at hP hS ⊢
  have hP : va_P (dC, dI) vwCl [(Ad1, .inr (11, s101)), (Ad2, .inl (Ka0, 400, .inl Fa0)), (Ad3, .inl (Ka1, 400, .inl Fa1)), (Ad0, .inr (8, Fs0))] H := hP
  have hD : va_D A [(Ad1, .inr (11, s101)), (Ad2, .inl (Ka0, 400, .inl Fa0)), (Ad3, .inl (Ka1, 400, .inl Fa1)), (Ad0, .inr (8, Fs0))] := hD
  have er103 := hw
  subst er103
  have hP9 := hP.sub (ws' := [(Ad0, .inr (8, Fs0)), (Ad1, .inr (11, s101)), (Ad2, .inl (Ka0, 400, .inl Fa0)), (Ad3, .inl (Ka1, 400, .inl Fa1))]) [3, 0, 1, 2] rfl
  have hD9 := hD.sub (ws' := [(Ad0, .inr (8, Fs0)), (Ad1, .inr (11, s101)), (Ad2, .inl (Ka0, 400, .inl Fa0)), (Ad3, .inl (Ka1, 400, .inl Fa1))]) [3, 0, 1, 2] (by decide) rfl
  have hK9 := hK.sub (tys' := [(Ka0, .int), (Ka1, .int)]) [0, 1] rfl
  exact W.iret (v := (-1)) hx hb hr (fun t ht hW => ⟨⟨(-1), s101, rfl, ⟨rfl, o_s101⟩, by rw [ht]; exact hP9, va_K.moved hW.alike hK9, hD9⟩, hS.F ht⟩) hS.2.2 dX5_ringMember_21

def l_z_X11_member : List Cond := [.methodLink RX11 411 yX11_isPicture, .static yX11_isPicture, .initialized RX11, .classLink RX11 221 "java/util/NoSuchElementException", .initialized "java/util/NoSuchElementException", .fieldLink RX11 41 "HeapWorks" "pictures" "[LHeapWorks$Picture;", .methodLink RX11 435 yX5_twinMember, .instanceMethod yX5_twinMember, .selects RX5 yX5_twinMember yX5_twinMember, .initialized RX5, .methodLink RX11 432 yX5_ringMember, .instanceMethod yX5_ringMember, .selects RX5 yX5_ringMember yX5_ringMember, .code yX11_isPicture cX11_isPicture 1 (some .boolean), .code yX5_twinMember cX5_twinMember 3 (some .int), .fieldLink RX5 78 "HeapWorks$Picture" "shape" "LHeapWorks$Shape;", .methodLink RX5 189 yX8_needTwins, .instanceMethod yX8_needTwins, .selects RX8 yX8_needTwins yX8_needTwins, .initialized RX8, .fieldLink RX5 192 "HeapWorks$Shape" "twin" "[I", .methodLink RX5 185 yX5_memberOf, .instanceMethod yX5_memberOf, .selects RX5 yX5_memberOf yX5_memberOf, .code yX8_needTwins cX8_needTwins 6 none, .fieldLink RX8 60 "HeapWorks$Shape" "known" "I", .fieldLink RX8 57 "HeapWorks$Shape" "bucket" "[I", .methodLink RX8 149 yJ7_fill_53178, .static yJ7_fill_53178, .initialized RJ7, .fieldLink RX8 64 "HeapWorks$Picture" "things" "I", .fieldLink RX8 159 "HeapWorks$Shape" "twins" "I", .code yJ7_fill_53178 cJ7_fill_53178 4 none, .code yX5_memberOf cX5_memberOf 6 (some .int), .fieldLink RX5 82 "HeapWorks$Picture" "things" "I", .code yX5_ringMember cX5_ringMember 3 (some .int), .methodLink RX5 176 yX8_needRings, .instanceMethod yX8_needRings, .selects RX8 yX8_needRings yX8_needRings, .fieldLink RX5 179 "HeapWorks$Shape" "ring" "[I", .code yX8_needRings cX8_needRings 4 none, .methodLink RX8 123 yX8_numberRings, .instanceMethod yX8_numberRings, .selects RX8 yX8_numberRings yX8_numberRings, .code yX8_numberRings cX8_numberRings 4 none, .fieldLink RX8 45 "HeapWorks$Shape" "low" "[I", .methodLink RX8 67 yJ7_fill_fda19, .static yJ7_fill_fda19, .fieldLink RX8 51 "HeapWorks$Shape" "path" "[I", .fieldLink RX8 142 "HeapWorks$Shape" "rings" "I", .code yJ7_fill_fda19 cJ7_fill_fda19 5 none, .methodLink RJ7 13 yJ7_rangeCheck_23922, .static yJ7_rangeCheck_23922, .code yJ7_rangeCheck_23922 cJ7_rangeCheck_23922 3 none]
def w_z_X11_member : List Cond := .code yX11_member cX11_member 6 (some .int) :: (l_z_X11_member ++ ((((vx_at0 RX11 223 "java/util/NoSuchElementException" ["java/lang/RuntimeException", "java/lang/Exception"]).filter goodWord) ++ (wsX110 ++ (wsX50 ++ wsX80)))))
theorem in_z_X11_member_at0_X11_223 : ∀ w ∈ ((vx_at0 RX11 223 "java/util/NoSuchElementException" ["java/lang/RuntimeException", "java/lang/Exception"]).filter goodWord), w ∈ w_z_X11_member := fun w h => List.mem_cons_of_mem _ (List.mem_append_right _ (List.mem_append_left _ h))
theorem in_z_X11_member_X11 : ∀ w ∈ wsX110, w ∈ w_z_X11_member := fun w h => List.mem_cons_of_mem _ (List.mem_append_right _ (List.mem_append_right _ (List.mem_append_left _ h)))
theorem in_z_X11_member_X5 : ∀ w ∈ wsX50, w ∈ w_z_X11_member := fun w h => List.mem_cons_of_mem _ (List.mem_append_right _ (List.mem_append_right _ (List.mem_append_right _ (List.mem_append_left _ h))))
theorem in_z_X11_member_X8 : ∀ w ∈ wsX80, w ∈ w_z_X11_member := fun w h => List.mem_cons_of_mem _ (List.mem_append_right _ (List.mem_append_right _ (List.mem_append_right _ (List.mem_append_right _ (h)))))
theorem g_z_X11_member_z_X11_isPicture_411 : GoodIn w_z_X11_member (wsS RX11 411 yX11_isPicture w_z_X11_isPicture) := goodIn_app (goodIn_r (([.methodLink RX11 411 yX11_isPicture, .static yX11_isPicture, .initialized RX11] : List Cond)) [1, 2, 3] rfl (by decide +kernel)) (goodIn_r (.code yX11_isPicture cX11_isPicture 1 (some .boolean) :: l_z_X11_isPicture) [14] rfl (by decide +kernel))
theorem g_z_X11_member_z_X5_twinMember_435 : GoodIn w_z_X11_member (wsV RX11 435 RX5 yX5_twinMember w_z_X5_twinMember) := goodIn_app (goodIn_r (([.methodLink RX11 435 yX5_twinMember, .instanceMethod yX5_twinMember, .selects RX5 yX5_twinMember yX5_twinMember, .initialized RX5] : List Cond)) [7, 8, 9, 10] rfl (by decide +kernel)) (goodIn_ca (goodIn_r (.code yX5_twinMember cX5_twinMember 3 (some .int) :: l_z_X5_twinMember) [15, 16, 17, 18, 19, 20, 21, 22, 23, 24, 10, 25, 26, 27, 28, 29, 30, 31, 32, 33, 34, 35] rfl (by decide +kernel)) (goodIn_app (goodIn_in (in_z_X11_member_X5) gd_X5) (goodIn_in (in_z_X11_member_X8) gd_X8)))
theorem g_z_X11_member_z_X5_ringMember_432 : GoodIn w_z_X11_member (wsV RX11 432 RX5 yX5_ringMember w_z_X5_ringMember) := goodIn_app (goodIn_r (([.methodLink RX11 432 yX5_ringMember, .instanceMethod yX5_ringMember, .selects RX5 yX5_ringMember yX5_ringMember, .initialized RX5] : List Cond)) [11, 12, 13, 10] rfl (by decide +kernel)) (goodIn_ca (goodIn_r (.code yX5_ringMember cX5_ringMember 3 (some .int) :: l_z_X5_ringMember) [36, 16, 37, 38, 39, 20, 40, 22, 23, 24, 10, 41, 26, 31, 42, 43, 44, 45, 46, 47, 48, 30, 49, 50, 51, 52, 53, 54, 34, 35] rfl (by decide +kernel)) (goodIn_app (goodIn_in (in_z_X11_member_X5) gd_X5) (goodIn_in (in_z_X11_member_X8) gd_X8)))
set_option maxHeartbeats 4000000 in
set_option maxRecDepth 100000 in
theorem z_X11_member (l : Launch) (dC : Nat → ClassId) (dI : Nat → Nat → Nat) (sz : Nat) (Ad0 : Nat) (Fs0 : List Value) (Ad1 : Nat) (Fa0 : Nat → Option Nat) (Ka0 : ClassId) (Ad2 : Nat) (Fs1 : List Value) (Ad3 : Nat) (Fs2 : List Value) (Ad4 : Nat) (Fa1 : Nat → Int32) (Ka1 : ClassId) (Ad5 : Nat) (Fa2 : Nat → Int32) (Ka2 : ClassId) (Ad6 : Nat) (Fa3 : Nat → Int32) (Ka3 : ClassId) (Va0 : Int32) (Va1 : Int32) (Va2 : Int32) (Va3 : Int32) (Br0 : Nat) (Br1 : Nat) (k_Fs0 : fh Fs0 18 [(4, .ref Ad1)]) (k_Fs1 : fh Fs1 21 [(0, .int 0), (20, .ref Ad3)]) (k_Fs2 : fh Fs2 18 [(1, .int 0), (13, .ref Ad4), (15, .ref Ad5), (17, .ref Ad6), (8, .ref Br0), (10, .ref Br1)]) (hst : l.stackTraces = false) (hg0 : Fa0 Va0.toNatClampNeg = some Ad2) : vx_Met l yX11_member w_z_X11_member ({ frames := 7, cells := 1, slots := 6, locals := 140 }) (va_Pc [.ref Ad0, .int Va0, .int Va1, .int Va2, .int Va3] (fun U => U.heap.size = sz ∧ Zz (va_A [(Ad0, .inr (14, Fs0)), (Ad1, .inl (Ka0, 4, .inr (.inr (.inr (.inr Fa0))))), (Ad2, .inr (8, Fs1)), (Ad3, .inr (11, Fs2)), (Ad4, .inl (Ka1, 400, .inl Fa1)), (Ad5, .inl (Ka2, 400, .inl Fa2)), (Ad6, .inl (Ka3, 512, .inl Fa3))] sz) U ∧ Wd dC dI [(Ka0, .object "HeapWorks$Picture"), (Ka1, .int), (Ka2, .int), (Ka3, .int)] (fun _ => True) [(Ad0, .inr (14, Fs0)), (Ad1, .inl (Ka0, 4, .inr (.inr (.inr (.inr Fa0))))), (Ad2, .inr (8, Fs1)), (Ad3, .inr (11, Fs2)), (Ad4, .inl (Ka1, 400, .inl Fa1)), (Ad5, .inl (Ka2, 400, .inl Fa2)), (Ad6, .inl (Ka3, 512, .inl Fa3))] U)) (va_Qi (fun (r : Int32) (u : Unit) => False) (fun (u : Unit) t => Wd dC dI [(Ka0, .object "HeapWorks$Picture"), (Ka1, .int), (Ka2, .int), (Ka3, .int)] (va_A [(Ad0, .inr (14, Fs0)), (Ad1, .inl (Ka0, 4, .inr (.inr (.inr (.inr Fa0))))), (Ad2, .inr (8, Fs1)), (Ad3, .inr (11, Fs2)), (Ad4, .inl (Ka1, 400, .inl Fa1)), (Ad5, .inl (Ka2, 400, .inl Fa2)), (Ad6, .inl (Ka3, 512, .inl Fa3))] sz) [(Ad0, .inr (14, Fs0)), (Ad1, .inl (Ka0, 4, .inr (.inr (.inr (.inr Fa0))))), (Ad2, .inr (8, Fs1)), (Ad3, .inr (11, Fs2)), (Ad4, .inl (Ka1, 400, .inl Fa1)), (Ad5, .inl (Ka2, 400, .inl Fa2)), (Ad6, .inl (Ka3, 512, .inl Fa3))] t) (va_A [(Ad0, .inr (14, Fs0)), (Ad1, .inl (Ka0, 4, .inr (.inr (.inr (.inr Fa0))))), (Ad2, .inr (8, Fs1)), (Ad3, .inr (11, Fs2)), (Ad4, .inl (Ka1, 400, .inl Fa1)), (Ad5, .inl (Ka2, 400, .inl Fa2)), (Ad6, .inl (Ka3, 512, .inl Fa3))] sz)) (vx_X (fun _ : Unit => True) (fun E _ _ => (E = "java/util/NoSuchElementException" ∧ Va0 < 0) ∨ (E = "java/util/NoSuchElementException" ∧ ¬ Va0 < 0 ∧ 4 ≤ Va0) ∨ (E = "java/util/NoSuchElementException" ∧ ¬ Va0 < 0 ∧ ¬ 4 ≤ Va0 ∧ Va1 < 0) ∨ (E = "java/util/NoSuchElementException" ∧ ¬ Va0 < 0 ∧ ¬ 4 ≤ Va0 ∧ ¬ Va1 < 0 ∧ 1 < Va1) ∨ (E = "java/util/NoSuchElementException" ∧ ¬ Va0 < 0 ∧ ¬ 4 ≤ Va0 ∧ ¬ Va1 < 0 ∧ ¬ 1 < Va1 ∧ Va2 < 0) ∨ (E = "java/util/NoSuchElementException" ∧ ¬ Va0 < 0 ∧ ¬ 4 ≤ Va0 ∧ ¬ Va1 < 0 ∧ ¬ 1 < Va1 ∧ ¬ Va2 < 0 ∧ 0 ≤ Va3 ∧ ¬ Va1 = 0) ∨ (E = "java/util/NoSuchElementException" ∧ ¬ Va0 < 0 ∧ ¬ 4 ≤ Va0 ∧ ¬ Va1 < 0 ∧ ¬ 1 < Va1 ∧ ¬ Va2 < 0 ∧ 0 ≤ Va3 ∧ Va1 = 0) ∨ (E = "java/util/NoSuchElementException" ∧ ¬ Va0 < 0 ∧ ¬ 4 ≤ Va0 ∧ ¬ Va1 < 0 ∧ ¬ 1 < Va1 ∧ ¬ Va2 < 0 ∧ ¬ 0 ≤ Va3)) (va_A [(Ad0, .inr (14, Fs0)), (Ad1, .inl (Ka0, 4, .inr (.inr (.inr (.inr Fa0))))), (Ad2, .inr (8, Fs1)), (Ad3, .inr (11, Fs2)), (Ad4, .inl (Ka1, 400, .inl Fa1)), (Ad5, .inl (Ka2, 400, .inl Fa2)), (Ad6, .inl (Ka3, 512, .inl Fa3))] sz)) 1 6 (va_A [(Ad0, .inr (14, Fs0)), (Ad1, .inl (Ka0, 4, .inr (.inr (.inr (.inr Fa0))))), (Ad2, .inr (8, Fs1)), (Ad3, .inr (11, Fs2)), (Ad4, .inl (Ka1, 400, .inl Fa1)), (Ad5, .inl (Ka2, 400, .inl Fa2)), (Ad6, .inl (Ka3, 512, .inl Fa3))] sz) := by
  refine vx_ofW (cc := cX11_member) (maxL := 6) (ret := (some .int)) (by decide) rfl ?_
  intro p e s m args below meth c s₁ B hml htab hv
  obtain ⟨rfl, hsz, hZ, hP, hK, hD0⟩ := hv
  have hx := B.exec
  have hb := B.bytes
  have hr := B.returns
  have hts := atoms_spec (ws := w_z_X11_member) B.pre
  have hown : s.vm.findClass RX11 = some m.cls := findClass_of_methodNamed B.named
  have hlocks := B.notSynchronized
  subst hsz
  have hD := hD0.self (sz := s.heap.size)
  generalize hAe : va_A [(Ad0, .inr (14, Fs0)), (Ad1, .inl (Ka0, 4, .inr (.inr (.inr (.inr Fa0))))), (Ad2, .inr (8, Fs1)), (Ad3, .inr (11, Fs2)), (Ad4, .inl (Ka1, 400, .inl Fa1)), (Ad5, .inl (Ka2, 400, .inl Fa2)), (Ad6, .inl (Ka3, 512, .inl Fa3))] s.heap.size = A at hD hZ ⊢
  have hA : ∀ q : Nat, s.heap.size ≤ q → A q := fun q h => by rw [← hAe]; exact Or.inr h
  have hS : va_S A s.heap s.heap [] := va_S.rf
  have hl := lv_entry ([.ref Ad0, .int Va0, .int Va1, .int Va2, .int Va3]) (n := 6) (Nat.le_of_ble_eq_true rfl)
  rw [lg_entry_eq]
  generalize (lg_sl ([.ref Ad0, .int Va0, .int Va1, .int Va2, .int Va3]) ++ List.replicate (6 - (lg_sl ([.ref Ad0, .int Va0, .int Va1, .int Va2, .int Va3])).length) Slot.unset).toArray = ls at hl ⊢
  have hl : lv_has ls 6 [(0, .ref Ad0), (1, .int Va0), (2, .int Va1), (3, .int Va2), (4, .int Va3)] := hl
  have o_Fs0 := ow_0 k_Fs0
  have o_Fs1 := ow_0 k_Fs1
  have o_Fs2 := ow_0 k_Fs2
  refine lv_iload_n hx hb dX11_member_0 rfl (lv_at hl 1 rfl) ?_
  have hPc := hP.sub (ws' := []) [] rfl
  have hDc := hD.sub (ws' := []) [] (by decide) rfl
  have hKc := hK.sub (tys' := []) [] rfl
  have hFc := va_free (wc := []) hD hS hA [] rfl
  refine va_calli (va_runS (As := [.int Va0]) (rest := []) ⟨hx, hb, hml, hown, hts⟩ (z_X11_isPicture l dC dI s.heap.size Va0  ) (cwS 1 hts g_z_X11_member_z_X11_isPicture_411 rfl rfl rfl (by decide +kernel) ⟨Nat.le_of_ble_eq_true rfl, Nat.le_of_ble_eq_true rfl⟩) ⟨fun a U g mk q => by obtain ⟨q0, q1, qP, qK, qD⟩ := q; exact ⟨q0, q1, qP, va_K.moved (u := U) (U := U.calling g mk a) (Vm.Alike.refl U.vm) qK, qD⟩, fun U hU hW => ⟨rfl, by rw [hU], by rw [hU]; exact hPc, va_K.moved hW.alike hKc, hDc.weaken (fun _ _ _ _ => trivial)⟩⟩ rfl rfl hl.1 rfl (lv_room (Nat.le_of_ble_eq_true rfl)) dX11_member_1 ⟨Nat.le_of_ble_eq_true rfl, Nat.le_of_ble_eq_true rfl⟩) hS (fun q _ h => hFc q h) hFc (fun r101 u t H1 locs ht hvm hw hB hz1 hk1 hS => ?_)
  obtain ⟨hP1, hK1, hD1⟩ := hB
  rw [ht] at hP1
  try dsimp only at hw
  obtain ⟨hP, hD⟩ := va_join (wr := [(Ad0, .inr (14, Fs0)), (Ad1, .inl (Ka0, 4, .inr (.inr (.inr (.inr Fa0))))), (Ad2, .inr (8, Fs1)), (Ad3, .inr (11, Fs2)), (Ad4, .inl (Ka1, 400, .inl Fa1)), (Ad5, .inl (Ka2, 400, .inl Fa2)), (Ad6, .inl (Ka3, 512, .inl Fa3))]) (w1 := []) hP hD [] [0, 1, 2, 3, 4, 5, 6] rfl rfl (by decide) (by decide) hk1 hFc hP1 hD1
  have hK := hK.sub (tys' := [(Ka0, .object "HeapWorks$Picture"), (Ka1, .int), (Ka2, .int), (Ka3, .int)]) [0, 1, 2, 3] rfl
  generalize H1 = H at hP hS ⊢
  have hP : va_P (dC, dI) vwCl [(Ad0, .inr (14, Fs0)), (Ad1, .inl (Ka0, 4, .inr (.inr (.inr (.inr Fa0))))), (Ad2, .inr (8, Fs1)), (Ad3, .inr (11, Fs2)), (Ad4, .inl (Ka1, 400, .inl Fa1)), (Ad5, .inl (Ka2, 400, .inl Fa2)), (Ad6, .inl (Ka3, 512, .inl Fa3))] H := hP
  have hD : va_D A [(Ad0, .inr (14, Fs0)), (Ad1, .inl (Ka0, 4, .inr (.inr (.inr (.inr Fa0))))), (Ad2, .inr (8, Fs1)), (Ad3, .inr (11, Fs2)), (Ad4, .inl (Ka1, 400, .inl Fa1)), (Ad5, .inl (Ka2, 400, .inl Fa2)), (Ad6, .inl (Ka3, 512, .inl Fa3))] := hD
  rcases hw with ⟨c102, er103⟩ | ⟨c104, c105, er106⟩ | ⟨c107, c108, er109⟩
  · skip
    subst er103
    refine lv_if_eq (tgt := 25) hx hb dX11_member_4 (by decide) (fun c110 => ?_) (fun c110 => absurd c110 (by decide))
    exact vx_throw0 (names := ["java/lang/RuntimeException", "java/lang/Exception"]) hx hb hst hown (by decide +kernel) (by decide +kernel) (hts (.classLink RX11 221 "java/util/NoSuchElementException") (by decide +kernel)) (hts (.initialized "java/util/NoSuchElementException") (by decide +kernel)) (vx_hat (B := xB "java/util/NoSuchElementException") (fun w h => hts w ((in_z_X11_member_at0_X11_223) w h)) (by decide +kernel) (Zz_xB hZ (by decide))) (by decide +kernel) hZ.1 hZ.2.1 hS (hl.1.trans hml.symm) dX11_member_25 dX11_member_28 dX11_member_29 dX11_member_32 (fun x h => (htab x h).elim) (by decide) (Nat.le_of_ble_eq_true rfl) (Nat.le_of_ble_eq_true rfl) (Nat.le_of_ble_eq_true rfl) hlocks (fun t _ h1 h2 => ⟨(), trivial, (Or.inl ⟨rfl, c102⟩), xx_F hS h1 h2⟩) hS.2.2 (by decide) (by decide)
  · skip
    subst er106
    refine lv_if_eq (tgt := 25) hx hb dX11_member_4 (by decide) (fun c111 => ?_) (fun c111 => absurd c111 (by decide))
    exact vx_throw0 (names := ["java/lang/RuntimeException", "java/lang/Exception"]) hx hb hst hown (by decide +kernel) (by decide +kernel) (hts (.classLink RX11 221 "java/util/NoSuchElementException") (by decide +kernel)) (hts (.initialized "java/util/NoSuchElementException") (by decide +kernel)) (vx_hat (B := xB "java/util/NoSuchElementException") (fun w h => hts w ((in_z_X11_member_at0_X11_223) w h)) (by decide +kernel) (Zz_xB hZ (by decide))) (by decide +kernel) hZ.1 hZ.2.1 hS (hl.1.trans hml.symm) dX11_member_25 dX11_member_28 dX11_member_29 dX11_member_32 (fun x h => (htab x h).elim) (by decide) (Nat.le_of_ble_eq_true rfl) (Nat.le_of_ble_eq_true rfl) (Nat.le_of_ble_eq_true rfl) hlocks (fun t _ h1 h2 => ⟨(), trivial, (Or.inr (Or.inl ⟨rfl, c104, c105⟩)), xx_F hS h1 h2⟩) hS.2.2 (by decide) (by decide)
  · skip
    subst er109
    refine lv_if_eq (tgt := 25) hx hb dX11_member_4 (by decide) (fun c112 => absurd c112 (by decide)) (fun c112 => ?_)
    refine lv_iload_n hx hb dX11_member_7 rfl (lv_at hl 2 rfl) ?_
    refine lv_if_lt (tgt := 25) hx hb dX11_member_8 (by decide) (fun c113 => ?_) (fun c113 => ?_)
    · skip
      exact vx_throw0 (names := ["java/lang/RuntimeException", "java/lang/Exception"]) hx hb hst hown (by decide +kernel) (by decide +kernel) (hts (.classLink RX11 221 "java/util/NoSuchElementException") (by decide +kernel)) (hts (.initialized "java/util/NoSuchElementException") (by decide +kernel)) (vx_hat (B := xB "java/util/NoSuchElementException") (fun w h => hts w ((in_z_X11_member_at0_X11_223) w h)) (by decide +kernel) (Zz_xB hZ (by decide))) (by decide +kernel) hZ.1 hZ.2.1 hS (hl.1.trans hml.symm) dX11_member_25 dX11_member_28 dX11_member_29 dX11_member_32 (fun x h => (htab x h).elim) (by decide) (Nat.le_of_ble_eq_true rfl) (Nat.le_of_ble_eq_true rfl) (Nat.le_of_ble_eq_true rfl) hlocks (fun t _ h1 h2 => ⟨(), trivial, (Or.inr (Or.inr (Or.inl ⟨rfl, c107, c108, c113⟩))), xx_F hS h1 h2⟩) hS.2.2 (by decide) (by decide)
    · skip
      refine lv_iload_n hx hb dX11_member_11 rfl (lv_at hl 2 rfl) ?_
      refine lv_iconst (v := 1) hx hb dX11_member_12 (by decide) ?_
      refine lv_icmp_gt (tgt := 25) hx hb dX11_member_13 (by decide) (fun c114 => ?_) (fun c114 => ?_)
      · skip
        exact vx_throw0 (names := ["java/lang/RuntimeException", "java/lang/Exception"]) hx hb hst hown (by decide +kernel) (by decide +kernel) (hts (.classLink RX11 221 "java/util/NoSuchElementException") (by decide +kernel)) (hts (.initialized "java/util/NoSuchElementException") (by decide +kernel)) (vx_hat (B := xB "java/util/NoSuchElementException") (fun w h => hts w ((in_z_X11_member_at0_X11_223) w h)) (by decide +kernel) (Zz_xB hZ (by decide))) (by decide +kernel) hZ.1 hZ.2.1 hS (hl.1.trans hml.symm) dX11_member_25 dX11_member_28 dX11_member_29 dX11_member_32 (fun x h => (htab x h).elim) (by decide) (Nat.le_of_ble_eq_true rfl) (Nat.le_of_ble_eq_true rfl) (Nat.le_of_ble_eq_true rfl) hlocks (fun t _ h1 h2 => ⟨(), trivial, (Or.inr (Or.inr (Or.inr (Or.inl ⟨rfl, c107, c108, c113, c114⟩)))), xx_F hS h1 h2⟩) hS.2.2 (by decide) (by decide)
      · skip
        refine lv_iload_n hx hb dX11_member_16 rfl (lv_at hl 3 rfl) ?_
        refine lv_if_lt (tgt := 25) hx hb dX11_member_17 (by decide) (fun c115 => ?_) (fun c115 => ?_)
        · skip
          exact vx_throw0 (names := ["java/lang/RuntimeException", "java/lang/Exception"]) hx hb hst hown (by decide +kernel) (by decide +kernel) (hts (.classLink RX11 221 "java/util/NoSuchElementException") (by decide +kernel)) (hts (.initialized "java/util/NoSuchElementException") (by decide +kernel)) (vx_hat (B := xB "java/util/NoSuchElementException") (fun w h => hts w ((in_z_X11_member_at0_X11_223) w h)) (by decide +kernel) (Zz_xB hZ (by decide))) (by decide +kernel) hZ.1 hZ.2.1 hS (hl.1.trans hml.symm) dX11_member_25 dX11_member_28 dX11_member_29 dX11_member_32 (fun x h => (htab x h).elim) (by decide) (Nat.le_of_ble_eq_true rfl) (Nat.le_of_ble_eq_true rfl) (Nat.le_of_ble_eq_true rfl) hlocks (fun t _ h1 h2 => ⟨(), trivial, (Or.inr (Or.inr (Or.inr (Or.inr (Or.inl ⟨rfl, c107, c108, c113, c114, c115⟩))))), xx_F hS h1 h2⟩) hS.2.2 (by decide) (by decide)
        · skip
          refine lv_iload hx hb dX11_member_20 (lv_at hl 4 rfl) ?_
          refine lv_if_ge (tgt := 33) hx hb dX11_member_22 (by decide) (fun c116 => ?_) (fun c116 => ?_)
          · skip
            refine lv_iload_n hx hb dX11_member_33 rfl (lv_at hl 2 rfl) ?_
            refine lv_if_ne (tgt := 52) hx hb dX11_member_34 (by decide) (fun c117 => ?_) (fun c117 => ?_)
            · skip
              refine lv_aload_n hx hb dX11_member_52 rfl (lv_at hl 0 rfl) ?_
              refine va_get (D := (dC, dI)) (ci := 14) (v := .ref Ad1) (C := RX11) (T := TX11) (N := 18) hx hb hts (in_z_X11_member_X11) hown hK hP 0 rfl rfl 4 (by decide) (hts (.fieldLink RX11 41 "HeapWorks" "pictures" "[LHeapWorks$Picture;") (by decide +kernel)) (fun _ h9 => h9) (ow_at o_Fs0 0 rfl) dX11_member_53 ?_
              refine lv_iload_n hx hb dX11_member_56 rfl (lv_at hl 1 rfl) ?_
              refine va_aldq hx hb hK hP 1 0 rfl rfl (by rw [vp_in_iff]; (try simp only [i_lt, i_le, i_eq, kc_0, kc_4] at c107 c108); omega) dX11_member_57 ?_
              refine W.eq (g2 := F0 m 58 ls (.ref Ad2 :: [])) (by rw [hg0]; rfl) ?_
              refine lv_iload_n hx hb dX11_member_58 rfl (lv_at hl 3 rfl) ?_
              refine lv_iload hx hb dX11_member_59 (lv_at hl 4 rfl) ?_
              have hPc := hP.sub (ws' := [(Ad2, .inr (8, Fs1)), (Ad3, .inr (11, Fs2)), (Ad6, .inl (Ka3, 512, .inl Fa3))]) [2, 3, 6] rfl
              have hDc := hD.sub (ws' := [(Ad2, .inr (8, Fs1)), (Ad3, .inr (11, Fs2)), (Ad6, .inl (Ka3, 512, .inl Fa3))]) [2, 3, 6] (by decide) rfl
              have hKc := hK.sub (tys' := [(Ka3, .int)]) [3] rfl
              have hFc := va_free (wc := [(Ad2, .inr (8, Fs1)), (Ad3, .inr (11, Fs2)), (Ad6, .inl (Ka3, 512, .inl Fa3))]) hD hS hA [2, 3, 6] rfl
              refine va_calli (va_runV (As := [.int Va2, .int Va3]) (rest := []) ⟨hx, hb, hml, hown, hts⟩ (z_X5_twinMember l dC dI H.size Ad2 Fs1 Ad3 Fs2 Ad6 Fa3 Ka3 Va2 Va3 Br1 (fh_sub o_Fs1.2 [0, 1] rfl) (fh_sub o_Fs2.2 [0, 3, 5] rfl) ) (cwV 2 hts g_z_X11_member_z_X5_twinMember_435 rfl rfl rfl (by decide +kernel) ⟨Nat.le_of_ble_eq_true rfl, Nat.le_of_ble_eq_true rfl⟩) ⟨fun a U g mk q => by obtain ⟨q0, q1, qP, qK, qD⟩ := q; exact ⟨q0, q1, qP, va_K.moved (u := U) (U := U.calling g mk a) (Vm.Alike.refl U.vm) qK, qD⟩, va_recv hK hP (ci := 8) (q0 := 2) rfl rfl, fun U hU hW => ⟨rfl, by rw [hU], by rw [hU]; exact hPc, va_K.moved hW.alike hKc, hDc.weaken (fun _ _ _ _ => trivial)⟩⟩ rfl rfl hl.1 rfl (lv_room (Nat.le_of_ble_eq_true rfl)) dX11_member_61 ⟨Nat.le_of_ble_eq_true rfl, Nat.le_of_ble_eq_true rfl⟩) hS (fun q _ h => hFc q h) hFc (fun r118 u t H1 locs ht hvm hw hB hz1 hk1 hS => ?_)
              obtain ⟨s119, f120⟩ := u
              obtain ⟨hP1, hK1, hD1⟩ := hB
              rw [ht] at hP1
              try dsimp only at hw
              obtain ⟨hP, hD⟩ := va_join (wr := [(Ad0, .inr (14, Fs0)), (Ad1, .inl (Ka0, 4, .inr (.inr (.inr (.inr Fa0))))), (Ad4, .inl (Ka1, 400, .inl Fa1)), (Ad5, .inl (Ka2, 400, .inl Fa2))]) (w1 := [(Ad2, .inr (8, Fs1)), (Ad3, .inr (11, s119)), (Ad6, .inl (Ka3, 512, .inl f120))]) hP hD [2, 3, 6] [0, 1, 4, 5] rfl rfl (by decide) (by decide) hk1 hFc hP1 hD1
              have hK := hK.sub (tys' := [(Ka0, .object "HeapWorks$Picture"), (Ka1, .int), (Ka2, .int), (Ka3, .int)]) [0, 1, 2, 3] rfl
              generalize H1 = H at hP hS ⊢
              have hP : va_P (dC, dI) vwCl [(Ad0, .inr (14, Fs0)), (Ad1, .inl (Ka0, 4, .inr (.inr (.inr (.inr Fa0))))), (Ad4, .inl (Ka1, 400, .inl Fa1)), (Ad5, .inl (Ka2, 400, .inl Fa2)), (Ad2, .inr (8, Fs1)), (Ad3, .inr (11, s119)), (Ad6, .inl (Ka3, 512, .inl f120))] H := hP
              have hD : va_D A [(Ad0, .inr (14, Fs0)), (Ad1, .inl (Ka0, 4, .inr (.inr (.inr (.inr Fa0))))), (Ad4, .inl (Ka1, 400, .inl Fa1)), (Ad5, .inl (Ka2, 400, .inl Fa2)), (Ad2, .inr (8, Fs1)), (Ad3, .inr (11, s119)), (Ad6, .inl (Ka3, 512, .inl f120))] := hD
              obtain ⟨er121, o_s119⟩ := hw
              subst er121
              have o_s119 := ow_on o_Fs2 o_s119 (l' := [(11, .int 0), (1, .int 8), (17, .ref Ad6), (17, .ref Ad6), (10, .ref Br1), (13, .ref Ad4), (15, .ref Ad5), (17, .ref Ad6), (8, .ref Br0), (10, .ref Br1)]) (w' := [11, 1]) rfl rfl
              refine lv_istore (lv' := [(5, .int (-1)), (0, .ref Ad0), (1, .int Va0), (2, .int Va1), (3, .int Va2), (4, .int Va3)]) hx hb dX11_member_64 hl (by decide) rfl (fun ls hl => ?_)
              refine lv_iload hx hb dX11_member_66 (lv_at hl 0 rfl) ?_
              refine lv_iconst (v := (-1)) hx hb dX11_member_68 (by decide) ?_
              refine lv_icmp_ne (tgt := 80) hx hb dX11_member_69 (by decide) (fun c122 => absurd c122 (by decide)) (fun c122 => ?_)
              exact vx_throw0 (names := ["java/lang/RuntimeException", "java/lang/Exception"]) hx hb hst hown (by decide +kernel) (by decide +kernel) (hts (.classLink RX11 221 "java/util/NoSuchElementException") (by decide +kernel)) (hts (.initialized "java/util/NoSuchElementException") (by decide +kernel)) (vx_hat (B := xB "java/util/NoSuchElementException") (fun w h => hts w ((in_z_X11_member_at0_X11_223) w h)) (by decide +kernel) (Zz_xB hZ (by decide))) (by decide +kernel) hZ.1 hZ.2.1 hS (hl.1.trans hml.symm) dX11_member_72 dX11_member_75 dX11_member_76 dX11_member_79 (fun x h => (htab x h).elim) (by decide) (Nat.le_of_ble_eq_true rfl) (Nat.le_of_ble_eq_true rfl) (Nat.le_of_ble_eq_true rfl) hlocks (fun t _ h1 h2 => ⟨(), trivial, (Or.inr (Or.inr (Or.inr (Or.inr (Or.inr (Or.inl ⟨rfl, c107, c108, c113, c114, c115, c116, c117⟩)))))), xx_F hS h1 h2⟩) hS.2.2 (by decide) (by decide)
            · skip
              refine lv_aload_n hx hb dX11_member_37 rfl (lv_at hl 0 rfl) ?_
              refine va_get (D := (dC, dI)) (ci := 14) (v := .ref Ad1) (C := RX11) (T := TX11) (N := 18) hx hb hts (in_z_X11_member_X11) hown hK hP 0 rfl rfl 4 (by decide) (hts (.fieldLink RX11 41 "HeapWorks" "pictures" "[LHeapWorks$Picture;") (by decide +kernel)) (fun _ h9 => h9) (ow_at o_Fs0 0 rfl) dX11_member_38 ?_
              refine lv_iload_n hx hb dX11_member_41 rfl (lv_at hl 1 rfl) ?_
              refine va_aldq hx hb hK hP 1 0 rfl rfl (by rw [vp_in_iff]; (try simp only [i_lt, i_le, i_eq, kc_0, kc_4] at c107 c108); omega) dX11_member_42 ?_
              refine W.eq (g2 := F0 m 43 ls (.ref Ad2 :: [])) (by rw [hg0]; rfl) ?_
              refine lv_iload_n hx hb dX11_member_43 rfl (lv_at hl 3 rfl) ?_
              refine lv_iload hx hb dX11_member_44 (lv_at hl 4 rfl) ?_
              have hPc := hP.sub (ws' := [(Ad2, .inr (8, Fs1)), (Ad3, .inr (11, Fs2)), (Ad4, .inl (Ka1, 400, .inl Fa1)), (Ad5, .inl (Ka2, 400, .inl Fa2))]) [2, 3, 4, 5] rfl
              have hDc := hD.sub (ws' := [(Ad2, .inr (8, Fs1)), (Ad3, .inr (11, Fs2)), (Ad4, .inl (Ka1, 400, .inl Fa1)), (Ad5, .inl (Ka2, 400, .inl Fa2))]) [2, 3, 4, 5] (by decide) rfl
              have hKc := hK.sub (tys' := [(Ka1, .int), (Ka2, .int)]) [1, 2] rfl
              have hFc := va_free (wc := [(Ad2, .inr (8, Fs1)), (Ad3, .inr (11, Fs2)), (Ad4, .inl (Ka1, 400, .inl Fa1)), (Ad5, .inl (Ka2, 400, .inl Fa2))]) hD hS hA [2, 3, 4, 5] rfl
              refine va_calli (va_runV (As := [.int Va2, .int Va3]) (rest := []) ⟨hx, hb, hml, hown, hts⟩ (z_X5_ringMember l dC dI H.size Ad2 Fs1 Ad3 Fs2 Ad4 Fa1 Ka1 Ad5 Fa2 Ka2 Va2 Va3 Br0 (fh_sub o_Fs1.2 [0, 1] rfl) (fh_sub o_Fs2.2 [0, 1, 2, 4] rfl) ) (cwV 2 hts g_z_X11_member_z_X5_ringMember_432 rfl rfl rfl (by decide +kernel) ⟨Nat.le_of_ble_eq_true rfl, Nat.le_of_ble_eq_true rfl⟩) ⟨fun a U g mk q => by obtain ⟨q0, q1, qP, qK, qD⟩ := q; exact ⟨q0, q1, qP, va_K.moved (u := U) (U := U.calling g mk a) (Vm.Alike.refl U.vm) qK, qD⟩, va_recv hK hP (ci := 8) (q0 := 2) rfl rfl, fun U hU hW => ⟨rfl, by rw [hU], by rw [hU]; exact hPc, va_K.moved hW.alike hKc, hDc.weaken (fun _ _ _ _ => trivial)⟩⟩ rfl rfl hl.1 rfl (lv_room (Nat.le_of_ble_eq_true rfl)) dX11_member_46 ⟨Nat.le_of_ble_eq_true rfl, Nat.le_of_ble_eq_true rfl⟩) hS (fun q _ h => hFc q h) hFc (fun r123 u t H1 locs ht hvm hw hB hz1 hk1 hS => ?_)
              obtain ⟨s124, rfl⟩ : ∃ z, z = u := ⟨_, rfl⟩
              obtain ⟨hP1, hK1, hD1⟩ := hB
              rw [ht] at hP1
              try dsimp only at hw
              obtain ⟨hP, hD⟩ := va_join (wr := [(Ad0, .inr (14, Fs0)), (Ad1, .inl (Ka0, 4, .inr (.inr (.inr (.inr Fa0))))), (Ad6, .inl (Ka3, 512, .inl Fa3))]) (w1 := [(Ad2, .inr (8, Fs1)), (Ad3, .inr (11, s124)), (Ad4, .inl (Ka1, 400, .inl Fa1)), (Ad5, .inl (Ka2, 400, .inl Fa2))]) hP hD [2, 3, 4, 5] [0, 1, 6] rfl rfl (by decide) (by decide) hk1 hFc hP1 hD1
              have hK := hK.sub (tys' := [(Ka0, .object "HeapWorks$Picture"), (Ka3, .int), (Ka1, .int), (Ka2, .int)]) [0, 3, 1, 2] rfl
              generalize H1 = H at hP hS ⊢
              have hP : va_P (dC, dI) vwCl [(Ad0, .inr (14, Fs0)), (Ad1, .inl (Ka0, 4, .inr (.inr (.inr (.inr Fa0))))), (Ad6, .inl (Ka3, 512, .inl Fa3)), (Ad2, .inr (8, Fs1)), (Ad3, .inr (11, s124)), (Ad4, .inl (Ka1, 400, .inl Fa1)), (Ad5, .inl (Ka2, 400, .inl Fa2))] H := hP
              have hD : va_D A [(Ad0, .inr (14, Fs0)), (Ad1, .inl (Ka0, 4, .inr (.inr (.inr (.inr Fa0))))), (Ad6, .inl (Ka3, 512, .inl Fa3)), (Ad2, .inr (8, Fs1)), (Ad3, .inr (11, s124)), (Ad4, .inl (Ka1, 400, .inl Fa1)), (Ad5, .inl (Ka2, 400, .inl Fa2))] := hD
              obtain ⟨er125, o_s124⟩ := hw
              subst er125
              have o_s124 := ow_on o_Fs2 o_s124 (l' := [(9, .int 0), (13, .ref Ad4), (15, .ref Ad5), (1, .int 4), (13, .ref Ad4), (15, .ref Ad5), (13, .ref Ad4), (15, .ref Ad5), (8, .ref Br0), (13, .ref Ad4), (15, .ref Ad5), (17, .ref Ad6), (8, .ref Br0), (10, .ref Br1)]) (w' := [9, 1]) rfl rfl
              refine lv_goto (tgt := 64) hx hb dX11_member_49 (by decide) ?_
              refine lv_istore (lv' := [(5, .int (-1)), (0, .ref Ad0), (1, .int Va0), (2, .int Va1), (3, .int Va2), (4, .int Va3)]) hx hb dX11_member_64 hl (by decide) rfl (fun ls hl => ?_)
              refine lv_iload hx hb dX11_member_66 (lv_at hl 0 rfl) ?_
              refine lv_iconst (v := (-1)) hx hb dX11_member_68 (by decide) ?_
              refine lv_icmp_ne (tgt := 80) hx hb dX11_member_69 (by decide) (fun c126 => absurd c126 (by decide)) (fun c126 => ?_)
              exact vx_throw0 (names := ["java/lang/RuntimeException", "java/lang/Exception"]) hx hb hst hown (by decide +kernel) (by decide +kernel) (hts (.classLink RX11 221 "java/util/NoSuchElementException") (by decide +kernel)) (hts (.initialized "java/util/NoSuchElementException") (by decide +kernel)) (vx_hat (B := xB "java/util/NoSuchElementException") (fun w h => hts w ((in_z_X11_member_at0_X11_223) w h)) (by decide +kernel) (Zz_xB hZ (by decide))) (by decide +kernel) hZ.1 hZ.2.1 hS (hl.1.trans hml.symm) dX11_member_72 dX11_member_75 dX11_member_76 dX11_member_79 (fun x h => (htab x h).elim) (by decide) (Nat.le_of_ble_eq_true rfl) (Nat.le_of_ble_eq_true rfl) (Nat.le_of_ble_eq_true rfl) hlocks (fun t _ h1 h2 => ⟨(), trivial, (Or.inr (Or.inr (Or.inr (Or.inr (Or.inr (Or.inr (Or.inl ⟨rfl, c107, c108, c113, c114, c115, c116, c117⟩))))))), xx_F hS h1 h2⟩) hS.2.2 (by decide) (by decide)
          · skip
            exact vx_throw0 (names := ["java/lang/RuntimeException", "java/lang/Exception"]) hx hb hst hown (by decide +kernel) (by decide +kernel) (hts (.classLink RX11 221 "java/util/NoSuchElementException") (by decide +kernel)) (hts (.initialized "java/util/NoSuchElementException") (by decide +kernel)) (vx_hat (B := xB "java/util/NoSuchElementException") (fun w h => hts w ((in_z_X11_member_at0_X11_223) w h)) (by decide +kernel) (Zz_xB hZ (by decide))) (by decide +kernel) hZ.1 hZ.2.1 hS (hl.1.trans hml.symm) dX11_member_25 dX11_member_28 dX11_member_29 dX11_member_32 (fun x h => (htab x h).elim) (by decide) (Nat.le_of_ble_eq_true rfl) (Nat.le_of_ble_eq_true rfl) (Nat.le_of_ble_eq_true rfl) hlocks (fun t _ h1 h2 => ⟨(), trivial, (Or.inr (Or.inr (Or.inr (Or.inr (Or.inr (Or.inr (Or.inr (⟨rfl, c107, c108, c113, c114, c115, c116⟩)))))))), xx_F hS h1 h2⟩) hS.2.2 (by decide) (by decide)

def l_z_X11_choose : List Cond := [.methodLink RX11 359 yX11_isThing, .instanceMethod yX11_isThing, .selects RX11 yX11_isThing yX11_isThing, .initialized RX11, .code yX11_isThing cX11_isThing 3 (some .boolean), .methodLink RX11 411 yX11_isPicture, .static yX11_isPicture, .fieldLink RX11 41 "HeapWorks" "pictures" "[LHeapWorks$Picture;", .fieldLink RX11 356 "HeapWorks$Picture" "things" "I", .code yX11_isPicture cX11_isPicture 1 (some .boolean)]
def w_z_X11_choose : List Cond := .code yX11_choose cX11_choose 4 (some .boolean) :: (l_z_X11_choose ++ ((wsX110 ++ wsX50)))
theorem in_z_X11_choose_X11 : ∀ w ∈ wsX110, w ∈ w_z_X11_choose := fun w h => List.mem_cons_of_mem _ (List.mem_append_right _ (List.mem_append_left _ h))
theorem in_z_X11_choose_X5 : ∀ w ∈ wsX50, w ∈ w_z_X11_choose := fun w h => List.mem_cons_of_mem _ (List.mem_append_right _ (List.mem_append_right _ (h)))
theorem g_z_X11_choose_z_X11_isThing_359 : GoodIn w_z_X11_choose (wsV RX11 359 RX11 yX11_isThing w_z_X11_isThing) := goodIn_app (goodIn_r (([.methodLink RX11 359 yX11_isThing, .instanceMethod yX11_isThing, .selects RX11 yX11_isThing yX11_isThing, .initialized RX11] : List Cond)) [1, 2, 3, 4] rfl (by decide +kernel)) (goodIn_ca (goodIn_r (.code yX11_isThing cX11_isThing 3 (some .boolean) :: l_z_X11_isThing) [5, 6, 7, 4, 8, 9, 10] rfl (by decide +kernel)) (goodIn_app (goodIn_in (in_z_X11_choose_X11) gd_X11) (goodIn_in (in_z_X11_choose_X5) gd_X5)))
set_option maxHeartbeats 4000000 in
set_option maxRecDepth 100000 in
theorem z_X11_choose (l : Launch) (dC : Nat → ClassId) (dI : Nat → Nat → Nat) (sz : Nat) (Ad0 : Nat) (Fs0 : List Value) (Ad1 : Nat) (Fa0 : Nat → Option Nat) (Ka0 : ClassId) (Ad2 : Nat) (Fs1 : List Value) (Va0 : Int32) (Va1 : Int32) (k_Fs0 : fh Fs0 18 [(4, .ref Ad1)]) (k_Fs1 : fh Fs1 21 [(0, .int 0)]) (hg0 : Fa0 Va0.toNatClampNeg = some Ad2) : Met l yX11_choose w_z_X11_choose ({ frames := 2, cells := 0, slots := 0, locals := 42 }) (va_Pc [.ref Ad0, .int Va0, .int Va1, .int 0] (fun U => U.heap.size = sz ∧ Wd dC dI [(Ka0, .object "HeapWorks$Picture")] (fun _ => True) [(Ad0, .inr (14, Fs0)), (Ad1, .inl (Ka0, 4, .inr (.inr (.inr (.inr Fa0))))), (Ad2, .inr (8, Fs1))] U)) (va_Qi (fun (r : Int32) (u : Unit) => (Va0 < 0 ∧ r = 0) ∨ (¬ Va0 < 0 ∧ 4 ≤ Va0 ∧ r = 0) ∨ (¬ Va0 < 0 ∧ ¬ 4 ≤ Va0 ∧ Va1 < 0 ∧ r = 0) ∨ (¬ Va0 < 0 ∧ ¬ 4 ≤ Va0 ∧ ¬ Va1 < 0 ∧ 0 ≤ Va1 ∧ r = 0)) (fun (u : Unit) t => Wd dC dI [(Ka0, .object "HeapWorks$Picture")] (va_A [(Ad0, .inr (14, Fs0)), (Ad1, .inl (Ka0, 4, .inr (.inr (.inr (.inr Fa0))))), (Ad2, .inr (8, Fs1))] sz) [(Ad0, .inr (14, Fs0)), (Ad1, .inl (Ka0, 4, .inr (.inr (.inr (.inr Fa0))))), (Ad2, .inr (8, Fs1))] t) (va_A [(Ad0, .inr (14, Fs0)), (Ad1, .inl (Ka0, 4, .inr (.inr (.inr (.inr Fa0))))), (Ad2, .inr (8, Fs1))] sz))  0 0 (va_A [(Ad0, .inr (14, Fs0)), (Ad1, .inl (Ka0, 4, .inr (.inr (.inr (.inr Fa0))))), (Ad2, .inr (8, Fs1))] sz) := by
  refine Met.ofW (cc := cX11_choose) (maxL := 4) (ret := (some .boolean)) (by decide) rfl ?_
  intro p e s m args below meth c s₁ B hml hv
  obtain ⟨rfl, hsz, hP, hK, hD0⟩ := hv
  have hx := B.exec
  have hb := B.bytes
  have hr := B.returns
  have hts := atoms_spec (ws := w_z_X11_choose) B.pre
  have hown : s.vm.findClass RX11 = some m.cls := findClass_of_methodNamed B.named
  have hlocks := B.notSynchronized
  subst hsz
  have hD := hD0.self (sz := s.heap.size)
  generalize hAe : va_A [(Ad0, .inr (14, Fs0)), (Ad1, .inl (Ka0, 4, .inr (.inr (.inr (.inr Fa0))))), (Ad2, .inr (8, Fs1))] s.heap.size = A at hD ⊢
  have hA : ∀ q : Nat, s.heap.size ≤ q → A q := fun q h => by rw [← hAe]; exact Or.inr h
  have hS : va_S A s.heap s.heap [] := va_S.rf
  have hl := lv_entry ([.ref Ad0, .int Va0, .int Va1, .int 0]) (n := 4) (Nat.le_of_ble_eq_true rfl)
  rw [lg_entry_eq]
  generalize (lg_sl ([.ref Ad0, .int Va0, .int Va1, .int 0]) ++ List.replicate (4 - (lg_sl ([.ref Ad0, .int Va0, .int Va1, .int 0])).length) Slot.unset).toArray = ls at hl ⊢
  have hl : lv_has ls 4 [(0, .ref Ad0), (1, .int Va0), (2, .int Va1), (3, .int 0)] := hl
  have o_Fs0 := ow_0 k_Fs0
  have o_Fs1 := ow_0 k_Fs1
  refine lv_aload_n hx hb dX11_choose_0 rfl (lv_at hl 0 rfl) ?_
  refine lv_iload_n hx hb dX11_choose_1 rfl (lv_at hl 1 rfl) ?_
  refine lv_iload_n hx hb dX11_choose_2 rfl (lv_at hl 2 rfl) ?_
  have hPc := hP.sub (ws' := [(Ad0, .inr (14, Fs0)), (Ad1, .inl (Ka0, 4, .inr (.inr (.inr (.inr Fa0))))), (Ad2, .inr (8, Fs1))]) [0, 1, 2] rfl
  have hDc := hD.sub (ws' := [(Ad0, .inr (14, Fs0)), (Ad1, .inl (Ka0, 4, .inr (.inr (.inr (.inr Fa0))))), (Ad2, .inr (8, Fs1))]) [0, 1, 2] (by decide) rfl
  have hKc := hK.sub (tys' := [(Ka0, .object "HeapWorks$Picture")]) [0] rfl
  have hFc := va_free (wc := [(Ad0, .inr (14, Fs0)), (Ad1, .inl (Ka0, 4, .inr (.inr (.inr (.inr Fa0))))), (Ad2, .inr (8, Fs1))]) hD hS hA [0, 1, 2] rfl
  refine va_calli (va_runV (As := [.int Va0, .int Va1]) (rest := []) ⟨hx, hb, hml, hown, hts⟩ (z_X11_isThing l dC dI s.heap.size Ad0 Fs0 Ad1 Fa0 Ka0 Ad2 Fs1 Va0 Va1 (fh_sub o_Fs0.2 [0] rfl) (fh_sub o_Fs1.2 [0] rfl) hg0) (cwV 2 hts g_z_X11_choose_z_X11_isThing_359 rfl rfl rfl (by decide +kernel) ⟨Nat.le_of_ble_eq_true rfl, Nat.le_of_ble_eq_true rfl⟩) ⟨fun a U g mk q => by obtain ⟨q0, q1, qP, qK, qD⟩ := q; exact ⟨q0, q1, qP, va_K.moved (u := U) (U := U.calling g mk a) (Vm.Alike.refl U.vm) qK, qD⟩, va_recv hK hP (ci := 14) (q0 := 0) rfl rfl, fun U hU hW => ⟨rfl, by rw [hU], by rw [hU]; exact hPc, va_K.moved hW.alike hKc, hDc.weaken (fun _ _ _ _ => trivial)⟩⟩ rfl rfl hl.1 rfl (lv_room (Nat.le_of_ble_eq_true rfl)) dX11_choose_3 ⟨Nat.le_of_ble_eq_true rfl, Nat.le_of_ble_eq_true rfl⟩) hS (fun q _ h => hFc q h) hFc (fun r101 u t H1 locs ht hvm hw hB hz1 hk1 hS => ?_)
  obtain ⟨hP1, hK1, hD1⟩ := hB
  rw [ht] at hP1
  try dsimp only at hw
  obtain ⟨hP, hD⟩ := va_join (wr := []) (w1 := [(Ad0, .inr (14, Fs0)), (Ad1, .inl (Ka0, 4, .inr (.inr (.inr (.inr Fa0))))), (Ad2, .inr (8, Fs1))]) hP hD [0, 1, 2] [] rfl rfl (by decide) (by decide) hk1 hFc hP1 hD1
  have hK := hK.sub (tys' := [(Ka0, .object "HeapWorks$Picture")]) [0] rfl
  generalize H1 = H at hP hS ⊢
  have hP : va_P (dC, dI) vwCl [(Ad0, .inr (14, Fs0)), (Ad1, .inl (Ka0, 4, .inr (.inr (.inr (.inr Fa0))))), (Ad2, .inr (8, Fs1))] H := hP
  have hD : va_D A [(Ad0, .inr (14, Fs0)), (Ad1, .inl (Ka0, 4, .inr (.inr (.inr (.inr Fa0))))), (Ad2, .inr (8, Fs1))] := hD
  rcases hw with ⟨c102, er103⟩ | ⟨c104, c105, er106⟩ | ⟨c107, c108, c109, er110⟩ | ⟨c111, c112, c113, c114, er115⟩
  · skip
    subst er103
    refine lv_if_ne (tgt := 11) hx hb dX11_choose_6 (by decide) (fun c116 => absurd c116 (by decide)) (fun c116 => ?_)
    refine lv_iconst (v := 0) hx hb dX11_choose_9 (by decide) ?_
    have hP9 := hP.sub (ws' := [(Ad0, .inr (14, Fs0)), (Ad1, .inl (Ka0, 4, .inr (.inr (.inr (.inr Fa0))))), (Ad2, .inr (8, Fs1))]) [0, 1, 2] rfl
    have hD9 := hD.sub (ws' := [(Ad0, .inr (14, Fs0)), (Ad1, .inl (Ka0, 4, .inr (.inr (.inr (.inr Fa0))))), (Ad2, .inr (8, Fs1))]) [0, 1, 2] (by decide) rfl
    have hK9 := hK.sub (tys' := [(Ka0, .object "HeapWorks$Picture")]) [0] rfl
    exact W.zret (v := 0) hx hb hr rfl (fun t ht hW => ⟨⟨0, (), rfl, (Or.inl ⟨c102, rfl⟩), by rw [ht]; exact hP9, va_K.moved hW.alike hK9, hD9⟩, hS.F ht⟩) hS.2.2 dX11_choose_10
  · skip
    subst er106
    refine lv_if_ne (tgt := 11) hx hb dX11_choose_6 (by decide) (fun c117 => absurd c117 (by decide)) (fun c117 => ?_)
    refine lv_iconst (v := 0) hx hb dX11_choose_9 (by decide) ?_
    have hP9 := hP.sub (ws' := [(Ad0, .inr (14, Fs0)), (Ad1, .inl (Ka0, 4, .inr (.inr (.inr (.inr Fa0))))), (Ad2, .inr (8, Fs1))]) [0, 1, 2] rfl
    have hD9 := hD.sub (ws' := [(Ad0, .inr (14, Fs0)), (Ad1, .inl (Ka0, 4, .inr (.inr (.inr (.inr Fa0))))), (Ad2, .inr (8, Fs1))]) [0, 1, 2] (by decide) rfl
    have hK9 := hK.sub (tys' := [(Ka0, .object "HeapWorks$Picture")]) [0] rfl
    exact W.zret (v := 0) hx hb hr rfl (fun t ht hW => ⟨⟨0, (), rfl, (Or.inr (Or.inl ⟨c104, c105, rfl⟩)), by rw [ht]; exact hP9, va_K.moved hW.alike hK9, hD9⟩, hS.F ht⟩) hS.2.2 dX11_choose_10
  · skip
    subst er110
    refine lv_if_ne (tgt := 11) hx hb dX11_choose_6 (by decide) (fun c118 => absurd c118 (by decide)) (fun c118 => ?_)
    refine lv_iconst (v := 0) hx hb dX11_choose_9 (by decide) ?_
    have hP9 := hP.sub (ws' := [(Ad0, .inr (14, Fs0)), (Ad1, .inl (Ka0, 4, .inr (.inr (.inr (.inr Fa0))))), (Ad2, .inr (8, Fs1))]) [0, 1, 2] rfl
    have hD9 := hD.sub (ws' := [(Ad0, .inr (14, Fs0)), (Ad1, .inl (Ka0, 4, .inr (.inr (.inr (.inr Fa0))))), (Ad2, .inr (8, Fs1))]) [0, 1, 2] (by decide) rfl
    have hK9 := hK.sub (tys' := [(Ka0, .object "HeapWorks$Picture")]) [0] rfl
    exact W.zret (v := 0) hx hb hr rfl (fun t ht hW => ⟨⟨0, (), rfl, (Or.inr (Or.inr (Or.inl ⟨c107, c108, c109, rfl⟩))), by rw [ht]; exact hP9, va_K.moved hW.alike hK9, hD9⟩, hS.F ht⟩) hS.2.2 dX11_choose_10
  · skip
    subst er115
    refine lv_if_ne (tgt := 11) hx hb dX11_choose_6 (by decide) (fun c119 => absurd c119 (by decide)) (fun c119 => ?_)
    refine lv_iconst (v := 0) hx hb dX11_choose_9 (by decide) ?_
    have hP9 := hP.sub (ws' := [(Ad0, .inr (14, Fs0)), (Ad1, .inl (Ka0, 4, .inr (.inr (.inr (.inr Fa0))))), (Ad2, .inr (8, Fs1))]) [0, 1, 2] rfl
    have hD9 := hD.sub (ws' := [(Ad0, .inr (14, Fs0)), (Ad1, .inl (Ka0, 4, .inr (.inr (.inr (.inr Fa0))))), (Ad2, .inr (8, Fs1))]) [0, 1, 2] (by decide) rfl
    have hK9 := hK.sub (tys' := [(Ka0, .object "HeapWorks$Picture")]) [0] rfl
    exact W.zret (v := 0) hx hb hr rfl (fun t ht hW => ⟨⟨0, (), rfl, (Or.inr (Or.inr (Or.inr (⟨c111, c112, c113, c114, rfl⟩)))), by rw [ht]; exact hP9, va_K.moved hW.alike hK9, hD9⟩, hS.F ht⟩) hS.2.2 dX11_choose_10

def l_z_X11_choose_1 : List Cond := [.methodLink RX11 359 yX11_isThing, .instanceMethod yX11_isThing, .selects RX11 yX11_isThing yX11_isThing, .initialized RX11, .code yX11_isThing cX11_isThing 3 (some .boolean), .methodLink RX11 411 yX11_isPicture, .static yX11_isPicture, .fieldLink RX11 41 "HeapWorks" "pictures" "[LHeapWorks$Picture;", .fieldLink RX11 356 "HeapWorks$Picture" "things" "I", .code yX11_isPicture cX11_isPicture 1 (some .boolean)]
def w_z_X11_choose_1 : List Cond := .code yX11_choose cX11_choose 4 (some .boolean) :: (l_z_X11_choose_1 ++ ((wsX110 ++ wsX50)))
theorem in_z_X11_choose_1_X11 : ∀ w ∈ wsX110, w ∈ w_z_X11_choose_1 := fun w h => List.mem_cons_of_mem _ (List.mem_append_right _ (List.mem_append_left _ h))
theorem in_z_X11_choose_1_X5 : ∀ w ∈ wsX50, w ∈ w_z_X11_choose_1 := fun w h => List.mem_cons_of_mem _ (List.mem_append_right _ (List.mem_append_right _ (h)))
theorem g_z_X11_choose_1_z_X11_isThing_359 : GoodIn w_z_X11_choose_1 (wsV RX11 359 RX11 yX11_isThing w_z_X11_isThing) := goodIn_app (goodIn_r (([.methodLink RX11 359 yX11_isThing, .instanceMethod yX11_isThing, .selects RX11 yX11_isThing yX11_isThing, .initialized RX11] : List Cond)) [1, 2, 3, 4] rfl (by decide +kernel)) (goodIn_ca (goodIn_r (.code yX11_isThing cX11_isThing 3 (some .boolean) :: l_z_X11_isThing) [5, 6, 7, 4, 8, 9, 10] rfl (by decide +kernel)) (goodIn_app (goodIn_in (in_z_X11_choose_1_X11) gd_X11) (goodIn_in (in_z_X11_choose_1_X5) gd_X5)))
set_option maxHeartbeats 4000000 in
set_option maxRecDepth 100000 in
theorem z_X11_choose_1 (l : Launch) (dC : Nat → ClassId) (dI : Nat → Nat → Nat) (sz : Nat) (Ad0 : Nat) (Fs0 : List Value) (Ad1 : Nat) (Fa0 : Nat → Option Nat) (Ka0 : ClassId) (Ad2 : Nat) (Fs1 : List Value) (Va0 : Int32) (Va1 : Int32) (k_Fs0 : fh Fs0 18 [(4, .ref Ad1)]) (k_Fs1 : fh Fs1 21 [(0, .int 0)]) (hg0 : Fa0 Va0.toNatClampNeg = some Ad2) : Met l yX11_choose w_z_X11_choose_1 ({ frames := 2, cells := 0, slots := 0, locals := 42 }) (va_Pc [.ref Ad0, .int Va0, .int Va1, .int 1] (fun U => U.heap.size = sz ∧ Wd dC dI [(Ka0, .object "HeapWorks$Picture")] (fun _ => True) [(Ad0, .inr (14, Fs0)), (Ad1, .inl (Ka0, 4, .inr (.inr (.inr (.inr Fa0))))), (Ad2, .inr (8, Fs1))] U)) (va_Qi (fun (r : Int32) (u : Unit) => (Va0 < 0 ∧ r = 0) ∨ (¬ Va0 < 0 ∧ 4 ≤ Va0 ∧ r = 0) ∨ (¬ Va0 < 0 ∧ ¬ 4 ≤ Va0 ∧ Va1 < 0 ∧ r = 0) ∨ (¬ Va0 < 0 ∧ ¬ 4 ≤ Va0 ∧ ¬ Va1 < 0 ∧ 0 ≤ Va1 ∧ r = 0)) (fun (u : Unit) t => Wd dC dI [(Ka0, .object "HeapWorks$Picture")] (va_A [(Ad0, .inr (14, Fs0)), (Ad1, .inl (Ka0, 4, .inr (.inr (.inr (.inr Fa0))))), (Ad2, .inr (8, Fs1))] sz) [(Ad0, .inr (14, Fs0)), (Ad1, .inl (Ka0, 4, .inr (.inr (.inr (.inr Fa0))))), (Ad2, .inr (8, Fs1))] t) (va_A [(Ad0, .inr (14, Fs0)), (Ad1, .inl (Ka0, 4, .inr (.inr (.inr (.inr Fa0))))), (Ad2, .inr (8, Fs1))] sz))  0 0 (va_A [(Ad0, .inr (14, Fs0)), (Ad1, .inl (Ka0, 4, .inr (.inr (.inr (.inr Fa0))))), (Ad2, .inr (8, Fs1))] sz) := by
  refine Met.ofW (cc := cX11_choose) (maxL := 4) (ret := (some .boolean)) (by decide) rfl ?_
  intro p e s m args below meth c s₁ B hml hv
  obtain ⟨rfl, hsz, hP, hK, hD0⟩ := hv
  have hx := B.exec
  have hb := B.bytes
  have hr := B.returns
  have hts := atoms_spec (ws := w_z_X11_choose_1) B.pre
  have hown : s.vm.findClass RX11 = some m.cls := findClass_of_methodNamed B.named
  have hlocks := B.notSynchronized
  subst hsz
  have hD := hD0.self (sz := s.heap.size)
  generalize hAe : va_A [(Ad0, .inr (14, Fs0)), (Ad1, .inl (Ka0, 4, .inr (.inr (.inr (.inr Fa0))))), (Ad2, .inr (8, Fs1))] s.heap.size = A at hD ⊢
  have hA : ∀ q : Nat, s.heap.size ≤ q → A q := fun q h => by rw [← hAe]; exact Or.inr h
  have hS : va_S A s.heap s.heap [] := va_S.rf
  have hl := lv_entry ([.ref Ad0, .int Va0, .int Va1, .int 1]) (n := 4) (Nat.le_of_ble_eq_true rfl)
  rw [lg_entry_eq]
  generalize (lg_sl ([.ref Ad0, .int Va0, .int Va1, .int 1]) ++ List.replicate (4 - (lg_sl ([.ref Ad0, .int Va0, .int Va1, .int 1])).length) Slot.unset).toArray = ls at hl ⊢
  have hl : lv_has ls 4 [(0, .ref Ad0), (1, .int Va0), (2, .int Va1), (3, .int 1)] := hl
  have o_Fs0 := ow_0 k_Fs0
  have o_Fs1 := ow_0 k_Fs1
  refine lv_aload_n hx hb dX11_choose_0 rfl (lv_at hl 0 rfl) ?_
  refine lv_iload_n hx hb dX11_choose_1 rfl (lv_at hl 1 rfl) ?_
  refine lv_iload_n hx hb dX11_choose_2 rfl (lv_at hl 2 rfl) ?_
  have hPc := hP.sub (ws' := [(Ad0, .inr (14, Fs0)), (Ad1, .inl (Ka0, 4, .inr (.inr (.inr (.inr Fa0))))), (Ad2, .inr (8, Fs1))]) [0, 1, 2] rfl
  have hDc := hD.sub (ws' := [(Ad0, .inr (14, Fs0)), (Ad1, .inl (Ka0, 4, .inr (.inr (.inr (.inr Fa0))))), (Ad2, .inr (8, Fs1))]) [0, 1, 2] (by decide) rfl
  have hKc := hK.sub (tys' := [(Ka0, .object "HeapWorks$Picture")]) [0] rfl
  have hFc := va_free (wc := [(Ad0, .inr (14, Fs0)), (Ad1, .inl (Ka0, 4, .inr (.inr (.inr (.inr Fa0))))), (Ad2, .inr (8, Fs1))]) hD hS hA [0, 1, 2] rfl
  refine va_calli (va_runV (As := [.int Va0, .int Va1]) (rest := []) ⟨hx, hb, hml, hown, hts⟩ (z_X11_isThing l dC dI s.heap.size Ad0 Fs0 Ad1 Fa0 Ka0 Ad2 Fs1 Va0 Va1 (fh_sub o_Fs0.2 [0] rfl) (fh_sub o_Fs1.2 [0] rfl) hg0) (cwV 2 hts g_z_X11_choose_1_z_X11_isThing_359 rfl rfl rfl (by decide +kernel) ⟨Nat.le_of_ble_eq_true rfl, Nat.le_of_ble_eq_true rfl⟩) ⟨fun a U g mk q => by obtain ⟨q0, q1, qP, qK, qD⟩ := q; exact ⟨q0, q1, qP, va_K.moved (u := U) (U := U.calling g mk a) (Vm.Alike.refl U.vm) qK, qD⟩, va_recv hK hP (ci := 14) (q0 := 0) rfl rfl, fun U hU hW => ⟨rfl, by rw [hU], by rw [hU]; exact hPc, va_K.moved hW.alike hKc, hDc.weaken (fun _ _ _ _ => trivial)⟩⟩ rfl rfl hl.1 rfl (lv_room (Nat.le_of_ble_eq_true rfl)) dX11_choose_3 ⟨Nat.le_of_ble_eq_true rfl, Nat.le_of_ble_eq_true rfl⟩) hS (fun q _ h => hFc q h) hFc (fun r101 u t H1 locs ht hvm hw hB hz1 hk1 hS => ?_)
  obtain ⟨hP1, hK1, hD1⟩ := hB
  rw [ht] at hP1
  try dsimp only at hw
  obtain ⟨hP, hD⟩ := va_join (wr := []) (w1 := [(Ad0, .inr (14, Fs0)), (Ad1, .inl (Ka0, 4, .inr (.inr (.inr (.inr Fa0))))), (Ad2, .inr (8, Fs1))]) hP hD [0, 1, 2] [] rfl rfl (by decide) (by decide) hk1 hFc hP1 hD1
  have hK := hK.sub (tys' := [(Ka0, .object "HeapWorks$Picture")]) [0] rfl
  generalize H1 = H at hP hS ⊢
  have hP : va_P (dC, dI) vwCl [(Ad0, .inr (14, Fs0)), (Ad1, .inl (Ka0, 4, .inr (.inr (.inr (.inr Fa0))))), (Ad2, .inr (8, Fs1))] H := hP
  have hD : va_D A [(Ad0, .inr (14, Fs0)), (Ad1, .inl (Ka0, 4, .inr (.inr (.inr (.inr Fa0))))), (Ad2, .inr (8, Fs1))] := hD
  rcases hw with ⟨c102, er103⟩ | ⟨c104, c105, er106⟩ | ⟨c107, c108, c109, er110⟩ | ⟨c111, c112, c113, c114, er115⟩
  · skip
    subst er103
    refine lv_if_ne (tgt := 11) hx hb dX11_choose_6 (by decide) (fun c116 => absurd c116 (by decide)) (fun c116 => ?_)
    refine lv_iconst (v := 0) hx hb dX11_choose_9 (by decide) ?_
    have hP9 := hP.sub (ws' := [(Ad0, .inr (14, Fs0)), (Ad1, .inl (Ka0, 4, .inr (.inr (.inr (.inr Fa0))))), (Ad2, .inr (8, Fs1))]) [0, 1, 2] rfl
    have hD9 := hD.sub (ws' := [(Ad0, .inr (14, Fs0)), (Ad1, .inl (Ka0, 4, .inr (.inr (.inr (.inr Fa0))))), (Ad2, .inr (8, Fs1))]) [0, 1, 2] (by decide) rfl
    have hK9 := hK.sub (tys' := [(Ka0, .object "HeapWorks$Picture")]) [0] rfl
    exact W.zret (v := 0) hx hb hr rfl (fun t ht hW => ⟨⟨0, (), rfl, (Or.inl ⟨c102, rfl⟩), by rw [ht]; exact hP9, va_K.moved hW.alike hK9, hD9⟩, hS.F ht⟩) hS.2.2 dX11_choose_10
  · skip
    subst er106
    refine lv_if_ne (tgt := 11) hx hb dX11_choose_6 (by decide) (fun c117 => absurd c117 (by decide)) (fun c117 => ?_)
    refine lv_iconst (v := 0) hx hb dX11_choose_9 (by decide) ?_
    have hP9 := hP.sub (ws' := [(Ad0, .inr (14, Fs0)), (Ad1, .inl (Ka0, 4, .inr (.inr (.inr (.inr Fa0))))), (Ad2, .inr (8, Fs1))]) [0, 1, 2] rfl
    have hD9 := hD.sub (ws' := [(Ad0, .inr (14, Fs0)), (Ad1, .inl (Ka0, 4, .inr (.inr (.inr (.inr Fa0))))), (Ad2, .inr (8, Fs1))]) [0, 1, 2] (by decide) rfl
    have hK9 := hK.sub (tys' := [(Ka0, .object "HeapWorks$Picture")]) [0] rfl
    exact W.zret (v := 0) hx hb hr rfl (fun t ht hW => ⟨⟨0, (), rfl, (Or.inr (Or.inl ⟨c104, c105, rfl⟩)), by rw [ht]; exact hP9, va_K.moved hW.alike hK9, hD9⟩, hS.F ht⟩) hS.2.2 dX11_choose_10
  · skip
    subst er110
    refine lv_if_ne (tgt := 11) hx hb dX11_choose_6 (by decide) (fun c118 => absurd c118 (by decide)) (fun c118 => ?_)
    refine lv_iconst (v := 0) hx hb dX11_choose_9 (by decide) ?_
    have hP9 := hP.sub (ws' := [(Ad0, .inr (14, Fs0)), (Ad1, .inl (Ka0, 4, .inr (.inr (.inr (.inr Fa0))))), (Ad2, .inr (8, Fs1))]) [0, 1, 2] rfl
    have hD9 := hD.sub (ws' := [(Ad0, .inr (14, Fs0)), (Ad1, .inl (Ka0, 4, .inr (.inr (.inr (.inr Fa0))))), (Ad2, .inr (8, Fs1))]) [0, 1, 2] (by decide) rfl
    have hK9 := hK.sub (tys' := [(Ka0, .object "HeapWorks$Picture")]) [0] rfl
    exact W.zret (v := 0) hx hb hr rfl (fun t ht hW => ⟨⟨0, (), rfl, (Or.inr (Or.inr (Or.inl ⟨c107, c108, c109, rfl⟩))), by rw [ht]; exact hP9, va_K.moved hW.alike hK9, hD9⟩, hS.F ht⟩) hS.2.2 dX11_choose_10
  · skip
    subst er115
    refine lv_if_ne (tgt := 11) hx hb dX11_choose_6 (by decide) (fun c119 => absurd c119 (by decide)) (fun c119 => ?_)
    refine lv_iconst (v := 0) hx hb dX11_choose_9 (by decide) ?_
    have hP9 := hP.sub (ws' := [(Ad0, .inr (14, Fs0)), (Ad1, .inl (Ka0, 4, .inr (.inr (.inr (.inr Fa0))))), (Ad2, .inr (8, Fs1))]) [0, 1, 2] rfl
    have hD9 := hD.sub (ws' := [(Ad0, .inr (14, Fs0)), (Ad1, .inl (Ka0, 4, .inr (.inr (.inr (.inr Fa0))))), (Ad2, .inr (8, Fs1))]) [0, 1, 2] (by decide) rfl
    have hK9 := hK.sub (tys' := [(Ka0, .object "HeapWorks$Picture")]) [0] rfl
    exact W.zret (v := 0) hx hb hr rfl (fun t ht hW => ⟨⟨0, (), rfl, (Or.inr (Or.inr (Or.inr (⟨c111, c112, c113, c114, rfl⟩)))), by rw [ht]; exact hP9, va_K.moved hW.alike hK9, hD9⟩, hS.F ht⟩) hS.2.2 dX11_choose_10

def l_z_X5_findLost : List Cond := [.fieldLink RX5 64 "HeapWorks$Picture" "mark" "[I", .fieldLink RX5 82 "HeapWorks$Picture" "things" "I", .methodLink RX5 209 yJ7_fill_fda19, .static yJ7_fill_fda19, .initialized RJ7, .fieldLink RX5 86 "HeapWorks$Picture" "roots" "I", .fieldLink RX5 89 "HeapWorks$Picture" "lostCount" "I", .code yJ7_fill_fda19 cJ7_fill_fda19 5 none, .methodLink RJ7 13 yJ7_rangeCheck_23922, .static yJ7_rangeCheck_23922, .code yJ7_rangeCheck_23922 cJ7_rangeCheck_23922 3 none]
def w_z_X5_findLost : List Cond := .code yX5_findLost cX5_findLost 4 (some .int) :: (l_z_X5_findLost ++ (wsX50))
theorem in_z_X5_findLost_X5 : ∀ w ∈ wsX50, w ∈ w_z_X5_findLost := fun w h => List.mem_cons_of_mem _ (List.mem_append_right _ (h))
theorem g_z_X5_findLost_z_J7_fill_fda19_1_209 : GoodIn w_z_X5_findLost (va_wsS RX5 209 yJ7_fill_fda19 w_z_J7_fill_fda19_1) := goodIn_app (goodIn_r (([.methodLink RX5 209 yJ7_fill_fda19, .static yJ7_fill_fda19, .initialized RJ7] : List Cond)) [3, 4, 5] rfl (by decide +kernel)) (goodIn_r (.code yJ7_fill_fda19 cJ7_fill_fda19 5 none :: l_z_J7_fill_fda19_1) [8, 9, 10, 5, 11] rfl (by decide +kernel))
set_option maxHeartbeats 4000000 in
set_option maxRecDepth 100000 in
theorem z_X5_findLost (l : Launch) (dC : Nat → ClassId) (dI : Nat → Nat → Nat) (sz : Nat) (Ad0 : Nat) (Fs0 : List Value) (Ad1 : Nat) (Fa0 : Nat → Int32) (Ka0 : ClassId) (k_Fs0 : fh Fs0 21 [(0, .int 0), (11, .int 0), (16, .int 0), (17, .ref Ad1)])  : Met l yX5_findLost w_z_X5_findLost ({ frames := 2, cells := 0, slots := 0, locals := 46 }) (va_Pc [.ref Ad0] (fun U => U.heap.size = sz ∧ Wd dC dI [(Ka0, .int)] (fun _ => True) [(Ad0, .inr (8, Fs0)), (Ad1, .inl (Ka0, 400, .inl Fa0))] U)) (va_Qi (fun (r : Int32) (u : List Value) => (r = 0 ∧ ow Fs0 (u) 21 [16] [(16, .int 0), (0, .int 0), (11, .int 0), (17, .ref Ad1)])) (fun (u : List Value) t => Wd dC dI [(Ka0, .int)] (va_A [(Ad0, .inr (8, Fs0)), (Ad1, .inl (Ka0, 400, .inl Fa0))] sz) [(Ad0, .inr (8, (u))), (Ad1, .inl (Ka0, 400, .inl Fa0))] t) (va_A [(Ad0, .inr (8, Fs0)), (Ad1, .inl (Ka0, 400, .inl Fa0))] sz))  0 0 (va_A [(Ad0, .inr (8, Fs0)), (Ad1, .inl (Ka0, 400, .inl Fa0))] sz) := by
  refine Met.ofW (cc := cX5_findLost) (maxL := 4) (ret := (some .int)) (by decide) rfl ?_
  intro p e s m args below meth c s₁ B hml hv
  obtain ⟨rfl, hsz, hP, hK, hD0⟩ := hv
  have hx := B.exec
  have hb := B.bytes
  have hr := B.returns
  have hts := atoms_spec (ws := w_z_X5_findLost) B.pre
  have hown : s.vm.findClass RX5 = some m.cls := findClass_of_methodNamed B.named
  have hlocks := B.notSynchronized
  subst hsz
  have hD := hD0.self (sz := s.heap.size)
  generalize hAe : va_A [(Ad0, .inr (8, Fs0)), (Ad1, .inl (Ka0, 400, .inl Fa0))] s.heap.size = A at hD ⊢
  have hA : ∀ q : Nat, s.heap.size ≤ q → A q := fun q h => by rw [← hAe]; exact Or.inr h
  have hS : va_S A s.heap s.heap [] := va_S.rf
  have hl := lv_entry ([.ref Ad0]) (n := 4) (Nat.le_of_ble_eq_true rfl)
  rw [lg_entry_eq]
  generalize (lg_sl ([.ref Ad0]) ++ List.replicate (4 - (lg_sl ([.ref Ad0])).length) Slot.unset).toArray = ls at hl ⊢
  have hl : lv_has ls 4 [(0, .ref Ad0)] := hl
  have o_Fs0 := ow_0 k_Fs0
  refine lv_aload_n hx hb dX5_findLost_0 rfl (lv_at hl 0 rfl) ?_
  refine va_get (D := (dC, dI)) (ci := 8) (v := .ref Ad1) (C := RX5) (T := TX5) (N := 21) hx hb hts (in_z_X5_findLost_X5) hown hK hP 0 rfl rfl 17 (by decide) (hts (.fieldLink RX5 64 "HeapWorks$Picture" "mark" "[I") (by decide +kernel)) (fun _ h9 => h9) (ow_at o_Fs0 3 rfl) dX5_findLost_1 ?_
  refine lv_iconst (v := 0) hx hb dX5_findLost_4 (by decide) ?_
  refine lv_aload_n hx hb dX5_findLost_5 rfl (lv_at hl 0 rfl) ?_
  refine va_get (D := (dC, dI)) (ci := 8) (v := .int 0) (C := RX5) (T := TX5) (N := 21) hx hb hts (in_z_X5_findLost_X5) hown hK hP 0 rfl rfl 0 (by decide) (hts (.fieldLink RX5 82 "HeapWorks$Picture" "things" "I") (by decide +kernel)) (fun _ h9 => h9) (ow_at o_Fs0 0 rfl) dX5_findLost_6 ?_
  refine lv_iconst (v := 0) hx hb dX5_findLost_9 (by decide) ?_
  have hPc := hP.sub (ws' := [(Ad1, .inl (Ka0, 400, .inl Fa0))]) [1] rfl
  have hDc := hD.sub (ws' := [(Ad1, .inl (Ka0, 400, .inl Fa0))]) [1] (by decide) rfl
  have hKc := hK.sub (tys' := [(Ka0, .int)]) [0] rfl
  have hFc := va_free (wc := [(Ad1, .inl (Ka0, 400, .inl Fa0))]) hD hS hA [1] rfl
  refine va_callv (va_runS (As := [.ref Ad1, .int 0, .int 0, .int 0]) (rest := []) ⟨hx, hb, hml, hown, hts⟩ (z_J7_fill_fda19_1 l dC dI s.heap.size Ad1 Fa0 Ka0  ) (va_cwS 4 hts g_z_X5_findLost_z_J7_fill_fda19_1_209 rfl rfl rfl (by decide +kernel) ⟨Nat.le_of_ble_eq_true rfl, Nat.le_of_ble_eq_true rfl⟩) ⟨fun a U g mk q => by obtain ⟨q0, q1, qP, qK, qD⟩ := q; exact ⟨q0, q1, qP, va_K.moved (u := U) (U := U.calling g mk a) (Vm.Alike.refl U.vm) qK, qD⟩, fun U hU hW => ⟨rfl, by rw [hU], by rw [hU]; exact hPc, va_K.moved hW.alike hKc, hDc.weaken (fun _ _ _ _ => trivial)⟩⟩ rfl rfl hl.1 rfl (lv_room (Nat.le_of_ble_eq_true rfl)) dX5_findLost_10 ⟨Nat.le_of_ble_eq_true rfl, Nat.le_of_ble_eq_true rfl⟩) hS (fun q _ h => hFc q h) hFc (fun u t H1 locs ht hvm hw hB hz1 hk1 hS => ?_)
  obtain ⟨hP1, hK1, hD1⟩ := hB
  rw [ht] at hP1
  try dsimp only at hw
  obtain ⟨hP, hD⟩ := va_join (wr := [(Ad0, .inr (8, Fs0))]) (w1 := [(Ad1, .inl (Ka0, 400, .inl Fa0))]) hP hD [1] [0] rfl rfl (by decide) (by decide) hk1 hFc hP1 hD1
  have hK := hK.sub (tys' := [(Ka0, .int)]) [0] rfl
  generalize H1 = H at hP hS ⊢
  have hP : va_P (dC, dI) vwCl [(Ad0, .inr (8, Fs0)), (Ad1, .inl (Ka0, 400, .inl Fa0))] H := hP
  have hD : va_D A [(Ad0, .inr (8, Fs0)), (Ad1, .inl (Ka0, 400, .inl Fa0))] := hD
  refine lv_iconst (v := 0) hx hb dX5_findLost_13 (by decide) ?_
  refine lv_istore_n (lv' := [(1, .int 0), (0, .ref Ad0)]) hx hb dX5_findLost_14 rfl hl (by decide) rfl (fun ls hl => ?_)
  refine lv_iconst (v := 0) hx hb dX5_findLost_15 (by decide) ?_
  refine lv_istore_n (lv' := [(2, .int 0), (1, .int 0), (0, .ref Ad0)]) hx hb dX5_findLost_16 rfl hl (by decide) rfl (fun ls hl => ?_)
  refine lv_iload_n hx hb dX5_findLost_17 rfl (lv_at hl 0 rfl) ?_
  refine lv_aload_n hx hb dX5_findLost_18 rfl (lv_at hl 2 rfl) ?_
  refine va_get (D := (dC, dI)) (ci := 8) (v := .int 0) (C := RX5) (T := TX5) (N := 21) hx hb hts (in_z_X5_findLost_X5) hown hK hP 0 rfl rfl 11 (by decide) (hts (.fieldLink RX5 86 "HeapWorks$Picture" "roots" "I") (by decide +kernel)) (fun _ h9 => h9) (ow_at o_Fs0 1 rfl) dX5_findLost_19 ?_
  refine lv_icmp_ge (tgt := 43) hx hb dX5_findLost_22 (by decide) (fun c101 => ?_) (fun c101 => absurd c101 (by decide))
  refine lv_iconst (v := 0) hx hb dX5_findLost_43 (by decide) ?_
  refine lv_istore_n (lv' := [(2, .int 0), (1, .int 0), (0, .ref Ad0)]) hx hb dX5_findLost_44 rfl hl (by decide) rfl (fun ls hl => ?_)
  refine lv_iload_n hx hb dX5_findLost_45 rfl (lv_at hl 0 rfl) ?_
  refine lv_iload_n hx hb dX5_findLost_46 rfl (lv_at hl 1 rfl) ?_
  refine lv_icmp_ge (tgt := 126) hx hb dX5_findLost_47 (by decide) (fun c102 => ?_) (fun c102 => absurd c102 (by decide))
  refine lv_aload_n hx hb dX5_findLost_126 rfl (lv_at hl 2 rfl) ?_
  refine lv_iconst (v := 0) hx hb dX5_findLost_127 (by decide) ?_
  refine va_put (D := (dC, dI)) (ci := 8) (v := .int 0) (ty := .int) (C := RX5) (T := TX5) (N := 21) hx hb hts (in_z_X5_findLost_X5) tyX5 tyX5_ok nmX5 hown hK hP hD hS 0 rfl rfl 16 (by decide) (hts (.fieldLink RX5 89 "HeapWorks$Picture" "lostCount" "I") (by decide +kernel)) (fun _ h9 => h9) rfl (by decide +kernel) rfl rfl (by rw [o_Fs0.2.1]; decide) dX5_findLost_128 (fun H locs hP hD hS => ?_)
  have hP : va_P (dC, dI) vwCl [(Ad0, .inr (8, (Fs0.set 16 (.int 0)))), (Ad1, .inl (Ka0, 400, .inl Fa0))] H := hP
  have hD : va_D A [(Ad0, .inr (8, (Fs0.set 16 (.int 0)))), (Ad1, .inl (Ka0, 400, .inl Fa0))] := hD
  have o_s103 := ow_set o_Fs0 16 (.int 0) (by decide) (l' := [(16, .int 0), (0, .int 0), (11, .int 0), (17, .ref Ad1)]) (w' := [16]) rfl rfl
  generalize (Fs0.set 16 (.int 0)) = s103 at hP hD o_s103
  refine lv_iconst (v := 0) hx hb dX5_findLost_131 (by decide) ?_
  refine lv_istore_n (lv' := [(2, .int 0), (1, .int 0), (0, .ref Ad0)]) hx hb dX5_findLost_132 rfl hl (by decide) rfl (fun ls hl => ?_)
  refine lv_iload_n hx hb dX5_findLost_133 rfl (lv_at hl 0 rfl) ?_
  refine lv_aload_n hx hb dX5_findLost_134 rfl (lv_at hl 2 rfl) ?_
  refine va_get (D := (dC, dI)) (ci := 8) (v := .int 0) (C := RX5) (T := TX5) (N := 21) hx hb hts (in_z_X5_findLost_X5) hown hK hP 0 rfl rfl 0 (by decide) (hts (.fieldLink RX5 82 "HeapWorks$Picture" "things" "I") (by decide +kernel)) (fun _ h9 => h9) (ow_at o_s103 1 rfl) dX5_findLost_135 ?_
  refine lv_icmp_ge (tgt := 176) hx hb dX5_findLost_138 (by decide) (fun c104 => ?_) (fun c104 => absurd c104 (by decide))
  refine lv_aload_n hx hb dX5_findLost_176 rfl (lv_at hl 2 rfl) ?_
  refine va_get (D := (dC, dI)) (ci := 8) (v := .int 0) (C := RX5) (T := TX5) (N := 21) hx hb hts (in_z_X5_findLost_X5) hown hK hP 0 rfl rfl 16 (by decide) (hts (.fieldLink RX5 89 "HeapWorks$Picture" "lostCount" "I") (by decide +kernel)) (fun _ h9 => h9) (ow_at o_s103 0 rfl) dX5_findLost_177 ?_
  have hP9 := hP.sub (ws' := [(Ad0, .inr (8, s103)), (Ad1, .inl (Ka0, 400, .inl Fa0))]) [0, 1] rfl
  have hD9 := hD.sub (ws' := [(Ad0, .inr (8, s103)), (Ad1, .inl (Ka0, 400, .inl Fa0))]) [0, 1] (by decide) rfl
  have hK9 := hK.sub (tys' := [(Ka0, .int)]) [0] rfl
  exact W.iret (v := 0) hx hb hr (fun t ht hW => ⟨⟨0, s103, rfl, ⟨rfl, o_s103⟩, by rw [ht]; exact hP9, va_K.moved hW.alike hK9, hD9⟩, hS.F ht⟩) hS.2.2 dX5_findLost_180

def l_z_X11_lost : List Cond := [.methodLink RX11 353 yX11_needPicture, .static yX11_needPicture, .initialized RX11, .fieldLink RX11 41 "HeapWorks" "pictures" "[LHeapWorks$Picture;", .methodLink RX11 441 yX5_findLost, .instanceMethod yX5_findLost, .selects RX5 yX5_findLost yX5_findLost, .initialized RX5, .code yX11_needPicture cX11_needPicture 1 none, .methodLink RX11 411 yX11_isPicture, .static yX11_isPicture, .classLink RX11 120 "java/lang/IndexOutOfBoundsException", .initialized "java/lang/IndexOutOfBoundsException", .code yX11_isPicture cX11_isPicture 1 (some .boolean), .code yX5_findLost cX5_findLost 4 (some .int), .fieldLink RX5 64 "HeapWorks$Picture" "mark" "[I", .fieldLink RX5 82 "HeapWorks$Picture" "things" "I", .methodLink RX5 209 yJ7_fill_fda19, .static yJ7_fill_fda19, .initialized RJ7, .fieldLink RX5 86 "HeapWorks$Picture" "roots" "I", .fieldLink RX5 89 "HeapWorks$Picture" "lostCount" "I", .code yJ7_fill_fda19 cJ7_fill_fda19 5 none, .methodLink RJ7 13 yJ7_rangeCheck_23922, .static yJ7_rangeCheck_23922, .code yJ7_rangeCheck_23922 cJ7_rangeCheck_23922 3 none]
def w_z_X11_lost : List Cond := .code yX11_lost cX11_lost 2 (some .int) :: (l_z_X11_lost ++ ((wsX110 ++ (((vx_at0 RX11 122 "java/lang/IndexOutOfBoundsException" ["java/lang/RuntimeException", "java/lang/Exception"]).filter goodWord) ++ wsX50))))
theorem in_z_X11_lost_X11 : ∀ w ∈ wsX110, w ∈ w_z_X11_lost := fun w h => List.mem_cons_of_mem _ (List.mem_append_right _ (List.mem_append_left _ h))
theorem in_z_X11_lost_at0_X11_122 : ∀ w ∈ ((vx_at0 RX11 122 "java/lang/IndexOutOfBoundsException" ["java/lang/RuntimeException", "java/lang/Exception"]).filter goodWord), w ∈ w_z_X11_lost := fun w h => List.mem_cons_of_mem _ (List.mem_append_right _ (List.mem_append_right _ (List.mem_append_left _ h)))
theorem in_z_X11_lost_X5 : ∀ w ∈ wsX50, w ∈ w_z_X11_lost := fun w h => List.mem_cons_of_mem _ (List.mem_append_right _ (List.mem_append_right _ (List.mem_append_right _ (h))))
theorem g_z_X11_lost_z_X11_needPicture_353 : GoodIn w_z_X11_lost (wsS RX11 353 yX11_needPicture w_z_X11_needPicture) := goodIn_app (goodIn_r (([.methodLink RX11 353 yX11_needPicture, .static yX11_needPicture, .initialized RX11] : List Cond)) [1, 2, 3] rfl (by decide +kernel)) (goodIn_ca (goodIn_r (.code yX11_needPicture cX11_needPicture 1 none :: l_z_X11_needPicture) [9, 10, 11, 3, 12, 13, 14] rfl (by decide +kernel)) (goodIn_in (in_z_X11_lost_at0_X11_122) gd_at0_X11_122))
theorem g_z_X11_lost_z_X5_findLost_441 : GoodIn w_z_X11_lost (wsV RX11 441 RX5 yX5_findLost w_z_X5_findLost) := goodIn_app (goodIn_r (([.methodLink RX11 441 yX5_findLost, .instanceMethod yX5_findLost, .selects RX5 yX5_findLost yX5_findLost, .initialized RX5] : List Cond)) [5, 6, 7, 8] rfl (by decide +kernel)) (goodIn_ca (goodIn_r (.code yX5_findLost cX5_findLost 4 (some .int) :: l_z_X5_findLost) [15, 16, 17, 18, 19, 20, 21, 22, 23, 24, 25, 26] rfl (by decide +kernel)) (goodIn_in (in_z_X11_lost_X5) gd_X5))
set_option maxHeartbeats 4000000 in
set_option maxRecDepth 100000 in
theorem z_X11_lost (l : Launch) (dC : Nat → ClassId) (dI : Nat → Nat → Nat) (sz : Nat) (Ad0 : Nat) (Fs0 : List Value) (Ad1 : Nat) (Fa0 : Nat → Option Nat) (Ka0 : ClassId) (Ad2 : Nat) (Fs1 : List Value) (Ad3 : Nat) (Fa1 : Nat → Int32) (Ka1 : ClassId) (Va0 : Int32) (k_Fs0 : fh Fs0 18 [(4, .ref Ad1)]) (k_Fs1 : fh Fs1 21 [(0, .int 0), (11, .int 0), (16, .int 0), (17, .ref Ad3)]) (hst : l.stackTraces = false) (hg0 : Fa0 Va0.toNatClampNeg = some Ad2) : vx_Met l yX11_lost w_z_X11_lost ({ frames := 8, cells := 1, slots := 6, locals := 160 }) (va_Pc [.ref Ad0, .int Va0] (fun U => U.heap.size = sz ∧ Zz (va_A [(Ad0, .inr (14, Fs0)), (Ad1, .inl (Ka0, 4, .inr (.inr (.inr (.inr Fa0))))), (Ad2, .inr (8, Fs1)), (Ad3, .inl (Ka1, 400, .inl Fa1))] sz) U ∧ Wd dC dI [(Ka0, .object "HeapWorks$Picture"), (Ka1, .int)] (fun _ => True) [(Ad0, .inr (14, Fs0)), (Ad1, .inl (Ka0, 4, .inr (.inr (.inr (.inr Fa0))))), (Ad2, .inr (8, Fs1)), (Ad3, .inl (Ka1, 400, .inl Fa1))] U)) (va_Qi (fun (r : Int32) (u : List Value) => (¬ Va0 < 0 ∧ ¬ 4 ≤ Va0 ∧ r = 0 ∧ ow Fs1 (u) 21 [16] [(16, .int 0), (0, .int 0), (11, .int 0), (17, .ref Ad3), (0, .int 0), (11, .int 0), (17, .ref Ad3)])) (fun (u : List Value) t => Wd dC dI [(Ka0, .object "HeapWorks$Picture"), (Ka1, .int)] (va_A [(Ad0, .inr (14, Fs0)), (Ad1, .inl (Ka0, 4, .inr (.inr (.inr (.inr Fa0))))), (Ad2, .inr (8, Fs1)), (Ad3, .inl (Ka1, 400, .inl Fa1))] sz) [(Ad0, .inr (14, Fs0)), (Ad1, .inl (Ka0, 4, .inr (.inr (.inr (.inr Fa0))))), (Ad2, .inr (8, (u))), (Ad3, .inl (Ka1, 400, .inl Fa1))] t) (va_A [(Ad0, .inr (14, Fs0)), (Ad1, .inl (Ka0, 4, .inr (.inr (.inr (.inr Fa0))))), (Ad2, .inr (8, Fs1)), (Ad3, .inl (Ka1, 400, .inl Fa1))] sz)) (vx_X (fun _ : Unit => True) (fun E _ _ => (E = "java/lang/IndexOutOfBoundsException" ∧ Va0 < 0) ∨ (E = "java/lang/IndexOutOfBoundsException" ∧ ¬ Va0 < 0 ∧ 4 ≤ Va0)) (va_A [(Ad0, .inr (14, Fs0)), (Ad1, .inl (Ka0, 4, .inr (.inr (.inr (.inr Fa0))))), (Ad2, .inr (8, Fs1)), (Ad3, .inl (Ka1, 400, .inl Fa1))] sz)) 1 6 (va_A [(Ad0, .inr (14, Fs0)), (Ad1, .inl (Ka0, 4, .inr (.inr (.inr (.inr Fa0))))), (Ad2, .inr (8, Fs1)), (Ad3, .inl (Ka1, 400, .inl Fa1))] sz) := by
  refine vx_ofW (cc := cX11_lost) (maxL := 2) (ret := (some .int)) (by decide) rfl ?_
  intro p e s m args below meth c s₁ B hml htab hv
  obtain ⟨rfl, hsz, hZ, hP, hK, hD0⟩ := hv
  have hx := B.exec
  have hb := B.bytes
  have hr := B.returns
  have hts := atoms_spec (ws := w_z_X11_lost) B.pre
  have hown : s.vm.findClass RX11 = some m.cls := findClass_of_methodNamed B.named
  have hlocks := B.notSynchronized
  subst hsz
  have hD := hD0.self (sz := s.heap.size)
  generalize hAe : va_A [(Ad0, .inr (14, Fs0)), (Ad1, .inl (Ka0, 4, .inr (.inr (.inr (.inr Fa0))))), (Ad2, .inr (8, Fs1)), (Ad3, .inl (Ka1, 400, .inl Fa1))] s.heap.size = A at hD hZ ⊢
  have hA : ∀ q : Nat, s.heap.size ≤ q → A q := fun q h => by rw [← hAe]; exact Or.inr h
  have hS : va_S A s.heap s.heap [] := va_S.rf
  have hl := lv_entry ([.ref Ad0, .int Va0]) (n := 2) (Nat.le_of_ble_eq_true rfl)
  rw [lg_entry_eq]
  generalize (lg_sl ([.ref Ad0, .int Va0]) ++ List.replicate (2 - (lg_sl ([.ref Ad0, .int Va0])).length) Slot.unset).toArray = ls at hl ⊢
  have hl : lv_has ls 2 [(0, .ref Ad0), (1, .int Va0)] := hl
  have o_Fs0 := ow_0 k_Fs0
  have o_Fs1 := ow_0 k_Fs1
  refine lv_iload_n hx hb dX11_lost_0 rfl (lv_at hl 1 rfl) ?_
  have hPc := hP.sub (ws' := []) [] rfl
  have hDc := hD.sub (ws' := []) [] (by decide) rfl
  have hKc := hK.sub (tys' := []) [] rfl
  have hFc := va_free (wc := []) hD hS hA [] rfl
  refine vx_callv (vx_runS (As := [.int Va0]) (rest := []) ⟨hx, hb, hml, hown, hts⟩ (z_X11_needPicture l dC dI s.heap.size Va0  hst ) (cwS 1 hts g_z_X11_lost_z_X11_needPicture_353 rfl rfl rfl (by decide +kernel) ⟨Nat.le_of_ble_eq_true rfl, Nat.le_of_ble_eq_true rfl⟩) ⟨fun a U g mk q => by obtain ⟨q0, q1, qZ, qP, qK, qD⟩ := q; exact ⟨q0, q1, Zz_call qZ, qP, va_K.moved (u := U) (U := U.calling g mk a) (Vm.Alike.refl U.vm) qK, qD⟩, fun U hU hW => ⟨rfl, by rw [hU], Zz_go hZ hS hFc hU hW, by rw [hU]; exact hPc, va_K.moved hW.alike hKc, hDc.weaken (fun _ _ _ _ => trivial)⟩⟩ rfl rfl hl.1 rfl (lv_room (Nat.le_of_ble_eq_true rfl)) dX11_lost_1 ⟨Nat.le_of_ble_eq_true rfl, Nat.le_of_ble_eq_true rfl⟩) hS (fun q _ h => hFc q h) hFc (fun q _ h => hFc q h) (fun E ce q9 u t H1 locs ht hvm hpx hBX hz1 hk1 hS hce hcv hcl => ?_) (fun u t H1 locs ht hvm hw hB hz1 hk1 hS => ?_)
  · rcases hBX with ⟨rfl, c101⟩ | ⟨rfl, c102, c103⟩
    · exact vx_out (fun x h => (htab x h).elim) hlocks hce hcv hcl (fun t9 ht9 _ => ⟨(), trivial, (Or.inl ⟨rfl, c101⟩), hS.F ht9⟩) hS.2.2 (by decide) (by decide)
    · exact vx_out (fun x h => (htab x h).elim) hlocks hce hcv hcl (fun t9 ht9 _ => ⟨(), trivial, (Or.inr (⟨rfl, c102, c103⟩)), hS.F ht9⟩) hS.2.2 (by decide) (by decide)
  · skip
    obtain ⟨hP1, hK1, hD1⟩ := hB
    rw [ht] at hP1
    try dsimp only at hw
    obtain ⟨hP, hD⟩ := va_join (wr := [(Ad0, .inr (14, Fs0)), (Ad1, .inl (Ka0, 4, .inr (.inr (.inr (.inr Fa0))))), (Ad2, .inr (8, Fs1)), (Ad3, .inl (Ka1, 400, .inl Fa1))]) (w1 := []) hP hD [] [0, 1, 2, 3] rfl rfl (by decide) (by decide) hk1 hFc hP1 hD1
    have hK := hK.sub (tys' := [(Ka0, .object "HeapWorks$Picture"), (Ka1, .int)]) [0, 1] rfl
    generalize H1 = H at hP hS ⊢
    refine W.widen (k := 1) (n := 6) (by omega) (by omega) ?_
    have hP : va_P (dC, dI) vwCl [(Ad0, .inr (14, Fs0)), (Ad1, .inl (Ka0, 4, .inr (.inr (.inr (.inr Fa0))))), (Ad2, .inr (8, Fs1)), (Ad3, .inl (Ka1, 400, .inl Fa1))] H := hP
    have hD : va_D A [(Ad0, .inr (14, Fs0)), (Ad1, .inl (Ka0, 4, .inr (.inr (.inr (.inr Fa0))))), (Ad2, .inr (8, Fs1)), (Ad3, .inl (Ka1, 400, .inl Fa1))] := hD
    obtain ⟨c104, c105⟩ := hw
    refine lv_aload_n hx hb dX11_lost_4 rfl (lv_at hl 0 rfl) ?_
    refine va_get (D := (dC, dI)) (ci := 14) (v := .ref Ad1) (C := RX11) (T := TX11) (N := 18) hx hb hts (in_z_X11_lost_X11) hown hK hP 0 rfl rfl 4 (by decide) (hts (.fieldLink RX11 41 "HeapWorks" "pictures" "[LHeapWorks$Picture;") (by decide +kernel)) (fun _ h9 => h9) (ow_at o_Fs0 0 rfl) dX11_lost_5 ?_
    refine lv_iload_n hx hb dX11_lost_8 rfl (lv_at hl 1 rfl) ?_
    refine va_aldq hx hb hK hP 1 0 rfl rfl (by rw [vp_in_iff]; (try simp only [i_lt, i_le, i_eq, kc_0, kc_4] at c104 c105); omega) dX11_lost_9 ?_
    refine W.eq (g2 := F0 m 10 ls (.ref Ad2 :: [])) (by rw [hg0]; rfl) ?_
    have hPc := hP.sub (ws' := [(Ad2, .inr (8, Fs1)), (Ad3, .inl (Ka1, 400, .inl Fa1))]) [2, 3] rfl
    have hDc := hD.sub (ws' := [(Ad2, .inr (8, Fs1)), (Ad3, .inl (Ka1, 400, .inl Fa1))]) [2, 3] (by decide) rfl
    have hKc := hK.sub (tys' := [(Ka1, .int)]) [1] rfl
    have hFc := va_free (wc := [(Ad2, .inr (8, Fs1)), (Ad3, .inl (Ka1, 400, .inl Fa1))]) hD hS hA [2, 3] rfl
    refine va_calli (va_runV (As := []) (rest := []) ⟨hx, hb, hml, hown, hts⟩ (z_X5_findLost l dC dI H.size Ad2 Fs1 Ad3 Fa1 Ka1 (fh_sub o_Fs1.2 [0, 1, 2, 3] rfl) ) (cwV 0 hts g_z_X11_lost_z_X5_findLost_441 rfl rfl rfl (by decide +kernel) ⟨Nat.le_of_ble_eq_true rfl, Nat.le_of_ble_eq_true rfl⟩) ⟨fun a U g mk q => by obtain ⟨q0, q1, qP, qK, qD⟩ := q; exact ⟨q0, q1, qP, va_K.moved (u := U) (U := U.calling g mk a) (Vm.Alike.refl U.vm) qK, qD⟩, va_recv hK hP (ci := 8) (q0 := 2) rfl rfl, fun U hU hW => ⟨rfl, by rw [hU], by rw [hU]; exact hPc, va_K.moved hW.alike hKc, hDc.weaken (fun _ _ _ _ => trivial)⟩⟩ rfl rfl hl.1 rfl (lv_room (Nat.le_of_ble_eq_true rfl)) dX11_lost_10 ⟨Nat.le_of_ble_eq_true rfl, Nat.le_of_ble_eq_true rfl⟩) hS (fun q _ h => hFc q h) hFc (fun r106 u t H1 locs ht hvm hw hB hz1 hk1 hS => ?_)
    obtain ⟨s107, rfl⟩ : ∃ z, z = u := ⟨_, rfl⟩
    obtain ⟨hP1, hK1, hD1⟩ := hB
    rw [ht] at hP1
    try dsimp only at hw
    obtain ⟨hP, hD⟩ := va_join (wr := [(Ad0, .inr (14, Fs0)), (Ad1, .inl (Ka0, 4, .inr (.inr (.inr (.inr Fa0)))))]) (w1 := [(Ad2, .inr (8, s107)), (Ad3, .inl (Ka1, 400, .inl Fa1))]) hP hD [2, 3] [0, 1] rfl rfl (by decide) (by decide) hk1 hFc hP1 hD1
    have hK := hK.sub (tys' := [(Ka0, .object "HeapWorks$Picture"), (Ka1, .int)]) [0, 1] rfl
    generalize H1 = H at hP hS ⊢
    have hP : va_P (dC, dI) vwCl [(Ad0, .inr (14, Fs0)), (Ad1, .inl (Ka0, 4, .inr (.inr (.inr (.inr Fa0))))), (Ad2, .inr (8, s107)), (Ad3, .inl (Ka1, 400, .inl Fa1))] H := hP
    have hD : va_D A [(Ad0, .inr (14, Fs0)), (Ad1, .inl (Ka0, 4, .inr (.inr (.inr (.inr Fa0))))), (Ad2, .inr (8, s107)), (Ad3, .inl (Ka1, 400, .inl Fa1))] := hD
    obtain ⟨er108, o_s107⟩ := hw
    subst er108
    have o_s107 := ow_on o_Fs1 o_s107 (l' := [(16, .int 0), (0, .int 0), (11, .int 0), (17, .ref Ad3), (0, .int 0), (11, .int 0), (17, .ref Ad3)]) (w' := [16]) rfl rfl
    have hP9 := hP.sub (ws' := [(Ad0, .inr (14, Fs0)), (Ad1, .inl (Ka0, 4, .inr (.inr (.inr (.inr Fa0))))), (Ad2, .inr (8, s107)), (Ad3, .inl (Ka1, 400, .inl Fa1))]) [0, 1, 2, 3] rfl
    have hD9 := hD.sub (ws' := [(Ad0, .inr (14, Fs0)), (Ad1, .inl (Ka0, 4, .inr (.inr (.inr (.inr Fa0))))), (Ad2, .inr (8, s107)), (Ad3, .inl (Ka1, 400, .inl Fa1))]) [0, 1, 2, 3] (by decide) rfl
    have hK9 := hK.sub (tys' := [(Ka0, .object "HeapWorks$Picture"), (Ka1, .int)]) [0, 1] rfl
    refine vx_ret ?_
    refine W.widen (k := 1) (n := 6) (by decide) (by decide) ?_
    exact W.iret (v := 0) hx hb hr (fun t ht hW => ⟨⟨0, s107, rfl, ⟨c104, c105, rfl, o_s107⟩, by rw [ht]; exact hP9, va_K.moved hW.alike hK9, hD9⟩, hS.F ht⟩) hS.2.2 dX11_lost_13

def l_z_X11_lostThing : List Cond := [.methodLink RX11 411 yX11_isPicture, .static yX11_isPicture, .initialized RX11, .fieldLink RX11 41 "HeapWorks" "pictures" "[LHeapWorks$Picture;", .fieldLink RX11 444 "HeapWorks$Picture" "lostCount" "I", .code yX11_isPicture cX11_isPicture 1 (some .boolean)]
def w_z_X11_lostThing : List Cond := .code yX11_lostThing cX11_lostThing 3 (some .int) :: (l_z_X11_lostThing ++ ((wsX110 ++ wsX50)))
theorem in_z_X11_lostThing_X11 : ∀ w ∈ wsX110, w ∈ w_z_X11_lostThing := fun w h => List.mem_cons_of_mem _ (List.mem_append_right _ (List.mem_append_left _ h))
theorem in_z_X11_lostThing_X5 : ∀ w ∈ wsX50, w ∈ w_z_X11_lostThing := fun w h => List.mem_cons_of_mem _ (List.mem_append_right _ (List.mem_append_right _ (h)))
theorem g_z_X11_lostThing_z_X11_isPicture_411 : GoodIn w_z_X11_lostThing (wsS RX11 411 yX11_isPicture w_z_X11_isPicture) := goodIn_app (goodIn_r (([.methodLink RX11 411 yX11_isPicture, .static yX11_isPicture, .initialized RX11] : List Cond)) [1, 2, 3] rfl (by decide +kernel)) (goodIn_r (.code yX11_isPicture cX11_isPicture 1 (some .boolean) :: l_z_X11_isPicture) [6] rfl (by decide +kernel))
set_option maxHeartbeats 4000000 in
set_option maxRecDepth 100000 in
theorem z_X11_lostThing (l : Launch) (dC : Nat → ClassId) (dI : Nat → Nat → Nat) (sz : Nat) (Ad0 : Nat) (Fs0 : List Value) (Ad1 : Nat) (Fa0 : Nat → Option Nat) (Ka0 : ClassId) (Ad2 : Nat) (Fs1 : List Value) (Va0 : Int32) (Va1 : Int32) (k_Fs0 : fh Fs0 18 [(4, .ref Ad1)]) (k_Fs1 : fh Fs1 21 [(16, .int 0)]) (hg0 : Fa0 Va0.toNatClampNeg = some Ad2) : Met l yX11_lostThing w_z_X11_lostThing ({ frames := 1, cells := 0, slots := 0, locals := 20 }) (va_Pc [.ref Ad0, .int Va0, .int Va1] (fun U => U.heap.size = sz ∧ Wd dC dI [(Ka0, .object "HeapWorks$Picture")] (fun _ => True) [(Ad0, .inr (14, Fs0)), (Ad1, .inl (Ka0, 4, .inr (.inr (.inr (.inr Fa0))))), (Ad2, .inr (8, Fs1))] U)) (va_Qi (fun (r : Int32) (u : Unit) => (Va0 < 0 ∧ r = (-1)) ∨ (¬ Va0 < 0 ∧ 4 ≤ Va0 ∧ r = (-1)) ∨ (¬ Va0 < 0 ∧ ¬ 4 ≤ Va0 ∧ Va1 < 0 ∧ r = (-1)) ∨ (¬ Va0 < 0 ∧ ¬ 4 ≤ Va0 ∧ ¬ Va1 < 0 ∧ 0 ≤ Va1 ∧ r = (-1))) (fun (u : Unit) t => Wd dC dI [(Ka0, .object "HeapWorks$Picture")] (va_A [(Ad0, .inr (14, Fs0)), (Ad1, .inl (Ka0, 4, .inr (.inr (.inr (.inr Fa0))))), (Ad2, .inr (8, Fs1))] sz) [(Ad0, .inr (14, Fs0)), (Ad1, .inl (Ka0, 4, .inr (.inr (.inr (.inr Fa0))))), (Ad2, .inr (8, Fs1))] t) (va_A [(Ad0, .inr (14, Fs0)), (Ad1, .inl (Ka0, 4, .inr (.inr (.inr (.inr Fa0))))), (Ad2, .inr (8, Fs1))] sz))  0 0 (va_A [(Ad0, .inr (14, Fs0)), (Ad1, .inl (Ka0, 4, .inr (.inr (.inr (.inr Fa0))))), (Ad2, .inr (8, Fs1))] sz) := by
  refine Met.ofW (cc := cX11_lostThing) (maxL := 3) (ret := (some .int)) (by decide) rfl ?_
  intro p e s m args below meth c s₁ B hml hv
  obtain ⟨rfl, hsz, hP, hK, hD0⟩ := hv
  have hx := B.exec
  have hb := B.bytes
  have hr := B.returns
  have hts := atoms_spec (ws := w_z_X11_lostThing) B.pre
  have hown : s.vm.findClass RX11 = some m.cls := findClass_of_methodNamed B.named
  have hlocks := B.notSynchronized
  subst hsz
  have hD := hD0.self (sz := s.heap.size)
  generalize hAe : va_A [(Ad0, .inr (14, Fs0)), (Ad1, .inl (Ka0, 4, .inr (.inr (.inr (.inr Fa0))))), (Ad2, .inr (8, Fs1))] s.heap.size = A at hD ⊢
  have hA : ∀ q : Nat, s.heap.size ≤ q → A q := fun q h => by rw [← hAe]; exact Or.inr h
  have hS : va_S A s.heap s.heap [] := va_S.rf
  have hl := lv_entry ([.ref Ad0, .int Va0, .int Va1]) (n := 3) (Nat.le_of_ble_eq_true rfl)
  rw [lg_entry_eq]
  generalize (lg_sl ([.ref Ad0, .int Va0, .int Va1]) ++ List.replicate (3 - (lg_sl ([.ref Ad0, .int Va0, .int Va1])).length) Slot.unset).toArray = ls at hl ⊢
  have hl : lv_has ls 3 [(0, .ref Ad0), (1, .int Va0), (2, .int Va1)] := hl
  have o_Fs0 := ow_0 k_Fs0
  have o_Fs1 := ow_0 k_Fs1
  refine lv_iload_n hx hb dX11_lostThing_0 rfl (lv_at hl 1 rfl) ?_
  have hPc := hP.sub (ws' := []) [] rfl
  have hDc := hD.sub (ws' := []) [] (by decide) rfl
  have hKc := hK.sub (tys' := []) [] rfl
  have hFc := va_free (wc := []) hD hS hA [] rfl
  refine va_calli (va_runS (As := [.int Va0]) (rest := []) ⟨hx, hb, hml, hown, hts⟩ (z_X11_isPicture l dC dI s.heap.size Va0  ) (cwS 1 hts g_z_X11_lostThing_z_X11_isPicture_411 rfl rfl rfl (by decide +kernel) ⟨Nat.le_of_ble_eq_true rfl, Nat.le_of_ble_eq_true rfl⟩) ⟨fun a U g mk q => by obtain ⟨q0, q1, qP, qK, qD⟩ := q; exact ⟨q0, q1, qP, va_K.moved (u := U) (U := U.calling g mk a) (Vm.Alike.refl U.vm) qK, qD⟩, fun U hU hW => ⟨rfl, by rw [hU], by rw [hU]; exact hPc, va_K.moved hW.alike hKc, hDc.weaken (fun _ _ _ _ => trivial)⟩⟩ rfl rfl hl.1 rfl (lv_room (Nat.le_of_ble_eq_true rfl)) dX11_lostThing_1 ⟨Nat.le_of_ble_eq_true rfl, Nat.le_of_ble_eq_true rfl⟩) hS (fun q _ h => hFc q h) hFc (fun r101 u t H1 locs ht hvm hw hB hz1 hk1 hS => ?_)
  obtain ⟨hP1, hK1, hD1⟩ := hB
  rw [ht] at hP1
  try dsimp only at hw
  obtain ⟨hP, hD⟩ := va_join (wr := [(Ad0, .inr (14, Fs0)), (Ad1, .inl (Ka0, 4, .inr (.inr (.inr (.inr Fa0))))), (Ad2, .inr (8, Fs1))]) (w1 := []) hP hD [] [0, 1, 2] rfl rfl (by decide) (by decide) hk1 hFc hP1 hD1
  have hK := hK.sub (tys' := [(Ka0, .object "HeapWorks$Picture")]) [0] rfl
  generalize H1 = H at hP hS ⊢
  have hP : va_P (dC, dI) vwCl [(Ad0, .inr (14, Fs0)), (Ad1, .inl (Ka0, 4, .inr (.inr (.inr (.inr Fa0))))), (Ad2, .inr (8, Fs1))] H := hP
  have hD : va_D A [(Ad0, .inr (14, Fs0)), (Ad1, .inl (Ka0, 4, .inr (.inr (.inr (.inr Fa0))))), (Ad2, .inr (8, Fs1))] := hD
  rcases hw with ⟨c102, er103⟩ | ⟨c104, c105, er106⟩ | ⟨c107, c108, er109⟩
  · skip
    subst er103
    refine lv_if_eq (tgt := 38) hx hb dX11_lostThing_4 (by decide) (fun c110 => ?_) (fun c110 => absurd c110 (by decide))
    refine lv_iconst (v := (-1)) hx hb dX11_lostThing_38 (by decide) ?_
    have hP9 := hP.sub (ws' := [(Ad0, .inr (14, Fs0)), (Ad1, .inl (Ka0, 4, .inr (.inr (.inr (.inr Fa0))))), (Ad2, .inr (8, Fs1))]) [0, 1, 2] rfl
    have hD9 := hD.sub (ws' := [(Ad0, .inr (14, Fs0)), (Ad1, .inl (Ka0, 4, .inr (.inr (.inr (.inr Fa0))))), (Ad2, .inr (8, Fs1))]) [0, 1, 2] (by decide) rfl
    have hK9 := hK.sub (tys' := [(Ka0, .object "HeapWorks$Picture")]) [0] rfl
    exact W.iret (v := (-1)) hx hb hr (fun t ht hW => ⟨⟨(-1), (), rfl, (Or.inl ⟨c102, rfl⟩), by rw [ht]; exact hP9, va_K.moved hW.alike hK9, hD9⟩, hS.F ht⟩) hS.2.2 dX11_lostThing_39
  · skip
    subst er106
    refine lv_if_eq (tgt := 38) hx hb dX11_lostThing_4 (by decide) (fun c111 => ?_) (fun c111 => absurd c111 (by decide))
    refine lv_iconst (v := (-1)) hx hb dX11_lostThing_38 (by decide) ?_
    have hP9 := hP.sub (ws' := [(Ad0, .inr (14, Fs0)), (Ad1, .inl (Ka0, 4, .inr (.inr (.inr (.inr Fa0))))), (Ad2, .inr (8, Fs1))]) [0, 1, 2] rfl
    have hD9 := hD.sub (ws' := [(Ad0, .inr (14, Fs0)), (Ad1, .inl (Ka0, 4, .inr (.inr (.inr (.inr Fa0))))), (Ad2, .inr (8, Fs1))]) [0, 1, 2] (by decide) rfl
    have hK9 := hK.sub (tys' := [(Ka0, .object "HeapWorks$Picture")]) [0] rfl
    exact W.iret (v := (-1)) hx hb hr (fun t ht hW => ⟨⟨(-1), (), rfl, (Or.inr (Or.inl ⟨c104, c105, rfl⟩)), by rw [ht]; exact hP9, va_K.moved hW.alike hK9, hD9⟩, hS.F ht⟩) hS.2.2 dX11_lostThing_39
  · skip
    subst er109
    refine lv_if_eq (tgt := 38) hx hb dX11_lostThing_4 (by decide) (fun c112 => absurd c112 (by decide)) (fun c112 => ?_)
    refine lv_iload_n hx hb dX11_lostThing_7 rfl (lv_at hl 2 rfl) ?_
    refine lv_if_lt (tgt := 38) hx hb dX11_lostThing_8 (by decide) (fun c113 => ?_) (fun c113 => ?_)
    · skip
      refine lv_iconst (v := (-1)) hx hb dX11_lostThing_38 (by decide) ?_
      have hP9 := hP.sub (ws' := [(Ad0, .inr (14, Fs0)), (Ad1, .inl (Ka0, 4, .inr (.inr (.inr (.inr Fa0))))), (Ad2, .inr (8, Fs1))]) [0, 1, 2] rfl
      have hD9 := hD.sub (ws' := [(Ad0, .inr (14, Fs0)), (Ad1, .inl (Ka0, 4, .inr (.inr (.inr (.inr Fa0))))), (Ad2, .inr (8, Fs1))]) [0, 1, 2] (by decide) rfl
      have hK9 := hK.sub (tys' := [(Ka0, .object "HeapWorks$Picture")]) [0] rfl
      exact W.iret (v := (-1)) hx hb hr (fun t ht hW => ⟨⟨(-1), (), rfl, (Or.inr (Or.inr (Or.inl ⟨c107, c108, c113, rfl⟩))), by rw [ht]; exact hP9, va_K.moved hW.alike hK9, hD9⟩, hS.F ht⟩) hS.2.2 dX11_lostThing_39
    · skip
      refine lv_iload_n hx hb dX11_lostThing_11 rfl (lv_at hl 2 rfl) ?_
      refine lv_aload_n hx hb dX11_lostThing_12 rfl (lv_at hl 0 rfl) ?_
      refine va_get (D := (dC, dI)) (ci := 14) (v := .ref Ad1) (C := RX11) (T := TX11) (N := 18) hx hb hts (in_z_X11_lostThing_X11) hown hK hP 0 rfl rfl 4 (by decide) (hts (.fieldLink RX11 41 "HeapWorks" "pictures" "[LHeapWorks$Picture;") (by decide +kernel)) (fun _ h9 => h9) (ow_at o_Fs0 0 rfl) dX11_lostThing_13 ?_
      refine lv_iload_n hx hb dX11_lostThing_16 rfl (lv_at hl 1 rfl) ?_
      refine va_aldq hx hb hK hP 1 0 rfl rfl (by rw [vp_in_iff]; (try simp only [i_lt, i_le, i_eq, kc_0, kc_4] at c107 c108); omega) dX11_lostThing_17 ?_
      refine W.eq (g2 := F0 m 18 ls (.ref Ad2 :: [.int Va1])) (by rw [hg0]; rfl) ?_
      refine va_get (D := (dC, dI)) (ci := 8) (v := .int 0) (C := RX5) (T := TX5) (N := 21) hx hb hts (in_z_X11_lostThing_X5) hown hK hP 2 rfl rfl 16 (by decide) (hts (.fieldLink RX11 444 "HeapWorks$Picture" "lostCount" "I") (by decide +kernel)) (fun _ h9 => h9) (ow_at o_Fs1 0 rfl) dX11_lostThing_18 ?_
      refine lv_icmp_ge (tgt := 38) hx hb dX11_lostThing_21 (by decide) (fun c114 => ?_) (fun c114 => (by exfalso; have bd_Va1 := i_bd Va1; (try simp only [i_lt, i_le, i_eq, kc_0] at c113 c114); omega))
      refine lv_iconst (v := (-1)) hx hb dX11_lostThing_38 (by decide) ?_
      have hP9 := hP.sub (ws' := [(Ad0, .inr (14, Fs0)), (Ad1, .inl (Ka0, 4, .inr (.inr (.inr (.inr Fa0))))), (Ad2, .inr (8, Fs1))]) [0, 1, 2] rfl
      have hD9 := hD.sub (ws' := [(Ad0, .inr (14, Fs0)), (Ad1, .inl (Ka0, 4, .inr (.inr (.inr (.inr Fa0))))), (Ad2, .inr (8, Fs1))]) [0, 1, 2] (by decide) rfl
      have hK9 := hK.sub (tys' := [(Ka0, .object "HeapWorks$Picture")]) [0] rfl
      exact W.iret (v := (-1)) hx hb hr (fun t ht hW => ⟨⟨(-1), (), rfl, (Or.inr (Or.inr (Or.inr (⟨c107, c108, c113, c114, rfl⟩)))), by rw [ht]; exact hP9, va_K.moved hW.alike hK9, hD9⟩, hS.F ht⟩) hS.2.2 dX11_lostThing_39

def l_z_X5_listChanged : List Cond := [.fieldLink RX5 82 "HeapWorks$Picture" "things" "I"]
def w_z_X5_listChanged : List Cond := .code yX5_listChanged cX5_listChanged 6 (some .int) :: (l_z_X5_listChanged ++ (wsX50))
theorem in_z_X5_listChanged_X5 : ∀ w ∈ wsX50, w ∈ w_z_X5_listChanged := fun w h => List.mem_cons_of_mem _ (List.mem_append_right _ (h))
set_option maxHeartbeats 4000000 in
set_option maxRecDepth 100000 in
theorem z_X5_listChanged (l : Launch) (dC : Nat → ClassId) (dI : Nat → Nat → Nat) (sz : Nat) (Ad0 : Nat) (Fs0 : List Value) (Br0 : Nat) (Br1 : Nat) (k_Fs0 : fh Fs0 21 [(0, .int 0)])  : Met l yX5_listChanged w_z_X5_listChanged ({ frames := 0, cells := 0, slots := 0, locals := 0 }) (va_Pc [.ref Ad0, .ref Br0, .ref Br1] (fun U => U.heap.size = sz ∧ Wd dC dI [] (fun _ => True) [(Ad0, .inr (8, Fs0))] U)) (va_Qi (fun (r : Int32) (u : Unit) => r = 0) (fun (u : Unit) t => Wd dC dI [] (va_A [(Ad0, .inr (8, Fs0))] sz) [(Ad0, .inr (8, Fs0))] t) (va_A [(Ad0, .inr (8, Fs0))] sz))  0 0 (va_A [(Ad0, .inr (8, Fs0))] sz) := by
  refine Met.ofW (cc := cX5_listChanged) (maxL := 6) (ret := (some .int)) (by decide) rfl ?_
  intro p e s m args below meth c s₁ B hml hv
  obtain ⟨rfl, hsz, hP, hK, hD0⟩ := hv
  have hx := B.exec
  have hb := B.bytes
  have hr := B.returns
  have hts := atoms_spec (ws := w_z_X5_listChanged) B.pre
  have hown : s.vm.findClass RX5 = some m.cls := findClass_of_methodNamed B.named
  have hlocks := B.notSynchronized
  subst hsz
  have hD := hD0.self (sz := s.heap.size)
  generalize hAe : va_A [(Ad0, .inr (8, Fs0))] s.heap.size = A at hD ⊢
  have hA : ∀ q : Nat, s.heap.size ≤ q → A q := fun q h => by rw [← hAe]; exact Or.inr h
  have hS : va_S A s.heap s.heap [] := va_S.rf
  have hl := lv_entry ([.ref Ad0, .ref Br0, .ref Br1]) (n := 6) (Nat.le_of_ble_eq_true rfl)
  rw [lg_entry_eq]
  generalize (lg_sl ([.ref Ad0, .ref Br0, .ref Br1]) ++ List.replicate (6 - (lg_sl ([.ref Ad0, .ref Br0, .ref Br1])).length) Slot.unset).toArray = ls at hl ⊢
  have hl : lv_has ls 6 [(0, .ref Ad0), (1, .ref Br0), (2, .ref Br1)] := hl
  have o_Fs0 := ow_0 k_Fs0
  refine lv_iconst (v := 0) hx hb dX5_listChanged_0 (by decide) ?_
  refine lv_istore_n (lv' := [(3, .int 0), (0, .ref Ad0), (1, .ref Br0), (2, .ref Br1)]) hx hb dX5_listChanged_1 rfl hl (by decide) rfl (fun ls hl => ?_)
  refine lv_iconst (v := 0) hx hb dX5_listChanged_2 (by decide) ?_
  refine lv_istore (lv' := [(4, .int 0), (3, .int 0), (0, .ref Ad0), (1, .ref Br0), (2, .ref Br1)]) hx hb dX5_listChanged_3 hl (by decide) rfl (fun ls hl => ?_)
  refine lv_iload hx hb dX5_listChanged_5 (lv_at hl 0 rfl) ?_
  refine lv_aload_n hx hb dX5_listChanged_7 rfl (lv_at hl 2 rfl) ?_
  refine va_get (D := (dC, dI)) (ci := 8) (v := .int 0) (C := RX5) (T := TX5) (N := 21) hx hb hts (in_z_X5_listChanged_X5) hown hK hP 0 rfl rfl 0 (by decide) (hts (.fieldLink RX5 82 "HeapWorks$Picture" "things" "I") (by decide +kernel)) (fun _ h9 => h9) (ow_at o_Fs0 0 rfl) dX5_listChanged_8 ?_
  refine lv_icmp_ge (tgt := 60) hx hb dX5_listChanged_11 (by decide) (fun c101 => ?_) (fun c101 => absurd c101 (by decide))
  refine lv_iload_n hx hb dX5_listChanged_60 rfl (lv_at hl 1 rfl) ?_
  have hP9 := hP.sub (ws' := [(Ad0, .inr (8, Fs0))]) [0] rfl
  have hD9 := hD.sub (ws' := [(Ad0, .inr (8, Fs0))]) [0] (by decide) rfl
  have hK9 := hK.sub (tys' := []) [] rfl
  exact W.iret (v := 0) hx hb hr (fun t ht hW => ⟨⟨0, (), rfl, rfl, by rw [ht]; exact hP9, va_K.moved hW.alike hK9, hD9⟩, hS.F ht⟩) hS.2.2 dX5_listChanged_61

def l_z_X5_listMissing : List Cond := [.fieldLink RX5 82 "HeapWorks$Picture" "things" "I"]
def w_z_X5_listMissing : List Cond := .code yX5_listMissing cX5_listMissing 5 (some .int) :: (l_z_X5_listMissing ++ (wsX50))
theorem in_z_X5_listMissing_X5 : ∀ w ∈ wsX50, w ∈ w_z_X5_listMissing := fun w h => List.mem_cons_of_mem _ (List.mem_append_right _ (h))
set_option maxHeartbeats 4000000 in
set_option maxRecDepth 100000 in
theorem z_X5_listMissing (l : Launch) (dC : Nat → ClassId) (dI : Nat → Nat → Nat) (sz : Nat) (Ad0 : Nat) (Fs0 : List Value) (Br0 : Nat) (Br1 : Nat) (k_Fs0 : fh Fs0 21 [(0, .int 0)])  : Met l yX5_listMissing w_z_X5_listMissing ({ frames := 0, cells := 0, slots := 0, locals := 0 }) (va_Pc [.ref Ad0, .ref Br0, .ref Br1] (fun U => U.heap.size = sz ∧ Wd dC dI [] (fun _ => True) [(Ad0, .inr (8, Fs0))] U)) (va_Qi (fun (r : Int32) (u : Unit) => r = 0) (fun (u : Unit) t => Wd dC dI [] (va_A [(Ad0, .inr (8, Fs0))] sz) [(Ad0, .inr (8, Fs0))] t) (va_A [(Ad0, .inr (8, Fs0))] sz))  0 0 (va_A [(Ad0, .inr (8, Fs0))] sz) := by
  refine Met.ofW (cc := cX5_listMissing) (maxL := 5) (ret := (some .int)) (by decide) rfl ?_
  intro p e s m args below meth c s₁ B hml hv
  obtain ⟨rfl, hsz, hP, hK, hD0⟩ := hv
  have hx := B.exec
  have hb := B.bytes
  have hr := B.returns
  have hts := atoms_spec (ws := w_z_X5_listMissing) B.pre
  have hown : s.vm.findClass RX5 = some m.cls := findClass_of_methodNamed B.named
  have hlocks := B.notSynchronized
  subst hsz
  have hD := hD0.self (sz := s.heap.size)
  generalize hAe : va_A [(Ad0, .inr (8, Fs0))] s.heap.size = A at hD ⊢
  have hA : ∀ q : Nat, s.heap.size ≤ q → A q := fun q h => by rw [← hAe]; exact Or.inr h
  have hS : va_S A s.heap s.heap [] := va_S.rf
  have hl := lv_entry ([.ref Ad0, .ref Br0, .ref Br1]) (n := 5) (Nat.le_of_ble_eq_true rfl)
  rw [lg_entry_eq]
  generalize (lg_sl ([.ref Ad0, .ref Br0, .ref Br1]) ++ List.replicate (5 - (lg_sl ([.ref Ad0, .ref Br0, .ref Br1])).length) Slot.unset).toArray = ls at hl ⊢
  have hl : lv_has ls 5 [(0, .ref Ad0), (1, .ref Br0), (2, .ref Br1)] := hl
  have o_Fs0 := ow_0 k_Fs0
  refine lv_iconst (v := 0) hx hb dX5_listMissing_0 (by decide) ?_
  refine lv_istore_n (lv' := [(3, .int 0), (0, .ref Ad0), (1, .ref Br0), (2, .ref Br1)]) hx hb dX5_listMissing_1 rfl hl (by decide) rfl (fun ls hl => ?_)
  refine lv_iconst (v := 0) hx hb dX5_listMissing_2 (by decide) ?_
  refine lv_istore (lv' := [(4, .int 0), (3, .int 0), (0, .ref Ad0), (1, .ref Br0), (2, .ref Br1)]) hx hb dX5_listMissing_3 hl (by decide) rfl (fun ls hl => ?_)
  refine lv_iload hx hb dX5_listMissing_5 (lv_at hl 0 rfl) ?_
  refine lv_aload_n hx hb dX5_listMissing_7 rfl (lv_at hl 2 rfl) ?_
  refine va_get (D := (dC, dI)) (ci := 8) (v := .int 0) (C := RX5) (T := TX5) (N := 21) hx hb hts (in_z_X5_listMissing_X5) hown hK hP 0 rfl rfl 0 (by decide) (hts (.fieldLink RX5 82 "HeapWorks$Picture" "things" "I") (by decide +kernel)) (fun _ h9 => h9) (ow_at o_Fs0 0 rfl) dX5_listMissing_8 ?_
  refine lv_icmp_ge (tgt := 44) hx hb dX5_listMissing_11 (by decide) (fun c101 => ?_) (fun c101 => absurd c101 (by decide))
  refine lv_iload_n hx hb dX5_listMissing_44 rfl (lv_at hl 1 rfl) ?_
  have hP9 := hP.sub (ws' := [(Ad0, .inr (8, Fs0))]) [0] rfl
  have hD9 := hD.sub (ws' := [(Ad0, .inr (8, Fs0))]) [0] (by decide) rfl
  have hK9 := hK.sub (tys' := []) [] rfl
  exact W.iret (v := 0) hx hb hr (fun t ht hW => ⟨⟨0, (), rfl, rfl, by rw [ht]; exact hP9, va_K.moved hW.alike hK9, hD9⟩, hS.F ht⟩) hS.2.2 dX5_listMissing_45

def l_z_X11_growth : List Cond := [.methodLink RX11 353 yX11_needPicture, .static yX11_needPicture, .initialized RX11, .classLink RX11 120 "java/lang/IndexOutOfBoundsException", .initialized "java/lang/IndexOutOfBoundsException", .fieldLink RX11 41 "HeapWorks" "pictures" "[LHeapWorks$Picture;", .fieldLink RX11 95 "HeapWorks" "grownThings" "[I", .methodLink RX11 457 yX5_listChanged, .instanceMethod yX5_listChanged, .selects RX5 yX5_listChanged yX5_listChanged, .initialized RX5, .fieldLink RX11 454 "HeapWorks" "grownCount" "I", .methodLink RX11 450 yX5_listMissing, .instanceMethod yX5_listMissing, .selects RX5 yX5_listMissing yX5_listMissing, .code yX11_needPicture cX11_needPicture 1 none, .methodLink RX11 411 yX11_isPicture, .static yX11_isPicture, .code yX11_isPicture cX11_isPicture 1 (some .boolean), .code yX5_listChanged cX5_listChanged 6 (some .int), .fieldLink RX5 82 "HeapWorks$Picture" "things" "I", .code yX5_listMissing cX5_listMissing 5 (some .int)]
def w_z_X11_growth : List Cond := .code yX11_growth cX11_growth 4 (some .int) :: (l_z_X11_growth ++ ((((vx_at0 RX11 122 "java/lang/IndexOutOfBoundsException" ["java/lang/RuntimeException", "java/lang/Exception"]).filter goodWord) ++ (wsX110 ++ wsX50))))
theorem in_z_X11_growth_at0_X11_122 : ∀ w ∈ ((vx_at0 RX11 122 "java/lang/IndexOutOfBoundsException" ["java/lang/RuntimeException", "java/lang/Exception"]).filter goodWord), w ∈ w_z_X11_growth := fun w h => List.mem_cons_of_mem _ (List.mem_append_right _ (List.mem_append_left _ h))
theorem in_z_X11_growth_X11 : ∀ w ∈ wsX110, w ∈ w_z_X11_growth := fun w h => List.mem_cons_of_mem _ (List.mem_append_right _ (List.mem_append_right _ (List.mem_append_left _ h)))
theorem in_z_X11_growth_X5 : ∀ w ∈ wsX50, w ∈ w_z_X11_growth := fun w h => List.mem_cons_of_mem _ (List.mem_append_right _ (List.mem_append_right _ (List.mem_append_right _ (h))))
theorem g_z_X11_growth_z_X11_needPicture_353 : GoodIn w_z_X11_growth (wsS RX11 353 yX11_needPicture w_z_X11_needPicture) := goodIn_app (goodIn_r (([.methodLink RX11 353 yX11_needPicture, .static yX11_needPicture, .initialized RX11] : List Cond)) [1, 2, 3] rfl (by decide +kernel)) (goodIn_ca (goodIn_r (.code yX11_needPicture cX11_needPicture 1 none :: l_z_X11_needPicture) [16, 17, 18, 3, 4, 5, 19] rfl (by decide +kernel)) (goodIn_in (in_z_X11_growth_at0_X11_122) gd_at0_X11_122))
theorem g_z_X11_growth_z_X5_listChanged_457 : GoodIn w_z_X11_growth (wsV RX11 457 RX5 yX5_listChanged w_z_X5_listChanged) := goodIn_app (goodIn_r (([.methodLink RX11 457 yX5_listChanged, .instanceMethod yX5_listChanged, .selects RX5 yX5_listChanged yX5_listChanged, .initialized RX5] : List Cond)) [8, 9, 10, 11] rfl (by decide +kernel)) (goodIn_ca (goodIn_r (.code yX5_listChanged cX5_listChanged 6 (some .int) :: l_z_X5_listChanged) [20, 21] rfl (by decide +kernel)) (goodIn_in (in_z_X11_growth_X5) gd_X5))
theorem g_z_X11_growth_z_X5_listMissing_450 : GoodIn w_z_X11_growth (wsV RX11 450 RX5 yX5_listMissing w_z_X5_listMissing) := goodIn_app (goodIn_r (([.methodLink RX11 450 yX5_listMissing, .instanceMethod yX5_listMissing, .selects RX5 yX5_listMissing yX5_listMissing, .initialized RX5] : List Cond)) [13, 14, 15, 11] rfl (by decide +kernel)) (goodIn_ca (goodIn_r (.code yX5_listMissing cX5_listMissing 5 (some .int) :: l_z_X5_listMissing) [22, 21] rfl (by decide +kernel)) (goodIn_in (in_z_X11_growth_X5) gd_X5))
set_option maxHeartbeats 4000000 in
set_option maxRecDepth 100000 in
theorem z_X11_growth (l : Launch) (dC : Nat → ClassId) (dI : Nat → Nat → Nat) (sz : Nat) (Ad0 : Nat) (Fs0 : List Value) (Ad1 : Nat) (Fa0 : Nat → Option Nat) (Ka0 : ClassId) (Ad2 : Nat) (Fs1 : List Value) (Ad3 : Nat) (Fs2 : List Value) (Va0 : Int32) (Va1 : Int32) (Va2 : Int32) (Br0 : Nat) (k_Fs0 : fh Fs0 18 [(4, .ref Ad1), (15, .int 0), (14, .ref Br0)]) (k_Fs1 : fh Fs1 21 [(0, .int 0)]) (k_Fs2 : fh Fs2 21 [(0, .int 0)]) (hst : l.stackTraces = false) (hg0 : Fa0 Va1.toNatClampNeg = some Ad3) (hg1 : Fa0 Va0.toNatClampNeg = some Ad2) : vx_Met l yX11_growth w_z_X11_growth ({ frames := 8, cells := 3, slots := 18, locals := 160 }) (va_Pc [.ref Ad0, .int Va0, .int Va1, .int Va2] (fun U => U.heap.size = sz ∧ Zz (va_A [(Ad0, .inr (14, Fs0)), (Ad1, .inl (Ka0, 4, .inr (.inr (.inr (.inr Fa0))))), (Ad2, .inr (8, Fs1)), (Ad3, .inr (8, Fs2))] sz) U ∧ Wd dC dI [(Ka0, .object "HeapWorks$Picture")] (fun _ => True) [(Ad0, .inr (14, Fs0)), (Ad1, .inl (Ka0, 4, .inr (.inr (.inr (.inr Fa0))))), (Ad2, .inr (8, Fs1)), (Ad3, .inr (8, Fs2))] U)) (va_Qi (fun (r : Int32) (u : List Value) => (¬ Va0 < 0 ∧ ¬ 4 ≤ Va0 ∧ ¬ Va1 < 0 ∧ ¬ 4 ≤ Va1 ∧ ¬ Va2 < 0 ∧ Va2 ≤ 2 ∧ ¬ Va2 = 0 ∧ ¬ Va2 = 1 ∧ r = 0 ∧ ow Fs0 (u) 18 [15] [(15, .int 0), (4, .ref Ad1), (14, .ref Br0)]) ∨ (¬ Va0 < 0 ∧ ¬ 4 ≤ Va0 ∧ ¬ Va1 < 0 ∧ ¬ 4 ≤ Va1 ∧ ¬ Va2 < 0 ∧ Va2 ≤ 2 ∧ ¬ Va2 = 0 ∧ Va2 = 1 ∧ r = 0 ∧ ow Fs0 (u) 18 [15] [(15, .int 0), (4, .ref Ad1), (14, .ref Br0)]) ∨ (¬ Va0 < 0 ∧ ¬ 4 ≤ Va0 ∧ ¬ Va1 < 0 ∧ ¬ 4 ≤ Va1 ∧ ¬ Va2 < 0 ∧ Va2 ≤ 2 ∧ Va2 = 0 ∧ r = 0 ∧ ow Fs0 (u) 18 [15] [(15, .int 0), (4, .ref Ad1), (14, .ref Br0)])) (fun (u : List Value) t => Wd dC dI [(Ka0, .object "HeapWorks$Picture")] (va_A [(Ad0, .inr (14, Fs0)), (Ad1, .inl (Ka0, 4, .inr (.inr (.inr (.inr Fa0))))), (Ad2, .inr (8, Fs1)), (Ad3, .inr (8, Fs2))] sz) [(Ad0, .inr (14, (u))), (Ad1, .inl (Ka0, 4, .inr (.inr (.inr (.inr Fa0))))), (Ad2, .inr (8, Fs1)), (Ad3, .inr (8, Fs2))] t) (va_A [(Ad0, .inr (14, Fs0)), (Ad1, .inl (Ka0, 4, .inr (.inr (.inr (.inr Fa0))))), (Ad2, .inr (8, Fs1)), (Ad3, .inr (8, Fs2))] sz)) (vx_X (fun _ : Unit => True) (fun E _ _ => (E = "java/lang/IndexOutOfBoundsException" ∧ Va0 < 0) ∨ (E = "java/lang/IndexOutOfBoundsException" ∧ ¬ Va0 < 0 ∧ 4 ≤ Va0) ∨ (E = "java/lang/IndexOutOfBoundsException" ∧ ¬ Va0 < 0 ∧ ¬ 4 ≤ Va0 ∧ Va1 < 0) ∨ (E = "java/lang/IndexOutOfBoundsException" ∧ ¬ Va0 < 0 ∧ ¬ 4 ≤ Va0 ∧ ¬ Va1 < 0 ∧ 4 ≤ Va1) ∨ (E = "java/lang/IndexOutOfBoundsException" ∧ ¬ Va0 < 0 ∧ ¬ 4 ≤ Va0 ∧ ¬ Va1 < 0 ∧ ¬ 4 ≤ Va1 ∧ Va2 < 0) ∨ (E = "java/lang/IndexOutOfBoundsException" ∧ ¬ Va0 < 0 ∧ ¬ 4 ≤ Va0 ∧ ¬ Va1 < 0 ∧ ¬ 4 ≤ Va1 ∧ ¬ Va2 < 0 ∧ ¬ Va2 ≤ 2)) (va_A [(Ad0, .inr (14, Fs0)), (Ad1, .inl (Ka0, 4, .inr (.inr (.inr (.inr Fa0))))), (Ad2, .inr (8, Fs1)), (Ad3, .inr (8, Fs2))] sz)) 3 18 (va_A [(Ad0, .inr (14, Fs0)), (Ad1, .inl (Ka0, 4, .inr (.inr (.inr (.inr Fa0))))), (Ad2, .inr (8, Fs1)), (Ad3, .inr (8, Fs2))] sz) := by
  refine vx_ofW (cc := cX11_growth) (maxL := 4) (ret := (some .int)) (by decide) rfl ?_
  intro p e s m args below meth c s₁ B hml htab hv
  obtain ⟨rfl, hsz, hZ, hP, hK, hD0⟩ := hv
  have hx := B.exec
  have hb := B.bytes
  have hr := B.returns
  have hts := atoms_spec (ws := w_z_X11_growth) B.pre
  have hown : s.vm.findClass RX11 = some m.cls := findClass_of_methodNamed B.named
  have hlocks := B.notSynchronized
  subst hsz
  have hD := hD0.self (sz := s.heap.size)
  generalize hAe : va_A [(Ad0, .inr (14, Fs0)), (Ad1, .inl (Ka0, 4, .inr (.inr (.inr (.inr Fa0))))), (Ad2, .inr (8, Fs1)), (Ad3, .inr (8, Fs2))] s.heap.size = A at hD hZ ⊢
  have hA : ∀ q : Nat, s.heap.size ≤ q → A q := fun q h => by rw [← hAe]; exact Or.inr h
  have hS : va_S A s.heap s.heap [] := va_S.rf
  have hl := lv_entry ([.ref Ad0, .int Va0, .int Va1, .int Va2]) (n := 4) (Nat.le_of_ble_eq_true rfl)
  rw [lg_entry_eq]
  generalize (lg_sl ([.ref Ad0, .int Va0, .int Va1, .int Va2]) ++ List.replicate (4 - (lg_sl ([.ref Ad0, .int Va0, .int Va1, .int Va2])).length) Slot.unset).toArray = ls at hl ⊢
  have hl : lv_has ls 4 [(0, .ref Ad0), (1, .int Va0), (2, .int Va1), (3, .int Va2)] := hl
  have o_Fs0 := ow_0 k_Fs0
  have o_Fs1 := ow_0 k_Fs1
  have o_Fs2 := ow_0 k_Fs2
  refine lv_iload_n hx hb dX11_growth_0 rfl (lv_at hl 1 rfl) ?_
  have hPc := hP.sub (ws' := []) [] rfl
  have hDc := hD.sub (ws' := []) [] (by decide) rfl
  have hKc := hK.sub (tys' := []) [] rfl
  have hFc := va_free (wc := []) hD hS hA [] rfl
  refine vx_callv (vx_runS (As := [.int Va0]) (rest := []) ⟨hx, hb, hml, hown, hts⟩ (z_X11_needPicture l dC dI s.heap.size Va0  hst ) (cwS 1 hts g_z_X11_growth_z_X11_needPicture_353 rfl rfl rfl (by decide +kernel) ⟨Nat.le_of_ble_eq_true rfl, Nat.le_of_ble_eq_true rfl⟩) ⟨fun a U g mk q => by obtain ⟨q0, q1, qZ, qP, qK, qD⟩ := q; exact ⟨q0, q1, Zz_call qZ, qP, va_K.moved (u := U) (U := U.calling g mk a) (Vm.Alike.refl U.vm) qK, qD⟩, fun U hU hW => ⟨rfl, by rw [hU], Zz_go hZ hS hFc hU hW, by rw [hU]; exact hPc, va_K.moved hW.alike hKc, hDc.weaken (fun _ _ _ _ => trivial)⟩⟩ rfl rfl hl.1 rfl (lv_room (Nat.le_of_ble_eq_true rfl)) dX11_growth_1 ⟨Nat.le_of_ble_eq_true rfl, Nat.le_of_ble_eq_true rfl⟩) hS (fun q _ h => hFc q h) hFc (fun q _ h => hFc q h) (fun E ce q9 u t H1 locs ht hvm hpx hBX hz1 hk1 hS hce hcv hcl => ?_) (fun u t H1 locs ht hvm hw hB hz1 hk1 hS => ?_)
  · rcases hBX with ⟨rfl, c101⟩ | ⟨rfl, c102, c103⟩
    · exact vx_out (fun x h => (htab x h).elim) hlocks hce hcv hcl (fun t9 ht9 _ => ⟨(), trivial, (Or.inl ⟨rfl, c101⟩), hS.F ht9⟩) hS.2.2 (by decide) (by decide)
    · exact vx_out (fun x h => (htab x h).elim) hlocks hce hcv hcl (fun t9 ht9 _ => ⟨(), trivial, (Or.inr (Or.inl ⟨rfl, c102, c103⟩)), hS.F ht9⟩) hS.2.2 (by decide) (by decide)
  · skip
    obtain ⟨hP1, hK1, hD1⟩ := hB
    rw [ht] at hP1
    try dsimp only at hw
    obtain ⟨hP, hD⟩ := va_join (wr := [(Ad0, .inr (14, Fs0)), (Ad1, .inl (Ka0, 4, .inr (.inr (.inr (.inr Fa0))))), (Ad2, .inr (8, Fs1)), (Ad3, .inr (8, Fs2))]) (w1 := []) hP hD [] [0, 1, 2, 3] rfl rfl (by decide) (by decide) hk1 hFc hP1 hD1
    have hK := hK.sub (tys' := [(Ka0, .object "HeapWorks$Picture")]) [0] rfl
    generalize H1 = H at hP hS ⊢
    refine W.widen (k := 1) (n := 6) (by omega) (by omega) ?_
    have hP : va_P (dC, dI) vwCl [(Ad0, .inr (14, Fs0)), (Ad1, .inl (Ka0, 4, .inr (.inr (.inr (.inr Fa0))))), (Ad2, .inr (8, Fs1)), (Ad3, .inr (8, Fs2))] H := hP
    have hD : va_D A [(Ad0, .inr (14, Fs0)), (Ad1, .inl (Ka0, 4, .inr (.inr (.inr (.inr Fa0))))), (Ad2, .inr (8, Fs1)), (Ad3, .inr (8, Fs2))] := hD
    obtain ⟨c104, c105⟩ := hw
    refine lv_iload_n hx hb dX11_growth_4 rfl (lv_at hl 2 rfl) ?_
    have hPc := hP.sub (ws' := []) [] rfl
    have hDc := hD.sub (ws' := []) [] (by decide) rfl
    have hKc := hK.sub (tys' := []) [] rfl
    have hFc := va_free (wc := []) hD hS hA [] rfl
    refine vx_callv (vx_runS (As := [.int Va1]) (rest := []) ⟨hx, hb, hml, hown, hts⟩ (z_X11_needPicture l dC dI H.size Va1  hst ) (cwS 1 hts g_z_X11_growth_z_X11_needPicture_353 rfl rfl rfl (by decide +kernel) ⟨Nat.le_of_ble_eq_true rfl, Nat.le_of_ble_eq_true rfl⟩) ⟨fun a U g mk q => by obtain ⟨q0, q1, qZ, qP, qK, qD⟩ := q; exact ⟨q0, q1, Zz_call qZ, qP, va_K.moved (u := U) (U := U.calling g mk a) (Vm.Alike.refl U.vm) qK, qD⟩, fun U hU hW => ⟨rfl, by rw [hU], Zz_go hZ hS hFc hU hW, by rw [hU]; exact hPc, va_K.moved hW.alike hKc, hDc.weaken (fun _ _ _ _ => trivial)⟩⟩ rfl rfl hl.1 rfl (lv_room (Nat.le_of_ble_eq_true rfl)) dX11_growth_5 ⟨Nat.le_of_ble_eq_true rfl, Nat.le_of_ble_eq_true rfl⟩) hS (fun q _ h => hFc q h) hFc (fun q _ h => hFc q h) (fun E ce q9 u t H1 locs ht hvm hpx hBX hz1 hk1 hS hce hcv hcl => ?_) (fun u t H1 locs ht hvm hw hB hz1 hk1 hS => ?_)
    · rcases hBX with ⟨rfl, c106⟩ | ⟨rfl, c107, c108⟩
      · exact vx_out (fun x h => (htab x h).elim) hlocks hce hcv hcl (fun t9 ht9 _ => ⟨(), trivial, (Or.inr (Or.inr (Or.inl ⟨rfl, c104, c105, c106⟩))), hS.F ht9⟩) hS.2.2 (by decide) (by decide)
      · exact vx_out (fun x h => (htab x h).elim) hlocks hce hcv hcl (fun t9 ht9 _ => ⟨(), trivial, (Or.inr (Or.inr (Or.inr (Or.inl ⟨rfl, c104, c105, c107, c108⟩)))), hS.F ht9⟩) hS.2.2 (by decide) (by decide)
    · skip
      obtain ⟨hP1, hK1, hD1⟩ := hB
      rw [ht] at hP1
      try dsimp only at hw
      obtain ⟨hP, hD⟩ := va_join (wr := [(Ad0, .inr (14, Fs0)), (Ad1, .inl (Ka0, 4, .inr (.inr (.inr (.inr Fa0))))), (Ad2, .inr (8, Fs1)), (Ad3, .inr (8, Fs2))]) (w1 := []) hP hD [] [0, 1, 2, 3] rfl rfl (by decide) (by decide) hk1 hFc hP1 hD1
      have hK := hK.sub (tys' := [(Ka0, .object "HeapWorks$Picture")]) [0] rfl
      generalize H1 = H at hP hS ⊢
      refine W.widen (k := 2) (n := 12) (by omega) (by omega) ?_
      have hP : va_P (dC, dI) vwCl [(Ad0, .inr (14, Fs0)), (Ad1, .inl (Ka0, 4, .inr (.inr (.inr (.inr Fa0))))), (Ad2, .inr (8, Fs1)), (Ad3, .inr (8, Fs2))] H := hP
      have hD : va_D A [(Ad0, .inr (14, Fs0)), (Ad1, .inl (Ka0, 4, .inr (.inr (.inr (.inr Fa0))))), (Ad2, .inr (8, Fs1)), (Ad3, .inr (8, Fs2))] := hD
      obtain ⟨c109, c110⟩ := hw
      refine lv_iload_n hx hb dX11_growth_8 rfl (lv_at hl 3 rfl) ?_
      refine lv_if_lt (tgt := 17) hx hb dX11_growth_9 (by decide) (fun c111 => ?_) (fun c111 => ?_)
      · skip
        exact vx_throw0 (names := ["java/lang/RuntimeException", "java/lang/Exception"]) hx hb hst hown (by decide +kernel) (by decide +kernel) (hts (.classLink RX11 120 "java/lang/IndexOutOfBoundsException") (by decide +kernel)) (hts (.initialized "java/lang/IndexOutOfBoundsException") (by decide +kernel)) (vx_hat (B := xB "java/lang/IndexOutOfBoundsException") (fun w h => hts w ((in_z_X11_growth_at0_X11_122) w h)) (by decide +kernel) (Zz_xB hZ (by decide))) (by decide +kernel) hZ.1 hZ.2.1 hS (hl.1.trans hml.symm) dX11_growth_17 dX11_growth_20 dX11_growth_21 dX11_growth_24 (fun x h => (htab x h).elim) (by decide) (Nat.le_of_ble_eq_true rfl) (Nat.le_of_ble_eq_true rfl) (Nat.le_of_ble_eq_true rfl) hlocks (fun t _ h1 h2 => ⟨(), trivial, (Or.inr (Or.inr (Or.inr (Or.inr (Or.inl ⟨rfl, c104, c105, c109, c110, c111⟩))))), xx_F hS h1 h2⟩) hS.2.2 (by decide) (by decide)
      · skip
        refine lv_iload_n hx hb dX11_growth_12 rfl (lv_at hl 3 rfl) ?_
        refine lv_iconst (v := 2) hx hb dX11_growth_13 (by decide) ?_
        refine lv_icmp_le (tgt := 25) hx hb dX11_growth_14 (by decide) (fun c112 => ?_) (fun c112 => ?_)
        · skip
          refine lv_iload_n hx hb dX11_growth_25 rfl (lv_at hl 3 rfl) ?_
          refine lv_if_ne (tgt := 55) hx hb dX11_growth_26 (by decide) (fun c113 => ?_) (fun c113 => ?_)
          · skip
            refine lv_iload_n hx hb dX11_growth_55 rfl (lv_at hl 3 rfl) ?_
            refine lv_iconst (v := 1) hx hb dX11_growth_56 (by decide) ?_
            refine lv_icmp_ne (tgt := 86) hx hb dX11_growth_57 (by decide) (fun c114 => ?_) (fun c114 => ?_)
            · skip
              refine lv_aload_n hx hb dX11_growth_86 rfl (lv_at hl 0 rfl) ?_
              refine lv_aload_n hx hb dX11_growth_87 rfl (lv_at hl 0 rfl) ?_
              refine va_get (D := (dC, dI)) (ci := 14) (v := .ref Ad1) (C := RX11) (T := TX11) (N := 18) hx hb hts (in_z_X11_growth_X11) hown hK hP 0 rfl rfl 4 (by decide) (hts (.fieldLink RX11 41 "HeapWorks" "pictures" "[LHeapWorks$Picture;") (by decide +kernel)) (fun _ h9 => h9) (ow_at o_Fs0 0 rfl) dX11_growth_88 ?_
              refine lv_iload_n hx hb dX11_growth_91 rfl (lv_at hl 2 rfl) ?_
              refine va_aldq hx hb hK hP 1 0 rfl rfl (by rw [vp_in_iff]; (try simp only [i_lt, i_le, i_eq, kc_0, kc_4] at c109 c110); omega) dX11_growth_92 ?_
              refine W.eq (g2 := F0 m 93 ls (.ref Ad3 :: [.ref Ad0])) (by rw [hg0]; rfl) ?_
              refine lv_aload_n hx hb dX11_growth_93 rfl (lv_at hl 0 rfl) ?_
              refine va_get (D := (dC, dI)) (ci := 14) (v := .ref Ad1) (C := RX11) (T := TX11) (N := 18) hx hb hts (in_z_X11_growth_X11) hown hK hP 0 rfl rfl 4 (by decide) (hts (.fieldLink RX11 41 "HeapWorks" "pictures" "[LHeapWorks$Picture;") (by decide +kernel)) (fun _ h9 => h9) (ow_at o_Fs0 0 rfl) dX11_growth_94 ?_
              refine lv_iload_n hx hb dX11_growth_97 rfl (lv_at hl 1 rfl) ?_
              refine va_aldq hx hb hK hP 1 0 rfl rfl (by rw [vp_in_iff]; (try simp only [i_lt, i_le, i_eq, kc_0, kc_4] at c104 c105); omega) dX11_growth_98 ?_
              refine W.eq (g2 := F0 m 99 ls (.ref Ad2 :: [.ref Ad3, .ref Ad0])) (by rw [hg1]; rfl) ?_
              refine lv_aload_n hx hb dX11_growth_99 rfl (lv_at hl 0 rfl) ?_
              refine va_get (D := (dC, dI)) (ci := 14) (v := .ref Br0) (C := RX11) (T := TX11) (N := 18) hx hb hts (in_z_X11_growth_X11) hown hK hP 0 rfl rfl 14 (by decide) (hts (.fieldLink RX11 95 "HeapWorks" "grownThings" "[I") (by decide +kernel)) (fun _ h9 => h9) (ow_at o_Fs0 2 rfl) dX11_growth_100 ?_
              have hPc := hP.sub (ws' := [(Ad3, .inr (8, Fs2))]) [3] rfl
              have hDc := hD.sub (ws' := [(Ad3, .inr (8, Fs2))]) [3] (by decide) rfl
              have hKc := hK.sub (tys' := []) [] rfl
              have hFc := va_free (wc := [(Ad3, .inr (8, Fs2))]) hD hS hA [3] rfl
              refine va_calli (va_runV (As := [.ref Ad2, .ref Br0]) (rest := [.ref Ad0]) ⟨hx, hb, hml, hown, hts⟩ (z_X5_listChanged l dC dI H.size Ad3 Fs2 Ad2 Br0 (fh_sub o_Fs2.2 [0] rfl) ) (cwV 2 hts g_z_X11_growth_z_X5_listChanged_457 rfl rfl rfl (by decide +kernel) ⟨Nat.le_of_ble_eq_true rfl, Nat.le_of_ble_eq_true rfl⟩) ⟨fun a U g mk q => by obtain ⟨q0, q1, qP, qK, qD⟩ := q; exact ⟨q0, q1, qP, va_K.moved (u := U) (U := U.calling g mk a) (Vm.Alike.refl U.vm) qK, qD⟩, va_recv hK hP (ci := 8) (q0 := 3) rfl rfl, fun U hU hW => ⟨rfl, by rw [hU], by rw [hU]; exact hPc, va_K.moved hW.alike hKc, hDc.weaken (fun _ _ _ _ => trivial)⟩⟩ rfl rfl hl.1 rfl (lv_room (Nat.le_of_ble_eq_true rfl)) dX11_growth_103 ⟨Nat.le_of_ble_eq_true rfl, Nat.le_of_ble_eq_true rfl⟩) hS (fun q _ h => hFc q h) hFc (fun r115 u t H1 locs ht hvm hw hB hz1 hk1 hS => ?_)
              obtain ⟨hP1, hK1, hD1⟩ := hB
              rw [ht] at hP1
              try dsimp only at hw
              obtain ⟨hP, hD⟩ := va_join (wr := [(Ad0, .inr (14, Fs0)), (Ad1, .inl (Ka0, 4, .inr (.inr (.inr (.inr Fa0))))), (Ad2, .inr (8, Fs1))]) (w1 := [(Ad3, .inr (8, Fs2))]) hP hD [3] [0, 1, 2] rfl rfl (by decide) (by decide) hk1 hFc hP1 hD1
              have hK := hK.sub (tys' := [(Ka0, .object "HeapWorks$Picture")]) [0] rfl
              generalize H1 = H at hP hS ⊢
              have hP : va_P (dC, dI) vwCl [(Ad0, .inr (14, Fs0)), (Ad1, .inl (Ka0, 4, .inr (.inr (.inr (.inr Fa0))))), (Ad2, .inr (8, Fs1)), (Ad3, .inr (8, Fs2))] H := hP
              have hD : va_D A [(Ad0, .inr (14, Fs0)), (Ad1, .inl (Ka0, 4, .inr (.inr (.inr (.inr Fa0))))), (Ad2, .inr (8, Fs1)), (Ad3, .inr (8, Fs2))] := hD
              have er116 := hw
              subst er116
              refine va_put (D := (dC, dI)) (ci := 14) (v := .int 0) (ty := .int) (C := RX11) (T := TX11) (N := 18) hx hb hts (in_z_X11_growth_X11) tyX11 tyX11_ok nmX11 hown hK hP hD hS 0 rfl rfl 15 (by decide) (hts (.fieldLink RX11 454 "HeapWorks" "grownCount" "I") (by decide +kernel)) (fun _ h9 => h9) rfl (by decide +kernel) rfl rfl (by rw [o_Fs0.2.1]; decide) dX11_growth_106 (fun H locs hP hD hS => ?_)
              have hP : va_P (dC, dI) vwCl [(Ad0, .inr (14, (Fs0.set 15 (.int 0)))), (Ad1, .inl (Ka0, 4, .inr (.inr (.inr (.inr Fa0))))), (Ad2, .inr (8, Fs1)), (Ad3, .inr (8, Fs2))] H := hP
              have hD : va_D A [(Ad0, .inr (14, (Fs0.set 15 (.int 0)))), (Ad1, .inl (Ka0, 4, .inr (.inr (.inr (.inr Fa0))))), (Ad2, .inr (8, Fs1)), (Ad3, .inr (8, Fs2))] := hD
              have o_s117 := ow_set o_Fs0 15 (.int 0) (by decide) (l' := [(15, .int 0), (4, .ref Ad1), (14, .ref Br0)]) (w' := [15]) rfl rfl
              generalize (Fs0.set 15 (.int 0)) = s117 at hP hD o_s117
              refine lv_aload_n hx hb dX11_growth_109 rfl (lv_at hl 0 rfl) ?_
              refine va_get (D := (dC, dI)) (ci := 14) (v := .int 0) (C := RX11) (T := TX11) (N := 18) hx hb hts (in_z_X11_growth_X11) hown hK hP 0 rfl rfl 15 (by decide) (hts (.fieldLink RX11 454 "HeapWorks" "grownCount" "I") (by decide +kernel)) (fun _ h9 => h9) (ow_at o_s117 0 rfl) dX11_growth_110 ?_
              have hP9 := hP.sub (ws' := [(Ad0, .inr (14, s117)), (Ad1, .inl (Ka0, 4, .inr (.inr (.inr (.inr Fa0))))), (Ad2, .inr (8, Fs1)), (Ad3, .inr (8, Fs2))]) [0, 1, 2, 3] rfl
              have hD9 := hD.sub (ws' := [(Ad0, .inr (14, s117)), (Ad1, .inl (Ka0, 4, .inr (.inr (.inr (.inr Fa0))))), (Ad2, .inr (8, Fs1)), (Ad3, .inr (8, Fs2))]) [0, 1, 2, 3] (by decide) rfl
              have hK9 := hK.sub (tys' := [(Ka0, .object "HeapWorks$Picture")]) [0] rfl
              refine vx_ret ?_
              refine W.widen (k := 3) (n := 18) (by decide) (by decide) ?_
              exact W.iret (v := 0) hx hb hr (fun t ht hW => ⟨⟨0, s117, rfl, (Or.inl ⟨c104, c105, c109, c110, c111, c112, c113, c114, rfl, o_s117⟩), by rw [ht]; exact hP9, va_K.moved hW.alike hK9, hD9⟩, hS.F ht⟩) hS.2.2 dX11_growth_113
            · skip
              refine lv_aload_n hx hb dX11_growth_60 rfl (lv_at hl 0 rfl) ?_
              refine lv_aload_n hx hb dX11_growth_61 rfl (lv_at hl 0 rfl) ?_
              refine va_get (D := (dC, dI)) (ci := 14) (v := .ref Ad1) (C := RX11) (T := TX11) (N := 18) hx hb hts (in_z_X11_growth_X11) hown hK hP 0 rfl rfl 4 (by decide) (hts (.fieldLink RX11 41 "HeapWorks" "pictures" "[LHeapWorks$Picture;") (by decide +kernel)) (fun _ h9 => h9) (ow_at o_Fs0 0 rfl) dX11_growth_62 ?_
              refine lv_iload_n hx hb dX11_growth_65 rfl (lv_at hl 1 rfl) ?_
              refine va_aldq hx hb hK hP 1 0 rfl rfl (by rw [vp_in_iff]; (try simp only [i_lt, i_le, i_eq, kc_0, kc_4] at c104 c105); omega) dX11_growth_66 ?_
              refine W.eq (g2 := F0 m 67 ls (.ref Ad2 :: [.ref Ad0])) (by rw [hg1]; rfl) ?_
              refine lv_aload_n hx hb dX11_growth_67 rfl (lv_at hl 0 rfl) ?_
              refine va_get (D := (dC, dI)) (ci := 14) (v := .ref Ad1) (C := RX11) (T := TX11) (N := 18) hx hb hts (in_z_X11_growth_X11) hown hK hP 0 rfl rfl 4 (by decide) (hts (.fieldLink RX11 41 "HeapWorks" "pictures" "[LHeapWorks$Picture;") (by decide +kernel)) (fun _ h9 => h9) (ow_at o_Fs0 0 rfl) dX11_growth_68 ?_
              refine lv_iload_n hx hb dX11_growth_71 rfl (lv_at hl 2 rfl) ?_
              refine va_aldq hx hb hK hP 1 0 rfl rfl (by rw [vp_in_iff]; (try simp only [i_lt, i_le, i_eq, kc_0, kc_4] at c109 c110); omega) dX11_growth_72 ?_
              refine W.eq (g2 := F0 m 73 ls (.ref Ad3 :: [.ref Ad2, .ref Ad0])) (by rw [hg0]; rfl) ?_
              refine lv_aload_n hx hb dX11_growth_73 rfl (lv_at hl 0 rfl) ?_
              refine va_get (D := (dC, dI)) (ci := 14) (v := .ref Br0) (C := RX11) (T := TX11) (N := 18) hx hb hts (in_z_X11_growth_X11) hown hK hP 0 rfl rfl 14 (by decide) (hts (.fieldLink RX11 95 "HeapWorks" "grownThings" "[I") (by decide +kernel)) (fun _ h9 => h9) (ow_at o_Fs0 2 rfl) dX11_growth_74 ?_
              have hPc := hP.sub (ws' := [(Ad2, .inr (8, Fs1))]) [2] rfl
              have hDc := hD.sub (ws' := [(Ad2, .inr (8, Fs1))]) [2] (by decide) rfl
              have hKc := hK.sub (tys' := []) [] rfl
              have hFc := va_free (wc := [(Ad2, .inr (8, Fs1))]) hD hS hA [2] rfl
              refine va_calli (va_runV (As := [.ref Ad3, .ref Br0]) (rest := [.ref Ad0]) ⟨hx, hb, hml, hown, hts⟩ (z_X5_listMissing l dC dI H.size Ad2 Fs1 Ad3 Br0 (fh_sub o_Fs1.2 [0] rfl) ) (cwV 2 hts g_z_X11_growth_z_X5_listMissing_450 rfl rfl rfl (by decide +kernel) ⟨Nat.le_of_ble_eq_true rfl, Nat.le_of_ble_eq_true rfl⟩) ⟨fun a U g mk q => by obtain ⟨q0, q1, qP, qK, qD⟩ := q; exact ⟨q0, q1, qP, va_K.moved (u := U) (U := U.calling g mk a) (Vm.Alike.refl U.vm) qK, qD⟩, va_recv hK hP (ci := 8) (q0 := 2) rfl rfl, fun U hU hW => ⟨rfl, by rw [hU], by rw [hU]; exact hPc, va_K.moved hW.alike hKc, hDc.weaken (fun _ _ _ _ => trivial)⟩⟩ rfl rfl hl.1 rfl (lv_room (Nat.le_of_ble_eq_true rfl)) dX11_growth_77 ⟨Nat.le_of_ble_eq_true rfl, Nat.le_of_ble_eq_true rfl⟩) hS (fun q _ h => hFc q h) hFc (fun r118 u t H1 locs ht hvm hw hB hz1 hk1 hS => ?_)
              obtain ⟨hP1, hK1, hD1⟩ := hB
              rw [ht] at hP1
              try dsimp only at hw
              obtain ⟨hP, hD⟩ := va_join (wr := [(Ad0, .inr (14, Fs0)), (Ad1, .inl (Ka0, 4, .inr (.inr (.inr (.inr Fa0))))), (Ad3, .inr (8, Fs2))]) (w1 := [(Ad2, .inr (8, Fs1))]) hP hD [2] [0, 1, 3] rfl rfl (by decide) (by decide) hk1 hFc hP1 hD1
              have hK := hK.sub (tys' := [(Ka0, .object "HeapWorks$Picture")]) [0] rfl
              generalize H1 = H at hP hS ⊢
              have hP : va_P (dC, dI) vwCl [(Ad0, .inr (14, Fs0)), (Ad1, .inl (Ka0, 4, .inr (.inr (.inr (.inr Fa0))))), (Ad3, .inr (8, Fs2)), (Ad2, .inr (8, Fs1))] H := hP
              have hD : va_D A [(Ad0, .inr (14, Fs0)), (Ad1, .inl (Ka0, 4, .inr (.inr (.inr (.inr Fa0))))), (Ad3, .inr (8, Fs2)), (Ad2, .inr (8, Fs1))] := hD
              have er119 := hw
              subst er119
              refine va_put (D := (dC, dI)) (ci := 14) (v := .int 0) (ty := .int) (C := RX11) (T := TX11) (N := 18) hx hb hts (in_z_X11_growth_X11) tyX11 tyX11_ok nmX11 hown hK hP hD hS 0 rfl rfl 15 (by decide) (hts (.fieldLink RX11 454 "HeapWorks" "grownCount" "I") (by decide +kernel)) (fun _ h9 => h9) rfl (by decide +kernel) rfl rfl (by rw [o_Fs0.2.1]; decide) dX11_growth_80 (fun H locs hP hD hS => ?_)
              have hP : va_P (dC, dI) vwCl [(Ad0, .inr (14, (Fs0.set 15 (.int 0)))), (Ad1, .inl (Ka0, 4, .inr (.inr (.inr (.inr Fa0))))), (Ad3, .inr (8, Fs2)), (Ad2, .inr (8, Fs1))] H := hP
              have hD : va_D A [(Ad0, .inr (14, (Fs0.set 15 (.int 0)))), (Ad1, .inl (Ka0, 4, .inr (.inr (.inr (.inr Fa0))))), (Ad3, .inr (8, Fs2)), (Ad2, .inr (8, Fs1))] := hD
              have o_s120 := ow_set o_Fs0 15 (.int 0) (by decide) (l' := [(15, .int 0), (4, .ref Ad1), (14, .ref Br0)]) (w' := [15]) rfl rfl
              generalize (Fs0.set 15 (.int 0)) = s120 at hP hD o_s120
              refine lv_goto (tgt := 109) hx hb dX11_growth_83 (by decide) ?_
              refine lv_aload_n hx hb dX11_growth_109 rfl (lv_at hl 0 rfl) ?_
              refine va_get (D := (dC, dI)) (ci := 14) (v := .int 0) (C := RX11) (T := TX11) (N := 18) hx hb hts (in_z_X11_growth_X11) hown hK hP 0 rfl rfl 15 (by decide) (hts (.fieldLink RX11 454 "HeapWorks" "grownCount" "I") (by decide +kernel)) (fun _ h9 => h9) (ow_at o_s120 0 rfl) dX11_growth_110 ?_
              have hP9 := hP.sub (ws' := [(Ad0, .inr (14, s120)), (Ad1, .inl (Ka0, 4, .inr (.inr (.inr (.inr Fa0))))), (Ad2, .inr (8, Fs1)), (Ad3, .inr (8, Fs2))]) [0, 1, 3, 2] rfl
              have hD9 := hD.sub (ws' := [(Ad0, .inr (14, s120)), (Ad1, .inl (Ka0, 4, .inr (.inr (.inr (.inr Fa0))))), (Ad2, .inr (8, Fs1)), (Ad3, .inr (8, Fs2))]) [0, 1, 3, 2] (by decide) rfl
              have hK9 := hK.sub (tys' := [(Ka0, .object "HeapWorks$Picture")]) [0] rfl
              refine vx_ret ?_
              refine W.widen (k := 3) (n := 18) (by decide) (by decide) ?_
              exact W.iret (v := 0) hx hb hr (fun t ht hW => ⟨⟨0, s120, rfl, (Or.inr (Or.inl ⟨c104, c105, c109, c110, c111, c112, c113, c114, rfl, o_s120⟩)), by rw [ht]; exact hP9, va_K.moved hW.alike hK9, hD9⟩, hS.F ht⟩) hS.2.2 dX11_growth_113
          · skip
            refine lv_aload_n hx hb dX11_growth_29 rfl (lv_at hl 0 rfl) ?_
            refine lv_aload_n hx hb dX11_growth_30 rfl (lv_at hl 0 rfl) ?_
            refine va_get (D := (dC, dI)) (ci := 14) (v := .ref Ad1) (C := RX11) (T := TX11) (N := 18) hx hb hts (in_z_X11_growth_X11) hown hK hP 0 rfl rfl 4 (by decide) (hts (.fieldLink RX11 41 "HeapWorks" "pictures" "[LHeapWorks$Picture;") (by decide +kernel)) (fun _ h9 => h9) (ow_at o_Fs0 0 rfl) dX11_growth_31 ?_
            refine lv_iload_n hx hb dX11_growth_34 rfl (lv_at hl 2 rfl) ?_
            refine va_aldq hx hb hK hP 1 0 rfl rfl (by rw [vp_in_iff]; (try simp only [i_lt, i_le, i_eq, kc_0, kc_4] at c109 c110); omega) dX11_growth_35 ?_
            refine W.eq (g2 := F0 m 36 ls (.ref Ad3 :: [.ref Ad0])) (by rw [hg0]; rfl) ?_
            refine lv_aload_n hx hb dX11_growth_36 rfl (lv_at hl 0 rfl) ?_
            refine va_get (D := (dC, dI)) (ci := 14) (v := .ref Ad1) (C := RX11) (T := TX11) (N := 18) hx hb hts (in_z_X11_growth_X11) hown hK hP 0 rfl rfl 4 (by decide) (hts (.fieldLink RX11 41 "HeapWorks" "pictures" "[LHeapWorks$Picture;") (by decide +kernel)) (fun _ h9 => h9) (ow_at o_Fs0 0 rfl) dX11_growth_37 ?_
            refine lv_iload_n hx hb dX11_growth_40 rfl (lv_at hl 1 rfl) ?_
            refine va_aldq hx hb hK hP 1 0 rfl rfl (by rw [vp_in_iff]; (try simp only [i_lt, i_le, i_eq, kc_0, kc_4] at c104 c105); omega) dX11_growth_41 ?_
            refine W.eq (g2 := F0 m 42 ls (.ref Ad2 :: [.ref Ad3, .ref Ad0])) (by rw [hg1]; rfl) ?_
            refine lv_aload_n hx hb dX11_growth_42 rfl (lv_at hl 0 rfl) ?_
            refine va_get (D := (dC, dI)) (ci := 14) (v := .ref Br0) (C := RX11) (T := TX11) (N := 18) hx hb hts (in_z_X11_growth_X11) hown hK hP 0 rfl rfl 14 (by decide) (hts (.fieldLink RX11 95 "HeapWorks" "grownThings" "[I") (by decide +kernel)) (fun _ h9 => h9) (ow_at o_Fs0 2 rfl) dX11_growth_43 ?_
            have hPc := hP.sub (ws' := [(Ad3, .inr (8, Fs2))]) [3] rfl
            have hDc := hD.sub (ws' := [(Ad3, .inr (8, Fs2))]) [3] (by decide) rfl
            have hKc := hK.sub (tys' := []) [] rfl
            have hFc := va_free (wc := [(Ad3, .inr (8, Fs2))]) hD hS hA [3] rfl
            refine va_calli (va_runV (As := [.ref Ad2, .ref Br0]) (rest := [.ref Ad0]) ⟨hx, hb, hml, hown, hts⟩ (z_X5_listMissing l dC dI H.size Ad3 Fs2 Ad2 Br0 (fh_sub o_Fs2.2 [0] rfl) ) (cwV 2 hts g_z_X11_growth_z_X5_listMissing_450 rfl rfl rfl (by decide +kernel) ⟨Nat.le_of_ble_eq_true rfl, Nat.le_of_ble_eq_true rfl⟩) ⟨fun a U g mk q => by obtain ⟨q0, q1, qP, qK, qD⟩ := q; exact ⟨q0, q1, qP, va_K.moved (u := U) (U := U.calling g mk a) (Vm.Alike.refl U.vm) qK, qD⟩, va_recv hK hP (ci := 8) (q0 := 3) rfl rfl, fun U hU hW => ⟨rfl, by rw [hU], by rw [hU]; exact hPc, va_K.moved hW.alike hKc, hDc.weaken (fun _ _ _ _ => trivial)⟩⟩ rfl rfl hl.1 rfl (lv_room (Nat.le_of_ble_eq_true rfl)) dX11_growth_46 ⟨Nat.le_of_ble_eq_true rfl, Nat.le_of_ble_eq_true rfl⟩) hS (fun q _ h => hFc q h) hFc (fun r121 u t H1 locs ht hvm hw hB hz1 hk1 hS => ?_)
            obtain ⟨hP1, hK1, hD1⟩ := hB
            rw [ht] at hP1
            try dsimp only at hw
            obtain ⟨hP, hD⟩ := va_join (wr := [(Ad0, .inr (14, Fs0)), (Ad1, .inl (Ka0, 4, .inr (.inr (.inr (.inr Fa0))))), (Ad2, .inr (8, Fs1))]) (w1 := [(Ad3, .inr (8, Fs2))]) hP hD [3] [0, 1, 2] rfl rfl (by decide) (by decide) hk1 hFc hP1 hD1
            have hK := hK.sub (tys' := [(Ka0, .object "HeapWorks$Picture")]) [0] rfl
            generalize H1 = H at hP hS ⊢
            have hP : va_P (dC, dI) vwCl [(Ad0, .inr (14, Fs0)), (Ad1, .inl (Ka0, 4, .inr (.inr (.inr (.inr Fa0))))), (Ad2, .inr (8, Fs1)), (Ad3, .inr (8, Fs2))] H := hP
            have hD : va_D A [(Ad0, .inr (14, Fs0)), (Ad1, .inl (Ka0, 4, .inr (.inr (.inr (.inr Fa0))))), (Ad2, .inr (8, Fs1)), (Ad3, .inr (8, Fs2))] := hD
            have er122 := hw
            subst er122
            refine va_put (D := (dC, dI)) (ci := 14) (v := .int 0) (ty := .int) (C := RX11) (T := TX11) (N := 18) hx hb hts (in_z_X11_growth_X11) tyX11 tyX11_ok nmX11 hown hK hP hD hS 0 rfl rfl 15 (by decide) (hts (.fieldLink RX11 454 "HeapWorks" "grownCount" "I") (by decide +kernel)) (fun _ h9 => h9) rfl (by decide +kernel) rfl rfl (by rw [o_Fs0.2.1]; decide) dX11_growth_49 (fun H locs hP hD hS => ?_)
            have hP : va_P (dC, dI) vwCl [(Ad0, .inr (14, (Fs0.set 15 (.int 0)))), (Ad1, .inl (Ka0, 4, .inr (.inr (.inr (.inr Fa0))))), (Ad2, .inr (8, Fs1)), (Ad3, .inr (8, Fs2))] H := hP
            have hD : va_D A [(Ad0, .inr (14, (Fs0.set 15 (.int 0)))), (Ad1, .inl (Ka0, 4, .inr (.inr (.inr (.inr Fa0))))), (Ad2, .inr (8, Fs1)), (Ad3, .inr (8, Fs2))] := hD
            have o_s123 := ow_set o_Fs0 15 (.int 0) (by decide) (l' := [(15, .int 0), (4, .ref Ad1), (14, .ref Br0)]) (w' := [15]) rfl rfl
            generalize (Fs0.set 15 (.int 0)) = s123 at hP hD o_s123
            refine lv_goto (tgt := 109) hx hb dX11_growth_52 (by decide) ?_
            refine lv_aload_n hx hb dX11_growth_109 rfl (lv_at hl 0 rfl) ?_
            refine va_get (D := (dC, dI)) (ci := 14) (v := .int 0) (C := RX11) (T := TX11) (N := 18) hx hb hts (in_z_X11_growth_X11) hown hK hP 0 rfl rfl 15 (by decide) (hts (.fieldLink RX11 454 "HeapWorks" "grownCount" "I") (by decide +kernel)) (fun _ h9 => h9) (ow_at o_s123 0 rfl) dX11_growth_110 ?_
            have hP9 := hP.sub (ws' := [(Ad0, .inr (14, s123)), (Ad1, .inl (Ka0, 4, .inr (.inr (.inr (.inr Fa0))))), (Ad2, .inr (8, Fs1)), (Ad3, .inr (8, Fs2))]) [0, 1, 2, 3] rfl
            have hD9 := hD.sub (ws' := [(Ad0, .inr (14, s123)), (Ad1, .inl (Ka0, 4, .inr (.inr (.inr (.inr Fa0))))), (Ad2, .inr (8, Fs1)), (Ad3, .inr (8, Fs2))]) [0, 1, 2, 3] (by decide) rfl
            have hK9 := hK.sub (tys' := [(Ka0, .object "HeapWorks$Picture")]) [0] rfl
            refine vx_ret ?_
            refine W.widen (k := 3) (n := 18) (by decide) (by decide) ?_
            exact W.iret (v := 0) hx hb hr (fun t ht hW => ⟨⟨0, s123, rfl, (Or.inr (Or.inr (⟨c104, c105, c109, c110, c111, c112, c113, rfl, o_s123⟩))), by rw [ht]; exact hP9, va_K.moved hW.alike hK9, hD9⟩, hS.F ht⟩) hS.2.2 dX11_growth_113
        · skip
          exact vx_throw0 (names := ["java/lang/RuntimeException", "java/lang/Exception"]) hx hb hst hown (by decide +kernel) (by decide +kernel) (hts (.classLink RX11 120 "java/lang/IndexOutOfBoundsException") (by decide +kernel)) (hts (.initialized "java/lang/IndexOutOfBoundsException") (by decide +kernel)) (vx_hat (B := xB "java/lang/IndexOutOfBoundsException") (fun w h => hts w ((in_z_X11_growth_at0_X11_122) w h)) (by decide +kernel) (Zz_xB hZ (by decide))) (by decide +kernel) hZ.1 hZ.2.1 hS (hl.1.trans hml.symm) dX11_growth_17 dX11_growth_20 dX11_growth_21 dX11_growth_24 (fun x h => (htab x h).elim) (by decide) (Nat.le_of_ble_eq_true rfl) (Nat.le_of_ble_eq_true rfl) (Nat.le_of_ble_eq_true rfl) hlocks (fun t _ h1 h2 => ⟨(), trivial, (Or.inr (Or.inr (Or.inr (Or.inr (Or.inr (⟨rfl, c104, c105, c109, c110, c111, c112⟩)))))), xx_F hS h1 h2⟩) hS.2.2 (by decide) (by decide)

def l_z_X5_listChanged_1 : List Cond := [.fieldLink RX5 82 "HeapWorks$Picture" "things" "I"]
def w_z_X5_listChanged_1 : List Cond := .code yX5_listChanged cX5_listChanged 6 (some .int) :: (l_z_X5_listChanged_1 ++ (wsX50))
theorem in_z_X5_listChanged_1_X5 : ∀ w ∈ wsX50, w ∈ w_z_X5_listChanged_1 := fun w h => List.mem_cons_of_mem _ (List.mem_append_right _ (h))
set_option maxHeartbeats 4000000 in
set_option maxRecDepth 100000 in
theorem z_X5_listChanged_1 (l : Launch) (dC : Nat → ClassId) (dI : Nat → Nat → Nat) (sz : Nat) (Ad0 : Nat) (Fs0 : List Value) (Br0 : Nat) (k_Fs0 : fh Fs0 21 [(0, .int 0)])  : Met l yX5_listChanged w_z_X5_listChanged_1 ({ frames := 0, cells := 0, slots := 0, locals := 0 }) (va_Pc [.ref Ad0, .ref Ad0, .ref Br0] (fun U => U.heap.size = sz ∧ Wd dC dI [] (fun _ => True) [(Ad0, .inr (8, Fs0))] U)) (va_Qi (fun (r : Int32) (u : Unit) => r = 0) (fun (u : Unit) t => Wd dC dI [] (va_A [(Ad0, .inr (8, Fs0))] sz) [(Ad0, .inr (8, Fs0))] t) (va_A [(Ad0, .inr (8, Fs0))] sz))  0 0 (va_A [(Ad0, .inr (8, Fs0))] sz) := by
  refine Met.ofW (cc := cX5_listChanged) (maxL := 6) (ret := (some .int)) (by decide) rfl ?_
  intro p e s m args below meth c s₁ B hml hv
  obtain ⟨rfl, hsz, hP, hK, hD0⟩ := hv
  have hx := B.exec
  have hb := B.bytes
  have hr := B.returns
  have hts := atoms_spec (ws := w_z_X5_listChanged_1) B.pre
  have hown : s.vm.findClass RX5 = some m.cls := findClass_of_methodNamed B.named
  have hlocks := B.notSynchronized
  subst hsz
  have hD := hD0.self (sz := s.heap.size)
  generalize hAe : va_A [(Ad0, .inr (8, Fs0))] s.heap.size = A at hD ⊢
  have hA : ∀ q : Nat, s.heap.size ≤ q → A q := fun q h => by rw [← hAe]; exact Or.inr h
  have hS : va_S A s.heap s.heap [] := va_S.rf
  have hl := lv_entry ([.ref Ad0, .ref Ad0, .ref Br0]) (n := 6) (Nat.le_of_ble_eq_true rfl)
  rw [lg_entry_eq]
  generalize (lg_sl ([.ref Ad0, .ref Ad0, .ref Br0]) ++ List.replicate (6 - (lg_sl ([.ref Ad0, .ref Ad0, .ref Br0])).length) Slot.unset).toArray = ls at hl ⊢
  have hl : lv_has ls 6 [(0, .ref Ad0), (1, .ref Ad0), (2, .ref Br0)] := hl
  have o_Fs0 := ow_0 k_Fs0
  refine lv_iconst (v := 0) hx hb dX5_listChanged_0 (by decide) ?_
  refine lv_istore_n (lv' := [(3, .int 0), (0, .ref Ad0), (1, .ref Ad0), (2, .ref Br0)]) hx hb dX5_listChanged_1 rfl hl (by decide) rfl (fun ls hl => ?_)
  refine lv_iconst (v := 0) hx hb dX5_listChanged_2 (by decide) ?_
  refine lv_istore (lv' := [(4, .int 0), (3, .int 0), (0, .ref Ad0), (1, .ref Ad0), (2, .ref Br0)]) hx hb dX5_listChanged_3 hl (by decide) rfl (fun ls hl => ?_)
  refine lv_iload hx hb dX5_listChanged_5 (lv_at hl 0 rfl) ?_
  refine lv_aload_n hx hb dX5_listChanged_7 rfl (lv_at hl 2 rfl) ?_
  refine va_get (D := (dC, dI)) (ci := 8) (v := .int 0) (C := RX5) (T := TX5) (N := 21) hx hb hts (in_z_X5_listChanged_1_X5) hown hK hP 0 rfl rfl 0 (by decide) (hts (.fieldLink RX5 82 "HeapWorks$Picture" "things" "I") (by decide +kernel)) (fun _ h9 => h9) (ow_at o_Fs0 0 rfl) dX5_listChanged_8 ?_
  refine lv_icmp_ge (tgt := 60) hx hb dX5_listChanged_11 (by decide) (fun c101 => ?_) (fun c101 => absurd c101 (by decide))
  refine lv_iload_n hx hb dX5_listChanged_60 rfl (lv_at hl 1 rfl) ?_
  have hP9 := hP.sub (ws' := [(Ad0, .inr (8, Fs0))]) [0] rfl
  have hD9 := hD.sub (ws' := [(Ad0, .inr (8, Fs0))]) [0] (by decide) rfl
  have hK9 := hK.sub (tys' := []) [] rfl
  exact W.iret (v := 0) hx hb hr (fun t ht hW => ⟨⟨0, (), rfl, rfl, by rw [ht]; exact hP9, va_K.moved hW.alike hK9, hD9⟩, hS.F ht⟩) hS.2.2 dX5_listChanged_61

