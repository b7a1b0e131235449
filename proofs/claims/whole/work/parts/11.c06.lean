def l_z_X5_doubledSizes : List Cond := [.fieldLink RX5 78 "HeapWorks$Picture" "shape" "LHeapWorks$Shape;", .methodLink RX5 189 yX8_needTwins, .instanceMethod yX8_needTwins, .selects RX8 yX8_needTwins yX8_needTwins, .initialized RX8, .fieldLink RX5 82 "HeapWorks$Picture" "things" "I", .code yX8_needTwins cX8_needTwins 6 none, .fieldLink RX8 60 "HeapWorks$Shape" "known" "I", .fieldLink RX8 57 "HeapWorks$Shape" "bucket" "[I", .methodLink RX8 149 yJ7_fill_53178, .static yJ7_fill_53178, .initialized RJ7, .fieldLink RX8 64 "HeapWorks$Picture" "things" "I", .fieldLink RX8 159 "HeapWorks$Shape" "twins" "I", .code yJ7_fill_53178 cJ7_fill_53178 4 none]
def w_z_X5_doubledSizes : List Cond := .code yX5_doubledSizes cX5_doubledSizes 5 (some .int) :: (l_z_X5_doubledSizes ++ ((wsX50 ++ wsX80)))
theorem in_z_X5_doubledSizes_X5 : ∀ w ∈ wsX50, w ∈ w_z_X5_doubledSizes := fun w h => List.mem_cons_of_mem _ (List.mem_append_right _ (List.mem_append_left _ h))
theorem in_z_X5_doubledSizes_X8 : ∀ w ∈ wsX80, w ∈ w_z_X5_doubledSizes := fun w h => List.mem_cons_of_mem _ (List.mem_append_right _ (List.mem_append_right _ (h)))
theorem g_z_X5_doubledSizes_z_X8_needTwins_189 : GoodIn w_z_X5_doubledSizes (wsV RX5 189 RX8 yX8_needTwins w_z_X8_needTwins) := goodIn_app (goodIn_sub (by decide +kernel) (by decide +kernel)) (goodIn_ca (goodIn_sub (by decide +kernel) (by decide +kernel)) (goodIn_app (goodIn_in in_z_X5_doubledSizes_X8 gd_X8) (goodIn_in in_z_X5_doubledSizes_X5 gd_X5)))
set_option maxHeartbeats 4000000 in
set_option maxRecDepth 100000 in
theorem z_X5_doubledSizes (l : Launch) (dC : Nat → ClassId) (dI : Nat → Nat → Nat) (sz : Nat) (Ad0 : Nat) (Fs0 : List Value) (Ad1 : Nat) (Fs1 : List Value) (Ad2 : Nat) (Fa0 : Nat → Int32) (Ka0 : ClassId) (Br0 : Nat) (k_Fs0 : fh Fs0 21 [(0, .int 0), (20, .ref Ad1)]) (k_Fs1 : fh Fs1 18 [(1, .int 0), (17, .ref Ad2)])  : Met l yX5_doubledSizes w_z_X5_doubledSizes ({ frames := 2, cells := 0, slots := 0, locals := 48 }) (va_Pc [.ref Ad0, .ref Br0] (fun U => U.heap.size = sz ∧ Wd dC dI [(Ka0, .int)] (fun _ => True) [(Ad0, .inr (8, Fs0)), (Ad1, .inr (11, Fs1)), (Ad2, .inl (Ka0, 512, .inl Fa0))] U)) (va_Qi (fun (r : Int32) (u : List Value × (Nat → Int32)) => (r = 0 ∧ ow Fs1 (u.1) 18 [11, 1] [(11, .int 0), (1, .int 8), (17, .ref Ad2), (17, .ref Ad2)])) (fun (u : List Value × (Nat → Int32)) t => Wd dC dI [(Ka0, .int)] (va_A [(Ad0, .inr (8, Fs0)), (Ad1, .inr (11, Fs1)), (Ad2, .inl (Ka0, 512, .inl Fa0))] sz) [(Ad0, .inr (8, Fs0)), (Ad1, .inr (11, (u.1))), (Ad2, .inl (Ka0, 512, .inl ((u.2))))] t) (va_A [(Ad0, .inr (8, Fs0)), (Ad1, .inr (11, Fs1)), (Ad2, .inl (Ka0, 512, .inl Fa0))] sz))  0 0 (va_A [(Ad0, .inr (8, Fs0)), (Ad1, .inr (11, Fs1)), (Ad2, .inl (Ka0, 512, .inl Fa0))] sz) := by
  refine Met.ofW (cc := cX5_doubledSizes) (maxL := 5) (ret := (some .int)) (by decide) rfl ?_
  intro p e s m args below meth c s₁ B hml hv
  obtain ⟨rfl, hsz, hP, hK, hD0⟩ := hv
  have hx := B.exec
  have hb := B.bytes
  have hr := B.returns
  have hts := atoms_spec (ws := w_z_X5_doubledSizes) B.pre
  have hown : s.vm.findClass RX5 = some m.cls := findClass_of_methodNamed B.named
  have hlocks := B.notSynchronized
  subst hsz
  have hD := hD0.self (sz := s.heap.size)
  generalize hAe : va_A [(Ad0, .inr (8, Fs0)), (Ad1, .inr (11, Fs1)), (Ad2, .inl (Ka0, 512, .inl Fa0))] s.heap.size = A at hD ⊢
  have hA : ∀ q : Nat, s.heap.size ≤ q → A q := fun q h => by rw [← hAe]; exact Or.inr h
  have hS : va_S A s.heap s.heap [] := va_S.rf
  have hl := lv_entry ([.ref Ad0, .ref Br0]) (n := 5) (Nat.le_of_ble_eq_true rfl)
  rw [lg_entry_eq]
  generalize (lg_sl ([.ref Ad0, .ref Br0]) ++ List.replicate (5 - (lg_sl ([.ref Ad0, .ref Br0])).length) Slot.unset).toArray = ls at hl ⊢
  have hl : lv_has ls 5 [(0, .ref Ad0), (1, .ref Br0)] := hl
  have o_Fs0 := ow_0 k_Fs0
  have o_Fs1 := ow_0 k_Fs1
  refine lv_aload_n hx hb dX5_doubledSizes_0 rfl (lv_at hl 0 rfl) ?_
  refine va_get (D := (dC, dI)) (ci := 8) (v := .ref Ad1) (C := RX5) (T := TX5) (N := 21) hx hb hts (in_z_X5_doubledSizes_X5) hown hK hP 0 rfl rfl 20 (by decide) (hts (.fieldLink RX5 78 "HeapWorks$Picture" "shape" "LHeapWorks$Shape;") (by decide +kernel)) (fun _ h9 => h9) (ow_at o_Fs0 1 rfl) dX5_doubledSizes_1 ?_
  refine lv_aload_n hx hb dX5_doubledSizes_4 rfl (lv_at hl 0 rfl) ?_
  have hPc := hP.sub (ws' := [(Ad0, .inr (8, Fs0)), (Ad1, .inr (11, Fs1)), (Ad2, .inl (Ka0, 512, .inl Fa0))]) [0, 1, 2] rfl
  have hDc := hD.sub (ws' := [(Ad0, .inr (8, Fs0)), (Ad1, .inr (11, Fs1)), (Ad2, .inl (Ka0, 512, .inl Fa0))]) [0, 1, 2] (by decide) rfl
  have hKc := hK.sub (tys' := [(Ka0, .int)]) [0] rfl
  have hFc := va_free (wc := [(Ad0, .inr (8, Fs0)), (Ad1, .inr (11, Fs1)), (Ad2, .inl (Ka0, 512, .inl Fa0))]) hD hS hA [0, 1, 2] rfl
  refine va_callv (va_runV (As := [.ref Ad0]) (rest := []) ⟨hx, hb, hml, hown, hts⟩ (z_X8_needTwins l dC dI s.heap.size Ad0 Fs0 Ad1 Fs1 Ad2 Fa0 Ka0 (fh_sub o_Fs0.2 [0] rfl) (fh_sub o_Fs1.2 [0, 1] rfl) ) (cwV 1 hts g_z_X5_doubledSizes_z_X8_needTwins_189 rfl rfl rfl (by decide +kernel) ⟨Nat.le_of_ble_eq_true rfl, Nat.le_of_ble_eq_true rfl⟩) ⟨fun a U g mk q => by obtain ⟨q0, q1, qP, qK, qD⟩ := q; exact ⟨q0, q1, qP, va_K.moved (u := U) (U := U.calling g mk a) (Vm.Alike.refl U.vm) qK, qD⟩, va_recv hK hP (ci := 11) (q0 := 1) rfl rfl, fun U hU hW => ⟨rfl, by rw [hU], by rw [hU]; exact hPc, va_K.moved hW.alike hKc, hDc.weaken (fun _ _ _ _ => trivial)⟩⟩ rfl rfl hl.1 rfl (lv_room (Nat.le_of_ble_eq_true rfl)) dX5_doubledSizes_5 ⟨Nat.le_of_ble_eq_true rfl, Nat.le_of_ble_eq_true rfl⟩) hS (fun q _ h => hFc q h) hFc (fun u t H1 locs ht hvm hw hB hz1 hk1 hS => ?_)
  obtain ⟨s5132, f5133⟩ := u
  obtain ⟨hP1, hK1, hD1⟩ := hB
  rw [ht] at hP1
  try dsimp only at hw
  obtain ⟨hP, hD⟩ := va_join (wr := []) (w1 := [(Ad0, .inr (8, Fs0)), (Ad1, .inr (11, s5132)), (Ad2, .inl (Ka0, 512, .inl f5133))]) hP hD [0, 1, 2] [] rfl rfl (by decide) (by decide) hk1 hFc hP1 hD1
  have hK := hK.sub (tys' := [(Ka0, .int)]) [0] rfl
  generalize H1 = H at hP hS ⊢
  have hP : va_P (dC, dI) vwCl [(Ad0, .inr (8, Fs0)), (Ad1, .inr (11, s5132)), (Ad2, .inl (Ka0, 512, .inl f5133))] H := hP
  have hD : va_D A [(Ad0, .inr (8, Fs0)), (Ad1, .inr (11, s5132)), (Ad2, .inl (Ka0, 512, .inl f5133))] := hD
  have o_s5132 := hw
  have o_s5132 := ow_on o_Fs1 o_s5132 (l' := [(11, .int 0), (1, .int 8), (17, .ref Ad2), (17, .ref Ad2)]) (w' := [11, 1]) rfl rfl
  refine lv_iconst (v := 0) hx hb dX5_doubledSizes_8 (by decide) ?_
  refine lv_istore_n (lv' := [(2, .int 0), (0, .ref Ad0), (1, .ref Br0)]) hx hb dX5_doubledSizes_9 rfl hl (by decide) rfl (fun ls hl => ?_)
  refine lv_iconst (v := 0) hx hb dX5_doubledSizes_10 (by decide) ?_
  refine lv_istore_n (lv' := [(3, .int 0), (2, .int 0), (0, .ref Ad0), (1, .ref Br0)]) hx hb dX5_doubledSizes_11 rfl hl (by decide) rfl (fun ls hl => ?_)
  refine lv_iconst (v := 0) hx hb dX5_doubledSizes_12 (by decide) ?_
  refine lv_istore (lv' := [(4, .int 0), (3, .int 0), (2, .int 0), (0, .ref Ad0), (1, .ref Br0)]) hx hb dX5_doubledSizes_13 hl (by decide) rfl (fun ls hl => ?_)
  refine lv_iload hx hb dX5_doubledSizes_15 (lv_at hl 0 rfl) ?_
  refine lv_aload_n hx hb dX5_doubledSizes_17 rfl (lv_at hl 3 rfl) ?_
  refine va_get (D := (dC, dI)) (ci := 8) (v := .int 0) (C := RX5) (T := TX5) (N := 21) hx hb hts (in_z_X5_doubledSizes_X5) hown hK hP 0 rfl rfl 0 (by decide) (hts (.fieldLink RX5 82 "HeapWorks$Picture" "things" "I") (by decide +kernel)) (fun _ h9 => h9) (ow_at o_Fs0 0 rfl) dX5_doubledSizes_18 ?_
  refine lv_icmp_ge (tgt := 85) hx hb dX5_doubledSizes_21 (by decide) (fun c5134 => ?_) (fun c5134 => absurd c5134 (by decide))
  refine lv_iload_n hx hb dX5_doubledSizes_85 rfl (lv_at hl 2 rfl) ?_
  have hP9 := hP.sub (ws' := [(Ad0, .inr (8, Fs0)), (Ad1, .inr (11, s5132)), (Ad2, .inl (Ka0, 512, .inl f5133))]) [0, 1, 2] rfl
  have hD9 := hD.sub (ws' := [(Ad0, .inr (8, Fs0)), (Ad1, .inr (11, s5132)), (Ad2, .inl (Ka0, 512, .inl f5133))]) [0, 1, 2] (by decide) rfl
  have hK9 := hK.sub (tys' := [(Ka0, .int)]) [0] rfl
  exact W.iret (v := 0) hx hb hr (fun t ht hW => ⟨⟨0, (s5132, f5133), rfl, ⟨rfl, o_s5132⟩, by rw [ht]; exact hP9, va_K.moved hW.alike hK9, hD9⟩, hS.F ht⟩) hS.2.2 dX5_doubledSizes_86

def l_x_picture : List Cond := [.methodLink RX11 411 yX11_isPicture, .static yX11_isPicture, .initialized RX11, .fieldLink RX11 41 "HeapWorks" "pictures" "[LHeapWorks$Picture;", .fieldLink RX11 356 "HeapWorks$Picture" "things" "I", .methodLink RX11 414 yX5_ringCount, .instanceMethod yX5_ringCount, .selects RX5 yX5_ringCount yX5_ringCount, .initialized RX5, .methodLink RX11 417 yX5_twinCount, .instanceMethod yX5_twinCount, .selects RX5 yX5_twinCount yX5_twinCount, .fieldLink RX11 19 "HeapWorks" "types" "LHeapWorks$Types;", .methodLink RX11 420 yX5_allSizes, .instanceMethod yX5_allSizes, .selects RX5 yX5_allSizes yX5_allSizes, .methodLink RX11 424 yX5_doubledSizes, .instanceMethod yX5_doubledSizes, .selects RX5 yX5_doubledSizes yX5_doubledSizes, .methodLink RX11 116 yX10_isClass, .instanceMethod yX10_isClass, .selects RX10 yX10_isClass yX10_isClass, .initialized RX10, .code yX11_isPicture cX11_isPicture 1 (some .boolean), .code yX5_ringCount cX5_ringCount 1 (some .int), .fieldLink RX5 78 "HeapWorks$Picture" "shape" "LHeapWorks$Shape;", .methodLink RX5 176 yX8_needRings, .instanceMethod yX8_needRings, .selects RX8 yX8_needRings yX8_needRings, .initialized RX8, .fieldLink RX5 182 "HeapWorks$Shape" "rings" "I", .code yX8_needRings cX8_needRings 4 none, .fieldLink RX8 60 "HeapWorks$Shape" "known" "I", .fieldLink RX8 64 "HeapWorks$Picture" "things" "I", .methodLink RX8 123 yX8_numberRings, .instanceMethod yX8_numberRings, .selects RX8 yX8_numberRings yX8_numberRings, .code yX8_numberRings cX8_numberRings 4 none, .fieldLink RX8 45 "HeapWorks$Shape" "low" "[I", .methodLink RX8 67 yJ7_fill_fda19, .static yJ7_fill_fda19, .initialized RJ7, .fieldLink RX8 51 "HeapWorks$Shape" "path" "[I", .fieldLink RX8 142 "HeapWorks$Shape" "rings" "I", .code yJ7_fill_fda19 cJ7_fill_fda19 5 none, .methodLink RJ7 13 yJ7_rangeCheck_23922, .static yJ7_rangeCheck_23922, .code yJ7_rangeCheck_23922 cJ7_rangeCheck_23922 3 none, .code yX5_twinCount cX5_twinCount 1 (some .int), .methodLink RX5 189 yX8_needTwins, .instanceMethod yX8_needTwins, .selects RX8 yX8_needTwins yX8_needTwins, .fieldLink RX5 195 "HeapWorks$Shape" "twins" "I", .code yX8_needTwins cX8_needTwins 6 none, .fieldLink RX8 57 "HeapWorks$Shape" "bucket" "[I", .methodLink RX8 149 yJ7_fill_53178, .static yJ7_fill_53178, .fieldLink RX8 159 "HeapWorks$Shape" "twins" "I", .code yJ7_fill_53178 cJ7_fill_53178 4 none, .code yX5_allSizes cX5_allSizes 4 (some .int), .fieldLink RX5 82 "HeapWorks$Picture" "things" "I", .code yX5_doubledSizes cX5_doubledSizes 5 (some .int), .code yX10_isClass cX10_isClass 2 (some .boolean), .fieldLink RX10 65 "HeapWorks$Types" "count" "I"]
def w_x_picture : List Cond := .code yX11_picture cX11_picture 4 (some .int) :: (l_x_picture ++ ((wsX110 ++ (wsX50 ++ (wsX80 ++ wsX100)))))
theorem in_x_picture_X11 : ∀ w ∈ wsX110, w ∈ w_x_picture := fun w h => List.mem_cons_of_mem _ (List.mem_append_right _ (List.mem_append_left _ h))
theorem in_x_picture_X5 : ∀ w ∈ wsX50, w ∈ w_x_picture := fun w h => List.mem_cons_of_mem _ (List.mem_append_right _ (List.mem_append_right _ (List.mem_append_left _ h)))
theorem in_x_picture_X8 : ∀ w ∈ wsX80, w ∈ w_x_picture := fun w h => List.mem_cons_of_mem _ (List.mem_append_right _ (List.mem_append_right _ (List.mem_append_right _ (List.mem_append_left _ h))))
theorem in_x_picture_X10 : ∀ w ∈ wsX100, w ∈ w_x_picture := fun w h => List.mem_cons_of_mem _ (List.mem_append_right _ (List.mem_append_right _ (List.mem_append_right _ (List.mem_append_right _ (h)))))
theorem g_x_picture_z_X11_isPicture_411 : GoodIn w_x_picture (wsS RX11 411 yX11_isPicture w_z_X11_isPicture) := goodIn_app (goodIn_sub (by decide +kernel) (by decide +kernel)) (goodIn_sub (by decide +kernel) (by decide +kernel))
theorem g_x_picture_z_X5_ringCount_414 : GoodIn w_x_picture (wsV RX11 414 RX5 yX5_ringCount w_z_X5_ringCount) := goodIn_app (goodIn_sub (by decide +kernel) (by decide +kernel)) (goodIn_ca (goodIn_sub (by decide +kernel) (by decide +kernel)) (goodIn_app (goodIn_in in_x_picture_X5 gd_X5) (goodIn_in in_x_picture_X8 gd_X8)))
theorem g_x_picture_z_X5_twinCount_417 : GoodIn w_x_picture (wsV RX11 417 RX5 yX5_twinCount w_z_X5_twinCount) := goodIn_app (goodIn_sub (by decide +kernel) (by decide +kernel)) (goodIn_ca (goodIn_sub (by decide +kernel) (by decide +kernel)) (goodIn_app (goodIn_in in_x_picture_X5 gd_X5) (goodIn_in in_x_picture_X8 gd_X8)))
theorem g_x_picture_z_X5_allSizes_420 : GoodIn w_x_picture (wsV RX11 420 RX5 yX5_allSizes w_z_X5_allSizes) := goodIn_app (goodIn_sub (by decide +kernel) (by decide +kernel)) (goodIn_ca (goodIn_sub (by decide +kernel) (by decide +kernel)) (goodIn_in in_x_picture_X5 gd_X5))
theorem g_x_picture_z_X5_doubledSizes_424 : GoodIn w_x_picture (wsV RX11 424 RX5 yX5_doubledSizes w_z_X5_doubledSizes) := goodIn_app (goodIn_sub (by decide +kernel) (by decide +kernel)) (goodIn_ca (goodIn_sub (by decide +kernel) (by decide +kernel)) (goodIn_app (goodIn_in in_x_picture_X5 gd_X5) (goodIn_in in_x_picture_X8 gd_X8)))
theorem g_x_picture_z_X10_isClass_116 : GoodIn w_x_picture (wsV RX11 116 RX10 yX10_isClass w_z_X10_isClass) := goodIn_app (goodIn_sub (by decide +kernel) (by decide +kernel)) (goodIn_ca (goodIn_sub (by decide +kernel) (by decide +kernel)) (goodIn_in in_x_picture_X10 gd_X10))
set_option maxHeartbeats 4000000 in
set_option maxRecDepth 100000 in
theorem x_picture (l : Launch) (dC : Nat → ClassId) (dI : Nat → Nat → Nat) (sz : Nat) (aX : Nat) (fsX : List Value) (aY : Nat) (fsY : List Value) (qP : Nat) (gP : Nat → Option Nat) (kP : ClassId) (ap : Nat) (fsp : List Value) (aSh : Nat) (fss : List Value) (ql : Nat) (fl : Nat → Int32) (kl : ClassId) (qt : Nat) (ft : Nat → Int32) (kt : ClassId) (qk : Nat) (fk : Nat → Int32) (kk : ClassId) (p0 : Int32) (p1 : Int32) (k_fsX : fh fsX 18 [(1, .ref aY), (4, .ref qP)]) (k_fsY : fh fsY 18 [(0, .int 0)]) (k_fsp : fh fsp 21 [(0, .int 0), (20, .ref aSh)]) (k_fss : fh fss 18 [(1, .int 0), (13, .ref ql), (15, .ref qt), (17, .ref qk), (9, .int 0), (11, .int 0)]) (hg : gP p0.toNatClampNeg = some ap) : Met l yX11_picture w_x_picture ({ frames := 5, cells := 0, slots := 0, locals := 112 }) (va_Pc [.ref aX, .int p0, .int p1] (fun U => U.heap.size = sz ∧ Wd dC dI [(kP, .object "HeapWorks$Picture"), (kl, .int), (kt, .int), (kk, .int)] (fun _ => True) [(aX, .inr (14, fsX)), (aY, .inr (13, fsY)), (qP, .inl (kP, 4, .inr (.inr (.inr (.inr gP))))), (ap, .inr (8, fsp)), (aSh, .inr (11, fss)), (ql, .inl (kl, 400, .inl fl)), (qt, .inl (kt, 400, .inl ft)), (qk, .inl (kk, 512, .inl fk))] U)) (va_Qi (fun (r : Int32) (u : List Value × (Nat → Int32)) => (p0 < 0 ∧ r = (-1) ∧ ow fss (u.1) 18 [] [(1, .int 0), (13, .ref ql), (15, .ref qt), (17, .ref qk), (9, .int 0), (11, .int 0)]) ∨ (¬ p0 < 0 ∧ 4 ≤ p0 ∧ r = (-1) ∧ ow fss (u.1) 18 [] [(1, .int 0), (13, .ref ql), (15, .ref qt), (17, .ref qk), (9, .int 0), (11, .int 0)]) ∨ (¬ p0 < 0 ∧ ¬ 4 ≤ p0 ∧ p1 = 0 ∧ r = 0 ∧ ow fss (u.1) 18 [] [(1, .int 0), (13, .ref ql), (15, .ref qt), (17, .ref qk), (9, .int 0), (11, .int 0)]) ∨ (¬ p0 < 0 ∧ ¬ 4 ≤ p0 ∧ p1 = 1 ∧ r = 0 ∧ ow fss (u.1) 18 [9, 1] [(9, .int 0), (13, .ref ql), (15, .ref qt), (1, .int 4), (13, .ref ql), (15, .ref qt), (13, .ref ql), (15, .ref qt), (13, .ref ql), (15, .ref qt), (17, .ref qk), (11, .int 0)]) ∨ (¬ p0 < 0 ∧ ¬ 4 ≤ p0 ∧ p1 = 2 ∧ r = 0 ∧ ow fss (u.1) 18 [11, 1] [(11, .int 0), (1, .int 8), (17, .ref qk), (17, .ref qk), (13, .ref ql), (15, .ref qt), (17, .ref qk), (9, .int 0)]) ∨ (¬ p0 < 0 ∧ ¬ 4 ≤ p0 ∧ p1 = 3 ∧ r = 0 ∧ ow fss (u.1) 18 [] [(1, .int 0), (13, .ref ql), (15, .ref qt), (17, .ref qk), (9, .int 0), (11, .int 0)]) ∨ (¬ p0 < 0 ∧ ¬ 4 ≤ p0 ∧ p1 = 4 ∧ r = 0 ∧ ow fss (u.1) 18 [11, 1] [(11, .int 0), (1, .int 8), (17, .ref qk), (17, .ref qk), (13, .ref ql), (15, .ref qt), (17, .ref qk), (9, .int 0)]) ∨ (¬ p0 < 0 ∧ ¬ 4 ≤ p0 ∧ p1 = 5 ∧ r = (-1) ∧ ow fss (u.1) 18 [] [(1, .int 0), (13, .ref ql), (15, .ref qt), (17, .ref qk), (9, .int 0), (11, .int 0)]) ∨ (¬ p0 < 0 ∧ ¬ 4 ≤ p0 ∧ ¬ p1 = 0 ∧ ¬ p1 = 1 ∧ ¬ p1 = 2 ∧ ¬ p1 = 3 ∧ ¬ p1 = 4 ∧ ¬ p1 = 5 ∧ p1 < 200 ∧ p1 < 100 ∧ r = (-1) ∧ ow fss (u.1) 18 [] [(1, .int 0), (13, .ref ql), (15, .ref qt), (17, .ref qk), (9, .int 0), (11, .int 0)]) ∨ (¬ p0 < 0 ∧ ¬ 4 ≤ p0 ∧ ¬ p1 = 0 ∧ ¬ p1 = 1 ∧ ¬ p1 = 2 ∧ ¬ p1 = 3 ∧ ¬ p1 = 4 ∧ ¬ p1 = 5 ∧ p1 < 200 ∧ ¬ p1 < 100 ∧ r = (-1) ∧ ow fss (u.1) 18 [] [(1, .int 0), (13, .ref ql), (15, .ref qt), (17, .ref qk), (9, .int 0), (11, .int 0)]) ∨ (¬ p0 < 0 ∧ ¬ 4 ≤ p0 ∧ ¬ p1 = 0 ∧ ¬ p1 = 1 ∧ ¬ p1 = 2 ∧ ¬ p1 = 3 ∧ ¬ p1 = 4 ∧ ¬ p1 = 5 ∧ ¬ p1 < 200 ∧ r = (-1) ∧ ow fss (u.1) 18 [] [(1, .int 0), (13, .ref ql), (15, .ref qt), (17, .ref qk), (9, .int 0), (11, .int 0)])) (fun (u : List Value × (Nat → Int32)) t => Wd dC dI [(kP, .object "HeapWorks$Picture"), (kl, .int), (kt, .int), (kk, .int)] (va_A [(aX, .inr (14, fsX)), (aY, .inr (13, fsY)), (qP, .inl (kP, 4, .inr (.inr (.inr (.inr gP))))), (ap, .inr (8, fsp)), (aSh, .inr (11, fss)), (ql, .inl (kl, 400, .inl fl)), (qt, .inl (kt, 400, .inl ft)), (qk, .inl (kk, 512, .inl fk))] sz) [(aX, .inr (14, fsX)), (aY, .inr (13, fsY)), (qP, .inl (kP, 4, .inr (.inr (.inr (.inr gP))))), (ap, .inr (8, fsp)), (aSh, .inr (11, (u.1))), (ql, .inl (kl, 400, .inl fl)), (qt, .inl (kt, 400, .inl ft)), (qk, .inl (kk, 512, .inl ((u.2))))] t) (va_A [(aX, .inr (14, fsX)), (aY, .inr (13, fsY)), (qP, .inl (kP, 4, .inr (.inr (.inr (.inr gP))))), (ap, .inr (8, fsp)), (aSh, .inr (11, fss)), (ql, .inl (kl, 400, .inl fl)), (qt, .inl (kt, 400, .inl ft)), (qk, .inl (kk, 512, .inl fk))] sz))  0 0 (va_A [(aX, .inr (14, fsX)), (aY, .inr (13, fsY)), (qP, .inl (kP, 4, .inr (.inr (.inr (.inr gP))))), (ap, .inr (8, fsp)), (aSh, .inr (11, fss)), (ql, .inl (kl, 400, .inl fl)), (qt, .inl (kt, 400, .inl ft)), (qk, .inl (kk, 512, .inl fk))] sz) := by
  refine Met.ofW (cc := cX11_picture) (maxL := 4) (ret := (some .int)) (by decide) rfl ?_
  intro p e s m args below meth c s₁ B hml hv
  obtain ⟨rfl, hsz, hP, hK, hD0⟩ := hv
  have hx := B.exec
  have hb := B.bytes
  have hr := B.returns
  have hts := atoms_spec (ws := w_x_picture) B.pre
  have hown : s.vm.findClass RX11 = some m.cls := findClass_of_methodNamed B.named
  have hlocks := B.notSynchronized
  subst hsz
  have hD := hD0.self (sz := s.heap.size)
  generalize hAe : va_A [(aX, .inr (14, fsX)), (aY, .inr (13, fsY)), (qP, .inl (kP, 4, .inr (.inr (.inr (.inr gP))))), (ap, .inr (8, fsp)), (aSh, .inr (11, fss)), (ql, .inl (kl, 400, .inl fl)), (qt, .inl (kt, 400, .inl ft)), (qk, .inl (kk, 512, .inl fk))] s.heap.size = A at hD ⊢
  have hA : ∀ q : Nat, s.heap.size ≤ q → A q := fun q h => by rw [← hAe]; exact Or.inr h
  have hS : va_S A s.heap s.heap [] := va_S.rf
  have hl := lv_entry ([.ref aX, .int p0, .int p1]) (n := 4) (Nat.le_of_ble_eq_true rfl)
  rw [lg_entry_eq]
  generalize (lg_sl ([.ref aX, .int p0, .int p1]) ++ List.replicate (4 - (lg_sl ([.ref aX, .int p0, .int p1])).length) Slot.unset).toArray = ls at hl ⊢
  have hl : lv_has ls 4 [(0, .ref aX), (1, .int p0), (2, .int p1)] := hl
  have o_fsX := ow_0 k_fsX
  have o_fsY := ow_0 k_fsY
  have o_fsp := ow_0 k_fsp
  have o_fss := ow_0 k_fss
  refine lv_iload_n hx hb dX11_picture_0 rfl (lv_at hl 1 rfl) ?_
  have hPc := hP.sub (ws' := []) [] rfl
  have hDc := hD.sub (ws' := []) [] (by decide) rfl
  have hKc := hK.sub (tys' := []) [] rfl
  have hFc := va_free (wc := []) hD hS hA [] rfl
  refine va_calli (va_runS (As := [.int p0]) (rest := []) ⟨hx, hb, hml, hown, hts⟩ (z_X11_isPicture l dC dI s.heap.size p0  ) (cwS 1 hts g_x_picture_z_X11_isPicture_411 rfl rfl rfl (by decide +kernel) ⟨Nat.le_of_ble_eq_true rfl, Nat.le_of_ble_eq_true rfl⟩) ⟨fun a U g mk q => by obtain ⟨q0, q1, qP, qK, qD⟩ := q; exact ⟨q0, q1, qP, va_K.moved (u := U) (U := U.calling g mk a) (Vm.Alike.refl U.vm) qK, qD⟩, fun U hU hW => ⟨rfl, by rw [hU], by rw [hU]; exact hPc, va_K.moved hW.alike hKc, hDc.weaken (fun _ _ _ _ => trivial)⟩⟩ rfl rfl hl.1 rfl (lv_room (Nat.le_of_ble_eq_true rfl)) dX11_picture_1 ⟨Nat.le_of_ble_eq_true rfl, Nat.le_of_ble_eq_true rfl⟩) hS (fun q _ h => hFc q h) hFc (fun r5165 u t H1 locs ht hvm hw hB hz1 hk1 hS => ?_)
  obtain ⟨hP1, hK1, hD1⟩ := hB
  rw [ht] at hP1
  try dsimp only at hw
  obtain ⟨hP, hD⟩ := va_join (wr := [(aX, .inr (14, fsX)), (aY, .inr (13, fsY)), (qP, .inl (kP, 4, .inr (.inr (.inr (.inr gP))))), (ap, .inr (8, fsp)), (aSh, .inr (11, fss)), (ql, .inl (kl, 400, .inl fl)), (qt, .inl (kt, 400, .inl ft)), (qk, .inl (kk, 512, .inl fk))]) (w1 := []) hP hD [] [0, 1, 2, 3, 4, 5, 6, 7] rfl rfl (by decide) (by decide) hk1 hFc hP1 hD1
  have hK := hK.sub (tys' := [(kP, .object "HeapWorks$Picture"), (kl, .int), (kt, .int), (kk, .int)]) [0, 1, 2, 3] rfl
  generalize H1 = H at hP hS ⊢
  have hP : va_P (dC, dI) vwCl [(aX, .inr (14, fsX)), (aY, .inr (13, fsY)), (qP, .inl (kP, 4, .inr (.inr (.inr (.inr gP))))), (ap, .inr (8, fsp)), (aSh, .inr (11, fss)), (ql, .inl (kl, 400, .inl fl)), (qt, .inl (kt, 400, .inl ft)), (qk, .inl (kk, 512, .inl fk))] H := hP
  have hD : va_D A [(aX, .inr (14, fsX)), (aY, .inr (13, fsY)), (qP, .inl (kP, 4, .inr (.inr (.inr (.inr gP))))), (ap, .inr (8, fsp)), (aSh, .inr (11, fss)), (ql, .inl (kl, 400, .inl fl)), (qt, .inl (kt, 400, .inl ft)), (qk, .inl (kk, 512, .inl fk))] := hD
  rcases hw with ⟨c5166, er5167⟩ | ⟨c5168, c5169, er5170⟩ | ⟨c5171, c5172, er5173⟩
  · skip
    subst er5167
    refine lv_if_ne (tgt := 9) hx hb dX11_picture_4 (by decide) (fun c5174 => absurd c5174 (by decide)) (fun c5174 => ?_)
    refine lv_iconst (v := (-1)) hx hb dX11_picture_7 (by decide) ?_
    have hP9 := hP.sub (ws' := [(aX, .inr (14, fsX)), (aY, .inr (13, fsY)), (qP, .inl (kP, 4, .inr (.inr (.inr (.inr gP))))), (ap, .inr (8, fsp)), (aSh, .inr (11, fss)), (ql, .inl (kl, 400, .inl fl)), (qt, .inl (kt, 400, .inl ft)), (qk, .inl (kk, 512, .inl fk))]) [0, 1, 2, 3, 4, 5, 6, 7] rfl
    have hD9 := hD.sub (ws' := [(aX, .inr (14, fsX)), (aY, .inr (13, fsY)), (qP, .inl (kP, 4, .inr (.inr (.inr (.inr gP))))), (ap, .inr (8, fsp)), (aSh, .inr (11, fss)), (ql, .inl (kl, 400, .inl fl)), (qt, .inl (kt, 400, .inl ft)), (qk, .inl (kk, 512, .inl fk))]) [0, 1, 2, 3, 4, 5, 6, 7] (by decide) rfl
    have hK9 := hK.sub (tys' := [(kP, .object "HeapWorks$Picture"), (kl, .int), (kt, .int), (kk, .int)]) [0, 1, 2, 3] rfl
    exact W.iret (v := (-1)) hx hb hr (fun t ht hW => ⟨⟨(-1), (fss, fk), rfl, (Or.inl ⟨c5166, rfl, o_fss⟩), by rw [ht]; exact hP9, va_K.moved hW.alike hK9, hD9⟩, hS.F ht⟩) hS.2.2 dX11_picture_8
  · skip
    subst er5170
    refine lv_if_ne (tgt := 9) hx hb dX11_picture_4 (by decide) (fun c5175 => absurd c5175 (by decide)) (fun c5175 => ?_)
    refine lv_iconst (v := (-1)) hx hb dX11_picture_7 (by decide) ?_
    have hP9 := hP.sub (ws' := [(aX, .inr (14, fsX)), (aY, .inr (13, fsY)), (qP, .inl (kP, 4, .inr (.inr (.inr (.inr gP))))), (ap, .inr (8, fsp)), (aSh, .inr (11, fss)), (ql, .inl (kl, 400, .inl fl)), (qt, .inl (kt, 400, .inl ft)), (qk, .inl (kk, 512, .inl fk))]) [0, 1, 2, 3, 4, 5, 6, 7] rfl
    have hD9 := hD.sub (ws' := [(aX, .inr (14, fsX)), (aY, .inr (13, fsY)), (qP, .inl (kP, 4, .inr (.inr (.inr (.inr gP))))), (ap, .inr (8, fsp)), (aSh, .inr (11, fss)), (ql, .inl (kl, 400, .inl fl)), (qt, .inl (kt, 400, .inl ft)), (qk, .inl (kk, 512, .inl fk))]) [0, 1, 2, 3, 4, 5, 6, 7] (by decide) rfl
    have hK9 := hK.sub (tys' := [(kP, .object "HeapWorks$Picture"), (kl, .int), (kt, .int), (kk, .int)]) [0, 1, 2, 3] rfl
    exact W.iret (v := (-1)) hx hb hr (fun t ht hW => ⟨⟨(-1), (fss, fk), rfl, (Or.inr (Or.inl ⟨c5168, c5169, rfl, o_fss⟩)), by rw [ht]; exact hP9, va_K.moved hW.alike hK9, hD9⟩, hS.F ht⟩) hS.2.2 dX11_picture_8
  · skip
    subst er5173
    refine lv_if_ne (tgt := 9) hx hb dX11_picture_4 (by decide) (fun c5176 => ?_) (fun c5176 => absurd c5176 (by decide))
    refine lv_aload_n hx hb dX11_picture_9 rfl (lv_at hl 0 rfl) ?_
    refine va_get (D := (dC, dI)) (ci := 14) (v := .ref qP) (C := RX11) (T := TX11) (N := 18) hx hb hts (in_x_picture_X11) hown hK hP 0 rfl rfl 4 (by decide) (hts (.fieldLink RX11 41 "HeapWorks" "pictures" "[LHeapWorks$Picture;") (by decide +kernel)) (fun _ h9 => h9) (ow_at o_fsX 1 rfl) dX11_picture_10 ?_
    refine lv_iload_n hx hb dX11_picture_13 rfl (lv_at hl 1 rfl) ?_
    refine va_aldq hx hb hK hP 2 0 rfl rfl (by rw [vp_in_iff]; (try simp only [i_lt, i_le, i_eq, kc_0, kc_4] at c5171 c5172); omega) dX11_picture_14 ?_
    refine W.eq (g2 := F0 m 15 ls (.ref ap :: [])) (by rw [hg]; rfl) ?_
    refine lv_astore_n (lv' := [(3, .ref ap), (0, .ref aX), (1, .int p0), (2, .int p1)]) hx hb dX11_picture_15 rfl hl (by decide) rfl (fun ls hl => ?_)
    refine lv_iload_n hx hb dX11_picture_16 rfl (lv_at hl 3 rfl) ?_
    by_cases c5177 : p1 = 0
    · refine lv_tableIn (off := 39) (tgt := 56) hx hb dX11_picture_17 (by rw [c5177]; decide) (by rw [c5177]; decide) (by rw [c5177]; decide) (by decide) ?_
      refine lv_aload_n hx hb dX11_picture_56 rfl (lv_at hl 0 rfl) ?_
      refine va_get (D := (dC, dI)) (ci := 8) (v := .int 0) (C := RX5) (T := TX5) (N := 21) hx hb hts (in_x_picture_X5) hown hK hP 3 rfl rfl 0 (by decide) (hts (.fieldLink RX11 356 "HeapWorks$Picture" "things" "I") (by decide +kernel)) (fun _ h9 => h9) (ow_at o_fsp 0 rfl) dX11_picture_57 ?_
      have hP9 := hP.sub (ws' := [(aX, .inr (14, fsX)), (aY, .inr (13, fsY)), (qP, .inl (kP, 4, .inr (.inr (.inr (.inr gP))))), (ap, .inr (8, fsp)), (aSh, .inr (11, fss)), (ql, .inl (kl, 400, .inl fl)), (qt, .inl (kt, 400, .inl ft)), (qk, .inl (kk, 512, .inl fk))]) [0, 1, 2, 3, 4, 5, 6, 7] rfl
      have hD9 := hD.sub (ws' := [(aX, .inr (14, fsX)), (aY, .inr (13, fsY)), (qP, .inl (kP, 4, .inr (.inr (.inr (.inr gP))))), (ap, .inr (8, fsp)), (aSh, .inr (11, fss)), (ql, .inl (kl, 400, .inl fl)), (qt, .inl (kt, 400, .inl ft)), (qk, .inl (kk, 512, .inl fk))]) [0, 1, 2, 3, 4, 5, 6, 7] (by decide) rfl
      have hK9 := hK.sub (tys' := [(kP, .object "HeapWorks$Picture"), (kl, .int), (kt, .int), (kk, .int)]) [0, 1, 2, 3] rfl
      exact W.iret (v := 0) hx hb hr (fun t ht hW => ⟨⟨0, (fss, fk), rfl, (Or.inr (Or.inr (Or.inl ⟨c5171, c5172, c5177, rfl, o_fss⟩))), by rw [ht]; exact hP9, va_K.moved hW.alike hK9, hD9⟩, hS.F ht⟩) hS.2.2 dX11_picture_60
    by_cases c5178 : p1 = 1
    · refine lv_tableIn (off := 44) (tgt := 61) hx hb dX11_picture_17 (by rw [c5178]; decide) (by rw [c5178]; decide) (by rw [c5178]; decide) (by decide) ?_
      refine lv_aload_n hx hb dX11_picture_61 rfl (lv_at hl 0 rfl) ?_
      have hPc := hP.sub (ws' := [(ap, .inr (8, fsp)), (aSh, .inr (11, fss)), (ql, .inl (kl, 400, .inl fl)), (qt, .inl (kt, 400, .inl ft))]) [3, 4, 5, 6] rfl
      have hDc := hD.sub (ws' := [(ap, .inr (8, fsp)), (aSh, .inr (11, fss)), (ql, .inl (kl, 400, .inl fl)), (qt, .inl (kt, 400, .inl ft))]) [3, 4, 5, 6] (by decide) rfl
      have hKc := hK.sub (tys' := [(kl, .int), (kt, .int)]) [1, 2] rfl
      have hFc := va_free (wc := [(ap, .inr (8, fsp)), (aSh, .inr (11, fss)), (ql, .inl (kl, 400, .inl fl)), (qt, .inl (kt, 400, .inl ft))]) hD hS hA [3, 4, 5, 6] rfl
      refine va_calli (va_runV (As := []) (rest := []) ⟨hx, hb, hml, hown, hts⟩ (z_X5_ringCount l dC dI H.size ap fsp aSh fss ql fl kl qt ft kt (fh_sub o_fsp.2 [0, 1] rfl) (fh_sub o_fss.2 [0, 1, 2, 4] rfl) ) (cwV 0 hts g_x_picture_z_X5_ringCount_414 rfl rfl rfl (by decide +kernel) ⟨Nat.le_of_ble_eq_true rfl, Nat.le_of_ble_eq_true rfl⟩) ⟨fun a U g mk q => by obtain ⟨q0, q1, qP, qK, qD⟩ := q; exact ⟨q0, q1, qP, va_K.moved (u := U) (U := U.calling g mk a) (Vm.Alike.refl U.vm) qK, qD⟩, va_recv hK hP (ci := 8) (q0 := 3) rfl rfl, fun U hU hW => ⟨rfl, by rw [hU], by rw [hU]; exact hPc, va_K.moved hW.alike hKc, hDc.weaken (fun _ _ _ _ => trivial)⟩⟩ rfl rfl hl.1 rfl (lv_room (Nat.le_of_ble_eq_true rfl)) dX11_picture_62 ⟨Nat.le_of_ble_eq_true rfl, Nat.le_of_ble_eq_true rfl⟩) hS (fun q _ h => hFc q h) hFc (fun r5198 u t H1 locs ht hvm hw hB hz1 hk1 hS => ?_)
      obtain ⟨s5199, rfl⟩ : ∃ z, z = u := ⟨_, rfl⟩
      obtain ⟨hP1, hK1, hD1⟩ := hB
      rw [ht] at hP1
      try dsimp only at hw
      obtain ⟨hP, hD⟩ := va_join (wr := [(aX, .inr (14, fsX)), (aY, .inr (13, fsY)), (qP, .inl (kP, 4, .inr (.inr (.inr (.inr gP))))), (qk, .inl (kk, 512, .inl fk))]) (w1 := [(ap, .inr (8, fsp)), (aSh, .inr (11, s5199)), (ql, .inl (kl, 400, .inl fl)), (qt, .inl (kt, 400, .inl ft))]) hP hD [3, 4, 5, 6] [0, 1, 2, 7] rfl rfl (by decide) (by decide) hk1 hFc hP1 hD1
      have hK := hK.sub (tys' := [(kP, .object "HeapWorks$Picture"), (kk, .int), (kl, .int), (kt, .int)]) [0, 3, 1, 2] rfl
      generalize H1 = H at hP hS ⊢
      have hP : va_P (dC, dI) vwCl [(aX, .inr (14, fsX)), (aY, .inr (13, fsY)), (qP, .inl (kP, 4, .inr (.inr (.inr (.inr gP))))), (qk, .inl (kk, 512, .inl fk)), (ap, .inr (8, fsp)), (aSh, .inr (11, s5199)), (ql, .inl (kl, 400, .inl fl)), (qt, .inl (kt, 400, .inl ft))] H := hP
      have hD : va_D A [(aX, .inr (14, fsX)), (aY, .inr (13, fsY)), (qP, .inl (kP, 4, .inr (.inr (.inr (.inr gP))))), (qk, .inl (kk, 512, .inl fk)), (ap, .inr (8, fsp)), (aSh, .inr (11, s5199)), (ql, .inl (kl, 400, .inl fl)), (qt, .inl (kt, 400, .inl ft))] := hD
      obtain ⟨er5200, o_s5199⟩ := hw
      subst er5200
      have o_s5199 := ow_on o_fss o_s5199 (l' := [(9, .int 0), (13, .ref ql), (15, .ref qt), (1, .int 4), (13, .ref ql), (15, .ref qt), (13, .ref ql), (15, .ref qt), (13, .ref ql), (15, .ref qt), (17, .ref qk), (11, .int 0)]) (w' := [9, 1]) rfl rfl
      have hP9 := hP.sub (ws' := [(aX, .inr (14, fsX)), (aY, .inr (13, fsY)), (qP, .inl (kP, 4, .inr (.inr (.inr (.inr gP))))), (ap, .inr (8, fsp)), (aSh, .inr (11, s5199)), (ql, .inl (kl, 400, .inl fl)), (qt, .inl (kt, 400, .inl ft)), (qk, .inl (kk, 512, .inl fk))]) [0, 1, 2, 4, 5, 6, 7, 3] rfl
      have hD9 := hD.sub (ws' := [(aX, .inr (14, fsX)), (aY, .inr (13, fsY)), (qP, .inl (kP, 4, .inr (.inr (.inr (.inr gP))))), (ap, .inr (8, fsp)), (aSh, .inr (11, s5199)), (ql, .inl (kl, 400, .inl fl)), (qt, .inl (kt, 400, .inl ft)), (qk, .inl (kk, 512, .inl fk))]) [0, 1, 2, 4, 5, 6, 7, 3] (by decide) rfl
      have hK9 := hK.sub (tys' := [(kP, .object "HeapWorks$Picture"), (kl, .int), (kt, .int), (kk, .int)]) [0, 2, 3, 1] rfl
      exact W.iret (v := 0) hx hb hr (fun t ht hW => ⟨⟨0, (s5199, fk), rfl, (Or.inr (Or.inr (Or.inr (Or.inl ⟨c5171, c5172, c5178, rfl, o_s5199⟩)))), by rw [ht]; exact hP9, va_K.moved hW.alike hK9, hD9⟩, hS.F ht⟩) hS.2.2 dX11_picture_65
    by_cases c5201 : p1 = 2
    · refine lv_tableIn (off := 49) (tgt := 66) hx hb dX11_picture_17 (by rw [c5201]; decide) (by rw [c5201]; decide) (by rw [c5201]; decide) (by decide) ?_
      refine lv_aload_n hx hb dX11_picture_66 rfl (lv_at hl 0 rfl) ?_
      have hPc := hP.sub (ws' := [(ap, .inr (8, fsp)), (aSh, .inr (11, fss)), (qk, .inl (kk, 512, .inl fk))]) [3, 4, 7] rfl
      have hDc := hD.sub (ws' := [(ap, .inr (8, fsp)), (aSh, .inr (11, fss)), (qk, .inl (kk, 512, .inl fk))]) [3, 4, 7] (by decide) rfl
      have hKc := hK.sub (tys' := [(kk, .int)]) [3] rfl
      have hFc := va_free (wc := [(ap, .inr (8, fsp)), (aSh, .inr (11, fss)), (qk, .inl (kk, 512, .inl fk))]) hD hS hA [3, 4, 7] rfl
      refine va_calli (va_runV (As := []) (rest := []) ⟨hx, hb, hml, hown, hts⟩ (z_X5_twinCount l dC dI H.size ap fsp aSh fss qk fk kk (fh_sub o_fsp.2 [0, 1] rfl) (fh_sub o_fss.2 [0, 3, 5] rfl) ) (cwV 0 hts g_x_picture_z_X5_twinCount_417 rfl rfl rfl (by decide +kernel) ⟨Nat.le_of_ble_eq_true rfl, Nat.le_of_ble_eq_true rfl⟩) ⟨fun a U g mk q => by obtain ⟨q0, q1, qP, qK, qD⟩ := q; exact ⟨q0, q1, qP, va_K.moved (u := U) (U := U.calling g mk a) (Vm.Alike.refl U.vm) qK, qD⟩, va_recv hK hP (ci := 8) (q0 := 3) rfl rfl, fun U hU hW => ⟨rfl, by rw [hU], by rw [hU]; exact hPc, va_K.moved hW.alike hKc, hDc.weaken (fun _ _ _ _ => trivial)⟩⟩ rfl rfl hl.1 rfl (lv_room (Nat.le_of_ble_eq_true rfl)) dX11_picture_67 ⟨Nat.le_of_ble_eq_true rfl, Nat.le_of_ble_eq_true rfl⟩) hS (fun q _ h => hFc q h) hFc (fun r5247 u t H1 locs ht hvm hw hB hz1 hk1 hS => ?_)
      obtain ⟨s5248, f5249⟩ := u
      obtain ⟨hP1, hK1, hD1⟩ := hB
      rw [ht] at hP1
      try dsimp only at hw
      obtain ⟨hP, hD⟩ := va_join (wr := [(aX, .inr (14, fsX)), (aY, .inr (13, fsY)), (qP, .inl (kP, 4, .inr (.inr (.inr (.inr gP))))), (ql, .inl (kl, 400, .inl fl)), (qt, .inl (kt, 400, .inl ft))]) (w1 := [(ap, .inr (8, fsp)), (aSh, .inr (11, s5248)), (qk, .inl (kk, 512, .inl f5249))]) hP hD [3, 4, 7] [0, 1, 2, 5, 6] rfl rfl (by decide) (by decide) hk1 hFc hP1 hD1
      have hK := hK.sub (tys' := [(kP, .object "HeapWorks$Picture"), (kl, .int), (kt, .int), (kk, .int)]) [0, 1, 2, 3] rfl
      generalize H1 = H at hP hS ⊢
      have hP : va_P (dC, dI) vwCl [(aX, .inr (14, fsX)), (aY, .inr (13, fsY)), (qP, .inl (kP, 4, .inr (.inr (.inr (.inr gP))))), (ql, .inl (kl, 400, .inl fl)), (qt, .inl (kt, 400, .inl ft)), (ap, .inr (8, fsp)), (aSh, .inr (11, s5248)), (qk, .inl (kk, 512, .inl f5249))] H := hP
      have hD : va_D A [(aX, .inr (14, fsX)), (aY, .inr (13, fsY)), (qP, .inl (kP, 4, .inr (.inr (.inr (.inr gP))))), (ql, .inl (kl, 400, .inl fl)), (qt, .inl (kt, 400, .inl ft)), (ap, .inr (8, fsp)), (aSh, .inr (11, s5248)), (qk, .inl (kk, 512, .inl f5249))] := hD
      obtain ⟨er5250, o_s5248⟩ := hw
      subst er5250
      have o_s5248 := ow_on o_fss o_s5248 (l' := [(11, .int 0), (1, .int 8), (17, .ref qk), (17, .ref qk), (13, .ref ql), (15, .ref qt), (17, .ref qk), (9, .int 0)]) (w' := [11, 1]) rfl rfl
      have hP9 := hP.sub (ws' := [(aX, .inr (14, fsX)), (aY, .inr (13, fsY)), (qP, .inl (kP, 4, .inr (.inr (.inr (.inr gP))))), (ap, .inr (8, fsp)), (aSh, .inr (11, s5248)), (ql, .inl (kl, 400, .inl fl)), (qt, .inl (kt, 400, .inl ft)), (qk, .inl (kk, 512, .inl f5249))]) [0, 1, 2, 5, 6, 3, 4, 7] rfl
      have hD9 := hD.sub (ws' := [(aX, .inr (14, fsX)), (aY, .inr (13, fsY)), (qP, .inl (kP, 4, .inr (.inr (.inr (.inr gP))))), (ap, .inr (8, fsp)), (aSh, .inr (11, s5248)), (ql, .inl (kl, 400, .inl fl)), (qt, .inl (kt, 400, .inl ft)), (qk, .inl (kk, 512, .inl f5249))]) [0, 1, 2, 5, 6, 3, 4, 7] (by decide) rfl
      have hK9 := hK.sub (tys' := [(kP, .object "HeapWorks$Picture"), (kl, .int), (kt, .int), (kk, .int)]) [0, 1, 2, 3] rfl
      exact W.iret (v := 0) hx hb hr (fun t ht hW => ⟨⟨0, (s5248, f5249), rfl, (Or.inr (Or.inr (Or.inr (Or.inr (Or.inl ⟨c5171, c5172, c5201, rfl, o_s5248⟩))))), by rw [ht]; exact hP9, va_K.moved hW.alike hK9, hD9⟩, hS.F ht⟩) hS.2.2 dX11_picture_70
    by_cases c5251 : p1 = 3
    · refine lv_tableIn (off := 54) (tgt := 71) hx hb dX11_picture_17 (by rw [c5251]; decide) (by rw [c5251]; decide) (by rw [c5251]; decide) (by decide) ?_
      refine lv_aload_n hx hb dX11_picture_71 rfl (lv_at hl 0 rfl) ?_
      refine lv_aload_n hx hb dX11_picture_72 rfl (lv_at hl 1 rfl) ?_
      refine va_get (D := (dC, dI)) (ci := 14) (v := .ref aY) (C := RX11) (T := TX11) (N := 18) hx hb hts (in_x_picture_X11) hown hK hP 0 rfl rfl 1 (by decide) (hts (.fieldLink RX11 19 "HeapWorks" "types" "LHeapWorks$Types;") (by decide +kernel)) (fun _ h9 => h9) (ow_at o_fsX 0 rfl) dX11_picture_73 ?_
      have hPc := hP.sub (ws' := [(ap, .inr (8, fsp))]) [3] rfl
      have hDc := hD.sub (ws' := [(ap, .inr (8, fsp))]) [3] (by decide) rfl
      have hKc := hK.sub (tys' := []) [] rfl
      have hFc := va_free (wc := [(ap, .inr (8, fsp))]) hD hS hA [3] rfl
      refine va_calli (va_runV (As := [.ref aY]) (rest := []) ⟨hx, hb, hml, hown, hts⟩ (z_X5_allSizes l dC dI H.size ap fsp aY (fh_sub o_fsp.2 [0] rfl) ) (cwV 1 hts g_x_picture_z_X5_allSizes_420 rfl rfl rfl (by decide +kernel) ⟨Nat.le_of_ble_eq_true rfl, Nat.le_of_ble_eq_true rfl⟩) ⟨fun a U g mk q => by obtain ⟨q0, q1, qP, qK, qD⟩ := q; exact ⟨q0, q1, qP, va_K.moved (u := U) (U := U.calling g mk a) (Vm.Alike.refl U.vm) qK, qD⟩, va_recv hK hP (ci := 8) (q0 := 3) rfl rfl, fun U hU hW => ⟨rfl, by rw [hU], by rw [hU]; exact hPc, va_K.moved hW.alike hKc, hDc.weaken (fun _ _ _ _ => trivial)⟩⟩ rfl rfl hl.1 rfl (lv_room (Nat.le_of_ble_eq_true rfl)) dX11_picture_76 ⟨Nat.le_of_ble_eq_true rfl, Nat.le_of_ble_eq_true rfl⟩) hS (fun q _ h => hFc q h) hFc (fun r5253 u t H1 locs ht hvm hw hB hz1 hk1 hS => ?_)
      obtain ⟨hP1, hK1, hD1⟩ := hB
      rw [ht] at hP1
      try dsimp only at hw
      obtain ⟨hP, hD⟩ := va_join (wr := [(aX, .inr (14, fsX)), (aY, .inr (13, fsY)), (qP, .inl (kP, 4, .inr (.inr (.inr (.inr gP))))), (aSh, .inr (11, fss)), (ql, .inl (kl, 400, .inl fl)), (qt, .inl (kt, 400, .inl ft)), (qk, .inl (kk, 512, .inl fk))]) (w1 := [(ap, .inr (8, fsp))]) hP hD [3] [0, 1, 2, 4, 5, 6, 7] rfl rfl (by decide) (by decide) hk1 hFc hP1 hD1
      have hK := hK.sub (tys' := [(kP, .object "HeapWorks$Picture"), (kl, .int), (kt, .int), (kk, .int)]) [0, 1, 2, 3] rfl
      generalize H1 = H at hP hS ⊢
      have hP : va_P (dC, dI) vwCl [(aX, .inr (14, fsX)), (aY, .inr (13, fsY)), (qP, .inl (kP, 4, .inr (.inr (.inr (.inr gP))))), (aSh, .inr (11, fss)), (ql, .inl (kl, 400, .inl fl)), (qt, .inl (kt, 400, .inl ft)), (qk, .inl (kk, 512, .inl fk)), (ap, .inr (8, fsp))] H := hP
      have hD : va_D A [(aX, .inr (14, fsX)), (aY, .inr (13, fsY)), (qP, .inl (kP, 4, .inr (.inr (.inr (.inr gP))))), (aSh, .inr (11, fss)), (ql, .inl (kl, 400, .inl fl)), (qt, .inl (kt, 400, .inl ft)), (qk, .inl (kk, 512, .inl fk)), (ap, .inr (8, fsp))] := hD
      have er5254 := hw
      subst er5254
      have hP9 := hP.sub (ws' := [(aX, .inr (14, fsX)), (aY, .inr (13, fsY)), (qP, .inl (kP, 4, .inr (.inr (.inr (.inr gP))))), (ap, .inr (8, fsp)), (aSh, .inr (11, fss)), (ql, .inl (kl, 400, .inl fl)), (qt, .inl (kt, 400, .inl ft)), (qk, .inl (kk, 512, .inl fk))]) [0, 1, 2, 7, 3, 4, 5, 6] rfl
      have hD9 := hD.sub (ws' := [(aX, .inr (14, fsX)), (aY, .inr (13, fsY)), (qP, .inl (kP, 4, .inr (.inr (.inr (.inr gP))))), (ap, .inr (8, fsp)), (aSh, .inr (11, fss)), (ql, .inl (kl, 400, .inl fl)), (qt, .inl (kt, 400, .inl ft)), (qk, .inl (kk, 512, .inl fk))]) [0, 1, 2, 7, 3, 4, 5, 6] (by decide) rfl
      have hK9 := hK.sub (tys' := [(kP, .object "HeapWorks$Picture"), (kl, .int), (kt, .int), (kk, .int)]) [0, 1, 2, 3] rfl
      exact W.iret (v := 0) hx hb hr (fun t ht hW => ⟨⟨0, (fss, fk), rfl, (Or.inr (Or.inr (Or.inr (Or.inr (Or.inr (Or.inl ⟨c5171, c5172, c5251, rfl, o_fss⟩)))))), by rw [ht]; exact hP9, va_K.moved hW.alike hK9, hD9⟩, hS.F ht⟩) hS.2.2 dX11_picture_79
    by_cases c5255 : p1 = 4
    · refine lv_tableIn (off := 63) (tgt := 80) hx hb dX11_picture_17 (by rw [c5255]; decide) (by rw [c5255]; decide) (by rw [c5255]; decide) (by decide) ?_
      refine lv_aload_n hx hb dX11_picture_80 rfl (lv_at hl 0 rfl) ?_
      refine lv_aload_n hx hb dX11_picture_81 rfl (lv_at hl 1 rfl) ?_
      refine va_get (D := (dC, dI)) (ci := 14) (v := .ref aY) (C := RX11) (T := TX11) (N := 18) hx hb hts (in_x_picture_X11) hown hK hP 0 rfl rfl 1 (by decide) (hts (.fieldLink RX11 19 "HeapWorks" "types" "LHeapWorks$Types;") (by decide +kernel)) (fun _ h9 => h9) (ow_at o_fsX 0 rfl) dX11_picture_82 ?_
      have hPc := hP.sub (ws' := [(ap, .inr (8, fsp)), (aSh, .inr (11, fss)), (qk, .inl (kk, 512, .inl fk))]) [3, 4, 7] rfl
      have hDc := hD.sub (ws' := [(ap, .inr (8, fsp)), (aSh, .inr (11, fss)), (qk, .inl (kk, 512, .inl fk))]) [3, 4, 7] (by decide) rfl
      have hKc := hK.sub (tys' := [(kk, .int)]) [3] rfl
      have hFc := va_free (wc := [(ap, .inr (8, fsp)), (aSh, .inr (11, fss)), (qk, .inl (kk, 512, .inl fk))]) hD hS hA [3, 4, 7] rfl
      refine va_calli (va_runV (As := [.ref aY]) (rest := []) ⟨hx, hb, hml, hown, hts⟩ (z_X5_doubledSizes l dC dI H.size ap fsp aSh fss qk fk kk aY (fh_sub o_fsp.2 [0, 1] rfl) (fh_sub o_fss.2 [0, 3] rfl) ) (cwV 1 hts g_x_picture_z_X5_doubledSizes_424 rfl rfl rfl (by decide +kernel) ⟨Nat.le_of_ble_eq_true rfl, Nat.le_of_ble_eq_true rfl⟩) ⟨fun a U g mk q => by obtain ⟨q0, q1, qP, qK, qD⟩ := q; exact ⟨q0, q1, qP, va_K.moved (u := U) (U := U.calling g mk a) (Vm.Alike.refl U.vm) qK, qD⟩, va_recv hK hP (ci := 8) (q0 := 3) rfl rfl, fun U hU hW => ⟨rfl, by rw [hU], by rw [hU]; exact hPc, va_K.moved hW.alike hKc, hDc.weaken (fun _ _ _ _ => trivial)⟩⟩ rfl rfl hl.1 rfl (lv_room (Nat.le_of_ble_eq_true rfl)) dX11_picture_85 ⟨Nat.le_of_ble_eq_true rfl, Nat.le_of_ble_eq_true rfl⟩) hS (fun q _ h => hFc q h) hFc (fun r5302 u t H1 locs ht hvm hw hB hz1 hk1 hS => ?_)
      obtain ⟨s5303, f5304⟩ := u
      obtain ⟨hP1, hK1, hD1⟩ := hB
      rw [ht] at hP1
      try dsimp only at hw
      obtain ⟨hP, hD⟩ := va_join (wr := [(aX, .inr (14, fsX)), (aY, .inr (13, fsY)), (qP, .inl (kP, 4, .inr (.inr (.inr (.inr gP))))), (ql, .inl (kl, 400, .inl fl)), (qt, .inl (kt, 400, .inl ft))]) (w1 := [(ap, .inr (8, fsp)), (aSh, .inr (11, s5303)), (qk, .inl (kk, 512, .inl f5304))]) hP hD [3, 4, 7] [0, 1, 2, 5, 6] rfl rfl (by decide) (by decide) hk1 hFc hP1 hD1
      have hK := hK.sub (tys' := [(kP, .object "HeapWorks$Picture"), (kl, .int), (kt, .int), (kk, .int)]) [0, 1, 2, 3] rfl
      generalize H1 = H at hP hS ⊢
      have hP : va_P (dC, dI) vwCl [(aX, .inr (14, fsX)), (aY, .inr (13, fsY)), (qP, .inl (kP, 4, .inr (.inr (.inr (.inr gP))))), (ql, .inl (kl, 400, .inl fl)), (qt, .inl (kt, 400, .inl ft)), (ap, .inr (8, fsp)), (aSh, .inr (11, s5303)), (qk, .inl (kk, 512, .inl f5304))] H := hP
      have hD : va_D A [(aX, .inr (14, fsX)), (aY, .inr (13, fsY)), (qP, .inl (kP, 4, .inr (.inr (.inr (.inr gP))))), (ql, .inl (kl, 400, .inl fl)), (qt, .inl (kt, 400, .inl ft)), (ap, .inr (8, fsp)), (aSh, .inr (11, s5303)), (qk, .inl (kk, 512, .inl f5304))] := hD
      obtain ⟨er5305, o_s5303⟩ := hw
      subst er5305
      have o_s5303 := ow_on o_fss o_s5303 (l' := [(11, .int 0), (1, .int 8), (17, .ref qk), (17, .ref qk), (13, .ref ql), (15, .ref qt), (17, .ref qk), (9, .int 0)]) (w' := [11, 1]) rfl rfl
      have hP9 := hP.sub (ws' := [(aX, .inr (14, fsX)), (aY, .inr (13, fsY)), (qP, .inl (kP, 4, .inr (.inr (.inr (.inr gP))))), (ap, .inr (8, fsp)), (aSh, .inr (11, s5303)), (ql, .inl (kl, 400, .inl fl)), (qt, .inl (kt, 400, .inl ft)), (qk, .inl (kk, 512, .inl f5304))]) [0, 1, 2, 5, 6, 3, 4, 7] rfl
      have hD9 := hD.sub (ws' := [(aX, .inr (14, fsX)), (aY, .inr (13, fsY)), (qP, .inl (kP, 4, .inr (.inr (.inr (.inr gP))))), (ap, .inr (8, fsp)), (aSh, .inr (11, s5303)), (ql, .inl (kl, 400, .inl fl)), (qt, .inl (kt, 400, .inl ft)), (qk, .inl (kk, 512, .inl f5304))]) [0, 1, 2, 5, 6, 3, 4, 7] (by decide) rfl
      have hK9 := hK.sub (tys' := [(kP, .object "HeapWorks$Picture"), (kl, .int), (kt, .int), (kk, .int)]) [0, 1, 2, 3] rfl
      exact W.iret (v := 0) hx hb hr (fun t ht hW => ⟨⟨0, (s5303, f5304), rfl, (Or.inr (Or.inr (Or.inr (Or.inr (Or.inr (Or.inr (Or.inl ⟨c5171, c5172, c5255, rfl, o_s5303⟩))))))), by rw [ht]; exact hP9, va_K.moved hW.alike hK9, hD9⟩, hS.F ht⟩) hS.2.2 dX11_picture_88
    by_cases c5306 : p1 = 5
    · refine lv_tableIn (off := 72) (tgt := 89) hx hb dX11_picture_17 (by rw [c5306]; decide) (by rw [c5306]; decide) (by rw [c5306]; decide) (by decide) ?_
      refine lv_aload_n hx hb dX11_picture_89 rfl (lv_at hl 0 rfl) ?_
      refine va_get (D := (dC, dI)) (ci := 8) (v := .int 0) (C := RX5) (T := TX5) (N := 21) hx hb hts (in_x_picture_X5) hown hK hP 3 rfl rfl 0 (by decide) (hts (.fieldLink RX11 356 "HeapWorks$Picture" "things" "I") (by decide +kernel)) (fun _ h9 => h9) (ow_at o_fsp 0 rfl) dX11_picture_90 ?_
      refine lv_if_ne (tgt := 100) hx hb dX11_picture_93 (by decide) (fun c5307 => absurd c5307 (by decide)) (fun c5307 => ?_)
      refine lv_iconst (v := (-1)) hx hb dX11_picture_96 (by decide) ?_
      refine lv_goto (tgt := 111) hx hb dX11_picture_97 (by decide) ?_
      have hP9 := hP.sub (ws' := [(aX, .inr (14, fsX)), (aY, .inr (13, fsY)), (qP, .inl (kP, 4, .inr (.inr (.inr (.inr gP))))), (ap, .inr (8, fsp)), (aSh, .inr (11, fss)), (ql, .inl (kl, 400, .inl fl)), (qt, .inl (kt, 400, .inl ft)), (qk, .inl (kk, 512, .inl fk))]) [0, 1, 2, 3, 4, 5, 6, 7] rfl
      have hD9 := hD.sub (ws' := [(aX, .inr (14, fsX)), (aY, .inr (13, fsY)), (qP, .inl (kP, 4, .inr (.inr (.inr (.inr gP))))), (ap, .inr (8, fsp)), (aSh, .inr (11, fss)), (ql, .inl (kl, 400, .inl fl)), (qt, .inl (kt, 400, .inl ft)), (qk, .inl (kk, 512, .inl fk))]) [0, 1, 2, 3, 4, 5, 6, 7] (by decide) rfl
      have hK9 := hK.sub (tys' := [(kP, .object "HeapWorks$Picture"), (kl, .int), (kt, .int), (kk, .int)]) [0, 1, 2, 3] rfl
      exact W.iret (v := (-1)) hx hb hr (fun t ht hW => ⟨⟨(-1), (fss, fk), rfl, (Or.inr (Or.inr (Or.inr (Or.inr (Or.inr (Or.inr (Or.inr (Or.inl ⟨c5171, c5172, c5306, rfl, o_fss⟩)))))))), by rw [ht]; exact hP9, va_K.moved hW.alike hK9, hD9⟩, hS.F ht⟩) hS.2.2 dX11_picture_111
    refine lv_tableOut (tgt := 112) hx hb dX11_picture_17 (by (try simp only [i_eq, i_lt, i_le, kc_0, kc_1, kc_2, kc_3, kc_4, kc_5] at c5177 c5178 c5201 c5251 c5255 c5306); omega) (by decide) ?_
    refine lv_iload_n hx hb dX11_picture_112 rfl (lv_at hl 3 rfl) ?_
    refine lv_sipush (v := 200) hx hb dX11_picture_113 (by decide) ?_
    refine lv_icmp_lt (tgt := 152) hx hb dX11_picture_116 (by decide) (fun c5308 => ?_) (fun c5308 => ?_)
    · skip
      refine lv_iload_n hx hb dX11_picture_152 rfl (lv_at hl 3 rfl) ?_
      refine lv_bipush (v := 100) hx hb dX11_picture_153 (by decide) ?_
      refine lv_icmp_lt (tgt := 183) hx hb dX11_picture_155 (by decide) (fun c5309 => ?_) (fun c5309 => ?_)
      · skip
        refine lv_iconst (v := (-1)) hx hb dX11_picture_183 (by decide) ?_
        have hP9 := hP.sub (ws' := [(aX, .inr (14, fsX)), (aY, .inr (13, fsY)), (qP, .inl (kP, 4, .inr (.inr (.inr (.inr gP))))), (ap, .inr (8, fsp)), (aSh, .inr (11, fss)), (ql, .inl (kl, 400, .inl fl)), (qt, .inl (kt, 400, .inl ft)), (qk, .inl (kk, 512, .inl fk))]) [0, 1, 2, 3, 4, 5, 6, 7] rfl
        have hD9 := hD.sub (ws' := [(aX, .inr (14, fsX)), (aY, .inr (13, fsY)), (qP, .inl (kP, 4, .inr (.inr (.inr (.inr gP))))), (ap, .inr (8, fsp)), (aSh, .inr (11, fss)), (ql, .inl (kl, 400, .inl fl)), (qt, .inl (kt, 400, .inl ft)), (qk, .inl (kk, 512, .inl fk))]) [0, 1, 2, 3, 4, 5, 6, 7] (by decide) rfl
        have hK9 := hK.sub (tys' := [(kP, .object "HeapWorks$Picture"), (kl, .int), (kt, .int), (kk, .int)]) [0, 1, 2, 3] rfl
        exact W.iret (v := (-1)) hx hb hr (fun t ht hW => ⟨⟨(-1), (fss, fk), rfl, (Or.inr (Or.inr (Or.inr (Or.inr (Or.inr (Or.inr (Or.inr (Or.inr (Or.inl ⟨c5171, c5172, c5177, c5178, c5201, c5251, c5255, c5306, c5308, c5309, rfl, o_fss⟩))))))))), by rw [ht]; exact hP9, va_K.moved hW.alike hK9, hD9⟩, hS.F ht⟩) hS.2.2 dX11_picture_184
      · skip
        refine lv_aload_n hx hb dX11_picture_158 rfl (lv_at hl 1 rfl) ?_
        refine va_get (D := (dC, dI)) (ci := 14) (v := .ref aY) (C := RX11) (T := TX11) (N := 18) hx hb hts (in_x_picture_X11) hown hK hP 0 rfl rfl 1 (by decide) (hts (.fieldLink RX11 19 "HeapWorks" "types" "LHeapWorks$Types;") (by decide +kernel)) (fun _ h9 => h9) (ow_at o_fsX 0 rfl) dX11_picture_159 ?_
        refine lv_iload_n hx hb dX11_picture_162 rfl (lv_at hl 3 rfl) ?_
        refine lv_bipush (v := 100) hx hb dX11_picture_163 (by decide) ?_
        refine lv_isub hx hb dX11_picture_165  ?_
        refine lv_topi (fun x5310 ex5310 => ?_)
        have tx5310 : x5310.toInt = (p1 : Int32).toInt - (100 : Int32).toInt := by rw [ex5310]; exact i_sub (by have bd_p1 := i_bd p1; (try simp only [i_lt, i_le, i_eq, kc_0, kc_1, kc_2, kc_3, kc_4, kc_5, kc_200, kc_100] at c5177 c5178 c5201 c5251 c5255 c5306 c5308 c5309 ⊢); omega) (by have bd_p1 := i_bd p1; (try simp only [i_lt, i_le, i_eq, kc_0, kc_1, kc_2, kc_3, kc_4, kc_5, kc_200, kc_100] at c5177 c5178 c5201 c5251 c5255 c5306 c5308 c5309 ⊢); omega)
        have hPc := hP.sub (ws' := [(aY, .inr (13, fsY))]) [1] rfl
        have hDc := hD.sub (ws' := [(aY, .inr (13, fsY))]) [1] (by decide) rfl
        have hKc := hK.sub (tys' := []) [] rfl
        have hFc := va_free (wc := [(aY, .inr (13, fsY))]) hD hS hA [1] rfl
        refine va_calli (va_runV (As := [.int x5310]) (rest := []) ⟨hx, hb, hml, hown, hts⟩ (z_X10_isClass l dC dI H.size aY fsY x5310 (fh_sub o_fsY.2 [0] rfl) ) (cwV 1 hts g_x_picture_z_X10_isClass_116 rfl rfl rfl (by decide +kernel) ⟨Nat.le_of_ble_eq_true rfl, Nat.le_of_ble_eq_true rfl⟩) ⟨fun a U g mk q => by obtain ⟨q0, q1, qP, qK, qD⟩ := q; exact ⟨q0, q1, qP, va_K.moved (u := U) (U := U.calling g mk a) (Vm.Alike.refl U.vm) qK, qD⟩, va_recv hK hP (ci := 13) (q0 := 1) rfl rfl, fun U hU hW => ⟨rfl, by rw [hU], by rw [hU]; exact hPc, va_K.moved hW.alike hKc, hDc.weaken (fun _ _ _ _ => trivial)⟩⟩ rfl rfl hl.1 rfl (lv_room (Nat.le_of_ble_eq_true rfl)) dX11_picture_166 ⟨Nat.le_of_ble_eq_true rfl, Nat.le_of_ble_eq_true rfl⟩) hS (fun q _ h => hFc q h) hFc (fun r5313 u t H1 locs ht hvm hw hB hz1 hk1 hS => ?_)
        obtain ⟨hP1, hK1, hD1⟩ := hB
        rw [ht] at hP1
        try dsimp only at hw
        obtain ⟨hP, hD⟩ := va_join (wr := [(aX, .inr (14, fsX)), (qP, .inl (kP, 4, .inr (.inr (.inr (.inr gP))))), (ap, .inr (8, fsp)), (aSh, .inr (11, fss)), (ql, .inl (kl, 400, .inl fl)), (qt, .inl (kt, 400, .inl ft)), (qk, .inl (kk, 512, .inl fk))]) (w1 := [(aY, .inr (13, fsY))]) hP hD [1] [0, 2, 3, 4, 5, 6, 7] rfl rfl (by decide) (by decide) hk1 hFc hP1 hD1
        have hK := hK.sub (tys' := [(kP, .object "HeapWorks$Picture"), (kl, .int), (kt, .int), (kk, .int)]) [0, 1, 2, 3] rfl
        generalize H1 = H at hP hS ⊢
        have hP : va_P (dC, dI) vwCl [(aX, .inr (14, fsX)), (qP, .inl (kP, 4, .inr (.inr (.inr (.inr gP))))), (ap, .inr (8, fsp)), (aSh, .inr (11, fss)), (ql, .inl (kl, 400, .inl fl)), (qt, .inl (kt, 400, .inl ft)), (qk, .inl (kk, 512, .inl fk)), (aY, .inr (13, fsY))] H := hP
        have hD : va_D A [(aX, .inr (14, fsX)), (qP, .inl (kP, 4, .inr (.inr (.inr (.inr gP))))), (ap, .inr (8, fsp)), (aSh, .inr (11, fss)), (ql, .inl (kl, 400, .inl fl)), (qt, .inl (kt, 400, .inl ft)), (qk, .inl (kk, 512, .inl fk)), (aY, .inr (13, fsY))] := hD
        rcases hw with ⟨c5314, er5315⟩ | ⟨c5316, c5317, er5318⟩
        · exact (by exfalso; (try simp only [i_lt, i_le, i_eq, kc_100, kc_0, kc_1, kc_2, kc_3, kc_4, kc_5, kc_200] at tx5310 c5314 c5177 c5178 c5201 c5251 c5255 c5306 c5308 c5309); omega)
        · skip
          subst er5318
          refine lv_if_eq (tgt := 183) hx hb dX11_picture_169 (by decide) (fun c5319 => ?_) (fun c5319 => absurd c5319 (by decide))
          refine lv_iconst (v := (-1)) hx hb dX11_picture_183 (by decide) ?_
          have hP9 := hP.sub (ws' := [(aX, .inr (14, fsX)), (aY, .inr (13, fsY)), (qP, .inl (kP, 4, .inr (.inr (.inr (.inr gP))))), (ap, .inr (8, fsp)), (aSh, .inr (11, fss)), (ql, .inl (kl, 400, .inl fl)), (qt, .inl (kt, 400, .inl ft)), (qk, .inl (kk, 512, .inl fk))]) [0, 7, 1, 2, 3, 4, 5, 6] rfl
          have hD9 := hD.sub (ws' := [(aX, .inr (14, fsX)), (aY, .inr (13, fsY)), (qP, .inl (kP, 4, .inr (.inr (.inr (.inr gP))))), (ap, .inr (8, fsp)), (aSh, .inr (11, fss)), (ql, .inl (kl, 400, .inl fl)), (qt, .inl (kt, 400, .inl ft)), (qk, .inl (kk, 512, .inl fk))]) [0, 7, 1, 2, 3, 4, 5, 6] (by decide) rfl
          have hK9 := hK.sub (tys' := [(kP, .object "HeapWorks$Picture"), (kl, .int), (kt, .int), (kk, .int)]) [0, 1, 2, 3] rfl
          exact W.iret (v := (-1)) hx hb hr (fun t ht hW => ⟨⟨(-1), (fss, fk), rfl, (Or.inr (Or.inr (Or.inr (Or.inr (Or.inr (Or.inr (Or.inr (Or.inr (Or.inr (Or.inl ⟨c5171, c5172, c5177, c5178, c5201, c5251, c5255, c5306, c5308, c5309, rfl, o_fss⟩)))))))))), by rw [ht]; exact hP9, va_K.moved hW.alike hK9, hD9⟩, hS.F ht⟩) hS.2.2 dX11_picture_184
    · skip
      refine lv_aload_n hx hb dX11_picture_119 rfl (lv_at hl 1 rfl) ?_
      refine va_get (D := (dC, dI)) (ci := 14) (v := .ref aY) (C := RX11) (T := TX11) (N := 18) hx hb hts (in_x_picture_X11) hown hK hP 0 rfl rfl 1 (by decide) (hts (.fieldLink RX11 19 "HeapWorks" "types" "LHeapWorks$Types;") (by decide +kernel)) (fun _ h9 => h9) (ow_at o_fsX 0 rfl) dX11_picture_120 ?_
      refine lv_iload_n hx hb dX11_picture_123 rfl (lv_at hl 3 rfl) ?_
      refine lv_sipush (v := 200) hx hb dX11_picture_124 (by decide) ?_
      refine lv_isub hx hb dX11_picture_127  ?_
      refine lv_topi (fun x5320 ex5320 => ?_)
      have tx5320 : x5320.toInt = (p1 : Int32).toInt - (200 : Int32).toInt := by rw [ex5320]; exact i_sub (by have bd_p1 := i_bd p1; (try simp only [i_lt, i_le, i_eq, kc_0, kc_1, kc_2, kc_3, kc_4, kc_5, kc_200] at c5177 c5178 c5201 c5251 c5255 c5306 c5308 ⊢); omega) (by have bd_p1 := i_bd p1; (try simp only [i_lt, i_le, i_eq, kc_0, kc_1, kc_2, kc_3, kc_4, kc_5, kc_200] at c5177 c5178 c5201 c5251 c5255 c5306 c5308 ⊢); omega)
      have hPc := hP.sub (ws' := [(aY, .inr (13, fsY))]) [1] rfl
      have hDc := hD.sub (ws' := [(aY, .inr (13, fsY))]) [1] (by decide) rfl
      have hKc := hK.sub (tys' := []) [] rfl
      have hFc := va_free (wc := [(aY, .inr (13, fsY))]) hD hS hA [1] rfl
      refine va_calli (va_runV (As := [.int x5320]) (rest := []) ⟨hx, hb, hml, hown, hts⟩ (z_X10_isClass l dC dI H.size aY fsY x5320 (fh_sub o_fsY.2 [0] rfl) ) (cwV 1 hts g_x_picture_z_X10_isClass_116 rfl rfl rfl (by decide +kernel) ⟨Nat.le_of_ble_eq_true rfl, Nat.le_of_ble_eq_true rfl⟩) ⟨fun a U g mk q => by obtain ⟨q0, q1, qP, qK, qD⟩ := q; exact ⟨q0, q1, qP, va_K.moved (u := U) (U := U.calling g mk a) (Vm.Alike.refl U.vm) qK, qD⟩, va_recv hK hP (ci := 13) (q0 := 1) rfl rfl, fun U hU hW => ⟨rfl, by rw [hU], by rw [hU]; exact hPc, va_K.moved hW.alike hKc, hDc.weaken (fun _ _ _ _ => trivial)⟩⟩ rfl rfl hl.1 rfl (lv_room (Nat.le_of_ble_eq_true rfl)) dX11_picture_128 ⟨Nat.le_of_ble_eq_true rfl, Nat.le_of_ble_eq_true rfl⟩) hS (fun q _ h => hFc q h) hFc (fun r5323 u t H1 locs ht hvm hw hB hz1 hk1 hS => ?_)
      obtain ⟨hP1, hK1, hD1⟩ := hB
      rw [ht] at hP1
      try dsimp only at hw
      obtain ⟨hP, hD⟩ := va_join (wr := [(aX, .inr (14, fsX)), (qP, .inl (kP, 4, .inr (.inr (.inr (.inr gP))))), (ap, .inr (8, fsp)), (aSh, .inr (11, fss)), (ql, .inl (kl, 400, .inl fl)), (qt, .inl (kt, 400, .inl ft)), (qk, .inl (kk, 512, .inl fk))]) (w1 := [(aY, .inr (13, fsY))]) hP hD [1] [0, 2, 3, 4, 5, 6, 7] rfl rfl (by decide) (by decide) hk1 hFc hP1 hD1
      have hK := hK.sub (tys' := [(kP, .object "HeapWorks$Picture"), (kl, .int), (kt, .int), (kk, .int)]) [0, 1, 2, 3] rfl
      generalize H1 = H at hP hS ⊢
      have hP : va_P (dC, dI) vwCl [(aX, .inr (14, fsX)), (qP, .inl (kP, 4, .inr (.inr (.inr (.inr gP))))), (ap, .inr (8, fsp)), (aSh, .inr (11, fss)), (ql, .inl (kl, 400, .inl fl)), (qt, .inl (kt, 400, .inl ft)), (qk, .inl (kk, 512, .inl fk)), (aY, .inr (13, fsY))] H := hP
      have hD : va_D A [(aX, .inr (14, fsX)), (qP, .inl (kP, 4, .inr (.inr (.inr (.inr gP))))), (ap, .inr (8, fsp)), (aSh, .inr (11, fss)), (ql, .inl (kl, 400, .inl fl)), (qt, .inl (kt, 400, .inl ft)), (qk, .inl (kk, 512, .inl fk)), (aY, .inr (13, fsY))] := hD
      rcases hw with ⟨c5324, er5325⟩ | ⟨c5326, c5327, er5328⟩
      · exact (by exfalso; (try simp only [i_lt, i_le, i_eq, kc_200, kc_0, kc_1, kc_2, kc_3, kc_4, kc_5] at tx5320 c5324 c5177 c5178 c5201 c5251 c5255 c5306 c5308); omega)
      · skip
        subst er5328
        refine lv_if_eq (tgt := 150) hx hb dX11_picture_131 (by decide) (fun c5329 => ?_) (fun c5329 => absurd c5329 (by decide))
        refine lv_iconst (v := (-1)) hx hb dX11_picture_150 (by decide) ?_
        have hP9 := hP.sub (ws' := [(aX, .inr (14, fsX)), (aY, .inr (13, fsY)), (qP, .inl (kP, 4, .inr (.inr (.inr (.inr gP))))), (ap, .inr (8, fsp)), (aSh, .inr (11, fss)), (ql, .inl (kl, 400, .inl fl)), (qt, .inl (kt, 400, .inl ft)), (qk, .inl (kk, 512, .inl fk))]) [0, 7, 1, 2, 3, 4, 5, 6] rfl
        have hD9 := hD.sub (ws' := [(aX, .inr (14, fsX)), (aY, .inr (13, fsY)), (qP, .inl (kP, 4, .inr (.inr (.inr (.inr gP))))), (ap, .inr (8, fsp)), (aSh, .inr (11, fss)), (ql, .inl (kl, 400, .inl fl)), (qt, .inl (kt, 400, .inl ft)), (qk, .inl (kk, 512, .inl fk))]) [0, 7, 1, 2, 3, 4, 5, 6] (by decide) rfl
        have hK9 := hK.sub (tys' := [(kP, .object "HeapWorks$Picture"), (kl, .int), (kt, .int), (kk, .int)]) [0, 1, 2, 3] rfl
        exact W.iret (v := (-1)) hx hb hr (fun t ht hW => ⟨⟨(-1), (fss, fk), rfl, (Or.inr (Or.inr (Or.inr (Or.inr (Or.inr (Or.inr (Or.inr (Or.inr (Or.inr (Or.inr (⟨c5171, c5172, c5177, c5178, c5201, c5251, c5255, c5306, c5308, rfl, o_fss⟩))))))))))), by rw [ht]; exact hP9, va_K.moved hW.alike hK9, hD9⟩, hS.F ht⟩) hS.2.2 dX11_picture_151

def l_z_X5_memberOf : List Cond := [.fieldLink RX5 82 "HeapWorks$Picture" "things" "I"]
def w_z_X5_memberOf : List Cond := .code yX5_memberOf cX5_memberOf 6 (some .int) :: (l_z_X5_memberOf ++ (wsX50))
theorem in_z_X5_memberOf_X5 : ∀ w ∈ wsX50, w ∈ w_z_X5_memberOf := fun w h => List.mem_cons_of_mem _ (List.mem_append_right _ (h))
set_option maxHeartbeats 4000000 in
set_option maxRecDepth 100000 in
theorem z_X5_memberOf (l : Launch) (dC : Nat → ClassId) (dI : Nat → Nat → Nat) (sz : Nat) (Ad0 : Nat) (Fs0 : List Value) (Br0 : Nat) (Va0 : Int32) (Va1 : Int32) (k_Fs0 : fh Fs0 21 [(0, .int 0)])  : Met l yX5_memberOf w_z_X5_memberOf ({ frames := 0, cells := 0, slots := 0, locals := 0 }) (va_Pc [.ref Ad0, .ref Br0, .int Va0, .int Va1] (fun U => U.heap.size = sz ∧ Wd dC dI [] (fun _ => True) [(Ad0, .inr (8, Fs0))] U)) (va_Qi (fun (r : Int32) (u : Unit) => r = (-1)) (fun (u : Unit) t => Wd dC dI [] (va_A [(Ad0, .inr (8, Fs0))] sz) [(Ad0, .inr (8, Fs0))] t) (va_A [(Ad0, .inr (8, Fs0))] sz))  0 0 (va_A [(Ad0, .inr (8, Fs0))] sz) := by
  refine Met.ofW (cc := cX5_memberOf) (maxL := 6) (ret := (some .int)) (by decide) rfl ?_
  intro p e s m args below meth c s₁ B hml hv
  obtain ⟨rfl, hsz, hP, hK, hD0⟩ := hv
  have hx := B.exec
  have hb := B.bytes
  have hr := B.returns
  have hts := atoms_spec (ws := w_z_X5_memberOf) B.pre
  have hown : s.vm.findClass RX5 = some m.cls := findClass_of_methodNamed B.named
  have hlocks := B.notSynchronized
  subst hsz
  have hD := hD0.self (sz := s.heap.size)
  generalize hAe : va_A [(Ad0, .inr (8, Fs0))] s.heap.size = A at hD ⊢
  have hA : ∀ q : Nat, s.heap.size ≤ q → A q := fun q h => by rw [← hAe]; exact Or.inr h
  have hS : va_S A s.heap s.heap [] := va_S.rf
  have hl := lv_entry ([.ref Ad0, .ref Br0, .int Va0, .int Va1]) (n := 6) (Nat.le_of_ble_eq_true rfl)
  rw [lg_entry_eq]
  generalize (lg_sl ([.ref Ad0, .ref Br0, .int Va0, .int Va1]) ++ List.replicate (6 - (lg_sl ([.ref Ad0, .ref Br0, .int Va0, .int Va1])).length) Slot.unset).toArray = ls at hl ⊢
  have hl : lv_has ls 6 [(0, .ref Ad0), (1, .ref Br0), (2, .int Va0), (3, .int Va1)] := hl
  have o_Fs0 := ow_0 k_Fs0
  refine lv_iload_n hx hb dX5_memberOf_0 rfl (lv_at hl 3 rfl) ?_
  refine lv_istore (lv' := [(4, .int Va1), (0, .ref Ad0), (1, .ref Br0), (2, .int Va0), (3, .int Va1)]) hx hb dX5_memberOf_1 hl (by decide) rfl (fun ls hl => ?_)
  refine lv_iconst (v := 0) hx hb dX5_memberOf_3 (by decide) ?_
  refine lv_istore (lv' := [(5, .int 0), (4, .int Va1), (0, .ref Ad0), (1, .ref Br0), (2, .int Va0), (3, .int Va1)]) hx hb dX5_memberOf_4 hl (by decide) rfl (fun ls hl => ?_)
  refine lv_iload hx hb dX5_memberOf_6 (lv_at hl 0 rfl) ?_
  refine lv_aload_n hx hb dX5_memberOf_8 rfl (lv_at hl 2 rfl) ?_
  refine va_get (D := (dC, dI)) (ci := 8) (v := .int 0) (C := RX5) (T := TX5) (N := 21) hx hb hts (in_z_X5_memberOf_X5) hown hK hP 0 rfl rfl 0 (by decide) (hts (.fieldLink RX5 82 "HeapWorks$Picture" "things" "I") (by decide +kernel)) (fun _ h9 => h9) (ow_at o_Fs0 0 rfl) dX5_memberOf_9 ?_
  refine lv_icmp_ge (tgt := 40) hx hb dX5_memberOf_12 (by decide) (fun c5395 => ?_) (fun c5395 => absurd c5395 (by decide))
  refine lv_iconst (v := (-1)) hx hb dX5_memberOf_40 (by decide) ?_
  have hP9 := hP.sub (ws' := [(Ad0, .inr (8, Fs0))]) [0] rfl
  have hD9 := hD.sub (ws' := [(Ad0, .inr (8, Fs0))]) [0] (by decide) rfl
  have hK9 := hK.sub (tys' := []) [] rfl
  exact W.iret (v := (-1)) hx hb hr (fun t ht hW => ⟨⟨(-1), (), rfl, rfl, by rw [ht]; exact hP9, va_K.moved hW.alike hK9, hD9⟩, hS.F ht⟩) hS.2.2 dX5_memberOf_41

def l_z_X5_twinMember : List Cond := [.fieldLink RX5 78 "HeapWorks$Picture" "shape" "LHeapWorks$Shape;", .methodLink RX5 189 yX8_needTwins, .instanceMethod yX8_needTwins, .selects RX8 yX8_needTwins yX8_needTwins, .initialized RX8, .fieldLink RX5 192 "HeapWorks$Shape" "twin" "[I", .methodLink RX5 185 yX5_memberOf, .instanceMethod yX5_memberOf, .selects RX5 yX5_memberOf yX5_memberOf, .initialized RX5, .code yX8_needTwins cX8_needTwins 6 none, .fieldLink RX8 60 "HeapWorks$Shape" "known" "I", .fieldLink RX8 57 "HeapWorks$Shape" "bucket" "[I", .methodLink RX8 149 yJ7_fill_53178, .static yJ7_fill_53178, .initialized RJ7, .fieldLink RX8 64 "HeapWorks$Picture" "things" "I", .fieldLink RX8 159 "HeapWorks$Shape" "twins" "I", .code yJ7_fill_53178 cJ7_fill_53178 4 none, .code yX5_memberOf cX5_memberOf 6 (some .int), .fieldLink RX5 82 "HeapWorks$Picture" "things" "I"]
def w_z_X5_twinMember : List Cond := .code yX5_twinMember cX5_twinMember 3 (some .int) :: (l_z_X5_twinMember ++ ((wsX50 ++ wsX80)))
theorem in_z_X5_twinMember_X5 : ∀ w ∈ wsX50, w ∈ w_z_X5_twinMember := fun w h => List.mem_cons_of_mem _ (List.mem_append_right _ (List.mem_append_left _ h))
theorem in_z_X5_twinMember_X8 : ∀ w ∈ wsX80, w ∈ w_z_X5_twinMember := fun w h => List.mem_cons_of_mem _ (List.mem_append_right _ (List.mem_append_right _ (h)))
theorem g_z_X5_twinMember_z_X8_needTwins_189 : GoodIn w_z_X5_twinMember (wsV RX5 189 RX8 yX8_needTwins w_z_X8_needTwins) := goodIn_app (goodIn_sub (by decide +kernel) (by decide +kernel)) (goodIn_ca (goodIn_sub (by decide +kernel) (by decide +kernel)) (goodIn_app (goodIn_in in_z_X5_twinMember_X8 gd_X8) (goodIn_in in_z_X5_twinMember_X5 gd_X5)))
theorem g_z_X5_twinMember_z_X5_memberOf_185 : GoodIn w_z_X5_twinMember (wsV RX5 185 RX5 yX5_memberOf w_z_X5_memberOf) := goodIn_app (goodIn_sub (by decide +kernel) (by decide +kernel)) (goodIn_ca (goodIn_sub (by decide +kernel) (by decide +kernel)) (goodIn_in in_z_X5_twinMember_X5 gd_X5))
set_option maxHeartbeats 4000000 in
set_option maxRecDepth 100000 in
theorem z_X5_twinMember (l : Launch) (dC : Nat → ClassId) (dI : Nat → Nat → Nat) (sz : Nat) (Ad0 : Nat) (Fs0 : List Value) (Ad1 : Nat) (Fs1 : List Value) (Ad2 : Nat) (Fa0 : Nat → Int32) (Ka0 : ClassId) (Va0 : Int32) (Va1 : Int32) (Br0 : Nat) (k_Fs0 : fh Fs0 21 [(0, .int 0), (20, .ref Ad1)]) (k_Fs1 : fh Fs1 18 [(1, .int 0), (17, .ref Ad2), (10, .ref Br0)])  : Met l yX5_twinMember w_z_X5_twinMember ({ frames := 2, cells := 0, slots := 0, locals := 48 }) (va_Pc [.ref Ad0, .int Va0, .int Va1] (fun U => U.heap.size = sz ∧ Wd dC dI [(Ka0, .int)] (fun _ => True) [(Ad0, .inr (8, Fs0)), (Ad1, .inr (11, Fs1)), (Ad2, .inl (Ka0, 512, .inl Fa0))] U)) (va_Qi (fun (r : Int32) (u : List Value × (Nat → Int32)) => (r = (-1) ∧ ow Fs1 (u.1) 18 [11, 1] [(11, .int 0), (1, .int 8), (17, .ref Ad2), (17, .ref Ad2), (10, .ref Br0)])) (fun (u : List Value × (Nat → Int32)) t => Wd dC dI [(Ka0, .int)] (va_A [(Ad0, .inr (8, Fs0)), (Ad1, .inr (11, Fs1)), (Ad2, .inl (Ka0, 512, .inl Fa0))] sz) [(Ad0, .inr (8, Fs0)), (Ad1, .inr (11, (u.1))), (Ad2, .inl (Ka0, 512, .inl ((u.2))))] t) (va_A [(Ad0, .inr (8, Fs0)), (Ad1, .inr (11, Fs1)), (Ad2, .inl (Ka0, 512, .inl Fa0))] sz))  0 0 (va_A [(Ad0, .inr (8, Fs0)), (Ad1, .inr (11, Fs1)), (Ad2, .inl (Ka0, 512, .inl Fa0))] sz) := by
  refine Met.ofW (cc := cX5_twinMember) (maxL := 3) (ret := (some .int)) (by decide) rfl ?_
  intro p e s m args below meth c s₁ B hml hv
  obtain ⟨rfl, hsz, hP, hK, hD0⟩ := hv
  have hx := B.exec
  have hb := B.bytes
  have hr := B.returns
  have hts := atoms_spec (ws := w_z_X5_twinMember) B.pre
  have hown : s.vm.findClass RX5 = some m.cls := findClass_of_methodNamed B.named
  have hlocks := B.notSynchronized
  subst hsz
  have hD := hD0.self (sz := s.heap.size)
  generalize hAe : va_A [(Ad0, .inr (8, Fs0)), (Ad1, .inr (11, Fs1)), (Ad2, .inl (Ka0, 512, .inl Fa0))] s.heap.size = A at hD ⊢
  have hA : ∀ q : Nat, s.heap.size ≤ q → A q := fun q h => by rw [← hAe]; exact Or.inr h
  have hS : va_S A s.heap s.heap [] := va_S.rf
  have hl := lv_entry ([.ref Ad0, .int Va0, .int Va1]) (n := 3) (Nat.le_of_ble_eq_true rfl)
  rw [lg_entry_eq]
  generalize (lg_sl ([.ref Ad0, .int Va0, .int Va1]) ++ List.replicate (3 - (lg_sl ([.ref Ad0, .int Va0, .int Va1])).length) Slot.unset).toArray = ls at hl ⊢
  have hl : lv_has ls 3 [(0, .ref Ad0), (1, .int Va0), (2, .int Va1)] := hl
  have o_Fs0 := ow_0 k_Fs0
  have o_Fs1 := ow_0 k_Fs1
  refine lv_aload_n hx hb dX5_twinMember_0 rfl (lv_at hl 0 rfl) ?_
  refine va_get (D := (dC, dI)) (ci := 8) (v := .ref Ad1) (C := RX5) (T := TX5) (N := 21) hx hb hts (in_z_X5_twinMember_X5) hown hK hP 0 rfl rfl 20 (by decide) (hts (.fieldLink RX5 78 "HeapWorks$Picture" "shape" "LHeapWorks$Shape;") (by decide +kernel)) (fun _ h9 => h9) (ow_at o_Fs0 1 rfl) dX5_twinMember_1 ?_
  refine lv_aload_n hx hb dX5_twinMember_4 rfl (lv_at hl 0 rfl) ?_
  have hPc := hP.sub (ws' := [(Ad0, .inr (8, Fs0)), (Ad1, .inr (11, Fs1)), (Ad2, .inl (Ka0, 512, .inl Fa0))]) [0, 1, 2] rfl
  have hDc := hD.sub (ws' := [(Ad0, .inr (8, Fs0)), (Ad1, .inr (11, Fs1)), (Ad2, .inl (Ka0, 512, .inl Fa0))]) [0, 1, 2] (by decide) rfl
  have hKc := hK.sub (tys' := [(Ka0, .int)]) [0] rfl
  have hFc := va_free (wc := [(Ad0, .inr (8, Fs0)), (Ad1, .inr (11, Fs1)), (Ad2, .inl (Ka0, 512, .inl Fa0))]) hD hS hA [0, 1, 2] rfl
  refine va_callv (va_runV (As := [.ref Ad0]) (rest := []) ⟨hx, hb, hml, hown, hts⟩ (z_X8_needTwins l dC dI s.heap.size Ad0 Fs0 Ad1 Fs1 Ad2 Fa0 Ka0 (fh_sub o_Fs0.2 [0] rfl) (fh_sub o_Fs1.2 [0, 1] rfl) ) (cwV 1 hts g_z_X5_twinMember_z_X8_needTwins_189 rfl rfl rfl (by decide +kernel) ⟨Nat.le_of_ble_eq_true rfl, Nat.le_of_ble_eq_true rfl⟩) ⟨fun a U g mk q => by obtain ⟨q0, q1, qP, qK, qD⟩ := q; exact ⟨q0, q1, qP, va_K.moved (u := U) (U := U.calling g mk a) (Vm.Alike.refl U.vm) qK, qD⟩, va_recv hK hP (ci := 11) (q0 := 1) rfl rfl, fun U hU hW => ⟨rfl, by rw [hU], by rw [hU]; exact hPc, va_K.moved hW.alike hKc, hDc.weaken (fun _ _ _ _ => trivial)⟩⟩ rfl rfl hl.1 rfl (lv_room (Nat.le_of_ble_eq_true rfl)) dX5_twinMember_5 ⟨Nat.le_of_ble_eq_true rfl, Nat.le_of_ble_eq_true rfl⟩) hS (fun q _ h => hFc q h) hFc (fun u t H1 locs ht hvm hw hB hz1 hk1 hS => ?_)
  obtain ⟨s5441, f5442⟩ := u
  obtain ⟨hP1, hK1, hD1⟩ := hB
  rw [ht] at hP1
  try dsimp only at hw
  obtain ⟨hP, hD⟩ := va_join (wr := []) (w1 := [(Ad0, .inr (8, Fs0)), (Ad1, .inr (11, s5441)), (Ad2, .inl (Ka0, 512, .inl f5442))]) hP hD [0, 1, 2] [] rfl rfl (by decide) (by decide) hk1 hFc hP1 hD1
  have hK := hK.sub (tys' := [(Ka0, .int)]) [0] rfl
  generalize H1 = H at hP hS ⊢
  have hP : va_P (dC, dI) vwCl [(Ad0, .inr (8, Fs0)), (Ad1, .inr (11, s5441)), (Ad2, .inl (Ka0, 512, .inl f5442))] H := hP
  have hD : va_D A [(Ad0, .inr (8, Fs0)), (Ad1, .inr (11, s5441)), (Ad2, .inl (Ka0, 512, .inl f5442))] := hD
  have o_s5441 := hw
  have o_s5441 := ow_on o_Fs1 o_s5441 (l' := [(11, .int 0), (1, .int 8), (17, .ref Ad2), (17, .ref Ad2), (10, .ref Br0)]) (w' := [11, 1]) rfl rfl
  refine lv_aload_n hx hb dX5_twinMember_8 rfl (lv_at hl 0 rfl) ?_
  refine lv_aload_n hx hb dX5_twinMember_9 rfl (lv_at hl 0 rfl) ?_
  refine va_get (D := (dC, dI)) (ci := 8) (v := .ref Ad1) (C := RX5) (T := TX5) (N := 21) hx hb hts (in_z_X5_twinMember_X5) hown hK hP 0 rfl rfl 20 (by decide) (hts (.fieldLink RX5 78 "HeapWorks$Picture" "shape" "LHeapWorks$Shape;") (by decide +kernel)) (fun _ h9 => h9) (ow_at o_Fs0 1 rfl) dX5_twinMember_10 ?_
  refine va_get (D := (dC, dI)) (ci := 11) (v := .ref Br0) (C := RX8) (T := TX8) (N := 18) hx hb hts (in_z_X5_twinMember_X8) hown hK hP 1 rfl rfl 10 (by decide) (hts (.fieldLink RX5 192 "HeapWorks$Shape" "twin" "[I") (by decide +kernel)) (fun _ h9 => h9) (ow_at o_s5441 4 rfl) dX5_twinMember_13 ?_
  refine lv_iload_n hx hb dX5_twinMember_16 rfl (lv_at hl 1 rfl) ?_
  refine lv_iload_n hx hb dX5_twinMember_17 rfl (lv_at hl 2 rfl) ?_
  have hPc := hP.sub (ws' := [(Ad0, .inr (8, Fs0))]) [0] rfl
  have hDc := hD.sub (ws' := [(Ad0, .inr (8, Fs0))]) [0] (by decide) rfl
  have hKc := hK.sub (tys' := []) [] rfl
  have hFc := va_free (wc := [(Ad0, .inr (8, Fs0))]) hD hS hA [0] rfl
  refine va_calli (va_runV (As := [.ref Br0, .int Va0, .int Va1]) (rest := []) ⟨hx, hb, hml, hown, hts⟩ (z_X5_memberOf l dC dI H.size Ad0 Fs0 Br0 Va0 Va1 (fh_sub o_Fs0.2 [0] rfl) ) (cwV 3 hts g_z_X5_twinMember_z_X5_memberOf_185 rfl rfl rfl (by decide +kernel) ⟨Nat.le_of_ble_eq_true rfl, Nat.le_of_ble_eq_true rfl⟩) ⟨fun a U g mk q => by obtain ⟨q0, q1, qP, qK, qD⟩ := q; exact ⟨q0, q1, qP, va_K.moved (u := U) (U := U.calling g mk a) (Vm.Alike.refl U.vm) qK, qD⟩, va_recv hK hP (ci := 8) (q0 := 0) rfl rfl, fun U hU hW => ⟨rfl, by rw [hU], by rw [hU]; exact hPc, va_K.moved hW.alike hKc, hDc.weaken (fun _ _ _ _ => trivial)⟩⟩ rfl rfl hl.1 rfl (lv_room (Nat.le_of_ble_eq_true rfl)) dX5_twinMember_18 ⟨Nat.le_of_ble_eq_true rfl, Nat.le_of_ble_eq_true rfl⟩) hS (fun q _ h => hFc q h) hFc (fun r5444 u t H1 locs ht hvm hw hB hz1 hk1 hS => ?_)
  obtain ⟨hP1, hK1, hD1⟩ := hB
  rw [ht] at hP1
  try dsimp only at hw
  obtain ⟨hP, hD⟩ := va_join (wr := [(Ad1, .inr (11, s5441)), (Ad2, .inl (Ka0, 512, .inl f5442))]) (w1 := [(Ad0, .inr (8, Fs0))]) hP hD [0] [1, 2] rfl rfl (by decide) (by decide) hk1 hFc hP1 hD1
  have hK := hK.sub (tys' := [(Ka0, .int)]) [0] rfl
  generalize H1 = H at hP hS ⊢
  have hP : va_P (dC, dI) vwCl [(Ad1, .inr (11, s5441)), (Ad2, .inl (Ka0, 512, .inl f5442)), (Ad0, .inr (8, Fs0))] H := hP
  have hD : va_D A [(Ad1, .inr (11, s5441)), (Ad2, .inl (Ka0, 512, .inl f5442)), (Ad0, .inr (8, Fs0))] := hD
  have er5445 := hw
  subst er5445
  have hP9 := hP.sub (ws' := [(Ad0, .inr (8, Fs0)), (Ad1, .inr (11, s5441)), (Ad2, .inl (Ka0, 512, .inl f5442))]) [2, 0, 1] rfl
  have hD9 := hD.sub (ws' := [(Ad0, .inr (8, Fs0)), (Ad1, .inr (11, s5441)), (Ad2, .inl (Ka0, 512, .inl f5442))]) [2, 0, 1] (by decide) rfl
  have hK9 := hK.sub (tys' := [(Ka0, .int)]) [0] rfl
  exact W.iret (v := (-1)) hx hb hr (fun t ht hW => ⟨⟨(-1), (s5441, f5442), rfl, ⟨rfl, o_s5441⟩, by rw [ht]; exact hP9, va_K.moved hW.alike hK9, hD9⟩, hS.F ht⟩) hS.2.2 dX5_twinMember_21

def l_z_X5_ringMember : List Cond := [.fieldLink RX5 78 "HeapWorks$Picture" "shape" "LHeapWorks$Shape;", .methodLink RX5 176 yX8_needRings, .instanceMethod yX8_needRings, .selects RX8 yX8_needRings yX8_needRings, .initialized RX8, .fieldLink RX5 179 "HeapWorks$Shape" "ring" "[I", .methodLink RX5 185 yX5_memberOf, .instanceMethod yX5_memberOf, .selects RX5 yX5_memberOf yX5_memberOf, .initialized RX5, .code yX8_needRings cX8_needRings 4 none, .fieldLink RX8 60 "HeapWorks$Shape" "known" "I", .fieldLink RX8 64 "HeapWorks$Picture" "things" "I", .methodLink RX8 123 yX8_numberRings, .instanceMethod yX8_numberRings, .selects RX8 yX8_numberRings yX8_numberRings, .code yX8_numberRings cX8_numberRings 4 none, .fieldLink RX8 45 "HeapWorks$Shape" "low" "[I", .methodLink RX8 67 yJ7_fill_fda19, .static yJ7_fill_fda19, .initialized RJ7, .fieldLink RX8 51 "HeapWorks$Shape" "path" "[I", .fieldLink RX8 142 "HeapWorks$Shape" "rings" "I", .code yJ7_fill_fda19 cJ7_fill_fda19 5 none, .methodLink RJ7 13 yJ7_rangeCheck_23922, .static yJ7_rangeCheck_23922, .code yJ7_rangeCheck_23922 cJ7_rangeCheck_23922 3 none, .code yX5_memberOf cX5_memberOf 6 (some .int), .fieldLink RX5 82 "HeapWorks$Picture" "things" "I"]
def w_z_X5_ringMember : List Cond := .code yX5_ringMember cX5_ringMember 3 (some .int) :: (l_z_X5_ringMember ++ ((wsX50 ++ wsX80)))
theorem in_z_X5_ringMember_X5 : ∀ w ∈ wsX50, w ∈ w_z_X5_ringMember := fun w h => List.mem_cons_of_mem _ (List.mem_append_right _ (List.mem_append_left _ h))
theorem in_z_X5_ringMember_X8 : ∀ w ∈ wsX80, w ∈ w_z_X5_ringMember := fun w h => List.mem_cons_of_mem _ (List.mem_append_right _ (List.mem_append_right _ (h)))
theorem g_z_X5_ringMember_z_X8_needRings_176 : GoodIn w_z_X5_ringMember (wsV RX5 176 RX8 yX8_needRings w_z_X8_needRings) := goodIn_app (goodIn_sub (by decide +kernel) (by decide +kernel)) (goodIn_ca (goodIn_sub (by decide +kernel) (by decide +kernel)) (goodIn_app (goodIn_in in_z_X5_ringMember_X8 gd_X8) (goodIn_in in_z_X5_ringMember_X5 gd_X5)))
theorem g_z_X5_ringMember_z_X5_memberOf_185 : GoodIn w_z_X5_ringMember (wsV RX5 185 RX5 yX5_memberOf w_z_X5_memberOf) := goodIn_app (goodIn_sub (by decide +kernel) (by decide +kernel)) (goodIn_ca (goodIn_sub (by decide +kernel) (by decide +kernel)) (goodIn_in in_z_X5_ringMember_X5 gd_X5))
set_option maxHeartbeats 4000000 in
set_option maxRecDepth 100000 in
theorem z_X5_ringMember (l : Launch) (dC : Nat → ClassId) (dI : Nat → Nat → Nat) (sz : Nat) (Ad0 : Nat) (Fs0 : List Value) (Ad1 : Nat) (Fs1 : List Value) (Ad2 : Nat) (Fa0 : Nat → Int32) (Ka0 : ClassId) (Ad3 : Nat) (Fa1 : Nat → Int32) (Ka1 : ClassId) (Va0 : Int32) (Va1 : Int32) (Br0 : Nat) (k_Fs0 : fh Fs0 21 [(0, .int 0), (20, .ref Ad1)]) (k_Fs1 : fh Fs1 18 [(1, .int 0), (13, .ref Ad2), (15, .ref Ad3), (8, .ref Br0)])  : Met l yX5_ringMember w_z_X5_ringMember ({ frames := 4, cells := 0, slots := 0, locals := 92 }) (va_Pc [.ref Ad0, .int Va0, .int Va1] (fun U => U.heap.size = sz ∧ Wd dC dI [(Ka0, .int), (Ka1, .int)] (fun _ => True) [(Ad0, .inr (8, Fs0)), (Ad1, .inr (11, Fs1)), (Ad2, .inl (Ka0, 400, .inl Fa0)), (Ad3, .inl (Ka1, 400, .inl Fa1))] U)) (va_Qi (fun (r : Int32) (u : List Value) => (r = (-1) ∧ ow Fs1 (u) 18 [9, 1] [(9, .int 0), (13, .ref Ad2), (15, .ref Ad3), (1, .int 4), (13, .ref Ad2), (15, .ref Ad3), (13, .ref Ad2), (15, .ref Ad3), (8, .ref Br0)])) (fun (u : List Value) t => Wd dC dI [(Ka0, .int), (Ka1, .int)] (va_A [(Ad0, .inr (8, Fs0)), (Ad1, .inr (11, Fs1)), (Ad2, .inl (Ka0, 400, .inl Fa0)), (Ad3, .inl (Ka1, 400, .inl Fa1))] sz) [(Ad0, .inr (8, Fs0)), (Ad1, .inr (11, (u))), (Ad2, .inl (Ka0, 400, .inl Fa0)), (Ad3, .inl (Ka1, 400, .inl Fa1))] t) (va_A [(Ad0, .inr (8, Fs0)), (Ad1, .inr (11, Fs1)), (Ad2, .inl (Ka0, 400, .inl Fa0)), (Ad3, .inl (Ka1, 400, .inl Fa1))] sz))  0 0 (va_A [(Ad0, .inr (8, Fs0)), (Ad1, .inr (11, Fs1)), (Ad2, .inl (Ka0, 400, .inl Fa0)), (Ad3, .inl (Ka1, 400, .inl Fa1))] sz) := by
  refine Met.ofW (cc := cX5_ringMember) (maxL := 3) (ret := (some .int)) (by decide) rfl ?_
  intro p e s m args below meth c s₁ B hml hv
  obtain ⟨rfl, hsz, hP, hK, hD0⟩ := hv
  have hx := B.exec
  have hb := B.bytes
  have hr := B.returns
  have hts := atoms_spec (ws := w_z_X5_ringMember) B.pre
  have hown : s.vm.findClass RX5 = some m.cls := findClass_of_methodNamed B.named
  have hlocks := B.notSynchronized
  subst hsz
  have hD := hD0.self (sz := s.heap.size)
  generalize hAe : va_A [(Ad0, .inr (8, Fs0)), (Ad1, .inr (11, Fs1)), (Ad2, .inl (Ka0, 400, .inl Fa0)), (Ad3, .inl (Ka1, 400, .inl Fa1))] s.heap.size = A at hD ⊢
  have hA : ∀ q : Nat, s.heap.size ≤ q → A q := fun q h => by rw [← hAe]; exact Or.inr h
  have hS : va_S A s.heap s.heap [] := va_S.rf
  have hl := lv_entry ([.ref Ad0, .int Va0, .int Va1]) (n := 3) (Nat.le_of_ble_eq_true rfl)
  rw [lg_entry_eq]
  generalize (lg_sl ([.ref Ad0, .int Va0, .int Va1]) ++ List.replicate (3 - (lg_sl ([.ref Ad0, .int Va0, .int Va1])).length) Slot.unset).toArray = ls at hl ⊢
  have hl : lv_has ls 3 [(0, .ref Ad0), (1, .int Va0), (2, .int Va1)] := hl
  have o_Fs0 := ow_0 k_Fs0
  have o_Fs1 := ow_0 k_Fs1
  refine lv_aload_n hx hb dX5_ringMember_0 rfl (lv_at hl 0 rfl) ?_
  refine va_get (D := (dC, dI)) (ci := 8) (v := .ref Ad1) (C := RX5) (T := TX5) (N := 21) hx hb hts (in_z_X5_ringMember_X5) hown hK hP 0 rfl rfl 20 (by decide) (hts (.fieldLink RX5 78 "HeapWorks$Picture" "shape" "LHeapWorks$Shape;") (by decide +kernel)) (fun _ h9 => h9) (ow_at o_Fs0 1 rfl) dX5_ringMember_1 ?_
  refine lv_aload_n hx hb dX5_ringMember_4 rfl (lv_at hl 0 rfl) ?_
  have hPc := hP.sub (ws' := [(Ad0, .inr (8, Fs0)), (Ad1, .inr (11, Fs1)), (Ad2, .inl (Ka0, 400, .inl Fa0)), (Ad3, .inl (Ka1, 400, .inl Fa1))]) [0, 1, 2, 3] rfl
  have hDc := hD.sub (ws' := [(Ad0, .inr (8, Fs0)), (Ad1, .inr (11, Fs1)), (Ad2, .inl (Ka0, 400, .inl Fa0)), (Ad3, .inl (Ka1, 400, .inl Fa1))]) [0, 1, 2, 3] (by decide) rfl
  have hKc := hK.sub (tys' := [(Ka0, .int), (Ka1, .int)]) [0, 1] rfl
  have hFc := va_free (wc := [(Ad0, .inr (8, Fs0)), (Ad1, .inr (11, Fs1)), (Ad2, .inl (Ka0, 400, .inl Fa0)), (Ad3, .inl (Ka1, 400, .inl Fa1))]) hD hS hA [0, 1, 2, 3] rfl
  refine va_callv (va_runV (As := [.ref Ad0]) (rest := []) ⟨hx, hb, hml, hown, hts⟩ (z_X8_needRings l dC dI s.heap.size Ad0 Fs0 Ad1 Fs1 Ad2 Fa0 Ka0 Ad3 Fa1 Ka1 (fh_sub o_Fs0.2 [0] rfl) (fh_sub o_Fs1.2 [0, 1, 2] rfl) ) (cwV 1 hts g_z_X5_ringMember_z_X8_needRings_176 rfl rfl rfl (by decide +kernel) ⟨Nat.le_of_ble_eq_true rfl, Nat.le_of_ble_eq_true rfl⟩) ⟨fun a U g mk q => by obtain ⟨q0, q1, qP, qK, qD⟩ := q; exact ⟨q0, q1, qP, va_K.moved (u := U) (U := U.calling g mk a) (Vm.Alike.refl U.vm) qK, qD⟩, va_recv hK hP (ci := 11) (q0 := 1) rfl rfl, fun U hU hW => ⟨rfl, by rw [hU], by rw [hU]; exact hPc, va_K.moved hW.alike hKc, hDc.weaken (fun _ _ _ _ => trivial)⟩⟩ rfl rfl hl.1 rfl (lv_room (Nat.le_of_ble_eq_true rfl)) dX5_ringMember_5 ⟨Nat.le_of_ble_eq_true rfl, Nat.le_of_ble_eq_true rfl⟩) hS (fun q _ h => hFc q h) hFc (fun u t H1 locs ht hvm hw hB hz1 hk1 hS => ?_)
  obtain ⟨s5491, rfl⟩ : ∃ z, z = u := ⟨_, rfl⟩
  obtain ⟨hP1, hK1, hD1⟩ := hB
  rw [ht] at hP1
  try dsimp only at hw
  obtain ⟨hP, hD⟩ := va_join (wr := []) (w1 := [(Ad0, .inr (8, Fs0)), (Ad1, .inr (11, s5491)), (Ad2, .inl (Ka0, 400, .inl Fa0)), (Ad3, .inl (Ka1, 400, .inl Fa1))]) hP hD [0, 1, 2, 3] [] rfl rfl (by decide) (by decide) hk1 hFc hP1 hD1
  have hK := hK.sub (tys' := [(Ka0, .int), (Ka1, .int)]) [0, 1] rfl
  generalize H1 = H at hP hS ⊢
  have hP : va_P (dC, dI) vwCl [(Ad0, .inr (8, Fs0)), (Ad1, .inr (11, s5491)), (Ad2, .inl (Ka0, 400, .inl Fa0)), (Ad3, .inl (Ka1, 400, .inl Fa1))] H := hP
  have hD : va_D A [(Ad0, .inr (8, Fs0)), (Ad1, .inr (11, s5491)), (Ad2, .inl (Ka0, 400, .inl Fa0)), (Ad3, .inl (Ka1, 400, .inl Fa1))] := hD
  have o_s5491 := hw
  have o_s5491 := ow_on o_Fs1 o_s5491 (l' := [(9, .int 0), (13, .ref Ad2), (15, .ref Ad3), (1, .int 4), (13, .ref Ad2), (15, .ref Ad3), (13, .ref Ad2), (15, .ref Ad3), (8, .ref Br0)]) (w' := [9, 1]) rfl rfl
  refine lv_aload_n hx hb dX5_ringMember_8 rfl (lv_at hl 0 rfl) ?_
  refine lv_aload_n hx hb dX5_ringMember_9 rfl (lv_at hl 0 rfl) ?_
  refine va_get (D := (dC, dI)) (ci := 8) (v := .ref Ad1) (C := RX5) (T := TX5) (N := 21) hx hb hts (in_z_X5_ringMember_X5) hown hK hP 0 rfl rfl 20 (by decide) (hts (.fieldLink RX5 78 "HeapWorks$Picture" "shape" "LHeapWorks$Shape;") (by decide +kernel)) (fun _ h9 => h9) (ow_at o_Fs0 1 rfl) dX5_ringMember_10 ?_
  refine va_get (D := (dC, dI)) (ci := 11) (v := .ref Br0) (C := RX8) (T := TX8) (N := 18) hx hb hts (in_z_X5_ringMember_X8) hown hK hP 1 rfl rfl 8 (by decide) (hts (.fieldLink RX5 179 "HeapWorks$Shape" "ring" "[I") (by decide +kernel)) (fun _ h9 => h9) (ow_at o_s5491 8 rfl) dX5_ringMember_13 ?_
  refine lv_iload_n hx hb dX5_ringMember_16 rfl (lv_at hl 1 rfl) ?_
  refine lv_iload_n hx hb dX5_ringMember_17 rfl (lv_at hl 2 rfl) ?_
  have hPc := hP.sub (ws' := [(Ad0, .inr (8, Fs0))]) [0] rfl
  have hDc := hD.sub (ws' := [(Ad0, .inr (8, Fs0))]) [0] (by decide) rfl
  have hKc := hK.sub (tys' := []) [] rfl
  have hFc := va_free (wc := [(Ad0, .inr (8, Fs0))]) hD hS hA [0] rfl
  refine va_calli (va_runV (As := [.ref Br0, .int Va0, .int Va1]) (rest := []) ⟨hx, hb, hml, hown, hts⟩ (z_X5_memberOf l dC dI H.size Ad0 Fs0 Br0 Va0 Va1 (fh_sub o_Fs0.2 [0] rfl) ) (cwV 3 hts g_z_X5_ringMember_z_X5_memberOf_185 rfl rfl rfl (by decide +kernel) ⟨Nat.le_of_ble_eq_true rfl, Nat.le_of_ble_eq_true rfl⟩) ⟨fun a U g mk q => by obtain ⟨q0, q1, qP, qK, qD⟩ := q; exact ⟨q0, q1, qP, va_K.moved (u := U) (U := U.calling g mk a) (Vm.Alike.refl U.vm) qK, qD⟩, va_recv hK hP (ci := 8) (q0 := 0) rfl rfl, fun U hU hW => ⟨rfl, by rw [hU], by rw [hU]; exact hPc, va_K.moved hW.alike hKc, hDc.weaken (fun _ _ _ _ => trivial)⟩⟩ rfl rfl hl.1 rfl (lv_room (Nat.le_of_ble_eq_true rfl)) dX5_ringMember_18 ⟨Nat.le_of_ble_eq_true rfl, Nat.le_of_ble_eq_true rfl⟩) hS (fun q _ h => hFc q h) hFc (fun r5493 u t H1 locs ht hvm hw hB hz1 hk1 hS => ?_)
  obtain ⟨hP1, hK1, hD1⟩ := hB
  rw [ht] at hP1
  try dsimp only at hw
  obtain ⟨hP, hD⟩ := va_join (wr := [(Ad1, .inr (11, s5491)), (Ad2, .inl (Ka0, 400, .inl Fa0)), (Ad3, .inl (Ka1, 400, .inl Fa1))]) (w1 := [(Ad0, .inr (8, Fs0))]) hP hD [0] [1, 2, 3] rfl rfl (by decide) (by decide) hk1 hFc hP1 hD1
  have hK := hK.sub (tys' := [(Ka0, .int), (Ka1, .int)]) [0, 1] rfl
  generalize H1 = H at hP hS ⊢
  have hP : va_P (dC, dI) vwCl [(Ad1, .inr (11, s5491)), (Ad2, .inl (Ka0, 400, .inl Fa0)), (Ad3, .inl (Ka1, 400, .inl Fa1)), (Ad0, .inr (8, Fs0))] H := hP
  have hD : va_D A [(Ad1, .inr (11, s5491)), (Ad2, .inl (Ka0, 400, .inl Fa0)), (Ad3, .inl (Ka1, 400, .inl Fa1)), (Ad0, .inr (8, Fs0))] := hD
  have er5494 := hw
  subst er5494
  have hP9 := hP.sub (ws' := [(Ad0, .inr (8, Fs0)), (Ad1, .inr (11, s5491)), (Ad2, .inl (Ka0, 400, .inl Fa0)), (Ad3, .inl (Ka1, 400, .inl Fa1))]) [3, 0, 1, 2] rfl
  have hD9 := hD.sub (ws' := [(Ad0, .inr (8, Fs0)), (Ad1, .inr (11, s5491)), (Ad2, .inl (Ka0, 400, .inl Fa0)), (Ad3, .inl (Ka1, 400, .inl Fa1))]) [3, 0, 1, 2] (by decide) rfl
  have hK9 := hK.sub (tys' := [(Ka0, .int), (Ka1, .int)]) [0, 1] rfl
  exact W.iret (v := (-1)) hx hb hr (fun t ht hW => ⟨⟨(-1), s5491, rfl, ⟨rfl, o_s5491⟩, by rw [ht]; exact hP9, va_K.moved hW.alike hK9, hD9⟩, hS.F ht⟩) hS.2.2 dX5_ringMember_21

def l_x_member : List Cond := [.methodLink RX11 411 yX11_isPicture, .static yX11_isPicture, .initialized RX11, .classLink RX11 221 "java/util/NoSuchElementException", .initialized "java/util/NoSuchElementException", .fieldLink RX11 41 "HeapWorks" "pictures" "[LHeapWorks$Picture;", .methodLink RX11 435 yX5_twinMember, .instanceMethod yX5_twinMember, .selects RX5 yX5_twinMember yX5_twinMember, .initialized RX5, .methodLink RX11 432 yX5_ringMember, .instanceMethod yX5_ringMember, .selects RX5 yX5_ringMember yX5_ringMember, .code yX11_isPicture cX11_isPicture 1 (some .boolean), .code yX5_twinMember cX5_twinMember 3 (some .int), .fieldLink RX5 78 "HeapWorks$Picture" "shape" "LHeapWorks$Shape;", .methodLink RX5 189 yX8_needTwins, .instanceMethod yX8_needTwins, .selects RX8 yX8_needTwins yX8_needTwins, .initialized RX8, .fieldLink RX5 192 "HeapWorks$Shape" "twin" "[I", .methodLink RX5 185 yX5_memberOf, .instanceMethod yX5_memberOf, .selects RX5 yX5_memberOf yX5_memberOf, .code yX8_needTwins cX8_needTwins 6 none, .fieldLink RX8 60 "HeapWorks$Shape" "known" "I", .fieldLink RX8 57 "HeapWorks$Shape" "bucket" "[I", .methodLink RX8 149 yJ7_fill_53178, .static yJ7_fill_53178, .initialized RJ7, .fieldLink RX8 64 "HeapWorks$Picture" "things" "I", .fieldLink RX8 159 "HeapWorks$Shape" "twins" "I", .code yJ7_fill_53178 cJ7_fill_53178 4 none, .code yX5_memberOf cX5_memberOf 6 (some .int), .fieldLink RX5 82 "HeapWorks$Picture" "things" "I", .code yX5_ringMember cX5_ringMember 3 (some .int), .methodLink RX5 176 yX8_needRings, .instanceMethod yX8_needRings, .selects RX8 yX8_needRings yX8_needRings, .fieldLink RX5 179 "HeapWorks$Shape" "ring" "[I", .code yX8_needRings cX8_needRings 4 none, .methodLink RX8 123 yX8_numberRings, .instanceMethod yX8_numberRings, .selects RX8 yX8_numberRings yX8_numberRings, .code yX8_numberRings cX8_numberRings 4 none, .fieldLink RX8 45 "HeapWorks$Shape" "low" "[I", .methodLink RX8 67 yJ7_fill_fda19, .static yJ7_fill_fda19, .fieldLink RX8 51 "HeapWorks$Shape" "path" "[I", .fieldLink RX8 142 "HeapWorks$Shape" "rings" "I", .code yJ7_fill_fda19 cJ7_fill_fda19 5 none, .methodLink RJ7 13 yJ7_rangeCheck_23922, .static yJ7_rangeCheck_23922, .code yJ7_rangeCheck_23922 cJ7_rangeCheck_23922 3 none]
def w_x_member : List Cond := .code yX11_member cX11_member 6 (some .int) :: (l_x_member ++ ((((vx_at0 RX11 223 "java/util/NoSuchElementException" ["java/lang/RuntimeException", "java/lang/Exception"]).filter goodWord) ++ (wsX110 ++ (wsX50 ++ wsX80)))))
theorem in_x_member_at0_X11_223 : ∀ w ∈ ((vx_at0 RX11 223 "java/util/NoSuchElementException" ["java/lang/RuntimeException", "java/lang/Exception"]).filter goodWord), w ∈ w_x_member := fun w h => List.mem_cons_of_mem _ (List.mem_append_right _ (List.mem_append_left _ h))
theorem in_x_member_X11 : ∀ w ∈ wsX110, w ∈ w_x_member := fun w h => List.mem_cons_of_mem _ (List.mem_append_right _ (List.mem_append_right _ (List.mem_append_left _ h)))
theorem in_x_member_X5 : ∀ w ∈ wsX50, w ∈ w_x_member := fun w h => List.mem_cons_of_mem _ (List.mem_append_right _ (List.mem_append_right _ (List.mem_append_right _ (List.mem_append_left _ h))))
theorem in_x_member_X8 : ∀ w ∈ wsX80, w ∈ w_x_member := fun w h => List.mem_cons_of_mem _ (List.mem_append_right _ (List.mem_append_right _ (List.mem_append_right _ (List.mem_append_right _ (h)))))
theorem g_x_member_z_X11_isPicture_411 : GoodIn w_x_member (wsS RX11 411 yX11_isPicture w_z_X11_isPicture) := goodIn_app (goodIn_sub (by decide +kernel) (by decide +kernel)) (goodIn_sub (by decide +kernel) (by decide +kernel))
theorem g_x_member_z_X5_twinMember_435 : GoodIn w_x_member (wsV RX11 435 RX5 yX5_twinMember w_z_X5_twinMember) := goodIn_app (goodIn_sub (by decide +kernel) (by decide +kernel)) (goodIn_ca (goodIn_sub (by decide +kernel) (by decide +kernel)) (goodIn_app (goodIn_in in_x_member_X5 gd_X5) (goodIn_in in_x_member_X8 gd_X8)))
theorem g_x_member_z_X5_ringMember_432 : GoodIn w_x_member (wsV RX11 432 RX5 yX5_ringMember w_z_X5_ringMember) := goodIn_app (goodIn_sub (by decide +kernel) (by decide +kernel)) (goodIn_ca (goodIn_sub (by decide +kernel) (by decide +kernel)) (goodIn_app (goodIn_in in_x_member_X5 gd_X5) (goodIn_in in_x_member_X8 gd_X8)))
set_option maxHeartbeats 4000000 in
set_option maxRecDepth 100000 in
theorem x_member (l : Launch) (dC : Nat → ClassId) (dI : Nat → Nat → Nat) (sz : Nat) (aX : Nat) (fsX : List Value) (qP : Nat) (gP : Nat → Option Nat) (kP : ClassId) (ap : Nat) (fsp : List Value) (aSh : Nat) (fss : List Value) (ql : Nat) (fl : Nat → Int32) (kl : ClassId) (qt : Nat) (ft : Nat → Int32) (kt : ClassId) (qk : Nat) (fk : Nat → Int32) (kk : ClassId) (p0 : Int32) (p1 : Int32) (p2 : Int32) (p3 : Int32) (qri : Nat) (qtw : Nat) (k_fsX : fh fsX 18 [(4, .ref qP)]) (k_fsp : fh fsp 21 [(0, .int 0), (20, .ref aSh)]) (k_fss : fh fss 18 [(1, .int 0), (13, .ref ql), (15, .ref qt), (17, .ref qk), (8, .ref qri), (10, .ref qtw)]) (hst : l.stackTraces = false) (hg : gP p0.toNatClampNeg = some ap) : vx_Met l yX11_member w_x_member ({ frames := 7, cells := 1, slots := 6, locals := 140 }) (va_Pc [.ref aX, .int p0, .int p1, .int p2, .int p3] (fun U => U.heap.size = sz ∧ Zz (va_A [(aX, .inr (14, fsX)), (qP, .inl (kP, 4, .inr (.inr (.inr (.inr gP))))), (ap, .inr (8, fsp)), (aSh, .inr (11, fss)), (ql, .inl (kl, 400, .inl fl)), (qt, .inl (kt, 400, .inl ft)), (qk, .inl (kk, 512, .inl fk))] sz) U ∧ Wd dC dI [(kP, .object "HeapWorks$Picture"), (kl, .int), (kt, .int), (kk, .int)] (fun _ => True) [(aX, .inr (14, fsX)), (qP, .inl (kP, 4, .inr (.inr (.inr (.inr gP))))), (ap, .inr (8, fsp)), (aSh, .inr (11, fss)), (ql, .inl (kl, 400, .inl fl)), (qt, .inl (kt, 400, .inl ft)), (qk, .inl (kk, 512, .inl fk))] U)) (va_Qi (fun (r : Int32) (u : Unit) => False) (fun (u : Unit) t => Wd dC dI [(kP, .object "HeapWorks$Picture"), (kl, .int), (kt, .int), (kk, .int)] (va_A [(aX, .inr (14, fsX)), (qP, .inl (kP, 4, .inr (.inr (.inr (.inr gP))))), (ap, .inr (8, fsp)), (aSh, .inr (11, fss)), (ql, .inl (kl, 400, .inl fl)), (qt, .inl (kt, 400, .inl ft)), (qk, .inl (kk, 512, .inl fk))] sz) [(aX, .inr (14, fsX)), (qP, .inl (kP, 4, .inr (.inr (.inr (.inr gP))))), (ap, .inr (8, fsp)), (aSh, .inr (11, fss)), (ql, .inl (kl, 400, .inl fl)), (qt, .inl (kt, 400, .inl ft)), (qk, .inl (kk, 512, .inl fk))] t) (va_A [(aX, .inr (14, fsX)), (qP, .inl (kP, 4, .inr (.inr (.inr (.inr gP))))), (ap, .inr (8, fsp)), (aSh, .inr (11, fss)), (ql, .inl (kl, 400, .inl fl)), (qt, .inl (kt, 400, .inl ft)), (qk, .inl (kk, 512, .inl fk))] sz)) (vx_X (fun _ : Unit => True) (fun E _ _ => (E = "java/util/NoSuchElementException" ∧ p0 < 0) ∨ (E = "java/util/NoSuchElementException" ∧ ¬ p0 < 0 ∧ 4 ≤ p0) ∨ (E = "java/util/NoSuchElementException" ∧ ¬ p0 < 0 ∧ ¬ 4 ≤ p0 ∧ p1 < 0) ∨ (E = "java/util/NoSuchElementException" ∧ ¬ p0 < 0 ∧ ¬ 4 ≤ p0 ∧ ¬ p1 < 0 ∧ 1 < p1) ∨ (E = "java/util/NoSuchElementException" ∧ ¬ p0 < 0 ∧ ¬ 4 ≤ p0 ∧ ¬ p1 < 0 ∧ ¬ 1 < p1 ∧ p2 < 0) ∨ (E = "java/util/NoSuchElementException" ∧ ¬ p0 < 0 ∧ ¬ 4 ≤ p0 ∧ ¬ p1 < 0 ∧ ¬ 1 < p1 ∧ ¬ p2 < 0 ∧ 0 ≤ p3 ∧ ¬ p1 = 0) ∨ (E = "java/util/NoSuchElementException" ∧ ¬ p0 < 0 ∧ ¬ 4 ≤ p0 ∧ ¬ p1 < 0 ∧ ¬ 1 < p1 ∧ ¬ p2 < 0 ∧ 0 ≤ p3 ∧ p1 = 0) ∨ (E = "java/util/NoSuchElementException" ∧ ¬ p0 < 0 ∧ ¬ 4 ≤ p0 ∧ ¬ p1 < 0 ∧ ¬ 1 < p1 ∧ ¬ p2 < 0 ∧ ¬ 0 ≤ p3)) (va_A [(aX, .inr (14, fsX)), (qP, .inl (kP, 4, .inr (.inr (.inr (.inr gP))))), (ap, .inr (8, fsp)), (aSh, .inr (11, fss)), (ql, .inl (kl, 400, .inl fl)), (qt, .inl (kt, 400, .inl ft)), (qk, .inl (kk, 512, .inl fk))] sz)) 1 6 (va_A [(aX, .inr (14, fsX)), (qP, .inl (kP, 4, .inr (.inr (.inr (.inr gP))))), (ap, .inr (8, fsp)), (aSh, .inr (11, fss)), (ql, .inl (kl, 400, .inl fl)), (qt, .inl (kt, 400, .inl ft)), (qk, .inl (kk, 512, .inl fk))] sz) := by
  refine vx_ofW (cc := cX11_member) (maxL := 6) (ret := (some .int)) (by decide) rfl ?_
  intro p e s m args below meth c s₁ B hml htab hv
  obtain ⟨rfl, hsz, hZ, hP, hK, hD0⟩ := hv
  have hx := B.exec
  have hb := B.bytes
  have hr := B.returns
  have hts := atoms_spec (ws := w_x_member) B.pre
  have hown : s.vm.findClass RX11 = some m.cls := findClass_of_methodNamed B.named
  have hlocks := B.notSynchronized
  subst hsz
  have hD := hD0.self (sz := s.heap.size)
  generalize hAe : va_A [(aX, .inr (14, fsX)), (qP, .inl (kP, 4, .inr (.inr (.inr (.inr gP))))), (ap, .inr (8, fsp)), (aSh, .inr (11, fss)), (ql, .inl (kl, 400, .inl fl)), (qt, .inl (kt, 400, .inl ft)), (qk, .inl (kk, 512, .inl fk))] s.heap.size = A at hD hZ ⊢
  have hA : ∀ q : Nat, s.heap.size ≤ q → A q := fun q h => by rw [← hAe]; exact Or.inr h
  have hS : va_S A s.heap s.heap [] := va_S.rf
  have hl := lv_entry ([.ref aX, .int p0, .int p1, .int p2, .int p3]) (n := 6) (Nat.le_of_ble_eq_true rfl)
  rw [lg_entry_eq]
  generalize (lg_sl ([.ref aX, .int p0, .int p1, .int p2, .int p3]) ++ List.replicate (6 - (lg_sl ([.ref aX, .int p0, .int p1, .int p2, .int p3])).length) Slot.unset).toArray = ls at hl ⊢
  have hl : lv_has ls 6 [(0, .ref aX), (1, .int p0), (2, .int p1), (3, .int p2), (4, .int p3)] := hl
  have o_fsX := ow_0 k_fsX
  have o_fsp := ow_0 k_fsp
  have o_fss := ow_0 k_fss
  refine lv_iload_n hx hb dX11_member_0 rfl (lv_at hl 1 rfl) ?_
  have hPc := hP.sub (ws' := []) [] rfl
  have hDc := hD.sub (ws' := []) [] (by decide) rfl
  have hKc := hK.sub (tys' := []) [] rfl
  have hFc := va_free (wc := []) hD hS hA [] rfl
  refine va_calli (va_runS (As := [.int p0]) (rest := []) ⟨hx, hb, hml, hown, hts⟩ (z_X11_isPicture l dC dI s.heap.size p0  ) (cwS 1 hts g_x_member_z_X11_isPicture_411 rfl rfl rfl (by decide +kernel) ⟨Nat.le_of_ble_eq_true rfl, Nat.le_of_ble_eq_true rfl⟩) ⟨fun a U g mk q => by obtain ⟨q0, q1, qP, qK, qD⟩ := q; exact ⟨q0, q1, qP, va_K.moved (u := U) (U := U.calling g mk a) (Vm.Alike.refl U.vm) qK, qD⟩, fun U hU hW => ⟨rfl, by rw [hU], by rw [hU]; exact hPc, va_K.moved hW.alike hKc, hDc.weaken (fun _ _ _ _ => trivial)⟩⟩ rfl rfl hl.1 rfl (lv_room (Nat.le_of_ble_eq_true rfl)) dX11_member_1 ⟨Nat.le_of_ble_eq_true rfl, Nat.le_of_ble_eq_true rfl⟩) hS (fun q _ h => hFc q h) hFc (fun r5501 u t H1 locs ht hvm hw hB hz1 hk1 hS => ?_)
  obtain ⟨hP1, hK1, hD1⟩ := hB
  rw [ht] at hP1
  try dsimp only at hw
  obtain ⟨hP, hD⟩ := va_join (wr := [(aX, .inr (14, fsX)), (qP, .inl (kP, 4, .inr (.inr (.inr (.inr gP))))), (ap, .inr (8, fsp)), (aSh, .inr (11, fss)), (ql, .inl (kl, 400, .inl fl)), (qt, .inl (kt, 400, .inl ft)), (qk, .inl (kk, 512, .inl fk))]) (w1 := []) hP hD [] [0, 1, 2, 3, 4, 5, 6] rfl rfl (by decide) (by decide) hk1 hFc hP1 hD1
  have hK := hK.sub (tys' := [(kP, .object "HeapWorks$Picture"), (kl, .int), (kt, .int), (kk, .int)]) [0, 1, 2, 3] rfl
  generalize H1 = H at hP hS ⊢
  have hP : va_P (dC, dI) vwCl [(aX, .inr (14, fsX)), (qP, .inl (kP, 4, .inr (.inr (.inr (.inr gP))))), (ap, .inr (8, fsp)), (aSh, .inr (11, fss)), (ql, .inl (kl, 400, .inl fl)), (qt, .inl (kt, 400, .inl ft)), (qk, .inl (kk, 512, .inl fk))] H := hP
  have hD : va_D A [(aX, .inr (14, fsX)), (qP, .inl (kP, 4, .inr (.inr (.inr (.inr gP))))), (ap, .inr (8, fsp)), (aSh, .inr (11, fss)), (ql, .inl (kl, 400, .inl fl)), (qt, .inl (kt, 400, .inl ft)), (qk, .inl (kk, 512, .inl fk))] := hD
  rcases hw with ⟨c5502, er5503⟩ | ⟨c5504, c5505, er5506⟩ | ⟨c5507, c5508, er5509⟩
  · skip
    subst er5503
    refine lv_if_eq (tgt := 25) hx hb dX11_member_4 (by decide) (fun c5510 => ?_) (fun c5510 => absurd c5510 (by decide))
    exact vx_throw0 (names := ["java/lang/RuntimeException", "java/lang/Exception"]) hx hb hst hown (by decide +kernel) (by decide +kernel) (hts (.classLink RX11 221 "java/util/NoSuchElementException") (by decide +kernel)) (hts (.initialized "java/util/NoSuchElementException") (by decide +kernel)) (vx_hat (B := xB "java/util/NoSuchElementException") (fun w h => hts w (in_x_member_at0_X11_223 w h)) (by decide +kernel) (Zz_xB hZ (by decide))) (by decide +kernel) hZ.1 hZ.2.1 hS (hl.1.trans hml.symm) dX11_member_25 dX11_member_28 dX11_member_29 dX11_member_32 (fun x h => (htab x h).elim) (by decide) (Nat.le_of_ble_eq_true rfl) (Nat.le_of_ble_eq_true rfl) (Nat.le_of_ble_eq_true rfl) hlocks (fun t _ h1 h2 => ⟨(), trivial, (Or.inl ⟨rfl, c5502⟩), xx_F hS h1 h2⟩) hS.2.2 (by decide) (by decide)
  · skip
    subst er5506
    refine lv_if_eq (tgt := 25) hx hb dX11_member_4 (by decide) (fun c5511 => ?_) (fun c5511 => absurd c5511 (by decide))
    exact vx_throw0 (names := ["java/lang/RuntimeException", "java/lang/Exception"]) hx hb hst hown (by decide +kernel) (by decide +kernel) (hts (.classLink RX11 221 "java/util/NoSuchElementException") (by decide +kernel)) (hts (.initialized "java/util/NoSuchElementException") (by decide +kernel)) (vx_hat (B := xB "java/util/NoSuchElementException") (fun w h => hts w (in_x_member_at0_X11_223 w h)) (by decide +kernel) (Zz_xB hZ (by decide))) (by decide +kernel) hZ.1 hZ.2.1 hS (hl.1.trans hml.symm) dX11_member_25 dX11_member_28 dX11_member_29 dX11_member_32 (fun x h => (htab x h).elim) (by decide) (Nat.le_of_ble_eq_true rfl) (Nat.le_of_ble_eq_true rfl) (Nat.le_of_ble_eq_true rfl) hlocks (fun t _ h1 h2 => ⟨(), trivial, (Or.inr (Or.inl ⟨rfl, c5504, c5505⟩)), xx_F hS h1 h2⟩) hS.2.2 (by decide) (by decide)
  · skip
    subst er5509
    refine lv_if_eq (tgt := 25) hx hb dX11_member_4 (by decide) (fun c5512 => absurd c5512 (by decide)) (fun c5512 => ?_)
    refine lv_iload_n hx hb dX11_member_7 rfl (lv_at hl 2 rfl) ?_
    refine lv_if_lt (tgt := 25) hx hb dX11_member_8 (by decide) (fun c5513 => ?_) (fun c5513 => ?_)
    · skip
      exact vx_throw0 (names := ["java/lang/RuntimeException", "java/lang/Exception"]) hx hb hst hown (by decide +kernel) (by decide +kernel) (hts (.classLink RX11 221 "java/util/NoSuchElementException") (by decide +kernel)) (hts (.initialized "java/util/NoSuchElementException") (by decide +kernel)) (vx_hat (B := xB "java/util/NoSuchElementException") (fun w h => hts w (in_x_member_at0_X11_223 w h)) (by decide +kernel) (Zz_xB hZ (by decide))) (by decide +kernel) hZ.1 hZ.2.1 hS (hl.1.trans hml.symm) dX11_member_25 dX11_member_28 dX11_member_29 dX11_member_32 (fun x h => (htab x h).elim) (by decide) (Nat.le_of_ble_eq_true rfl) (Nat.le_of_ble_eq_true rfl) (Nat.le_of_ble_eq_true rfl) hlocks (fun t _ h1 h2 => ⟨(), trivial, (Or.inr (Or.inr (Or.inl ⟨rfl, c5507, c5508, c5513⟩))), xx_F hS h1 h2⟩) hS.2.2 (by decide) (by decide)
    · skip
      refine lv_iload_n hx hb dX11_member_11 rfl (lv_at hl 2 rfl) ?_
      refine lv_iconst (v := 1) hx hb dX11_member_12 (by decide) ?_
      refine lv_icmp_gt (tgt := 25) hx hb dX11_member_13 (by decide) (fun c5514 => ?_) (fun c5514 => ?_)
      · skip
        exact vx_throw0 (names := ["java/lang/RuntimeException", "java/lang/Exception"]) hx hb hst hown (by decide +kernel) (by decide +kernel) (hts (.classLink RX11 221 "java/util/NoSuchElementException") (by decide +kernel)) (hts (.initialized "java/util/NoSuchElementException") (by decide +kernel)) (vx_hat (B := xB "java/util/NoSuchElementException") (fun w h => hts w (in_x_member_at0_X11_223 w h)) (by decide +kernel) (Zz_xB hZ (by decide))) (by decide +kernel) hZ.1 hZ.2.1 hS (hl.1.trans hml.symm) dX11_member_25 dX11_member_28 dX11_member_29 dX11_member_32 (fun x h => (htab x h).elim) (by decide) (Nat.le_of_ble_eq_true rfl) (Nat.le_of_ble_eq_true rfl) (Nat.le_of_ble_eq_true rfl) hlocks (fun t _ h1 h2 => ⟨(), trivial, (Or.inr (Or.inr (Or.inr (Or.inl ⟨rfl, c5507, c5508, c5513, c5514⟩)))), xx_F hS h1 h2⟩) hS.2.2 (by decide) (by decide)
      · skip
        refine lv_iload_n hx hb dX11_member_16 rfl (lv_at hl 3 rfl) ?_
        refine lv_if_lt (tgt := 25) hx hb dX11_member_17 (by decide) (fun c5515 => ?_) (fun c5515 => ?_)
        · skip
          exact vx_throw0 (names := ["java/lang/RuntimeException", "java/lang/Exception"]) hx hb hst hown (by decide +kernel) (by decide +kernel) (hts (.classLink RX11 221 "java/util/NoSuchElementException") (by decide +kernel)) (hts (.initialized "java/util/NoSuchElementException") (by decide +kernel)) (vx_hat (B := xB "java/util/NoSuchElementException") (fun w h => hts w (in_x_member_at0_X11_223 w h)) (by decide +kernel) (Zz_xB hZ (by decide))) (by decide +kernel) hZ.1 hZ.2.1 hS (hl.1.trans hml.symm) dX11_member_25 dX11_member_28 dX11_member_29 dX11_member_32 (fun x h => (htab x h).elim) (by decide) (Nat.le_of_ble_eq_true rfl) (Nat.le_of_ble_eq_true rfl) (Nat.le_of_ble_eq_true rfl) hlocks (fun t _ h1 h2 => ⟨(), trivial, (Or.inr (Or.inr (Or.inr (Or.inr (Or.inl ⟨rfl, c5507, c5508, c5513, c5514, c5515⟩))))), xx_F hS h1 h2⟩) hS.2.2 (by decide) (by decide)
        · skip
          refine lv_iload hx hb dX11_member_20 (lv_at hl 4 rfl) ?_
          refine lv_if_ge (tgt := 33) hx hb dX11_member_22 (by decide) (fun c5516 => ?_) (fun c5516 => ?_)
          · skip
            refine lv_iload_n hx hb dX11_member_33 rfl (lv_at hl 2 rfl) ?_
            refine lv_if_ne (tgt := 52) hx hb dX11_member_34 (by decide) (fun c5517 => ?_) (fun c5517 => ?_)
            · skip
              refine lv_aload_n hx hb dX11_member_52 rfl (lv_at hl 0 rfl) ?_
              refine va_get (D := (dC, dI)) (ci := 14) (v := .ref qP) (C := RX11) (T := TX11) (N := 18) hx hb hts (in_x_member_X11) hown hK hP 0 rfl rfl 4 (by decide) (hts (.fieldLink RX11 41 "HeapWorks" "pictures" "[LHeapWorks$Picture;") (by decide +kernel)) (fun _ h9 => h9) (ow_at o_fsX 0 rfl) dX11_member_53 ?_
              refine lv_iload_n hx hb dX11_member_56 rfl (lv_at hl 1 rfl) ?_
              refine va_aldq hx hb hK hP 1 0 rfl rfl (by rw [vp_in_iff]; (try simp only [i_lt, i_le, i_eq, kc_0, kc_4] at c5507 c5508); omega) dX11_member_57 ?_
              refine W.eq (g2 := F0 m 58 ls (.ref ap :: [])) (by rw [hg]; rfl) ?_
              refine lv_iload_n hx hb dX11_member_58 rfl (lv_at hl 3 rfl) ?_
              refine lv_iload hx hb dX11_member_59 (lv_at hl 4 rfl) ?_
              have hPc := hP.sub (ws' := [(ap, .inr (8, fsp)), (aSh, .inr (11, fss)), (qk, .inl (kk, 512, .inl fk))]) [2, 3, 6] rfl
              have hDc := hD.sub (ws' := [(ap, .inr (8, fsp)), (aSh, .inr (11, fss)), (qk, .inl (kk, 512, .inl fk))]) [2, 3, 6] (by decide) rfl
              have hKc := hK.sub (tys' := [(kk, .int)]) [3] rfl
              have hFc := va_free (wc := [(ap, .inr (8, fsp)), (aSh, .inr (11, fss)), (qk, .inl (kk, 512, .inl fk))]) hD hS hA [2, 3, 6] rfl
              refine va_calli (va_runV (As := [.int p2, .int p3]) (rest := []) ⟨hx, hb, hml, hown, hts⟩ (z_X5_twinMember l dC dI H.size ap fsp aSh fss qk fk kk p2 p3 qtw (fh_sub o_fsp.2 [0, 1] rfl) (fh_sub o_fss.2 [0, 3, 5] rfl) ) (cwV 2 hts g_x_member_z_X5_twinMember_435 rfl rfl rfl (by decide +kernel) ⟨Nat.le_of_ble_eq_true rfl, Nat.le_of_ble_eq_true rfl⟩) ⟨fun a U g mk q => by obtain ⟨q0, q1, qP, qK, qD⟩ := q; exact ⟨q0, q1, qP, va_K.moved (u := U) (U := U.calling g mk a) (Vm.Alike.refl U.vm) qK, qD⟩, va_recv hK hP (ci := 8) (q0 := 2) rfl rfl, fun U hU hW => ⟨rfl, by rw [hU], by rw [hU]; exact hPc, va_K.moved hW.alike hKc, hDc.weaken (fun _ _ _ _ => trivial)⟩⟩ rfl rfl hl.1 rfl (lv_room (Nat.le_of_ble_eq_true rfl)) dX11_member_61 ⟨Nat.le_of_ble_eq_true rfl, Nat.le_of_ble_eq_true rfl⟩) hS (fun q _ h => hFc q h) hFc (fun r5566 u t H1 locs ht hvm hw hB hz1 hk1 hS => ?_)
              obtain ⟨s5567, f5568⟩ := u
              obtain ⟨hP1, hK1, hD1⟩ := hB
              rw [ht] at hP1
              try dsimp only at hw
              obtain ⟨hP, hD⟩ := va_join (wr := [(aX, .inr (14, fsX)), (qP, .inl (kP, 4, .inr (.inr (.inr (.inr gP))))), (ql, .inl (kl, 400, .inl fl)), (qt, .inl (kt, 400, .inl ft))]) (w1 := [(ap, .inr (8, fsp)), (aSh, .inr (11, s5567)), (qk, .inl (kk, 512, .inl f5568))]) hP hD [2, 3, 6] [0, 1, 4, 5] rfl rfl (by decide) (by decide) hk1 hFc hP1 hD1
              have hK := hK.sub (tys' := [(kP, .object "HeapWorks$Picture"), (kl, .int), (kt, .int), (kk, .int)]) [0, 1, 2, 3] rfl
              generalize H1 = H at hP hS ⊢
              have hP : va_P (dC, dI) vwCl [(aX, .inr (14, fsX)), (qP, .inl (kP, 4, .inr (.inr (.inr (.inr gP))))), (ql, .inl (kl, 400, .inl fl)), (qt, .inl (kt, 400, .inl ft)), (ap, .inr (8, fsp)), (aSh, .inr (11, s5567)), (qk, .inl (kk, 512, .inl f5568))] H := hP
              have hD : va_D A [(aX, .inr (14, fsX)), (qP, .inl (kP, 4, .inr (.inr (.inr (.inr gP))))), (ql, .inl (kl, 400, .inl fl)), (qt, .inl (kt, 400, .inl ft)), (ap, .inr (8, fsp)), (aSh, .inr (11, s5567)), (qk, .inl (kk, 512, .inl f5568))] := hD
              obtain ⟨er5569, o_s5567⟩ := hw
              subst er5569
              have o_s5567 := ow_on o_fss o_s5567 (l' := [(11, .int 0), (1, .int 8), (17, .ref qk), (17, .ref qk), (10, .ref qtw), (13, .ref ql), (15, .ref qt), (17, .ref qk), (8, .ref qri), (10, .ref qtw)]) (w' := [11, 1]) rfl rfl
              refine lv_istore (lv' := [(5, .int (-1)), (0, .ref aX), (1, .int p0), (2, .int p1), (3, .int p2), (4, .int p3)]) hx hb dX11_member_64 hl (by decide) rfl (fun ls hl => ?_)
              refine lv_iload hx hb dX11_member_66 (lv_at hl 0 rfl) ?_
              refine lv_iconst (v := (-1)) hx hb dX11_member_68 (by decide) ?_
              refine lv_icmp_ne (tgt := 80) hx hb dX11_member_69 (by decide) (fun c5570 => absurd c5570 (by decide)) (fun c5570 => ?_)
              exact vx_throw0 (names := ["java/lang/RuntimeException", "java/lang/Exception"]) hx hb hst hown (by decide +kernel) (by decide +kernel) (hts (.classLink RX11 221 "java/util/NoSuchElementException") (by decide +kernel)) (hts (.initialized "java/util/NoSuchElementException") (by decide +kernel)) (vx_hat (B := xB "java/util/NoSuchElementException") (fun w h => hts w (in_x_member_at0_X11_223 w h)) (by decide +kernel) (Zz_xB hZ (by decide))) (by decide +kernel) hZ.1 hZ.2.1 hS (hl.1.trans hml.symm) dX11_member_72 dX11_member_75 dX11_member_76 dX11_member_79 (fun x h => (htab x h).elim) (by decide) (Nat.le_of_ble_eq_true rfl) (Nat.le_of_ble_eq_true rfl) (Nat.le_of_ble_eq_true rfl) hlocks (fun t _ h1 h2 => ⟨(), trivial, (Or.inr (Or.inr (Or.inr (Or.inr (Or.inr (Or.inl ⟨rfl, c5507, c5508, c5513, c5514, c5515, c5516, c5517⟩)))))), xx_F hS h1 h2⟩) hS.2.2 (by decide) (by decide)
            · skip
              refine lv_aload_n hx hb dX11_member_37 rfl (lv_at hl 0 rfl) ?_
              refine va_get (D := (dC, dI)) (ci := 14) (v := .ref qP) (C := RX11) (T := TX11) (N := 18) hx hb hts (in_x_member_X11) hown hK hP 0 rfl rfl 4 (by decide) (hts (.fieldLink RX11 41 "HeapWorks" "pictures" "[LHeapWorks$Picture;") (by decide +kernel)) (fun _ h9 => h9) (ow_at o_fsX 0 rfl) dX11_member_38 ?_
              refine lv_iload_n hx hb dX11_member_41 rfl (lv_at hl 1 rfl) ?_
              refine va_aldq hx hb hK hP 1 0 rfl rfl (by rw [vp_in_iff]; (try simp only [i_lt, i_le, i_eq, kc_0, kc_4] at c5507 c5508); omega) dX11_member_42 ?_
              refine W.eq (g2 := F0 m 43 ls (.ref ap :: [])) (by rw [hg]; rfl) ?_
              refine lv_iload_n hx hb dX11_member_43 rfl (lv_at hl 3 rfl) ?_
              refine lv_iload hx hb dX11_member_44 (lv_at hl 4 rfl) ?_
              have hPc := hP.sub (ws' := [(ap, .inr (8, fsp)), (aSh, .inr (11, fss)), (ql, .inl (kl, 400, .inl fl)), (qt, .inl (kt, 400, .inl ft))]) [2, 3, 4, 5] rfl
              have hDc := hD.sub (ws' := [(ap, .inr (8, fsp)), (aSh, .inr (11, fss)), (ql, .inl (kl, 400, .inl fl)), (qt, .inl (kt, 400, .inl ft))]) [2, 3, 4, 5] (by decide) rfl
              have hKc := hK.sub (tys' := [(kl, .int), (kt, .int)]) [1, 2] rfl
              have hFc := va_free (wc := [(ap, .inr (8, fsp)), (aSh, .inr (11, fss)), (ql, .inl (kl, 400, .inl fl)), (qt, .inl (kt, 400, .inl ft))]) hD hS hA [2, 3, 4, 5] rfl
              refine va_calli (va_runV (As := [.int p2, .int p3]) (rest := []) ⟨hx, hb, hml, hown, hts⟩ (z_X5_ringMember l dC dI H.size ap fsp aSh fss ql fl kl qt ft kt p2 p3 qri (fh_sub o_fsp.2 [0, 1] rfl) (fh_sub o_fss.2 [0, 1, 2, 4] rfl) ) (cwV 2 hts g_x_member_z_X5_ringMember_432 rfl rfl rfl (by decide +kernel) ⟨Nat.le_of_ble_eq_true rfl, Nat.le_of_ble_eq_true rfl⟩) ⟨fun a U g mk q => by obtain ⟨q0, q1, qP, qK, qD⟩ := q; exact ⟨q0, q1, qP, va_K.moved (u := U) (U := U.calling g mk a) (Vm.Alike.refl U.vm) qK, qD⟩, va_recv hK hP (ci := 8) (q0 := 2) rfl rfl, fun U hU hW => ⟨rfl, by rw [hU], by rw [hU]; exact hPc, va_K.moved hW.alike hKc, hDc.weaken (fun _ _ _ _ => trivial)⟩⟩ rfl rfl hl.1 rfl (lv_room (Nat.le_of_ble_eq_true rfl)) dX11_member_46 ⟨Nat.le_of_ble_eq_true rfl, Nat.le_of_ble_eq_true rfl⟩) hS (fun q _ h => hFc q h) hFc (fun r5593 u t H1 locs ht hvm hw hB hz1 hk1 hS => ?_)
              obtain ⟨s5594, rfl⟩ : ∃ z, z = u := ⟨_, rfl⟩
              obtain ⟨hP1, hK1, hD1⟩ := hB
              rw [ht] at hP1
              try dsimp only at hw
              obtain ⟨hP, hD⟩ := va_join (wr := [(aX, .inr (14, fsX)), (qP, .inl (kP, 4, .inr (.inr (.inr (.inr gP))))), (qk, .inl (kk, 512, .inl fk))]) (w1 := [(ap, .inr (8, fsp)), (aSh, .inr (11, s5594)), (ql, .inl (kl, 400, .inl fl)), (qt, .inl (kt, 400, .inl ft))]) hP hD [2, 3, 4, 5] [0, 1, 6] rfl rfl (by decide) (by decide) hk1 hFc hP1 hD1
              have hK := hK.sub (tys' := [(kP, .object "HeapWorks$Picture"), (kk, .int), (kl, .int), (kt, .int)]) [0, 3, 1, 2] rfl
              generalize H1 = H at hP hS ⊢
              have hP : va_P (dC, dI) vwCl [(aX, .inr (14, fsX)), (qP, .inl (kP, 4, .inr (.inr (.inr (.inr gP))))), (qk, .inl (kk, 512, .inl fk)), (ap, .inr (8, fsp)), (aSh, .inr (11, s5594)), (ql, .inl (kl, 400, .inl fl)), (qt, .inl (kt, 400, .inl ft))] H := hP
              have hD : va_D A [(aX, .inr (14, fsX)), (qP, .inl (kP, 4, .inr (.inr (.inr (.inr gP))))), (qk, .inl (kk, 512, .inl fk)), (ap, .inr (8, fsp)), (aSh, .inr (11, s5594)), (ql, .inl (kl, 400, .inl fl)), (qt, .inl (kt, 400, .inl ft))] := hD
              obtain ⟨er5595, o_s5594⟩ := hw
              subst er5595
              have o_s5594 := ow_on o_fss o_s5594 (l' := [(9, .int 0), (13, .ref ql), (15, .ref qt), (1, .int 4), (13, .ref ql), (15, .ref qt), (13, .ref ql), (15, .ref qt), (8, .ref qri), (13, .ref ql), (15, .ref qt), (17, .ref qk), (8, .ref qri), (10, .ref qtw)]) (w' := [9, 1]) rfl rfl
              refine lv_goto (tgt := 64) hx hb dX11_member_49 (by decide) ?_
              refine lv_istore (lv' := [(5, .int (-1)), (0, .ref aX), (1, .int p0), (2, .int p1), (3, .int p2), (4, .int p3)]) hx hb dX11_member_64 hl (by decide) rfl (fun ls hl => ?_)
              refine lv_iload hx hb dX11_member_66 (lv_at hl 0 rfl) ?_
              refine lv_iconst (v := (-1)) hx hb dX11_member_68 (by decide) ?_
              refine lv_icmp_ne (tgt := 80) hx hb dX11_member_69 (by decide) (fun c5596 => absurd c5596 (by decide)) (fun c5596 => ?_)
              exact vx_throw0 (names := ["java/lang/RuntimeException", "java/lang/Exception"]) hx hb hst hown (by decide +kernel) (by decide +kernel) (hts (.classLink RX11 221 "java/util/NoSuchElementException") (by decide +kernel)) (hts (.initialized "java/util/NoSuchElementException") (by decide +kernel)) (vx_hat (B := xB "java/util/NoSuchElementException") (fun w h => hts w (in_x_member_at0_X11_223 w h)) (by decide +kernel) (Zz_xB hZ (by decide))) (by decide +kernel) hZ.1 hZ.2.1 hS (hl.1.trans hml.symm) dX11_member_72 dX11_member_75 dX11_member_76 dX11_member_79 (fun x h => (htab x h).elim) (by decide) (Nat.le_of_ble_eq_true rfl) (Nat.le_of_ble_eq_true rfl) (Nat.le_of_ble_eq_true rfl) hlocks (fun t _ h1 h2 => ⟨(), trivial, (Or.inr (Or.inr (Or.inr (Or.inr (Or.inr (Or.inr (Or.inl ⟨rfl, c5507, c5508, c5513, c5514, c5515, c5516, c5517⟩))))))), xx_F hS h1 h2⟩) hS.2.2 (by decide) (by decide)
          · skip
            exact vx_throw0 (names := ["java/lang/RuntimeException", "java/lang/Exception"]) hx hb hst hown (by decide +kernel) (by decide +kernel) (hts (.classLink RX11 221 "java/util/NoSuchElementException") (by decide +kernel)) (hts (.initialized "java/util/NoSuchElementException") (by decide +kernel)) (vx_hat (B := xB "java/util/NoSuchElementException") (fun w h => hts w (in_x_member_at0_X11_223 w h)) (by decide +kernel) (Zz_xB hZ (by decide))) (by decide +kernel) hZ.1 hZ.2.1 hS (hl.1.trans hml.symm) dX11_member_25 dX11_member_28 dX11_member_29 dX11_member_32 (fun x h => (htab x h).elim) (by decide) (Nat.le_of_ble_eq_true rfl) (Nat.le_of_ble_eq_true rfl) (Nat.le_of_ble_eq_true rfl) hlocks (fun t _ h1 h2 => ⟨(), trivial, (Or.inr (Or.inr (Or.inr (Or.inr (Or.inr (Or.inr (Or.inr (⟨rfl, c5507, c5508, c5513, c5514, c5515, c5516⟩)))))))), xx_F hS h1 h2⟩) hS.2.2 (by decide) (by decide)

def l_x_choose : List Cond := [.methodLink RX11 359 yX11_isThing, .instanceMethod yX11_isThing, .selects RX11 yX11_isThing yX11_isThing, .initialized RX11, .code yX11_isThing cX11_isThing 3 (some .boolean), .methodLink RX11 411 yX11_isPicture, .static yX11_isPicture, .fieldLink RX11 41 "HeapWorks" "pictures" "[LHeapWorks$Picture;", .fieldLink RX11 356 "HeapWorks$Picture" "things" "I", .code yX11_isPicture cX11_isPicture 1 (some .boolean)]
def w_x_choose : List Cond := .code yX11_choose cX11_choose 4 (some .boolean) :: (l_x_choose ++ ((wsX110 ++ wsX50)))
theorem in_x_choose_X11 : ∀ w ∈ wsX110, w ∈ w_x_choose := fun w h => List.mem_cons_of_mem _ (List.mem_append_right _ (List.mem_append_left _ h))
theorem in_x_choose_X5 : ∀ w ∈ wsX50, w ∈ w_x_choose := fun w h => List.mem_cons_of_mem _ (List.mem_append_right _ (List.mem_append_right _ (h)))
theorem g_x_choose_z_X11_isThing_359 : GoodIn w_x_choose (wsV RX11 359 RX11 yX11_isThing w_z_X11_isThing) := goodIn_app (goodIn_sub (by decide +kernel) (by decide +kernel)) (goodIn_ca (goodIn_sub (by decide +kernel) (by decide +kernel)) (goodIn_app (goodIn_in in_x_choose_X11 gd_X11) (goodIn_in in_x_choose_X5 gd_X5)))
set_option maxHeartbeats 4000000 in
set_option maxRecDepth 100000 in
theorem x_choose (l : Launch) (dC : Nat → ClassId) (dI : Nat → Nat → Nat) (sz : Nat) (aX : Nat) (fsX : List Value) (qP : Nat) (gP : Nat → Option Nat) (kP : ClassId) (ap : Nat) (fsp : List Value) (p0 : Int32) (p1 : Int32) (p2 : Int32) (k_fsX : fh fsX 18 [(4, .ref qP)]) (k_fsp : fh fsp 21 [(0, .int 0)]) (hg : gP p0.toNatClampNeg = some ap) : Met l yX11_choose w_x_choose ({ frames := 2, cells := 0, slots := 0, locals := 42 }) (va_Pc [.ref aX, .int p0, .int p1, .int p2] (fun U => U.heap.size = sz ∧ Wd dC dI [(kP, .object "HeapWorks$Picture")] (fun _ => True) [(aX, .inr (14, fsX)), (qP, .inl (kP, 4, .inr (.inr (.inr (.inr gP))))), (ap, .inr (8, fsp))] U)) (va_Qi (fun (r : Int32) (u : Unit) => (p0 < 0 ∧ r = 0) ∨ (¬ p0 < 0 ∧ 4 ≤ p0 ∧ r = 0) ∨ (¬ p0 < 0 ∧ ¬ 4 ≤ p0 ∧ p1 < 0 ∧ r = 0) ∨ (¬ p0 < 0 ∧ ¬ 4 ≤ p0 ∧ ¬ p1 < 0 ∧ 0 ≤ p1 ∧ r = 0)) (fun (u : Unit) t => Wd dC dI [(kP, .object "HeapWorks$Picture")] (va_A [(aX, .inr (14, fsX)), (qP, .inl (kP, 4, .inr (.inr (.inr (.inr gP))))), (ap, .inr (8, fsp))] sz) [(aX, .inr (14, fsX)), (qP, .inl (kP, 4, .inr (.inr (.inr (.inr gP))))), (ap, .inr (8, fsp))] t) (va_A [(aX, .inr (14, fsX)), (qP, .inl (kP, 4, .inr (.inr (.inr (.inr gP))))), (ap, .inr (8, fsp))] sz))  0 0 (va_A [(aX, .inr (14, fsX)), (qP, .inl (kP, 4, .inr (.inr (.inr (.inr gP))))), (ap, .inr (8, fsp))] sz) := by
  refine Met.ofW (cc := cX11_choose) (maxL := 4) (ret := (some .boolean)) (by decide) rfl ?_
  intro p e s m args below meth c s₁ B hml hv
  obtain ⟨rfl, hsz, hP, hK, hD0⟩ := hv
  have hx := B.exec
  have hb := B.bytes
  have hr := B.returns
  have hts := atoms_spec (ws := w_x_choose) B.pre
  have hown : s.vm.findClass RX11 = some m.cls := findClass_of_methodNamed B.named
  have hlocks := B.notSynchronized
  subst hsz
  have hD := hD0.self (sz := s.heap.size)
  generalize hAe : va_A [(aX, .inr (14, fsX)), (qP, .inl (kP, 4, .inr (.inr (.inr (.inr gP))))), (ap, .inr (8, fsp))] s.heap.size = A at hD ⊢
  have hA : ∀ q : Nat, s.heap.size ≤ q → A q := fun q h => by rw [← hAe]; exact Or.inr h
  have hS : va_S A s.heap s.heap [] := va_S.rf
  have hl := lv_entry ([.ref aX, .int p0, .int p1, .int p2]) (n := 4) (Nat.le_of_ble_eq_true rfl)
  rw [lg_entry_eq]
  generalize (lg_sl ([.ref aX, .int p0, .int p1, .int p2]) ++ List.replicate (4 - (lg_sl ([.ref aX, .int p0, .int p1, .int p2])).length) Slot.unset).toArray = ls at hl ⊢
  have hl : lv_has ls 4 [(0, .ref aX), (1, .int p0), (2, .int p1), (3, .int p2)] := hl
  have o_fsX := ow_0 k_fsX
  have o_fsp := ow_0 k_fsp
  refine lv_aload_n hx hb dX11_choose_0 rfl (lv_at hl 0 rfl) ?_
  refine lv_iload_n hx hb dX11_choose_1 rfl (lv_at hl 1 rfl) ?_
  refine lv_iload_n hx hb dX11_choose_2 rfl (lv_at hl 2 rfl) ?_
  have hPc := hP.sub (ws' := [(aX, .inr (14, fsX)), (qP, .inl (kP, 4, .inr (.inr (.inr (.inr gP))))), (ap, .inr (8, fsp))]) [0, 1, 2] rfl
  have hDc := hD.sub (ws' := [(aX, .inr (14, fsX)), (qP, .inl (kP, 4, .inr (.inr (.inr (.inr gP))))), (ap, .inr (8, fsp))]) [0, 1, 2] (by decide) rfl
  have hKc := hK.sub (tys' := [(kP, .object "HeapWorks$Picture")]) [0] rfl
  have hFc := va_free (wc := [(aX, .inr (14, fsX)), (qP, .inl (kP, 4, .inr (.inr (.inr (.inr gP))))), (ap, .inr (8, fsp))]) hD hS hA [0, 1, 2] rfl
  refine va_calli (va_runV (As := [.int p0, .int p1]) (rest := []) ⟨hx, hb, hml, hown, hts⟩ (z_X11_isThing l dC dI s.heap.size aX fsX qP gP kP ap fsp p0 p1 (fh_sub o_fsX.2 [0] rfl) (fh_sub o_fsp.2 [0] rfl) hg) (cwV 2 hts g_x_choose_z_X11_isThing_359 rfl rfl rfl (by decide +kernel) ⟨Nat.le_of_ble_eq_true rfl, Nat.le_of_ble_eq_true rfl⟩) ⟨fun a U g mk q => by obtain ⟨q0, q1, qP, qK, qD⟩ := q; exact ⟨q0, q1, qP, va_K.moved (u := U) (U := U.calling g mk a) (Vm.Alike.refl U.vm) qK, qD⟩, va_recv hK hP (ci := 14) (q0 := 0) rfl rfl, fun U hU hW => ⟨rfl, by rw [hU], by rw [hU]; exact hPc, va_K.moved hW.alike hKc, hDc.weaken (fun _ _ _ _ => trivial)⟩⟩ rfl rfl hl.1 rfl (lv_room (Nat.le_of_ble_eq_true rfl)) dX11_choose_3 ⟨Nat.le_of_ble_eq_true rfl, Nat.le_of_ble_eq_true rfl⟩) hS (fun q _ h => hFc q h) hFc (fun r5648 u t H1 locs ht hvm hw hB hz1 hk1 hS => ?_)
  obtain ⟨hP1, hK1, hD1⟩ := hB
  rw [ht] at hP1
  try dsimp only at hw
  obtain ⟨hP, hD⟩ := va_join (wr := []) (w1 := [(aX, .inr (14, fsX)), (qP, .inl (kP, 4, .inr (.inr (.inr (.inr gP))))), (ap, .inr (8, fsp))]) hP hD [0, 1, 2] [] rfl rfl (by decide) (by decide) hk1 hFc hP1 hD1
  have hK := hK.sub (tys' := [(kP, .object "HeapWorks$Picture")]) [0] rfl
  generalize H1 = H at hP hS ⊢
  have hP : va_P (dC, dI) vwCl [(aX, .inr (14, fsX)), (qP, .inl (kP, 4, .inr (.inr (.inr (.inr gP))))), (ap, .inr (8, fsp))] H := hP
  have hD : va_D A [(aX, .inr (14, fsX)), (qP, .inl (kP, 4, .inr (.inr (.inr (.inr gP))))), (ap, .inr (8, fsp))] := hD
  rcases hw with ⟨c5649, er5650⟩ | ⟨c5651, c5652, er5653⟩ | ⟨c5654, c5655, c5656, er5657⟩ | ⟨c5658, c5659, c5660, c5661, er5662⟩
  · skip
    subst er5650
    refine lv_if_ne (tgt := 11) hx hb dX11_choose_6 (by decide) (fun c5663 => absurd c5663 (by decide)) (fun c5663 => ?_)
    refine lv_iconst (v := 0) hx hb dX11_choose_9 (by decide) ?_
    have hP9 := hP.sub (ws' := [(aX, .inr (14, fsX)), (qP, .inl (kP, 4, .inr (.inr (.inr (.inr gP))))), (ap, .inr (8, fsp))]) [0, 1, 2] rfl
    have hD9 := hD.sub (ws' := [(aX, .inr (14, fsX)), (qP, .inl (kP, 4, .inr (.inr (.inr (.inr gP))))), (ap, .inr (8, fsp))]) [0, 1, 2] (by decide) rfl
    have hK9 := hK.sub (tys' := [(kP, .object "HeapWorks$Picture")]) [0] rfl
    exact W.zret (v := 0) hx hb hr rfl (fun t ht hW => ⟨⟨0, (), rfl, (Or.inl ⟨c5649, rfl⟩), by rw [ht]; exact hP9, va_K.moved hW.alike hK9, hD9⟩, hS.F ht⟩) hS.2.2 dX11_choose_10
  · skip
    subst er5653
    refine lv_if_ne (tgt := 11) hx hb dX11_choose_6 (by decide) (fun c5664 => absurd c5664 (by decide)) (fun c5664 => ?_)
    refine lv_iconst (v := 0) hx hb dX11_choose_9 (by decide) ?_
    have hP9 := hP.sub (ws' := [(aX, .inr (14, fsX)), (qP, .inl (kP, 4, .inr (.inr (.inr (.inr gP))))), (ap, .inr (8, fsp))]) [0, 1, 2] rfl
    have hD9 := hD.sub (ws' := [(aX, .inr (14, fsX)), (qP, .inl (kP, 4, .inr (.inr (.inr (.inr gP))))), (ap, .inr (8, fsp))]) [0, 1, 2] (by decide) rfl
    have hK9 := hK.sub (tys' := [(kP, .object "HeapWorks$Picture")]) [0] rfl
    exact W.zret (v := 0) hx hb hr rfl (fun t ht hW => ⟨⟨0, (), rfl, (Or.inr (Or.inl ⟨c5651, c5652, rfl⟩)), by rw [ht]; exact hP9, va_K.moved hW.alike hK9, hD9⟩, hS.F ht⟩) hS.2.2 dX11_choose_10
  · skip
    subst er5657
    refine lv_if_ne (tgt := 11) hx hb dX11_choose_6 (by decide) (fun c5665 => absurd c5665 (by decide)) (fun c5665 => ?_)
    refine lv_iconst (v := 0) hx hb dX11_choose_9 (by decide) ?_
    have hP9 := hP.sub (ws' := [(aX, .inr (14, fsX)), (qP, .inl (kP, 4, .inr (.inr (.inr (.inr gP))))), (ap, .inr (8, fsp))]) [0, 1, 2] rfl
    have hD9 := hD.sub (ws' := [(aX, .inr (14, fsX)), (qP, .inl (kP, 4, .inr (.inr (.inr (.inr gP))))), (ap, .inr (8, fsp))]) [0, 1, 2] (by decide) rfl
    have hK9 := hK.sub (tys' := [(kP, .object "HeapWorks$Picture")]) [0] rfl
    exact W.zret (v := 0) hx hb hr rfl (fun t ht hW => ⟨⟨0, (), rfl, (Or.inr (Or.inr (Or.inl ⟨c5654, c5655, c5656, rfl⟩))), by rw [ht]; exact hP9, va_K.moved hW.alike hK9, hD9⟩, hS.F ht⟩) hS.2.2 dX11_choose_10
  · skip
    subst er5662
    refine lv_if_ne (tgt := 11) hx hb dX11_choose_6 (by decide) (fun c5666 => absurd c5666 (by decide)) (fun c5666 => ?_)
    refine lv_iconst (v := 0) hx hb dX11_choose_9 (by decide) ?_
    have hP9 := hP.sub (ws' := [(aX, .inr (14, fsX)), (qP, .inl (kP, 4, .inr (.inr (.inr (.inr gP))))), (ap, .inr (8, fsp))]) [0, 1, 2] rfl
    have hD9 := hD.sub (ws' := [(aX, .inr (14, fsX)), (qP, .inl (kP, 4, .inr (.inr (.inr (.inr gP))))), (ap, .inr (8, fsp))]) [0, 1, 2] (by decide) rfl
    have hK9 := hK.sub (tys' := [(kP, .object "HeapWorks$Picture")]) [0] rfl
    exact W.zret (v := 0) hx hb hr rfl (fun t ht hW => ⟨⟨0, (), rfl, (Or.inr (Or.inr (Or.inr (⟨c5658, c5659, c5660, c5661, rfl⟩)))), by rw [ht]; exact hP9, va_K.moved hW.alike hK9, hD9⟩, hS.F ht⟩) hS.2.2 dX11_choose_10

def l_z_X5_findLost : List Cond := [.fieldLink RX5 64 "HeapWorks$Picture" "mark" "[I", .fieldLink RX5 82 "HeapWorks$Picture" "things" "I", .methodLink RX5 209 yJ7_fill_fda19, .static yJ7_fill_fda19, .initialized RJ7, .fieldLink RX5 86 "HeapWorks$Picture" "roots" "I", .fieldLink RX5 89 "HeapWorks$Picture" "lostCount" "I", .code yJ7_fill_fda19 cJ7_fill_fda19 5 none, .methodLink RJ7 13 yJ7_rangeCheck_23922, .static yJ7_rangeCheck_23922, .code yJ7_rangeCheck_23922 cJ7_rangeCheck_23922 3 none]
def w_z_X5_findLost : List Cond := .code yX5_findLost cX5_findLost 4 (some .int) :: (l_z_X5_findLost ++ (wsX50))
theorem in_z_X5_findLost_X5 : ∀ w ∈ wsX50, w ∈ w_z_X5_findLost := fun w h => List.mem_cons_of_mem _ (List.mem_append_right _ (h))
theorem g_z_X5_findLost_z_J7_fill_fda19_1_209 : GoodIn w_z_X5_findLost (va_wsS RX5 209 yJ7_fill_fda19 w_z_J7_fill_fda19_1) := goodIn_app (goodIn_sub (by decide +kernel) (by decide +kernel)) (goodIn_sub (by decide +kernel) (by decide +kernel))
set_option maxHeartbeats 4000000 in
set_option maxRecDepth 100000 in
theorem z_X5_findLost (l : Launch) (dC : Nat → ClassId) (dI : Nat → Nat → Nat) (sz : Nat) (Ad0 : Nat) (Fs0 : List Value) (Ad1 : Nat) (Fa0 : Nat → Int32) (Ka0 : ClassId) (k_Fs0 : fh Fs0 21 [(0, .int 0), (11, .int 0), (16, .int 0), (17, .ref Ad1)])  : Met l yX5_findLost w_z_X5_findLost ({ frames := 2, cells := 0, slots := 0, locals := 46 }) (va_Pc [.ref Ad0] (fun U => U.heap.size = sz ∧ Wd dC dI [(Ka0, .int)] (fun _ => True) [(Ad0, .inr (8, Fs0)), (Ad1, .inl (Ka0, 400, .inl Fa0))] U)) (va_Qi (fun (r : Int32) (u : List Value) => (r = 0 ∧ ow Fs0 (u) 21 [16] [(16, .int 0), (0, .int 0), (11, .int 0), (17, .ref Ad1)])) (fun (u : List Value) t => Wd dC dI [(Ka0, .int)] (va_A [(Ad0, .inr (8, Fs0)), (Ad1, .inl (Ka0, 400, .inl Fa0))] sz) [(Ad0, .inr (8, (u))), (Ad1, .inl (Ka0, 400, .inl Fa0))] t) (va_A [(Ad0, .inr (8, Fs0)), (Ad1, .inl (Ka0, 400, .inl Fa0))] sz))  0 0 (va_A [(Ad0, .inr (8, Fs0)), (Ad1, .inl (Ka0, 400, .inl Fa0))] sz) := by
  refine Met.ofW (cc := cX5_findLost) (maxL := 4) (ret := (some .int)) (by decide) rfl ?_
  intro p e s m args below meth c s₁ B hml hv
  obtain ⟨rfl, hsz, hP, hK, hD0⟩ := hv
  have hx := B.exec
  have hb := B.bytes
  have hr := B.returns
  have hts := atoms_spec (ws := w_z_X5_findLost) B.pre
  have hown : s.vm.findClass RX5 = some m.cls := findClass_of_methodNamed B.named
  have hlocks := B.notSynchronized
  subst hsz
  have hD := hD0.self (sz := s.heap.size)
  generalize hAe : va_A [(Ad0, .inr (8, Fs0)), (Ad1, .inl (Ka0, 400, .inl Fa0))] s.heap.size = A at hD ⊢
  have hA : ∀ q : Nat, s.heap.size ≤ q → A q := fun q h => by rw [← hAe]; exact Or.inr h
  have hS : va_S A s.heap s.heap [] := va_S.rf
  have hl := lv_entry ([.ref Ad0]) (n := 4) (Nat.le_of_ble_eq_true rfl)
  rw [lg_entry_eq]
  generalize (lg_sl ([.ref Ad0]) ++ List.replicate (4 - (lg_sl ([.ref Ad0])).length) Slot.unset).toArray = ls at hl ⊢
  have hl : lv_has ls 4 [(0, .ref Ad0)] := hl
  have o_Fs0 := ow_0 k_Fs0
  refine lv_aload_n hx hb dX5_findLost_0 rfl (lv_at hl 0 rfl) ?_
  refine va_get (D := (dC, dI)) (ci := 8) (v := .ref Ad1) (C := RX5) (T := TX5) (N := 21) hx hb hts (in_z_X5_findLost_X5) hown hK hP 0 rfl rfl 17 (by decide) (hts (.fieldLink RX5 64 "HeapWorks$Picture" "mark" "[I") (by decide +kernel)) (fun _ h9 => h9) (ow_at o_Fs0 3 rfl) dX5_findLost_1 ?_
  refine lv_iconst (v := 0) hx hb dX5_findLost_4 (by decide) ?_
  refine lv_aload_n hx hb dX5_findLost_5 rfl (lv_at hl 0 rfl) ?_
  refine va_get (D := (dC, dI)) (ci := 8) (v := .int 0) (C := RX5) (T := TX5) (N := 21) hx hb hts (in_z_X5_findLost_X5) hown hK hP 0 rfl rfl 0 (by decide) (hts (.fieldLink RX5 82 "HeapWorks$Picture" "things" "I") (by decide +kernel)) (fun _ h9 => h9) (ow_at o_Fs0 0 rfl) dX5_findLost_6 ?_
  refine lv_iconst (v := 0) hx hb dX5_findLost_9 (by decide) ?_
  have hPc := hP.sub (ws' := [(Ad1, .inl (Ka0, 400, .inl Fa0))]) [1] rfl
  have hDc := hD.sub (ws' := [(Ad1, .inl (Ka0, 400, .inl Fa0))]) [1] (by decide) rfl
  have hKc := hK.sub (tys' := [(Ka0, .int)]) [0] rfl
  have hFc := va_free (wc := [(Ad1, .inl (Ka0, 400, .inl Fa0))]) hD hS hA [1] rfl
  refine va_callv (va_runS (As := [.ref Ad1, .int 0, .int 0, .int 0]) (rest := []) ⟨hx, hb, hml, hown, hts⟩ (z_J7_fill_fda19_1 l dC dI s.heap.size Ad1 Fa0 Ka0  ) (va_cwS 4 hts g_z_X5_findLost_z_J7_fill_fda19_1_209 rfl rfl rfl (by decide +kernel) ⟨Nat.le_of_ble_eq_true rfl, Nat.le_of_ble_eq_true rfl⟩) ⟨fun a U g mk q => by obtain ⟨q0, q1, qP, qK, qD⟩ := q; exact ⟨q0, q1, qP, va_K.moved (u := U) (U := U.calling g mk a) (Vm.Alike.refl U.vm) qK, qD⟩, fun U hU hW => ⟨rfl, by rw [hU], by rw [hU]; exact hPc, va_K.moved hW.alike hKc, hDc.weaken (fun _ _ _ _ => trivial)⟩⟩ rfl rfl hl.1 rfl (lv_room (Nat.le_of_ble_eq_true rfl)) dX5_findLost_10 ⟨Nat.le_of_ble_eq_true rfl, Nat.le_of_ble_eq_true rfl⟩) hS (fun q _ h => hFc q h) hFc (fun u t H1 locs ht hvm hw hB hz1 hk1 hS => ?_)
  obtain ⟨hP1, hK1, hD1⟩ := hB
  rw [ht] at hP1
  try dsimp only at hw
  obtain ⟨hP, hD⟩ := va_join (wr := [(Ad0, .inr (8, Fs0))]) (w1 := [(Ad1, .inl (Ka0, 400, .inl Fa0))]) hP hD [1] [0] rfl rfl (by decide) (by decide) hk1 hFc hP1 hD1
  have hK := hK.sub (tys' := [(Ka0, .int)]) [0] rfl
  generalize H1 = H at hP hS ⊢
  have hP : va_P (dC, dI) vwCl [(Ad0, .inr (8, Fs0)), (Ad1, .inl (Ka0, 400, .inl Fa0))] H := hP
  have hD : va_D A [(Ad0, .inr (8, Fs0)), (Ad1, .inl (Ka0, 400, .inl Fa0))] := hD
  refine lv_iconst (v := 0) hx hb dX5_findLost_13 (by decide) ?_
  refine lv_istore_n (lv' := [(1, .int 0), (0, .ref Ad0)]) hx hb dX5_findLost_14 rfl hl (by decide) rfl (fun ls hl => ?_)
  refine lv_iconst (v := 0) hx hb dX5_findLost_15 (by decide) ?_
  refine lv_istore_n (lv' := [(2, .int 0), (1, .int 0), (0, .ref Ad0)]) hx hb dX5_findLost_16 rfl hl (by decide) rfl (fun ls hl => ?_)
  refine lv_iload_n hx hb dX5_findLost_17 rfl (lv_at hl 0 rfl) ?_
  refine lv_aload_n hx hb dX5_findLost_18 rfl (lv_at hl 2 rfl) ?_
  refine va_get (D := (dC, dI)) (ci := 8) (v := .int 0) (C := RX5) (T := TX5) (N := 21) hx hb hts (in_z_X5_findLost_X5) hown hK hP 0 rfl rfl 11 (by decide) (hts (.fieldLink RX5 86 "HeapWorks$Picture" "roots" "I") (by decide +kernel)) (fun _ h9 => h9) (ow_at o_Fs0 1 rfl) dX5_findLost_19 ?_
  refine lv_icmp_ge (tgt := 43) hx hb dX5_findLost_22 (by decide) (fun c5698 => ?_) (fun c5698 => absurd c5698 (by decide))
  refine lv_iconst (v := 0) hx hb dX5_findLost_43 (by decide) ?_
  refine lv_istore_n (lv' := [(2, .int 0), (1, .int 0), (0, .ref Ad0)]) hx hb dX5_findLost_44 rfl hl (by decide) rfl (fun ls hl => ?_)
  refine lv_iload_n hx hb dX5_findLost_45 rfl (lv_at hl 0 rfl) ?_
  refine lv_iload_n hx hb dX5_findLost_46 rfl (lv_at hl 1 rfl) ?_
  refine lv_icmp_ge (tgt := 126) hx hb dX5_findLost_47 (by decide) (fun c5699 => ?_) (fun c5699 => absurd c5699 (by decide))
  refine lv_aload_n hx hb dX5_findLost_126 rfl (lv_at hl 2 rfl) ?_
  refine lv_iconst (v := 0) hx hb dX5_findLost_127 (by decide) ?_
  refine va_put (D := (dC, dI)) (ci := 8) (v := .int 0) (ty := .int) (C := RX5) (T := TX5) (N := 21) hx hb hts (in_z_X5_findLost_X5) tyX5 tyX5_ok nmX5 hown hK hP hD hS 0 rfl rfl 16 (by decide) (hts (.fieldLink RX5 89 "HeapWorks$Picture" "lostCount" "I") (by decide +kernel)) (fun _ h9 => h9) rfl (by decide +kernel) rfl rfl (by rw [o_Fs0.2.1]; decide) dX5_findLost_128 (fun H locs hP hD hS => ?_)
  have hP : va_P (dC, dI) vwCl [(Ad0, .inr (8, (Fs0.set 16 (.int 0)))), (Ad1, .inl (Ka0, 400, .inl Fa0))] H := hP
  have hD : va_D A [(Ad0, .inr (8, (Fs0.set 16 (.int 0)))), (Ad1, .inl (Ka0, 400, .inl Fa0))] := hD
  have o_s5700 := ow_set o_Fs0 16 (.int 0) (by decide) (l' := [(16, .int 0), (0, .int 0), (11, .int 0), (17, .ref Ad1)]) (w' := [16]) rfl rfl
  generalize (Fs0.set 16 (.int 0)) = s5700 at hP hD o_s5700
  refine lv_iconst (v := 0) hx hb dX5_findLost_131 (by decide) ?_
  refine lv_istore_n (lv' := [(2, .int 0), (1, .int 0), (0, .ref Ad0)]) hx hb dX5_findLost_132 rfl hl (by decide) rfl (fun ls hl => ?_)
  refine lv_iload_n hx hb dX5_findLost_133 rfl (lv_at hl 0 rfl) ?_
  refine lv_aload_n hx hb dX5_findLost_134 rfl (lv_at hl 2 rfl) ?_
  refine va_get (D := (dC, dI)) (ci := 8) (v := .int 0) (C := RX5) (T := TX5) (N := 21) hx hb hts (in_z_X5_findLost_X5) hown hK hP 0 rfl rfl 0 (by decide) (hts (.fieldLink RX5 82 "HeapWorks$Picture" "things" "I") (by decide +kernel)) (fun _ h9 => h9) (ow_at o_s5700 1 rfl) dX5_findLost_135 ?_
  refine lv_icmp_ge (tgt := 176) hx hb dX5_findLost_138 (by decide) (fun c5701 => ?_) (fun c5701 => absurd c5701 (by decide))
  refine lv_aload_n hx hb dX5_findLost_176 rfl (lv_at hl 2 rfl) ?_
  refine va_get (D := (dC, dI)) (ci := 8) (v := .int 0) (C := RX5) (T := TX5) (N := 21) hx hb hts (in_z_X5_findLost_X5) hown hK hP 0 rfl rfl 16 (by decide) (hts (.fieldLink RX5 89 "HeapWorks$Picture" "lostCount" "I") (by decide +kernel)) (fun _ h9 => h9) (ow_at o_s5700 0 rfl) dX5_findLost_177 ?_
  have hP9 := hP.sub (ws' := [(Ad0, .inr (8, s5700)), (Ad1, .inl (Ka0, 400, .inl Fa0))]) [0, 1] rfl
  have hD9 := hD.sub (ws' := [(Ad0, .inr (8, s5700)), (Ad1, .inl (Ka0, 400, .inl Fa0))]) [0, 1] (by decide) rfl
  have hK9 := hK.sub (tys' := [(Ka0, .int)]) [0] rfl
  exact W.iret (v := 0) hx hb hr (fun t ht hW => ⟨⟨0, s5700, rfl, ⟨rfl, o_s5700⟩, by rw [ht]; exact hP9, va_K.moved hW.alike hK9, hD9⟩, hS.F ht⟩) hS.2.2 dX5_findLost_180

def l_x_lost : List Cond := [.methodLink RX11 353 yX11_needPicture, .static yX11_needPicture, .initialized RX11, .fieldLink RX11 41 "HeapWorks" "pictures" "[LHeapWorks$Picture;", .methodLink RX11 441 yX5_findLost, .instanceMethod yX5_findLost, .selects RX5 yX5_findLost yX5_findLost, .initialized RX5, .code yX11_needPicture cX11_needPicture 1 none, .methodLink RX11 411 yX11_isPicture, .static yX11_isPicture, .classLink RX11 120 "java/lang/IndexOutOfBoundsException", .initialized "java/lang/IndexOutOfBoundsException", .code yX11_isPicture cX11_isPicture 1 (some .boolean), .code yX5_findLost cX5_findLost 4 (some .int), .fieldLink RX5 64 "HeapWorks$Picture" "mark" "[I", .fieldLink RX5 82 "HeapWorks$Picture" "things" "I", .methodLink RX5 209 yJ7_fill_fda19, .static yJ7_fill_fda19, .initialized RJ7, .fieldLink RX5 86 "HeapWorks$Picture" "roots" "I", .fieldLink RX5 89 "HeapWorks$Picture" "lostCount" "I", .code yJ7_fill_fda19 cJ7_fill_fda19 5 none, .methodLink RJ7 13 yJ7_rangeCheck_23922, .static yJ7_rangeCheck_23922, .code yJ7_rangeCheck_23922 cJ7_rangeCheck_23922 3 none]
def w_x_lost : List Cond := .code yX11_lost cX11_lost 2 (some .int) :: (l_x_lost ++ ((wsX110 ++ (((vx_at0 RX11 122 "java/lang/IndexOutOfBoundsException" ["java/lang/RuntimeException", "java/lang/Exception"]).filter goodWord) ++ wsX50))))
theorem in_x_lost_X11 : ∀ w ∈ wsX110, w ∈ w_x_lost := fun w h => List.mem_cons_of_mem _ (List.mem_append_right _ (List.mem_append_left _ h))
theorem in_x_lost_at0_X11_122 : ∀ w ∈ ((vx_at0 RX11 122 "java/lang/IndexOutOfBoundsException" ["java/lang/RuntimeException", "java/lang/Exception"]).filter goodWord), w ∈ w_x_lost := fun w h => List.mem_cons_of_mem _ (List.mem_append_right _ (List.mem_append_right _ (List.mem_append_left _ h)))
theorem in_x_lost_X5 : ∀ w ∈ wsX50, w ∈ w_x_lost := fun w h => List.mem_cons_of_mem _ (List.mem_append_right _ (List.mem_append_right _ (List.mem_append_right _ (h))))
theorem g_x_lost_z_X11_needPicture_353 : GoodIn w_x_lost (wsS RX11 353 yX11_needPicture w_z_X11_needPicture) := goodIn_app (goodIn_sub (by decide +kernel) (by decide +kernel)) (goodIn_ca (goodIn_sub (by decide +kernel) (by decide +kernel)) (goodIn_in in_x_lost_at0_X11_122 gd_at0_X11_122))
theorem g_x_lost_z_X5_findLost_441 : GoodIn w_x_lost (wsV RX11 441 RX5 yX5_findLost w_z_X5_findLost) := goodIn_app (goodIn_sub (by decide +kernel) (by decide +kernel)) (goodIn_ca (goodIn_sub (by decide +kernel) (by decide +kernel)) (goodIn_in in_x_lost_X5 gd_X5))
set_option maxHeartbeats 4000000 in
set_option maxRecDepth 100000 in
theorem x_lost (l : Launch) (dC : Nat → ClassId) (dI : Nat → Nat → Nat) (sz : Nat) (aX : Nat) (fsX : List Value) (qP : Nat) (gP : Nat → Option Nat) (kP : ClassId) (ap : Nat) (fsp : List Value) (qm : Nat) (fm : Nat → Int32) (km : ClassId) (p0 : Int32) (k_fsX : fh fsX 18 [(4, .ref qP)]) (k_fsp : fh fsp 21 [(0, .int 0), (11, .int 0), (16, .int 0), (17, .ref qm)]) (hst : l.stackTraces = false) (hg : gP p0.toNatClampNeg = some ap) : vx_Met l yX11_lost w_x_lost ({ frames := 8, cells := 1, slots := 6, locals := 160 }) (va_Pc [.ref aX, .int p0] (fun U => U.heap.size = sz ∧ Zz (va_A [(aX, .inr (14, fsX)), (qP, .inl (kP, 4, .inr (.inr (.inr (.inr gP))))), (ap, .inr (8, fsp)), (qm, .inl (km, 400, .inl fm))] sz) U ∧ Wd dC dI [(kP, .object "HeapWorks$Picture"), (km, .int)] (fun _ => True) [(aX, .inr (14, fsX)), (qP, .inl (kP, 4, .inr (.inr (.inr (.inr gP))))), (ap, .inr (8, fsp)), (qm, .inl (km, 400, .inl fm))] U)) (va_Qi (fun (r : Int32) (u : List Value) => (¬ p0 < 0 ∧ ¬ 4 ≤ p0 ∧ r = 0 ∧ ow fsp (u) 21 [16] [(16, .int 0), (0, .int 0), (11, .int 0), (17, .ref qm), (0, .int 0), (11, .int 0), (17, .ref qm)])) (fun (u : List Value) t => Wd dC dI [(kP, .object "HeapWorks$Picture"), (km, .int)] (va_A [(aX, .inr (14, fsX)), (qP, .inl (kP, 4, .inr (.inr (.inr (.inr gP))))), (ap, .inr (8, fsp)), (qm, .inl (km, 400, .inl fm))] sz) [(aX, .inr (14, fsX)), (qP, .inl (kP, 4, .inr (.inr (.inr (.inr gP))))), (ap, .inr (8, (u))), (qm, .inl (km, 400, .inl fm))] t) (va_A [(aX, .inr (14, fsX)), (qP, .inl (kP, 4, .inr (.inr (.inr (.inr gP))))), (ap, .inr (8, fsp)), (qm, .inl (km, 400, .inl fm))] sz)) (vx_X (fun _ : Unit => True) (fun E _ _ => (E = "java/lang/IndexOutOfBoundsException" ∧ p0 < 0) ∨ (E = "java/lang/IndexOutOfBoundsException" ∧ ¬ p0 < 0 ∧ 4 ≤ p0)) (va_A [(aX, .inr (14, fsX)), (qP, .inl (kP, 4, .inr (.inr (.inr (.inr gP))))), (ap, .inr (8, fsp)), (qm, .inl (km, 400, .inl fm))] sz)) 1 6 (va_A [(aX, .inr (14, fsX)), (qP, .inl (kP, 4, .inr (.inr (.inr (.inr gP))))), (ap, .inr (8, fsp)), (qm, .inl (km, 400, .inl fm))] sz) := by
  refine vx_ofW (cc := cX11_lost) (maxL := 2) (ret := (some .int)) (by decide) rfl ?_
  intro p e s m args below meth c s₁ B hml htab hv
  obtain ⟨rfl, hsz, hZ, hP, hK, hD0⟩ := hv
  have hx := B.exec
  have hb := B.bytes
  have hr := B.returns
  have hts := atoms_spec (ws := w_x_lost) B.pre
  have hown : s.vm.findClass RX11 = some m.cls := findClass_of_methodNamed B.named
  have hlocks := B.notSynchronized
  subst hsz
  have hD := hD0.self (sz := s.heap.size)
  generalize hAe : va_A [(aX, .inr (14, fsX)), (qP, .inl (kP, 4, .inr (.inr (.inr (.inr gP))))), (ap, .inr (8, fsp)), (qm, .inl (km, 400, .inl fm))] s.heap.size = A at hD hZ ⊢
  have hA : ∀ q : Nat, s.heap.size ≤ q → A q := fun q h => by rw [← hAe]; exact Or.inr h
  have hS : va_S A s.heap s.heap [] := va_S.rf
  have hl := lv_entry ([.ref aX, .int p0]) (n := 2) (Nat.le_of_ble_eq_true rfl)
  rw [lg_entry_eq]
  generalize (lg_sl ([.ref aX, .int p0]) ++ List.replicate (2 - (lg_sl ([.ref aX, .int p0])).length) Slot.unset).toArray = ls at hl ⊢
  have hl : lv_has ls 2 [(0, .ref aX), (1, .int p0)] := hl
  have o_fsX := ow_0 k_fsX
  have o_fsp := ow_0 k_fsp
  refine lv_iload_n hx hb dX11_lost_0 rfl (lv_at hl 1 rfl) ?_
  have hPc := hP.sub (ws' := []) [] rfl
  have hDc := hD.sub (ws' := []) [] (by decide) rfl
  have hKc := hK.sub (tys' := []) [] rfl
  have hFc := va_free (wc := []) hD hS hA [] rfl
  refine vx_callv (vx_runS (As := [.int p0]) (rest := []) ⟨hx, hb, hml, hown, hts⟩ (z_X11_needPicture l dC dI s.heap.size p0  hst ) (cwS 1 hts g_x_lost_z_X11_needPicture_353 rfl rfl rfl (by decide +kernel) ⟨Nat.le_of_ble_eq_true rfl, Nat.le_of_ble_eq_true rfl⟩) ⟨fun a U g mk q => by obtain ⟨q0, q1, qZ, qP, qK, qD⟩ := q; exact ⟨q0, q1, Zz_call qZ, qP, va_K.moved (u := U) (U := U.calling g mk a) (Vm.Alike.refl U.vm) qK, qD⟩, fun U hU hW => ⟨rfl, by rw [hU], Zz_go hZ hS hFc hU hW, by rw [hU]; exact hPc, va_K.moved hW.alike hKc, hDc.weaken (fun _ _ _ _ => trivial)⟩⟩ rfl rfl hl.1 rfl (lv_room (Nat.le_of_ble_eq_true rfl)) dX11_lost_1 ⟨Nat.le_of_ble_eq_true rfl, Nat.le_of_ble_eq_true rfl⟩) hS (fun q _ h => hFc q h) hFc (fun q _ h => hFc q h) (fun E ce q9 u t H1 locs ht hvm hpx hBX hz1 hk1 hS hce hcv hcl => ?_) (fun u t H1 locs ht hvm hw hB hz1 hk1 hS => ?_)
  · rcases hBX with ⟨rfl, c5719⟩ | ⟨rfl, c5720, c5721⟩
    · exact vx_out (fun x h => (htab x h).elim) hlocks hce hcv hcl (fun t9 ht9 _ => ⟨(), trivial, (Or.inl ⟨rfl, c5719⟩), hS.F ht9⟩) hS.2.2 (by decide) (by decide)
    · exact vx_out (fun x h => (htab x h).elim) hlocks hce hcv hcl (fun t9 ht9 _ => ⟨(), trivial, (Or.inr (⟨rfl, c5720, c5721⟩)), hS.F ht9⟩) hS.2.2 (by decide) (by decide)
  · skip
    obtain ⟨hP1, hK1, hD1⟩ := hB
    rw [ht] at hP1
    try dsimp only at hw
    obtain ⟨hP, hD⟩ := va_join (wr := [(aX, .inr (14, fsX)), (qP, .inl (kP, 4, .inr (.inr (.inr (.inr gP))))), (ap, .inr (8, fsp)), (qm, .inl (km, 400, .inl fm))]) (w1 := []) hP hD [] [0, 1, 2, 3] rfl rfl (by decide) (by decide) hk1 hFc hP1 hD1
    have hK := hK.sub (tys' := [(kP, .object "HeapWorks$Picture"), (km, .int)]) [0, 1] rfl
    generalize H1 = H at hP hS ⊢
    refine W.widen (k := 1) (n := 6) (by omega) (by omega) ?_
    have hP : va_P (dC, dI) vwCl [(aX, .inr (14, fsX)), (qP, .inl (kP, 4, .inr (.inr (.inr (.inr gP))))), (ap, .inr (8, fsp)), (qm, .inl (km, 400, .inl fm))] H := hP
    have hD : va_D A [(aX, .inr (14, fsX)), (qP, .inl (kP, 4, .inr (.inr (.inr (.inr gP))))), (ap, .inr (8, fsp)), (qm, .inl (km, 400, .inl fm))] := hD
    obtain ⟨c5722, c5723⟩ := hw
    refine lv_aload_n hx hb dX11_lost_4 rfl (lv_at hl 0 rfl) ?_
    refine va_get (D := (dC, dI)) (ci := 14) (v := .ref qP) (C := RX11) (T := TX11) (N := 18) hx hb hts (in_x_lost_X11) hown hK hP 0 rfl rfl 4 (by decide) (hts (.fieldLink RX11 41 "HeapWorks" "pictures" "[LHeapWorks$Picture;") (by decide +kernel)) (fun _ h9 => h9) (ow_at o_fsX 0 rfl) dX11_lost_5 ?_
    refine lv_iload_n hx hb dX11_lost_8 rfl (lv_at hl 1 rfl) ?_
    refine va_aldq hx hb hK hP 1 0 rfl rfl (by rw [vp_in_iff]; (try simp only [i_lt, i_le, i_eq, kc_0, kc_4] at c5722 c5723); omega) dX11_lost_9 ?_
    refine W.eq (g2 := F0 m 10 ls (.ref ap :: [])) (by rw [hg]; rfl) ?_
    have hPc := hP.sub (ws' := [(ap, .inr (8, fsp)), (qm, .inl (km, 400, .inl fm))]) [2, 3] rfl
    have hDc := hD.sub (ws' := [(ap, .inr (8, fsp)), (qm, .inl (km, 400, .inl fm))]) [2, 3] (by decide) rfl
    have hKc := hK.sub (tys' := [(km, .int)]) [1] rfl
    have hFc := va_free (wc := [(ap, .inr (8, fsp)), (qm, .inl (km, 400, .inl fm))]) hD hS hA [2, 3] rfl
    refine va_calli (va_runV (As := []) (rest := []) ⟨hx, hb, hml, hown, hts⟩ (z_X5_findLost l dC dI H.size ap fsp qm fm km (fh_sub o_fsp.2 [0, 1, 2, 3] rfl) ) (cwV 0 hts g_x_lost_z_X5_findLost_441 rfl rfl rfl (by decide +kernel) ⟨Nat.le_of_ble_eq_true rfl, Nat.le_of_ble_eq_true rfl⟩) ⟨fun a U g mk q => by obtain ⟨q0, q1, qP, qK, qD⟩ := q; exact ⟨q0, q1, qP, va_K.moved (u := U) (U := U.calling g mk a) (Vm.Alike.refl U.vm) qK, qD⟩, va_recv hK hP (ci := 8) (q0 := 2) rfl rfl, fun U hU hW => ⟨rfl, by rw [hU], by rw [hU]; exact hPc, va_K.moved hW.alike hKc, hDc.weaken (fun _ _ _ _ => trivial)⟩⟩ rfl rfl hl.1 rfl (lv_room (Nat.le_of_ble_eq_true rfl)) dX11_lost_10 ⟨Nat.le_of_ble_eq_true rfl, Nat.le_of_ble_eq_true rfl⟩) hS (fun q _ h => hFc q h) hFc (fun r5732 u t H1 locs ht hvm hw hB hz1 hk1 hS => ?_)
    obtain ⟨s5733, rfl⟩ : ∃ z, z = u := ⟨_, rfl⟩
    obtain ⟨hP1, hK1, hD1⟩ := hB
    rw [ht] at hP1
    try dsimp only at hw
    obtain ⟨hP, hD⟩ := va_join (wr := [(aX, .inr (14, fsX)), (qP, .inl (kP, 4, .inr (.inr (.inr (.inr gP)))))]) (w1 := [(ap, .inr (8, s5733)), (qm, .inl (km, 400, .inl fm))]) hP hD [2, 3] [0, 1] rfl rfl (by decide) (by decide) hk1 hFc hP1 hD1
    have hK := hK.sub (tys' := [(kP, .object "HeapWorks$Picture"), (km, .int)]) [0, 1] rfl
    generalize H1 = H at hP hS ⊢
    have hP : va_P (dC, dI) vwCl [(aX, .inr (14, fsX)), (qP, .inl (kP, 4, .inr (.inr (.inr (.inr gP))))), (ap, .inr (8, s5733)), (qm, .inl (km, 400, .inl fm))] H := hP
    have hD : va_D A [(aX, .inr (14, fsX)), (qP, .inl (kP, 4, .inr (.inr (.inr (.inr gP))))), (ap, .inr (8, s5733)), (qm, .inl (km, 400, .inl fm))] := hD
    obtain ⟨er5734, o_s5733⟩ := hw
    subst er5734
    have o_s5733 := ow_on o_fsp o_s5733 (l' := [(16, .int 0), (0, .int 0), (11, .int 0), (17, .ref qm), (0, .int 0), (11, .int 0), (17, .ref qm)]) (w' := [16]) rfl rfl
    have hP9 := hP.sub (ws' := [(aX, .inr (14, fsX)), (qP, .inl (kP, 4, .inr (.inr (.inr (.inr gP))))), (ap, .inr (8, s5733)), (qm, .inl (km, 400, .inl fm))]) [0, 1, 2, 3] rfl
    have hD9 := hD.sub (ws' := [(aX, .inr (14, fsX)), (qP, .inl (kP, 4, .inr (.inr (.inr (.inr gP))))), (ap, .inr (8, s5733)), (qm, .inl (km, 400, .inl fm))]) [0, 1, 2, 3] (by decide) rfl
    have hK9 := hK.sub (tys' := [(kP, .object "HeapWorks$Picture"), (km, .int)]) [0, 1] rfl
    refine vx_ret ?_
    refine W.widen (k := 1) (n := 6) (by decide) (by decide) ?_
    exact W.iret (v := 0) hx hb hr (fun t ht hW => ⟨⟨0, s5733, rfl, ⟨c5722, c5723, rfl, o_s5733⟩, by rw [ht]; exact hP9, va_K.moved hW.alike hK9, hD9⟩, hS.F ht⟩) hS.2.2 dX11_lost_13

def l_x_lostThing : List Cond := [.methodLink RX11 411 yX11_isPicture, .static yX11_isPicture, .initialized RX11, .fieldLink RX11 41 "HeapWorks" "pictures" "[LHeapWorks$Picture;", .fieldLink RX11 444 "HeapWorks$Picture" "lostCount" "I", .code yX11_isPicture cX11_isPicture 1 (some .boolean)]
def w_x_lostThing : List Cond := .code yX11_lostThing cX11_lostThing 3 (some .int) :: (l_x_lostThing ++ ((wsX110 ++ wsX50)))
theorem in_x_lostThing_X11 : ∀ w ∈ wsX110, w ∈ w_x_lostThing := fun w h => List.mem_cons_of_mem _ (List.mem_append_right _ (List.mem_append_left _ h))
theorem in_x_lostThing_X5 : ∀ w ∈ wsX50, w ∈ w_x_lostThing := fun w h => List.mem_cons_of_mem _ (List.mem_append_right _ (List.mem_append_right _ (h)))
theorem g_x_lostThing_z_X11_isPicture_411 : GoodIn w_x_lostThing (wsS RX11 411 yX11_isPicture w_z_X11_isPicture) := goodIn_app (goodIn_sub (by decide +kernel) (by decide +kernel)) (goodIn_sub (by decide +kernel) (by decide +kernel))
set_option maxHeartbeats 4000000 in
set_option maxRecDepth 100000 in
theorem x_lostThing (l : Launch) (dC : Nat → ClassId) (dI : Nat → Nat → Nat) (sz : Nat) (aX : Nat) (fsX : List Value) (qP : Nat) (gP : Nat → Option Nat) (kP : ClassId) (ap : Nat) (fsp : List Value) (p0 : Int32) (p1 : Int32) (k_fsX : fh fsX 18 [(4, .ref qP)]) (k_fsp : fh fsp 21 [(16, .int 0)]) (hg : gP p0.toNatClampNeg = some ap) : Met l yX11_lostThing w_x_lostThing ({ frames := 1, cells := 0, slots := 0, locals := 20 }) (va_Pc [.ref aX, .int p0, .int p1] (fun U => U.heap.size = sz ∧ Wd dC dI [(kP, .object "HeapWorks$Picture")] (fun _ => True) [(aX, .inr (14, fsX)), (qP, .inl (kP, 4, .inr (.inr (.inr (.inr gP))))), (ap, .inr (8, fsp))] U)) (va_Qi (fun (r : Int32) (u : Unit) => (p0 < 0 ∧ r = (-1)) ∨ (¬ p0 < 0 ∧ 4 ≤ p0 ∧ r = (-1)) ∨ (¬ p0 < 0 ∧ ¬ 4 ≤ p0 ∧ p1 < 0 ∧ r = (-1)) ∨ (¬ p0 < 0 ∧ ¬ 4 ≤ p0 ∧ ¬ p1 < 0 ∧ 0 ≤ p1 ∧ r = (-1))) (fun (u : Unit) t => Wd dC dI [(kP, .object "HeapWorks$Picture")] (va_A [(aX, .inr (14, fsX)), (qP, .inl (kP, 4, .inr (.inr (.inr (.inr gP))))), (ap, .inr (8, fsp))] sz) [(aX, .inr (14, fsX)), (qP, .inl (kP, 4, .inr (.inr (.inr (.inr gP))))), (ap, .inr (8, fsp))] t) (va_A [(aX, .inr (14, fsX)), (qP, .inl (kP, 4, .inr (.inr (.inr (.inr gP))))), (ap, .inr (8, fsp))] sz))  0 0 (va_A [(aX, .inr (14, fsX)), (qP, .inl (kP, 4, .inr (.inr (.inr (.inr gP))))), (ap, .inr (8, fsp))] sz) := by
  refine Met.ofW (cc := cX11_lostThing) (maxL := 3) (ret := (some .int)) (by decide) rfl ?_
  intro p e s m args below meth c s₁ B hml hv
  obtain ⟨rfl, hsz, hP, hK, hD0⟩ := hv
  have hx := B.exec
  have hb := B.bytes
  have hr := B.returns
  have hts := atoms_spec (ws := w_x_lostThing) B.pre
  have hown : s.vm.findClass RX11 = some m.cls := findClass_of_methodNamed B.named
  have hlocks := B.notSynchronized
  subst hsz
  have hD := hD0.self (sz := s.heap.size)
  generalize hAe : va_A [(aX, .inr (14, fsX)), (qP, .inl (kP, 4, .inr (.inr (.inr (.inr gP))))), (ap, .inr (8, fsp))] s.heap.size = A at hD ⊢
  have hA : ∀ q : Nat, s.heap.size ≤ q → A q := fun q h => by rw [← hAe]; exact Or.inr h
  have hS : va_S A s.heap s.heap [] := va_S.rf
  have hl := lv_entry ([.ref aX, .int p0, .int p1]) (n := 3) (Nat.le_of_ble_eq_true rfl)
  rw [lg_entry_eq]
  generalize (lg_sl ([.ref aX, .int p0, .int p1]) ++ List.replicate (3 - (lg_sl ([.ref aX, .int p0, .int p1])).length) Slot.unset).toArray = ls at hl ⊢
  have hl : lv_has ls 3 [(0, .ref aX), (1, .int p0), (2, .int p1)] := hl
  have o_fsX := ow_0 k_fsX
  have o_fsp := ow_0 k_fsp
  refine lv_iload_n hx hb dX11_lostThing_0 rfl (lv_at hl 1 rfl) ?_
  have hPc := hP.sub (ws' := []) [] rfl
  have hDc := hD.sub (ws' := []) [] (by decide) rfl
  have hKc := hK.sub (tys' := []) [] rfl
  have hFc := va_free (wc := []) hD hS hA [] rfl
  refine va_calli (va_runS (As := [.int p0]) (rest := []) ⟨hx, hb, hml, hown, hts⟩ (z_X11_isPicture l dC dI s.heap.size p0  ) (cwS 1 hts g_x_lostThing_z_X11_isPicture_411 rfl rfl rfl (by decide +kernel) ⟨Nat.le_of_ble_eq_true rfl, Nat.le_of_ble_eq_true rfl⟩) ⟨fun a U g mk q => by obtain ⟨q0, q1, qP, qK, qD⟩ := q; exact ⟨q0, q1, qP, va_K.moved (u := U) (U := U.calling g mk a) (Vm.Alike.refl U.vm) qK, qD⟩, fun U hU hW => ⟨rfl, by rw [hU], by rw [hU]; exact hPc, va_K.moved hW.alike hKc, hDc.weaken (fun _ _ _ _ => trivial)⟩⟩ rfl rfl hl.1 rfl (lv_room (Nat.le_of_ble_eq_true rfl)) dX11_lostThing_1 ⟨Nat.le_of_ble_eq_true rfl, Nat.le_of_ble_eq_true rfl⟩) hS (fun q _ h => hFc q h) hFc (fun r5753 u t H1 locs ht hvm hw hB hz1 hk1 hS => ?_)
  obtain ⟨hP1, hK1, hD1⟩ := hB
  rw [ht] at hP1
  try dsimp only at hw
  obtain ⟨hP, hD⟩ := va_join (wr := [(aX, .inr (14, fsX)), (qP, .inl (kP, 4, .inr (.inr (.inr (.inr gP))))), (ap, .inr (8, fsp))]) (w1 := []) hP hD [] [0, 1, 2] rfl rfl (by decide) (by decide) hk1 hFc hP1 hD1
  have hK := hK.sub (tys' := [(kP, .object "HeapWorks$Picture")]) [0] rfl
  generalize H1 = H at hP hS ⊢
  have hP : va_P (dC, dI) vwCl [(aX, .inr (14, fsX)), (qP, .inl (kP, 4, .inr (.inr (.inr (.inr gP))))), (ap, .inr (8, fsp))] H := hP
  have hD : va_D A [(aX, .inr (14, fsX)), (qP, .inl (kP, 4, .inr (.inr (.inr (.inr gP))))), (ap, .inr (8, fsp))] := hD
  rcases hw with ⟨c5754, er5755⟩ | ⟨c5756, c5757, er5758⟩ | ⟨c5759, c5760, er5761⟩
  · skip
    subst er5755
    refine lv_if_eq (tgt := 38) hx hb dX11_lostThing_4 (by decide) (fun c5762 => ?_) (fun c5762 => absurd c5762 (by decide))
    refine lv_iconst (v := (-1)) hx hb dX11_lostThing_38 (by decide) ?_
    have hP9 := hP.sub (ws' := [(aX, .inr (14, fsX)), (qP, .inl (kP, 4, .inr (.inr (.inr (.inr gP))))), (ap, .inr (8, fsp))]) [0, 1, 2] rfl
    have hD9 := hD.sub (ws' := [(aX, .inr (14, fsX)), (qP, .inl (kP, 4, .inr (.inr (.inr (.inr gP))))), (ap, .inr (8, fsp))]) [0, 1, 2] (by decide) rfl
    have hK9 := hK.sub (tys' := [(kP, .object "HeapWorks$Picture")]) [0] rfl
    exact W.iret (v := (-1)) hx hb hr (fun t ht hW => ⟨⟨(-1), (), rfl, (Or.inl ⟨c5754, rfl⟩), by rw [ht]; exact hP9, va_K.moved hW.alike hK9, hD9⟩, hS.F ht⟩) hS.2.2 dX11_lostThing_39
  · skip
    subst er5758
    refine lv_if_eq (tgt := 38) hx hb dX11_lostThing_4 (by decide) (fun c5763 => ?_) (fun c5763 => absurd c5763 (by decide))
    refine lv_iconst (v := (-1)) hx hb dX11_lostThing_38 (by decide) ?_
    have hP9 := hP.sub (ws' := [(aX, .inr (14, fsX)), (qP, .inl (kP, 4, .inr (.inr (.inr (.inr gP))))), (ap, .inr (8, fsp))]) [0, 1, 2] rfl
    have hD9 := hD.sub (ws' := [(aX, .inr (14, fsX)), (qP, .inl (kP, 4, .inr (.inr (.inr (.inr gP))))), (ap, .inr (8, fsp))]) [0, 1, 2] (by decide) rfl
    have hK9 := hK.sub (tys' := [(kP, .object "HeapWorks$Picture")]) [0] rfl
    exact W.iret (v := (-1)) hx hb hr (fun t ht hW => ⟨⟨(-1), (), rfl, (Or.inr (Or.inl ⟨c5756, c5757, rfl⟩)), by rw [ht]; exact hP9, va_K.moved hW.alike hK9, hD9⟩, hS.F ht⟩) hS.2.2 dX11_lostThing_39
  · skip
    subst er5761
    refine lv_if_eq (tgt := 38) hx hb dX11_lostThing_4 (by decide) (fun c5764 => absurd c5764 (by decide)) (fun c5764 => ?_)
    refine lv_iload_n hx hb dX11_lostThing_7 rfl (lv_at hl 2 rfl) ?_
    refine lv_if_lt (tgt := 38) hx hb dX11_lostThing_8 (by decide) (fun c5765 => ?_) (fun c5765 => ?_)
    · skip
      refine lv_iconst (v := (-1)) hx hb dX11_lostThing_38 (by decide) ?_
      have hP9 := hP.sub (ws' := [(aX, .inr (14, fsX)), (qP, .inl (kP, 4, .inr (.inr (.inr (.inr gP))))), (ap, .inr (8, fsp))]) [0, 1, 2] rfl
      have hD9 := hD.sub (ws' := [(aX, .inr (14, fsX)), (qP, .inl (kP, 4, .inr (.inr (.inr (.inr gP))))), (ap, .inr (8, fsp))]) [0, 1, 2] (by decide) rfl
      have hK9 := hK.sub (tys' := [(kP, .object "HeapWorks$Picture")]) [0] rfl
      exact W.iret (v := (-1)) hx hb hr (fun t ht hW => ⟨⟨(-1), (), rfl, (Or.inr (Or.inr (Or.inl ⟨c5759, c5760, c5765, rfl⟩))), by rw [ht]; exact hP9, va_K.moved hW.alike hK9, hD9⟩, hS.F ht⟩) hS.2.2 dX11_lostThing_39
    · skip
      refine lv_iload_n hx hb dX11_lostThing_11 rfl (lv_at hl 2 rfl) ?_
      refine lv_aload_n hx hb dX11_lostThing_12 rfl (lv_at hl 0 rfl) ?_
      refine va_get (D := (dC, dI)) (ci := 14) (v := .ref qP) (C := RX11) (T := TX11) (N := 18) hx hb hts (in_x_lostThing_X11) hown hK hP 0 rfl rfl 4 (by decide) (hts (.fieldLink RX11 41 "HeapWorks" "pictures" "[LHeapWorks$Picture;") (by decide +kernel)) (fun _ h9 => h9) (ow_at o_fsX 0 rfl) dX11_lostThing_13 ?_
      refine lv_iload_n hx hb dX11_lostThing_16 rfl (lv_at hl 1 rfl) ?_
      refine va_aldq hx hb hK hP 1 0 rfl rfl (by rw [vp_in_iff]; (try simp only [i_lt, i_le, i_eq, kc_0, kc_4] at c5759 c5760); omega) dX11_lostThing_17 ?_
      refine W.eq (g2 := F0 m 18 ls (.ref ap :: [.int p1])) (by rw [hg]; rfl) ?_
      refine va_get (D := (dC, dI)) (ci := 8) (v := .int 0) (C := RX5) (T := TX5) (N := 21) hx hb hts (in_x_lostThing_X5) hown hK hP 2 rfl rfl 16 (by decide) (hts (.fieldLink RX11 444 "HeapWorks$Picture" "lostCount" "I") (by decide +kernel)) (fun _ h9 => h9) (ow_at o_fsp 0 rfl) dX11_lostThing_18 ?_
      refine lv_icmp_ge (tgt := 38) hx hb dX11_lostThing_21 (by decide) (fun c5766 => ?_) (fun c5766 => (by exfalso; have bd_p1 := i_bd p1; (try simp only [i_lt, i_le, i_eq, kc_0] at c5765 c5766); omega))
      refine lv_iconst (v := (-1)) hx hb dX11_lostThing_38 (by decide) ?_
      have hP9 := hP.sub (ws' := [(aX, .inr (14, fsX)), (qP, .inl (kP, 4, .inr (.inr (.inr (.inr gP))))), (ap, .inr (8, fsp))]) [0, 1, 2] rfl
      have hD9 := hD.sub (ws' := [(aX, .inr (14, fsX)), (qP, .inl (kP, 4, .inr (.inr (.inr (.inr gP))))), (ap, .inr (8, fsp))]) [0, 1, 2] (by decide) rfl
      have hK9 := hK.sub (tys' := [(kP, .object "HeapWorks$Picture")]) [0] rfl
      exact W.iret (v := (-1)) hx hb hr (fun t ht hW => ⟨⟨(-1), (), rfl, (Or.inr (Or.inr (Or.inr (⟨c5759, c5760, c5765, c5766, rfl⟩)))), by rw [ht]; exact hP9, va_K.moved hW.alike hK9, hD9⟩, hS.F ht⟩) hS.2.2 dX11_lostThing_39

def l_z_X5_listChanged : List Cond := [.fieldLink RX5 82 "HeapWorks$Picture" "things" "I"]
def w_z_X5_listChanged : List Cond := .code yX5_listChanged cX5_listChanged 6 (some .int) :: (l_z_X5_listChanged ++ (wsX50))
theorem in_z_X5_listChanged_X5 : ∀ w ∈ wsX50, w ∈ w_z_X5_listChanged := fun w h => List.mem_cons_of_mem _ (List.mem_append_right _ (h))
set_option maxHeartbeats 4000000 in
set_option maxRecDepth 100000 in
theorem z_X5_listChanged (l : Launch) (dC : Nat → ClassId) (dI : Nat → Nat → Nat) (sz : Nat) (Ad0 : Nat) (Fs0 : List Value) (Br0 : Nat) (Br1 : Nat) (k_Fs0 : fh Fs0 21 [(0, .int 0)])  : Met l yX5_listChanged w_z_X5_listChanged ({ frames := 0, cells := 0, slots := 0, locals := 0 }) (va_Pc [.ref Ad0, .ref Br0, .ref Br1] (fun U => U.heap.size = sz ∧ Wd dC dI [] (fun _ => True) [(Ad0, .inr (8, Fs0))] U)) (va_Qi (fun (r : Int32) (u : Unit) => r = 0) (fun (u : Unit) t => Wd dC dI [] (va_A [(Ad0, .inr (8, Fs0))] sz) [(Ad0, .inr (8, Fs0))] t) (va_A [(Ad0, .inr (8, Fs0))] sz))  0 0 (va_A [(Ad0, .inr (8, Fs0))] sz) := by
  refine Met.ofW (cc := cX5_listChanged) (maxL := 6) (ret := (some .int)) (by decide) rfl ?_
  intro p e s m args below meth c s₁ B hml hv
  obtain ⟨rfl, hsz, hP, hK, hD0⟩ := hv
  have hx := B.exec
  have hb := B.bytes
  have hr := B.returns
  have hts := atoms_spec (ws := w_z_X5_listChanged) B.pre
  have hown : s.vm.findClass RX5 = some m.cls := findClass_of_methodNamed B.named
  have hlocks := B.notSynchronized
  subst hsz
  have hD := hD0.self (sz := s.heap.size)
  generalize hAe : va_A [(Ad0, .inr (8, Fs0))] s.heap.size = A at hD ⊢
  have hA : ∀ q : Nat, s.heap.size ≤ q → A q := fun q h => by rw [← hAe]; exact Or.inr h
  have hS : va_S A s.heap s.heap [] := va_S.rf
  have hl := lv_entry ([.ref Ad0, .ref Br0, .ref Br1]) (n := 6) (Nat.le_of_ble_eq_true rfl)
  rw [lg_entry_eq]
  generalize (lg_sl ([.ref Ad0, .ref Br0, .ref Br1]) ++ List.replicate (6 - (lg_sl ([.ref Ad0, .ref Br0, .ref Br1])).length) Slot.unset).toArray = ls at hl ⊢
  have hl : lv_has ls 6 [(0, .ref Ad0), (1, .ref Br0), (2, .ref Br1)] := hl
  have o_Fs0 := ow_0 k_Fs0
  refine lv_iconst (v := 0) hx hb dX5_listChanged_0 (by decide) ?_
  refine lv_istore_n (lv' := [(3, .int 0), (0, .ref Ad0), (1, .ref Br0), (2, .ref Br1)]) hx hb dX5_listChanged_1 rfl hl (by decide) rfl (fun ls hl => ?_)
  refine lv_iconst (v := 0) hx hb dX5_listChanged_2 (by decide) ?_
  refine lv_istore (lv' := [(4, .int 0), (3, .int 0), (0, .ref Ad0), (1, .ref Br0), (2, .ref Br1)]) hx hb dX5_listChanged_3 hl (by decide) rfl (fun ls hl => ?_)
  refine lv_iload hx hb dX5_listChanged_5 (lv_at hl 0 rfl) ?_
  refine lv_aload_n hx hb dX5_listChanged_7 rfl (lv_at hl 2 rfl) ?_
  refine va_get (D := (dC, dI)) (ci := 8) (v := .int 0) (C := RX5) (T := TX5) (N := 21) hx hb hts (in_z_X5_listChanged_X5) hown hK hP 0 rfl rfl 0 (by decide) (hts (.fieldLink RX5 82 "HeapWorks$Picture" "things" "I") (by decide +kernel)) (fun _ h9 => h9) (ow_at o_Fs0 0 rfl) dX5_listChanged_8 ?_
  refine lv_icmp_ge (tgt := 60) hx hb dX5_listChanged_11 (by decide) (fun c5810 => ?_) (fun c5810 => absurd c5810 (by decide))
  refine lv_iload_n hx hb dX5_listChanged_60 rfl (lv_at hl 1 rfl) ?_
  have hP9 := hP.sub (ws' := [(Ad0, .inr (8, Fs0))]) [0] rfl
  have hD9 := hD.sub (ws' := [(Ad0, .inr (8, Fs0))]) [0] (by decide) rfl
  have hK9 := hK.sub (tys' := []) [] rfl
  exact W.iret (v := 0) hx hb hr (fun t ht hW => ⟨⟨0, (), rfl, rfl, by rw [ht]; exact hP9, va_K.moved hW.alike hK9, hD9⟩, hS.F ht⟩) hS.2.2 dX5_listChanged_61

def l_z_X5_listMissing : List Cond := [.fieldLink RX5 82 "HeapWorks$Picture" "things" "I"]
def w_z_X5_listMissing : List Cond := .code yX5_listMissing cX5_listMissing 5 (some .int) :: (l_z_X5_listMissing ++ (wsX50))
theorem in_z_X5_listMissing_X5 : ∀ w ∈ wsX50, w ∈ w_z_X5_listMissing := fun w h => List.mem_cons_of_mem _ (List.mem_append_right _ (h))
set_option maxHeartbeats 4000000 in
set_option maxRecDepth 100000 in
theorem z_X5_listMissing (l : Launch) (dC : Nat → ClassId) (dI : Nat → Nat → Nat) (sz : Nat) (Ad0 : Nat) (Fs0 : List Value) (Br0 : Nat) (Br1 : Nat) (k_Fs0 : fh Fs0 21 [(0, .int 0)])  : Met l yX5_listMissing w_z_X5_listMissing ({ frames := 0, cells := 0, slots := 0, locals := 0 }) (va_Pc [.ref Ad0, .ref Br0, .ref Br1] (fun U => U.heap.size = sz ∧ Wd dC dI [] (fun _ => True) [(Ad0, .inr (8, Fs0))] U)) (va_Qi (fun (r : Int32) (u : Unit) => r = 0) (fun (u : Unit) t => Wd dC dI [] (va_A [(Ad0, .inr (8, Fs0))] sz) [(Ad0, .inr (8, Fs0))] t) (va_A [(Ad0, .inr (8, Fs0))] sz))  0 0 (va_A [(Ad0, .inr (8, Fs0))] sz) := by
  refine Met.ofW (cc := cX5_listMissing) (maxL := 5) (ret := (some .int)) (by decide) rfl ?_
  intro p e s m args below meth c s₁ B hml hv
  obtain ⟨rfl, hsz, hP, hK, hD0⟩ := hv
  have hx := B.exec
  have hb := B.bytes
  have hr := B.returns
  have hts := atoms_spec (ws := w_z_X5_listMissing) B.pre
  have hown : s.vm.findClass RX5 = some m.cls := findClass_of_methodNamed B.named
  have hlocks := B.notSynchronized
  subst hsz
  have hD := hD0.self (sz := s.heap.size)
  generalize hAe : va_A [(Ad0, .inr (8, Fs0))] s.heap.size = A at hD ⊢
  have hA : ∀ q : Nat, s.heap.size ≤ q → A q := fun q h => by rw [← hAe]; exact Or.inr h
  have hS : va_S A s.heap s.heap [] := va_S.rf
  have hl := lv_entry ([.ref Ad0, .ref Br0, .ref Br1]) (n := 5) (Nat.le_of_ble_eq_true rfl)
  rw [lg_entry_eq]
  generalize (lg_sl ([.ref Ad0, .ref Br0, .ref Br1]) ++ List.replicate (5 - (lg_sl ([.ref Ad0, .ref Br0, .ref Br1])).length) Slot.unset).toArray = ls at hl ⊢
  have hl : lv_has ls 5 [(0, .ref Ad0), (1, .ref Br0), (2, .ref Br1)] := hl
  have o_Fs0 := ow_0 k_Fs0
  refine lv_iconst (v := 0) hx hb dX5_listMissing_0 (by decide) ?_
  refine lv_istore_n (lv' := [(3, .int 0), (0, .ref Ad0), (1, .ref Br0), (2, .ref Br1)]) hx hb dX5_listMissing_1 rfl hl (by decide) rfl (fun ls hl => ?_)
  refine lv_iconst (v := 0) hx hb dX5_listMissing_2 (by decide) ?_
  refine lv_istore (lv' := [(4, .int 0), (3, .int 0), (0, .ref Ad0), (1, .ref Br0), (2, .ref Br1)]) hx hb dX5_listMissing_3 hl (by decide) rfl (fun ls hl => ?_)
  refine lv_iload hx hb dX5_listMissing_5 (lv_at hl 0 rfl) ?_
  refine lv_aload_n hx hb dX5_listMissing_7 rfl (lv_at hl 2 rfl) ?_
  refine va_get (D := (dC, dI)) (ci := 8) (v := .int 0) (C := RX5) (T := TX5) (N := 21) hx hb hts (in_z_X5_listMissing_X5) hown hK hP 0 rfl rfl 0 (by decide) (hts (.fieldLink RX5 82 "HeapWorks$Picture" "things" "I") (by decide +kernel)) (fun _ h9 => h9) (ow_at o_Fs0 0 rfl) dX5_listMissing_8 ?_
  refine lv_icmp_ge (tgt := 44) hx hb dX5_listMissing_11 (by decide) (fun c5815 => ?_) (fun c5815 => absurd c5815 (by decide))
  refine lv_iload_n hx hb dX5_listMissing_44 rfl (lv_at hl 1 rfl) ?_
  have hP9 := hP.sub (ws' := [(Ad0, .inr (8, Fs0))]) [0] rfl
  have hD9 := hD.sub (ws' := [(Ad0, .inr (8, Fs0))]) [0] (by decide) rfl
  have hK9 := hK.sub (tys' := []) [] rfl
  exact W.iret (v := 0) hx hb hr (fun t ht hW => ⟨⟨0, (), rfl, rfl, by rw [ht]; exact hP9, va_K.moved hW.alike hK9, hD9⟩, hS.F ht⟩) hS.2.2 dX5_listMissing_45

def l_x_growth : List Cond := [.methodLink RX11 353 yX11_needPicture, .static yX11_needPicture, .initialized RX11, .classLink RX11 120 "java/lang/IndexOutOfBoundsException", .initialized "java/lang/IndexOutOfBoundsException", .fieldLink RX11 41 "HeapWorks" "pictures" "[LHeapWorks$Picture;", .fieldLink RX11 95 "HeapWorks" "grownThings" "[I", .methodLink RX11 457 yX5_listChanged, .instanceMethod yX5_listChanged, .selects RX5 yX5_listChanged yX5_listChanged, .initialized RX5, .fieldLink RX11 454 "HeapWorks" "grownCount" "I", .methodLink RX11 450 yX5_listMissing, .instanceMethod yX5_listMissing, .selects RX5 yX5_listMissing yX5_listMissing, .code yX11_needPicture cX11_needPicture 1 none, .methodLink RX11 411 yX11_isPicture, .static yX11_isPicture, .code yX11_isPicture cX11_isPicture 1 (some .boolean), .code yX5_listChanged cX5_listChanged 6 (some .int), .fieldLink RX5 82 "HeapWorks$Picture" "things" "I", .code yX5_listMissing cX5_listMissing 5 (some .int)]
def w_x_growth : List Cond := .code yX11_growth cX11_growth 4 (some .int) :: (l_x_growth ++ ((((vx_at0 RX11 122 "java/lang/IndexOutOfBoundsException" ["java/lang/RuntimeException", "java/lang/Exception"]).filter goodWord) ++ (wsX110 ++ wsX50))))
theorem in_x_growth_at0_X11_122 : ∀ w ∈ ((vx_at0 RX11 122 "java/lang/IndexOutOfBoundsException" ["java/lang/RuntimeException", "java/lang/Exception"]).filter goodWord), w ∈ w_x_growth := fun w h => List.mem_cons_of_mem _ (List.mem_append_right _ (List.mem_append_left _ h))
theorem in_x_growth_X11 : ∀ w ∈ wsX110, w ∈ w_x_growth := fun w h => List.mem_cons_of_mem _ (List.mem_append_right _ (List.mem_append_right _ (List.mem_append_left _ h)))
theorem in_x_growth_X5 : ∀ w ∈ wsX50, w ∈ w_x_growth := fun w h => List.mem_cons_of_mem _ (List.mem_append_right _ (List.mem_append_right _ (List.mem_append_right _ (h))))
theorem g_x_growth_z_X11_needPicture_353 : GoodIn w_x_growth (wsS RX11 353 yX11_needPicture w_z_X11_needPicture) := goodIn_app (goodIn_sub (by decide +kernel) (by decide +kernel)) (goodIn_ca (goodIn_sub (by decide +kernel) (by decide +kernel)) (goodIn_in in_x_growth_at0_X11_122 gd_at0_X11_122))
theorem g_x_growth_z_X5_listChanged_457 : GoodIn w_x_growth (wsV RX11 457 RX5 yX5_listChanged w_z_X5_listChanged) := goodIn_app (goodIn_sub (by decide +kernel) (by decide +kernel)) (goodIn_ca (goodIn_sub (by decide +kernel) (by decide +kernel)) (goodIn_in in_x_growth_X5 gd_X5))
theorem g_x_growth_z_X5_listMissing_450 : GoodIn w_x_growth (wsV RX11 450 RX5 yX5_listMissing w_z_X5_listMissing) := goodIn_app (goodIn_sub (by decide +kernel) (by decide +kernel)) (goodIn_ca (goodIn_sub (by decide +kernel) (by decide +kernel)) (goodIn_in in_x_growth_X5 gd_X5))
set_option maxHeartbeats 4000000 in
set_option maxRecDepth 100000 in
theorem x_growth (l : Launch) (dC : Nat → ClassId) (dI : Nat → Nat → Nat) (sz : Nat) (aX : Nat) (fsX : List Value) (qP : Nat) (gP : Nat → Option Nat) (kP : ClassId) (ap : Nat) (fsp : List Value) (aq : Nat) (fsq : List Value) (p0 : Int32) (p1 : Int32) (p2 : Int32) (qW : Nat) (k_fsX : fh fsX 18 [(4, .ref qP), (15, .int 0), (14, .ref qW)]) (k_fsp : fh fsp 21 [(0, .int 0)]) (k_fsq : fh fsq 21 [(0, .int 0)]) (hst : l.stackTraces = false) (hg1 : gP p1.toNatClampNeg = some aq) (hg : gP p0.toNatClampNeg = some ap) : vx_Met l yX11_growth w_x_growth ({ frames := 8, cells := 3, slots := 18, locals := 160 }) (va_Pc [.ref aX, .int p0, .int p1, .int p2] (fun U => U.heap.size = sz ∧ Zz (va_A [(aX, .inr (14, fsX)), (qP, .inl (kP, 4, .inr (.inr (.inr (.inr gP))))), (ap, .inr (8, fsp)), (aq, .inr (8, fsq))] sz) U ∧ Wd dC dI [(kP, .object "HeapWorks$Picture")] (fun _ => True) [(aX, .inr (14, fsX)), (qP, .inl (kP, 4, .inr (.inr (.inr (.inr gP))))), (ap, .inr (8, fsp)), (aq, .inr (8, fsq))] U)) (va_Qi (fun (r : Int32) (u : List Value) => (¬ p0 < 0 ∧ ¬ 4 ≤ p0 ∧ ¬ p1 < 0 ∧ ¬ 4 ≤ p1 ∧ ¬ p2 < 0 ∧ p2 ≤ 2 ∧ ¬ p2 = 0 ∧ ¬ p2 = 1 ∧ r = 0 ∧ ow fsX (u) 18 [15] [(15, .int 0), (4, .ref qP), (14, .ref qW)]) ∨ (¬ p0 < 0 ∧ ¬ 4 ≤ p0 ∧ ¬ p1 < 0 ∧ ¬ 4 ≤ p1 ∧ ¬ p2 < 0 ∧ p2 ≤ 2 ∧ ¬ p2 = 0 ∧ p2 = 1 ∧ r = 0 ∧ ow fsX (u) 18 [15] [(15, .int 0), (4, .ref qP), (14, .ref qW)]) ∨ (¬ p0 < 0 ∧ ¬ 4 ≤ p0 ∧ ¬ p1 < 0 ∧ ¬ 4 ≤ p1 ∧ ¬ p2 < 0 ∧ p2 ≤ 2 ∧ p2 = 0 ∧ r = 0 ∧ ow fsX (u) 18 [15] [(15, .int 0), (4, .ref qP), (14, .ref qW)])) (fun (u : List Value) t => Wd dC dI [(kP, .object "HeapWorks$Picture")] (va_A [(aX, .inr (14, fsX)), (qP, .inl (kP, 4, .inr (.inr (.inr (.inr gP))))), (ap, .inr (8, fsp)), (aq, .inr (8, fsq))] sz) [(aX, .inr (14, (u))), (qP, .inl (kP, 4, .inr (.inr (.inr (.inr gP))))), (ap, .inr (8, fsp)), (aq, .inr (8, fsq))] t) (va_A [(aX, .inr (14, fsX)), (qP, .inl (kP, 4, .inr (.inr (.inr (.inr gP))))), (ap, .inr (8, fsp)), (aq, .inr (8, fsq))] sz)) (vx_X (fun _ : Unit => True) (fun E _ _ => (E = "java/lang/IndexOutOfBoundsException" ∧ p0 < 0) ∨ (E = "java/lang/IndexOutOfBoundsException" ∧ ¬ p0 < 0 ∧ 4 ≤ p0) ∨ (E = "java/lang/IndexOutOfBoundsException" ∧ ¬ p0 < 0 ∧ ¬ 4 ≤ p0 ∧ p1 < 0) ∨ (E = "java/lang/IndexOutOfBoundsException" ∧ ¬ p0 < 0 ∧ ¬ 4 ≤ p0 ∧ ¬ p1 < 0 ∧ 4 ≤ p1) ∨ (E = "java/lang/IndexOutOfBoundsException" ∧ ¬ p0 < 0 ∧ ¬ 4 ≤ p0 ∧ ¬ p1 < 0 ∧ ¬ 4 ≤ p1 ∧ p2 < 0) ∨ (E = "java/lang/IndexOutOfBoundsException" ∧ ¬ p0 < 0 ∧ ¬ 4 ≤ p0 ∧ ¬ p1 < 0 ∧ ¬ 4 ≤ p1 ∧ ¬ p2 < 0 ∧ ¬ p2 ≤ 2)) (va_A [(aX, .inr (14, fsX)), (qP, .inl (kP, 4, .inr (.inr (.inr (.inr gP))))), (ap, .inr (8, fsp)), (aq, .inr (8, fsq))] sz)) 3 18 (va_A [(aX, .inr (14, fsX)), (qP, .inl (kP, 4, .inr (.inr (.inr (.inr gP))))), (ap, .inr (8, fsp)), (aq, .inr (8, fsq))] sz) := by
  refine vx_ofW (cc := cX11_growth) (maxL := 4) (ret := (some .int)) (by decide) rfl ?_
  intro p e s m args below meth c s₁ B hml htab hv
  obtain ⟨rfl, hsz, hZ, hP, hK, hD0⟩ := hv
  have hx := B.exec
  have hb := B.bytes
  have hr := B.returns
  have hts := atoms_spec (ws := w_x_growth) B.pre
  have hown : s.vm.findClass RX11 = some m.cls := findClass_of_methodNamed B.named
  have hlocks := B.notSynchronized
  subst hsz
  have hD := hD0.self (sz := s.heap.size)
  generalize hAe : va_A [(aX, .inr (14, fsX)), (qP, .inl (kP, 4, .inr (.inr (.inr (.inr gP))))), (ap, .inr (8, fsp)), (aq, .inr (8, fsq))] s.heap.size = A at hD hZ ⊢
  have hA : ∀ q : Nat, s.heap.size ≤ q → A q := fun q h => by rw [← hAe]; exact Or.inr h
  have hS : va_S A s.heap s.heap [] := va_S.rf
  have hl := lv_entry ([.ref aX, .int p0, .int p1, .int p2]) (n := 4) (Nat.le_of_ble_eq_true rfl)
  rw [lg_entry_eq]
  generalize (lg_sl ([.ref aX, .int p0, .int p1, .int p2]) ++ List.replicate (4 - (lg_sl ([.ref aX, .int p0, .int p1, .int p2])).length) Slot.unset).toArray = ls at hl ⊢
  have hl : lv_has ls 4 [(0, .ref aX), (1, .int p0), (2, .int p1), (3, .int p2)] := hl
  have o_fsX := ow_0 k_fsX
  have o_fsp := ow_0 k_fsp
  have o_fsq := ow_0 k_fsq
  refine lv_iload_n hx hb dX11_growth_0 rfl (lv_at hl 1 rfl) ?_
  have hPc := hP.sub (ws' := []) [] rfl
  have hDc := hD.sub (ws' := []) [] (by decide) rfl
  have hKc := hK.sub (tys' := []) [] rfl
  have hFc := va_free (wc := []) hD hS hA [] rfl
  refine vx_callv (vx_runS (As := [.int p0]) (rest := []) ⟨hx, hb, hml, hown, hts⟩ (z_X11_needPicture l dC dI s.heap.size p0  hst ) (cwS 1 hts g_x_growth_z_X11_needPicture_353 rfl rfl rfl (by decide +kernel) ⟨Nat.le_of_ble_eq_true rfl, Nat.le_of_ble_eq_true rfl⟩) ⟨fun a U g mk q => by obtain ⟨q0, q1, qZ, qP, qK, qD⟩ := q; exact ⟨q0, q1, Zz_call qZ, qP, va_K.moved (u := U) (U := U.calling g mk a) (Vm.Alike.refl U.vm) qK, qD⟩, fun U hU hW => ⟨rfl, by rw [hU], Zz_go hZ hS hFc hU hW, by rw [hU]; exact hPc, va_K.moved hW.alike hKc, hDc.weaken (fun _ _ _ _ => trivial)⟩⟩ rfl rfl hl.1 rfl (lv_room (Nat.le_of_ble_eq_true rfl)) dX11_growth_1 ⟨Nat.le_of_ble_eq_true rfl, Nat.le_of_ble_eq_true rfl⟩) hS (fun q _ h => hFc q h) hFc (fun q _ h => hFc q h) (fun E ce q9 u t H1 locs ht hvm hpx hBX hz1 hk1 hS hce hcv hcl => ?_) (fun u t H1 locs ht hvm hw hB hz1 hk1 hS => ?_)
  · rcases hBX with ⟨rfl, c5837⟩ | ⟨rfl, c5838, c5839⟩
    · exact vx_out (fun x h => (htab x h).elim) hlocks hce hcv hcl (fun t9 ht9 _ => ⟨(), trivial, (Or.inl ⟨rfl, c5837⟩), hS.F ht9⟩) hS.2.2 (by decide) (by decide)
    · exact vx_out (fun x h => (htab x h).elim) hlocks hce hcv hcl (fun t9 ht9 _ => ⟨(), trivial, (Or.inr (Or.inl ⟨rfl, c5838, c5839⟩)), hS.F ht9⟩) hS.2.2 (by decide) (by decide)
  · skip
    obtain ⟨hP1, hK1, hD1⟩ := hB
    rw [ht] at hP1
    try dsimp only at hw
    obtain ⟨hP, hD⟩ := va_join (wr := [(aX, .inr (14, fsX)), (qP, .inl (kP, 4, .inr (.inr (.inr (.inr gP))))), (ap, .inr (8, fsp)), (aq, .inr (8, fsq))]) (w1 := []) hP hD [] [0, 1, 2, 3] rfl rfl (by decide) (by decide) hk1 hFc hP1 hD1
    have hK := hK.sub (tys' := [(kP, .object "HeapWorks$Picture")]) [0] rfl
    generalize H1 = H at hP hS ⊢
    refine W.widen (k := 1) (n := 6) (by omega) (by omega) ?_
    have hP : va_P (dC, dI) vwCl [(aX, .inr (14, fsX)), (qP, .inl (kP, 4, .inr (.inr (.inr (.inr gP))))), (ap, .inr (8, fsp)), (aq, .inr (8, fsq))] H := hP
    have hD : va_D A [(aX, .inr (14, fsX)), (qP, .inl (kP, 4, .inr (.inr (.inr (.inr gP))))), (ap, .inr (8, fsp)), (aq, .inr (8, fsq))] := hD
    obtain ⟨c5840, c5841⟩ := hw
    refine lv_iload_n hx hb dX11_growth_4 rfl (lv_at hl 2 rfl) ?_
    have hPc := hP.sub (ws' := []) [] rfl
    have hDc := hD.sub (ws' := []) [] (by decide) rfl
    have hKc := hK.sub (tys' := []) [] rfl
    have hFc := va_free (wc := []) hD hS hA [] rfl
    refine vx_callv (vx_runS (As := [.int p1]) (rest := []) ⟨hx, hb, hml, hown, hts⟩ (z_X11_needPicture l dC dI H.size p1  hst ) (cwS 1 hts g_x_growth_z_X11_needPicture_353 rfl rfl rfl (by decide +kernel) ⟨Nat.le_of_ble_eq_true rfl, Nat.le_of_ble_eq_true rfl⟩) ⟨fun a U g mk q => by obtain ⟨q0, q1, qZ, qP, qK, qD⟩ := q; exact ⟨q0, q1, Zz_call qZ, qP, va_K.moved (u := U) (U := U.calling g mk a) (Vm.Alike.refl U.vm) qK, qD⟩, fun U hU hW => ⟨rfl, by rw [hU], Zz_go hZ hS hFc hU hW, by rw [hU]; exact hPc, va_K.moved hW.alike hKc, hDc.weaken (fun _ _ _ _ => trivial)⟩⟩ rfl rfl hl.1 rfl (lv_room (Nat.le_of_ble_eq_true rfl)) dX11_growth_5 ⟨Nat.le_of_ble_eq_true rfl, Nat.le_of_ble_eq_true rfl⟩) hS (fun q _ h => hFc q h) hFc (fun q _ h => hFc q h) (fun E ce q9 u t H1 locs ht hvm hpx hBX hz1 hk1 hS hce hcv hcl => ?_) (fun u t H1 locs ht hvm hw hB hz1 hk1 hS => ?_)
    · rcases hBX with ⟨rfl, c5856⟩ | ⟨rfl, c5857, c5858⟩
      · exact vx_out (fun x h => (htab x h).elim) hlocks hce hcv hcl (fun t9 ht9 _ => ⟨(), trivial, (Or.inr (Or.inr (Or.inl ⟨rfl, c5840, c5841, c5856⟩))), hS.F ht9⟩) hS.2.2 (by decide) (by decide)
      · exact vx_out (fun x h => (htab x h).elim) hlocks hce hcv hcl (fun t9 ht9 _ => ⟨(), trivial, (Or.inr (Or.inr (Or.inr (Or.inl ⟨rfl, c5840, c5841, c5857, c5858⟩)))), hS.F ht9⟩) hS.2.2 (by decide) (by decide)
    · skip
      obtain ⟨hP1, hK1, hD1⟩ := hB
      rw [ht] at hP1
      try dsimp only at hw
      obtain ⟨hP, hD⟩ := va_join (wr := [(aX, .inr (14, fsX)), (qP, .inl (kP, 4, .inr (.inr (.inr (.inr gP))))), (ap, .inr (8, fsp)), (aq, .inr (8, fsq))]) (w1 := []) hP hD [] [0, 1, 2, 3] rfl rfl (by decide) (by decide) hk1 hFc hP1 hD1
      have hK := hK.sub (tys' := [(kP, .object "HeapWorks$Picture")]) [0] rfl
      generalize H1 = H at hP hS ⊢
      refine W.widen (k := 2) (n := 12) (by omega) (by omega) ?_
      have hP : va_P (dC, dI) vwCl [(aX, .inr (14, fsX)), (qP, .inl (kP, 4, .inr (.inr (.inr (.inr gP))))), (ap, .inr (8, fsp)), (aq, .inr (8, fsq))] H := hP
      have hD : va_D A [(aX, .inr (14, fsX)), (qP, .inl (kP, 4, .inr (.inr (.inr (.inr gP))))), (ap, .inr (8, fsp)), (aq, .inr (8, fsq))] := hD
      obtain ⟨c5859, c5860⟩ := hw
      refine lv_iload_n hx hb dX11_growth_8 rfl (lv_at hl 3 rfl) ?_
      refine lv_if_lt (tgt := 17) hx hb dX11_growth_9 (by decide) (fun c5861 => ?_) (fun c5861 => ?_)
      · skip
        exact vx_throw0 (names := ["java/lang/RuntimeException", "java/lang/Exception"]) hx hb hst hown (by decide +kernel) (by decide +kernel) (hts (.classLink RX11 120 "java/lang/IndexOutOfBoundsException") (by decide +kernel)) (hts (.initialized "java/lang/IndexOutOfBoundsException") (by decide +kernel)) (vx_hat (B := xB "java/lang/IndexOutOfBoundsException") (fun w h => hts w (in_x_growth_at0_X11_122 w h)) (by decide +kernel) (Zz_xB hZ (by decide))) (by decide +kernel) hZ.1 hZ.2.1 hS (hl.1.trans hml.symm) dX11_growth_17 dX11_growth_20 dX11_growth_21 dX11_growth_24 (fun x h => (htab x h).elim) (by decide) (Nat.le_of_ble_eq_true rfl) (Nat.le_of_ble_eq_true rfl) (Nat.le_of_ble_eq_true rfl) hlocks (fun t _ h1 h2 => ⟨(), trivial, (Or.inr (Or.inr (Or.inr (Or.inr (Or.inl ⟨rfl, c5840, c5841, c5859, c5860, c5861⟩))))), xx_F hS h1 h2⟩) hS.2.2 (by decide) (by decide)
      · skip
        refine lv_iload_n hx hb dX11_growth_12 rfl (lv_at hl 3 rfl) ?_
        refine lv_iconst (v := 2) hx hb dX11_growth_13 (by decide) ?_
        refine lv_icmp_le (tgt := 25) hx hb dX11_growth_14 (by decide) (fun c5862 => ?_) (fun c5862 => ?_)
        · skip
          refine lv_iload_n hx hb dX11_growth_25 rfl (lv_at hl 3 rfl) ?_
          refine lv_if_ne (tgt := 55) hx hb dX11_growth_26 (by decide) (fun c5863 => ?_) (fun c5863 => ?_)
          · skip
            refine lv_iload_n hx hb dX11_growth_55 rfl (lv_at hl 3 rfl) ?_
            refine lv_iconst (v := 1) hx hb dX11_growth_56 (by decide) ?_
            refine lv_icmp_ne (tgt := 86) hx hb dX11_growth_57 (by decide) (fun c5864 => ?_) (fun c5864 => ?_)
            · skip
              refine lv_aload_n hx hb dX11_growth_86 rfl (lv_at hl 0 rfl) ?_
              refine lv_aload_n hx hb dX11_growth_87 rfl (lv_at hl 0 rfl) ?_
              refine va_get (D := (dC, dI)) (ci := 14) (v := .ref qP) (C := RX11) (T := TX11) (N := 18) hx hb hts (in_x_growth_X11) hown hK hP 0 rfl rfl 4 (by decide) (hts (.fieldLink RX11 41 "HeapWorks" "pictures" "[LHeapWorks$Picture;") (by decide +kernel)) (fun _ h9 => h9) (ow_at o_fsX 0 rfl) dX11_growth_88 ?_
              refine lv_iload_n hx hb dX11_growth_91 rfl (lv_at hl 2 rfl) ?_
              refine va_aldq hx hb hK hP 1 0 rfl rfl (by rw [vp_in_iff]; (try simp only [i_lt, i_le, i_eq, kc_0, kc_4] at c5859 c5860); omega) dX11_growth_92 ?_
              refine W.eq (g2 := F0 m 93 ls (.ref aq :: [.ref aX])) (by rw [hg1]; rfl) ?_
              refine lv_aload_n hx hb dX11_growth_93 rfl (lv_at hl 0 rfl) ?_
              refine va_get (D := (dC, dI)) (ci := 14) (v := .ref qP) (C := RX11) (T := TX11) (N := 18) hx hb hts (in_x_growth_X11) hown hK hP 0 rfl rfl 4 (by decide) (hts (.fieldLink RX11 41 "HeapWorks" "pictures" "[LHeapWorks$Picture;") (by decide +kernel)) (fun _ h9 => h9) (ow_at o_fsX 0 rfl) dX11_growth_94 ?_
              refine lv_iload_n hx hb dX11_growth_97 rfl (lv_at hl 1 rfl) ?_
              refine va_aldq hx hb hK hP 1 0 rfl rfl (by rw [vp_in_iff]; (try simp only [i_lt, i_le, i_eq, kc_0, kc_4] at c5840 c5841); omega) dX11_growth_98 ?_
              refine W.eq (g2 := F0 m 99 ls (.ref ap :: [.ref aq, .ref aX])) (by rw [hg]; rfl) ?_
              refine lv_aload_n hx hb dX11_growth_99 rfl (lv_at hl 0 rfl) ?_
              refine va_get (D := (dC, dI)) (ci := 14) (v := .ref qW) (C := RX11) (T := TX11) (N := 18) hx hb hts (in_x_growth_X11) hown hK hP 0 rfl rfl 14 (by decide) (hts (.fieldLink RX11 95 "HeapWorks" "grownThings" "[I") (by decide +kernel)) (fun _ h9 => h9) (ow_at o_fsX 2 rfl) dX11_growth_100 ?_
              have hPc := hP.sub (ws' := [(aq, .inr (8, fsq))]) [3] rfl
              have hDc := hD.sub (ws' := [(aq, .inr (8, fsq))]) [3] (by decide) rfl
              have hKc := hK.sub (tys' := []) [] rfl
              have hFc := va_free (wc := [(aq, .inr (8, fsq))]) hD hS hA [3] rfl
              refine va_calli (va_runV (As := [.ref ap, .ref qW]) (rest := [.ref aX]) ⟨hx, hb, hml, hown, hts⟩ (z_X5_listChanged l dC dI H.size aq fsq ap qW (fh_sub o_fsq.2 [0] rfl) ) (cwV 2 hts g_x_growth_z_X5_listChanged_457 rfl rfl rfl (by decide +kernel) ⟨Nat.le_of_ble_eq_true rfl, Nat.le_of_ble_eq_true rfl⟩) ⟨fun a U g mk q => by obtain ⟨q0, q1, qP, qK, qD⟩ := q; exact ⟨q0, q1, qP, va_K.moved (u := U) (U := U.calling g mk a) (Vm.Alike.refl U.vm) qK, qD⟩, va_recv hK hP (ci := 8) (q0 := 3) rfl rfl, fun U hU hW => ⟨rfl, by rw [hU], by rw [hU]; exact hPc, va_K.moved hW.alike hKc, hDc.weaken (fun _ _ _ _ => trivial)⟩⟩ rfl rfl hl.1 rfl (lv_room (Nat.le_of_ble_eq_true rfl)) dX11_growth_103 ⟨Nat.le_of_ble_eq_true rfl, Nat.le_of_ble_eq_true rfl⟩) hS (fun q _ h => hFc q h) hFc (fun r5866 u t H1 locs ht hvm hw hB hz1 hk1 hS => ?_)
              obtain ⟨hP1, hK1, hD1⟩ := hB
              rw [ht] at hP1
              try dsimp only at hw
              obtain ⟨hP, hD⟩ := va_join (wr := [(aX, .inr (14, fsX)), (qP, .inl (kP, 4, .inr (.inr (.inr (.inr gP))))), (ap, .inr (8, fsp))]) (w1 := [(aq, .inr (8, fsq))]) hP hD [3] [0, 1, 2] rfl rfl (by decide) (by decide) hk1 hFc hP1 hD1
              have hK := hK.sub (tys' := [(kP, .object "HeapWorks$Picture")]) [0] rfl
              generalize H1 = H at hP hS ⊢
              have hP : va_P (dC, dI) vwCl [(aX, .inr (14, fsX)), (qP, .inl (kP, 4, .inr (.inr (.inr (.inr gP))))), (ap, .inr (8, fsp)), (aq, .inr (8, fsq))] H := hP
              have hD : va_D A [(aX, .inr (14, fsX)), (qP, .inl (kP, 4, .inr (.inr (.inr (.inr gP))))), (ap, .inr (8, fsp)), (aq, .inr (8, fsq))] := hD
              have er5867 := hw
              subst er5867
              refine va_put (D := (dC, dI)) (ci := 14) (v := .int 0) (ty := .int) (C := RX11) (T := TX11) (N := 18) hx hb hts (in_x_growth_X11) tyX11 tyX11_ok nmX11 hown hK hP hD hS 0 rfl rfl 15 (by decide) (hts (.fieldLink RX11 454 "HeapWorks" "grownCount" "I") (by decide +kernel)) (fun _ h9 => h9) rfl (by decide +kernel) rfl rfl (by rw [o_fsX.2.1]; decide) dX11_growth_106 (fun H locs hP hD hS => ?_)
              have hP : va_P (dC, dI) vwCl [(aX, .inr (14, (fsX.set 15 (.int 0)))), (qP, .inl (kP, 4, .inr (.inr (.inr (.inr gP))))), (ap, .inr (8, fsp)), (aq, .inr (8, fsq))] H := hP
              have hD : va_D A [(aX, .inr (14, (fsX.set 15 (.int 0)))), (qP, .inl (kP, 4, .inr (.inr (.inr (.inr gP))))), (ap, .inr (8, fsp)), (aq, .inr (8, fsq))] := hD
              have o_s5868 := ow_set o_fsX 15 (.int 0) (by decide) (l' := [(15, .int 0), (4, .ref qP), (14, .ref qW)]) (w' := [15]) rfl rfl
              generalize (fsX.set 15 (.int 0)) = s5868 at hP hD o_s5868
              refine lv_aload_n hx hb dX11_growth_109 rfl (lv_at hl 0 rfl) ?_
              refine va_get (D := (dC, dI)) (ci := 14) (v := .int 0) (C := RX11) (T := TX11) (N := 18) hx hb hts (in_x_growth_X11) hown hK hP 0 rfl rfl 15 (by decide) (hts (.fieldLink RX11 454 "HeapWorks" "grownCount" "I") (by decide +kernel)) (fun _ h9 => h9) (ow_at o_s5868 0 rfl) dX11_growth_110 ?_
              have hP9 := hP.sub (ws' := [(aX, .inr (14, s5868)), (qP, .inl (kP, 4, .inr (.inr (.inr (.inr gP))))), (ap, .inr (8, fsp)), (aq, .inr (8, fsq))]) [0, 1, 2, 3] rfl
              have hD9 := hD.sub (ws' := [(aX, .inr (14, s5868)), (qP, .inl (kP, 4, .inr (.inr (.inr (.inr gP))))), (ap, .inr (8, fsp)), (aq, .inr (8, fsq))]) [0, 1, 2, 3] (by decide) rfl
              have hK9 := hK.sub (tys' := [(kP, .object "HeapWorks$Picture")]) [0] rfl
              refine vx_ret ?_
              refine W.widen (k := 3) (n := 18) (by decide) (by decide) ?_
              exact W.iret (v := 0) hx hb hr (fun t ht hW => ⟨⟨0, s5868, rfl, (Or.inl ⟨c5840, c5841, c5859, c5860, c5861, c5862, c5863, c5864, rfl, o_s5868⟩), by rw [ht]; exact hP9, va_K.moved hW.alike hK9, hD9⟩, hS.F ht⟩) hS.2.2 dX11_growth_113
            · skip
              refine lv_aload_n hx hb dX11_growth_60 rfl (lv_at hl 0 rfl) ?_
              refine lv_aload_n hx hb dX11_growth_61 rfl (lv_at hl 0 rfl) ?_
              refine va_get (D := (dC, dI)) (ci := 14) (v := .ref qP) (C := RX11) (T := TX11) (N := 18) hx hb hts (in_x_growth_X11) hown hK hP 0 rfl rfl 4 (by decide) (hts (.fieldLink RX11 41 "HeapWorks" "pictures" "[LHeapWorks$Picture;") (by decide +kernel)) (fun _ h9 => h9) (ow_at o_fsX 0 rfl) dX11_growth_62 ?_
              refine lv_iload_n hx hb dX11_growth_65 rfl (lv_at hl 1 rfl) ?_
              refine va_aldq hx hb hK hP 1 0 rfl rfl (by rw [vp_in_iff]; (try simp only [i_lt, i_le, i_eq, kc_0, kc_4] at c5840 c5841); omega) dX11_growth_66 ?_
              refine W.eq (g2 := F0 m 67 ls (.ref ap :: [.ref aX])) (by rw [hg]; rfl) ?_
              refine lv_aload_n hx hb dX11_growth_67 rfl (lv_at hl 0 rfl) ?_
              refine va_get (D := (dC, dI)) (ci := 14) (v := .ref qP) (C := RX11) (T := TX11) (N := 18) hx hb hts (in_x_growth_X11) hown hK hP 0 rfl rfl 4 (by decide) (hts (.fieldLink RX11 41 "HeapWorks" "pictures" "[LHeapWorks$Picture;") (by decide +kernel)) (fun _ h9 => h9) (ow_at o_fsX 0 rfl) dX11_growth_68 ?_
              refine lv_iload_n hx hb dX11_growth_71 rfl (lv_at hl 2 rfl) ?_
              refine va_aldq hx hb hK hP 1 0 rfl rfl (by rw [vp_in_iff]; (try simp only [i_lt, i_le, i_eq, kc_0, kc_4] at c5859 c5860); omega) dX11_growth_72 ?_
              refine W.eq (g2 := F0 m 73 ls (.ref aq :: [.ref ap, .ref aX])) (by rw [hg1]; rfl) ?_
              refine lv_aload_n hx hb dX11_growth_73 rfl (lv_at hl 0 rfl) ?_
              refine va_get (D := (dC, dI)) (ci := 14) (v := .ref qW) (C := RX11) (T := TX11) (N := 18) hx hb hts (in_x_growth_X11) hown hK hP 0 rfl rfl 14 (by decide) (hts (.fieldLink RX11 95 "HeapWorks" "grownThings" "[I") (by decide +kernel)) (fun _ h9 => h9) (ow_at o_fsX 2 rfl) dX11_growth_74 ?_
              have hPc := hP.sub (ws' := [(ap, .inr (8, fsp))]) [2] rfl
              have hDc := hD.sub (ws' := [(ap, .inr (8, fsp))]) [2] (by decide) rfl
              have hKc := hK.sub (tys' := []) [] rfl
              have hFc := va_free (wc := [(ap, .inr (8, fsp))]) hD hS hA [2] rfl
              refine va_calli (va_runV (As := [.ref aq, .ref qW]) (rest := [.ref aX]) ⟨hx, hb, hml, hown, hts⟩ (z_X5_listMissing l dC dI H.size ap fsp aq qW (fh_sub o_fsp.2 [0] rfl) ) (cwV 2 hts g_x_growth_z_X5_listMissing_450 rfl rfl rfl (by decide +kernel) ⟨Nat.le_of_ble_eq_true rfl, Nat.le_of_ble_eq_true rfl⟩) ⟨fun a U g mk q => by obtain ⟨q0, q1, qP, qK, qD⟩ := q; exact ⟨q0, q1, qP, va_K.moved (u := U) (U := U.calling g mk a) (Vm.Alike.refl U.vm) qK, qD⟩, va_recv hK hP (ci := 8) (q0 := 2) rfl rfl, fun U hU hW => ⟨rfl, by rw [hU], by rw [hU]; exact hPc, va_K.moved hW.alike hKc, hDc.weaken (fun _ _ _ _ => trivial)⟩⟩ rfl rfl hl.1 rfl (lv_room (Nat.le_of_ble_eq_true rfl)) dX11_growth_77 ⟨Nat.le_of_ble_eq_true rfl, Nat.le_of_ble_eq_true rfl⟩) hS (fun q _ h => hFc q h) hFc (fun r5870 u t H1 locs ht hvm hw hB hz1 hk1 hS => ?_)
              obtain ⟨hP1, hK1, hD1⟩ := hB
              rw [ht] at hP1
              try dsimp only at hw
              obtain ⟨hP, hD⟩ := va_join (wr := [(aX, .inr (14, fsX)), (qP, .inl (kP, 4, .inr (.inr (.inr (.inr gP))))), (aq, .inr (8, fsq))]) (w1 := [(ap, .inr (8, fsp))]) hP hD [2] [0, 1, 3] rfl rfl (by decide) (by decide) hk1 hFc hP1 hD1
              have hK := hK.sub (tys' := [(kP, .object "HeapWorks$Picture")]) [0] rfl
              generalize H1 = H at hP hS ⊢
              have hP : va_P (dC, dI) vwCl [(aX, .inr (14, fsX)), (qP, .inl (kP, 4, .inr (.inr (.inr (.inr gP))))), (aq, .inr (8, fsq)), (ap, .inr (8, fsp))] H := hP
              have hD : va_D A [(aX, .inr (14, fsX)), (qP, .inl (kP, 4, .inr (.inr (.inr (.inr gP))))), (aq, .inr (8, fsq)), (ap, .inr (8, fsp))] := hD
              have er5871 := hw
              subst er5871
              refine va_put (D := (dC, dI)) (ci := 14) (v := .int 0) (ty := .int) (C := RX11) (T := TX11) (N := 18) hx hb hts (in_x_growth_X11) tyX11 tyX11_ok nmX11 hown hK hP hD hS 0 rfl rfl 15 (by decide) (hts (.fieldLink RX11 454 "HeapWorks" "grownCount" "I") (by decide +kernel)) (fun _ h9 => h9) rfl (by decide +kernel) rfl rfl (by rw [o_fsX.2.1]; decide) dX11_growth_80 (fun H locs hP hD hS => ?_)
              have hP : va_P (dC, dI) vwCl [(aX, .inr (14, (fsX.set 15 (.int 0)))), (qP, .inl (kP, 4, .inr (.inr (.inr (.inr gP))))), (aq, .inr (8, fsq)), (ap, .inr (8, fsp))] H := hP
              have hD : va_D A [(aX, .inr (14, (fsX.set 15 (.int 0)))), (qP, .inl (kP, 4, .inr (.inr (.inr (.inr gP))))), (aq, .inr (8, fsq)), (ap, .inr (8, fsp))] := hD
              have o_s5872 := ow_set o_fsX 15 (.int 0) (by decide) (l' := [(15, .int 0), (4, .ref qP), (14, .ref qW)]) (w' := [15]) rfl rfl
              generalize (fsX.set 15 (.int 0)) = s5872 at hP hD o_s5872
              refine lv_goto (tgt := 109) hx hb dX11_growth_83 (by decide) ?_
              refine lv_aload_n hx hb dX11_growth_109 rfl (lv_at hl 0 rfl) ?_
              refine va_get (D := (dC, dI)) (ci := 14) (v := .int 0) (C := RX11) (T := TX11) (N := 18) hx hb hts (in_x_growth_X11) hown hK hP 0 rfl rfl 15 (by decide) (hts (.fieldLink RX11 454 "HeapWorks" "grownCount" "I") (by decide +kernel)) (fun _ h9 => h9) (ow_at o_s5872 0 rfl) dX11_growth_110 ?_
              have hP9 := hP.sub (ws' := [(aX, .inr (14, s5872)), (qP, .inl (kP, 4, .inr (.inr (.inr (.inr gP))))), (ap, .inr (8, fsp)), (aq, .inr (8, fsq))]) [0, 1, 3, 2] rfl
              have hD9 := hD.sub (ws' := [(aX, .inr (14, s5872)), (qP, .inl (kP, 4, .inr (.inr (.inr (.inr gP))))), (ap, .inr (8, fsp)), (aq, .inr (8, fsq))]) [0, 1, 3, 2] (by decide) rfl
              have hK9 := hK.sub (tys' := [(kP, .object "HeapWorks$Picture")]) [0] rfl
              refine vx_ret ?_
              refine W.widen (k := 3) (n := 18) (by decide) (by decide) ?_
              exact W.iret (v := 0) hx hb hr (fun t ht hW => ⟨⟨0, s5872, rfl, (Or.inr (Or.inl ⟨c5840, c5841, c5859, c5860, c5861, c5862, c5863, c5864, rfl, o_s5872⟩)), by rw [ht]; exact hP9, va_K.moved hW.alike hK9, hD9⟩, hS.F ht⟩) hS.2.2 dX11_growth_113
          · skip
            refine lv_aload_n hx hb dX11_growth_29 rfl (lv_at hl 0 rfl) ?_
            refine lv_aload_n hx hb dX11_growth_30 rfl (lv_at hl 0 rfl) ?_
            refine va_get (D := (dC, dI)) (ci := 14) (v := .ref qP) (C := RX11) (T := TX11) (N := 18) hx hb hts (in_x_growth_X11) hown hK hP 0 rfl rfl 4 (by decide) (hts (.fieldLink RX11 41 "HeapWorks" "pictures" "[LHeapWorks$Picture;") (by decide +kernel)) (fun _ h9 => h9) (ow_at o_fsX 0 rfl) dX11_growth_31 ?_
            refine lv_iload_n hx hb dX11_growth_34 rfl (lv_at hl 2 rfl) ?_
            refine va_aldq hx hb hK hP 1 0 rfl rfl (by rw [vp_in_iff]; (try simp only [i_lt, i_le, i_eq, kc_0, kc_4] at c5859 c5860); omega) dX11_growth_35 ?_
            refine W.eq (g2 := F0 m 36 ls (.ref aq :: [.ref aX])) (by rw [hg1]; rfl) ?_
            refine lv_aload_n hx hb dX11_growth_36 rfl (lv_at hl 0 rfl) ?_
            refine va_get (D := (dC, dI)) (ci := 14) (v := .ref qP) (C := RX11) (T := TX11) (N := 18) hx hb hts (in_x_growth_X11) hown hK hP 0 rfl rfl 4 (by decide) (hts (.fieldLink RX11 41 "HeapWorks" "pictures" "[LHeapWorks$Picture;") (by decide +kernel)) (fun _ h9 => h9) (ow_at o_fsX 0 rfl) dX11_growth_37 ?_
            refine lv_iload_n hx hb dX11_growth_40 rfl (lv_at hl 1 rfl) ?_
            refine va_aldq hx hb hK hP 1 0 rfl rfl (by rw [vp_in_iff]; (try simp only [i_lt, i_le, i_eq, kc_0, kc_4] at c5840 c5841); omega) dX11_growth_41 ?_
            refine W.eq (g2 := F0 m 42 ls (.ref ap :: [.ref aq, .ref aX])) (by rw [hg]; rfl) ?_
            refine lv_aload_n hx hb dX11_growth_42 rfl (lv_at hl 0 rfl) ?_
            refine va_get (D := (dC, dI)) (ci := 14) (v := .ref qW) (C := RX11) (T := TX11) (N := 18) hx hb hts (in_x_growth_X11) hown hK hP 0 rfl rfl 14 (by decide) (hts (.fieldLink RX11 95 "HeapWorks" "grownThings" "[I") (by decide +kernel)) (fun _ h9 => h9) (ow_at o_fsX 2 rfl) dX11_growth_43 ?_
            have hPc := hP.sub (ws' := [(aq, .inr (8, fsq))]) [3] rfl
            have hDc := hD.sub (ws' := [(aq, .inr (8, fsq))]) [3] (by decide) rfl
            have hKc := hK.sub (tys' := []) [] rfl
            have hFc := va_free (wc := [(aq, .inr (8, fsq))]) hD hS hA [3] rfl
            refine va_calli (va_runV (As := [.ref ap, .ref qW]) (rest := [.ref aX]) ⟨hx, hb, hml, hown, hts⟩ (z_X5_listMissing l dC dI H.size aq fsq ap qW (fh_sub o_fsq.2 [0] rfl) ) (cwV 2 hts g_x_growth_z_X5_listMissing_450 rfl rfl rfl (by decide +kernel) ⟨Nat.le_of_ble_eq_true rfl, Nat.le_of_ble_eq_true rfl⟩) ⟨fun a U g mk q => by obtain ⟨q0, q1, qP, qK, qD⟩ := q; exact ⟨q0, q1, qP, va_K.moved (u := U) (U := U.calling g mk a) (Vm.Alike.refl U.vm) qK, qD⟩, va_recv hK hP (ci := 8) (q0 := 3) rfl rfl, fun U hU hW => ⟨rfl, by rw [hU], by rw [hU]; exact hPc, va_K.moved hW.alike hKc, hDc.weaken (fun _ _ _ _ => trivial)⟩⟩ rfl rfl hl.1 rfl (lv_room (Nat.le_of_ble_eq_true rfl)) dX11_growth_46 ⟨Nat.le_of_ble_eq_true rfl, Nat.le_of_ble_eq_true rfl⟩) hS (fun q _ h => hFc q h) hFc (fun r5874 u t H1 locs ht hvm hw hB hz1 hk1 hS => ?_)
            obtain ⟨hP1, hK1, hD1⟩ := hB
            rw [ht] at hP1
            try dsimp only at hw
            obtain ⟨hP, hD⟩ := va_join (wr := [(aX, .inr (14, fsX)), (qP, .inl (kP, 4, .inr (.inr (.inr (.inr gP))))), (ap, .inr (8, fsp))]) (w1 := [(aq, .inr (8, fsq))]) hP hD [3] [0, 1, 2] rfl rfl (by decide) (by decide) hk1 hFc hP1 hD1
            have hK := hK.sub (tys' := [(kP, .object "HeapWorks$Picture")]) [0] rfl
            generalize H1 = H at hP hS ⊢
            have hP : va_P (dC, dI) vwCl [(aX, .inr (14, fsX)), (qP, .inl (kP, 4, .inr (.inr (.inr (.inr gP))))), (ap, .inr (8, fsp)), (aq, .inr (8, fsq))] H := hP
            have hD : va_D A [(aX, .inr (14, fsX)), (qP, .inl (kP, 4, .inr (.inr (.inr (.inr gP))))), (ap, .inr (8, fsp)), (aq, .inr (8, fsq))] := hD
            have er5875 := hw
            subst er5875
            refine va_put (D := (dC, dI)) (ci := 14) (v := .int 0) (ty := .int) (C := RX11) (T := TX11) (N := 18) hx hb hts (in_x_growth_X11) tyX11 tyX11_ok nmX11 hown hK hP hD hS 0 rfl rfl 15 (by decide) (hts (.fieldLink RX11 454 "HeapWorks" "grownCount" "I") (by decide +kernel)) (fun _ h9 => h9) rfl (by decide +kernel) rfl rfl (by rw [o_fsX.2.1]; decide) dX11_growth_49 (fun H locs hP hD hS => ?_)
            have hP : va_P (dC, dI) vwCl [(aX, .inr (14, (fsX.set 15 (.int 0)))), (qP, .inl (kP, 4, .inr (.inr (.inr (.inr gP))))), (ap, .inr (8, fsp)), (aq, .inr (8, fsq))] H := hP
            have hD : va_D A [(aX, .inr (14, (fsX.set 15 (.int 0)))), (qP, .inl (kP, 4, .inr (.inr (.inr (.inr gP))))), (ap, .inr (8, fsp)), (aq, .inr (8, fsq))] := hD
            have o_s5876 := ow_set o_fsX 15 (.int 0) (by decide) (l' := [(15, .int 0), (4, .ref qP), (14, .ref qW)]) (w' := [15]) rfl rfl
            generalize (fsX.set 15 (.int 0)) = s5876 at hP hD o_s5876
            refine lv_goto (tgt := 109) hx hb dX11_growth_52 (by decide) ?_
            refine lv_aload_n hx hb dX11_growth_109 rfl (lv_at hl 0 rfl) ?_
            refine va_get (D := (dC, dI)) (ci := 14) (v := .int 0) (C := RX11) (T := TX11) (N := 18) hx hb hts (in_x_growth_X11) hown hK hP 0 rfl rfl 15 (by decide) (hts (.fieldLink RX11 454 "HeapWorks" "grownCount" "I") (by decide +kernel)) (fun _ h9 => h9) (ow_at o_s5876 0 rfl) dX11_growth_110 ?_
            have hP9 := hP.sub (ws' := [(aX, .inr (14, s5876)), (qP, .inl (kP, 4, .inr (.inr (.inr (.inr gP))))), (ap, .inr (8, fsp)), (aq, .inr (8, fsq))]) [0, 1, 2, 3] rfl
            have hD9 := hD.sub (ws' := [(aX, .inr (14, s5876)), (qP, .inl (kP, 4, .inr (.inr (.inr (.inr gP))))), (ap, .inr (8, fsp)), (aq, .inr (8, fsq))]) [0, 1, 2, 3] (by decide) rfl
            have hK9 := hK.sub (tys' := [(kP, .object "HeapWorks$Picture")]) [0] rfl
            refine vx_ret ?_
            refine W.widen (k := 3) (n := 18) (by decide) (by decide) ?_
            exact W.iret (v := 0) hx hb hr (fun t ht hW => ⟨⟨0, s5876, rfl, (Or.inr (Or.inr (⟨c5840, c5841, c5859, c5860, c5861, c5862, c5863, rfl, o_s5876⟩))), by rw [ht]; exact hP9, va_K.moved hW.alike hK9, hD9⟩, hS.F ht⟩) hS.2.2 dX11_growth_113
        · skip
          exact vx_throw0 (names := ["java/lang/RuntimeException", "java/lang/Exception"]) hx hb hst hown (by decide +kernel) (by decide +kernel) (hts (.classLink RX11 120 "java/lang/IndexOutOfBoundsException") (by decide +kernel)) (hts (.initialized "java/lang/IndexOutOfBoundsException") (by decide +kernel)) (vx_hat (B := xB "java/lang/IndexOutOfBoundsException") (fun w h => hts w (in_x_growth_at0_X11_122 w h)) (by decide +kernel) (Zz_xB hZ (by decide))) (by decide +kernel) hZ.1 hZ.2.1 hS (hl.1.trans hml.symm) dX11_growth_17 dX11_growth_20 dX11_growth_21 dX11_growth_24 (fun x h => (htab x h).elim) (by decide) (Nat.le_of_ble_eq_true rfl) (Nat.le_of_ble_eq_true rfl) (Nat.le_of_ble_eq_true rfl) hlocks (fun t _ h1 h2 => ⟨(), trivial, (Or.inr (Or.inr (Or.inr (Or.inr (Or.inr (⟨rfl, c5840, c5841, c5859, c5860, c5861, c5862⟩)))))), xx_F hS h1 h2⟩) hS.2.2 (by decide) (by decide)

def l_z_X5_listChanged_1 : List Cond := [.fieldLink RX5 82 "HeapWorks$Picture" "things" "I"]
def w_z_X5_listChanged_1 : List Cond := .code yX5_listChanged cX5_listChanged 6 (some .int) :: (l_z_X5_listChanged_1 ++ (wsX50))
theorem in_z_X5_listChanged_1_X5 : ∀ w ∈ wsX50, w ∈ w_z_X5_listChanged_1 := fun w h => List.mem_cons_of_mem _ (List.mem_append_right _ (h))
set_option maxHeartbeats 4000000 in
set_option maxRecDepth 100000 in
theorem z_X5_listChanged_1 (l : Launch) (dC : Nat → ClassId) (dI : Nat → Nat → Nat) (sz : Nat) (Ad0 : Nat) (Fs0 : List Value) (Br0 : Nat) (k_Fs0 : fh Fs0 21 [(0, .int 0)])  : Met l yX5_listChanged w_z_X5_listChanged_1 ({ frames := 0, cells := 0, slots := 0, locals := 0 }) (va_Pc [.ref Ad0, .ref Ad0, .ref Br0] (fun U => U.heap.size = sz ∧ Wd dC dI [] (fun _ => True) [(Ad0, .inr (8, Fs0))] U)) (va_Qi (fun (r : Int32) (u : Unit) => r = 0) (fun (u : Unit) t => Wd dC dI [] (va_A [(Ad0, .inr (8, Fs0))] sz) [(Ad0, .inr (8, Fs0))] t) (va_A [(Ad0, .inr (8, Fs0))] sz))  0 0 (va_A [(Ad0, .inr (8, Fs0))] sz) := by
  refine Met.ofW (cc := cX5_listChanged) (maxL := 6) (ret := (some .int)) (by decide) rfl ?_
  intro p e s m args below meth c s₁ B hml hv
  obtain ⟨rfl, hsz, hP, hK, hD0⟩ := hv
  have hx := B.exec
  have hb := B.bytes
  have hr := B.returns
  have hts := atoms_spec (ws := w_z_X5_listChanged_1) B.pre
  have hown : s.vm.findClass RX5 = some m.cls := findClass_of_methodNamed B.named
  have hlocks := B.notSynchronized
  subst hsz
  have hD := hD0.self (sz := s.heap.size)
  generalize hAe : va_A [(Ad0, .inr (8, Fs0))] s.heap.size = A at hD ⊢
  have hA : ∀ q : Nat, s.heap.size ≤ q → A q := fun q h => by rw [← hAe]; exact Or.inr h
  have hS : va_S A s.heap s.heap [] := va_S.rf
  have hl := lv_entry ([.ref Ad0, .ref Ad0, .ref Br0]) (n := 6) (Nat.le_of_ble_eq_true rfl)
  rw [lg_entry_eq]
  generalize (lg_sl ([.ref Ad0, .ref Ad0, .ref Br0]) ++ List.replicate (6 - (lg_sl ([.ref Ad0, .ref Ad0, .ref Br0])).length) Slot.unset).toArray = ls at hl ⊢
  have hl : lv_has ls 6 [(0, .ref Ad0), (1, .ref Ad0), (2, .ref Br0)] := hl
  have o_Fs0 := ow_0 k_Fs0
  refine lv_iconst (v := 0) hx hb dX5_listChanged_0 (by decide) ?_
  refine lv_istore_n (lv' := [(3, .int 0), (0, .ref Ad0), (1, .ref Ad0), (2, .ref Br0)]) hx hb dX5_listChanged_1 rfl hl (by decide) rfl (fun ls hl => ?_)
  refine lv_iconst (v := 0) hx hb dX5_listChanged_2 (by decide) ?_
  refine lv_istore (lv' := [(4, .int 0), (3, .int 0), (0, .ref Ad0), (1, .ref Ad0), (2, .ref Br0)]) hx hb dX5_listChanged_3 hl (by decide) rfl (fun ls hl => ?_)
  refine lv_iload hx hb dX5_listChanged_5 (lv_at hl 0 rfl) ?_
  refine lv_aload_n hx hb dX5_listChanged_7 rfl (lv_at hl 2 rfl) ?_
  refine va_get (D := (dC, dI)) (ci := 8) (v := .int 0) (C := RX5) (T := TX5) (N := 21) hx hb hts (in_z_X5_listChanged_1_X5) hown hK hP 0 rfl rfl 0 (by decide) (hts (.fieldLink RX5 82 "HeapWorks$Picture" "things" "I") (by decide +kernel)) (fun _ h9 => h9) (ow_at o_Fs0 0 rfl) dX5_listChanged_8 ?_
  refine lv_icmp_ge (tgt := 60) hx hb dX5_listChanged_11 (by decide) (fun c5920 => ?_) (fun c5920 => absurd c5920 (by decide))
  refine lv_iload_n hx hb dX5_listChanged_60 rfl (lv_at hl 1 rfl) ?_
  have hP9 := hP.sub (ws' := [(Ad0, .inr (8, Fs0))]) [0] rfl
  have hD9 := hD.sub (ws' := [(Ad0, .inr (8, Fs0))]) [0] (by decide) rfl
  have hK9 := hK.sub (tys' := []) [] rfl
  exact W.iret (v := 0) hx hb hr (fun t ht hW => ⟨⟨0, (), rfl, rfl, by rw [ht]; exact hP9, va_K.moved hW.alike hK9, hD9⟩, hS.F ht⟩) hS.2.2 dX5_listChanged_61

def l_z_X5_listMissing_1 : List Cond := [.fieldLink RX5 82 "HeapWorks$Picture" "things" "I"]
def w_z_X5_listMissing_1 : List Cond := .code yX5_listMissing cX5_listMissing 5 (some .int) :: (l_z_X5_listMissing_1 ++ (wsX50))
theorem in_z_X5_listMissing_1_X5 : ∀ w ∈ wsX50, w ∈ w_z_X5_listMissing_1 := fun w h => List.mem_cons_of_mem _ (List.mem_append_right _ (h))
set_option maxHeartbeats 4000000 in
set_option maxRecDepth 100000 in
theorem z_X5_listMissing_1 (l : Launch) (dC : Nat → ClassId) (dI : Nat → Nat → Nat) (sz : Nat) (Ad0 : Nat) (Fs0 : List Value) (Br0 : Nat) (k_Fs0 : fh Fs0 21 [(0, .int 0)])  : Met l yX5_listMissing w_z_X5_listMissing_1 ({ frames := 0, cells := 0, slots := 0, locals := 0 }) (va_Pc [.ref Ad0, .ref Ad0, .ref Br0] (fun U => U.heap.size = sz ∧ Wd dC dI [] (fun _ => True) [(Ad0, .inr (8, Fs0))] U)) (va_Qi (fun (r : Int32) (u : Unit) => r = 0) (fun (u : Unit) t => Wd dC dI [] (va_A [(Ad0, .inr (8, Fs0))] sz) [(Ad0, .inr (8, Fs0))] t) (va_A [(Ad0, .inr (8, Fs0))] sz))  0 0 (va_A [(Ad0, .inr (8, Fs0))] sz) := by
  refine Met.ofW (cc := cX5_listMissing) (maxL := 5) (ret := (some .int)) (by decide) rfl ?_
  intro p e s m args below meth c s₁ B hml hv
  obtain ⟨rfl, hsz, hP, hK, hD0⟩ := hv
  have hx := B.exec
  have hb := B.bytes
  have hr := B.returns
  have hts := atoms_spec (ws := w_z_X5_listMissing_1) B.pre
  have hown : s.vm.findClass RX5 = some m.cls := findClass_of_methodNamed B.named
  have hlocks := B.notSynchronized
  subst hsz
  have hD := hD0.self (sz := s.heap.size)
  generalize hAe : va_A [(Ad0, .inr (8, Fs0))] s.heap.size = A at hD ⊢
  have hA : ∀ q : Nat, s.heap.size ≤ q → A q := fun q h => by rw [← hAe]; exact Or.inr h
  have hS : va_S A s.heap s.heap [] := va_S.rf
  have hl := lv_entry ([.ref Ad0, .ref Ad0, .ref Br0]) (n := 5) (Nat.le_of_ble_eq_true rfl)
  rw [lg_entry_eq]
  generalize (lg_sl ([.ref Ad0, .ref Ad0, .ref Br0]) ++ List.replicate (5 - (lg_sl ([.ref Ad0, .ref Ad0, .ref Br0])).length) Slot.unset).toArray = ls at hl ⊢
  have hl : lv_has ls 5 [(0, .ref Ad0), (1, .ref Ad0), (2, .ref Br0)] := hl
  have o_Fs0 := ow_0 k_Fs0
  refine lv_iconst (v := 0) hx hb dX5_listMissing_0 (by decide) ?_
  refine lv_istore_n (lv' := [(3, .int 0), (0, .ref Ad0), (1, .ref Ad0), (2, .ref Br0)]) hx hb dX5_listMissing_1 rfl hl (by decide) rfl (fun ls hl => ?_)
  refine lv_iconst (v := 0) hx hb dX5_listMissing_2 (by decide) ?_
  refine lv_istore (lv' := [(4, .int 0), (3, .int 0), (0, .ref Ad0), (1, .ref Ad0), (2, .ref Br0)]) hx hb dX5_listMissing_3 hl (by decide) rfl (fun ls hl => ?_)
  refine lv_iload hx hb dX5_listMissing_5 (lv_at hl 0 rfl) ?_
  refine lv_aload_n hx hb dX5_listMissing_7 rfl (lv_at hl 2 rfl) ?_
  refine va_get (D := (dC, dI)) (ci := 8) (v := .int 0) (C := RX5) (T := TX5) (N := 21) hx hb hts (in_z_X5_listMissing_1_X5) hown hK hP 0 rfl rfl 0 (by decide) (hts (.fieldLink RX5 82 "HeapWorks$Picture" "things" "I") (by decide +kernel)) (fun _ h9 => h9) (ow_at o_Fs0 0 rfl) dX5_listMissing_8 ?_
  refine lv_icmp_ge (tgt := 44) hx hb dX5_listMissing_11 (by decide) (fun c5925 => ?_) (fun c5925 => absurd c5925 (by decide))
  refine lv_iload_n hx hb dX5_listMissing_44 rfl (lv_at hl 1 rfl) ?_
  have hP9 := hP.sub (ws' := [(Ad0, .inr (8, Fs0))]) [0] rfl
  have hD9 := hD.sub (ws' := [(Ad0, .inr (8, Fs0))]) [0] (by decide) rfl
  have hK9 := hK.sub (tys' := []) [] rfl
  exact W.iret (v := 0) hx hb hr (fun t ht hW => ⟨⟨0, (), rfl, rfl, by rw [ht]; exact hP9, va_K.moved hW.alike hK9, hD9⟩, hS.F ht⟩) hS.2.2 dX5_listMissing_45
