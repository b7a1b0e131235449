def l_z_X11_make : List Cond := [.fieldLink RX11 19 "HeapWorks" "types" "LHeapWorks$Types;", .methodLink RX11 144 yX10_isType, .instanceMethod yX10_isType, .selects RX10 yX10_isType yX10_isType, .initialized RX10, .classLink RX11 127 "java/lang/IllegalArgumentException", .initialized "java/lang/IllegalArgumentException", .methodLink RX11 206 yX10_isArray, .static yX10_isArray, .fieldLink RX11 28 "HeapWorks" "heap" "LHeapWorks$Heap;", .methodLink RX11 209 yX10_slotsOf, .instanceMethod yX10_slotsOf, .selects RX10 yX10_slotsOf yX10_slotsOf, .methodLink RX11 212 yX2_hasRoom, .instanceMethod yX2_hasRoom, .selects RX2 yX2_hasRoom yX2_hasRoom, .initialized RX2, .methodLink RX11 215 yX2_create, .instanceMethod yX2_create, .selects RX2 yX2_create yX2_create, .code yX10_isType cX10_isType 2 (some .boolean), .methodLink RX10 69 yX10_isClass, .instanceMethod yX10_isClass, .selects RX10 yX10_isClass yX10_isClass, .code yX10_isClass cX10_isClass 2 (some .boolean), .fieldLink RX10 65 "HeapWorks$Types" "count" "I", .code yX10_isArray cX10_isArray 1 (some .boolean), .code yX10_slotsOf cX10_slotsOf 3 (some .int), .methodLink RX10 86 yX10_isArray, .code yX2_hasRoom cX2_hasRoom 3 (some .boolean), .fieldLink RX2 47 "HeapWorks$Heap" "made" "I", .fieldLink RX2 62 "HeapWorks$Heap" "slots" "I", .code yX2_create cX2_create 7 (some .int), .fieldLink RX2 75 "HeapWorks$Heap" "there" "I", .fieldLink RX2 15 "HeapWorks$Heap" "type" "[I", .fieldLink RX2 19 "HeapWorks$Heap" "length" "[I", .fieldLink RX2 22 "HeapWorks$Heap" "first" "[I", .fieldLink RX2 9 "HeapWorks$Heap" "types" "LHeapWorks$Types;", .methodLink RX2 78 yX10_use, .instanceMethod yX10_use, .selects RX10 yX10_use yX10_use, .methodLink RX2 51 yX10_slotsOf, .methodLink RX2 82 yX10_kindAt, .instanceMethod yX10_kindAt, .selects RX10 yX10_kindAt yX10_kindAt, .fieldLink RX2 29 "HeapWorks$Heap" "link" "[Z", .fieldLink RX2 25 "HeapWorks$Heap" "value" "[J", .methodLink RX2 85 yX10_firstValue, .static yX10_firstValue, .code yX10_use cX10_use 2 none, .code yX10_kindAt cX10_kindAt 3 (some .int), .code yX10_firstValue cX10_firstValue 1 (some .long), .constantLong RX10 96 (-1)]
def w_z_X11_make : List Cond := .code yX11_make cX11_make 4 (some .int) :: (l_z_X11_make ++ ((wsX110 ++ (((vx_at0 RX11 129 "java/lang/IllegalArgumentException" ["java/lang/RuntimeException", "java/lang/Exception"]).filter goodWord) ++ (wsX100 ++ wsX20)))))
theorem in_z_X11_make_X11 : ∀ w ∈ wsX110, w ∈ w_z_X11_make := fun w h => List.mem_cons_of_mem _ (List.mem_append_right _ (List.mem_append_left _ h))
theorem in_z_X11_make_at0_X11_129 : ∀ w ∈ ((vx_at0 RX11 129 "java/lang/IllegalArgumentException" ["java/lang/RuntimeException", "java/lang/Exception"]).filter goodWord), w ∈ w_z_X11_make := fun w h => List.mem_cons_of_mem _ (List.mem_append_right _ (List.mem_append_right _ (List.mem_append_left _ h)))
theorem in_z_X11_make_X10 : ∀ w ∈ wsX100, w ∈ w_z_X11_make := fun w h => List.mem_cons_of_mem _ (List.mem_append_right _ (List.mem_append_right _ (List.mem_append_right _ (List.mem_append_left _ h))))
theorem in_z_X11_make_X2 : ∀ w ∈ wsX20, w ∈ w_z_X11_make := fun w h => List.mem_cons_of_mem _ (List.mem_append_right _ (List.mem_append_right _ (List.mem_append_right _ (List.mem_append_right _ (h)))))
theorem g_z_X11_make_z_X10_isType_144 : GoodIn w_z_X11_make (wsV RX11 144 RX10 yX10_isType w_z_X10_isType) := goodIn_app (goodIn_r (([.methodLink RX11 144 yX10_isType, .instanceMethod yX10_isType, .selects RX10 yX10_isType yX10_isType, .initialized RX10] : List Cond)) [2, 3, 4, 5] rfl (by decide +kernel)) (goodIn_ca (goodIn_r (.code yX10_isType cX10_isType 2 (some .boolean) :: l_z_X10_isType) [21, 22, 23, 24, 5, 25, 26] rfl (by decide +kernel)) (goodIn_in (in_z_X11_make_X10) gd_X10))
theorem g_z_X11_make_z_X10_isArray_206 : GoodIn w_z_X11_make (va_wsS RX11 206 yX10_isArray w_z_X10_isArray) := goodIn_app (goodIn_r (([.methodLink RX11 206 yX10_isArray, .static yX10_isArray, .initialized RX10] : List Cond)) [8, 9, 5] rfl (by decide +kernel)) (goodIn_r (.code yX10_isArray cX10_isArray 1 (some .boolean) :: l_z_X10_isArray) [27] rfl (by decide +kernel))
theorem g_z_X11_make_z_X10_slotsOf_209 : GoodIn w_z_X11_make (wsV RX11 209 RX10 yX10_slotsOf w_z_X10_slotsOf) := goodIn_app (goodIn_r (([.methodLink RX11 209 yX10_slotsOf, .instanceMethod yX10_slotsOf, .selects RX10 yX10_slotsOf yX10_slotsOf, .initialized RX10] : List Cond)) [11, 12, 13, 5] rfl (by decide +kernel)) (goodIn_r (.code yX10_slotsOf cX10_slotsOf 3 (some .int) :: l_z_X10_slotsOf) [28, 29, 9, 5, 27] rfl (by decide +kernel))
theorem g_z_X11_make_z_X2_hasRoom_212 : GoodIn w_z_X11_make (wsV RX11 212 RX2 yX2_hasRoom w_z_X2_hasRoom) := goodIn_app (goodIn_r (([.methodLink RX11 212 yX2_hasRoom, .instanceMethod yX2_hasRoom, .selects RX2 yX2_hasRoom yX2_hasRoom, .initialized RX2] : List Cond)) [14, 15, 16, 17] rfl (by decide +kernel)) (goodIn_ca (goodIn_r (.code yX2_hasRoom cX2_hasRoom 3 (some .boolean) :: l_z_X2_hasRoom) [30, 31, 32] rfl (by decide +kernel)) (goodIn_in (in_z_X11_make_X2) gd_X2))
theorem g_z_X11_make_z_X2_create_215 : GoodIn w_z_X11_make (wsV RX11 215 RX2 yX2_create w_z_X2_create) := goodIn_app (goodIn_r (([.methodLink RX11 215 yX2_create, .instanceMethod yX2_create, .selects RX2 yX2_create yX2_create, .initialized RX2] : List Cond)) [18, 19, 20, 17] rfl (by decide +kernel)) (goodIn_ca (goodIn_r (.code yX2_create cX2_create 7 (some .int) :: l_z_X2_create) [33, 31, 34, 35, 36, 37, 32, 38, 39, 40, 41, 5, 42, 12, 13, 43, 44, 45, 46, 47, 48, 49, 50, 22, 23, 24, 25, 26, 28, 29, 9, 27, 51, 52, 53] rfl (by decide +kernel)) (goodIn_app (goodIn_in (in_z_X11_make_X2) gd_X2) (goodIn_in (in_z_X11_make_X10) gd_X10)))
theorem g_z_X11_make_z_X10_slotsOf_1_209 : GoodIn w_z_X11_make (wsV RX11 209 RX10 yX10_slotsOf w_z_X10_slotsOf_1) := goodIn_app (goodIn_r (([.methodLink RX11 209 yX10_slotsOf, .instanceMethod yX10_slotsOf, .selects RX10 yX10_slotsOf yX10_slotsOf, .initialized RX10] : List Cond)) [11, 12, 13, 5] rfl (by decide +kernel)) (goodIn_r (.code yX10_slotsOf cX10_slotsOf 3 (some .int) :: l_z_X10_slotsOf_1) [28, 29, 9, 5, 27] rfl (by decide +kernel))
theorem g_z_X11_make_z_X2_create_1_215 : GoodIn w_z_X11_make (wsV RX11 215 RX2 yX2_create w_z_X2_create_1) := goodIn_app (goodIn_r (([.methodLink RX11 215 yX2_create, .instanceMethod yX2_create, .selects RX2 yX2_create yX2_create, .initialized RX2] : List Cond)) [18, 19, 20, 17] rfl (by decide +kernel)) (goodIn_ca (goodIn_r (.code yX2_create cX2_create 7 (some .int) :: l_z_X2_create_1) [33, 31, 34, 35, 36, 37, 32, 38, 39, 40, 41, 5, 42, 12, 13, 43, 44, 45, 46, 47, 48, 49, 50, 22, 23, 24, 25, 26, 28, 29, 9, 27, 51, 52, 53] rfl (by decide +kernel)) (goodIn_app (goodIn_in (in_z_X11_make_X2) gd_X2) (goodIn_in (in_z_X11_make_X10) gd_X10)))
set_option maxHeartbeats 4000000 in
set_option maxRecDepth 100000 in
theorem z_X11_make (l : Launch) (dC : Nat → ClassId) (dI : Nat → Nat → Nat) (sz : Nat) (Ad0 : Nat) (Fs0 : List Value) (Ad1 : Nat) (Fs1 : List Value) (Ad2 : Nat) (Fs2 : List Value) (Ad3 : Nat) (Fa0 : Nat → Int32) (Ka0 : ClassId) (Ad4 : Nat) (Fa1 : Nat → Int32) (Ka1 : ClassId) (Ad5 : Nat) (Fa2 : Nat → Int32) (Ka2 : ClassId) (Ad6 : Nat) (Fa3 : Nat → Int64) (Ka3 : ClassId) (Ad7 : Nat) (Fa4 : Nat → Int32) (Ka4 : ClassId) (Va0 : Int32) (Va1 : Int32) (k_Fs0 : fh Fs0 18 [(1, .ref Ad1), (2, .ref Ad2)]) (k_Fs1 : fh Fs1 18 [(0, .int 0)]) (k_Fs2 : fh Fs2 14 [(0, .ref Ad1), (1, .int 0), (2, .int 0), (3, .int 0), (4, .ref Ad3), (5, .ref Ad4), (6, .ref Ad5), (7, .ref Ad6), (8, .ref Ad7)]) (hst : l.stackTraces = false)  : vx_Met l yX11_make w_z_X11_make ({ frames := 7, cells := 1, slots := 6, locals := 140 }) (va_Pc [.ref Ad0, .int Va0, .int Va1] (fun U => U.heap.size = sz ∧ Zz (va_A [(Ad0, .inr (14, Fs0)), (Ad1, .inr (13, Fs1)), (Ad2, .inr (5, Fs2)), (Ad3, .inl (Ka0, 400, .inl Fa0)), (Ad4, .inl (Ka1, 400, .inl Fa1)), (Ad5, .inl (Ka2, 400, .inl Fa2)), (Ad6, .inl (Ka3, 4000, .inr (.inl Fa3))), (Ad7, .inl (Ka4, 4000, .inl Fa4))] sz) U ∧ Wd dC dI [(Ka0, .int), (Ka1, .int), (Ka2, .int), (Ka3, .long), (Ka4, .boolean)] (fun _ => True) [(Ad0, .inr (14, Fs0)), (Ad1, .inr (13, Fs1)), (Ad2, .inr (5, Fs2)), (Ad3, .inl (Ka0, 400, .inl Fa0)), (Ad4, .inl (Ka1, 400, .inl Fa1)), (Ad5, .inl (Ka2, 400, .inl Fa2)), (Ad6, .inl (Ka3, 4000, .inr (.inl Fa3))), (Ad7, .inl (Ka4, 4000, .inl Fa4))] U)) (va_Qi (fun (r : Int32) (u : List Value × (Nat → Int32) × (Nat → Int32) × (Nat → Int32) × (Nat → Int64) × (Nat → Int32)) => (¬ Va0 < 0 ∧ 0 ≤ Va0 ∧ ¬ Va0 < 20 ∧ Va0 ≤ 24 ∧ ¬ Va0 < 20 ∧ ¬ Va1 < 0 ∧ Va1 ≤ 60 ∧ ¬ Va0 < 20 ∧ ¬ Va0 < 20 ∧ ¬ 4000 < Va1 ∧ ¬ Va0 < 0 ∧ 0 ≤ Va0 ∧ ¬ Va0 < 20 ∧ r = 0 ∧ ow Fs2 (u.1) 14 [1, 2, 3] [(0, .ref Ad1), (4, .ref Ad3), (5, .ref Ad4), (6, .ref Ad5), (7, .ref Ad6), (8, .ref Ad7), (0, .ref Ad1), (4, .ref Ad3), (5, .ref Ad4), (6, .ref Ad5), (7, .ref Ad6), (8, .ref Ad7)] ∧ (u.2.1) (0 : Int32).toNatClampNeg = Va0 ∧ (u.2.2.1) (0 : Int32).toNatClampNeg = Va1 ∧ (u.2.2.2.1) (0 : Int32).toNatClampNeg = 0) ∨ (¬ Va0 < 0 ∧ 0 ≤ Va0 ∧ ¬ Va0 < 20 ∧ ¬ Va0 ≤ 24 ∧ Va0 = 29 ∧ ¬ Va0 < 20 ∧ ¬ Va1 < 0 ∧ Va1 ≤ 60 ∧ ¬ Va0 < 20 ∧ ¬ Va0 < 20 ∧ ¬ 4000 < Va1 ∧ ¬ Va0 < 0 ∧ 0 ≤ Va0 ∧ ¬ Va0 < 20 ∧ r = 0 ∧ ow Fs2 (u.1) 14 [1, 2, 3] [(0, .ref Ad1), (4, .ref Ad3), (5, .ref Ad4), (6, .ref Ad5), (7, .ref Ad6), (8, .ref Ad7), (0, .ref Ad1), (4, .ref Ad3), (5, .ref Ad4), (6, .ref Ad5), (7, .ref Ad6), (8, .ref Ad7)] ∧ (u.2.1) (0 : Int32).toNatClampNeg = Va0 ∧ (u.2.2.1) (0 : Int32).toNatClampNeg = Va1 ∧ (u.2.2.2.1) (0 : Int32).toNatClampNeg = 0)) (fun (u : List Value × (Nat → Int32) × (Nat → Int32) × (Nat → Int32) × (Nat → Int64) × (Nat → Int32)) t => Wd dC dI [(Ka0, .int), (Ka1, .int), (Ka2, .int), (Ka3, .long), (Ka4, .boolean)] (va_A [(Ad0, .inr (14, Fs0)), (Ad1, .inr (13, Fs1)), (Ad2, .inr (5, Fs2)), (Ad3, .inl (Ka0, 400, .inl Fa0)), (Ad4, .inl (Ka1, 400, .inl Fa1)), (Ad5, .inl (Ka2, 400, .inl Fa2)), (Ad6, .inl (Ka3, 4000, .inr (.inl Fa3))), (Ad7, .inl (Ka4, 4000, .inl Fa4))] sz) [(Ad0, .inr (14, Fs0)), (Ad1, .inr (13, Fs1)), (Ad2, .inr (5, (u.1))), (Ad3, .inl (Ka0, 400, .inl ((u.2.1)))), (Ad4, .inl (Ka1, 400, .inl ((u.2.2.1)))), (Ad5, .inl (Ka2, 400, .inl ((u.2.2.2.1)))), (Ad6, .inl (Ka3, 4000, .inr (.inl ((u.2.2.2.2.1))))), (Ad7, .inl (Ka4, 4000, .inl ((u.2.2.2.2.2))))] t) (va_A [(Ad0, .inr (14, Fs0)), (Ad1, .inr (13, Fs1)), (Ad2, .inr (5, Fs2)), (Ad3, .inl (Ka0, 400, .inl Fa0)), (Ad4, .inl (Ka1, 400, .inl Fa1)), (Ad5, .inl (Ka2, 400, .inl Fa2)), (Ad6, .inl (Ka3, 4000, .inr (.inl Fa3))), (Ad7, .inl (Ka4, 4000, .inl Fa4))] sz)) (vx_X (fun _ : Unit => True) (fun E _ _ => (E = "java/lang/IllegalArgumentException" ∧ Va0 < 0 ∧ Va0 < 20 ∧ ¬ Va0 = 29 ∧ Va0 < 30) ∨ (E = "java/lang/IllegalArgumentException" ∧ ¬ Va0 < 0 ∧ 0 ≤ Va0 ∧ Va0 < 20 ∧ ¬ Va0 = 29 ∧ Va0 < 30) ∨ (E = "java/lang/IllegalArgumentException" ∧ ¬ Va0 < 0 ∧ 0 ≤ Va0 ∧ ¬ Va0 < 20 ∧ Va0 ≤ 24 ∧ ¬ Va0 < 20 ∧ Va1 < 0) ∨ (E = "java/lang/IllegalArgumentException" ∧ ¬ Va0 < 0 ∧ 0 ≤ Va0 ∧ ¬ Va0 < 20 ∧ Va0 ≤ 24 ∧ ¬ Va0 < 20 ∧ ¬ Va1 < 0 ∧ ¬ Va1 ≤ 60) ∨ (E = "java/lang/IllegalArgumentException" ∧ ¬ Va0 < 0 ∧ 0 ≤ Va0 ∧ ¬ Va0 < 20 ∧ ¬ Va0 ≤ 24 ∧ Va0 = 29 ∧ ¬ Va0 < 20 ∧ Va1 < 0) ∨ (E = "java/lang/IllegalArgumentException" ∧ ¬ Va0 < 0 ∧ 0 ≤ Va0 ∧ ¬ Va0 < 20 ∧ ¬ Va0 ≤ 24 ∧ Va0 = 29 ∧ ¬ Va0 < 20 ∧ ¬ Va1 < 0 ∧ ¬ Va1 ≤ 60) ∨ (E = "java/lang/IllegalArgumentException" ∧ ¬ Va0 < 0 ∧ 0 ≤ Va0 ∧ ¬ Va0 < 20 ∧ ¬ Va0 ≤ 24 ∧ ¬ Va0 = 29 ∧ Va0 < 30) ∨ (E = "java/lang/IllegalArgumentException" ∧ ¬ Va0 < 0 ∧ 0 ≤ Va0 ∧ ¬ Va0 < 20 ∧ ¬ Va0 ≤ 24 ∧ ¬ Va0 = 29 ∧ ¬ Va0 < 30)) (va_A [(Ad0, .inr (14, Fs0)), (Ad1, .inr (13, Fs1)), (Ad2, .inr (5, Fs2)), (Ad3, .inl (Ka0, 400, .inl Fa0)), (Ad4, .inl (Ka1, 400, .inl Fa1)), (Ad5, .inl (Ka2, 400, .inl Fa2)), (Ad6, .inl (Ka3, 4000, .inr (.inl Fa3))), (Ad7, .inl (Ka4, 4000, .inl Fa4))] sz)) 1 6 (va_A [(Ad0, .inr (14, Fs0)), (Ad1, .inr (13, Fs1)), (Ad2, .inr (5, Fs2)), (Ad3, .inl (Ka0, 400, .inl Fa0)), (Ad4, .inl (Ka1, 400, .inl Fa1)), (Ad5, .inl (Ka2, 400, .inl Fa2)), (Ad6, .inl (Ka3, 4000, .inr (.inl Fa3))), (Ad7, .inl (Ka4, 4000, .inl Fa4))] sz) := by
  refine vx_ofW (cc := cX11_make) (maxL := 4) (ret := (some .int)) (by decide) rfl ?_
  intro p e s m args below meth c s₁ B hml htab hv
  obtain ⟨rfl, hsz, hZ, hP, hK, hD0⟩ := hv
  have hx := B.exec
  have hb := B.bytes
  have hr := B.returns
  have hts := atoms_spec (ws := w_z_X11_make) B.pre
  have hown : s.vm.findClass RX11 = some m.cls := findClass_of_methodNamed B.named
  have hlocks := B.notSynchronized
  subst hsz
  have hD := hD0.self (sz := s.heap.size)
  generalize hAe : va_A [(Ad0, .inr (14, Fs0)), (Ad1, .inr (13, Fs1)), (Ad2, .inr (5, Fs2)), (Ad3, .inl (Ka0, 400, .inl Fa0)), (Ad4, .inl (Ka1, 400, .inl Fa1)), (Ad5, .inl (Ka2, 400, .inl Fa2)), (Ad6, .inl (Ka3, 4000, .inr (.inl Fa3))), (Ad7, .inl (Ka4, 4000, .inl Fa4))] s.heap.size = A at hD hZ ⊢
  have hA : ∀ q : Nat, s.heap.size ≤ q → A q := fun q h => by rw [← hAe]; exact Or.inr h
  have hS : va_S A s.heap s.heap [] := va_S.rf
  have hl := lv_entry ([.ref Ad0, .int Va0, .int Va1]) (n := 4) (Nat.le_of_ble_eq_true rfl)
  rw [lg_entry_eq]
  generalize (lg_sl ([.ref Ad0, .int Va0, .int Va1]) ++ List.replicate (4 - (lg_sl ([.ref Ad0, .int Va0, .int Va1])).length) Slot.unset).toArray = ls at hl ⊢
  have hl : lv_has ls 4 [(0, .ref Ad0), (1, .int Va0), (2, .int Va1)] := hl
  have o_Fs0 := ow_0 k_Fs0
  have o_Fs1 := ow_0 k_Fs1
  have o_Fs2 := ow_0 k_Fs2
  refine lv_aload_n hx hb dX11_make_0 rfl (lv_at hl 0 rfl) ?_
  refine va_get (D := (dC, dI)) (ci := 14) (v := .ref Ad1) (C := RX11) (T := TX11) (N := 18) hx hb hts (in_z_X11_make_X11) hown hK hP 0 rfl rfl 1 (by decide) (hts (.fieldLink RX11 19 "HeapWorks" "types" "LHeapWorks$Types;") (by decide +kernel)) (fun _ h9 => h9) (ow_at o_Fs0 0 rfl) dX11_make_1 ?_
  refine lv_iload_n hx hb dX11_make_4 rfl (lv_at hl 1 rfl) ?_
  have hPc := hP.sub (ws' := [(Ad1, .inr (13, Fs1))]) [1] rfl
  have hDc := hD.sub (ws' := [(Ad1, .inr (13, Fs1))]) [1] (by decide) rfl
  have hKc := hK.sub (tys' := []) [] rfl
  have hFc := va_free (wc := [(Ad1, .inr (13, Fs1))]) hD hS hA [1] rfl
  refine va_calli (va_runV (As := [.int Va0]) (rest := []) ⟨hx, hb, hml, hown, hts⟩ (z_X10_isType l dC dI s.heap.size Ad1 Fs1 Va0 (fh_sub o_Fs1.2 [0] rfl) ) (cwV 1 hts g_z_X11_make_z_X10_isType_144 rfl rfl rfl (by decide +kernel) ⟨Nat.le_of_ble_eq_true rfl, Nat.le_of_ble_eq_true rfl⟩) ⟨fun a U g mk q => by obtain ⟨q0, q1, qP, qK, qD⟩ := q; exact ⟨q0, q1, qP, va_K.moved (u := U) (U := U.calling g mk a) (Vm.Alike.refl U.vm) qK, qD⟩, va_recv hK hP (ci := 13) (q0 := 1) rfl rfl, fun U hU hW => ⟨rfl, by rw [hU], by rw [hU]; exact hPc, va_K.moved hW.alike hKc, hDc.weaken (fun _ _ _ _ => trivial)⟩⟩ rfl rfl hl.1 rfl (lv_room (Nat.le_of_ble_eq_true rfl)) dX11_make_5 ⟨Nat.le_of_ble_eq_true rfl, Nat.le_of_ble_eq_true rfl⟩) hS (fun q _ h => hFc q h) hFc (fun r101 u t H1 locs ht hvm hw hB hz1 hk1 hS => ?_)
  obtain ⟨hP1, hK1, hD1⟩ := hB
  rw [ht] at hP1
  try dsimp only at hw
  obtain ⟨hP, hD⟩ := va_join (wr := [(Ad0, .inr (14, Fs0)), (Ad2, .inr (5, Fs2)), (Ad3, .inl (Ka0, 400, .inl Fa0)), (Ad4, .inl (Ka1, 400, .inl Fa1)), (Ad5, .inl (Ka2, 400, .inl Fa2)), (Ad6, .inl (Ka3, 4000, .inr (.inl Fa3))), (Ad7, .inl (Ka4, 4000, .inl Fa4))]) (w1 := [(Ad1, .inr (13, Fs1))]) hP hD [1] [0, 2, 3, 4, 5, 6, 7] rfl rfl (by decide) (by decide) hk1 hFc hP1 hD1
  have hK := hK.sub (tys' := [(Ka0, .int), (Ka1, .int), (Ka2, .int), (Ka3, .long), (Ka4, .boolean)]) [0, 1, 2, 3, 4] rfl
  generalize H1 = H at hP hS ⊢
  have hP : va_P (dC, dI) vwCl [(Ad0, .inr (14, Fs0)), (Ad2, .inr (5, Fs2)), (Ad3, .inl (Ka0, 400, .inl Fa0)), (Ad4, .inl (Ka1, 400, .inl Fa1)), (Ad5, .inl (Ka2, 400, .inl Fa2)), (Ad6, .inl (Ka3, 4000, .inr (.inl Fa3))), (Ad7, .inl (Ka4, 4000, .inl Fa4)), (Ad1, .inr (13, Fs1))] H := hP
  have hD : va_D A [(Ad0, .inr (14, Fs0)), (Ad2, .inr (5, Fs2)), (Ad3, .inl (Ka0, 400, .inl Fa0)), (Ad4, .inl (Ka1, 400, .inl Fa1)), (Ad5, .inl (Ka2, 400, .inl Fa2)), (Ad6, .inl (Ka3, 4000, .inr (.inl Fa3))), (Ad7, .inl (Ka4, 4000, .inl Fa4)), (Ad1, .inr (13, Fs1))] := hD
  rcases hw with ⟨c102, c103, c104, c105, er106⟩ | ⟨c107, c108, c109, c110, c111, er112⟩ | ⟨c113, c114, c115, c116, er117⟩ | ⟨c118, c119, c120, c121, c122, er123⟩ | ⟨c124, c125, c126, c127, c128, c129, er130⟩ | ⟨c131, c132, c133, c134, c135, c136, er137⟩
  · skip
    subst er106
    refine lv_if_eq (tgt := 28) hx hb dX11_make_8 (by decide) (fun c138 => ?_) (fun c138 => absurd c138 (by decide))
    exact vx_throw0 (names := ["java/lang/RuntimeException", "java/lang/Exception"]) hx hb hst hown (by decide +kernel) (by decide +kernel) (hts (.classLink RX11 127 "java/lang/IllegalArgumentException") (by decide +kernel)) (hts (.initialized "java/lang/IllegalArgumentException") (by decide +kernel)) (vx_hat (B := xB "java/lang/IllegalArgumentException") (fun w h => hts w ((in_z_X11_make_at0_X11_129) w h)) (by decide +kernel) (Zz_xB hZ (by decide))) (by decide +kernel) hZ.1 hZ.2.1 hS (hl.1.trans hml.symm) dX11_make_28 dX11_make_31 dX11_make_32 dX11_make_35 (fun x h => (htab x h).elim) (by decide) (Nat.le_of_ble_eq_true rfl) (Nat.le_of_ble_eq_true rfl) (Nat.le_of_ble_eq_true rfl) hlocks (fun t _ h1 h2 => ⟨(), trivial, (Or.inl ⟨rfl, c102, c103, c104, c105⟩), xx_F hS h1 h2⟩) hS.2.2 (by decide) (by decide)
  · skip
    subst er112
    refine lv_if_eq (tgt := 28) hx hb dX11_make_8 (by decide) (fun c139 => ?_) (fun c139 => absurd c139 (by decide))
    exact vx_throw0 (names := ["java/lang/RuntimeException", "java/lang/Exception"]) hx hb hst hown (by decide +kernel) (by decide +kernel) (hts (.classLink RX11 127 "java/lang/IllegalArgumentException") (by decide +kernel)) (hts (.initialized "java/lang/IllegalArgumentException") (by decide +kernel)) (vx_hat (B := xB "java/lang/IllegalArgumentException") (fun w h => hts w ((in_z_X11_make_at0_X11_129) w h)) (by decide +kernel) (Zz_xB hZ (by decide))) (by decide +kernel) hZ.1 hZ.2.1 hS (hl.1.trans hml.symm) dX11_make_28 dX11_make_31 dX11_make_32 dX11_make_35 (fun x h => (htab x h).elim) (by decide) (Nat.le_of_ble_eq_true rfl) (Nat.le_of_ble_eq_true rfl) (Nat.le_of_ble_eq_true rfl) hlocks (fun t _ h1 h2 => ⟨(), trivial, (Or.inr (Or.inl ⟨rfl, c107, c108, c109, c110, c111⟩)), xx_F hS h1 h2⟩) hS.2.2 (by decide) (by decide)
  · skip
    subst er117
    refine lv_if_eq (tgt := 28) hx hb dX11_make_8 (by decide) (fun c140 => absurd c140 (by decide)) (fun c140 => ?_)
    refine lv_iload_n hx hb dX11_make_11 rfl (lv_at hl 1 rfl) ?_
    have hPc := hP.sub (ws' := []) [] rfl
    have hDc := hD.sub (ws' := []) [] (by decide) rfl
    have hKc := hK.sub (tys' := []) [] rfl
    have hFc := va_free (wc := []) hD hS hA [] rfl
    refine va_calli (va_runS (As := [.int Va0]) (rest := []) ⟨hx, hb, hml, hown, hts⟩ (z_X10_isArray l dC dI H.size Va0  ) (va_cwS 1 hts g_z_X11_make_z_X10_isArray_206 rfl rfl rfl (by decide +kernel) ⟨Nat.le_of_ble_eq_true rfl, Nat.le_of_ble_eq_true rfl⟩) ⟨fun a U g mk q => by obtain ⟨q0, q1, qP, qK, qD⟩ := q; exact ⟨q0, q1, qP, va_K.moved (u := U) (U := U.calling g mk a) (Vm.Alike.refl U.vm) qK, qD⟩, fun U hU hW => ⟨rfl, by rw [hU], by rw [hU]; exact hPc, va_K.moved hW.alike hKc, hDc.weaken (fun _ _ _ _ => trivial)⟩⟩ rfl rfl hl.1 rfl (lv_room (Nat.le_of_ble_eq_true rfl)) dX11_make_12 ⟨Nat.le_of_ble_eq_true rfl, Nat.le_of_ble_eq_true rfl⟩) hS (fun q _ h => hFc q h) hFc (fun r141 u t H1 locs ht hvm hw hB hz1 hk1 hS => ?_)
    obtain ⟨hP1, hK1, hD1⟩ := hB
    rw [ht] at hP1
    try dsimp only at hw
    obtain ⟨hP, hD⟩ := va_join (wr := [(Ad0, .inr (14, Fs0)), (Ad2, .inr (5, Fs2)), (Ad3, .inl (Ka0, 400, .inl Fa0)), (Ad4, .inl (Ka1, 400, .inl Fa1)), (Ad5, .inl (Ka2, 400, .inl Fa2)), (Ad6, .inl (Ka3, 4000, .inr (.inl Fa3))), (Ad7, .inl (Ka4, 4000, .inl Fa4)), (Ad1, .inr (13, Fs1))]) (w1 := []) hP hD [] [0, 1, 2, 3, 4, 5, 6, 7] rfl rfl (by decide) (by decide) hk1 hFc hP1 hD1
    have hK := hK.sub (tys' := [(Ka0, .int), (Ka1, .int), (Ka2, .int), (Ka3, .long), (Ka4, .boolean)]) [0, 1, 2, 3, 4] rfl
    generalize H1 = H at hP hS ⊢
    have hP : va_P (dC, dI) vwCl [(Ad0, .inr (14, Fs0)), (Ad2, .inr (5, Fs2)), (Ad3, .inl (Ka0, 400, .inl Fa0)), (Ad4, .inl (Ka1, 400, .inl Fa1)), (Ad5, .inl (Ka2, 400, .inl Fa2)), (Ad6, .inl (Ka3, 4000, .inr (.inl Fa3))), (Ad7, .inl (Ka4, 4000, .inl Fa4)), (Ad1, .inr (13, Fs1))] H := hP
    have hD : va_D A [(Ad0, .inr (14, Fs0)), (Ad2, .inr (5, Fs2)), (Ad3, .inl (Ka0, 400, .inl Fa0)), (Ad4, .inl (Ka1, 400, .inl Fa1)), (Ad5, .inl (Ka2, 400, .inl Fa2)), (Ad6, .inl (Ka3, 4000, .inr (.inl Fa3))), (Ad7, .inl (Ka4, 4000, .inl Fa4)), (Ad1, .inr (13, Fs1))] := hD
    rcases hw with ⟨c142, er143⟩ | ⟨c144, er145⟩
    · exact (by exfalso; (try simp only [i_lt, i_le, i_eq, kc_0, kc_20, kc_24] at c113 c114 c115 c116 c142); omega)
    · skip
      subst er145
      refine lv_if_eq (tgt := 36) hx hb dX11_make_15 (by decide) (fun c146 => absurd c146 (by decide)) (fun c146 => ?_)
      refine lv_iload_n hx hb dX11_make_18 rfl (lv_at hl 2 rfl) ?_
      refine lv_if_lt (tgt := 28) hx hb dX11_make_19 (by decide) (fun c147 => ?_) (fun c147 => ?_)
      · skip
        exact vx_throw0 (names := ["java/lang/RuntimeException", "java/lang/Exception"]) hx hb hst hown (by decide +kernel) (by decide +kernel) (hts (.classLink RX11 127 "java/lang/IllegalArgumentException") (by decide +kernel)) (hts (.initialized "java/lang/IllegalArgumentException") (by decide +kernel)) (vx_hat (B := xB "java/lang/IllegalArgumentException") (fun w h => hts w ((in_z_X11_make_at0_X11_129) w h)) (by decide +kernel) (Zz_xB hZ (by decide))) (by decide +kernel) hZ.1 hZ.2.1 hS (hl.1.trans hml.symm) dX11_make_28 dX11_make_31 dX11_make_32 dX11_make_35 (fun x h => (htab x h).elim) (by decide) (Nat.le_of_ble_eq_true rfl) (Nat.le_of_ble_eq_true rfl) (Nat.le_of_ble_eq_true rfl) hlocks (fun t _ h1 h2 => ⟨(), trivial, (Or.inr (Or.inr (Or.inl ⟨rfl, c113, c114, c115, c116, c144, c147⟩))), xx_F hS h1 h2⟩) hS.2.2 (by decide) (by decide)
      · skip
        refine lv_iload_n hx hb dX11_make_22 rfl (lv_at hl 2 rfl) ?_
        refine lv_bipush (v := 60) hx hb dX11_make_23 (by decide) ?_
        refine lv_icmp_le (tgt := 36) hx hb dX11_make_25 (by decide) (fun c148 => ?_) (fun c148 => ?_)
        · skip
          refine lv_iload_n hx hb dX11_make_36 rfl (lv_at hl 1 rfl) ?_
          have hPc := hP.sub (ws' := []) [] rfl
          have hDc := hD.sub (ws' := []) [] (by decide) rfl
          have hKc := hK.sub (tys' := []) [] rfl
          have hFc := va_free (wc := []) hD hS hA [] rfl
          refine va_calli (va_runS (As := [.int Va0]) (rest := []) ⟨hx, hb, hml, hown, hts⟩ (z_X10_isArray l dC dI H.size Va0  ) (va_cwS 1 hts g_z_X11_make_z_X10_isArray_206 rfl rfl rfl (by decide +kernel) ⟨Nat.le_of_ble_eq_true rfl, Nat.le_of_ble_eq_true rfl⟩) ⟨fun a U g mk q => by obtain ⟨q0, q1, qP, qK, qD⟩ := q; exact ⟨q0, q1, qP, va_K.moved (u := U) (U := U.calling g mk a) (Vm.Alike.refl U.vm) qK, qD⟩, fun U hU hW => ⟨rfl, by rw [hU], by rw [hU]; exact hPc, va_K.moved hW.alike hKc, hDc.weaken (fun _ _ _ _ => trivial)⟩⟩ rfl rfl hl.1 rfl (lv_room (Nat.le_of_ble_eq_true rfl)) dX11_make_37 ⟨Nat.le_of_ble_eq_true rfl, Nat.le_of_ble_eq_true rfl⟩) hS (fun q _ h => hFc q h) hFc (fun r149 u t H1 locs ht hvm hw hB hz1 hk1 hS => ?_)
          obtain ⟨hP1, hK1, hD1⟩ := hB
          rw [ht] at hP1
          try dsimp only at hw
          obtain ⟨hP, hD⟩ := va_join (wr := [(Ad0, .inr (14, Fs0)), (Ad2, .inr (5, Fs2)), (Ad3, .inl (Ka0, 400, .inl Fa0)), (Ad4, .inl (Ka1, 400, .inl Fa1)), (Ad5, .inl (Ka2, 400, .inl Fa2)), (Ad6, .inl (Ka3, 4000, .inr (.inl Fa3))), (Ad7, .inl (Ka4, 4000, .inl Fa4)), (Ad1, .inr (13, Fs1))]) (w1 := []) hP hD [] [0, 1, 2, 3, 4, 5, 6, 7] rfl rfl (by decide) (by decide) hk1 hFc hP1 hD1
          have hK := hK.sub (tys' := [(Ka0, .int), (Ka1, .int), (Ka2, .int), (Ka3, .long), (Ka4, .boolean)]) [0, 1, 2, 3, 4] rfl
          generalize H1 = H at hP hS ⊢
          have hP : va_P (dC, dI) vwCl [(Ad0, .inr (14, Fs0)), (Ad2, .inr (5, Fs2)), (Ad3, .inl (Ka0, 400, .inl Fa0)), (Ad4, .inl (Ka1, 400, .inl Fa1)), (Ad5, .inl (Ka2, 400, .inl Fa2)), (Ad6, .inl (Ka3, 4000, .inr (.inl Fa3))), (Ad7, .inl (Ka4, 4000, .inl Fa4)), (Ad1, .inr (13, Fs1))] H := hP
          have hD : va_D A [(Ad0, .inr (14, Fs0)), (Ad2, .inr (5, Fs2)), (Ad3, .inl (Ka0, 400, .inl Fa0)), (Ad4, .inl (Ka1, 400, .inl Fa1)), (Ad5, .inl (Ka2, 400, .inl Fa2)), (Ad6, .inl (Ka3, 4000, .inr (.inl Fa3))), (Ad7, .inl (Ka4, 4000, .inl Fa4)), (Ad1, .inr (13, Fs1))] := hD
          rcases hw with ⟨c150, er151⟩ | ⟨c152, er153⟩
          · exact (by exfalso; (try simp only [i_lt, i_le, i_eq, kc_0, kc_20, kc_24] at c113 c114 c115 c116 c144 c150); omega)
          · skip
            subst er153
            refine lv_if_eq (tgt := 47) hx hb dX11_make_40 (by decide) (fun c154 => absurd c154 (by decide)) (fun c154 => ?_)
            refine lv_iload_n hx hb dX11_make_43 rfl (lv_at hl 2 rfl) ?_
            refine lv_goto (tgt := 48) hx hb dX11_make_44 (by decide) ?_
            refine lv_istore_n (lv' := [(3, .int Va1), (0, .ref Ad0), (1, .int Va0), (2, .int Va1)]) hx hb dX11_make_48 rfl hl (by decide) rfl (fun ls hl => ?_)
            refine lv_aload_n hx hb dX11_make_49 rfl (lv_at hl 1 rfl) ?_
            refine va_get (D := (dC, dI)) (ci := 14) (v := .ref Ad2) (C := RX11) (T := TX11) (N := 18) hx hb hts (in_z_X11_make_X11) hown hK hP 0 rfl rfl 2 (by decide) (hts (.fieldLink RX11 28 "HeapWorks" "heap" "LHeapWorks$Heap;") (by decide +kernel)) (fun _ h9 => h9) (ow_at o_Fs0 1 rfl) dX11_make_50 ?_
            refine lv_iconst (v := 1) hx hb dX11_make_53 (by decide) ?_
            refine lv_aload_n hx hb dX11_make_54 rfl (lv_at hl 1 rfl) ?_
            refine va_get (D := (dC, dI)) (ci := 14) (v := .ref Ad1) (C := RX11) (T := TX11) (N := 18) hx hb hts (in_z_X11_make_X11) hown hK hP 0 rfl rfl 1 (by decide) (hts (.fieldLink RX11 19 "HeapWorks" "types" "LHeapWorks$Types;") (by decide +kernel)) (fun _ h9 => h9) (ow_at o_Fs0 0 rfl) dX11_make_55 ?_
            refine lv_iload_n hx hb dX11_make_58 rfl (lv_at hl 2 rfl) ?_
            refine lv_iload_n hx hb dX11_make_59 rfl (lv_at hl 0 rfl) ?_
            have hPc := hP.sub (ws' := []) [] rfl
            have hDc := hD.sub (ws' := []) [] (by decide) rfl
            have hKc := hK.sub (tys' := []) [] rfl
            have hFc := va_free (wc := []) hD hS hA [] rfl
            refine va_calli (va_runV (As := [.int Va0, .int Va1]) (rest := [.int 1, .ref Ad2]) ⟨hx, hb, hml, hown, hts⟩ (z_X10_slotsOf l dC dI H.size Ad1 Va0 Va1  (by (try simp only [i_lt, i_le, i_eq, kc_0, kc_20, kc_24] at c113 c114 c115 c116 c144 c152); omega) (by (try simp only [i_lt, i_le, i_eq, kc_0, kc_60] at c147 c148); omega)) (cwV 2 hts g_z_X11_make_z_X10_slotsOf_209 rfl rfl rfl (by decide +kernel) ⟨Nat.le_of_ble_eq_true rfl, Nat.le_of_ble_eq_true rfl⟩) ⟨fun a U g mk q => by obtain ⟨q0, q1, qP, qK, qD⟩ := q; exact ⟨q0, q1, qP, va_K.moved (u := U) (U := U.calling g mk a) (Vm.Alike.refl U.vm) qK, qD⟩, va_recv hK hP (ci := 13) (q0 := 7) rfl rfl, fun U hU hW => ⟨rfl, by rw [hU], by rw [hU]; exact hPc, va_K.moved hW.alike hKc, hDc.weaken (fun _ _ _ _ => trivial)⟩⟩ rfl rfl hl.1 rfl (lv_room (Nat.le_of_ble_eq_true rfl)) dX11_make_60 ⟨Nat.le_of_ble_eq_true rfl, Nat.le_of_ble_eq_true rfl⟩) hS (fun q _ h => hFc q h) hFc (fun r155 u t H1 locs ht hvm hw hB hz1 hk1 hS => ?_)
            obtain ⟨hP1, hK1, hD1⟩ := hB
            rw [ht] at hP1
            try dsimp only at hw
            obtain ⟨hP, hD⟩ := va_join (wr := [(Ad0, .inr (14, Fs0)), (Ad2, .inr (5, Fs2)), (Ad3, .inl (Ka0, 400, .inl Fa0)), (Ad4, .inl (Ka1, 400, .inl Fa1)), (Ad5, .inl (Ka2, 400, .inl Fa2)), (Ad6, .inl (Ka3, 4000, .inr (.inl Fa3))), (Ad7, .inl (Ka4, 4000, .inl Fa4)), (Ad1, .inr (13, Fs1))]) (w1 := []) hP hD [] [0, 1, 2, 3, 4, 5, 6, 7] rfl rfl (by decide) (by decide) hk1 hFc hP1 hD1
            have hK := hK.sub (tys' := [(Ka0, .int), (Ka1, .int), (Ka2, .int), (Ka3, .long), (Ka4, .boolean)]) [0, 1, 2, 3, 4] rfl
            generalize H1 = H at hP hS ⊢
            have hP : va_P (dC, dI) vwCl [(Ad0, .inr (14, Fs0)), (Ad2, .inr (5, Fs2)), (Ad3, .inl (Ka0, 400, .inl Fa0)), (Ad4, .inl (Ka1, 400, .inl Fa1)), (Ad5, .inl (Ka2, 400, .inl Fa2)), (Ad6, .inl (Ka3, 4000, .inr (.inl Fa3))), (Ad7, .inl (Ka4, 4000, .inl Fa4)), (Ad1, .inr (13, Fs1))] H := hP
            have hD : va_D A [(Ad0, .inr (14, Fs0)), (Ad2, .inr (5, Fs2)), (Ad3, .inl (Ka0, 400, .inl Fa0)), (Ad4, .inl (Ka1, 400, .inl Fa1)), (Ad5, .inl (Ka2, 400, .inl Fa2)), (Ad6, .inl (Ka3, 4000, .inr (.inl Fa3))), (Ad7, .inl (Ka4, 4000, .inl Fa4)), (Ad1, .inr (13, Fs1))] := hD
            obtain ⟨c156, er157⟩ := hw
            have qer157 := er157.symm
            subst qer157
            have hPc := hP.sub (ws' := [(Ad2, .inr (5, Fs2))]) [1] rfl
            have hDc := hD.sub (ws' := [(Ad2, .inr (5, Fs2))]) [1] (by decide) rfl
            have hKc := hK.sub (tys' := []) [] rfl
            have hFc := va_free (wc := [(Ad2, .inr (5, Fs2))]) hD hS hA [1] rfl
            refine va_calli (va_runV (As := [.int 1, .int Va1]) (rest := []) ⟨hx, hb, hml, hown, hts⟩ (z_X2_hasRoom l dC dI H.size Ad2 Fs2 Va1 (fh_sub o_Fs2.2 [1, 3] rfl) ) (cwV 2 hts g_z_X11_make_z_X2_hasRoom_212 rfl rfl rfl (by decide +kernel) ⟨Nat.le_of_ble_eq_true rfl, Nat.le_of_ble_eq_true rfl⟩) ⟨fun a U g mk q => by obtain ⟨q0, q1, qP, qK, qD⟩ := q; exact ⟨q0, q1, qP, va_K.moved (u := U) (U := U.calling g mk a) (Vm.Alike.refl U.vm) qK, qD⟩, va_recv hK hP (ci := 5) (q0 := 1) rfl rfl, fun U hU hW => ⟨rfl, by rw [hU], by rw [hU]; exact hPc, va_K.moved hW.alike hKc, hDc.weaken (fun _ _ _ _ => trivial)⟩⟩ rfl rfl hl.1 rfl (lv_room (Nat.le_of_ble_eq_true rfl)) dX11_make_63 ⟨Nat.le_of_ble_eq_true rfl, Nat.le_of_ble_eq_true rfl⟩) hS (fun q _ h => hFc q h) hFc (fun r158 u t H1 locs ht hvm hw hB hz1 hk1 hS => ?_)
            obtain ⟨hP1, hK1, hD1⟩ := hB
            rw [ht] at hP1
            try dsimp only at hw
            obtain ⟨hP, hD⟩ := va_join (wr := [(Ad0, .inr (14, Fs0)), (Ad3, .inl (Ka0, 400, .inl Fa0)), (Ad4, .inl (Ka1, 400, .inl Fa1)), (Ad5, .inl (Ka2, 400, .inl Fa2)), (Ad6, .inl (Ka3, 4000, .inr (.inl Fa3))), (Ad7, .inl (Ka4, 4000, .inl Fa4)), (Ad1, .inr (13, Fs1))]) (w1 := [(Ad2, .inr (5, Fs2))]) hP hD [1] [0, 2, 3, 4, 5, 6, 7] rfl rfl (by decide) (by decide) hk1 hFc hP1 hD1
            have hK := hK.sub (tys' := [(Ka0, .int), (Ka1, .int), (Ka2, .int), (Ka3, .long), (Ka4, .boolean)]) [0, 1, 2, 3, 4] rfl
            generalize H1 = H at hP hS ⊢
            have hP : va_P (dC, dI) vwCl [(Ad0, .inr (14, Fs0)), (Ad3, .inl (Ka0, 400, .inl Fa0)), (Ad4, .inl (Ka1, 400, .inl Fa1)), (Ad5, .inl (Ka2, 400, .inl Fa2)), (Ad6, .inl (Ka3, 4000, .inr (.inl Fa3))), (Ad7, .inl (Ka4, 4000, .inl Fa4)), (Ad1, .inr (13, Fs1)), (Ad2, .inr (5, Fs2))] H := hP
            have hD : va_D A [(Ad0, .inr (14, Fs0)), (Ad3, .inl (Ka0, 400, .inl Fa0)), (Ad4, .inl (Ka1, 400, .inl Fa1)), (Ad5, .inl (Ka2, 400, .inl Fa2)), (Ad6, .inl (Ka3, 4000, .inr (.inl Fa3))), (Ad7, .inl (Ka4, 4000, .inl Fa4)), (Ad1, .inr (13, Fs1)), (Ad2, .inr (5, Fs2))] := hD
            rcases hw with ⟨c159, er160⟩ | ⟨c161, er162⟩
            · exact (by exfalso; (try simp only [i_lt, i_le, i_eq, kc_0, kc_60, kc_4000] at c147 c148 c159); omega)
            · skip
              subst er162
              refine lv_if_ne (tgt := 77) hx hb dX11_make_66 (by decide) (fun c163 => ?_) (fun c163 => absurd c163 (by decide))
              refine lv_aload_n hx hb dX11_make_77 rfl (lv_at hl 1 rfl) ?_
              refine va_get (D := (dC, dI)) (ci := 14) (v := .ref Ad2) (C := RX11) (T := TX11) (N := 18) hx hb hts (in_z_X11_make_X11) hown hK hP 0 rfl rfl 2 (by decide) (hts (.fieldLink RX11 28 "HeapWorks" "heap" "LHeapWorks$Heap;") (by decide +kernel)) (fun _ h9 => h9) (ow_at o_Fs0 1 rfl) dX11_make_78 ?_
              refine lv_iload_n hx hb dX11_make_81 rfl (lv_at hl 2 rfl) ?_
              refine lv_iload_n hx hb dX11_make_82 rfl (lv_at hl 0 rfl) ?_
              have hPc := hP.sub (ws' := [(Ad3, .inl (Ka0, 400, .inl Fa0)), (Ad4, .inl (Ka1, 400, .inl Fa1)), (Ad5, .inl (Ka2, 400, .inl Fa2)), (Ad6, .inl (Ka3, 4000, .inr (.inl Fa3))), (Ad7, .inl (Ka4, 4000, .inl Fa4)), (Ad1, .inr (13, Fs1)), (Ad2, .inr (5, Fs2))]) [1, 2, 3, 4, 5, 6, 7] rfl
              have hDc := hD.sub (ws' := [(Ad3, .inl (Ka0, 400, .inl Fa0)), (Ad4, .inl (Ka1, 400, .inl Fa1)), (Ad5, .inl (Ka2, 400, .inl Fa2)), (Ad6, .inl (Ka3, 4000, .inr (.inl Fa3))), (Ad7, .inl (Ka4, 4000, .inl Fa4)), (Ad1, .inr (13, Fs1)), (Ad2, .inr (5, Fs2))]) [1, 2, 3, 4, 5, 6, 7] (by decide) rfl
              have hKc := hK.sub (tys' := [(Ka0, .int), (Ka1, .int), (Ka2, .int), (Ka3, .long), (Ka4, .boolean)]) [0, 1, 2, 3, 4] rfl
              have hFc := va_free (wc := [(Ad3, .inl (Ka0, 400, .inl Fa0)), (Ad4, .inl (Ka1, 400, .inl Fa1)), (Ad5, .inl (Ka2, 400, .inl Fa2)), (Ad6, .inl (Ka3, 4000, .inr (.inl Fa3))), (Ad7, .inl (Ka4, 4000, .inl Fa4)), (Ad1, .inr (13, Fs1)), (Ad2, .inr (5, Fs2))]) hD hS hA [1, 2, 3, 4, 5, 6, 7] rfl
              refine va_calli (va_runV (As := [.int Va0, .int Va1]) (rest := []) ⟨hx, hb, hml, hown, hts⟩ (z_X2_create l dC dI H.size Ad3 Fa0 Ka0 Ad4 Fa1 Ka1 Ad5 Fa2 Ka2 Ad6 Fa3 Ka3 Ad7 Fa4 Ka4 Ad1 Fs1 Ad2 Fs2 Va0 Va1 (fh_sub o_Fs1.2 [0] rfl) (fh_sub o_Fs2.2 [0, 1, 2, 3, 4, 5, 6, 7, 8] rfl) (by (try simp only [i_lt, i_le, i_eq, kc_0, kc_20, kc_24] at c113 c114 c115 c116 c144 c152 c156); omega) (by (try simp only [i_lt, i_le, i_eq, kc_0, kc_60, kc_4000] at c147 c148 c161); omega)) (cwV 2 hts g_z_X11_make_z_X2_create_215 rfl rfl rfl (by decide +kernel) ⟨Nat.le_of_ble_eq_true rfl, Nat.le_of_ble_eq_true rfl⟩) ⟨fun a U g mk q => by obtain ⟨q0, q1, qP, qK, qD⟩ := q; exact ⟨q0, q1, qP, va_K.moved (u := U) (U := U.calling g mk a) (Vm.Alike.refl U.vm) qK, qD⟩, va_recv hK hP (ci := 5) (q0 := 7) rfl rfl, fun U hU hW => ⟨rfl, by rw [hU], by rw [hU]; exact hPc, va_K.moved hW.alike hKc, hDc.weaken (fun _ _ _ _ => trivial)⟩⟩ rfl rfl hl.1 rfl (lv_room (Nat.le_of_ble_eq_true rfl)) dX11_make_83 ⟨Nat.le_of_ble_eq_true rfl, Nat.le_of_ble_eq_true rfl⟩) hS (fun q _ h => hFc q h) hFc (fun r164 u t H1 locs ht hvm hw hB hz1 hk1 hS => ?_)
              obtain ⟨f165, f166, f167, f168, f169, s170⟩ := u
              obtain ⟨hP1, hK1, hD1⟩ := hB
              rw [ht] at hP1
              try dsimp only at hw
              obtain ⟨hP, hD⟩ := va_join (wr := [(Ad0, .inr (14, Fs0))]) (w1 := [(Ad3, .inl (Ka0, 400, .inl f165)), (Ad4, .inl (Ka1, 400, .inl f166)), (Ad5, .inl (Ka2, 400, .inl f167)), (Ad6, .inl (Ka3, 4000, .inr (.inl f168))), (Ad7, .inl (Ka4, 4000, .inl f169)), (Ad1, .inr (13, Fs1)), (Ad2, .inr (5, s170))]) hP hD [1, 2, 3, 4, 5, 6, 7] [0] rfl rfl (by decide) (by decide) hk1 hFc hP1 hD1
              have hK := hK.sub (tys' := [(Ka0, .int), (Ka1, .int), (Ka2, .int), (Ka3, .long), (Ka4, .boolean)]) [0, 1, 2, 3, 4] rfl
              generalize H1 = H at hP hS ⊢
              have hP : va_P (dC, dI) vwCl [(Ad0, .inr (14, Fs0)), (Ad3, .inl (Ka0, 400, .inl f165)), (Ad4, .inl (Ka1, 400, .inl f166)), (Ad5, .inl (Ka2, 400, .inl f167)), (Ad6, .inl (Ka3, 4000, .inr (.inl f168))), (Ad7, .inl (Ka4, 4000, .inl f169)), (Ad1, .inr (13, Fs1)), (Ad2, .inr (5, s170))] H := hP
              have hD : va_D A [(Ad0, .inr (14, Fs0)), (Ad3, .inl (Ka0, 400, .inl f165)), (Ad4, .inl (Ka1, 400, .inl f166)), (Ad5, .inl (Ka2, 400, .inl f167)), (Ad6, .inl (Ka3, 4000, .inr (.inl f168))), (Ad7, .inl (Ka4, 4000, .inl f169)), (Ad1, .inr (13, Fs1)), (Ad2, .inr (5, s170))] := hD
              obtain ⟨c171, c172, c173, er174, o_s170, q175, q176, q177⟩ := hw
              subst er174
              have o_s170 := ow_on o_Fs2 o_s170 (l' := [(0, .ref Ad1), (4, .ref Ad3), (5, .ref Ad4), (6, .ref Ad5), (7, .ref Ad6), (8, .ref Ad7), (0, .ref Ad1), (4, .ref Ad3), (5, .ref Ad4), (6, .ref Ad5), (7, .ref Ad6), (8, .ref Ad7)]) (w' := [1, 2, 3]) rfl rfl
              have hP9 := hP.sub (ws' := [(Ad0, .inr (14, Fs0)), (Ad1, .inr (13, Fs1)), (Ad2, .inr (5, s170)), (Ad3, .inl (Ka0, 400, .inl f165)), (Ad4, .inl (Ka1, 400, .inl f166)), (Ad5, .inl (Ka2, 400, .inl f167)), (Ad6, .inl (Ka3, 4000, .inr (.inl f168))), (Ad7, .inl (Ka4, 4000, .inl f169))]) [0, 6, 7, 1, 2, 3, 4, 5] rfl
              have hD9 := hD.sub (ws' := [(Ad0, .inr (14, Fs0)), (Ad1, .inr (13, Fs1)), (Ad2, .inr (5, s170)), (Ad3, .inl (Ka0, 400, .inl f165)), (Ad4, .inl (Ka1, 400, .inl f166)), (Ad5, .inl (Ka2, 400, .inl f167)), (Ad6, .inl (Ka3, 4000, .inr (.inl f168))), (Ad7, .inl (Ka4, 4000, .inl f169))]) [0, 6, 7, 1, 2, 3, 4, 5] (by decide) rfl
              have hK9 := hK.sub (tys' := [(Ka0, .int), (Ka1, .int), (Ka2, .int), (Ka3, .long), (Ka4, .boolean)]) [0, 1, 2, 3, 4] rfl
              refine vx_ret ?_
              refine W.widen (k := 1) (n := 6) (by decide) (by decide) ?_
              exact W.iret (v := 0) hx hb hr (fun t ht hW => ⟨⟨0, (s170, f165, f166, f167, f168, f169), rfl, (Or.inl ⟨c113, c114, c115, c116, c144, c147, c148, c152, c156, c161, c171, c172, c173, rfl, o_s170, q175, q176, q177⟩), by rw [ht]; exact hP9, va_K.moved hW.alike hK9, hD9⟩, hS.F ht⟩) hS.2.2 dX11_make_86
        · skip
          exact vx_throw0 (names := ["java/lang/RuntimeException", "java/lang/Exception"]) hx hb hst hown (by decide +kernel) (by decide +kernel) (hts (.classLink RX11 127 "java/lang/IllegalArgumentException") (by decide +kernel)) (hts (.initialized "java/lang/IllegalArgumentException") (by decide +kernel)) (vx_hat (B := xB "java/lang/IllegalArgumentException") (fun w h => hts w ((in_z_X11_make_at0_X11_129) w h)) (by decide +kernel) (Zz_xB hZ (by decide))) (by decide +kernel) hZ.1 hZ.2.1 hS (hl.1.trans hml.symm) dX11_make_28 dX11_make_31 dX11_make_32 dX11_make_35 (fun x h => (htab x h).elim) (by decide) (Nat.le_of_ble_eq_true rfl) (Nat.le_of_ble_eq_true rfl) (Nat.le_of_ble_eq_true rfl) hlocks (fun t _ h1 h2 => ⟨(), trivial, (Or.inr (Or.inr (Or.inr (Or.inl ⟨rfl, c113, c114, c115, c116, c144, c147, c148⟩)))), xx_F hS h1 h2⟩) hS.2.2 (by decide) (by decide)
  · skip
    subst er123
    refine lv_if_eq (tgt := 28) hx hb dX11_make_8 (by decide) (fun c178 => absurd c178 (by decide)) (fun c178 => ?_)
    refine lv_iload_n hx hb dX11_make_11 rfl (lv_at hl 1 rfl) ?_
    have hPc := hP.sub (ws' := []) [] rfl
    have hDc := hD.sub (ws' := []) [] (by decide) rfl
    have hKc := hK.sub (tys' := []) [] rfl
    have hFc := va_free (wc := []) hD hS hA [] rfl
    refine va_calli (va_runS (As := [.int Va0]) (rest := []) ⟨hx, hb, hml, hown, hts⟩ (z_X10_isArray l dC dI H.size Va0  ) (va_cwS 1 hts g_z_X11_make_z_X10_isArray_206 rfl rfl rfl (by decide +kernel) ⟨Nat.le_of_ble_eq_true rfl, Nat.le_of_ble_eq_true rfl⟩) ⟨fun a U g mk q => by obtain ⟨q0, q1, qP, qK, qD⟩ := q; exact ⟨q0, q1, qP, va_K.moved (u := U) (U := U.calling g mk a) (Vm.Alike.refl U.vm) qK, qD⟩, fun U hU hW => ⟨rfl, by rw [hU], by rw [hU]; exact hPc, va_K.moved hW.alike hKc, hDc.weaken (fun _ _ _ _ => trivial)⟩⟩ rfl rfl hl.1 rfl (lv_room (Nat.le_of_ble_eq_true rfl)) dX11_make_12 ⟨Nat.le_of_ble_eq_true rfl, Nat.le_of_ble_eq_true rfl⟩) hS (fun q _ h => hFc q h) hFc (fun r179 u t H1 locs ht hvm hw hB hz1 hk1 hS => ?_)
    obtain ⟨hP1, hK1, hD1⟩ := hB
    rw [ht] at hP1
    try dsimp only at hw
    obtain ⟨hP, hD⟩ := va_join (wr := [(Ad0, .inr (14, Fs0)), (Ad2, .inr (5, Fs2)), (Ad3, .inl (Ka0, 400, .inl Fa0)), (Ad4, .inl (Ka1, 400, .inl Fa1)), (Ad5, .inl (Ka2, 400, .inl Fa2)), (Ad6, .inl (Ka3, 4000, .inr (.inl Fa3))), (Ad7, .inl (Ka4, 4000, .inl Fa4)), (Ad1, .inr (13, Fs1))]) (w1 := []) hP hD [] [0, 1, 2, 3, 4, 5, 6, 7] rfl rfl (by decide) (by decide) hk1 hFc hP1 hD1
    have hK := hK.sub (tys' := [(Ka0, .int), (Ka1, .int), (Ka2, .int), (Ka3, .long), (Ka4, .boolean)]) [0, 1, 2, 3, 4] rfl
    generalize H1 = H at hP hS ⊢
    have hP : va_P (dC, dI) vwCl [(Ad0, .inr (14, Fs0)), (Ad2, .inr (5, Fs2)), (Ad3, .inl (Ka0, 400, .inl Fa0)), (Ad4, .inl (Ka1, 400, .inl Fa1)), (Ad5, .inl (Ka2, 400, .inl Fa2)), (Ad6, .inl (Ka3, 4000, .inr (.inl Fa3))), (Ad7, .inl (Ka4, 4000, .inl Fa4)), (Ad1, .inr (13, Fs1))] H := hP
    have hD : va_D A [(Ad0, .inr (14, Fs0)), (Ad2, .inr (5, Fs2)), (Ad3, .inl (Ka0, 400, .inl Fa0)), (Ad4, .inl (Ka1, 400, .inl Fa1)), (Ad5, .inl (Ka2, 400, .inl Fa2)), (Ad6, .inl (Ka3, 4000, .inr (.inl Fa3))), (Ad7, .inl (Ka4, 4000, .inl Fa4)), (Ad1, .inr (13, Fs1))] := hD
    rcases hw with ⟨c180, er181⟩ | ⟨c182, er183⟩
    · exact (by exfalso; (try simp only [i_lt, i_le, i_eq, kc_0, kc_20, kc_24, kc_29] at c118 c119 c120 c121 c122 c180); omega)
    · skip
      subst er183
      refine lv_if_eq (tgt := 36) hx hb dX11_make_15 (by decide) (fun c184 => absurd c184 (by decide)) (fun c184 => ?_)
      refine lv_iload_n hx hb dX11_make_18 rfl (lv_at hl 2 rfl) ?_
      refine lv_if_lt (tgt := 28) hx hb dX11_make_19 (by decide) (fun c185 => ?_) (fun c185 => ?_)
      · skip
        exact vx_throw0 (names := ["java/lang/RuntimeException", "java/lang/Exception"]) hx hb hst hown (by decide +kernel) (by decide +kernel) (hts (.classLink RX11 127 "java/lang/IllegalArgumentException") (by decide +kernel)) (hts (.initialized "java/lang/IllegalArgumentException") (by decide +kernel)) (vx_hat (B := xB "java/lang/IllegalArgumentException") (fun w h => hts w ((in_z_X11_make_at0_X11_129) w h)) (by decide +kernel) (Zz_xB hZ (by decide))) (by decide +kernel) hZ.1 hZ.2.1 hS (hl.1.trans hml.symm) dX11_make_28 dX11_make_31 dX11_make_32 dX11_make_35 (fun x h => (htab x h).elim) (by decide) (Nat.le_of_ble_eq_true rfl) (Nat.le_of_ble_eq_true rfl) (Nat.le_of_ble_eq_true rfl) hlocks (fun t _ h1 h2 => ⟨(), trivial, (Or.inr (Or.inr (Or.inr (Or.inr (Or.inl ⟨rfl, c118, c119, c120, c121, c122, c182, c185⟩))))), xx_F hS h1 h2⟩) hS.2.2 (by decide) (by decide)
      · skip
        refine lv_iload_n hx hb dX11_make_22 rfl (lv_at hl 2 rfl) ?_
        refine lv_bipush (v := 60) hx hb dX11_make_23 (by decide) ?_
        refine lv_icmp_le (tgt := 36) hx hb dX11_make_25 (by decide) (fun c186 => ?_) (fun c186 => ?_)
        · skip
          refine lv_iload_n hx hb dX11_make_36 rfl (lv_at hl 1 rfl) ?_
          have hPc := hP.sub (ws' := []) [] rfl
          have hDc := hD.sub (ws' := []) [] (by decide) rfl
          have hKc := hK.sub (tys' := []) [] rfl
          have hFc := va_free (wc := []) hD hS hA [] rfl
          refine va_calli (va_runS (As := [.int Va0]) (rest := []) ⟨hx, hb, hml, hown, hts⟩ (z_X10_isArray l dC dI H.size Va0  ) (va_cwS 1 hts g_z_X11_make_z_X10_isArray_206 rfl rfl rfl (by decide +kernel) ⟨Nat.le_of_ble_eq_true rfl, Nat.le_of_ble_eq_true rfl⟩) ⟨fun a U g mk q => by obtain ⟨q0, q1, qP, qK, qD⟩ := q; exact ⟨q0, q1, qP, va_K.moved (u := U) (U := U.calling g mk a) (Vm.Alike.refl U.vm) qK, qD⟩, fun U hU hW => ⟨rfl, by rw [hU], by rw [hU]; exact hPc, va_K.moved hW.alike hKc, hDc.weaken (fun _ _ _ _ => trivial)⟩⟩ rfl rfl hl.1 rfl (lv_room (Nat.le_of_ble_eq_true rfl)) dX11_make_37 ⟨Nat.le_of_ble_eq_true rfl, Nat.le_of_ble_eq_true rfl⟩) hS (fun q _ h => hFc q h) hFc (fun r187 u t H1 locs ht hvm hw hB hz1 hk1 hS => ?_)
          obtain ⟨hP1, hK1, hD1⟩ := hB
          rw [ht] at hP1
          try dsimp only at hw
          obtain ⟨hP, hD⟩ := va_join (wr := [(Ad0, .inr (14, Fs0)), (Ad2, .inr (5, Fs2)), (Ad3, .inl (Ka0, 400, .inl Fa0)), (Ad4, .inl (Ka1, 400, .inl Fa1)), (Ad5, .inl (Ka2, 400, .inl Fa2)), (Ad6, .inl (Ka3, 4000, .inr (.inl Fa3))), (Ad7, .inl (Ka4, 4000, .inl Fa4)), (Ad1, .inr (13, Fs1))]) (w1 := []) hP hD [] [0, 1, 2, 3, 4, 5, 6, 7] rfl rfl (by decide) (by decide) hk1 hFc hP1 hD1
          have hK := hK.sub (tys' := [(Ka0, .int), (Ka1, .int), (Ka2, .int), (Ka3, .long), (Ka4, .boolean)]) [0, 1, 2, 3, 4] rfl
          generalize H1 = H at hP hS ⊢
          have hP : va_P (dC, dI) vwCl [(Ad0, .inr (14, Fs0)), (Ad2, .inr (5, Fs2)), (Ad3, .inl (Ka0, 400, .inl Fa0)), (Ad4, .inl (Ka1, 400, .inl Fa1)), (Ad5, .inl (Ka2, 400, .inl Fa2)), (Ad6, .inl (Ka3, 4000, .inr (.inl Fa3))), (Ad7, .inl (Ka4, 4000, .inl Fa4)), (Ad1, .inr (13, Fs1))] H := hP
          have hD : va_D A [(Ad0, .inr (14, Fs0)), (Ad2, .inr (5, Fs2)), (Ad3, .inl (Ka0, 400, .inl Fa0)), (Ad4, .inl (Ka1, 400, .inl Fa1)), (Ad5, .inl (Ka2, 400, .inl Fa2)), (Ad6, .inl (Ka3, 4000, .inr (.inl Fa3))), (Ad7, .inl (Ka4, 4000, .inl Fa4)), (Ad1, .inr (13, Fs1))] := hD
          rcases hw with ⟨c188, er189⟩ | ⟨c190, er191⟩
          · exact (by exfalso; (try simp only [i_lt, i_le, i_eq, kc_0, kc_20, kc_24, kc_29] at c118 c119 c120 c121 c122 c182 c188); omega)
          · skip
            subst er191
            refine lv_if_eq (tgt := 47) hx hb dX11_make_40 (by decide) (fun c192 => absurd c192 (by decide)) (fun c192 => ?_)
            refine lv_iload_n hx hb dX11_make_43 rfl (lv_at hl 2 rfl) ?_
            refine lv_goto (tgt := 48) hx hb dX11_make_44 (by decide) ?_
            refine lv_istore_n (lv' := [(3, .int Va1), (0, .ref Ad0), (1, .int Va0), (2, .int Va1)]) hx hb dX11_make_48 rfl hl (by decide) rfl (fun ls hl => ?_)
            refine lv_aload_n hx hb dX11_make_49 rfl (lv_at hl 1 rfl) ?_
            refine va_get (D := (dC, dI)) (ci := 14) (v := .ref Ad2) (C := RX11) (T := TX11) (N := 18) hx hb hts (in_z_X11_make_X11) hown hK hP 0 rfl rfl 2 (by decide) (hts (.fieldLink RX11 28 "HeapWorks" "heap" "LHeapWorks$Heap;") (by decide +kernel)) (fun _ h9 => h9) (ow_at o_Fs0 1 rfl) dX11_make_50 ?_
            refine lv_iconst (v := 1) hx hb dX11_make_53 (by decide) ?_
            refine lv_aload_n hx hb dX11_make_54 rfl (lv_at hl 1 rfl) ?_
            refine va_get (D := (dC, dI)) (ci := 14) (v := .ref Ad1) (C := RX11) (T := TX11) (N := 18) hx hb hts (in_z_X11_make_X11) hown hK hP 0 rfl rfl 1 (by decide) (hts (.fieldLink RX11 19 "HeapWorks" "types" "LHeapWorks$Types;") (by decide +kernel)) (fun _ h9 => h9) (ow_at o_Fs0 0 rfl) dX11_make_55 ?_
            refine lv_iload_n hx hb dX11_make_58 rfl (lv_at hl 2 rfl) ?_
            refine lv_iload_n hx hb dX11_make_59 rfl (lv_at hl 0 rfl) ?_
            have hPc := hP.sub (ws' := []) [] rfl
            have hDc := hD.sub (ws' := []) [] (by decide) rfl
            have hKc := hK.sub (tys' := []) [] rfl
            have hFc := va_free (wc := []) hD hS hA [] rfl
            refine va_calli (va_runV (As := [.int Va0, .int Va1]) (rest := [.int 1, .ref Ad2]) ⟨hx, hb, hml, hown, hts⟩ (z_X10_slotsOf_1 l dC dI H.size Ad1 Va0 Va1  (by (try simp only [i_lt, i_le, i_eq, kc_0, kc_20, kc_24, kc_29] at c118 c119 c120 c121 c122 c182 c190); omega) (by (try simp only [i_lt, i_le, i_eq, kc_0, kc_60] at c185 c186); omega)) (cwV 2 hts g_z_X11_make_z_X10_slotsOf_1_209 rfl rfl rfl (by decide +kernel) ⟨Nat.le_of_ble_eq_true rfl, Nat.le_of_ble_eq_true rfl⟩) ⟨fun a U g mk q => by obtain ⟨q0, q1, qP, qK, qD⟩ := q; exact ⟨q0, q1, qP, va_K.moved (u := U) (U := U.calling g mk a) (Vm.Alike.refl U.vm) qK, qD⟩, va_recv hK hP (ci := 13) (q0 := 7) rfl rfl, fun U hU hW => ⟨rfl, by rw [hU], by rw [hU]; exact hPc, va_K.moved hW.alike hKc, hDc.weaken (fun _ _ _ _ => trivial)⟩⟩ rfl rfl hl.1 rfl (lv_room (Nat.le_of_ble_eq_true rfl)) dX11_make_60 ⟨Nat.le_of_ble_eq_true rfl, Nat.le_of_ble_eq_true rfl⟩) hS (fun q _ h => hFc q h) hFc (fun r193 u t H1 locs ht hvm hw hB hz1 hk1 hS => ?_)
            obtain ⟨hP1, hK1, hD1⟩ := hB
            rw [ht] at hP1
            try dsimp only at hw
            obtain ⟨hP, hD⟩ := va_join (wr := [(Ad0, .inr (14, Fs0)), (Ad2, .inr (5, Fs2)), (Ad3, .inl (Ka0, 400, .inl Fa0)), (Ad4, .inl (Ka1, 400, .inl Fa1)), (Ad5, .inl (Ka2, 400, .inl Fa2)), (Ad6, .inl (Ka3, 4000, .inr (.inl Fa3))), (Ad7, .inl (Ka4, 4000, .inl Fa4)), (Ad1, .inr (13, Fs1))]) (w1 := []) hP hD [] [0, 1, 2, 3, 4, 5, 6, 7] rfl rfl (by decide) (by decide) hk1 hFc hP1 hD1
            have hK := hK.sub (tys' := [(Ka0, .int), (Ka1, .int), (Ka2, .int), (Ka3, .long), (Ka4, .boolean)]) [0, 1, 2, 3, 4] rfl
            generalize H1 = H at hP hS ⊢
            have hP : va_P (dC, dI) vwCl [(Ad0, .inr (14, Fs0)), (Ad2, .inr (5, Fs2)), (Ad3, .inl (Ka0, 400, .inl Fa0)), (Ad4, .inl (Ka1, 400, .inl Fa1)), (Ad5, .inl (Ka2, 400, .inl Fa2)), (Ad6, .inl (Ka3, 4000, .inr (.inl Fa3))), (Ad7, .inl (Ka4, 4000, .inl Fa4)), (Ad1, .inr (13, Fs1))] H := hP
            have hD : va_D A [(Ad0, .inr (14, Fs0)), (Ad2, .inr (5, Fs2)), (Ad3, .inl (Ka0, 400, .inl Fa0)), (Ad4, .inl (Ka1, 400, .inl Fa1)), (Ad5, .inl (Ka2, 400, .inl Fa2)), (Ad6, .inl (Ka3, 4000, .inr (.inl Fa3))), (Ad7, .inl (Ka4, 4000, .inl Fa4)), (Ad1, .inr (13, Fs1))] := hD
            obtain ⟨c194, er195⟩ := hw
            have qer195 := er195.symm
            subst qer195
            have hPc := hP.sub (ws' := [(Ad2, .inr (5, Fs2))]) [1] rfl
            have hDc := hD.sub (ws' := [(Ad2, .inr (5, Fs2))]) [1] (by decide) rfl
            have hKc := hK.sub (tys' := []) [] rfl
            have hFc := va_free (wc := [(Ad2, .inr (5, Fs2))]) hD hS hA [1] rfl
            refine va_calli (va_runV (As := [.int 1, .int Va1]) (rest := []) ⟨hx, hb, hml, hown, hts⟩ (z_X2_hasRoom l dC dI H.size Ad2 Fs2 Va1 (fh_sub o_Fs2.2 [1, 3] rfl) ) (cwV 2 hts g_z_X11_make_z_X2_hasRoom_212 rfl rfl rfl (by decide +kernel) ⟨Nat.le_of_ble_eq_true rfl, Nat.le_of_ble_eq_true rfl⟩) ⟨fun a U g mk q => by obtain ⟨q0, q1, qP, qK, qD⟩ := q; exact ⟨q0, q1, qP, va_K.moved (u := U) (U := U.calling g mk a) (Vm.Alike.refl U.vm) qK, qD⟩, va_recv hK hP (ci := 5) (q0 := 1) rfl rfl, fun U hU hW => ⟨rfl, by rw [hU], by rw [hU]; exact hPc, va_K.moved hW.alike hKc, hDc.weaken (fun _ _ _ _ => trivial)⟩⟩ rfl rfl hl.1 rfl (lv_room (Nat.le_of_ble_eq_true rfl)) dX11_make_63 ⟨Nat.le_of_ble_eq_true rfl, Nat.le_of_ble_eq_true rfl⟩) hS (fun q _ h => hFc q h) hFc (fun r196 u t H1 locs ht hvm hw hB hz1 hk1 hS => ?_)
            obtain ⟨hP1, hK1, hD1⟩ := hB
            rw [ht] at hP1
            try dsimp only at hw
            obtain ⟨hP, hD⟩ := va_join (wr := [(Ad0, .inr (14, Fs0)), (Ad3, .inl (Ka0, 400, .inl Fa0)), (Ad4, .inl (Ka1, 400, .inl Fa1)), (Ad5, .inl (Ka2, 400, .inl Fa2)), (Ad6, .inl (Ka3, 4000, .inr (.inl Fa3))), (Ad7, .inl (Ka4, 4000, .inl Fa4)), (Ad1, .inr (13, Fs1))]) (w1 := [(Ad2, .inr (5, Fs2))]) hP hD [1] [0, 2, 3, 4, 5, 6, 7] rfl rfl (by decide) (by decide) hk1 hFc hP1 hD1
            have hK := hK.sub (tys' := [(Ka0, .int), (Ka1, .int), (Ka2, .int), (Ka3, .long), (Ka4, .boolean)]) [0, 1, 2, 3, 4] rfl
            generalize H1 = H at hP hS ⊢
            have hP : va_P (dC, dI) vwCl [(Ad0, .inr (14, Fs0)), (Ad3, .inl (Ka0, 400, .inl Fa0)), (Ad4, .inl (Ka1, 400, .inl Fa1)), (Ad5, .inl (Ka2, 400, .inl Fa2)), (Ad6, .inl (Ka3, 4000, .inr (.inl Fa3))), (Ad7, .inl (Ka4, 4000, .inl Fa4)), (Ad1, .inr (13, Fs1)), (Ad2, .inr (5, Fs2))] H := hP
            have hD : va_D A [(Ad0, .inr (14, Fs0)), (Ad3, .inl (Ka0, 400, .inl Fa0)), (Ad4, .inl (Ka1, 400, .inl Fa1)), (Ad5, .inl (Ka2, 400, .inl Fa2)), (Ad6, .inl (Ka3, 4000, .inr (.inl Fa3))), (Ad7, .inl (Ka4, 4000, .inl Fa4)), (Ad1, .inr (13, Fs1)), (Ad2, .inr (5, Fs2))] := hD
            rcases hw with ⟨c197, er198⟩ | ⟨c199, er200⟩
            · exact (by exfalso; (try simp only [i_lt, i_le, i_eq, kc_0, kc_60, kc_4000] at c185 c186 c197); omega)
            · skip
              subst er200
              refine lv_if_ne (tgt := 77) hx hb dX11_make_66 (by decide) (fun c201 => ?_) (fun c201 => absurd c201 (by decide))
              refine lv_aload_n hx hb dX11_make_77 rfl (lv_at hl 1 rfl) ?_
              refine va_get (D := (dC, dI)) (ci := 14) (v := .ref Ad2) (C := RX11) (T := TX11) (N := 18) hx hb hts (in_z_X11_make_X11) hown hK hP 0 rfl rfl 2 (by decide) (hts (.fieldLink RX11 28 "HeapWorks" "heap" "LHeapWorks$Heap;") (by decide +kernel)) (fun _ h9 => h9) (ow_at o_Fs0 1 rfl) dX11_make_78 ?_
              refine lv_iload_n hx hb dX11_make_81 rfl (lv_at hl 2 rfl) ?_
              refine lv_iload_n hx hb dX11_make_82 rfl (lv_at hl 0 rfl) ?_
              have hPc := hP.sub (ws' := [(Ad3, .inl (Ka0, 400, .inl Fa0)), (Ad4, .inl (Ka1, 400, .inl Fa1)), (Ad5, .inl (Ka2, 400, .inl Fa2)), (Ad6, .inl (Ka3, 4000, .inr (.inl Fa3))), (Ad7, .inl (Ka4, 4000, .inl Fa4)), (Ad1, .inr (13, Fs1)), (Ad2, .inr (5, Fs2))]) [1, 2, 3, 4, 5, 6, 7] rfl
              have hDc := hD.sub (ws' := [(Ad3, .inl (Ka0, 400, .inl Fa0)), (Ad4, .inl (Ka1, 400, .inl Fa1)), (Ad5, .inl (Ka2, 400, .inl Fa2)), (Ad6, .inl (Ka3, 4000, .inr (.inl Fa3))), (Ad7, .inl (Ka4, 4000, .inl Fa4)), (Ad1, .inr (13, Fs1)), (Ad2, .inr (5, Fs2))]) [1, 2, 3, 4, 5, 6, 7] (by decide) rfl
              have hKc := hK.sub (tys' := [(Ka0, .int), (Ka1, .int), (Ka2, .int), (Ka3, .long), (Ka4, .boolean)]) [0, 1, 2, 3, 4] rfl
              have hFc := va_free (wc := [(Ad3, .inl (Ka0, 400, .inl Fa0)), (Ad4, .inl (Ka1, 400, .inl Fa1)), (Ad5, .inl (Ka2, 400, .inl Fa2)), (Ad6, .inl (Ka3, 4000, .inr (.inl Fa3))), (Ad7, .inl (Ka4, 4000, .inl Fa4)), (Ad1, .inr (13, Fs1)), (Ad2, .inr (5, Fs2))]) hD hS hA [1, 2, 3, 4, 5, 6, 7] rfl
              refine va_calli (va_runV (As := [.int Va0, .int Va1]) (rest := []) ⟨hx, hb, hml, hown, hts⟩ (z_X2_create_1 l dC dI H.size Ad3 Fa0 Ka0 Ad4 Fa1 Ka1 Ad5 Fa2 Ka2 Ad6 Fa3 Ka3 Ad7 Fa4 Ka4 Ad1 Fs1 Ad2 Fs2 Va0 Va1 (fh_sub o_Fs1.2 [0] rfl) (fh_sub o_Fs2.2 [0, 1, 2, 3, 4, 5, 6, 7, 8] rfl) (by (try simp only [i_lt, i_le, i_eq, kc_0, kc_20, kc_24, kc_29] at c118 c119 c120 c121 c122 c182 c190 c194); omega) (by (try simp only [i_lt, i_le, i_eq, kc_0, kc_60, kc_4000] at c185 c186 c199); omega)) (cwV 2 hts g_z_X11_make_z_X2_create_1_215 rfl rfl rfl (by decide +kernel) ⟨Nat.le_of_ble_eq_true rfl, Nat.le_of_ble_eq_true rfl⟩) ⟨fun a U g mk q => by obtain ⟨q0, q1, qP, qK, qD⟩ := q; exact ⟨q0, q1, qP, va_K.moved (u := U) (U := U.calling g mk a) (Vm.Alike.refl U.vm) qK, qD⟩, va_recv hK hP (ci := 5) (q0 := 7) rfl rfl, fun U hU hW => ⟨rfl, by rw [hU], by rw [hU]; exact hPc, va_K.moved hW.alike hKc, hDc.weaken (fun _ _ _ _ => trivial)⟩⟩ rfl rfl hl.1 rfl (lv_room (Nat.le_of_ble_eq_true rfl)) dX11_make_83 ⟨Nat.le_of_ble_eq_true rfl, Nat.le_of_ble_eq_true rfl⟩) hS (fun q _ h => hFc q h) hFc (fun r202 u t H1 locs ht hvm hw hB hz1 hk1 hS => ?_)
              obtain ⟨f203, f204, f205, f206, f207, s208⟩ := u
              obtain ⟨hP1, hK1, hD1⟩ := hB
              rw [ht] at hP1
              try dsimp only at hw
              obtain ⟨hP, hD⟩ := va_join (wr := [(Ad0, .inr (14, Fs0))]) (w1 := [(Ad3, .inl (Ka0, 400, .inl f203)), (Ad4, .inl (Ka1, 400, .inl f204)), (Ad5, .inl (Ka2, 400, .inl f205)), (Ad6, .inl (Ka3, 4000, .inr (.inl f206))), (Ad7, .inl (Ka4, 4000, .inl f207)), (Ad1, .inr (13, Fs1)), (Ad2, .inr (5, s208))]) hP hD [1, 2, 3, 4, 5, 6, 7] [0] rfl rfl (by decide) (by decide) hk1 hFc hP1 hD1
              have hK := hK.sub (tys' := [(Ka0, .int), (Ka1, .int), (Ka2, .int), (Ka3, .long), (Ka4, .boolean)]) [0, 1, 2, 3, 4] rfl
              generalize H1 = H at hP hS ⊢
              have hP : va_P (dC, dI) vwCl [(Ad0, .inr (14, Fs0)), (Ad3, .inl (Ka0, 400, .inl f203)), (Ad4, .inl (Ka1, 400, .inl f204)), (Ad5, .inl (Ka2, 400, .inl f205)), (Ad6, .inl (Ka3, 4000, .inr (.inl f206))), (Ad7, .inl (Ka4, 4000, .inl f207)), (Ad1, .inr (13, Fs1)), (Ad2, .inr (5, s208))] H := hP
              have hD : va_D A [(Ad0, .inr (14, Fs0)), (Ad3, .inl (Ka0, 400, .inl f203)), (Ad4, .inl (Ka1, 400, .inl f204)), (Ad5, .inl (Ka2, 400, .inl f205)), (Ad6, .inl (Ka3, 4000, .inr (.inl f206))), (Ad7, .inl (Ka4, 4000, .inl f207)), (Ad1, .inr (13, Fs1)), (Ad2, .inr (5, s208))] := hD
              obtain ⟨c209, c210, c211, er212, o_s208, q213, q214, q215⟩ := hw
              subst er212
              have o_s208 := ow_on o_Fs2 o_s208 (l' := [(0, .ref Ad1), (4, .ref Ad3), (5, .ref Ad4), (6, .ref Ad5), (7, .ref Ad6), (8, .ref Ad7), (0, .ref Ad1), (4, .ref Ad3), (5, .ref Ad4), (6, .ref Ad5), (7, .ref Ad6), (8, .ref Ad7)]) (w' := [1, 2, 3]) rfl rfl
              have hP9 := hP.sub (ws' := [(Ad0, .inr (14, Fs0)), (Ad1, .inr (13, Fs1)), (Ad2, .inr (5, s208)), (Ad3, .inl (Ka0, 400, .inl f203)), (Ad4, .inl (Ka1, 400, .inl f204)), (Ad5, .inl (Ka2, 400, .inl f205)), (Ad6, .inl (Ka3, 4000, .inr (.inl f206))), (Ad7, .inl (Ka4, 4000, .inl f207))]) [0, 6, 7, 1, 2, 3, 4, 5] rfl
              have hD9 := hD.sub (ws' := [(Ad0, .inr (14, Fs0)), (Ad1, .inr (13, Fs1)), (Ad2, .inr (5, s208)), (Ad3, .inl (Ka0, 400, .inl f203)), (Ad4, .inl (Ka1, 400, .inl f204)), (Ad5, .inl (Ka2, 400, .inl f205)), (Ad6, .inl (Ka3, 4000, .inr (.inl f206))), (Ad7, .inl (Ka4, 4000, .inl f207))]) [0, 6, 7, 1, 2, 3, 4, 5] (by decide) rfl
              have hK9 := hK.sub (tys' := [(Ka0, .int), (Ka1, .int), (Ka2, .int), (Ka3, .long), (Ka4, .boolean)]) [0, 1, 2, 3, 4] rfl
              refine vx_ret ?_
              refine W.widen (k := 1) (n := 6) (by decide) (by decide) ?_
              exact W.iret (v := 0) hx hb hr (fun t ht hW => ⟨⟨0, (s208, f203, f204, f205, f206, f207), rfl, (Or.inr (⟨c118, c119, c120, c121, c122, c182, c185, c186, c190, c194, c199, c209, c210, c211, rfl, o_s208, q213, q214, q215⟩)), by rw [ht]; exact hP9, va_K.moved hW.alike hK9, hD9⟩, hS.F ht⟩) hS.2.2 dX11_make_86
        · skip
          exact vx_throw0 (names := ["java/lang/RuntimeException", "java/lang/Exception"]) hx hb hst hown (by decide +kernel) (by decide +kernel) (hts (.classLink RX11 127 "java/lang/IllegalArgumentException") (by decide +kernel)) (hts (.initialized "java/lang/IllegalArgumentException") (by decide +kernel)) (vx_hat (B := xB "java/lang/IllegalArgumentException") (fun w h => hts w ((in_z_X11_make_at0_X11_129) w h)) (by decide +kernel) (Zz_xB hZ (by decide))) (by decide +kernel) hZ.1 hZ.2.1 hS (hl.1.trans hml.symm) dX11_make_28 dX11_make_31 dX11_make_32 dX11_make_35 (fun x h => (htab x h).elim) (by decide) (Nat.le_of_ble_eq_true rfl) (Nat.le_of_ble_eq_true rfl) (Nat.le_of_ble_eq_true rfl) hlocks (fun t _ h1 h2 => ⟨(), trivial, (Or.inr (Or.inr (Or.inr (Or.inr (Or.inr (Or.inl ⟨rfl, c118, c119, c120, c121, c122, c182, c185, c186⟩)))))), xx_F hS h1 h2⟩) hS.2.2 (by decide) (by decide)
  · skip
    subst er130
    refine lv_if_eq (tgt := 28) hx hb dX11_make_8 (by decide) (fun c216 => ?_) (fun c216 => absurd c216 (by decide))
    exact vx_throw0 (names := ["java/lang/RuntimeException", "java/lang/Exception"]) hx hb hst hown (by decide +kernel) (by decide +kernel) (hts (.classLink RX11 127 "java/lang/IllegalArgumentException") (by decide +kernel)) (hts (.initialized "java/lang/IllegalArgumentException") (by decide +kernel)) (vx_hat (B := xB "java/lang/IllegalArgumentException") (fun w h => hts w ((in_z_X11_make_at0_X11_129) w h)) (by decide +kernel) (Zz_xB hZ (by decide))) (by decide +kernel) hZ.1 hZ.2.1 hS (hl.1.trans hml.symm) dX11_make_28 dX11_make_31 dX11_make_32 dX11_make_35 (fun x h => (htab x h).elim) (by decide) (Nat.le_of_ble_eq_true rfl) (Nat.le_of_ble_eq_true rfl) (Nat.le_of_ble_eq_true rfl) hlocks (fun t _ h1 h2 => ⟨(), trivial, (Or.inr (Or.inr (Or.inr (Or.inr (Or.inr (Or.inr (Or.inl ⟨rfl, c124, c125, c126, c127, c128, c129⟩))))))), xx_F hS h1 h2⟩) hS.2.2 (by decide) (by decide)
  · skip
    subst er137
    refine lv_if_eq (tgt := 28) hx hb dX11_make_8 (by decide) (fun c217 => ?_) (fun c217 => absurd c217 (by decide))
    exact vx_throw0 (names := ["java/lang/RuntimeException", "java/lang/Exception"]) hx hb hst hown (by decide +kernel) (by decide +kernel) (hts (.classLink RX11 127 "java/lang/IllegalArgumentException") (by decide +kernel)) (hts (.initialized "java/lang/IllegalArgumentException") (by decide +kernel)) (vx_hat (B := xB "java/lang/IllegalArgumentException") (fun w h => hts w ((in_z_X11_make_at0_X11_129) w h)) (by decide +kernel) (Zz_xB hZ (by decide))) (by decide +kernel) hZ.1 hZ.2.1 hS (hl.1.trans hml.symm) dX11_make_28 dX11_make_31 dX11_make_32 dX11_make_35 (fun x h => (htab x h).elim) (by decide) (Nat.le_of_ble_eq_true rfl) (Nat.le_of_ble_eq_true rfl) (Nat.le_of_ble_eq_true rfl) hlocks (fun t _ h1 h2 => ⟨(), trivial, (Or.inr (Or.inr (Or.inr (Or.inr (Or.inr (Or.inr (Or.inr (⟨rfl, c131, c132, c133, c134, c135, c136⟩)))))))), xx_F hS h1 h2⟩) hS.2.2 (by decide) (by decide)

def l_z_X2_isThere : List Cond := [.fieldLink RX2 47 "HeapWorks$Heap" "made" "I"]
def w_z_X2_isThere : List Cond := .code yX2_isThere cX2_isThere 2 (some .boolean) :: (l_z_X2_isThere ++ (wsX20))
theorem in_z_X2_isThere_X2 : ∀ w ∈ wsX20, w ∈ w_z_X2_isThere := fun w h => List.mem_cons_of_mem _ (List.mem_append_right _ (h))
set_option maxHeartbeats 4000000 in
set_option maxRecDepth 100000 in
theorem z_X2_isThere (l : Launch) (dC : Nat → ClassId) (dI : Nat → Nat → Nat) (sz : Nat) (Ad0 : Nat) (Fs0 : List Value) (Va0 : Int32) (k_Fs0 : fh Fs0 14 [(1, .int 0)])  : Met l yX2_isThere w_z_X2_isThere ({ frames := 0, cells := 0, slots := 0, locals := 0 }) (va_Pc [.ref Ad0, .int Va0] (fun U => U.heap.size = sz ∧ Wd dC dI [] (fun _ => True) [(Ad0, .inr (5, Fs0))] U)) (va_Qi (fun (r : Int32) (u : Unit) => (Va0 < 0 ∧ r = 0) ∨ (¬ Va0 < 0 ∧ 0 ≤ Va0 ∧ r = 0)) (fun (u : Unit) t => Wd dC dI [] (va_A [(Ad0, .inr (5, Fs0))] sz) [(Ad0, .inr (5, Fs0))] t) (va_A [(Ad0, .inr (5, Fs0))] sz))  0 0 (va_A [(Ad0, .inr (5, Fs0))] sz) := by
  refine Met.ofW (cc := cX2_isThere) (maxL := 2) (ret := (some .boolean)) (by decide) rfl ?_
  intro p e s m args below meth c s₁ B hml hv
  obtain ⟨rfl, hsz, hP, hK, hD0⟩ := hv
  have hx := B.exec
  have hb := B.bytes
  have hr := B.returns
  have hts := atoms_spec (ws := w_z_X2_isThere) B.pre
  have hown : s.vm.findClass RX2 = some m.cls := findClass_of_methodNamed B.named
  have hlocks := B.notSynchronized
  subst hsz
  have hD := hD0.self (sz := s.heap.size)
  generalize hAe : va_A [(Ad0, .inr (5, Fs0))] s.heap.size = A at hD ⊢
  have hA : ∀ q : Nat, s.heap.size ≤ q → A q := fun q h => by rw [← hAe]; exact Or.inr h
  have hS : va_S A s.heap s.heap [] := va_S.rf
  have hl := lv_entry ([.ref Ad0, .int Va0]) (n := 2) (Nat.le_of_ble_eq_true rfl)
  rw [lg_entry_eq]
  generalize (lg_sl ([.ref Ad0, .int Va0]) ++ List.replicate (2 - (lg_sl ([.ref Ad0, .int Va0])).length) Slot.unset).toArray = ls at hl ⊢
  have hl : lv_has ls 2 [(0, .ref Ad0), (1, .int Va0)] := hl
  have o_Fs0 := ow_0 k_Fs0
  refine lv_iload_n hx hb dX2_isThere_0 rfl (lv_at hl 1 rfl) ?_
  refine lv_if_lt (tgt := 26) hx hb dX2_isThere_1 (by decide) (fun c101 => ?_) (fun c101 => ?_)
  · skip
    refine lv_iconst (v := 0) hx hb dX2_isThere_26 (by decide) ?_
    have hP9 := hP.sub (ws' := [(Ad0, .inr (5, Fs0))]) [0] rfl
    have hD9 := hD.sub (ws' := [(Ad0, .inr (5, Fs0))]) [0] (by decide) rfl
    have hK9 := hK.sub (tys' := []) [] rfl
    exact W.zret (v := 0) hx hb hr rfl (fun t ht hW => ⟨⟨0, (), rfl, (Or.inl ⟨c101, rfl⟩), by rw [ht]; exact hP9, va_K.moved hW.alike hK9, hD9⟩, hS.F ht⟩) hS.2.2 dX2_isThere_27
  · skip
    refine lv_iload_n hx hb dX2_isThere_4 rfl (lv_at hl 1 rfl) ?_
    refine lv_aload_n hx hb dX2_isThere_5 rfl (lv_at hl 0 rfl) ?_
    refine va_get (D := (dC, dI)) (ci := 5) (v := .int 0) (C := RX2) (T := TX2) (N := 14) hx hb hts (in_z_X2_isThere_X2) hown hK hP 0 rfl rfl 1 (by decide) (hts (.fieldLink RX2 47 "HeapWorks$Heap" "made" "I") (by decide +kernel)) (fun _ h9 => h9) (ow_at o_Fs0 0 rfl) dX2_isThere_6 ?_
    refine lv_icmp_ge (tgt := 26) hx hb dX2_isThere_9 (by decide) (fun c102 => ?_) (fun c102 => (by exfalso; have bd_Va0 := i_bd Va0; (try simp only [i_lt, i_le, i_eq, kc_0] at c101 c102); omega))
    refine lv_iconst (v := 0) hx hb dX2_isThere_26 (by decide) ?_
    have hP9 := hP.sub (ws' := [(Ad0, .inr (5, Fs0))]) [0] rfl
    have hD9 := hD.sub (ws' := [(Ad0, .inr (5, Fs0))]) [0] (by decide) rfl
    have hK9 := hK.sub (tys' := []) [] rfl
    exact W.zret (v := 0) hx hb hr rfl (fun t ht hW => ⟨⟨0, (), rfl, (Or.inr (⟨c101, c102, rfl⟩)), by rw [ht]; exact hP9, va_K.moved hW.alike hK9, hD9⟩, hS.F ht⟩) hS.2.2 dX2_isThere_27

def l_z_X11_root : List Cond := [.fieldLink RX11 28 "HeapWorks" "heap" "LHeapWorks$Heap;", .methodLink RX11 218 yX2_isThere, .instanceMethod yX2_isThere, .selects RX2 yX2_isThere yX2_isThere, .initialized RX2, .classLink RX11 221 "java/util/NoSuchElementException", .initialized "java/util/NoSuchElementException", .code yX2_isThere cX2_isThere 2 (some .boolean), .fieldLink RX2 47 "HeapWorks$Heap" "made" "I"]
def w_z_X11_root : List Cond := .code yX11_root cX11_root 4 none :: (l_z_X11_root ++ ((wsX110 ++ (((vx_at0 RX11 223 "java/util/NoSuchElementException" ["java/lang/RuntimeException", "java/lang/Exception"]).filter goodWord) ++ wsX20))))
theorem in_z_X11_root_X11 : ∀ w ∈ wsX110, w ∈ w_z_X11_root := fun w h => List.mem_cons_of_mem _ (List.mem_append_right _ (List.mem_append_left _ h))
theorem in_z_X11_root_at0_X11_223 : ∀ w ∈ ((vx_at0 RX11 223 "java/util/NoSuchElementException" ["java/lang/RuntimeException", "java/lang/Exception"]).filter goodWord), w ∈ w_z_X11_root := fun w h => List.mem_cons_of_mem _ (List.mem_append_right _ (List.mem_append_right _ (List.mem_append_left _ h)))
theorem in_z_X11_root_X2 : ∀ w ∈ wsX20, w ∈ w_z_X11_root := fun w h => List.mem_cons_of_mem _ (List.mem_append_right _ (List.mem_append_right _ (List.mem_append_right _ (h))))
theorem g_z_X11_root_z_X2_isThere_218 : GoodIn w_z_X11_root (wsV RX11 218 RX2 yX2_isThere w_z_X2_isThere) := goodIn_app (goodIn_r (([.methodLink RX11 218 yX2_isThere, .instanceMethod yX2_isThere, .selects RX2 yX2_isThere yX2_isThere, .initialized RX2] : List Cond)) [2, 3, 4, 5] rfl (by decide +kernel)) (goodIn_ca (goodIn_r (.code yX2_isThere cX2_isThere 2 (some .boolean) :: l_z_X2_isThere) [8, 9] rfl (by decide +kernel)) (goodIn_in (in_z_X11_root_X2) gd_X2))
set_option maxHeartbeats 4000000 in
set_option maxRecDepth 100000 in
theorem z_X11_root (l : Launch) (dC : Nat → ClassId) (dI : Nat → Nat → Nat) (sz : Nat) (Ad0 : Nat) (Fs0 : List Value) (Ad1 : Nat) (Fs1 : List Value) (Va0 : Int32) (k_Fs0 : fh Fs0 18 [(2, .ref Ad1)]) (k_Fs1 : fh Fs1 14 [(1, .int 0)]) (hst : l.stackTraces = false)  : vx_Met l yX11_root w_z_X11_root ({ frames := 7, cells := 1, slots := 6, locals := 140 }) (va_Pc [.ref Ad0, .int Va0, .int 0] (fun U => U.heap.size = sz ∧ Zz (va_A [(Ad0, .inr (14, Fs0)), (Ad1, .inr (5, Fs1))] sz) U ∧ Wd dC dI [] (fun _ => True) [(Ad0, .inr (14, Fs0)), (Ad1, .inr (5, Fs1))] U)) (va_Qv (fun (u : Unit) => False) (fun (u : Unit) t => Wd dC dI [] (va_A [(Ad0, .inr (14, Fs0)), (Ad1, .inr (5, Fs1))] sz) [(Ad0, .inr (14, Fs0)), (Ad1, .inr (5, Fs1))] t) (va_A [(Ad0, .inr (14, Fs0)), (Ad1, .inr (5, Fs1))] sz)) (vx_X (fun _ : Unit => True) (fun E _ _ => (E = "java/util/NoSuchElementException" ∧ Va0 < 0) ∨ (E = "java/util/NoSuchElementException" ∧ ¬ Va0 < 0 ∧ 0 ≤ Va0)) (va_A [(Ad0, .inr (14, Fs0)), (Ad1, .inr (5, Fs1))] sz)) 1 6 (va_A [(Ad0, .inr (14, Fs0)), (Ad1, .inr (5, Fs1))] sz) := by
  refine vx_ofW (cc := cX11_root) (maxL := 4) (ret := none) (by decide) rfl ?_
  intro p e s m args below meth c s₁ B hml htab hv
  obtain ⟨rfl, hsz, hZ, hP, hK, hD0⟩ := hv
  have hx := B.exec
  have hb := B.bytes
  have hr := B.returns
  have hts := atoms_spec (ws := w_z_X11_root) B.pre
  have hown : s.vm.findClass RX11 = some m.cls := findClass_of_methodNamed B.named
  have hlocks := B.notSynchronized
  subst hsz
  have hD := hD0.self (sz := s.heap.size)
  generalize hAe : va_A [(Ad0, .inr (14, Fs0)), (Ad1, .inr (5, Fs1))] s.heap.size = A at hD hZ ⊢
  have hA : ∀ q : Nat, s.heap.size ≤ q → A q := fun q h => by rw [← hAe]; exact Or.inr h
  have hS : va_S A s.heap s.heap [] := va_S.rf
  have hl := lv_entry ([.ref Ad0, .int Va0, .int 0]) (n := 4) (Nat.le_of_ble_eq_true rfl)
  rw [lg_entry_eq]
  generalize (lg_sl ([.ref Ad0, .int Va0, .int 0]) ++ List.replicate (4 - (lg_sl ([.ref Ad0, .int Va0, .int 0])).length) Slot.unset).toArray = ls at hl ⊢
  have hl : lv_has ls 4 [(0, .ref Ad0), (1, .int Va0), (2, .int 0)] := hl
  have o_Fs0 := ow_0 k_Fs0
  have o_Fs1 := ow_0 k_Fs1
  refine lv_aload_n hx hb dX11_root_0 rfl (lv_at hl 0 rfl) ?_
  refine va_get (D := (dC, dI)) (ci := 14) (v := .ref Ad1) (C := RX11) (T := TX11) (N := 18) hx hb hts (in_z_X11_root_X11) hown hK hP 0 rfl rfl 2 (by decide) (hts (.fieldLink RX11 28 "HeapWorks" "heap" "LHeapWorks$Heap;") (by decide +kernel)) (fun _ h9 => h9) (ow_at o_Fs0 0 rfl) dX11_root_1 ?_
  refine lv_iload_n hx hb dX11_root_4 rfl (lv_at hl 1 rfl) ?_
  have hPc := hP.sub (ws' := [(Ad1, .inr (5, Fs1))]) [1] rfl
  have hDc := hD.sub (ws' := [(Ad1, .inr (5, Fs1))]) [1] (by decide) rfl
  have hKc := hK.sub (tys' := []) [] rfl
  have hFc := va_free (wc := [(Ad1, .inr (5, Fs1))]) hD hS hA [1] rfl
  refine va_calli (va_runV (As := [.int Va0]) (rest := []) ⟨hx, hb, hml, hown, hts⟩ (z_X2_isThere l dC dI s.heap.size Ad1 Fs1 Va0 (fh_sub o_Fs1.2 [0] rfl) ) (cwV 1 hts g_z_X11_root_z_X2_isThere_218 rfl rfl rfl (by decide +kernel) ⟨Nat.le_of_ble_eq_true rfl, Nat.le_of_ble_eq_true rfl⟩) ⟨fun a U g mk q => by obtain ⟨q0, q1, qP, qK, qD⟩ := q; exact ⟨q0, q1, qP, va_K.moved (u := U) (U := U.calling g mk a) (Vm.Alike.refl U.vm) qK, qD⟩, va_recv hK hP (ci := 5) (q0 := 1) rfl rfl, fun U hU hW => ⟨rfl, by rw [hU], by rw [hU]; exact hPc, va_K.moved hW.alike hKc, hDc.weaken (fun _ _ _ _ => trivial)⟩⟩ rfl rfl hl.1 rfl (lv_room (Nat.le_of_ble_eq_true rfl)) dX11_root_5 ⟨Nat.le_of_ble_eq_true rfl, Nat.le_of_ble_eq_true rfl⟩) hS (fun q _ h => hFc q h) hFc (fun r101 u t H1 locs ht hvm hw hB hz1 hk1 hS => ?_)
  obtain ⟨hP1, hK1, hD1⟩ := hB
  rw [ht] at hP1
  try dsimp only at hw
  obtain ⟨hP, hD⟩ := va_join (wr := [(Ad0, .inr (14, Fs0))]) (w1 := [(Ad1, .inr (5, Fs1))]) hP hD [1] [0] rfl rfl (by decide) (by decide) hk1 hFc hP1 hD1
  have hK := hK.sub (tys' := []) [] rfl
  generalize H1 = H at hP hS ⊢
  have hP : va_P (dC, dI) vwCl [(Ad0, .inr (14, Fs0)), (Ad1, .inr (5, Fs1))] H := hP
  have hD : va_D A [(Ad0, .inr (14, Fs0)), (Ad1, .inr (5, Fs1))] := hD
  rcases hw with ⟨c102, er103⟩ | ⟨c104, c105, er106⟩
  · skip
    subst er103
    refine lv_if_ne (tgt := 19) hx hb dX11_root_8 (by decide) (fun c107 => absurd c107 (by decide)) (fun c107 => ?_)
    exact vx_throw0 (names := ["java/lang/RuntimeException", "java/lang/Exception"]) hx hb hst hown (by decide +kernel) (by decide +kernel) (hts (.classLink RX11 221 "java/util/NoSuchElementException") (by decide +kernel)) (hts (.initialized "java/util/NoSuchElementException") (by decide +kernel)) (vx_hat (B := xB "java/util/NoSuchElementException") (fun w h => hts w ((in_z_X11_root_at0_X11_223) w h)) (by decide +kernel) (Zz_xB hZ (by decide))) (by decide +kernel) hZ.1 hZ.2.1 hS (hl.1.trans hml.symm) dX11_root_11 dX11_root_14 dX11_root_15 dX11_root_18 (fun x h => (htab x h).elim) (by decide) (Nat.le_of_ble_eq_true rfl) (Nat.le_of_ble_eq_true rfl) (Nat.le_of_ble_eq_true rfl) hlocks (fun t _ h1 h2 => ⟨(), trivial, (Or.inl ⟨rfl, c102⟩), xx_F hS h1 h2⟩) hS.2.2 (by decide) (by decide)
  · skip
    subst er106
    refine lv_if_ne (tgt := 19) hx hb dX11_root_8 (by decide) (fun c108 => absurd c108 (by decide)) (fun c108 => ?_)
    exact vx_throw0 (names := ["java/lang/RuntimeException", "java/lang/Exception"]) hx hb hst hown (by decide +kernel) (by decide +kernel) (hts (.classLink RX11 221 "java/util/NoSuchElementException") (by decide +kernel)) (hts (.initialized "java/util/NoSuchElementException") (by decide +kernel)) (vx_hat (B := xB "java/util/NoSuchElementException") (fun w h => hts w ((in_z_X11_root_at0_X11_223) w h)) (by decide +kernel) (Zz_xB hZ (by decide))) (by decide +kernel) hZ.1 hZ.2.1 hS (hl.1.trans hml.symm) dX11_root_11 dX11_root_14 dX11_root_15 dX11_root_18 (fun x h => (htab x h).elim) (by decide) (Nat.le_of_ble_eq_true rfl) (Nat.le_of_ble_eq_true rfl) (Nat.le_of_ble_eq_true rfl) hlocks (fun t _ h1 h2 => ⟨(), trivial, (Or.inr (⟨rfl, c104, c105⟩)), xx_F hS h1 h2⟩) hS.2.2 (by decide) (by decide)

def l_z_X11_root_1 : List Cond := [.fieldLink RX11 28 "HeapWorks" "heap" "LHeapWorks$Heap;", .methodLink RX11 218 yX2_isThere, .instanceMethod yX2_isThere, .selects RX2 yX2_isThere yX2_isThere, .initialized RX2, .classLink RX11 221 "java/util/NoSuchElementException", .initialized "java/util/NoSuchElementException", .code yX2_isThere cX2_isThere 2 (some .boolean), .fieldLink RX2 47 "HeapWorks$Heap" "made" "I"]
def w_z_X11_root_1 : List Cond := .code yX11_root cX11_root 4 none :: (l_z_X11_root_1 ++ ((wsX110 ++ (((vx_at0 RX11 223 "java/util/NoSuchElementException" ["java/lang/RuntimeException", "java/lang/Exception"]).filter goodWord) ++ wsX20))))
theorem in_z_X11_root_1_X11 : ∀ w ∈ wsX110, w ∈ w_z_X11_root_1 := fun w h => List.mem_cons_of_mem _ (List.mem_append_right _ (List.mem_append_left _ h))
theorem in_z_X11_root_1_at0_X11_223 : ∀ w ∈ ((vx_at0 RX11 223 "java/util/NoSuchElementException" ["java/lang/RuntimeException", "java/lang/Exception"]).filter goodWord), w ∈ w_z_X11_root_1 := fun w h => List.mem_cons_of_mem _ (List.mem_append_right _ (List.mem_append_right _ (List.mem_append_left _ h)))
theorem in_z_X11_root_1_X2 : ∀ w ∈ wsX20, w ∈ w_z_X11_root_1 := fun w h => List.mem_cons_of_mem _ (List.mem_append_right _ (List.mem_append_right _ (List.mem_append_right _ (h))))
theorem g_z_X11_root_1_z_X2_isThere_218 : GoodIn w_z_X11_root_1 (wsV RX11 218 RX2 yX2_isThere w_z_X2_isThere) := goodIn_app (goodIn_r (([.methodLink RX11 218 yX2_isThere, .instanceMethod yX2_isThere, .selects RX2 yX2_isThere yX2_isThere, .initialized RX2] : List Cond)) [2, 3, 4, 5] rfl (by decide +kernel)) (goodIn_ca (goodIn_r (.code yX2_isThere cX2_isThere 2 (some .boolean) :: l_z_X2_isThere) [8, 9] rfl (by decide +kernel)) (goodIn_in (in_z_X11_root_1_X2) gd_X2))
set_option maxHeartbeats 4000000 in
set_option maxRecDepth 100000 in
theorem z_X11_root_1 (l : Launch) (dC : Nat → ClassId) (dI : Nat → Nat → Nat) (sz : Nat) (Ad0 : Nat) (Fs0 : List Value) (Ad1 : Nat) (Fs1 : List Value) (Va0 : Int32) (k_Fs0 : fh Fs0 18 [(2, .ref Ad1)]) (k_Fs1 : fh Fs1 14 [(1, .int 0)]) (hst : l.stackTraces = false)  : vx_Met l yX11_root w_z_X11_root_1 ({ frames := 7, cells := 1, slots := 6, locals := 140 }) (va_Pc [.ref Ad0, .int Va0, .int 1] (fun U => U.heap.size = sz ∧ Zz (va_A [(Ad0, .inr (14, Fs0)), (Ad1, .inr (5, Fs1))] sz) U ∧ Wd dC dI [] (fun _ => True) [(Ad0, .inr (14, Fs0)), (Ad1, .inr (5, Fs1))] U)) (va_Qv (fun (u : Unit) => False) (fun (u : Unit) t => Wd dC dI [] (va_A [(Ad0, .inr (14, Fs0)), (Ad1, .inr (5, Fs1))] sz) [(Ad0, .inr (14, Fs0)), (Ad1, .inr (5, Fs1))] t) (va_A [(Ad0, .inr (14, Fs0)), (Ad1, .inr (5, Fs1))] sz)) (vx_X (fun _ : Unit => True) (fun E _ _ => (E = "java/util/NoSuchElementException" ∧ Va0 < 0) ∨ (E = "java/util/NoSuchElementException" ∧ ¬ Va0 < 0 ∧ 0 ≤ Va0)) (va_A [(Ad0, .inr (14, Fs0)), (Ad1, .inr (5, Fs1))] sz)) 1 6 (va_A [(Ad0, .inr (14, Fs0)), (Ad1, .inr (5, Fs1))] sz) := by
  refine vx_ofW (cc := cX11_root) (maxL := 4) (ret := none) (by decide) rfl ?_
  intro p e s m args below meth c s₁ B hml htab hv
  obtain ⟨rfl, hsz, hZ, hP, hK, hD0⟩ := hv
  have hx := B.exec
  have hb := B.bytes
  have hr := B.returns
  have hts := atoms_spec (ws := w_z_X11_root_1) B.pre
  have hown : s.vm.findClass RX11 = some m.cls := findClass_of_methodNamed B.named
  have hlocks := B.notSynchronized
  subst hsz
  have hD := hD0.self (sz := s.heap.size)
  generalize hAe : va_A [(Ad0, .inr (14, Fs0)), (Ad1, .inr (5, Fs1))] s.heap.size = A at hD hZ ⊢
  have hA : ∀ q : Nat, s.heap.size ≤ q → A q := fun q h => by rw [← hAe]; exact Or.inr h
  have hS : va_S A s.heap s.heap [] := va_S.rf
  have hl := lv_entry ([.ref Ad0, .int Va0, .int 1]) (n := 4) (Nat.le_of_ble_eq_true rfl)
  rw [lg_entry_eq]
  generalize (lg_sl ([.ref Ad0, .int Va0, .int 1]) ++ List.replicate (4 - (lg_sl ([.ref Ad0, .int Va0, .int 1])).length) Slot.unset).toArray = ls at hl ⊢
  have hl : lv_has ls 4 [(0, .ref Ad0), (1, .int Va0), (2, .int 1)] := hl
  have o_Fs0 := ow_0 k_Fs0
  have o_Fs1 := ow_0 k_Fs1
  refine lv_aload_n hx hb dX11_root_0 rfl (lv_at hl 0 rfl) ?_
  refine va_get (D := (dC, dI)) (ci := 14) (v := .ref Ad1) (C := RX11) (T := TX11) (N := 18) hx hb hts (in_z_X11_root_1_X11) hown hK hP 0 rfl rfl 2 (by decide) (hts (.fieldLink RX11 28 "HeapWorks" "heap" "LHeapWorks$Heap;") (by decide +kernel)) (fun _ h9 => h9) (ow_at o_Fs0 0 rfl) dX11_root_1 ?_
  refine lv_iload_n hx hb dX11_root_4 rfl (lv_at hl 1 rfl) ?_
  have hPc := hP.sub (ws' := [(Ad1, .inr (5, Fs1))]) [1] rfl
  have hDc := hD.sub (ws' := [(Ad1, .inr (5, Fs1))]) [1] (by decide) rfl
  have hKc := hK.sub (tys' := []) [] rfl
  have hFc := va_free (wc := [(Ad1, .inr (5, Fs1))]) hD hS hA [1] rfl
  refine va_calli (va_runV (As := [.int Va0]) (rest := []) ⟨hx, hb, hml, hown, hts⟩ (z_X2_isThere l dC dI s.heap.size Ad1 Fs1 Va0 (fh_sub o_Fs1.2 [0] rfl) ) (cwV 1 hts g_z_X11_root_1_z_X2_isThere_218 rfl rfl rfl (by decide +kernel) ⟨Nat.le_of_ble_eq_true rfl, Nat.le_of_ble_eq_true rfl⟩) ⟨fun a U g mk q => by obtain ⟨q0, q1, qP, qK, qD⟩ := q; exact ⟨q0, q1, qP, va_K.moved (u := U) (U := U.calling g mk a) (Vm.Alike.refl U.vm) qK, qD⟩, va_recv hK hP (ci := 5) (q0 := 1) rfl rfl, fun U hU hW => ⟨rfl, by rw [hU], by rw [hU]; exact hPc, va_K.moved hW.alike hKc, hDc.weaken (fun _ _ _ _ => trivial)⟩⟩ rfl rfl hl.1 rfl (lv_room (Nat.le_of_ble_eq_true rfl)) dX11_root_5 ⟨Nat.le_of_ble_eq_true rfl, Nat.le_of_ble_eq_true rfl⟩) hS (fun q _ h => hFc q h) hFc (fun r101 u t H1 locs ht hvm hw hB hz1 hk1 hS => ?_)
  obtain ⟨hP1, hK1, hD1⟩ := hB
  rw [ht] at hP1
  try dsimp only at hw
  obtain ⟨hP, hD⟩ := va_join (wr := [(Ad0, .inr (14, Fs0))]) (w1 := [(Ad1, .inr (5, Fs1))]) hP hD [1] [0] rfl rfl (by decide) (by decide) hk1 hFc hP1 hD1
  have hK := hK.sub (tys' := []) [] rfl
  generalize H1 = H at hP hS ⊢
  have hP : va_P (dC, dI) vwCl [(Ad0, .inr (14, Fs0)), (Ad1, .inr (5, Fs1))] H := hP
  have hD : va_D A [(Ad0, .inr (14, Fs0)), (Ad1, .inr (5, Fs1))] := hD
  rcases hw with ⟨c102, er103⟩ | ⟨c104, c105, er106⟩
  · skip
    subst er103
    refine lv_if_ne (tgt := 19) hx hb dX11_root_8 (by decide) (fun c107 => absurd c107 (by decide)) (fun c107 => ?_)
    exact vx_throw0 (names := ["java/lang/RuntimeException", "java/lang/Exception"]) hx hb hst hown (by decide +kernel) (by decide +kernel) (hts (.classLink RX11 221 "java/util/NoSuchElementException") (by decide +kernel)) (hts (.initialized "java/util/NoSuchElementException") (by decide +kernel)) (vx_hat (B := xB "java/util/NoSuchElementException") (fun w h => hts w ((in_z_X11_root_1_at0_X11_223) w h)) (by decide +kernel) (Zz_xB hZ (by decide))) (by decide +kernel) hZ.1 hZ.2.1 hS (hl.1.trans hml.symm) dX11_root_11 dX11_root_14 dX11_root_15 dX11_root_18 (fun x h => (htab x h).elim) (by decide) (Nat.le_of_ble_eq_true rfl) (Nat.le_of_ble_eq_true rfl) (Nat.le_of_ble_eq_true rfl) hlocks (fun t _ h1 h2 => ⟨(), trivial, (Or.inl ⟨rfl, c102⟩), xx_F hS h1 h2⟩) hS.2.2 (by decide) (by decide)
  · skip
    subst er106
    refine lv_if_ne (tgt := 19) hx hb dX11_root_8 (by decide) (fun c108 => absurd c108 (by decide)) (fun c108 => ?_)
    exact vx_throw0 (names := ["java/lang/RuntimeException", "java/lang/Exception"]) hx hb hst hown (by decide +kernel) (by decide +kernel) (hts (.classLink RX11 221 "java/util/NoSuchElementException") (by decide +kernel)) (hts (.initialized "java/util/NoSuchElementException") (by decide +kernel)) (vx_hat (B := xB "java/util/NoSuchElementException") (fun w h => hts w ((in_z_X11_root_1_at0_X11_223) w h)) (by decide +kernel) (Zz_xB hZ (by decide))) (by decide +kernel) hZ.1 hZ.2.1 hS (hl.1.trans hml.symm) dX11_root_11 dX11_root_14 dX11_root_15 dX11_root_18 (fun x h => (htab x h).elim) (by decide) (Nat.le_of_ble_eq_true rfl) (Nat.le_of_ble_eq_true rfl) (Nat.le_of_ble_eq_true rfl) hlocks (fun t _ h1 h2 => ⟨(), trivial, (Or.inr (⟨rfl, c104, c105⟩)), xx_F hS h1 h2⟩) hS.2.2 (by decide) (by decide)

def l_z_X2_hasSlot : List Cond := [.methodLink RX2 55 yX2_isThere, .instanceMethod yX2_isThere, .selects RX2 yX2_isThere yX2_isThere, .initialized RX2, .code yX2_isThere cX2_isThere 2 (some .boolean), .fieldLink RX2 47 "HeapWorks$Heap" "made" "I"]
def w_z_X2_hasSlot : List Cond := .code yX2_hasSlot cX2_hasSlot 3 (some .boolean) :: (l_z_X2_hasSlot ++ (wsX20))
theorem in_z_X2_hasSlot_X2 : ∀ w ∈ wsX20, w ∈ w_z_X2_hasSlot := fun w h => List.mem_cons_of_mem _ (List.mem_append_right _ (h))
theorem g_z_X2_hasSlot_z_X2_isThere_55 : GoodIn w_z_X2_hasSlot (wsV RX2 55 RX2 yX2_isThere w_z_X2_isThere) := goodIn_app (goodIn_r (([.methodLink RX2 55 yX2_isThere, .instanceMethod yX2_isThere, .selects RX2 yX2_isThere yX2_isThere, .initialized RX2] : List Cond)) [1, 2, 3, 4] rfl (by decide +kernel)) (goodIn_ca (goodIn_r (.code yX2_isThere cX2_isThere 2 (some .boolean) :: l_z_X2_isThere) [5, 6] rfl (by decide +kernel)) (goodIn_in (in_z_X2_hasSlot_X2) gd_X2))
set_option maxHeartbeats 4000000 in
set_option maxRecDepth 100000 in
theorem z_X2_hasSlot (l : Launch) (dC : Nat → ClassId) (dI : Nat → Nat → Nat) (sz : Nat) (Ad0 : Nat) (Fs0 : List Value) (Va0 : Int32) (Va1 : Int32) (k_Fs0 : fh Fs0 14 [(1, .int 0)])  : Met l yX2_hasSlot w_z_X2_hasSlot ({ frames := 1, cells := 0, slots := 0, locals := 21 }) (va_Pc [.ref Ad0, .int Va0, .int Va1] (fun U => U.heap.size = sz ∧ Wd dC dI [] (fun _ => True) [(Ad0, .inr (5, Fs0))] U)) (va_Qi (fun (r : Int32) (u : Unit) => (Va0 < 0 ∧ r = 0) ∨ (¬ Va0 < 0 ∧ 0 ≤ Va0 ∧ r = 0)) (fun (u : Unit) t => Wd dC dI [] (va_A [(Ad0, .inr (5, Fs0))] sz) [(Ad0, .inr (5, Fs0))] t) (va_A [(Ad0, .inr (5, Fs0))] sz))  0 0 (va_A [(Ad0, .inr (5, Fs0))] sz) := by
  refine Met.ofW (cc := cX2_hasSlot) (maxL := 3) (ret := (some .boolean)) (by decide) rfl ?_
  intro p e s m args below meth c s₁ B hml hv
  obtain ⟨rfl, hsz, hP, hK, hD0⟩ := hv
  have hx := B.exec
  have hb := B.bytes
  have hr := B.returns
  have hts := atoms_spec (ws := w_z_X2_hasSlot) B.pre
  have hown : s.vm.findClass RX2 = some m.cls := findClass_of_methodNamed B.named
  have hlocks := B.notSynchronized
  subst hsz
  have hD := hD0.self (sz := s.heap.size)
  generalize hAe : va_A [(Ad0, .inr (5, Fs0))] s.heap.size = A at hD ⊢
  have hA : ∀ q : Nat, s.heap.size ≤ q → A q := fun q h => by rw [← hAe]; exact Or.inr h
  have hS : va_S A s.heap s.heap [] := va_S.rf
  have hl := lv_entry ([.ref Ad0, .int Va0, .int Va1]) (n := 3) (Nat.le_of_ble_eq_true rfl)
  rw [lg_entry_eq]
  generalize (lg_sl ([.ref Ad0, .int Va0, .int Va1]) ++ List.replicate (3 - (lg_sl ([.ref Ad0, .int Va0, .int Va1])).length) Slot.unset).toArray = ls at hl ⊢
  have hl : lv_has ls 3 [(0, .ref Ad0), (1, .int Va0), (2, .int Va1)] := hl
  have o_Fs0 := ow_0 k_Fs0
  refine lv_aload_n hx hb dX2_hasSlot_0 rfl (lv_at hl 0 rfl) ?_
  refine lv_iload_n hx hb dX2_hasSlot_1 rfl (lv_at hl 1 rfl) ?_
  have hPc := hP.sub (ws' := [(Ad0, .inr (5, Fs0))]) [0] rfl
  have hDc := hD.sub (ws' := [(Ad0, .inr (5, Fs0))]) [0] (by decide) rfl
  have hKc := hK.sub (tys' := []) [] rfl
  have hFc := va_free (wc := [(Ad0, .inr (5, Fs0))]) hD hS hA [0] rfl
  refine va_calli (va_runV (As := [.int Va0]) (rest := []) ⟨hx, hb, hml, hown, hts⟩ (z_X2_isThere l dC dI s.heap.size Ad0 Fs0 Va0 (fh_sub o_Fs0.2 [0] rfl) ) (cwV 1 hts g_z_X2_hasSlot_z_X2_isThere_55 rfl rfl rfl (by decide +kernel) ⟨Nat.le_of_ble_eq_true rfl, Nat.le_of_ble_eq_true rfl⟩) ⟨fun a U g mk q => by obtain ⟨q0, q1, qP, qK, qD⟩ := q; exact ⟨q0, q1, qP, va_K.moved (u := U) (U := U.calling g mk a) (Vm.Alike.refl U.vm) qK, qD⟩, va_recv hK hP (ci := 5) (q0 := 0) rfl rfl, fun U hU hW => ⟨rfl, by rw [hU], by rw [hU]; exact hPc, va_K.moved hW.alike hKc, hDc.weaken (fun _ _ _ _ => trivial)⟩⟩ rfl rfl hl.1 rfl (lv_room (Nat.le_of_ble_eq_true rfl)) dX2_hasSlot_2 ⟨Nat.le_of_ble_eq_true rfl, Nat.le_of_ble_eq_true rfl⟩) hS (fun q _ h => hFc q h) hFc (fun r101 u t H1 locs ht hvm hw hB hz1 hk1 hS => ?_)
  obtain ⟨hP1, hK1, hD1⟩ := hB
  rw [ht] at hP1
  try dsimp only at hw
  obtain ⟨hP, hD⟩ := va_join (wr := []) (w1 := [(Ad0, .inr (5, Fs0))]) hP hD [0] [] rfl rfl (by decide) (by decide) hk1 hFc hP1 hD1
  have hK := hK.sub (tys' := []) [] rfl
  generalize H1 = H at hP hS ⊢
  have hP : va_P (dC, dI) vwCl [(Ad0, .inr (5, Fs0))] H := hP
  have hD : va_D A [(Ad0, .inr (5, Fs0))] := hD
  rcases hw with ⟨c102, er103⟩ | ⟨c104, c105, er106⟩
  · skip
    subst er103
    refine lv_if_eq (tgt := 25) hx hb dX2_hasSlot_5 (by decide) (fun c107 => ?_) (fun c107 => absurd c107 (by decide))
    refine lv_iconst (v := 0) hx hb dX2_hasSlot_25 (by decide) ?_
    have hP9 := hP.sub (ws' := [(Ad0, .inr (5, Fs0))]) [0] rfl
    have hD9 := hD.sub (ws' := [(Ad0, .inr (5, Fs0))]) [0] (by decide) rfl
    have hK9 := hK.sub (tys' := []) [] rfl
    exact W.zret (v := 0) hx hb hr rfl (fun t ht hW => ⟨⟨0, (), rfl, (Or.inl ⟨c102, rfl⟩), by rw [ht]; exact hP9, va_K.moved hW.alike hK9, hD9⟩, hS.F ht⟩) hS.2.2 dX2_hasSlot_26
  · skip
    subst er106
    refine lv_if_eq (tgt := 25) hx hb dX2_hasSlot_5 (by decide) (fun c108 => ?_) (fun c108 => absurd c108 (by decide))
    refine lv_iconst (v := 0) hx hb dX2_hasSlot_25 (by decide) ?_
    have hP9 := hP.sub (ws' := [(Ad0, .inr (5, Fs0))]) [0] rfl
    have hD9 := hD.sub (ws' := [(Ad0, .inr (5, Fs0))]) [0] (by decide) rfl
    have hK9 := hK.sub (tys' := []) [] rfl
    exact W.zret (v := 0) hx hb hr rfl (fun t ht hW => ⟨⟨0, (), rfl, (Or.inr (⟨c104, c105, rfl⟩)), by rw [ht]; exact hP9, va_K.moved hW.alike hK9, hD9⟩, hS.F ht⟩) hS.2.2 dX2_hasSlot_26

def l_z_X11_set : List Cond := [.fieldLink RX11 28 "HeapWorks" "heap" "LHeapWorks$Heap;", .methodLink RX11 237 yX2_hasSlot, .instanceMethod yX2_hasSlot, .selects RX2 yX2_hasSlot yX2_hasSlot, .initialized RX2, .classLink RX11 221 "java/util/NoSuchElementException", .initialized "java/util/NoSuchElementException", .code yX2_hasSlot cX2_hasSlot 3 (some .boolean), .methodLink RX2 55 yX2_isThere, .instanceMethod yX2_isThere, .selects RX2 yX2_isThere yX2_isThere, .code yX2_isThere cX2_isThere 2 (some .boolean), .fieldLink RX2 47 "HeapWorks$Heap" "made" "I"]
def w_z_X11_set : List Cond := .code yX11_set cX11_set 7 (some .int) :: (l_z_X11_set ++ ((wsX110 ++ (((vx_at0 RX11 223 "java/util/NoSuchElementException" ["java/lang/RuntimeException", "java/lang/Exception"]).filter goodWord) ++ wsX20))))
theorem in_z_X11_set_X11 : ∀ w ∈ wsX110, w ∈ w_z_X11_set := fun w h => List.mem_cons_of_mem _ (List.mem_append_right _ (List.mem_append_left _ h))
theorem in_z_X11_set_at0_X11_223 : ∀ w ∈ ((vx_at0 RX11 223 "java/util/NoSuchElementException" ["java/lang/RuntimeException", "java/lang/Exception"]).filter goodWord), w ∈ w_z_X11_set := fun w h => List.mem_cons_of_mem _ (List.mem_append_right _ (List.mem_append_right _ (List.mem_append_left _ h)))
theorem in_z_X11_set_X2 : ∀ w ∈ wsX20, w ∈ w_z_X11_set := fun w h => List.mem_cons_of_mem _ (List.mem_append_right _ (List.mem_append_right _ (List.mem_append_right _ (h))))
theorem g_z_X11_set_z_X2_hasSlot_237 : GoodIn w_z_X11_set (wsV RX11 237 RX2 yX2_hasSlot w_z_X2_hasSlot) := goodIn_app (goodIn_r (([.methodLink RX11 237 yX2_hasSlot, .instanceMethod yX2_hasSlot, .selects RX2 yX2_hasSlot yX2_hasSlot, .initialized RX2] : List Cond)) [2, 3, 4, 5] rfl (by decide +kernel)) (goodIn_ca (goodIn_r (.code yX2_hasSlot cX2_hasSlot 3 (some .boolean) :: l_z_X2_hasSlot) [8, 9, 10, 11, 5, 12, 13] rfl (by decide +kernel)) (goodIn_in (in_z_X11_set_X2) gd_X2))
set_option maxHeartbeats 4000000 in
set_option maxRecDepth 100000 in
theorem z_X11_set (l : Launch) (dC : Nat → ClassId) (dI : Nat → Nat → Nat) (sz : Nat) (Ad0 : Nat) (Fs0 : List Value) (Ad1 : Nat) (Fs1 : List Value) (Va0 : Int32) (Va1 : Int32) (Ja0 : Int64) (k_Fs0 : fh Fs0 18 [(2, .ref Ad1)]) (k_Fs1 : fh Fs1 14 [(1, .int 0)]) (hst : l.stackTraces = false)  : vx_Met l yX11_set w_z_X11_set ({ frames := 7, cells := 1, slots := 6, locals := 140 }) (va_Pc [.ref Ad0, .int Va0, .int Va1, .long Ja0] (fun U => U.heap.size = sz ∧ Zz (va_A [(Ad0, .inr (14, Fs0)), (Ad1, .inr (5, Fs1))] sz) U ∧ Wd dC dI [] (fun _ => True) [(Ad0, .inr (14, Fs0)), (Ad1, .inr (5, Fs1))] U)) (va_Qi (fun (r : Int32) (u : Unit) => False) (fun (u : Unit) t => Wd dC dI [] (va_A [(Ad0, .inr (14, Fs0)), (Ad1, .inr (5, Fs1))] sz) [(Ad0, .inr (14, Fs0)), (Ad1, .inr (5, Fs1))] t) (va_A [(Ad0, .inr (14, Fs0)), (Ad1, .inr (5, Fs1))] sz)) (vx_X (fun _ : Unit => True) (fun E _ _ => (E = "java/util/NoSuchElementException" ∧ Va0 < 0) ∨ (E = "java/util/NoSuchElementException" ∧ ¬ Va0 < 0 ∧ 0 ≤ Va0)) (va_A [(Ad0, .inr (14, Fs0)), (Ad1, .inr (5, Fs1))] sz)) 1 6 (va_A [(Ad0, .inr (14, Fs0)), (Ad1, .inr (5, Fs1))] sz) := by
  refine vx_ofW (cc := cX11_set) (maxL := 7) (ret := (some .int)) (by decide) rfl ?_
  intro p e s m args below meth c s₁ B hml htab hv
  obtain ⟨rfl, hsz, hZ, hP, hK, hD0⟩ := hv
  have hx := B.exec
  have hb := B.bytes
  have hr := B.returns
  have hts := atoms_spec (ws := w_z_X11_set) B.pre
  have hown : s.vm.findClass RX11 = some m.cls := findClass_of_methodNamed B.named
  have hlocks := B.notSynchronized
  subst hsz
  have hD := hD0.self (sz := s.heap.size)
  generalize hAe : va_A [(Ad0, .inr (14, Fs0)), (Ad1, .inr (5, Fs1))] s.heap.size = A at hD hZ ⊢
  have hA : ∀ q : Nat, s.heap.size ≤ q → A q := fun q h => by rw [← hAe]; exact Or.inr h
  have hS : va_S A s.heap s.heap [] := va_S.rf
  have hl := lv_entry ([.ref Ad0, .int Va0, .int Va1, .long Ja0]) (n := 7) (Nat.le_of_ble_eq_true rfl)
  rw [lg_entry_eq]
  generalize (lg_sl ([.ref Ad0, .int Va0, .int Va1, .long Ja0]) ++ List.replicate (7 - (lg_sl ([.ref Ad0, .int Va0, .int Va1, .long Ja0])).length) Slot.unset).toArray = ls at hl ⊢
  have hl : lv_has ls 7 [(0, .ref Ad0), (1, .int Va0), (2, .int Va1), (3, .long Ja0)] := hl
  have o_Fs0 := ow_0 k_Fs0
  have o_Fs1 := ow_0 k_Fs1
  refine lv_aload_n hx hb dX11_set_0 rfl (lv_at hl 0 rfl) ?_
  refine va_get (D := (dC, dI)) (ci := 14) (v := .ref Ad1) (C := RX11) (T := TX11) (N := 18) hx hb hts (in_z_X11_set_X11) hown hK hP 0 rfl rfl 2 (by decide) (hts (.fieldLink RX11 28 "HeapWorks" "heap" "LHeapWorks$Heap;") (by decide +kernel)) (fun _ h9 => h9) (ow_at o_Fs0 0 rfl) dX11_set_1 ?_
  refine lv_iload_n hx hb dX11_set_4 rfl (lv_at hl 1 rfl) ?_
  refine lv_iload_n hx hb dX11_set_5 rfl (lv_at hl 2 rfl) ?_
  have hPc := hP.sub (ws' := [(Ad1, .inr (5, Fs1))]) [1] rfl
  have hDc := hD.sub (ws' := [(Ad1, .inr (5, Fs1))]) [1] (by decide) rfl
  have hKc := hK.sub (tys' := []) [] rfl
  have hFc := va_free (wc := [(Ad1, .inr (5, Fs1))]) hD hS hA [1] rfl
  refine va_calli (va_runV (As := [.int Va0, .int Va1]) (rest := []) ⟨hx, hb, hml, hown, hts⟩ (z_X2_hasSlot l dC dI s.heap.size Ad1 Fs1 Va0 Va1 (fh_sub o_Fs1.2 [0] rfl) ) (cwV 2 hts g_z_X11_set_z_X2_hasSlot_237 rfl rfl rfl (by decide +kernel) ⟨Nat.le_of_ble_eq_true rfl, Nat.le_of_ble_eq_true rfl⟩) ⟨fun a U g mk q => by obtain ⟨q0, q1, qP, qK, qD⟩ := q; exact ⟨q0, q1, qP, va_K.moved (u := U) (U := U.calling g mk a) (Vm.Alike.refl U.vm) qK, qD⟩, va_recv hK hP (ci := 5) (q0 := 1) rfl rfl, fun U hU hW => ⟨rfl, by rw [hU], by rw [hU]; exact hPc, va_K.moved hW.alike hKc, hDc.weaken (fun _ _ _ _ => trivial)⟩⟩ rfl rfl hl.1 rfl (lv_room (Nat.le_of_ble_eq_true rfl)) dX11_set_6 ⟨Nat.le_of_ble_eq_true rfl, Nat.le_of_ble_eq_true rfl⟩) hS (fun q _ h => hFc q h) hFc (fun r101 u t H1 locs ht hvm hw hB hz1 hk1 hS => ?_)
  obtain ⟨hP1, hK1, hD1⟩ := hB
  rw [ht] at hP1
  try dsimp only at hw
  obtain ⟨hP, hD⟩ := va_join (wr := [(Ad0, .inr (14, Fs0))]) (w1 := [(Ad1, .inr (5, Fs1))]) hP hD [1] [0] rfl rfl (by decide) (by decide) hk1 hFc hP1 hD1
  have hK := hK.sub (tys' := []) [] rfl
  generalize H1 = H at hP hS ⊢
  have hP : va_P (dC, dI) vwCl [(Ad0, .inr (14, Fs0)), (Ad1, .inr (5, Fs1))] H := hP
  have hD : va_D A [(Ad0, .inr (14, Fs0)), (Ad1, .inr (5, Fs1))] := hD
  rcases hw with ⟨c102, er103⟩ | ⟨c104, c105, er106⟩
  · skip
    subst er103
    refine lv_if_ne (tgt := 20) hx hb dX11_set_9 (by decide) (fun c107 => absurd c107 (by decide)) (fun c107 => ?_)
    exact vx_throw0 (names := ["java/lang/RuntimeException", "java/lang/Exception"]) hx hb hst hown (by decide +kernel) (by decide +kernel) (hts (.classLink RX11 221 "java/util/NoSuchElementException") (by decide +kernel)) (hts (.initialized "java/util/NoSuchElementException") (by decide +kernel)) (vx_hat (B := xB "java/util/NoSuchElementException") (fun w h => hts w ((in_z_X11_set_at0_X11_223) w h)) (by decide +kernel) (Zz_xB hZ (by decide))) (by decide +kernel) hZ.1 hZ.2.1 hS (hl.1.trans hml.symm) dX11_set_12 dX11_set_15 dX11_set_16 dX11_set_19 (fun x h => (htab x h).elim) (by decide) (Nat.le_of_ble_eq_true rfl) (Nat.le_of_ble_eq_true rfl) (Nat.le_of_ble_eq_true rfl) hlocks (fun t _ h1 h2 => ⟨(), trivial, (Or.inl ⟨rfl, c102⟩), xx_F hS h1 h2⟩) hS.2.2 (by decide) (by decide)
  · skip
    subst er106
    refine lv_if_ne (tgt := 20) hx hb dX11_set_9 (by decide) (fun c108 => absurd c108 (by decide)) (fun c108 => ?_)
    exact vx_throw0 (names := ["java/lang/RuntimeException", "java/lang/Exception"]) hx hb hst hown (by decide +kernel) (by decide +kernel) (hts (.classLink RX11 221 "java/util/NoSuchElementException") (by decide +kernel)) (hts (.initialized "java/util/NoSuchElementException") (by decide +kernel)) (vx_hat (B := xB "java/util/NoSuchElementException") (fun w h => hts w ((in_z_X11_set_at0_X11_223) w h)) (by decide +kernel) (Zz_xB hZ (by decide))) (by decide +kernel) hZ.1 hZ.2.1 hS (hl.1.trans hml.symm) dX11_set_12 dX11_set_15 dX11_set_16 dX11_set_19 (fun x h => (htab x h).elim) (by decide) (Nat.le_of_ble_eq_true rfl) (Nat.le_of_ble_eq_true rfl) (Nat.le_of_ble_eq_true rfl) hlocks (fun t _ h1 h2 => ⟨(), trivial, (Or.inr (⟨rfl, c104, c105⟩)), xx_F hS h1 h2⟩) hS.2.2 (by decide) (by decide)

def l_z_X10_staticField : List Cond := [.methodLink RX10 69 yX10_isClass, .instanceMethod yX10_isClass, .selects RX10 yX10_isClass yX10_isClass, .initialized RX10, .code yX10_isClass cX10_isClass 2 (some .boolean), .fieldLink RX10 65 "HeapWorks$Types" "count" "I"]
def w_z_X10_staticField : List Cond := .code yX10_staticField cX10_staticField 5 (some .int) :: (l_z_X10_staticField ++ (wsX100))
theorem in_z_X10_staticField_X10 : ∀ w ∈ wsX100, w ∈ w_z_X10_staticField := fun w h => List.mem_cons_of_mem _ (List.mem_append_right _ (h))
theorem g_z_X10_staticField_z_X10_isClass_69 : GoodIn w_z_X10_staticField (wsV RX10 69 RX10 yX10_isClass w_z_X10_isClass) := goodIn_app (goodIn_r (([.methodLink RX10 69 yX10_isClass, .instanceMethod yX10_isClass, .selects RX10 yX10_isClass yX10_isClass, .initialized RX10] : List Cond)) [1, 2, 3, 4] rfl (by decide +kernel)) (goodIn_ca (goodIn_r (.code yX10_isClass cX10_isClass 2 (some .boolean) :: l_z_X10_isClass) [5, 6] rfl (by decide +kernel)) (goodIn_in (in_z_X10_staticField_X10) gd_X10))
set_option maxHeartbeats 4000000 in
set_option maxRecDepth 100000 in
theorem z_X10_staticField (l : Launch) (dC : Nat → ClassId) (dI : Nat → Nat → Nat) (sz : Nat) (Ad0 : Nat) (Fs0 : List Value) (Va0 : Int32) (Va1 : Int32) (k_Fs0 : fh Fs0 18 [(0, .int 0)])  : Met l yX10_staticField w_z_X10_staticField ({ frames := 1, cells := 0, slots := 0, locals := 21 }) (va_Pc [.ref Ad0, .int Va0, .int Va1] (fun U => U.heap.size = sz ∧ Wd dC dI [] (fun _ => True) [(Ad0, .inr (13, Fs0))] U)) (va_Qi (fun (r : Int32) (u : Unit) => (Va0 < 0 ∧ r = (-1)) ∨ (¬ Va0 < 0 ∧ 0 ≤ Va0 ∧ r = (-1))) (fun (u : Unit) t => Wd dC dI [] (va_A [(Ad0, .inr (13, Fs0))] sz) [(Ad0, .inr (13, Fs0))] t) (va_A [(Ad0, .inr (13, Fs0))] sz))  0 0 (va_A [(Ad0, .inr (13, Fs0))] sz) := by
  refine Met.ofW (cc := cX10_staticField) (maxL := 5) (ret := (some .int)) (by decide) rfl ?_
  intro p e s m args below meth c s₁ B hml hv
  obtain ⟨rfl, hsz, hP, hK, hD0⟩ := hv
  have hx := B.exec
  have hb := B.bytes
  have hr := B.returns
  have hts := atoms_spec (ws := w_z_X10_staticField) B.pre
  have hown : s.vm.findClass RX10 = some m.cls := findClass_of_methodNamed B.named
  have hlocks := B.notSynchronized
  subst hsz
  have hD := hD0.self (sz := s.heap.size)
  generalize hAe : va_A [(Ad0, .inr (13, Fs0))] s.heap.size = A at hD ⊢
  have hA : ∀ q : Nat, s.heap.size ≤ q → A q := fun q h => by rw [← hAe]; exact Or.inr h
  have hS : va_S A s.heap s.heap [] := va_S.rf
  have hl := lv_entry ([.ref Ad0, .int Va0, .int Va1]) (n := 5) (Nat.le_of_ble_eq_true rfl)
  rw [lg_entry_eq]
  generalize (lg_sl ([.ref Ad0, .int Va0, .int Va1]) ++ List.replicate (5 - (lg_sl ([.ref Ad0, .int Va0, .int Va1])).length) Slot.unset).toArray = ls at hl ⊢
  have hl : lv_has ls 5 [(0, .ref Ad0), (1, .int Va0), (2, .int Va1)] := hl
  have o_Fs0 := ow_0 k_Fs0
  refine lv_aload_n hx hb dX10_staticField_0 rfl (lv_at hl 0 rfl) ?_
  refine lv_iload_n hx hb dX10_staticField_1 rfl (lv_at hl 1 rfl) ?_
  have hPc := hP.sub (ws' := [(Ad0, .inr (13, Fs0))]) [0] rfl
  have hDc := hD.sub (ws' := [(Ad0, .inr (13, Fs0))]) [0] (by decide) rfl
  have hKc := hK.sub (tys' := []) [] rfl
  have hFc := va_free (wc := [(Ad0, .inr (13, Fs0))]) hD hS hA [0] rfl
  refine va_calli (va_runV (As := [.int Va0]) (rest := []) ⟨hx, hb, hml, hown, hts⟩ (z_X10_isClass l dC dI s.heap.size Ad0 Fs0 Va0 (fh_sub o_Fs0.2 [0] rfl) ) (cwV 1 hts g_z_X10_staticField_z_X10_isClass_69 rfl rfl rfl (by decide +kernel) ⟨Nat.le_of_ble_eq_true rfl, Nat.le_of_ble_eq_true rfl⟩) ⟨fun a U g mk q => by obtain ⟨q0, q1, qP, qK, qD⟩ := q; exact ⟨q0, q1, qP, va_K.moved (u := U) (U := U.calling g mk a) (Vm.Alike.refl U.vm) qK, qD⟩, va_recv hK hP (ci := 13) (q0 := 0) rfl rfl, fun U hU hW => ⟨rfl, by rw [hU], by rw [hU]; exact hPc, va_K.moved hW.alike hKc, hDc.weaken (fun _ _ _ _ => trivial)⟩⟩ rfl rfl hl.1 rfl (lv_room (Nat.le_of_ble_eq_true rfl)) dX10_staticField_2 ⟨Nat.le_of_ble_eq_true rfl, Nat.le_of_ble_eq_true rfl⟩) hS (fun q _ h => hFc q h) hFc (fun r101 u t H1 locs ht hvm hw hB hz1 hk1 hS => ?_)
  obtain ⟨hP1, hK1, hD1⟩ := hB
  rw [ht] at hP1
  try dsimp only at hw
  obtain ⟨hP, hD⟩ := va_join (wr := []) (w1 := [(Ad0, .inr (13, Fs0))]) hP hD [0] [] rfl rfl (by decide) (by decide) hk1 hFc hP1 hD1
  have hK := hK.sub (tys' := []) [] rfl
  generalize H1 = H at hP hS ⊢
  have hP : va_P (dC, dI) vwCl [(Ad0, .inr (13, Fs0))] H := hP
  have hD : va_D A [(Ad0, .inr (13, Fs0))] := hD
  rcases hw with ⟨c102, er103⟩ | ⟨c104, c105, er106⟩
  · skip
    subst er103
    refine lv_if_eq (tgt := 22) hx hb dX10_staticField_5 (by decide) (fun c107 => ?_) (fun c107 => absurd c107 (by decide))
    refine lv_iconst (v := (-1)) hx hb dX10_staticField_22 (by decide) ?_
    have hP9 := hP.sub (ws' := [(Ad0, .inr (13, Fs0))]) [0] rfl
    have hD9 := hD.sub (ws' := [(Ad0, .inr (13, Fs0))]) [0] (by decide) rfl
    have hK9 := hK.sub (tys' := []) [] rfl
    exact W.iret (v := (-1)) hx hb hr (fun t ht hW => ⟨⟨(-1), (), rfl, (Or.inl ⟨c102, rfl⟩), by rw [ht]; exact hP9, va_K.moved hW.alike hK9, hD9⟩, hS.F ht⟩) hS.2.2 dX10_staticField_23
  · skip
    subst er106
    refine lv_if_eq (tgt := 22) hx hb dX10_staticField_5 (by decide) (fun c108 => ?_) (fun c108 => absurd c108 (by decide))
    refine lv_iconst (v := (-1)) hx hb dX10_staticField_22 (by decide) ?_
    have hP9 := hP.sub (ws' := [(Ad0, .inr (13, Fs0))]) [0] rfl
    have hD9 := hD.sub (ws' := [(Ad0, .inr (13, Fs0))]) [0] (by decide) rfl
    have hK9 := hK.sub (tys' := []) [] rfl
    exact W.iret (v := (-1)) hx hb hr (fun t ht hW => ⟨⟨(-1), (), rfl, (Or.inr (⟨c104, c105, rfl⟩)), by rw [ht]; exact hP9, va_K.moved hW.alike hK9, hD9⟩, hS.F ht⟩) hS.2.2 dX10_staticField_23

def l_z_X11_setStatic : List Cond := [.fieldLink RX11 19 "HeapWorks" "types" "LHeapWorks$Types;", .methodLink RX11 260 yX10_staticField, .instanceMethod yX10_staticField, .selects RX10 yX10_staticField yX10_staticField, .initialized RX10, .classLink RX11 221 "java/util/NoSuchElementException", .initialized "java/util/NoSuchElementException", .code yX10_staticField cX10_staticField 5 (some .int), .methodLink RX10 69 yX10_isClass, .instanceMethod yX10_isClass, .selects RX10 yX10_isClass yX10_isClass, .code yX10_isClass cX10_isClass 2 (some .boolean), .fieldLink RX10 65 "HeapWorks$Types" "count" "I"]
def w_z_X11_setStatic : List Cond := .code yX11_setStatic cX11_setStatic 8 (some .int) :: (l_z_X11_setStatic ++ ((wsX110 ++ (((vx_at0 RX11 223 "java/util/NoSuchElementException" ["java/lang/RuntimeException", "java/lang/Exception"]).filter goodWord) ++ wsX100))))
theorem in_z_X11_setStatic_X11 : ∀ w ∈ wsX110, w ∈ w_z_X11_setStatic := fun w h => List.mem_cons_of_mem _ (List.mem_append_right _ (List.mem_append_left _ h))
theorem in_z_X11_setStatic_at0_X11_223 : ∀ w ∈ ((vx_at0 RX11 223 "java/util/NoSuchElementException" ["java/lang/RuntimeException", "java/lang/Exception"]).filter goodWord), w ∈ w_z_X11_setStatic := fun w h => List.mem_cons_of_mem _ (List.mem_append_right _ (List.mem_append_right _ (List.mem_append_left _ h)))
theorem in_z_X11_setStatic_X10 : ∀ w ∈ wsX100, w ∈ w_z_X11_setStatic := fun w h => List.mem_cons_of_mem _ (List.mem_append_right _ (List.mem_append_right _ (List.mem_append_right _ (h))))
theorem g_z_X11_setStatic_z_X10_staticField_260 : GoodIn w_z_X11_setStatic (wsV RX11 260 RX10 yX10_staticField w_z_X10_staticField) := goodIn_app (goodIn_r (([.methodLink RX11 260 yX10_staticField, .instanceMethod yX10_staticField, .selects RX10 yX10_staticField yX10_staticField, .initialized RX10] : List Cond)) [2, 3, 4, 5] rfl (by decide +kernel)) (goodIn_ca (goodIn_r (.code yX10_staticField cX10_staticField 5 (some .int) :: l_z_X10_staticField) [8, 9, 10, 11, 5, 12, 13] rfl (by decide +kernel)) (goodIn_in (in_z_X11_setStatic_X10) gd_X10))
set_option maxHeartbeats 4000000 in
set_option maxRecDepth 100000 in
theorem z_X11_setStatic (l : Launch) (dC : Nat → ClassId) (dI : Nat → Nat → Nat) (sz : Nat) (Ad0 : Nat) (Fs0 : List Value) (Ad1 : Nat) (Fs1 : List Value) (Va0 : Int32) (Va1 : Int32) (Ja0 : Int64) (k_Fs0 : fh Fs0 18 [(1, .ref Ad1)]) (k_Fs1 : fh Fs1 18 [(0, .int 0)]) (hst : l.stackTraces = false)  : vx_Met l yX11_setStatic w_z_X11_setStatic ({ frames := 7, cells := 1, slots := 6, locals := 140 }) (va_Pc [.ref Ad0, .int Va0, .int Va1, .long Ja0] (fun U => U.heap.size = sz ∧ Zz (va_A [(Ad0, .inr (14, Fs0)), (Ad1, .inr (13, Fs1))] sz) U ∧ Wd dC dI [] (fun _ => True) [(Ad0, .inr (14, Fs0)), (Ad1, .inr (13, Fs1))] U)) (va_Qi (fun (r : Int32) (u : Unit) => False) (fun (u : Unit) t => Wd dC dI [] (va_A [(Ad0, .inr (14, Fs0)), (Ad1, .inr (13, Fs1))] sz) [(Ad0, .inr (14, Fs0)), (Ad1, .inr (13, Fs1))] t) (va_A [(Ad0, .inr (14, Fs0)), (Ad1, .inr (13, Fs1))] sz)) (vx_X (fun _ : Unit => True) (fun E _ _ => (E = "java/util/NoSuchElementException" ∧ Va0 < 0) ∨ (E = "java/util/NoSuchElementException" ∧ ¬ Va0 < 0 ∧ 0 ≤ Va0)) (va_A [(Ad0, .inr (14, Fs0)), (Ad1, .inr (13, Fs1))] sz)) 1 6 (va_A [(Ad0, .inr (14, Fs0)), (Ad1, .inr (13, Fs1))] sz) := by
  refine vx_ofW (cc := cX11_setStatic) (maxL := 8) (ret := (some .int)) (by decide) rfl ?_
  intro p e s m args below meth c s₁ B hml htab hv
  obtain ⟨rfl, hsz, hZ, hP, hK, hD0⟩ := hv
  have hx := B.exec
  have hb := B.bytes
  have hr := B.returns
  have hts := atoms_spec (ws := w_z_X11_setStatic) B.pre
  have hown : s.vm.findClass RX11 = some m.cls := findClass_of_methodNamed B.named
  have hlocks := B.notSynchronized
  subst hsz
  have hD := hD0.self (sz := s.heap.size)
  generalize hAe : va_A [(Ad0, .inr (14, Fs0)), (Ad1, .inr (13, Fs1))] s.heap.size = A at hD hZ ⊢
  have hA : ∀ q : Nat, s.heap.size ≤ q → A q := fun q h => by rw [← hAe]; exact Or.inr h
  have hS : va_S A s.heap s.heap [] := va_S.rf
  have hl := lv_entry ([.ref Ad0, .int Va0, .int Va1, .long Ja0]) (n := 8) (Nat.le_of_ble_eq_true rfl)
  rw [lg_entry_eq]
  generalize (lg_sl ([.ref Ad0, .int Va0, .int Va1, .long Ja0]) ++ List.replicate (8 - (lg_sl ([.ref Ad0, .int Va0, .int Va1, .long Ja0])).length) Slot.unset).toArray = ls at hl ⊢
  have hl : lv_has ls 8 [(0, .ref Ad0), (1, .int Va0), (2, .int Va1), (3, .long Ja0)] := hl
  have o_Fs0 := ow_0 k_Fs0
  have o_Fs1 := ow_0 k_Fs1
  refine lv_aload_n hx hb dX11_setStatic_0 rfl (lv_at hl 0 rfl) ?_
  refine va_get (D := (dC, dI)) (ci := 14) (v := .ref Ad1) (C := RX11) (T := TX11) (N := 18) hx hb hts (in_z_X11_setStatic_X11) hown hK hP 0 rfl rfl 1 (by decide) (hts (.fieldLink RX11 19 "HeapWorks" "types" "LHeapWorks$Types;") (by decide +kernel)) (fun _ h9 => h9) (ow_at o_Fs0 0 rfl) dX11_setStatic_1 ?_
  refine lv_iload_n hx hb dX11_setStatic_4 rfl (lv_at hl 1 rfl) ?_
  refine lv_iload_n hx hb dX11_setStatic_5 rfl (lv_at hl 2 rfl) ?_
  have hPc := hP.sub (ws' := [(Ad1, .inr (13, Fs1))]) [1] rfl
  have hDc := hD.sub (ws' := [(Ad1, .inr (13, Fs1))]) [1] (by decide) rfl
  have hKc := hK.sub (tys' := []) [] rfl
  have hFc := va_free (wc := [(Ad1, .inr (13, Fs1))]) hD hS hA [1] rfl
  refine va_calli (va_runV (As := [.int Va0, .int Va1]) (rest := []) ⟨hx, hb, hml, hown, hts⟩ (z_X10_staticField l dC dI s.heap.size Ad1 Fs1 Va0 Va1 (fh_sub o_Fs1.2 [0] rfl) ) (cwV 2 hts g_z_X11_setStatic_z_X10_staticField_260 rfl rfl rfl (by decide +kernel) ⟨Nat.le_of_ble_eq_true rfl, Nat.le_of_ble_eq_true rfl⟩) ⟨fun a U g mk q => by obtain ⟨q0, q1, qP, qK, qD⟩ := q; exact ⟨q0, q1, qP, va_K.moved (u := U) (U := U.calling g mk a) (Vm.Alike.refl U.vm) qK, qD⟩, va_recv hK hP (ci := 13) (q0 := 1) rfl rfl, fun U hU hW => ⟨rfl, by rw [hU], by rw [hU]; exact hPc, va_K.moved hW.alike hKc, hDc.weaken (fun _ _ _ _ => trivial)⟩⟩ rfl rfl hl.1 rfl (lv_room (Nat.le_of_ble_eq_true rfl)) dX11_setStatic_6 ⟨Nat.le_of_ble_eq_true rfl, Nat.le_of_ble_eq_true rfl⟩) hS (fun q _ h => hFc q h) hFc (fun r101 u t H1 locs ht hvm hw hB hz1 hk1 hS => ?_)
  obtain ⟨hP1, hK1, hD1⟩ := hB
  rw [ht] at hP1
  try dsimp only at hw
  obtain ⟨hP, hD⟩ := va_join (wr := [(Ad0, .inr (14, Fs0))]) (w1 := [(Ad1, .inr (13, Fs1))]) hP hD [1] [0] rfl rfl (by decide) (by decide) hk1 hFc hP1 hD1
  have hK := hK.sub (tys' := []) [] rfl
  generalize H1 = H at hP hS ⊢
  have hP : va_P (dC, dI) vwCl [(Ad0, .inr (14, Fs0)), (Ad1, .inr (13, Fs1))] H := hP
  have hD : va_D A [(Ad0, .inr (14, Fs0)), (Ad1, .inr (13, Fs1))] := hD
  rcases hw with ⟨c102, er103⟩ | ⟨c104, c105, er106⟩
  · skip
    subst er103
    refine lv_istore (lv' := [(5, .int (-1)), (0, .ref Ad0), (1, .int Va0), (2, .int Va1), (3, .long Ja0)]) hx hb dX11_setStatic_9 hl (by decide) rfl (fun ls hl => ?_)
    refine lv_iload hx hb dX11_setStatic_11 (lv_at hl 0 rfl) ?_
    refine lv_iconst (v := (-1)) hx hb dX11_setStatic_13 (by decide) ?_
    refine lv_icmp_ne (tgt := 25) hx hb dX11_setStatic_14 (by decide) (fun c107 => absurd c107 (by decide)) (fun c107 => ?_)
    exact vx_throw0 (names := ["java/lang/RuntimeException", "java/lang/Exception"]) hx hb hst hown (by decide +kernel) (by decide +kernel) (hts (.classLink RX11 221 "java/util/NoSuchElementException") (by decide +kernel)) (hts (.initialized "java/util/NoSuchElementException") (by decide +kernel)) (vx_hat (B := xB "java/util/NoSuchElementException") (fun w h => hts w ((in_z_X11_setStatic_at0_X11_223) w h)) (by decide +kernel) (Zz_xB hZ (by decide))) (by decide +kernel) hZ.1 hZ.2.1 hS (hl.1.trans hml.symm) dX11_setStatic_17 dX11_setStatic_20 dX11_setStatic_21 dX11_setStatic_24 (fun x h => (htab x h).elim) (by decide) (Nat.le_of_ble_eq_true rfl) (Nat.le_of_ble_eq_true rfl) (Nat.le_of_ble_eq_true rfl) hlocks (fun t _ h1 h2 => ⟨(), trivial, (Or.inl ⟨rfl, c102⟩), xx_F hS h1 h2⟩) hS.2.2 (by decide) (by decide)
  · skip
    subst er106
    refine lv_istore (lv' := [(5, .int (-1)), (0, .ref Ad0), (1, .int Va0), (2, .int Va1), (3, .long Ja0)]) hx hb dX11_setStatic_9 hl (by decide) rfl (fun ls hl => ?_)
    refine lv_iload hx hb dX11_setStatic_11 (lv_at hl 0 rfl) ?_
    refine lv_iconst (v := (-1)) hx hb dX11_setStatic_13 (by decide) ?_
    refine lv_icmp_ne (tgt := 25) hx hb dX11_setStatic_14 (by decide) (fun c108 => absurd c108 (by decide)) (fun c108 => ?_)
    exact vx_throw0 (names := ["java/lang/RuntimeException", "java/lang/Exception"]) hx hb hst hown (by decide +kernel) (by decide +kernel) (hts (.classLink RX11 221 "java/util/NoSuchElementException") (by decide +kernel)) (hts (.initialized "java/util/NoSuchElementException") (by decide +kernel)) (vx_hat (B := xB "java/util/NoSuchElementException") (fun w h => hts w ((in_z_X11_setStatic_at0_X11_223) w h)) (by decide +kernel) (Zz_xB hZ (by decide))) (by decide +kernel) hZ.1 hZ.2.1 hS (hl.1.trans hml.symm) dX11_setStatic_17 dX11_setStatic_20 dX11_setStatic_21 dX11_setStatic_24 (fun x h => (htab x h).elim) (by decide) (Nat.le_of_ble_eq_true rfl) (Nat.le_of_ble_eq_true rfl) (Nat.le_of_ble_eq_true rfl) hlocks (fun t _ h1 h2 => ⟨(), trivial, (Or.inr (⟨rfl, c104, c105⟩)), xx_F hS h1 h2⟩) hS.2.2 (by decide) (by decide)

def l_z_X11_get : List Cond := [.fieldLink RX11 28 "HeapWorks" "heap" "LHeapWorks$Heap;", .methodLink RX11 237 yX2_hasSlot, .instanceMethod yX2_hasSlot, .selects RX2 yX2_hasSlot yX2_hasSlot, .initialized RX2, .classLink RX11 221 "java/util/NoSuchElementException", .initialized "java/util/NoSuchElementException", .code yX2_hasSlot cX2_hasSlot 3 (some .boolean), .methodLink RX2 55 yX2_isThere, .instanceMethod yX2_isThere, .selects RX2 yX2_isThere yX2_isThere, .code yX2_isThere cX2_isThere 2 (some .boolean), .fieldLink RX2 47 "HeapWorks$Heap" "made" "I"]
def w_z_X11_get : List Cond := .code yX11_get cX11_get 3 (some .long) :: (l_z_X11_get ++ ((wsX110 ++ (((vx_at0 RX11 223 "java/util/NoSuchElementException" ["java/lang/RuntimeException", "java/lang/Exception"]).filter goodWord) ++ wsX20))))
theorem in_z_X11_get_X11 : ∀ w ∈ wsX110, w ∈ w_z_X11_get := fun w h => List.mem_cons_of_mem _ (List.mem_append_right _ (List.mem_append_left _ h))
theorem in_z_X11_get_at0_X11_223 : ∀ w ∈ ((vx_at0 RX11 223 "java/util/NoSuchElementException" ["java/lang/RuntimeException", "java/lang/Exception"]).filter goodWord), w ∈ w_z_X11_get := fun w h => List.mem_cons_of_mem _ (List.mem_append_right _ (List.mem_append_right _ (List.mem_append_left _ h)))
theorem in_z_X11_get_X2 : ∀ w ∈ wsX20, w ∈ w_z_X11_get := fun w h => List.mem_cons_of_mem _ (List.mem_append_right _ (List.mem_append_right _ (List.mem_append_right _ (h))))
theorem g_z_X11_get_z_X2_hasSlot_237 : GoodIn w_z_X11_get (wsV RX11 237 RX2 yX2_hasSlot w_z_X2_hasSlot) := goodIn_app (goodIn_r (([.methodLink RX11 237 yX2_hasSlot, .instanceMethod yX2_hasSlot, .selects RX2 yX2_hasSlot yX2_hasSlot, .initialized RX2] : List Cond)) [2, 3, 4, 5] rfl (by decide +kernel)) (goodIn_ca (goodIn_r (.code yX2_hasSlot cX2_hasSlot 3 (some .boolean) :: l_z_X2_hasSlot) [8, 9, 10, 11, 5, 12, 13] rfl (by decide +kernel)) (goodIn_in (in_z_X11_get_X2) gd_X2))
set_option maxHeartbeats 4000000 in
set_option maxRecDepth 100000 in
theorem z_X11_get (l : Launch) (dC : Nat → ClassId) (dI : Nat → Nat → Nat) (sz : Nat) (Ad0 : Nat) (Fs0 : List Value) (Ad1 : Nat) (Fs1 : List Value) (Va0 : Int32) (Va1 : Int32) (k_Fs0 : fh Fs0 18 [(2, .ref Ad1)]) (k_Fs1 : fh Fs1 14 [(1, .int 0)]) (hst : l.stackTraces = false)  : vx_Met l yX11_get w_z_X11_get ({ frames := 7, cells := 1, slots := 6, locals := 140 }) (va_Pc [.ref Ad0, .int Va0, .int Va1] (fun U => U.heap.size = sz ∧ Zz (va_A [(Ad0, .inr (14, Fs0)), (Ad1, .inr (5, Fs1))] sz) U ∧ Wd dC dI [] (fun _ => True) [(Ad0, .inr (14, Fs0)), (Ad1, .inr (5, Fs1))] U)) (va_Ql (fun (r : Int64) (u : Unit) => False) (fun (u : Unit) t => Wd dC dI [] (va_A [(Ad0, .inr (14, Fs0)), (Ad1, .inr (5, Fs1))] sz) [(Ad0, .inr (14, Fs0)), (Ad1, .inr (5, Fs1))] t) (va_A [(Ad0, .inr (14, Fs0)), (Ad1, .inr (5, Fs1))] sz)) (vx_X (fun _ : Unit => True) (fun E _ _ => (E = "java/util/NoSuchElementException" ∧ Va0 < 0) ∨ (E = "java/util/NoSuchElementException" ∧ ¬ Va0 < 0 ∧ 0 ≤ Va0)) (va_A [(Ad0, .inr (14, Fs0)), (Ad1, .inr (5, Fs1))] sz)) 1 6 (va_A [(Ad0, .inr (14, Fs0)), (Ad1, .inr (5, Fs1))] sz) := by
  refine vx_ofW (cc := cX11_get) (maxL := 3) (ret := (some .long)) (by decide) rfl ?_
  intro p e s m args below meth c s₁ B hml htab hv
  obtain ⟨rfl, hsz, hZ, hP, hK, hD0⟩ := hv
  have hx := B.exec
  have hb := B.bytes
  have hr := B.returns
  have hts := atoms_spec (ws := w_z_X11_get) B.pre
  have hown : s.vm.findClass RX11 = some m.cls := findClass_of_methodNamed B.named
  have hlocks := B.notSynchronized
  subst hsz
  have hD := hD0.self (sz := s.heap.size)
  generalize hAe : va_A [(Ad0, .inr (14, Fs0)), (Ad1, .inr (5, Fs1))] s.heap.size = A at hD hZ ⊢
  have hA : ∀ q : Nat, s.heap.size ≤ q → A q := fun q h => by rw [← hAe]; exact Or.inr h
  have hS : va_S A s.heap s.heap [] := va_S.rf
  have hl := lv_entry ([.ref Ad0, .int Va0, .int Va1]) (n := 3) (Nat.le_of_ble_eq_true rfl)
  rw [lg_entry_eq]
  generalize (lg_sl ([.ref Ad0, .int Va0, .int Va1]) ++ List.replicate (3 - (lg_sl ([.ref Ad0, .int Va0, .int Va1])).length) Slot.unset).toArray = ls at hl ⊢
  have hl : lv_has ls 3 [(0, .ref Ad0), (1, .int Va0), (2, .int Va1)] := hl
  have o_Fs0 := ow_0 k_Fs0
  have o_Fs1 := ow_0 k_Fs1
  refine lv_aload_n hx hb dX11_get_0 rfl (lv_at hl 0 rfl) ?_
  refine va_get (D := (dC, dI)) (ci := 14) (v := .ref Ad1) (C := RX11) (T := TX11) (N := 18) hx hb hts (in_z_X11_get_X11) hown hK hP 0 rfl rfl 2 (by decide) (hts (.fieldLink RX11 28 "HeapWorks" "heap" "LHeapWorks$Heap;") (by decide +kernel)) (fun _ h9 => h9) (ow_at o_Fs0 0 rfl) dX11_get_1 ?_
  refine lv_iload_n hx hb dX11_get_4 rfl (lv_at hl 1 rfl) ?_
  refine lv_iload_n hx hb dX11_get_5 rfl (lv_at hl 2 rfl) ?_
  have hPc := hP.sub (ws' := [(Ad1, .inr (5, Fs1))]) [1] rfl
  have hDc := hD.sub (ws' := [(Ad1, .inr (5, Fs1))]) [1] (by decide) rfl
  have hKc := hK.sub (tys' := []) [] rfl
  have hFc := va_free (wc := [(Ad1, .inr (5, Fs1))]) hD hS hA [1] rfl
  refine va_calli (va_runV (As := [.int Va0, .int Va1]) (rest := []) ⟨hx, hb, hml, hown, hts⟩ (z_X2_hasSlot l dC dI s.heap.size Ad1 Fs1 Va0 Va1 (fh_sub o_Fs1.2 [0] rfl) ) (cwV 2 hts g_z_X11_get_z_X2_hasSlot_237 rfl rfl rfl (by decide +kernel) ⟨Nat.le_of_ble_eq_true rfl, Nat.le_of_ble_eq_true rfl⟩) ⟨fun a U g mk q => by obtain ⟨q0, q1, qP, qK, qD⟩ := q; exact ⟨q0, q1, qP, va_K.moved (u := U) (U := U.calling g mk a) (Vm.Alike.refl U.vm) qK, qD⟩, va_recv hK hP (ci := 5) (q0 := 1) rfl rfl, fun U hU hW => ⟨rfl, by rw [hU], by rw [hU]; exact hPc, va_K.moved hW.alike hKc, hDc.weaken (fun _ _ _ _ => trivial)⟩⟩ rfl rfl hl.1 rfl (lv_room (Nat.le_of_ble_eq_true rfl)) dX11_get_6 ⟨Nat.le_of_ble_eq_true rfl, Nat.le_of_ble_eq_true rfl⟩) hS (fun q _ h => hFc q h) hFc (fun r101 u t H1 locs ht hvm hw hB hz1 hk1 hS => ?_)
  obtain ⟨hP1, hK1, hD1⟩ := hB
  rw [ht] at hP1
  try dsimp only at hw
  obtain ⟨hP, hD⟩ := va_join (wr := [(Ad0, .inr (14, Fs0))]) (w1 := [(Ad1, .inr (5, Fs1))]) hP hD [1] [0] rfl rfl (by decide) (by decide) hk1 hFc hP1 hD1
  have hK := hK.sub (tys' := []) [] rfl
  generalize H1 = H at hP hS ⊢
  have hP : va_P (dC, dI) vwCl [(Ad0, .inr (14, Fs0)), (Ad1, .inr (5, Fs1))] H := hP
  have hD : va_D A [(Ad0, .inr (14, Fs0)), (Ad1, .inr (5, Fs1))] := hD
  rcases hw with ⟨c102, er103⟩ | ⟨c104, c105, er106⟩
  · skip
    subst er103
    refine lv_if_ne (tgt := 20) hx hb dX11_get_9 (by decide) (fun c107 => absurd c107 (by decide)) (fun c107 => ?_)
    exact vx_throw0 (names := ["java/lang/RuntimeException", "java/lang/Exception"]) hx hb hst hown (by decide +kernel) (by decide +kernel) (hts (.classLink RX11 221 "java/util/NoSuchElementException") (by decide +kernel)) (hts (.initialized "java/util/NoSuchElementException") (by decide +kernel)) (vx_hat (B := xB "java/util/NoSuchElementException") (fun w h => hts w ((in_z_X11_get_at0_X11_223) w h)) (by decide +kernel) (Zz_xB hZ (by decide))) (by decide +kernel) hZ.1 hZ.2.1 hS (hl.1.trans hml.symm) dX11_get_12 dX11_get_15 dX11_get_16 dX11_get_19 (fun x h => (htab x h).elim) (by decide) (Nat.le_of_ble_eq_true rfl) (Nat.le_of_ble_eq_true rfl) (Nat.le_of_ble_eq_true rfl) hlocks (fun t _ h1 h2 => ⟨(), trivial, (Or.inl ⟨rfl, c102⟩), xx_F hS h1 h2⟩) hS.2.2 (by decide) (by decide)
  · skip
    subst er106
    refine lv_if_ne (tgt := 20) hx hb dX11_get_9 (by decide) (fun c108 => absurd c108 (by decide)) (fun c108 => ?_)
    exact vx_throw0 (names := ["java/lang/RuntimeException", "java/lang/Exception"]) hx hb hst hown (by decide +kernel) (by decide +kernel) (hts (.classLink RX11 221 "java/util/NoSuchElementException") (by decide +kernel)) (hts (.initialized "java/util/NoSuchElementException") (by decide +kernel)) (vx_hat (B := xB "java/util/NoSuchElementException") (fun w h => hts w ((in_z_X11_get_at0_X11_223) w h)) (by decide +kernel) (Zz_xB hZ (by decide))) (by decide +kernel) hZ.1 hZ.2.1 hS (hl.1.trans hml.symm) dX11_get_12 dX11_get_15 dX11_get_16 dX11_get_19 (fun x h => (htab x h).elim) (by decide) (Nat.le_of_ble_eq_true rfl) (Nat.le_of_ble_eq_true rfl) (Nat.le_of_ble_eq_true rfl) hlocks (fun t _ h1 h2 => ⟨(), trivial, (Or.inr (⟨rfl, c104, c105⟩)), xx_F hS h1 h2⟩) hS.2.2 (by decide) (by decide)

def l_z_X11_getStatic : List Cond := [.fieldLink RX11 19 "HeapWorks" "types" "LHeapWorks$Types;", .methodLink RX11 260 yX10_staticField, .instanceMethod yX10_staticField, .selects RX10 yX10_staticField yX10_staticField, .initialized RX10, .classLink RX11 221 "java/util/NoSuchElementException", .initialized "java/util/NoSuchElementException", .code yX10_staticField cX10_staticField 5 (some .int), .methodLink RX10 69 yX10_isClass, .instanceMethod yX10_isClass, .selects RX10 yX10_isClass yX10_isClass, .code yX10_isClass cX10_isClass 2 (some .boolean), .fieldLink RX10 65 "HeapWorks$Types" "count" "I"]
def w_z_X11_getStatic : List Cond := .code yX11_getStatic cX11_getStatic 4 (some .long) :: (l_z_X11_getStatic ++ ((wsX110 ++ (((vx_at0 RX11 223 "java/util/NoSuchElementException" ["java/lang/RuntimeException", "java/lang/Exception"]).filter goodWord) ++ wsX100))))
theorem in_z_X11_getStatic_X11 : ∀ w ∈ wsX110, w ∈ w_z_X11_getStatic := fun w h => List.mem_cons_of_mem _ (List.mem_append_right _ (List.mem_append_left _ h))
theorem in_z_X11_getStatic_at0_X11_223 : ∀ w ∈ ((vx_at0 RX11 223 "java/util/NoSuchElementException" ["java/lang/RuntimeException", "java/lang/Exception"]).filter goodWord), w ∈ w_z_X11_getStatic := fun w h => List.mem_cons_of_mem _ (List.mem_append_right _ (List.mem_append_right _ (List.mem_append_left _ h)))
theorem in_z_X11_getStatic_X10 : ∀ w ∈ wsX100, w ∈ w_z_X11_getStatic := fun w h => List.mem_cons_of_mem _ (List.mem_append_right _ (List.mem_append_right _ (List.mem_append_right _ (h))))
theorem g_z_X11_getStatic_z_X10_staticField_260 : GoodIn w_z_X11_getStatic (wsV RX11 260 RX10 yX10_staticField w_z_X10_staticField) := goodIn_app (goodIn_r (([.methodLink RX11 260 yX10_staticField, .instanceMethod yX10_staticField, .selects RX10 yX10_staticField yX10_staticField, .initialized RX10] : List Cond)) [2, 3, 4, 5] rfl (by decide +kernel)) (goodIn_ca (goodIn_r (.code yX10_staticField cX10_staticField 5 (some .int) :: l_z_X10_staticField) [8, 9, 10, 11, 5, 12, 13] rfl (by decide +kernel)) (goodIn_in (in_z_X11_getStatic_X10) gd_X10))
set_option maxHeartbeats 4000000 in
set_option maxRecDepth 100000 in
theorem z_X11_getStatic (l : Launch) (dC : Nat → ClassId) (dI : Nat → Nat → Nat) (sz : Nat) (Ad0 : Nat) (Fs0 : List Value) (Ad1 : Nat) (Fs1 : List Value) (Va0 : Int32) (Va1 : Int32) (k_Fs0 : fh Fs0 18 [(1, .ref Ad1)]) (k_Fs1 : fh Fs1 18 [(0, .int 0)]) (hst : l.stackTraces = false)  : vx_Met l yX11_getStatic w_z_X11_getStatic ({ frames := 7, cells := 1, slots := 6, locals := 140 }) (va_Pc [.ref Ad0, .int Va0, .int Va1] (fun U => U.heap.size = sz ∧ Zz (va_A [(Ad0, .inr (14, Fs0)), (Ad1, .inr (13, Fs1))] sz) U ∧ Wd dC dI [] (fun _ => True) [(Ad0, .inr (14, Fs0)), (Ad1, .inr (13, Fs1))] U)) (va_Ql (fun (r : Int64) (u : Unit) => False) (fun (u : Unit) t => Wd dC dI [] (va_A [(Ad0, .inr (14, Fs0)), (Ad1, .inr (13, Fs1))] sz) [(Ad0, .inr (14, Fs0)), (Ad1, .inr (13, Fs1))] t) (va_A [(Ad0, .inr (14, Fs0)), (Ad1, .inr (13, Fs1))] sz)) (vx_X (fun _ : Unit => True) (fun E _ _ => (E = "java/util/NoSuchElementException" ∧ Va0 < 0) ∨ (E = "java/util/NoSuchElementException" ∧ ¬ Va0 < 0 ∧ 0 ≤ Va0)) (va_A [(Ad0, .inr (14, Fs0)), (Ad1, .inr (13, Fs1))] sz)) 1 6 (va_A [(Ad0, .inr (14, Fs0)), (Ad1, .inr (13, Fs1))] sz) := by
  refine vx_ofW (cc := cX11_getStatic) (maxL := 4) (ret := (some .long)) (by decide) rfl ?_
  intro p e s m args below meth c s₁ B hml htab hv
  obtain ⟨rfl, hsz, hZ, hP, hK, hD0⟩ := hv
  have hx := B.exec
  have hb := B.bytes
  have hr := B.returns
  have hts := atoms_spec (ws := w_z_X11_getStatic) B.pre
  have hown : s.vm.findClass RX11 = some m.cls := findClass_of_methodNamed B.named
  have hlocks := B.notSynchronized
  subst hsz
  have hD := hD0.self (sz := s.heap.size)
  generalize hAe : va_A [(Ad0, .inr (14, Fs0)), (Ad1, .inr (13, Fs1))] s.heap.size = A at hD hZ ⊢
  have hA : ∀ q : Nat, s.heap.size ≤ q → A q := fun q h => by rw [← hAe]; exact Or.inr h
  have hS : va_S A s.heap s.heap [] := va_S.rf
  have hl := lv_entry ([.ref Ad0, .int Va0, .int Va1]) (n := 4) (Nat.le_of_ble_eq_true rfl)
  rw [lg_entry_eq]
  generalize (lg_sl ([.ref Ad0, .int Va0, .int Va1]) ++ List.replicate (4 - (lg_sl ([.ref Ad0, .int Va0, .int Va1])).length) Slot.unset).toArray = ls at hl ⊢
  have hl : lv_has ls 4 [(0, .ref Ad0), (1, .int Va0), (2, .int Va1)] := hl
  have o_Fs0 := ow_0 k_Fs0
  have o_Fs1 := ow_0 k_Fs1
  refine lv_aload_n hx hb dX11_getStatic_0 rfl (lv_at hl 0 rfl) ?_
  refine va_get (D := (dC, dI)) (ci := 14) (v := .ref Ad1) (C := RX11) (T := TX11) (N := 18) hx hb hts (in_z_X11_getStatic_X11) hown hK hP 0 rfl rfl 1 (by decide) (hts (.fieldLink RX11 19 "HeapWorks" "types" "LHeapWorks$Types;") (by decide +kernel)) (fun _ h9 => h9) (ow_at o_Fs0 0 rfl) dX11_getStatic_1 ?_
  refine lv_iload_n hx hb dX11_getStatic_4 rfl (lv_at hl 1 rfl) ?_
  refine lv_iload_n hx hb dX11_getStatic_5 rfl (lv_at hl 2 rfl) ?_
  have hPc := hP.sub (ws' := [(Ad1, .inr (13, Fs1))]) [1] rfl
  have hDc := hD.sub (ws' := [(Ad1, .inr (13, Fs1))]) [1] (by decide) rfl
  have hKc := hK.sub (tys' := []) [] rfl
  have hFc := va_free (wc := [(Ad1, .inr (13, Fs1))]) hD hS hA [1] rfl
  refine va_calli (va_runV (As := [.int Va0, .int Va1]) (rest := []) ⟨hx, hb, hml, hown, hts⟩ (z_X10_staticField l dC dI s.heap.size Ad1 Fs1 Va0 Va1 (fh_sub o_Fs1.2 [0] rfl) ) (cwV 2 hts g_z_X11_getStatic_z_X10_staticField_260 rfl rfl rfl (by decide +kernel) ⟨Nat.le_of_ble_eq_true rfl, Nat.le_of_ble_eq_true rfl⟩) ⟨fun a U g mk q => by obtain ⟨q0, q1, qP, qK, qD⟩ := q; exact ⟨q0, q1, qP, va_K.moved (u := U) (U := U.calling g mk a) (Vm.Alike.refl U.vm) qK, qD⟩, va_recv hK hP (ci := 13) (q0 := 1) rfl rfl, fun U hU hW => ⟨rfl, by rw [hU], by rw [hU]; exact hPc, va_K.moved hW.alike hKc, hDc.weaken (fun _ _ _ _ => trivial)⟩⟩ rfl rfl hl.1 rfl (lv_room (Nat.le_of_ble_eq_true rfl)) dX11_getStatic_6 ⟨Nat.le_of_ble_eq_true rfl, Nat.le_of_ble_eq_true rfl⟩) hS (fun q _ h => hFc q h) hFc (fun r101 u t H1 locs ht hvm hw hB hz1 hk1 hS => ?_)
  obtain ⟨hP1, hK1, hD1⟩ := hB
  rw [ht] at hP1
  try dsimp only at hw
  obtain ⟨hP, hD⟩ := va_join (wr := [(Ad0, .inr (14, Fs0))]) (w1 := [(Ad1, .inr (13, Fs1))]) hP hD [1] [0] rfl rfl (by decide) (by decide) hk1 hFc hP1 hD1
  have hK := hK.sub (tys' := []) [] rfl
  generalize H1 = H at hP hS ⊢
  have hP : va_P (dC, dI) vwCl [(Ad0, .inr (14, Fs0)), (Ad1, .inr (13, Fs1))] H := hP
  have hD : va_D A [(Ad0, .inr (14, Fs0)), (Ad1, .inr (13, Fs1))] := hD
  rcases hw with ⟨c102, er103⟩ | ⟨c104, c105, er106⟩
  · skip
    subst er103
    refine lv_istore_n (lv' := [(3, .int (-1)), (0, .ref Ad0), (1, .int Va0), (2, .int Va1)]) hx hb dX11_getStatic_9 rfl hl (by decide) rfl (fun ls hl => ?_)
    refine lv_iload_n hx hb dX11_getStatic_10 rfl (lv_at hl 0 rfl) ?_
    refine lv_iconst (v := (-1)) hx hb dX11_getStatic_11 (by decide) ?_
    refine lv_icmp_ne (tgt := 23) hx hb dX11_getStatic_12 (by decide) (fun c107 => absurd c107 (by decide)) (fun c107 => ?_)
    exact vx_throw0 (names := ["java/lang/RuntimeException", "java/lang/Exception"]) hx hb hst hown (by decide +kernel) (by decide +kernel) (hts (.classLink RX11 221 "java/util/NoSuchElementException") (by decide +kernel)) (hts (.initialized "java/util/NoSuchElementException") (by decide +kernel)) (vx_hat (B := xB "java/util/NoSuchElementException") (fun w h => hts w ((in_z_X11_getStatic_at0_X11_223) w h)) (by decide +kernel) (Zz_xB hZ (by decide))) (by decide +kernel) hZ.1 hZ.2.1 hS (hl.1.trans hml.symm) dX11_getStatic_15 dX11_getStatic_18 dX11_getStatic_19 dX11_getStatic_22 (fun x h => (htab x h).elim) (by decide) (Nat.le_of_ble_eq_true rfl) (Nat.le_of_ble_eq_true rfl) (Nat.le_of_ble_eq_true rfl) hlocks (fun t _ h1 h2 => ⟨(), trivial, (Or.inl ⟨rfl, c102⟩), xx_F hS h1 h2⟩) hS.2.2 (by decide) (by decide)
  · skip
    subst er106
    refine lv_istore_n (lv' := [(3, .int (-1)), (0, .ref Ad0), (1, .int Va0), (2, .int Va1)]) hx hb dX11_getStatic_9 rfl hl (by decide) rfl (fun ls hl => ?_)
    refine lv_iload_n hx hb dX11_getStatic_10 rfl (lv_at hl 0 rfl) ?_
    refine lv_iconst (v := (-1)) hx hb dX11_getStatic_11 (by decide) ?_
    refine lv_icmp_ne (tgt := 23) hx hb dX11_getStatic_12 (by decide) (fun c108 => absurd c108 (by decide)) (fun c108 => ?_)
    exact vx_throw0 (names := ["java/lang/RuntimeException", "java/lang/Exception"]) hx hb hst hown (by decide +kernel) (by decide +kernel) (hts (.classLink RX11 221 "java/util/NoSuchElementException") (by decide +kernel)) (hts (.initialized "java/util/NoSuchElementException") (by decide +kernel)) (vx_hat (B := xB "java/util/NoSuchElementException") (fun w h => hts w ((in_z_X11_getStatic_at0_X11_223) w h)) (by decide +kernel) (Zz_xB hZ (by decide))) (by decide +kernel) hZ.1 hZ.2.1 hS (hl.1.trans hml.symm) dX11_getStatic_15 dX11_getStatic_18 dX11_getStatic_19 dX11_getStatic_22 (fun x h => (htab x h).elim) (by decide) (Nat.le_of_ble_eq_true rfl) (Nat.le_of_ble_eq_true rfl) (Nat.le_of_ble_eq_true rfl) hlocks (fun t _ h1 h2 => ⟨(), trivial, (Or.inr (⟨rfl, c104, c105⟩)), xx_F hS h1 h2⟩) hS.2.2 (by decide) (by decide)

def l_z_X11_object : List Cond := [.fieldLink RX11 28 "HeapWorks" "heap" "LHeapWorks$Heap;", .methodLink RX11 218 yX2_isThere, .instanceMethod yX2_isThere, .selects RX2 yX2_isThere yX2_isThere, .initialized RX2, .code yX2_isThere cX2_isThere 2 (some .boolean), .fieldLink RX2 47 "HeapWorks$Heap" "made" "I"]
def w_z_X11_object : List Cond := .code yX11_object cX11_object 3 (some .int) :: (l_z_X11_object ++ ((wsX110 ++ wsX20)))
theorem in_z_X11_object_X11 : ∀ w ∈ wsX110, w ∈ w_z_X11_object := fun w h => List.mem_cons_of_mem _ (List.mem_append_right _ (List.mem_append_left _ h))
theorem in_z_X11_object_X2 : ∀ w ∈ wsX20, w ∈ w_z_X11_object := fun w h => List.mem_cons_of_mem _ (List.mem_append_right _ (List.mem_append_right _ (h)))
theorem g_z_X11_object_z_X2_isThere_218 : GoodIn w_z_X11_object (wsV RX11 218 RX2 yX2_isThere w_z_X2_isThere) := goodIn_app (goodIn_r (([.methodLink RX11 218 yX2_isThere, .instanceMethod yX2_isThere, .selects RX2 yX2_isThere yX2_isThere, .initialized RX2] : List Cond)) [2, 3, 4, 5] rfl (by decide +kernel)) (goodIn_ca (goodIn_r (.code yX2_isThere cX2_isThere 2 (some .boolean) :: l_z_X2_isThere) [6, 7] rfl (by decide +kernel)) (goodIn_in (in_z_X11_object_X2) gd_X2))
set_option maxHeartbeats 4000000 in
set_option maxRecDepth 100000 in
theorem z_X11_object (l : Launch) (dC : Nat → ClassId) (dI : Nat → Nat → Nat) (sz : Nat) (Ad0 : Nat) (Fs0 : List Value) (Ad1 : Nat) (Fs1 : List Value) (Va0 : Int32) (Va1 : Int32) (k_Fs0 : fh Fs0 18 [(2, .ref Ad1)]) (k_Fs1 : fh Fs1 14 [(1, .int 0)])  : Met l yX11_object w_z_X11_object ({ frames := 1, cells := 0, slots := 0, locals := 21 }) (va_Pc [.ref Ad0, .int Va0, .int Va1] (fun U => U.heap.size = sz ∧ Wd dC dI [] (fun _ => True) [(Ad0, .inr (14, Fs0)), (Ad1, .inr (5, Fs1))] U)) (va_Qi (fun (r : Int32) (u : Unit) => (Va0 < 0 ∧ r = (-1)) ∨ (¬ Va0 < 0 ∧ 0 ≤ Va0 ∧ r = (-1))) (fun (u : Unit) t => Wd dC dI [] (va_A [(Ad0, .inr (14, Fs0)), (Ad1, .inr (5, Fs1))] sz) [(Ad0, .inr (14, Fs0)), (Ad1, .inr (5, Fs1))] t) (va_A [(Ad0, .inr (14, Fs0)), (Ad1, .inr (5, Fs1))] sz))  0 0 (va_A [(Ad0, .inr (14, Fs0)), (Ad1, .inr (5, Fs1))] sz) := by
  refine Met.ofW (cc := cX11_object) (maxL := 3) (ret := (some .int)) (by decide) rfl ?_
  intro p e s m args below meth c s₁ B hml hv
  obtain ⟨rfl, hsz, hP, hK, hD0⟩ := hv
  have hx := B.exec
  have hb := B.bytes
  have hr := B.returns
  have hts := atoms_spec (ws := w_z_X11_object) B.pre
  have hown : s.vm.findClass RX11 = some m.cls := findClass_of_methodNamed B.named
  have hlocks := B.notSynchronized
  subst hsz
  have hD := hD0.self (sz := s.heap.size)
  generalize hAe : va_A [(Ad0, .inr (14, Fs0)), (Ad1, .inr (5, Fs1))] s.heap.size = A at hD ⊢
  have hA : ∀ q : Nat, s.heap.size ≤ q → A q := fun q h => by rw [← hAe]; exact Or.inr h
  have hS : va_S A s.heap s.heap [] := va_S.rf
  have hl := lv_entry ([.ref Ad0, .int Va0, .int Va1]) (n := 3) (Nat.le_of_ble_eq_true rfl)
  rw [lg_entry_eq]
  generalize (lg_sl ([.ref Ad0, .int Va0, .int Va1]) ++ List.replicate (3 - (lg_sl ([.ref Ad0, .int Va0, .int Va1])).length) Slot.unset).toArray = ls at hl ⊢
  have hl : lv_has ls 3 [(0, .ref Ad0), (1, .int Va0), (2, .int Va1)] := hl
  have o_Fs0 := ow_0 k_Fs0
  have o_Fs1 := ow_0 k_Fs1
  refine lv_aload_n hx hb dX11_object_0 rfl (lv_at hl 0 rfl) ?_
  refine va_get (D := (dC, dI)) (ci := 14) (v := .ref Ad1) (C := RX11) (T := TX11) (N := 18) hx hb hts (in_z_X11_object_X11) hown hK hP 0 rfl rfl 2 (by decide) (hts (.fieldLink RX11 28 "HeapWorks" "heap" "LHeapWorks$Heap;") (by decide +kernel)) (fun _ h9 => h9) (ow_at o_Fs0 0 rfl) dX11_object_1 ?_
  refine lv_iload_n hx hb dX11_object_4 rfl (lv_at hl 1 rfl) ?_
  have hPc := hP.sub (ws' := [(Ad1, .inr (5, Fs1))]) [1] rfl
  have hDc := hD.sub (ws' := [(Ad1, .inr (5, Fs1))]) [1] (by decide) rfl
  have hKc := hK.sub (tys' := []) [] rfl
  have hFc := va_free (wc := [(Ad1, .inr (5, Fs1))]) hD hS hA [1] rfl
  refine va_calli (va_runV (As := [.int Va0]) (rest := []) ⟨hx, hb, hml, hown, hts⟩ (z_X2_isThere l dC dI s.heap.size Ad1 Fs1 Va0 (fh_sub o_Fs1.2 [0] rfl) ) (cwV 1 hts g_z_X11_object_z_X2_isThere_218 rfl rfl rfl (by decide +kernel) ⟨Nat.le_of_ble_eq_true rfl, Nat.le_of_ble_eq_true rfl⟩) ⟨fun a U g mk q => by obtain ⟨q0, q1, qP, qK, qD⟩ := q; exact ⟨q0, q1, qP, va_K.moved (u := U) (U := U.calling g mk a) (Vm.Alike.refl U.vm) qK, qD⟩, va_recv hK hP (ci := 5) (q0 := 1) rfl rfl, fun U hU hW => ⟨rfl, by rw [hU], by rw [hU]; exact hPc, va_K.moved hW.alike hKc, hDc.weaken (fun _ _ _ _ => trivial)⟩⟩ rfl rfl hl.1 rfl (lv_room (Nat.le_of_ble_eq_true rfl)) dX11_object_5 ⟨Nat.le_of_ble_eq_true rfl, Nat.le_of_ble_eq_true rfl⟩) hS (fun q _ h => hFc q h) hFc (fun r101 u t H1 locs ht hvm hw hB hz1 hk1 hS => ?_)
  obtain ⟨hP1, hK1, hD1⟩ := hB
  rw [ht] at hP1
  try dsimp only at hw
  obtain ⟨hP, hD⟩ := va_join (wr := [(Ad0, .inr (14, Fs0))]) (w1 := [(Ad1, .inr (5, Fs1))]) hP hD [1] [0] rfl rfl (by decide) (by decide) hk1 hFc hP1 hD1
  have hK := hK.sub (tys' := []) [] rfl
  generalize H1 = H at hP hS ⊢
  have hP : va_P (dC, dI) vwCl [(Ad0, .inr (14, Fs0)), (Ad1, .inr (5, Fs1))] H := hP
  have hD : va_D A [(Ad0, .inr (14, Fs0)), (Ad1, .inr (5, Fs1))] := hD
  rcases hw with ⟨c102, er103⟩ | ⟨c104, c105, er106⟩
  · skip
    subst er103
    refine lv_if_ne (tgt := 13) hx hb dX11_object_8 (by decide) (fun c107 => absurd c107 (by decide)) (fun c107 => ?_)
    refine lv_iconst (v := (-1)) hx hb dX11_object_11 (by decide) ?_
    have hP9 := hP.sub (ws' := [(Ad0, .inr (14, Fs0)), (Ad1, .inr (5, Fs1))]) [0, 1] rfl
    have hD9 := hD.sub (ws' := [(Ad0, .inr (14, Fs0)), (Ad1, .inr (5, Fs1))]) [0, 1] (by decide) rfl
    have hK9 := hK.sub (tys' := []) [] rfl
    exact W.iret (v := (-1)) hx hb hr (fun t ht hW => ⟨⟨(-1), (), rfl, (Or.inl ⟨c102, rfl⟩), by rw [ht]; exact hP9, va_K.moved hW.alike hK9, hD9⟩, hS.F ht⟩) hS.2.2 dX11_object_12
  · skip
    subst er106
    refine lv_if_ne (tgt := 13) hx hb dX11_object_8 (by decide) (fun c108 => absurd c108 (by decide)) (fun c108 => ?_)
    refine lv_iconst (v := (-1)) hx hb dX11_object_11 (by decide) ?_
    have hP9 := hP.sub (ws' := [(Ad0, .inr (14, Fs0)), (Ad1, .inr (5, Fs1))]) [0, 1] rfl
    have hD9 := hD.sub (ws' := [(Ad0, .inr (14, Fs0)), (Ad1, .inr (5, Fs1))]) [0, 1] (by decide) rfl
    have hK9 := hK.sub (tys' := []) [] rfl
    exact W.iret (v := (-1)) hx hb hr (fun t ht hW => ⟨⟨(-1), (), rfl, (Or.inr (⟨c104, c105, rfl⟩)), by rw [ht]; exact hP9, va_K.moved hW.alike hK9, hD9⟩, hS.F ht⟩) hS.2.2 dX11_object_12

def l_z_X3_forgetUndo : List Cond := [.fieldLink RX3 119 "HeapWorks$Journal" "undoCount" "I"]
def w_z_X3_forgetUndo : List Cond := .code yX3_forgetUndo cX3_forgetUndo 1 none :: (l_z_X3_forgetUndo ++ (wsX30))
theorem in_z_X3_forgetUndo_X3 : ∀ w ∈ wsX30, w ∈ w_z_X3_forgetUndo := fun w h => List.mem_cons_of_mem _ (List.mem_append_right _ (h))
set_option maxHeartbeats 4000000 in
set_option maxRecDepth 100000 in
theorem z_X3_forgetUndo (l : Launch) (dC : Nat → ClassId) (dI : Nat → Nat → Nat) (sz : Nat) (Ad0 : Nat) (Fs0 : List Value) (k_Fs0 : fh Fs0 13 [])  : Met l yX3_forgetUndo w_z_X3_forgetUndo ({ frames := 0, cells := 0, slots := 0, locals := 0 }) (va_Pc [.ref Ad0] (fun U => U.heap.size = sz ∧ Wd dC dI [] (fun _ => True) [(Ad0, .inr (6, Fs0))] U)) (va_Qv (fun (u : List Value) => ow Fs0 (u) 13 [6] [(6, .int 0)]) (fun (u : List Value) t => Wd dC dI [] (va_A [(Ad0, .inr (6, Fs0))] sz) [(Ad0, .inr (6, (u)))] t) (va_A [(Ad0, .inr (6, Fs0))] sz))  0 0 (va_A [(Ad0, .inr (6, Fs0))] sz) := by
  refine Met.ofW (cc := cX3_forgetUndo) (maxL := 1) (ret := none) (by decide) rfl ?_
  intro p e s m args below meth c s₁ B hml hv
  obtain ⟨rfl, hsz, hP, hK, hD0⟩ := hv
  have hx := B.exec
  have hb := B.bytes
  have hr := B.returns
  have hts := atoms_spec (ws := w_z_X3_forgetUndo) B.pre
  have hown : s.vm.findClass RX3 = some m.cls := findClass_of_methodNamed B.named
  have hlocks := B.notSynchronized
  subst hsz
  have hD := hD0.self (sz := s.heap.size)
  generalize hAe : va_A [(Ad0, .inr (6, Fs0))] s.heap.size = A at hD ⊢
  have hA : ∀ q : Nat, s.heap.size ≤ q → A q := fun q h => by rw [← hAe]; exact Or.inr h
  have hS : va_S A s.heap s.heap [] := va_S.rf
  have hl := lv_entry ([.ref Ad0]) (n := 1) (Nat.le_of_ble_eq_true rfl)
  rw [lg_entry_eq]
  generalize (lg_sl ([.ref Ad0]) ++ List.replicate (1 - (lg_sl ([.ref Ad0])).length) Slot.unset).toArray = ls at hl ⊢
  have hl : lv_has ls 1 [(0, .ref Ad0)] := hl
  have o_Fs0 := ow_0 k_Fs0
  refine lv_aload_n hx hb dX3_forgetUndo_0 rfl (lv_at hl 0 rfl) ?_
  refine lv_iconst (v := 0) hx hb dX3_forgetUndo_1 (by decide) ?_
  refine va_put (D := (dC, dI)) (ci := 6) (v := .int 0) (ty := .int) (C := RX3) (T := TX3) (N := 13) hx hb hts (in_z_X3_forgetUndo_X3) tyX3 tyX3_ok nmX3 hown hK hP hD hS 0 rfl rfl 6 (by decide) (hts (.fieldLink RX3 119 "HeapWorks$Journal" "undoCount" "I") (by decide +kernel)) (fun _ h9 => h9) rfl (by decide +kernel) rfl rfl (by rw [o_Fs0.2.1]; decide) dX3_forgetUndo_2 (fun H locs hP hD hS => ?_)
  have hP : va_P (dC, dI) vwCl [(Ad0, .inr (6, (Fs0.set 6 (.int 0))))] H := hP
  have hD : va_D A [(Ad0, .inr (6, (Fs0.set 6 (.int 0))))] := hD
  have o_s101 := ow_set o_Fs0 6 (.int 0) (by decide) (l' := [(6, .int 0)]) (w' := [6]) rfl rfl
  generalize (Fs0.set 6 (.int 0)) = s101 at hP hD o_s101
  have hP9 := hP.sub (ws' := [(Ad0, .inr (6, s101))]) [0] rfl
  have hD9 := hD.sub (ws' := [(Ad0, .inr (6, s101))]) [0] (by decide) rfl
  have hK9 := hK.sub (tys' := []) [] rfl
  exact W.vret hx hb hr (fun t ht hW => ⟨⟨s101, rfl, o_s101, by rw [ht]; exact hP9, va_K.moved hW.alike hK9, hD9⟩, hS.F ht⟩) hS.2.2 dX3_forgetUndo_5

def l_z_X2_clearMarks : List Cond := [.fieldLink RX2 44 "HeapWorks$Heap" "mark" "[I", .fieldLink RX2 47 "HeapWorks$Heap" "made" "I", .methodLink RX2 109 yJ7_fill_fda19, .static yJ7_fill_fda19, .initialized RJ7, .code yJ7_fill_fda19 cJ7_fill_fda19 5 none, .methodLink RJ7 13 yJ7_rangeCheck_23922, .static yJ7_rangeCheck_23922, .code yJ7_rangeCheck_23922 cJ7_rangeCheck_23922 3 none]
def w_z_X2_clearMarks : List Cond := .code yX2_clearMarks cX2_clearMarks 1 none :: (l_z_X2_clearMarks ++ (wsX20))
theorem in_z_X2_clearMarks_X2 : ∀ w ∈ wsX20, w ∈ w_z_X2_clearMarks := fun w h => List.mem_cons_of_mem _ (List.mem_append_right _ (h))
theorem g_z_X2_clearMarks_z_J7_fill_fda19_109 : GoodIn w_z_X2_clearMarks (va_wsS RX2 109 yJ7_fill_fda19 w_z_J7_fill_fda19) := goodIn_app (goodIn_r (([.methodLink RX2 109 yJ7_fill_fda19, .static yJ7_fill_fda19, .initialized RJ7] : List Cond)) [3, 4, 5] rfl (by decide +kernel)) (goodIn_r (.code yJ7_fill_fda19 cJ7_fill_fda19 5 none :: l_z_J7_fill_fda19) [6, 7, 8, 5, 9] rfl (by decide +kernel))
set_option maxHeartbeats 4000000 in
set_option maxRecDepth 100000 in
theorem z_X2_clearMarks (l : Launch) (dC : Nat → ClassId) (dI : Nat → Nat → Nat) (sz : Nat) (Ad0 : Nat) (Fs0 : List Value) (Ad1 : Nat) (Fa0 : Nat → Int32) (Ka0 : ClassId) (k_Fs0 : fh Fs0 14 [(1, .int 0), (13, .ref Ad1)])  : Met l yX2_clearMarks w_z_X2_clearMarks ({ frames := 2, cells := 0, slots := 0, locals := 46 }) (va_Pc [.ref Ad0] (fun U => U.heap.size = sz ∧ Wd dC dI [(Ka0, .int)] (fun _ => True) [(Ad0, .inr (5, Fs0)), (Ad1, .inl (Ka0, 400, .inl Fa0))] U)) (va_Qv (fun (u : Unit) => True) (fun (u : Unit) t => Wd dC dI [(Ka0, .int)] (va_A [(Ad0, .inr (5, Fs0)), (Ad1, .inl (Ka0, 400, .inl Fa0))] sz) [(Ad0, .inr (5, Fs0)), (Ad1, .inl (Ka0, 400, .inl Fa0))] t) (va_A [(Ad0, .inr (5, Fs0)), (Ad1, .inl (Ka0, 400, .inl Fa0))] sz))  0 0 (va_A [(Ad0, .inr (5, Fs0)), (Ad1, .inl (Ka0, 400, .inl Fa0))] sz) := by
  refine Met.ofW (cc := cX2_clearMarks) (maxL := 1) (ret := none) (by decide) rfl ?_
  intro p e s m args below meth c s₁ B hml hv
  obtain ⟨rfl, hsz, hP, hK, hD0⟩ := hv
  have hx := B.exec
  have hb := B.bytes
  have hr := B.returns
  have hts := atoms_spec (ws := w_z_X2_clearMarks) B.pre
  have hown : s.vm.findClass RX2 = some m.cls := findClass_of_methodNamed B.named
  have hlocks := B.notSynchronized
  subst hsz
  have hD := hD0.self (sz := s.heap.size)
  generalize hAe : va_A [(Ad0, .inr (5, Fs0)), (Ad1, .inl (Ka0, 400, .inl Fa0))] s.heap.size = A at hD ⊢
  have hA : ∀ q : Nat, s.heap.size ≤ q → A q := fun q h => by rw [← hAe]; exact Or.inr h
  have hS : va_S A s.heap s.heap [] := va_S.rf
  have hl := lv_entry ([.ref Ad0]) (n := 1) (Nat.le_of_ble_eq_true rfl)
  rw [lg_entry_eq]
  generalize (lg_sl ([.ref Ad0]) ++ List.replicate (1 - (lg_sl ([.ref Ad0])).length) Slot.unset).toArray = ls at hl ⊢
  have hl : lv_has ls 1 [(0, .ref Ad0)] := hl
  have o_Fs0 := ow_0 k_Fs0
  refine lv_aload_n hx hb dX2_clearMarks_0 rfl (lv_at hl 0 rfl) ?_
  refine va_get (D := (dC, dI)) (ci := 5) (v := .ref Ad1) (C := RX2) (T := TX2) (N := 14) hx hb hts (in_z_X2_clearMarks_X2) hown hK hP 0 rfl rfl 13 (by decide) (hts (.fieldLink RX2 44 "HeapWorks$Heap" "mark" "[I") (by decide +kernel)) (fun _ h9 => h9) (ow_at o_Fs0 1 rfl) dX2_clearMarks_1 ?_
  refine lv_iconst (v := 0) hx hb dX2_clearMarks_4 (by decide) ?_
  refine lv_aload_n hx hb dX2_clearMarks_5 rfl (lv_at hl 0 rfl) ?_
  refine va_get (D := (dC, dI)) (ci := 5) (v := .int 0) (C := RX2) (T := TX2) (N := 14) hx hb hts (in_z_X2_clearMarks_X2) hown hK hP 0 rfl rfl 1 (by decide) (hts (.fieldLink RX2 47 "HeapWorks$Heap" "made" "I") (by decide +kernel)) (fun _ h9 => h9) (ow_at o_Fs0 0 rfl) dX2_clearMarks_6 ?_
  refine lv_iconst (v := (-1)) hx hb dX2_clearMarks_9 (by decide) ?_
  have hPc := hP.sub (ws' := [(Ad1, .inl (Ka0, 400, .inl Fa0))]) [1] rfl
  have hDc := hD.sub (ws' := [(Ad1, .inl (Ka0, 400, .inl Fa0))]) [1] (by decide) rfl
  have hKc := hK.sub (tys' := [(Ka0, .int)]) [0] rfl
  have hFc := va_free (wc := [(Ad1, .inl (Ka0, 400, .inl Fa0))]) hD hS hA [1] rfl
  refine va_callv (va_runS (As := [.ref Ad1, .int 0, .int 0, .int (-1)]) (rest := []) ⟨hx, hb, hml, hown, hts⟩ (z_J7_fill_fda19 l dC dI s.heap.size Ad1 Fa0 Ka0  ) (va_cwS 4 hts g_z_X2_clearMarks_z_J7_fill_fda19_109 rfl rfl rfl (by decide +kernel) ⟨Nat.le_of_ble_eq_true rfl, Nat.le_of_ble_eq_true rfl⟩) ⟨fun a U g mk q => by obtain ⟨q0, q1, qP, qK, qD⟩ := q; exact ⟨q0, q1, qP, va_K.moved (u := U) (U := U.calling g mk a) (Vm.Alike.refl U.vm) qK, qD⟩, fun U hU hW => ⟨rfl, by rw [hU], by rw [hU]; exact hPc, va_K.moved hW.alike hKc, hDc.weaken (fun _ _ _ _ => trivial)⟩⟩ rfl rfl hl.1 rfl (lv_room (Nat.le_of_ble_eq_true rfl)) dX2_clearMarks_10 ⟨Nat.le_of_ble_eq_true rfl, Nat.le_of_ble_eq_true rfl⟩) hS (fun q _ h => hFc q h) hFc (fun u t H1 locs ht hvm hw hB hz1 hk1 hS => ?_)
  obtain ⟨hP1, hK1, hD1⟩ := hB
  rw [ht] at hP1
  try dsimp only at hw
  obtain ⟨hP, hD⟩ := va_join (wr := [(Ad0, .inr (5, Fs0))]) (w1 := [(Ad1, .inl (Ka0, 400, .inl Fa0))]) hP hD [1] [0] rfl rfl (by decide) (by decide) hk1 hFc hP1 hD1
  have hK := hK.sub (tys' := [(Ka0, .int)]) [0] rfl
  generalize H1 = H at hP hS ⊢
  have hP : va_P (dC, dI) vwCl [(Ad0, .inr (5, Fs0)), (Ad1, .inl (Ka0, 400, .inl Fa0))] H := hP
  have hD : va_D A [(Ad0, .inr (5, Fs0)), (Ad1, .inl (Ka0, 400, .inl Fa0))] := hD
  have hP9 := hP.sub (ws' := [(Ad0, .inr (5, Fs0)), (Ad1, .inl (Ka0, 400, .inl Fa0))]) [0, 1] rfl
  have hD9 := hD.sub (ws' := [(Ad0, .inr (5, Fs0)), (Ad1, .inl (Ka0, 400, .inl Fa0))]) [0, 1] (by decide) rfl
  have hK9 := hK.sub (tys' := [(Ka0, .int)]) [0] rfl
  exact W.vret hx hb hr (fun t ht hW => ⟨⟨(), rfl, trivial, by rw [ht]; exact hP9, va_K.moved hW.alike hK9, hD9⟩, hS.F ht⟩) hS.2.2 dX2_clearMarks_13

def l_z_X10_ownFields : List Cond := [.fieldLink RX10 65 "HeapWorks$Types" "count" "I"]
def w_z_X10_ownFields : List Cond := .code yX10_ownFields cX10_ownFields 1 (some .int) :: (l_z_X10_ownFields ++ (wsX100))
theorem in_z_X10_ownFields_X10 : ∀ w ∈ wsX100, w ∈ w_z_X10_ownFields := fun w h => List.mem_cons_of_mem _ (List.mem_append_right _ (h))
set_option maxHeartbeats 4000000 in
set_option maxRecDepth 100000 in
theorem z_X10_ownFields (l : Launch) (dC : Nat → ClassId) (dI : Nat → Nat → Nat) (sz : Nat) (Ad0 : Nat) (Fs0 : List Value) (k_Fs0 : fh Fs0 18 [(0, .int 0)])  : Met l yX10_ownFields w_z_X10_ownFields ({ frames := 0, cells := 0, slots := 0, locals := 0 }) (va_Pc [.ref Ad0] (fun U => U.heap.size = sz ∧ Wd dC dI [] (fun _ => True) [(Ad0, .inr (13, Fs0))] U)) (va_Qi (fun (r : Int32) (u : Unit) => r = 0) (fun (u : Unit) t => Wd dC dI [] (va_A [(Ad0, .inr (13, Fs0))] sz) [(Ad0, .inr (13, Fs0))] t) (va_A [(Ad0, .inr (13, Fs0))] sz))  0 0 (va_A [(Ad0, .inr (13, Fs0))] sz) := by
  refine Met.ofW (cc := cX10_ownFields) (maxL := 1) (ret := (some .int)) (by decide) rfl ?_
  intro p e s m args below meth c s₁ B hml hv
  obtain ⟨rfl, hsz, hP, hK, hD0⟩ := hv
  have hx := B.exec
  have hb := B.bytes
  have hr := B.returns
  have hts := atoms_spec (ws := w_z_X10_ownFields) B.pre
  have hown : s.vm.findClass RX10 = some m.cls := findClass_of_methodNamed B.named
  have hlocks := B.notSynchronized
  subst hsz
  have hD := hD0.self (sz := s.heap.size)
  generalize hAe : va_A [(Ad0, .inr (13, Fs0))] s.heap.size = A at hD ⊢
  have hA : ∀ q : Nat, s.heap.size ≤ q → A q := fun q h => by rw [← hAe]; exact Or.inr h
  have hS : va_S A s.heap s.heap [] := va_S.rf
  have hl := lv_entry ([.ref Ad0]) (n := 1) (Nat.le_of_ble_eq_true rfl)
  rw [lg_entry_eq]
  generalize (lg_sl ([.ref Ad0]) ++ List.replicate (1 - (lg_sl ([.ref Ad0])).length) Slot.unset).toArray = ls at hl ⊢
  have hl : lv_has ls 1 [(0, .ref Ad0)] := hl
  have o_Fs0 := ow_0 k_Fs0
  refine lv_aload_n hx hb dX10_ownFields_0 rfl (lv_at hl 0 rfl) ?_
  refine va_get (D := (dC, dI)) (ci := 13) (v := .int 0) (C := RX10) (T := TX10) (N := 18) hx hb hts (in_z_X10_ownFields_X10) hown hK hP 0 rfl rfl 0 (by decide) (hts (.fieldLink RX10 65 "HeapWorks$Types" "count" "I") (by decide +kernel)) (fun _ h9 => h9) (ow_at o_Fs0 0 rfl) dX10_ownFields_1 ?_
  refine lv_bipush (v := 6) hx hb dX10_ownFields_4 (by decide) ?_
  refine lv_imul hx hb dX10_ownFields_6  ?_
  refine lv_topi (fun x101 ex101 => ?_)
  obtain rfl : x101 = 0 := ex101.trans (by decide)
  have hP9 := hP.sub (ws' := [(Ad0, .inr (13, Fs0))]) [0] rfl
  have hD9 := hD.sub (ws' := [(Ad0, .inr (13, Fs0))]) [0] (by decide) rfl
  have hK9 := hK.sub (tys' := []) [] rfl
  exact W.iret (v := 0) hx hb hr (fun t ht hW => ⟨⟨0, (), rfl, rfl, by rw [ht]; exact hP9, va_K.moved hW.alike hK9, hD9⟩, hS.F ht⟩) hS.2.2 dX10_ownFields_7

def l_z_X2_meetRoots : List Cond := [.fieldLink RX2 89 "HeapWorks$Heap" "rootCount" "I", .fieldLink RX2 9 "HeapWorks$Heap" "types" "LHeapWorks$Types;", .methodLink RX2 99 yX10_ownFields, .instanceMethod yX10_ownFields, .selects RX10 yX10_ownFields yX10_ownFields, .initialized RX10, .code yX10_ownFields cX10_ownFields 1 (some .int), .fieldLink RX10 65 "HeapWorks$Types" "count" "I"]
def w_z_X2_meetRoots : List Cond := .code yX2_meetRoots cX2_meetRoots 3 (some .int) :: (l_z_X2_meetRoots ++ ((wsX20 ++ wsX100)))
theorem in_z_X2_meetRoots_X2 : ∀ w ∈ wsX20, w ∈ w_z_X2_meetRoots := fun w h => List.mem_cons_of_mem _ (List.mem_append_right _ (List.mem_append_left _ h))
theorem in_z_X2_meetRoots_X10 : ∀ w ∈ wsX100, w ∈ w_z_X2_meetRoots := fun w h => List.mem_cons_of_mem _ (List.mem_append_right _ (List.mem_append_right _ (h)))
theorem g_z_X2_meetRoots_z_X10_ownFields_99 : GoodIn w_z_X2_meetRoots (wsV RX2 99 RX10 yX10_ownFields w_z_X10_ownFields) := goodIn_app (goodIn_r (([.methodLink RX2 99 yX10_ownFields, .instanceMethod yX10_ownFields, .selects RX10 yX10_ownFields yX10_ownFields, .initialized RX10] : List Cond)) [3, 4, 5, 6] rfl (by decide +kernel)) (goodIn_ca (goodIn_r (.code yX10_ownFields cX10_ownFields 1 (some .int) :: l_z_X10_ownFields) [7, 8] rfl (by decide +kernel)) (goodIn_in (in_z_X2_meetRoots_X10) gd_X10))
set_option maxHeartbeats 4000000 in
set_option maxRecDepth 100000 in
theorem z_X2_meetRoots (l : Launch) (dC : Nat → ClassId) (dI : Nat → Nat → Nat) (sz : Nat) (Ad0 : Nat) (Fs0 : List Value) (Ad1 : Nat) (Fs1 : List Value) (k_Fs0 : fh Fs0 18 [(0, .int 0)]) (k_Fs1 : fh Fs1 14 [(0, .ref Ad0), (11, .int 0)])  : Met l yX2_meetRoots w_z_X2_meetRoots ({ frames := 1, cells := 0, slots := 0, locals := 20 }) (va_Pc [.ref Ad1] (fun U => U.heap.size = sz ∧ Wd dC dI [] (fun _ => True) [(Ad0, .inr (13, Fs0)), (Ad1, .inr (5, Fs1))] U)) (va_Qi (fun (r : Int32) (u : Unit) => r = 0) (fun (u : Unit) t => Wd dC dI [] (va_A [(Ad0, .inr (13, Fs0)), (Ad1, .inr (5, Fs1))] sz) [(Ad0, .inr (13, Fs0)), (Ad1, .inr (5, Fs1))] t) (va_A [(Ad0, .inr (13, Fs0)), (Ad1, .inr (5, Fs1))] sz))  0 0 (va_A [(Ad0, .inr (13, Fs0)), (Ad1, .inr (5, Fs1))] sz) := by
  refine Met.ofW (cc := cX2_meetRoots) (maxL := 3) (ret := (some .int)) (by decide) rfl ?_
  intro p e s m args below meth c s₁ B hml hv
  obtain ⟨rfl, hsz, hP, hK, hD0⟩ := hv
  have hx := B.exec
  have hb := B.bytes
  have hr := B.returns
  have hts := atoms_spec (ws := w_z_X2_meetRoots) B.pre
  have hown : s.vm.findClass RX2 = some m.cls := findClass_of_methodNamed B.named
  have hlocks := B.notSynchronized
  subst hsz
  have hD := hD0.self (sz := s.heap.size)
  generalize hAe : va_A [(Ad0, .inr (13, Fs0)), (Ad1, .inr (5, Fs1))] s.heap.size = A at hD ⊢
  have hA : ∀ q : Nat, s.heap.size ≤ q → A q := fun q h => by rw [← hAe]; exact Or.inr h
  have hS : va_S A s.heap s.heap [] := va_S.rf
  have hl := lv_entry ([.ref Ad1]) (n := 3) (Nat.le_of_ble_eq_true rfl)
  rw [lg_entry_eq]
  generalize (lg_sl ([.ref Ad1]) ++ List.replicate (3 - (lg_sl ([.ref Ad1])).length) Slot.unset).toArray = ls at hl ⊢
  have hl : lv_has ls 3 [(0, .ref Ad1)] := hl
  have o_Fs0 := ow_0 k_Fs0
  have o_Fs1 := ow_0 k_Fs1
  refine lv_iconst (v := 0) hx hb dX2_meetRoots_0 (by decide) ?_
  refine lv_istore_n (lv' := [(1, .int 0), (0, .ref Ad1)]) hx hb dX2_meetRoots_1 rfl hl (by decide) rfl (fun ls hl => ?_)
  refine lv_iconst (v := 0) hx hb dX2_meetRoots_2 (by decide) ?_
  refine lv_istore_n (lv' := [(2, .int 0), (1, .int 0), (0, .ref Ad1)]) hx hb dX2_meetRoots_3 rfl hl (by decide) rfl (fun ls hl => ?_)
  refine lv_iload_n hx hb dX2_meetRoots_4 rfl (lv_at hl 0 rfl) ?_
  refine lv_aload_n hx hb dX2_meetRoots_5 rfl (lv_at hl 2 rfl) ?_
  refine va_get (D := (dC, dI)) (ci := 5) (v := .int 0) (C := RX2) (T := TX2) (N := 14) hx hb hts (in_z_X2_meetRoots_X2) hown hK hP 1 rfl rfl 11 (by decide) (hts (.fieldLink RX2 89 "HeapWorks$Heap" "rootCount" "I") (by decide +kernel)) (fun _ h9 => h9) (ow_at o_Fs1 1 rfl) dX2_meetRoots_6 ?_
  refine lv_icmp_ge (tgt := 31) hx hb dX2_meetRoots_9 (by decide) (fun c101 => ?_) (fun c101 => absurd c101 (by decide))
  refine lv_iconst (v := 0) hx hb dX2_meetRoots_31 (by decide) ?_
  refine lv_istore_n (lv' := [(2, .int 0), (1, .int 0), (0, .ref Ad1)]) hx hb dX2_meetRoots_32 rfl hl (by decide) rfl (fun ls hl => ?_)
  refine lv_iload_n hx hb dX2_meetRoots_33 rfl (lv_at hl 0 rfl) ?_
  refine lv_aload_n hx hb dX2_meetRoots_34 rfl (lv_at hl 2 rfl) ?_
  refine va_get (D := (dC, dI)) (ci := 5) (v := .ref Ad0) (C := RX2) (T := TX2) (N := 14) hx hb hts (in_z_X2_meetRoots_X2) hown hK hP 1 rfl rfl 0 (by decide) (hts (.fieldLink RX2 9 "HeapWorks$Heap" "types" "LHeapWorks$Types;") (by decide +kernel)) (fun _ h9 => h9) (ow_at o_Fs1 0 rfl) dX2_meetRoots_35 ?_
  have hPc := hP.sub (ws' := [(Ad0, .inr (13, Fs0))]) [0] rfl
  have hDc := hD.sub (ws' := [(Ad0, .inr (13, Fs0))]) [0] (by decide) rfl
  have hKc := hK.sub (tys' := []) [] rfl
  have hFc := va_free (wc := [(Ad0, .inr (13, Fs0))]) hD hS hA [0] rfl
  refine va_calli (va_runV (As := []) (rest := [.int 0]) ⟨hx, hb, hml, hown, hts⟩ (z_X10_ownFields l dC dI s.heap.size Ad0 Fs0 (fh_sub o_Fs0.2 [0] rfl) ) (cwV 0 hts g_z_X2_meetRoots_z_X10_ownFields_99 rfl rfl rfl (by decide +kernel) ⟨Nat.le_of_ble_eq_true rfl, Nat.le_of_ble_eq_true rfl⟩) ⟨fun a U g mk q => by obtain ⟨q0, q1, qP, qK, qD⟩ := q; exact ⟨q0, q1, qP, va_K.moved (u := U) (U := U.calling g mk a) (Vm.Alike.refl U.vm) qK, qD⟩, va_recv hK hP (ci := 13) (q0 := 0) rfl rfl, fun U hU hW => ⟨rfl, by rw [hU], by rw [hU]; exact hPc, va_K.moved hW.alike hKc, hDc.weaken (fun _ _ _ _ => trivial)⟩⟩ rfl rfl hl.1 rfl (lv_room (Nat.le_of_ble_eq_true rfl)) dX2_meetRoots_38 ⟨Nat.le_of_ble_eq_true rfl, Nat.le_of_ble_eq_true rfl⟩) hS (fun q _ h => hFc q h) hFc (fun r102 u t H1 locs ht hvm hw hB hz1 hk1 hS => ?_)
  obtain ⟨hP1, hK1, hD1⟩ := hB
  rw [ht] at hP1
  try dsimp only at hw
  obtain ⟨hP, hD⟩ := va_join (wr := [(Ad1, .inr (5, Fs1))]) (w1 := [(Ad0, .inr (13, Fs0))]) hP hD [0] [1] rfl rfl (by decide) (by decide) hk1 hFc hP1 hD1
  have hK := hK.sub (tys' := []) [] rfl
  generalize H1 = H at hP hS ⊢
  have hP : va_P (dC, dI) vwCl [(Ad1, .inr (5, Fs1)), (Ad0, .inr (13, Fs0))] H := hP
  have hD : va_D A [(Ad1, .inr (5, Fs1)), (Ad0, .inr (13, Fs0))] := hD
  have er103 := hw
  subst er103
  refine lv_icmp_ge (tgt := 73) hx hb dX2_meetRoots_41 (by decide) (fun c104 => ?_) (fun c104 => absurd c104 (by decide))
  refine lv_iload_n hx hb dX2_meetRoots_73 rfl (lv_at hl 1 rfl) ?_
  have hP9 := hP.sub (ws' := [(Ad0, .inr (13, Fs0)), (Ad1, .inr (5, Fs1))]) [1, 0] rfl
  have hD9 := hD.sub (ws' := [(Ad0, .inr (13, Fs0)), (Ad1, .inr (5, Fs1))]) [1, 0] (by decide) rfl
  have hK9 := hK.sub (tys' := []) [] rfl
  exact W.iret (v := 0) hx hb hr (fun t ht hW => ⟨⟨0, (), rfl, rfl, by rw [ht]; exact hP9, va_K.moved hW.alike hK9, hD9⟩, hS.F ht⟩) hS.2.2 dX2_meetRoots_74

def l_z_X2_dropUnreached : List Cond := [.methodLink RX2 119 yX2_clearMarks, .instanceMethod yX2_clearMarks, .selects RX2 yX2_clearMarks yX2_clearMarks, .initialized RX2, .methodLink RX2 122 yX2_meetRoots, .instanceMethod yX2_meetRoots, .selects RX2 yX2_meetRoots yX2_meetRoots, .fieldLink RX2 75 "HeapWorks$Heap" "there" "I", .fieldLink RX2 47 "HeapWorks$Heap" "made" "I", .fieldLink RX2 62 "HeapWorks$Heap" "slots" "I", .code yX2_clearMarks cX2_clearMarks 1 none, .fieldLink RX2 44 "HeapWorks$Heap" "mark" "[I", .methodLink RX2 109 yJ7_fill_fda19, .static yJ7_fill_fda19, .initialized RJ7, .code yJ7_fill_fda19 cJ7_fill_fda19 5 none, .methodLink RJ7 13 yJ7_rangeCheck_23922, .static yJ7_rangeCheck_23922, .code yJ7_rangeCheck_23922 cJ7_rangeCheck_23922 3 none, .code yX2_meetRoots cX2_meetRoots 3 (some .int), .fieldLink RX2 89 "HeapWorks$Heap" "rootCount" "I", .fieldLink RX2 9 "HeapWorks$Heap" "types" "LHeapWorks$Types;", .methodLink RX2 99 yX10_ownFields, .instanceMethod yX10_ownFields, .selects RX10 yX10_ownFields yX10_ownFields, .initialized RX10, .code yX10_ownFields cX10_ownFields 1 (some .int), .fieldLink RX10 65 "HeapWorks$Types" "count" "I"]
def w_z_X2_dropUnreached : List Cond := .code yX2_dropUnreached cX2_dropUnreached 6 (some .int) :: (l_z_X2_dropUnreached ++ ((wsX20 ++ wsX100)))
theorem in_z_X2_dropUnreached_X2 : ∀ w ∈ wsX20, w ∈ w_z_X2_dropUnreached := fun w h => List.mem_cons_of_mem _ (List.mem_append_right _ (List.mem_append_left _ h))
theorem in_z_X2_dropUnreached_X10 : ∀ w ∈ wsX100, w ∈ w_z_X2_dropUnreached := fun w h => List.mem_cons_of_mem _ (List.mem_append_right _ (List.mem_append_right _ (h)))
theorem g_z_X2_dropUnreached_z_X2_clearMarks_119 : GoodIn w_z_X2_dropUnreached (wsV RX2 119 RX2 yX2_clearMarks w_z_X2_clearMarks) := goodIn_app (goodIn_r (([.methodLink RX2 119 yX2_clearMarks, .instanceMethod yX2_clearMarks, .selects RX2 yX2_clearMarks yX2_clearMarks, .initialized RX2] : List Cond)) [1, 2, 3, 4] rfl (by decide +kernel)) (goodIn_ca (goodIn_r (.code yX2_clearMarks cX2_clearMarks 1 none :: l_z_X2_clearMarks) [11, 12, 9, 13, 14, 15, 16, 17, 18, 19] rfl (by decide +kernel)) (goodIn_in (in_z_X2_dropUnreached_X2) gd_X2))
theorem g_z_X2_dropUnreached_z_X2_meetRoots_122 : GoodIn w_z_X2_dropUnreached (wsV RX2 122 RX2 yX2_meetRoots w_z_X2_meetRoots) := goodIn_app (goodIn_r (([.methodLink RX2 122 yX2_meetRoots, .instanceMethod yX2_meetRoots, .selects RX2 yX2_meetRoots yX2_meetRoots, .initialized RX2] : List Cond)) [5, 6, 7, 4] rfl (by decide +kernel)) (goodIn_ca (goodIn_r (.code yX2_meetRoots cX2_meetRoots 3 (some .int) :: l_z_X2_meetRoots) [20, 21, 22, 23, 24, 25, 26, 27, 28] rfl (by decide +kernel)) (goodIn_app (goodIn_in (in_z_X2_dropUnreached_X2) gd_X2) (goodIn_in (in_z_X2_dropUnreached_X10) gd_X10)))
set_option maxHeartbeats 4000000 in
set_option maxRecDepth 100000 in
theorem z_X2_dropUnreached (l : Launch) (dC : Nat → ClassId) (dI : Nat → Nat → Nat) (sz : Nat) (Ad0 : Nat) (Fs0 : List Value) (Ad1 : Nat) (Fs1 : List Value) (Ad2 : Nat) (Fa0 : Nat → Int32) (Ka0 : ClassId) (k_Fs0 : fh Fs0 18 [(0, .int 0)]) (k_Fs1 : fh Fs1 14 [(0, .ref Ad0), (1, .int 0), (2, .int 0), (11, .int 0), (13, .ref Ad2)])  : Met l yX2_dropUnreached w_z_X2_dropUnreached ({ frames := 3, cells := 0, slots := 0, locals := 66 }) (va_Pc [.ref Ad1] (fun U => U.heap.size = sz ∧ Wd dC dI [(Ka0, .int)] (fun _ => True) [(Ad0, .inr (13, Fs0)), (Ad1, .inr (5, Fs1)), (Ad2, .inl (Ka0, 400, .inl Fa0))] U)) (va_Qi (fun (r : Int32) (u : List Value) => (r = 0 ∧ ow Fs1 (u) 14 [2, 3] [(2, .int 0), (3, .int 0), (0, .ref Ad0), (1, .int 0), (11, .int 0), (13, .ref Ad2)])) (fun (u : List Value) t => Wd dC dI [(Ka0, .int)] (va_A [(Ad0, .inr (13, Fs0)), (Ad1, .inr (5, Fs1)), (Ad2, .inl (Ka0, 400, .inl Fa0))] sz) [(Ad0, .inr (13, Fs0)), (Ad1, .inr (5, (u))), (Ad2, .inl (Ka0, 400, .inl Fa0))] t) (va_A [(Ad0, .inr (13, Fs0)), (Ad1, .inr (5, Fs1)), (Ad2, .inl (Ka0, 400, .inl Fa0))] sz))  0 0 (va_A [(Ad0, .inr (13, Fs0)), (Ad1, .inr (5, Fs1)), (Ad2, .inl (Ka0, 400, .inl Fa0))] sz) := by
  refine Met.ofW (cc := cX2_dropUnreached) (maxL := 6) (ret := (some .int)) (by decide) rfl ?_
  intro p e s m args below meth c s₁ B hml hv
  obtain ⟨rfl, hsz, hP, hK, hD0⟩ := hv
  have hx := B.exec
  have hb := B.bytes
  have hr := B.returns
  have hts := atoms_spec (ws := w_z_X2_dropUnreached) B.pre
  have hown : s.vm.findClass RX2 = some m.cls := findClass_of_methodNamed B.named
  have hlocks := B.notSynchronized
  subst hsz
  have hD := hD0.self (sz := s.heap.size)
  generalize hAe : va_A [(Ad0, .inr (13, Fs0)), (Ad1, .inr (5, Fs1)), (Ad2, .inl (Ka0, 400, .inl Fa0))] s.heap.size = A at hD ⊢
  have hA : ∀ q : Nat, s.heap.size ≤ q → A q := fun q h => by rw [← hAe]; exact Or.inr h
  have hS : va_S A s.heap s.heap [] := va_S.rf
  have hl := lv_entry ([.ref Ad1]) (n := 6) (Nat.le_of_ble_eq_true rfl)
  rw [lg_entry_eq]
  generalize (lg_sl ([.ref Ad1]) ++ List.replicate (6 - (lg_sl ([.ref Ad1])).length) Slot.unset).toArray = ls at hl ⊢
  have hl : lv_has ls 6 [(0, .ref Ad1)] := hl
  have o_Fs0 := ow_0 k_Fs0
  have o_Fs1 := ow_0 k_Fs1
  refine lv_aload_n hx hb dX2_dropUnreached_0 rfl (lv_at hl 0 rfl) ?_
  have hPc := hP.sub (ws' := [(Ad1, .inr (5, Fs1)), (Ad2, .inl (Ka0, 400, .inl Fa0))]) [1, 2] rfl
  have hDc := hD.sub (ws' := [(Ad1, .inr (5, Fs1)), (Ad2, .inl (Ka0, 400, .inl Fa0))]) [1, 2] (by decide) rfl
  have hKc := hK.sub (tys' := [(Ka0, .int)]) [0] rfl
  have hFc := va_free (wc := [(Ad1, .inr (5, Fs1)), (Ad2, .inl (Ka0, 400, .inl Fa0))]) hD hS hA [1, 2] rfl
  refine va_callv (va_runV (As := []) (rest := []) ⟨hx, hb, hml, hown, hts⟩ (z_X2_clearMarks l dC dI s.heap.size Ad1 Fs1 Ad2 Fa0 Ka0 (fh_sub o_Fs1.2 [1, 4] rfl) ) (cwV 0 hts g_z_X2_dropUnreached_z_X2_clearMarks_119 rfl rfl rfl (by decide +kernel) ⟨Nat.le_of_ble_eq_true rfl, Nat.le_of_ble_eq_true rfl⟩) ⟨fun a U g mk q => by obtain ⟨q0, q1, qP, qK, qD⟩ := q; exact ⟨q0, q1, qP, va_K.moved (u := U) (U := U.calling g mk a) (Vm.Alike.refl U.vm) qK, qD⟩, va_recv hK hP (ci := 5) (q0 := 1) rfl rfl, fun U hU hW => ⟨rfl, by rw [hU], by rw [hU]; exact hPc, va_K.moved hW.alike hKc, hDc.weaken (fun _ _ _ _ => trivial)⟩⟩ rfl rfl hl.1 rfl (lv_room (Nat.le_of_ble_eq_true rfl)) dX2_dropUnreached_1 ⟨Nat.le_of_ble_eq_true rfl, Nat.le_of_ble_eq_true rfl⟩) hS (fun q _ h => hFc q h) hFc (fun u t H1 locs ht hvm hw hB hz1 hk1 hS => ?_)
  obtain ⟨hP1, hK1, hD1⟩ := hB
  rw [ht] at hP1
  try dsimp only at hw
  obtain ⟨hP, hD⟩ := va_join (wr := [(Ad0, .inr (13, Fs0))]) (w1 := [(Ad1, .inr (5, Fs1)), (Ad2, .inl (Ka0, 400, .inl Fa0))]) hP hD [1, 2] [0] rfl rfl (by decide) (by decide) hk1 hFc hP1 hD1
  have hK := hK.sub (tys' := [(Ka0, .int)]) [0] rfl
  generalize H1 = H at hP hS ⊢
  have hP : va_P (dC, dI) vwCl [(Ad0, .inr (13, Fs0)), (Ad1, .inr (5, Fs1)), (Ad2, .inl (Ka0, 400, .inl Fa0))] H := hP
  have hD : va_D A [(Ad0, .inr (13, Fs0)), (Ad1, .inr (5, Fs1)), (Ad2, .inl (Ka0, 400, .inl Fa0))] := hD
  refine lv_aload_n hx hb dX2_dropUnreached_4 rfl (lv_at hl 0 rfl) ?_
  have hPc := hP.sub (ws' := [(Ad0, .inr (13, Fs0)), (Ad1, .inr (5, Fs1))]) [0, 1] rfl
  have hDc := hD.sub (ws' := [(Ad0, .inr (13, Fs0)), (Ad1, .inr (5, Fs1))]) [0, 1] (by decide) rfl
  have hKc := hK.sub (tys' := []) [] rfl
  have hFc := va_free (wc := [(Ad0, .inr (13, Fs0)), (Ad1, .inr (5, Fs1))]) hD hS hA [0, 1] rfl
  refine va_calli (va_runV (As := []) (rest := []) ⟨hx, hb, hml, hown, hts⟩ (z_X2_meetRoots l dC dI H.size Ad0 Fs0 Ad1 Fs1 (fh_sub o_Fs0.2 [0] rfl) (fh_sub o_Fs1.2 [0, 3] rfl) ) (cwV 0 hts g_z_X2_dropUnreached_z_X2_meetRoots_122 rfl rfl rfl (by decide +kernel) ⟨Nat.le_of_ble_eq_true rfl, Nat.le_of_ble_eq_true rfl⟩) ⟨fun a U g mk q => by obtain ⟨q0, q1, qP, qK, qD⟩ := q; exact ⟨q0, q1, qP, va_K.moved (u := U) (U := U.calling g mk a) (Vm.Alike.refl U.vm) qK, qD⟩, va_recv hK hP (ci := 5) (q0 := 1) rfl rfl, fun U hU hW => ⟨rfl, by rw [hU], by rw [hU]; exact hPc, va_K.moved hW.alike hKc, hDc.weaken (fun _ _ _ _ => trivial)⟩⟩ rfl rfl hl.1 rfl (lv_room (Nat.le_of_ble_eq_true rfl)) dX2_dropUnreached_5 ⟨Nat.le_of_ble_eq_true rfl, Nat.le_of_ble_eq_true rfl⟩) hS (fun q _ h => hFc q h) hFc (fun r101 u t H1 locs ht hvm hw hB hz1 hk1 hS => ?_)
  obtain ⟨hP1, hK1, hD1⟩ := hB
  rw [ht] at hP1
  try dsimp only at hw
  obtain ⟨hP, hD⟩ := va_join (wr := [(Ad2, .inl (Ka0, 400, .inl Fa0))]) (w1 := [(Ad0, .inr (13, Fs0)), (Ad1, .inr (5, Fs1))]) hP hD [0, 1] [2] rfl rfl (by decide) (by decide) hk1 hFc hP1 hD1
  have hK := hK.sub (tys' := [(Ka0, .int)]) [0] rfl
  generalize H1 = H at hP hS ⊢
  have hP : va_P (dC, dI) vwCl [(Ad2, .inl (Ka0, 400, .inl Fa0)), (Ad0, .inr (13, Fs0)), (Ad1, .inr (5, Fs1))] H := hP
  have hD : va_D A [(Ad2, .inl (Ka0, 400, .inl Fa0)), (Ad0, .inr (13, Fs0)), (Ad1, .inr (5, Fs1))] := hD
  have er102 := hw
  subst er102
  refine lv_istore_n (lv' := [(1, .int 0), (0, .ref Ad1)]) hx hb dX2_dropUnreached_8 rfl hl (by decide) rfl (fun ls hl => ?_)
  refine lv_iconst (v := 0) hx hb dX2_dropUnreached_9 (by decide) ?_
  refine lv_istore_n (lv' := [(2, .int 0), (1, .int 0), (0, .ref Ad1)]) hx hb dX2_dropUnreached_10 rfl hl (by decide) rfl (fun ls hl => ?_)
  refine lv_iload_n hx hb dX2_dropUnreached_11 rfl (lv_at hl 0 rfl) ?_
  refine lv_iload_n hx hb dX2_dropUnreached_12 rfl (lv_at hl 1 rfl) ?_
  refine lv_icmp_ge (tgt := 34) hx hb dX2_dropUnreached_13 (by decide) (fun c103 => ?_) (fun c103 => absurd c103 (by decide))
  refine lv_aload_n hx hb dX2_dropUnreached_34 rfl (lv_at hl 2 rfl) ?_
  refine va_get (D := (dC, dI)) (ci := 5) (v := .int 0) (C := RX2) (T := TX2) (N := 14) hx hb hts (in_z_X2_dropUnreached_X2) hown hK hP 2 rfl rfl 2 (by decide) (hts (.fieldLink RX2 75 "HeapWorks$Heap" "there" "I") (by decide +kernel)) (fun _ h9 => h9) (ow_at o_Fs1 2 rfl) dX2_dropUnreached_35 ?_
  refine lv_iload_n hx hb dX2_dropUnreached_38 rfl (lv_at hl 1 rfl) ?_
  refine lv_isub hx hb dX2_dropUnreached_39  ?_
  refine lv_topi (fun x104 ex104 => ?_)
  obtain rfl : x104 = 0 := ex104.trans (by decide)
  refine lv_istore_n (lv' := [(2, .int 0), (1, .int 0), (0, .ref Ad1)]) hx hb dX2_dropUnreached_40 rfl hl (by decide) rfl (fun ls hl => ?_)
  refine lv_iconst (v := 0) hx hb dX2_dropUnreached_41 (by decide) ?_
  refine lv_istore_n (lv' := [(3, .int 0), (2, .int 0), (1, .int 0), (0, .ref Ad1)]) hx hb dX2_dropUnreached_42 rfl hl (by decide) rfl (fun ls hl => ?_)
  refine lv_iconst (v := 0) hx hb dX2_dropUnreached_43 (by decide) ?_
  refine lv_istore (lv' := [(4, .int 0), (3, .int 0), (2, .int 0), (1, .int 0), (0, .ref Ad1)]) hx hb dX2_dropUnreached_44 hl (by decide) rfl (fun ls hl => ?_)
  refine lv_iload hx hb dX2_dropUnreached_46 (lv_at hl 0 rfl) ?_
  refine lv_aload_n hx hb dX2_dropUnreached_48 rfl (lv_at hl 4 rfl) ?_
  refine va_get (D := (dC, dI)) (ci := 5) (v := .int 0) (C := RX2) (T := TX2) (N := 14) hx hb hts (in_z_X2_dropUnreached_X2) hown hK hP 2 rfl rfl 1 (by decide) (hts (.fieldLink RX2 47 "HeapWorks$Heap" "made" "I") (by decide +kernel)) (fun _ h9 => h9) (ow_at o_Fs1 1 rfl) dX2_dropUnreached_49 ?_
  refine lv_icmp_ge (tgt := 132) hx hb dX2_dropUnreached_52 (by decide) (fun c105 => ?_) (fun c105 => absurd c105 (by decide))
  refine lv_aload_n hx hb dX2_dropUnreached_132 rfl (lv_at hl 4 rfl) ?_
  refine lv_iload_n hx hb dX2_dropUnreached_133 rfl (lv_at hl 1 rfl) ?_
  refine va_put (D := (dC, dI)) (ci := 5) (v := .int 0) (ty := .int) (C := RX2) (T := TX2) (N := 14) hx hb hts (in_z_X2_dropUnreached_X2) tyX2 tyX2_ok nmX2 hown hK hP hD hS 2 rfl rfl 3 (by decide) (hts (.fieldLink RX2 62 "HeapWorks$Heap" "slots" "I") (by decide +kernel)) (fun _ h9 => h9) rfl (by decide +kernel) rfl rfl (by rw [o_Fs1.2.1]; decide) dX2_dropUnreached_134 (fun H locs hP hD hS => ?_)
  have hP : va_P (dC, dI) vwCl [(Ad2, .inl (Ka0, 400, .inl Fa0)), (Ad0, .inr (13, Fs0)), (Ad1, .inr (5, (Fs1.set 3 (.int 0))))] H := hP
  have hD : va_D A [(Ad2, .inl (Ka0, 400, .inl Fa0)), (Ad0, .inr (13, Fs0)), (Ad1, .inr (5, (Fs1.set 3 (.int 0))))] := hD
  have o_s106 := ow_set o_Fs1 3 (.int 0) (by decide) (l' := [(3, .int 0), (0, .ref Ad0), (1, .int 0), (2, .int 0), (11, .int 0), (13, .ref Ad2)]) (w' := [3]) rfl rfl
  generalize (Fs1.set 3 (.int 0)) = s106 at hP hD o_s106
  refine lv_aload_n hx hb dX2_dropUnreached_137 rfl (lv_at hl 4 rfl) ?_
  refine lv_iload_n hx hb dX2_dropUnreached_138 rfl (lv_at hl 3 rfl) ?_
  refine va_put (D := (dC, dI)) (ci := 5) (v := .int 0) (ty := .int) (C := RX2) (T := TX2) (N := 14) hx hb hts (in_z_X2_dropUnreached_X2) tyX2 tyX2_ok nmX2 hown hK hP hD hS 2 rfl rfl 2 (by decide) (hts (.fieldLink RX2 75 "HeapWorks$Heap" "there" "I") (by decide +kernel)) (fun _ h9 => h9) rfl (by decide +kernel) rfl rfl (by rw [o_s106.2.1]; decide) dX2_dropUnreached_139 (fun H locs hP hD hS => ?_)
  have hP : va_P (dC, dI) vwCl [(Ad2, .inl (Ka0, 400, .inl Fa0)), (Ad0, .inr (13, Fs0)), (Ad1, .inr (5, (s106.set 2 (.int 0))))] H := hP
  have hD : va_D A [(Ad2, .inl (Ka0, 400, .inl Fa0)), (Ad0, .inr (13, Fs0)), (Ad1, .inr (5, (s106.set 2 (.int 0))))] := hD
  have o_s107 := ow_set o_s106 2 (.int 0) (by decide) (l' := [(2, .int 0), (3, .int 0), (0, .ref Ad0), (1, .int 0), (11, .int 0), (13, .ref Ad2)]) (w' := [2, 3]) rfl rfl
  generalize (s106.set 2 (.int 0)) = s107 at hP hD o_s107
  refine lv_iload_n hx hb dX2_dropUnreached_142 rfl (lv_at hl 2 rfl) ?_
  have hP9 := hP.sub (ws' := [(Ad0, .inr (13, Fs0)), (Ad1, .inr (5, s107)), (Ad2, .inl (Ka0, 400, .inl Fa0))]) [1, 2, 0] rfl
  have hD9 := hD.sub (ws' := [(Ad0, .inr (13, Fs0)), (Ad1, .inr (5, s107)), (Ad2, .inl (Ka0, 400, .inl Fa0))]) [1, 2, 0] (by decide) rfl
  have hK9 := hK.sub (tys' := [(Ka0, .int)]) [0] rfl
  exact W.iret (v := 0) hx hb hr (fun t ht hW => ⟨⟨0, s107, rfl, ⟨rfl, o_s107⟩, by rw [ht]; exact hP9, va_K.moved hW.alike hK9, hD9⟩, hS.F ht⟩) hS.2.2 dX2_dropUnreached_143

def l_z_X11_collect : List Cond := [.fieldLink RX11 35 "HeapWorks" "journal" "LHeapWorks$Journal;", .methodLink RX11 276 yX3_forgetUndo, .instanceMethod yX3_forgetUndo, .selects RX3 yX3_forgetUndo yX3_forgetUndo, .initialized RX3, .fieldLink RX11 28 "HeapWorks" "heap" "LHeapWorks$Heap;", .methodLink RX11 279 yX2_dropUnreached, .instanceMethod yX2_dropUnreached, .selects RX2 yX2_dropUnreached yX2_dropUnreached, .initialized RX2, .code yX3_forgetUndo cX3_forgetUndo 1 none, .fieldLink RX3 119 "HeapWorks$Journal" "undoCount" "I", .code yX2_dropUnreached cX2_dropUnreached 6 (some .int), .methodLink RX2 119 yX2_clearMarks, .instanceMethod yX2_clearMarks, .selects RX2 yX2_clearMarks yX2_clearMarks, .methodLink RX2 122 yX2_meetRoots, .instanceMethod yX2_meetRoots, .selects RX2 yX2_meetRoots yX2_meetRoots, .fieldLink RX2 75 "HeapWorks$Heap" "there" "I", .fieldLink RX2 47 "HeapWorks$Heap" "made" "I", .fieldLink RX2 62 "HeapWorks$Heap" "slots" "I", .code yX2_clearMarks cX2_clearMarks 1 none, .fieldLink RX2 44 "HeapWorks$Heap" "mark" "[I", .methodLink RX2 109 yJ7_fill_fda19, .static yJ7_fill_fda19, .initialized RJ7, .code yJ7_fill_fda19 cJ7_fill_fda19 5 none, .methodLink RJ7 13 yJ7_rangeCheck_23922, .static yJ7_rangeCheck_23922, .code yJ7_rangeCheck_23922 cJ7_rangeCheck_23922 3 none, .code yX2_meetRoots cX2_meetRoots 3 (some .int), .fieldLink RX2 89 "HeapWorks$Heap" "rootCount" "I", .fieldLink RX2 9 "HeapWorks$Heap" "types" "LHeapWorks$Types;", .methodLink RX2 99 yX10_ownFields, .instanceMethod yX10_ownFields, .selects RX10 yX10_ownFields yX10_ownFields, .initialized RX10, .code yX10_ownFields cX10_ownFields 1 (some .int), .fieldLink RX10 65 "HeapWorks$Types" "count" "I"]
def w_z_X11_collect : List Cond := .code yX11_collect cX11_collect 1 (some .int) :: (l_z_X11_collect ++ ((wsX110 ++ (wsX30 ++ (wsX20 ++ wsX100)))))
theorem in_z_X11_collect_X11 : ∀ w ∈ wsX110, w ∈ w_z_X11_collect := fun w h => List.mem_cons_of_mem _ (List.mem_append_right _ (List.mem_append_left _ h))
theorem in_z_X11_collect_X3 : ∀ w ∈ wsX30, w ∈ w_z_X11_collect := fun w h => List.mem_cons_of_mem _ (List.mem_append_right _ (List.mem_append_right _ (List.mem_append_left _ h)))
theorem in_z_X11_collect_X2 : ∀ w ∈ wsX20, w ∈ w_z_X11_collect := fun w h => List.mem_cons_of_mem _ (List.mem_append_right _ (List.mem_append_right _ (List.mem_append_right _ (List.mem_append_left _ h))))
theorem in_z_X11_collect_X10 : ∀ w ∈ wsX100, w ∈ w_z_X11_collect := fun w h => List.mem_cons_of_mem _ (List.mem_append_right _ (List.mem_append_right _ (List.mem_append_right _ (List.mem_append_right _ (h)))))
theorem g_z_X11_collect_z_X3_forgetUndo_276 : GoodIn w_z_X11_collect (wsV RX11 276 RX3 yX3_forgetUndo w_z_X3_forgetUndo) := goodIn_app (goodIn_r (([.methodLink RX11 276 yX3_forgetUndo, .instanceMethod yX3_forgetUndo, .selects RX3 yX3_forgetUndo yX3_forgetUndo, .initialized RX3] : List Cond)) [2, 3, 4, 5] rfl (by decide +kernel)) (goodIn_ca (goodIn_r (.code yX3_forgetUndo cX3_forgetUndo 1 none :: l_z_X3_forgetUndo) [11, 12] rfl (by decide +kernel)) (goodIn_in (in_z_X11_collect_X3) gd_X3))
theorem g_z_X11_collect_z_X2_dropUnreached_279 : GoodIn w_z_X11_collect (wsV RX11 279 RX2 yX2_dropUnreached w_z_X2_dropUnreached) := goodIn_app (goodIn_r (([.methodLink RX11 279 yX2_dropUnreached, .instanceMethod yX2_dropUnreached, .selects RX2 yX2_dropUnreached yX2_dropUnreached, .initialized RX2] : List Cond)) [7, 8, 9, 10] rfl (by decide +kernel)) (goodIn_ca (goodIn_r (.code yX2_dropUnreached cX2_dropUnreached 6 (some .int) :: l_z_X2_dropUnreached) [13, 14, 15, 16, 10, 17, 18, 19, 20, 21, 22, 23, 24, 25, 26, 27, 28, 29, 30, 31, 32, 33, 34, 35, 36, 37, 38, 39, 40] rfl (by decide +kernel)) (goodIn_app (goodIn_in (in_z_X11_collect_X2) gd_X2) (goodIn_in (in_z_X11_collect_X10) gd_X10)))
set_option maxHeartbeats 4000000 in
set_option maxRecDepth 100000 in
theorem z_X11_collect (l : Launch) (dC : Nat → ClassId) (dI : Nat → Nat → Nat) (sz : Nat) (Ad0 : Nat) (Fs0 : List Value) (Ad1 : Nat) (Fs1 : List Value) (Ad2 : Nat) (Fs2 : List Value) (Ad3 : Nat) (Fa0 : Nat → Int32) (Ka0 : ClassId) (Ad4 : Nat) (Fs3 : List Value) (k_Fs0 : fh Fs0 18 [(2, .ref Ad2), (3, .ref Ad4)]) (k_Fs1 : fh Fs1 18 [(0, .int 0)]) (k_Fs2 : fh Fs2 14 [(0, .ref Ad1), (1, .int 0), (2, .int 0), (11, .int 0), (13, .ref Ad3)]) (k_Fs3 : fh Fs3 13 [])  : Met l yX11_collect w_z_X11_collect ({ frames := 4, cells := 0, slots := 0, locals := 91 }) (va_Pc [.ref Ad0] (fun U => U.heap.size = sz ∧ Wd dC dI [(Ka0, .int)] (fun _ => True) [(Ad0, .inr (14, Fs0)), (Ad1, .inr (13, Fs1)), (Ad2, .inr (5, Fs2)), (Ad3, .inl (Ka0, 400, .inl Fa0)), (Ad4, .inr (6, Fs3))] U)) (va_Qi (fun (r : Int32) (u : List Value × List Value) => (r = 0 ∧ ow Fs2 (u.1) 14 [2, 3] [(2, .int 0), (3, .int 0), (0, .ref Ad1), (1, .int 0), (11, .int 0), (13, .ref Ad3), (0, .ref Ad1), (1, .int 0), (11, .int 0), (13, .ref Ad3)] ∧ ow Fs3 (u.2) 13 [6] [(6, .int 0)])) (fun (u : List Value × List Value) t => Wd dC dI [(Ka0, .int)] (va_A [(Ad0, .inr (14, Fs0)), (Ad1, .inr (13, Fs1)), (Ad2, .inr (5, Fs2)), (Ad3, .inl (Ka0, 400, .inl Fa0)), (Ad4, .inr (6, Fs3))] sz) [(Ad0, .inr (14, Fs0)), (Ad1, .inr (13, Fs1)), (Ad2, .inr (5, (u.1))), (Ad3, .inl (Ka0, 400, .inl Fa0)), (Ad4, .inr (6, (u.2)))] t) (va_A [(Ad0, .inr (14, Fs0)), (Ad1, .inr (13, Fs1)), (Ad2, .inr (5, Fs2)), (Ad3, .inl (Ka0, 400, .inl Fa0)), (Ad4, .inr (6, Fs3))] sz))  0 0 (va_A [(Ad0, .inr (14, Fs0)), (Ad1, .inr (13, Fs1)), (Ad2, .inr (5, Fs2)), (Ad3, .inl (Ka0, 400, .inl Fa0)), (Ad4, .inr (6, Fs3))] sz) := by
  refine Met.ofW (cc := cX11_collect) (maxL := 1) (ret := (some .int)) (by decide) rfl ?_
  intro p e s m args below meth c s₁ B hml hv
  obtain ⟨rfl, hsz, hP, hK, hD0⟩ := hv
  have hx := B.exec
  have hb := B.bytes
  have hr := B.returns
  have hts := atoms_spec (ws := w_z_X11_collect) B.pre
  have hown : s.vm.findClass RX11 = some m.cls := findClass_of_methodNamed B.named
  have hlocks := B.notSynchronized
  subst hsz
  have hD := hD0.self (sz := s.heap.size)
  generalize hAe : va_A [(Ad0, .inr (14, Fs0)), (Ad1, .inr (13, Fs1)), (Ad2, .inr (5, Fs2)), (Ad3, .inl (Ka0, 400, .inl Fa0)), (Ad4, .inr (6, Fs3))] s.heap.size = A at hD ⊢
  have hA : ∀ q : Nat, s.heap.size ≤ q → A q := fun q h => by rw [← hAe]; exact Or.inr h
  have hS : va_S A s.heap s.heap [] := va_S.rf
  have hl := lv_entry ([.ref Ad0]) (n := 1) (Nat.le_of_ble_eq_true rfl)
  rw [lg_entry_eq]
  generalize (lg_sl ([.ref Ad0]) ++ List.replicate (1 - (lg_sl ([.ref Ad0])).length) Slot.unset).toArray = ls at hl ⊢
  have hl : lv_has ls 1 [(0, .ref Ad0)] := hl
  have o_Fs0 := ow_0 k_Fs0
  have o_Fs1 := ow_0 k_Fs1
  have o_Fs2 := ow_0 k_Fs2
  have o_Fs3 := ow_0 k_Fs3
  refine lv_aload_n hx hb dX11_collect_0 rfl (lv_at hl 0 rfl) ?_
  refine va_get (D := (dC, dI)) (ci := 14) (v := .ref Ad4) (C := RX11) (T := TX11) (N := 18) hx hb hts (in_z_X11_collect_X11) hown hK hP 0 rfl rfl 3 (by decide) (hts (.fieldLink RX11 35 "HeapWorks" "journal" "LHeapWorks$Journal;") (by decide +kernel)) (fun _ h9 => h9) (ow_at o_Fs0 1 rfl) dX11_collect_1 ?_
  have hPc := hP.sub (ws' := [(Ad4, .inr (6, Fs3))]) [4] rfl
  have hDc := hD.sub (ws' := [(Ad4, .inr (6, Fs3))]) [4] (by decide) rfl
  have hKc := hK.sub (tys' := []) [] rfl
  have hFc := va_free (wc := [(Ad4, .inr (6, Fs3))]) hD hS hA [4] rfl
  refine va_callv (va_runV (As := []) (rest := []) ⟨hx, hb, hml, hown, hts⟩ (z_X3_forgetUndo l dC dI s.heap.size Ad4 Fs3 (fh_sub o_Fs3.2 [] rfl) ) (cwV 0 hts g_z_X11_collect_z_X3_forgetUndo_276 rfl rfl rfl (by decide +kernel) ⟨Nat.le_of_ble_eq_true rfl, Nat.le_of_ble_eq_true rfl⟩) ⟨fun a U g mk q => by obtain ⟨q0, q1, qP, qK, qD⟩ := q; exact ⟨q0, q1, qP, va_K.moved (u := U) (U := U.calling g mk a) (Vm.Alike.refl U.vm) qK, qD⟩, va_recv hK hP (ci := 6) (q0 := 4) rfl rfl, fun U hU hW => ⟨rfl, by rw [hU], by rw [hU]; exact hPc, va_K.moved hW.alike hKc, hDc.weaken (fun _ _ _ _ => trivial)⟩⟩ rfl rfl hl.1 rfl (lv_room (Nat.le_of_ble_eq_true rfl)) dX11_collect_4 ⟨Nat.le_of_ble_eq_true rfl, Nat.le_of_ble_eq_true rfl⟩) hS (fun q _ h => hFc q h) hFc (fun u t H1 locs ht hvm hw hB hz1 hk1 hS => ?_)
  obtain ⟨s101, rfl⟩ : ∃ z, z = u := ⟨_, rfl⟩
  obtain ⟨hP1, hK1, hD1⟩ := hB
  rw [ht] at hP1
  try dsimp only at hw
  obtain ⟨hP, hD⟩ := va_join (wr := [(Ad0, .inr (14, Fs0)), (Ad1, .inr (13, Fs1)), (Ad2, .inr (5, Fs2)), (Ad3, .inl (Ka0, 400, .inl Fa0))]) (w1 := [(Ad4, .inr (6, s101))]) hP hD [4] [0, 1, 2, 3] rfl rfl (by decide) (by decide) hk1 hFc hP1 hD1
  have hK := hK.sub (tys' := [(Ka0, .int)]) [0] rfl
  generalize H1 = H at hP hS ⊢
  have hP : va_P (dC, dI) vwCl [(Ad0, .inr (14, Fs0)), (Ad1, .inr (13, Fs1)), (Ad2, .inr (5, Fs2)), (Ad3, .inl (Ka0, 400, .inl Fa0)), (Ad4, .inr (6, s101))] H := hP
  have hD : va_D A [(Ad0, .inr (14, Fs0)), (Ad1, .inr (13, Fs1)), (Ad2, .inr (5, Fs2)), (Ad3, .inl (Ka0, 400, .inl Fa0)), (Ad4, .inr (6, s101))] := hD
  have o_s101 := hw
  have o_s101 := ow_on o_Fs3 o_s101 (l' := [(6, .int 0)]) (w' := [6]) rfl rfl
  refine lv_aload_n hx hb dX11_collect_7 rfl (lv_at hl 0 rfl) ?_
  refine va_get (D := (dC, dI)) (ci := 14) (v := .ref Ad2) (C := RX11) (T := TX11) (N := 18) hx hb hts (in_z_X11_collect_X11) hown hK hP 0 rfl rfl 2 (by decide) (hts (.fieldLink RX11 28 "HeapWorks" "heap" "LHeapWorks$Heap;") (by decide +kernel)) (fun _ h9 => h9) (ow_at o_Fs0 0 rfl) dX11_collect_8 ?_
  have hPc := hP.sub (ws' := [(Ad1, .inr (13, Fs1)), (Ad2, .inr (5, Fs2)), (Ad3, .inl (Ka0, 400, .inl Fa0))]) [1, 2, 3] rfl
  have hDc := hD.sub (ws' := [(Ad1, .inr (13, Fs1)), (Ad2, .inr (5, Fs2)), (Ad3, .inl (Ka0, 400, .inl Fa0))]) [1, 2, 3] (by decide) rfl
  have hKc := hK.sub (tys' := [(Ka0, .int)]) [0] rfl
  have hFc := va_free (wc := [(Ad1, .inr (13, Fs1)), (Ad2, .inr (5, Fs2)), (Ad3, .inl (Ka0, 400, .inl Fa0))]) hD hS hA [1, 2, 3] rfl
  refine va_calli (va_runV (As := []) (rest := []) ⟨hx, hb, hml, hown, hts⟩ (z_X2_dropUnreached l dC dI H.size Ad1 Fs1 Ad2 Fs2 Ad3 Fa0 Ka0 (fh_sub o_Fs1.2 [0] rfl) (fh_sub o_Fs2.2 [0, 1, 2, 3, 4] rfl) ) (cwV 0 hts g_z_X11_collect_z_X2_dropUnreached_279 rfl rfl rfl (by decide +kernel) ⟨Nat.le_of_ble_eq_true rfl, Nat.le_of_ble_eq_true rfl⟩) ⟨fun a U g mk q => by obtain ⟨q0, q1, qP, qK, qD⟩ := q; exact ⟨q0, q1, qP, va_K.moved (u := U) (U := U.calling g mk a) (Vm.Alike.refl U.vm) qK, qD⟩, va_recv hK hP (ci := 5) (q0 := 2) rfl rfl, fun U hU hW => ⟨rfl, by rw [hU], by rw [hU]; exact hPc, va_K.moved hW.alike hKc, hDc.weaken (fun _ _ _ _ => trivial)⟩⟩ rfl rfl hl.1 rfl (lv_room (Nat.le_of_ble_eq_true rfl)) dX11_collect_11 ⟨Nat.le_of_ble_eq_true rfl, Nat.le_of_ble_eq_true rfl⟩) hS (fun q _ h => hFc q h) hFc (fun r102 u t H1 locs ht hvm hw hB hz1 hk1 hS => ?_)
  obtain ⟨s103, rfl⟩ : ∃ z, z = u := ⟨_, rfl⟩
  obtain ⟨hP1, hK1, hD1⟩ := hB
  rw [ht] at hP1
  try dsimp only at hw
  obtain ⟨hP, hD⟩ := va_join (wr := [(Ad0, .inr (14, Fs0)), (Ad4, .inr (6, s101))]) (w1 := [(Ad1, .inr (13, Fs1)), (Ad2, .inr (5, s103)), (Ad3, .inl (Ka0, 400, .inl Fa0))]) hP hD [1, 2, 3] [0, 4] rfl rfl (by decide) (by decide) hk1 hFc hP1 hD1
  have hK := hK.sub (tys' := [(Ka0, .int)]) [0] rfl
  generalize H1 = H at hP hS ⊢
  have hP : va_P (dC, dI) vwCl [(Ad0, .inr (14, Fs0)), (Ad4, .inr (6, s101)), (Ad1, .inr (13, Fs1)), (Ad2, .inr (5, s103)), (Ad3, .inl (Ka0, 400, .inl Fa0))] H := hP
  have hD : va_D A [(Ad0, .inr (14, Fs0)), (Ad4, .inr (6, s101)), (Ad1, .inr (13, Fs1)), (Ad2, .inr (5, s103)), (Ad3, .inl (Ka0, 400, .inl Fa0))] := hD
  obtain ⟨er104, o_s103⟩ := hw
  subst er104
  have o_s103 := ow_on o_Fs2 o_s103 (l' := [(2, .int 0), (3, .int 0), (0, .ref Ad1), (1, .int 0), (11, .int 0), (13, .ref Ad3), (0, .ref Ad1), (1, .int 0), (11, .int 0), (13, .ref Ad3)]) (w' := [2, 3]) rfl rfl
  have hP9 := hP.sub (ws' := [(Ad0, .inr (14, Fs0)), (Ad1, .inr (13, Fs1)), (Ad2, .inr (5, s103)), (Ad3, .inl (Ka0, 400, .inl Fa0)), (Ad4, .inr (6, s101))]) [0, 2, 3, 4, 1] rfl
  have hD9 := hD.sub (ws' := [(Ad0, .inr (14, Fs0)), (Ad1, .inr (13, Fs1)), (Ad2, .inr (5, s103)), (Ad3, .inl (Ka0, 400, .inl Fa0)), (Ad4, .inr (6, s101))]) [0, 2, 3, 4, 1] (by decide) rfl
  have hK9 := hK.sub (tys' := [(Ka0, .int)]) [0] rfl
  exact W.iret (v := 0) hx hb hr (fun t ht hW => ⟨⟨0, (s103, s101), rfl, ⟨rfl, o_s103, o_s101⟩, by rw [ht]; exact hP9, va_K.moved hW.alike hK9, hD9⟩, hS.F ht⟩) hS.2.2 dX11_collect_14

def l_z_X3_takeBack : List Cond := [.fieldLink RX3 119 "HeapWorks$Journal" "undoCount" "I"]
def w_z_X3_takeBack : List Cond := .code yX3_takeBack cX3_takeBack 3 (some .int) :: (l_z_X3_takeBack ++ (wsX30))
theorem in_z_X3_takeBack_X3 : ∀ w ∈ wsX30, w ∈ w_z_X3_takeBack := fun w h => List.mem_cons_of_mem _ (List.mem_append_right _ (h))
set_option maxHeartbeats 4000000 in
set_option maxRecDepth 100000 in
theorem z_X3_takeBack (l : Launch) (dC : Nat → ClassId) (dI : Nat → Nat → Nat) (sz : Nat) (Ad0 : Nat) (Fs0 : List Value) (Br0 : Nat) (k_Fs0 : fh Fs0 13 [(6, .int 0)])  : Met l yX3_takeBack w_z_X3_takeBack ({ frames := 0, cells := 0, slots := 0, locals := 0 }) (va_Pc [.ref Ad0, .ref Br0] (fun U => U.heap.size = sz ∧ Wd dC dI [] (fun _ => True) [(Ad0, .inr (6, Fs0))] U)) (va_Qi (fun (r : Int32) (u : Unit) => r = (-1)) (fun (u : Unit) t => Wd dC dI [] (va_A [(Ad0, .inr (6, Fs0))] sz) [(Ad0, .inr (6, Fs0))] t) (va_A [(Ad0, .inr (6, Fs0))] sz))  0 0 (va_A [(Ad0, .inr (6, Fs0))] sz) := by
  refine Met.ofW (cc := cX3_takeBack) (maxL := 3) (ret := (some .int)) (by decide) rfl ?_
  intro p e s m args below meth c s₁ B hml hv
  obtain ⟨rfl, hsz, hP, hK, hD0⟩ := hv
  have hx := B.exec
  have hb := B.bytes
  have hr := B.returns
  have hts := atoms_spec (ws := w_z_X3_takeBack) B.pre
  have hown : s.vm.findClass RX3 = some m.cls := findClass_of_methodNamed B.named
  have hlocks := B.notSynchronized
  subst hsz
  have hD := hD0.self (sz := s.heap.size)
  generalize hAe : va_A [(Ad0, .inr (6, Fs0))] s.heap.size = A at hD ⊢
  have hA : ∀ q : Nat, s.heap.size ≤ q → A q := fun q h => by rw [← hAe]; exact Or.inr h
  have hS : va_S A s.heap s.heap [] := va_S.rf
  have hl := lv_entry ([.ref Ad0, .ref Br0]) (n := 3) (Nat.le_of_ble_eq_true rfl)
  rw [lg_entry_eq]
  generalize (lg_sl ([.ref Ad0, .ref Br0]) ++ List.replicate (3 - (lg_sl ([.ref Ad0, .ref Br0])).length) Slot.unset).toArray = ls at hl ⊢
  have hl : lv_has ls 3 [(0, .ref Ad0), (1, .ref Br0)] := hl
  have o_Fs0 := ow_0 k_Fs0
  refine lv_aload_n hx hb dX3_takeBack_0 rfl (lv_at hl 0 rfl) ?_
  refine va_get (D := (dC, dI)) (ci := 6) (v := .int 0) (C := RX3) (T := TX3) (N := 13) hx hb hts (in_z_X3_takeBack_X3) hown hK hP 0 rfl rfl 6 (by decide) (hts (.fieldLink RX3 119 "HeapWorks$Journal" "undoCount" "I") (by decide +kernel)) (fun _ h9 => h9) (ow_at o_Fs0 0 rfl) dX3_takeBack_1 ?_
  refine lv_if_ne (tgt := 9) hx hb dX3_takeBack_4 (by decide) (fun c101 => absurd c101 (by decide)) (fun c101 => ?_)
  refine lv_iconst (v := (-1)) hx hb dX3_takeBack_7 (by decide) ?_
  have hP9 := hP.sub (ws' := [(Ad0, .inr (6, Fs0))]) [0] rfl
  have hD9 := hD.sub (ws' := [(Ad0, .inr (6, Fs0))]) [0] (by decide) rfl
  have hK9 := hK.sub (tys' := []) [] rfl
  exact W.iret (v := (-1)) hx hb hr (fun t ht hW => ⟨⟨(-1), (), rfl, rfl, by rw [ht]; exact hP9, va_K.moved hW.alike hK9, hD9⟩, hS.F ht⟩) hS.2.2 dX3_takeBack_8

def l_z_X11_undo : List Cond := [.fieldLink RX11 35 "HeapWorks" "journal" "LHeapWorks$Journal;", .fieldLink RX11 28 "HeapWorks" "heap" "LHeapWorks$Heap;", .methodLink RX11 283 yX3_takeBack, .instanceMethod yX3_takeBack, .selects RX3 yX3_takeBack yX3_takeBack, .initialized RX3, .code yX3_takeBack cX3_takeBack 3 (some .int), .fieldLink RX3 119 "HeapWorks$Journal" "undoCount" "I"]
def w_z_X11_undo : List Cond := .code yX11_undo cX11_undo 1 (some .int) :: (l_z_X11_undo ++ ((wsX110 ++ wsX30)))
theorem in_z_X11_undo_X11 : ∀ w ∈ wsX110, w ∈ w_z_X11_undo := fun w h => List.mem_cons_of_mem _ (List.mem_append_right _ (List.mem_append_left _ h))
theorem in_z_X11_undo_X3 : ∀ w ∈ wsX30, w ∈ w_z_X11_undo := fun w h => List.mem_cons_of_mem _ (List.mem_append_right _ (List.mem_append_right _ (h)))
theorem g_z_X11_undo_z_X3_takeBack_283 : GoodIn w_z_X11_undo (wsV RX11 283 RX3 yX3_takeBack w_z_X3_takeBack) := goodIn_app (goodIn_r (([.methodLink RX11 283 yX3_takeBack, .instanceMethod yX3_takeBack, .selects RX3 yX3_takeBack yX3_takeBack, .initialized RX3] : List Cond)) [3, 4, 5, 6] rfl (by decide +kernel)) (goodIn_ca (goodIn_r (.code yX3_takeBack cX3_takeBack 3 (some .int) :: l_z_X3_takeBack) [7, 8] rfl (by decide +kernel)) (goodIn_in (in_z_X11_undo_X3) gd_X3))
set_option maxHeartbeats 4000000 in
set_option maxRecDepth 100000 in
theorem z_X11_undo (l : Launch) (dC : Nat → ClassId) (dI : Nat → Nat → Nat) (sz : Nat) (Ad0 : Nat) (Fs0 : List Value) (Ad1 : Nat) (Fs1 : List Value) (Br0 : Nat) (k_Fs0 : fh Fs0 18 [(2, .ref Br0), (3, .ref Ad1)]) (k_Fs1 : fh Fs1 13 [(6, .int 0)])  : Met l yX11_undo w_z_X11_undo ({ frames := 1, cells := 0, slots := 0, locals := 22 }) (va_Pc [.ref Ad0] (fun U => U.heap.size = sz ∧ Wd dC dI [] (fun _ => True) [(Ad0, .inr (14, Fs0)), (Ad1, .inr (6, Fs1))] U)) (va_Qi (fun (r : Int32) (u : Unit) => r = (-1)) (fun (u : Unit) t => Wd dC dI [] (va_A [(Ad0, .inr (14, Fs0)), (Ad1, .inr (6, Fs1))] sz) [(Ad0, .inr (14, Fs0)), (Ad1, .inr (6, Fs1))] t) (va_A [(Ad0, .inr (14, Fs0)), (Ad1, .inr (6, Fs1))] sz))  0 0 (va_A [(Ad0, .inr (14, Fs0)), (Ad1, .inr (6, Fs1))] sz) := by
  refine Met.ofW (cc := cX11_undo) (maxL := 1) (ret := (some .int)) (by decide) rfl ?_
  intro p e s m args below meth c s₁ B hml hv
  obtain ⟨rfl, hsz, hP, hK, hD0⟩ := hv
  have hx := B.exec
  have hb := B.bytes
  have hr := B.returns
  have hts := atoms_spec (ws := w_z_X11_undo) B.pre
  have hown : s.vm.findClass RX11 = some m.cls := findClass_of_methodNamed B.named
  have hlocks := B.notSynchronized
  subst hsz
  have hD := hD0.self (sz := s.heap.size)
  generalize hAe : va_A [(Ad0, .inr (14, Fs0)), (Ad1, .inr (6, Fs1))] s.heap.size = A at hD ⊢
  have hA : ∀ q : Nat, s.heap.size ≤ q → A q := fun q h => by rw [← hAe]; exact Or.inr h
  have hS : va_S A s.heap s.heap [] := va_S.rf
  have hl := lv_entry ([.ref Ad0]) (n := 1) (Nat.le_of_ble_eq_true rfl)
  rw [lg_entry_eq]
  generalize (lg_sl ([.ref Ad0]) ++ List.replicate (1 - (lg_sl ([.ref Ad0])).length) Slot.unset).toArray = ls at hl ⊢
  have hl : lv_has ls 1 [(0, .ref Ad0)] := hl
  have o_Fs0 := ow_0 k_Fs0
  have o_Fs1 := ow_0 k_Fs1
  refine lv_aload_n hx hb dX11_undo_0 rfl (lv_at hl 0 rfl) ?_
  refine va_get (D := (dC, dI)) (ci := 14) (v := .ref Ad1) (C := RX11) (T := TX11) (N := 18) hx hb hts (in_z_X11_undo_X11) hown hK hP 0 rfl rfl 3 (by decide) (hts (.fieldLink RX11 35 "HeapWorks" "journal" "LHeapWorks$Journal;") (by decide +kernel)) (fun _ h9 => h9) (ow_at o_Fs0 1 rfl) dX11_undo_1 ?_
  refine lv_aload_n hx hb dX11_undo_4 rfl (lv_at hl 0 rfl) ?_
  refine va_get (D := (dC, dI)) (ci := 14) (v := .ref Br0) (C := RX11) (T := TX11) (N := 18) hx hb hts (in_z_X11_undo_X11) hown hK hP 0 rfl rfl 2 (by decide) (hts (.fieldLink RX11 28 "HeapWorks" "heap" "LHeapWorks$Heap;") (by decide +kernel)) (fun _ h9 => h9) (ow_at o_Fs0 0 rfl) dX11_undo_5 ?_
  have hPc := hP.sub (ws' := [(Ad1, .inr (6, Fs1))]) [1] rfl
  have hDc := hD.sub (ws' := [(Ad1, .inr (6, Fs1))]) [1] (by decide) rfl
  have hKc := hK.sub (tys' := []) [] rfl
  have hFc := va_free (wc := [(Ad1, .inr (6, Fs1))]) hD hS hA [1] rfl
  refine va_calli (va_runV (As := [.ref Br0]) (rest := []) ⟨hx, hb, hml, hown, hts⟩ (z_X3_takeBack l dC dI s.heap.size Ad1 Fs1 Br0 (fh_sub o_Fs1.2 [0] rfl) ) (cwV 1 hts g_z_X11_undo_z_X3_takeBack_283 rfl rfl rfl (by decide +kernel) ⟨Nat.le_of_ble_eq_true rfl, Nat.le_of_ble_eq_true rfl⟩) ⟨fun a U g mk q => by obtain ⟨q0, q1, qP, qK, qD⟩ := q; exact ⟨q0, q1, qP, va_K.moved (u := U) (U := U.calling g mk a) (Vm.Alike.refl U.vm) qK, qD⟩, va_recv hK hP (ci := 6) (q0 := 1) rfl rfl, fun U hU hW => ⟨rfl, by rw [hU], by rw [hU]; exact hPc, va_K.moved hW.alike hKc, hDc.weaken (fun _ _ _ _ => trivial)⟩⟩ rfl rfl hl.1 rfl (lv_room (Nat.le_of_ble_eq_true rfl)) dX11_undo_8 ⟨Nat.le_of_ble_eq_true rfl, Nat.le_of_ble_eq_true rfl⟩) hS (fun q _ h => hFc q h) hFc (fun r101 u t H1 locs ht hvm hw hB hz1 hk1 hS => ?_)
  obtain ⟨hP1, hK1, hD1⟩ := hB
  rw [ht] at hP1
  try dsimp only at hw
  obtain ⟨hP, hD⟩ := va_join (wr := [(Ad0, .inr (14, Fs0))]) (w1 := [(Ad1, .inr (6, Fs1))]) hP hD [1] [0] rfl rfl (by decide) (by decide) hk1 hFc hP1 hD1
  have hK := hK.sub (tys' := []) [] rfl
  generalize H1 = H at hP hS ⊢
  have hP : va_P (dC, dI) vwCl [(Ad0, .inr (14, Fs0)), (Ad1, .inr (6, Fs1))] H := hP
  have hD : va_D A [(Ad0, .inr (14, Fs0)), (Ad1, .inr (6, Fs1))] := hD
  have er102 := hw
  subst er102
  have hP9 := hP.sub (ws' := [(Ad0, .inr (14, Fs0)), (Ad1, .inr (6, Fs1))]) [0, 1] rfl
  have hD9 := hD.sub (ws' := [(Ad0, .inr (14, Fs0)), (Ad1, .inr (6, Fs1))]) [0, 1] (by decide) rfl
  have hK9 := hK.sub (tys' := []) [] rfl
  exact W.iret (v := (-1)) hx hb hr (fun t ht hW => ⟨⟨(-1), (), rfl, rfl, by rw [ht]; exact hP9, va_K.moved hW.alike hK9, hD9⟩, hS.F ht⟩) hS.2.2 dX11_undo_11

def l_z_X11_swap : List Cond := [.fieldLink RX11 28 "HeapWorks" "heap" "LHeapWorks$Heap;", .methodLink RX11 218 yX2_isThere, .instanceMethod yX2_isThere, .selects RX2 yX2_isThere yX2_isThere, .initialized RX2, .classLink RX11 221 "java/util/NoSuchElementException", .initialized "java/util/NoSuchElementException", .code yX2_isThere cX2_isThere 2 (some .boolean), .fieldLink RX2 47 "HeapWorks$Heap" "made" "I"]
def w_z_X11_swap : List Cond := .code yX11_swap cX11_swap 4 (some .int) :: (l_z_X11_swap ++ ((wsX110 ++ (((vx_at0 RX11 223 "java/util/NoSuchElementException" ["java/lang/RuntimeException", "java/lang/Exception"]).filter goodWord) ++ wsX20))))
theorem in_z_X11_swap_X11 : ∀ w ∈ wsX110, w ∈ w_z_X11_swap := fun w h => List.mem_cons_of_mem _ (List.mem_append_right _ (List.mem_append_left _ h))
theorem in_z_X11_swap_at0_X11_223 : ∀ w ∈ ((vx_at0 RX11 223 "java/util/NoSuchElementException" ["java/lang/RuntimeException", "java/lang/Exception"]).filter goodWord), w ∈ w_z_X11_swap := fun w h => List.mem_cons_of_mem _ (List.mem_append_right _ (List.mem_append_right _ (List.mem_append_left _ h)))
theorem in_z_X11_swap_X2 : ∀ w ∈ wsX20, w ∈ w_z_X11_swap := fun w h => List.mem_cons_of_mem _ (List.mem_append_right _ (List.mem_append_right _ (List.mem_append_right _ (h))))
theorem g_z_X11_swap_z_X2_isThere_218 : GoodIn w_z_X11_swap (wsV RX11 218 RX2 yX2_isThere w_z_X2_isThere) := goodIn_app (goodIn_r (([.methodLink RX11 218 yX2_isThere, .instanceMethod yX2_isThere, .selects RX2 yX2_isThere yX2_isThere, .initialized RX2] : List Cond)) [2, 3, 4, 5] rfl (by decide +kernel)) (goodIn_ca (goodIn_r (.code yX2_isThere cX2_isThere 2 (some .boolean) :: l_z_X2_isThere) [8, 9] rfl (by decide +kernel)) (goodIn_in (in_z_X11_swap_X2) gd_X2))
set_option maxHeartbeats 4000000 in
set_option maxRecDepth 100000 in
theorem z_X11_swap (l : Launch) (dC : Nat → ClassId) (dI : Nat → Nat → Nat) (sz : Nat) (Ad0 : Nat) (Fs0 : List Value) (Ad1 : Nat) (Fs1 : List Value) (Va0 : Int32) (Va1 : Int32) (k_Fs0 : fh Fs0 18 [(2, .ref Ad1)]) (k_Fs1 : fh Fs1 14 [(1, .int 0)]) (hst : l.stackTraces = false)  : vx_Met l yX11_swap w_z_X11_swap ({ frames := 7, cells := 1, slots := 6, locals := 140 }) (va_Pc [.ref Ad0, .int Va0, .int Va1] (fun U => U.heap.size = sz ∧ Zz (va_A [(Ad0, .inr (14, Fs0)), (Ad1, .inr (5, Fs1))] sz) U ∧ Wd dC dI [] (fun _ => True) [(Ad0, .inr (14, Fs0)), (Ad1, .inr (5, Fs1))] U)) (va_Qi (fun (r : Int32) (u : Unit) => False) (fun (u : Unit) t => Wd dC dI [] (va_A [(Ad0, .inr (14, Fs0)), (Ad1, .inr (5, Fs1))] sz) [(Ad0, .inr (14, Fs0)), (Ad1, .inr (5, Fs1))] t) (va_A [(Ad0, .inr (14, Fs0)), (Ad1, .inr (5, Fs1))] sz)) (vx_X (fun _ : Unit => True) (fun E _ _ => (E = "java/util/NoSuchElementException" ∧ Va0 < 0) ∨ (E = "java/util/NoSuchElementException" ∧ ¬ Va0 < 0 ∧ 0 ≤ Va0)) (va_A [(Ad0, .inr (14, Fs0)), (Ad1, .inr (5, Fs1))] sz)) 1 6 (va_A [(Ad0, .inr (14, Fs0)), (Ad1, .inr (5, Fs1))] sz) := by
  refine vx_ofW (cc := cX11_swap) (maxL := 4) (ret := (some .int)) (by decide) rfl ?_
  intro p e s m args below meth c s₁ B hml htab hv
  obtain ⟨rfl, hsz, hZ, hP, hK, hD0⟩ := hv
  have hx := B.exec
  have hb := B.bytes
  have hr := B.returns
  have hts := atoms_spec (ws := w_z_X11_swap) B.pre
  have hown : s.vm.findClass RX11 = some m.cls := findClass_of_methodNamed B.named
  have hlocks := B.notSynchronized
  subst hsz
  have hD := hD0.self (sz := s.heap.size)
  generalize hAe : va_A [(Ad0, .inr (14, Fs0)), (Ad1, .inr (5, Fs1))] s.heap.size = A at hD hZ ⊢
  have hA : ∀ q : Nat, s.heap.size ≤ q → A q := fun q h => by rw [← hAe]; exact Or.inr h
  have hS : va_S A s.heap s.heap [] := va_S.rf
  have hl := lv_entry ([.ref Ad0, .int Va0, .int Va1]) (n := 4) (Nat.le_of_ble_eq_true rfl)
  rw [lg_entry_eq]
  generalize (lg_sl ([.ref Ad0, .int Va0, .int Va1]) ++ List.replicate (4 - (lg_sl ([.ref Ad0, .int Va0, .int Va1])).length) Slot.unset).toArray = ls at hl ⊢
  have hl : lv_has ls 4 [(0, .ref Ad0), (1, .int Va0), (2, .int Va1)] := hl
  have o_Fs0 := ow_0 k_Fs0
  have o_Fs1 := ow_0 k_Fs1
  refine lv_aload_n hx hb dX11_swap_0 rfl (lv_at hl 0 rfl) ?_
  refine va_get (D := (dC, dI)) (ci := 14) (v := .ref Ad1) (C := RX11) (T := TX11) (N := 18) hx hb hts (in_z_X11_swap_X11) hown hK hP 0 rfl rfl 2 (by decide) (hts (.fieldLink RX11 28 "HeapWorks" "heap" "LHeapWorks$Heap;") (by decide +kernel)) (fun _ h9 => h9) (ow_at o_Fs0 0 rfl) dX11_swap_1 ?_
  refine lv_iload_n hx hb dX11_swap_4 rfl (lv_at hl 1 rfl) ?_
  have hPc := hP.sub (ws' := [(Ad1, .inr (5, Fs1))]) [1] rfl
  have hDc := hD.sub (ws' := [(Ad1, .inr (5, Fs1))]) [1] (by decide) rfl
  have hKc := hK.sub (tys' := []) [] rfl
  have hFc := va_free (wc := [(Ad1, .inr (5, Fs1))]) hD hS hA [1] rfl
  refine va_calli (va_runV (As := [.int Va0]) (rest := []) ⟨hx, hb, hml, hown, hts⟩ (z_X2_isThere l dC dI s.heap.size Ad1 Fs1 Va0 (fh_sub o_Fs1.2 [0] rfl) ) (cwV 1 hts g_z_X11_swap_z_X2_isThere_218 rfl rfl rfl (by decide +kernel) ⟨Nat.le_of_ble_eq_true rfl, Nat.le_of_ble_eq_true rfl⟩) ⟨fun a U g mk q => by obtain ⟨q0, q1, qP, qK, qD⟩ := q; exact ⟨q0, q1, qP, va_K.moved (u := U) (U := U.calling g mk a) (Vm.Alike.refl U.vm) qK, qD⟩, va_recv hK hP (ci := 5) (q0 := 1) rfl rfl, fun U hU hW => ⟨rfl, by rw [hU], by rw [hU]; exact hPc, va_K.moved hW.alike hKc, hDc.weaken (fun _ _ _ _ => trivial)⟩⟩ rfl rfl hl.1 rfl (lv_room (Nat.le_of_ble_eq_true rfl)) dX11_swap_5 ⟨Nat.le_of_ble_eq_true rfl, Nat.le_of_ble_eq_true rfl⟩) hS (fun q _ h => hFc q h) hFc (fun r101 u t H1 locs ht hvm hw hB hz1 hk1 hS => ?_)
  obtain ⟨hP1, hK1, hD1⟩ := hB
  rw [ht] at hP1
  try dsimp only at hw
  obtain ⟨hP, hD⟩ := va_join (wr := [(Ad0, .inr (14, Fs0))]) (w1 := [(Ad1, .inr (5, Fs1))]) hP hD [1] [0] rfl rfl (by decide) (by decide) hk1 hFc hP1 hD1
  have hK := hK.sub (tys' := []) [] rfl
  generalize H1 = H at hP hS ⊢
  have hP : va_P (dC, dI) vwCl [(Ad0, .inr (14, Fs0)), (Ad1, .inr (5, Fs1))] H := hP
  have hD : va_D A [(Ad0, .inr (14, Fs0)), (Ad1, .inr (5, Fs1))] := hD
  rcases hw with ⟨c102, er103⟩ | ⟨c104, c105, er106⟩
  · skip
    subst er103
    refine lv_if_eq (tgt := 22) hx hb dX11_swap_8 (by decide) (fun c107 => ?_) (fun c107 => absurd c107 (by decide))
    exact vx_throw0 (names := ["java/lang/RuntimeException", "java/lang/Exception"]) hx hb hst hown (by decide +kernel) (by decide +kernel) (hts (.classLink RX11 221 "java/util/NoSuchElementException") (by decide +kernel)) (hts (.initialized "java/util/NoSuchElementException") (by decide +kernel)) (vx_hat (B := xB "java/util/NoSuchElementException") (fun w h => hts w ((in_z_X11_swap_at0_X11_223) w h)) (by decide +kernel) (Zz_xB hZ (by decide))) (by decide +kernel) hZ.1 hZ.2.1 hS (hl.1.trans hml.symm) dX11_swap_22 dX11_swap_25 dX11_swap_26 dX11_swap_29 (fun x h => (htab x h).elim) (by decide) (Nat.le_of_ble_eq_true rfl) (Nat.le_of_ble_eq_true rfl) (Nat.le_of_ble_eq_true rfl) hlocks (fun t _ h1 h2 => ⟨(), trivial, (Or.inl ⟨rfl, c102⟩), xx_F hS h1 h2⟩) hS.2.2 (by decide) (by decide)
  · skip
    subst er106
    refine lv_if_eq (tgt := 22) hx hb dX11_swap_8 (by decide) (fun c108 => ?_) (fun c108 => absurd c108 (by decide))
    exact vx_throw0 (names := ["java/lang/RuntimeException", "java/lang/Exception"]) hx hb hst hown (by decide +kernel) (by decide +kernel) (hts (.classLink RX11 221 "java/util/NoSuchElementException") (by decide +kernel)) (hts (.initialized "java/util/NoSuchElementException") (by decide +kernel)) (vx_hat (B := xB "java/util/NoSuchElementException") (fun w h => hts w ((in_z_X11_swap_at0_X11_223) w h)) (by decide +kernel) (Zz_xB hZ (by decide))) (by decide +kernel) hZ.1 hZ.2.1 hS (hl.1.trans hml.symm) dX11_swap_22 dX11_swap_25 dX11_swap_26 dX11_swap_29 (fun x h => (htab x h).elim) (by decide) (Nat.le_of_ble_eq_true rfl) (Nat.le_of_ble_eq_true rfl) (Nat.le_of_ble_eq_true rfl) hlocks (fun t _ h1 h2 => ⟨(), trivial, (Or.inr (⟨rfl, c104, c105⟩)), xx_F hS h1 h2⟩) hS.2.2 (by decide) (by decide)

def l_z_X11_copy : List Cond := [.fieldLink RX11 28 "HeapWorks" "heap" "LHeapWorks$Heap;", .methodLink RX11 218 yX2_isThere, .instanceMethod yX2_isThere, .selects RX2 yX2_isThere yX2_isThere, .initialized RX2, .classLink RX11 221 "java/util/NoSuchElementException", .initialized "java/util/NoSuchElementException", .code yX2_isThere cX2_isThere 2 (some .boolean), .fieldLink RX2 47 "HeapWorks$Heap" "made" "I"]
def w_z_X11_copy : List Cond := .code yX11_copy cX11_copy 4 (some .int) :: (l_z_X11_copy ++ ((wsX110 ++ (((vx_at0 RX11 223 "java/util/NoSuchElementException" ["java/lang/RuntimeException", "java/lang/Exception"]).filter goodWord) ++ wsX20))))
theorem in_z_X11_copy_X11 : ∀ w ∈ wsX110, w ∈ w_z_X11_copy := fun w h => List.mem_cons_of_mem _ (List.mem_append_right _ (List.mem_append_left _ h))
theorem in_z_X11_copy_at0_X11_223 : ∀ w ∈ ((vx_at0 RX11 223 "java/util/NoSuchElementException" ["java/lang/RuntimeException", "java/lang/Exception"]).filter goodWord), w ∈ w_z_X11_copy := fun w h => List.mem_cons_of_mem _ (List.mem_append_right _ (List.mem_append_right _ (List.mem_append_left _ h)))
theorem in_z_X11_copy_X2 : ∀ w ∈ wsX20, w ∈ w_z_X11_copy := fun w h => List.mem_cons_of_mem _ (List.mem_append_right _ (List.mem_append_right _ (List.mem_append_right _ (h))))
theorem g_z_X11_copy_z_X2_isThere_218 : GoodIn w_z_X11_copy (wsV RX11 218 RX2 yX2_isThere w_z_X2_isThere) := goodIn_app (goodIn_r (([.methodLink RX11 218 yX2_isThere, .instanceMethod yX2_isThere, .selects RX2 yX2_isThere yX2_isThere, .initialized RX2] : List Cond)) [2, 3, 4, 5] rfl (by decide +kernel)) (goodIn_ca (goodIn_r (.code yX2_isThere cX2_isThere 2 (some .boolean) :: l_z_X2_isThere) [8, 9] rfl (by decide +kernel)) (goodIn_in (in_z_X11_copy_X2) gd_X2))
set_option maxHeartbeats 4000000 in
set_option maxRecDepth 100000 in
theorem z_X11_copy (l : Launch) (dC : Nat → ClassId) (dI : Nat → Nat → Nat) (sz : Nat) (Ad0 : Nat) (Fs0 : List Value) (Ad1 : Nat) (Fs1 : List Value) (Va0 : Int32) (Va1 : Int32) (k_Fs0 : fh Fs0 18 [(2, .ref Ad1)]) (k_Fs1 : fh Fs1 14 [(1, .int 0)]) (hst : l.stackTraces = false)  : vx_Met l yX11_copy w_z_X11_copy ({ frames := 7, cells := 1, slots := 6, locals := 140 }) (va_Pc [.ref Ad0, .int Va0, .int Va1] (fun U => U.heap.size = sz ∧ Zz (va_A [(Ad0, .inr (14, Fs0)), (Ad1, .inr (5, Fs1))] sz) U ∧ Wd dC dI [] (fun _ => True) [(Ad0, .inr (14, Fs0)), (Ad1, .inr (5, Fs1))] U)) (va_Qi (fun (r : Int32) (u : Unit) => False) (fun (u : Unit) t => Wd dC dI [] (va_A [(Ad0, .inr (14, Fs0)), (Ad1, .inr (5, Fs1))] sz) [(Ad0, .inr (14, Fs0)), (Ad1, .inr (5, Fs1))] t) (va_A [(Ad0, .inr (14, Fs0)), (Ad1, .inr (5, Fs1))] sz)) (vx_X (fun _ : Unit => True) (fun E _ _ => (E = "java/util/NoSuchElementException" ∧ Va0 < 0) ∨ (E = "java/util/NoSuchElementException" ∧ ¬ Va0 < 0 ∧ 0 ≤ Va0)) (va_A [(Ad0, .inr (14, Fs0)), (Ad1, .inr (5, Fs1))] sz)) 1 6 (va_A [(Ad0, .inr (14, Fs0)), (Ad1, .inr (5, Fs1))] sz) := by
  refine vx_ofW (cc := cX11_copy) (maxL := 4) (ret := (some .int)) (by decide) rfl ?_
  intro p e s m args below meth c s₁ B hml htab hv
  obtain ⟨rfl, hsz, hZ, hP, hK, hD0⟩ := hv
  have hx := B.exec
  have hb := B.bytes
  have hr := B.returns
  have hts := atoms_spec (ws := w_z_X11_copy) B.pre
  have hown : s.vm.findClass RX11 = some m.cls := findClass_of_methodNamed B.named
  have hlocks := B.notSynchronized
  subst hsz
  have hD := hD0.self (sz := s.heap.size)
  generalize hAe : va_A [(Ad0, .inr (14, Fs0)), (Ad1, .inr (5, Fs1))] s.heap.size = A at hD hZ ⊢
  have hA : ∀ q : Nat, s.heap.size ≤ q → A q := fun q h => by rw [← hAe]; exact Or.inr h
  have hS : va_S A s.heap s.heap [] := va_S.rf
  have hl := lv_entry ([.ref Ad0, .int Va0, .int Va1]) (n := 4) (Nat.le_of_ble_eq_true rfl)
  rw [lg_entry_eq]
  generalize (lg_sl ([.ref Ad0, .int Va0, .int Va1]) ++ List.replicate (4 - (lg_sl ([.ref Ad0, .int Va0, .int Va1])).length) Slot.unset).toArray = ls at hl ⊢
  have hl : lv_has ls 4 [(0, .ref Ad0), (1, .int Va0), (2, .int Va1)] := hl
  have o_Fs0 := ow_0 k_Fs0
  have o_Fs1 := ow_0 k_Fs1
  refine lv_aload_n hx hb dX11_copy_0 rfl (lv_at hl 0 rfl) ?_
  refine va_get (D := (dC, dI)) (ci := 14) (v := .ref Ad1) (C := RX11) (T := TX11) (N := 18) hx hb hts (in_z_X11_copy_X11) hown hK hP 0 rfl rfl 2 (by decide) (hts (.fieldLink RX11 28 "HeapWorks" "heap" "LHeapWorks$Heap;") (by decide +kernel)) (fun _ h9 => h9) (ow_at o_Fs0 0 rfl) dX11_copy_1 ?_
  refine lv_iload_n hx hb dX11_copy_4 rfl (lv_at hl 1 rfl) ?_
  have hPc := hP.sub (ws' := [(Ad1, .inr (5, Fs1))]) [1] rfl
  have hDc := hD.sub (ws' := [(Ad1, .inr (5, Fs1))]) [1] (by decide) rfl
  have hKc := hK.sub (tys' := []) [] rfl
  have hFc := va_free (wc := [(Ad1, .inr (5, Fs1))]) hD hS hA [1] rfl
  refine va_calli (va_runV (As := [.int Va0]) (rest := []) ⟨hx, hb, hml, hown, hts⟩ (z_X2_isThere l dC dI s.heap.size Ad1 Fs1 Va0 (fh_sub o_Fs1.2 [0] rfl) ) (cwV 1 hts g_z_X11_copy_z_X2_isThere_218 rfl rfl rfl (by decide +kernel) ⟨Nat.le_of_ble_eq_true rfl, Nat.le_of_ble_eq_true rfl⟩) ⟨fun a U g mk q => by obtain ⟨q0, q1, qP, qK, qD⟩ := q; exact ⟨q0, q1, qP, va_K.moved (u := U) (U := U.calling g mk a) (Vm.Alike.refl U.vm) qK, qD⟩, va_recv hK hP (ci := 5) (q0 := 1) rfl rfl, fun U hU hW => ⟨rfl, by rw [hU], by rw [hU]; exact hPc, va_K.moved hW.alike hKc, hDc.weaken (fun _ _ _ _ => trivial)⟩⟩ rfl rfl hl.1 rfl (lv_room (Nat.le_of_ble_eq_true rfl)) dX11_copy_5 ⟨Nat.le_of_ble_eq_true rfl, Nat.le_of_ble_eq_true rfl⟩) hS (fun q _ h => hFc q h) hFc (fun r101 u t H1 locs ht hvm hw hB hz1 hk1 hS => ?_)
  obtain ⟨hP1, hK1, hD1⟩ := hB
  rw [ht] at hP1
  try dsimp only at hw
  obtain ⟨hP, hD⟩ := va_join (wr := [(Ad0, .inr (14, Fs0))]) (w1 := [(Ad1, .inr (5, Fs1))]) hP hD [1] [0] rfl rfl (by decide) (by decide) hk1 hFc hP1 hD1
  have hK := hK.sub (tys' := []) [] rfl
  generalize H1 = H at hP hS ⊢
  have hP : va_P (dC, dI) vwCl [(Ad0, .inr (14, Fs0)), (Ad1, .inr (5, Fs1))] H := hP
  have hD : va_D A [(Ad0, .inr (14, Fs0)), (Ad1, .inr (5, Fs1))] := hD
  rcases hw with ⟨c102, er103⟩ | ⟨c104, c105, er106⟩
  · skip
    subst er103
    refine lv_if_ne (tgt := 19) hx hb dX11_copy_8 (by decide) (fun c107 => absurd c107 (by decide)) (fun c107 => ?_)
    exact vx_throw0 (names := ["java/lang/RuntimeException", "java/lang/Exception"]) hx hb hst hown (by decide +kernel) (by decide +kernel) (hts (.classLink RX11 221 "java/util/NoSuchElementException") (by decide +kernel)) (hts (.initialized "java/util/NoSuchElementException") (by decide +kernel)) (vx_hat (B := xB "java/util/NoSuchElementException") (fun w h => hts w ((in_z_X11_copy_at0_X11_223) w h)) (by decide +kernel) (Zz_xB hZ (by decide))) (by decide +kernel) hZ.1 hZ.2.1 hS (hl.1.trans hml.symm) dX11_copy_11 dX11_copy_14 dX11_copy_15 dX11_copy_18 (fun x h => (htab x h).elim) (by decide) (Nat.le_of_ble_eq_true rfl) (Nat.le_of_ble_eq_true rfl) (Nat.le_of_ble_eq_true rfl) hlocks (fun t _ h1 h2 => ⟨(), trivial, (Or.inl ⟨rfl, c102⟩), xx_F hS h1 h2⟩) hS.2.2 (by decide) (by decide)
  · skip
    subst er106
    refine lv_if_ne (tgt := 19) hx hb dX11_copy_8 (by decide) (fun c108 => absurd c108 (by decide)) (fun c108 => ?_)
    exact vx_throw0 (names := ["java/lang/RuntimeException", "java/lang/Exception"]) hx hb hst hown (by decide +kernel) (by decide +kernel) (hts (.classLink RX11 221 "java/util/NoSuchElementException") (by decide +kernel)) (hts (.initialized "java/util/NoSuchElementException") (by decide +kernel)) (vx_hat (B := xB "java/util/NoSuchElementException") (fun w h => hts w ((in_z_X11_copy_at0_X11_223) w h)) (by decide +kernel) (Zz_xB hZ (by decide))) (by decide +kernel) hZ.1 hZ.2.1 hS (hl.1.trans hml.symm) dX11_copy_11 dX11_copy_14 dX11_copy_15 dX11_copy_18 (fun x h => (htab x h).elim) (by decide) (Nat.le_of_ble_eq_true rfl) (Nat.le_of_ble_eq_true rfl) (Nat.le_of_ble_eq_true rfl) hlocks (fun t _ h1 h2 => ⟨(), trivial, (Or.inr (⟨rfl, c104, c105⟩)), xx_F hS h1 h2⟩) hS.2.2 (by decide) (by decide)

