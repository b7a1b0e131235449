def l_z_X2_create_1 : List Cond := [.fieldLink RX2 47 "HeapWorks$Heap" "made" "I", .fieldLink RX2 75 "HeapWorks$Heap" "there" "I", .fieldLink RX2 15 "HeapWorks$Heap" "type" "[I", .fieldLink RX2 19 "HeapWorks$Heap" "length" "[I", .fieldLink RX2 22 "HeapWorks$Heap" "first" "[I", .fieldLink RX2 62 "HeapWorks$Heap" "slots" "I", .fieldLink RX2 9 "HeapWorks$Heap" "types" "LHeapWorks$Types;", .methodLink RX2 78 yX10_use, .instanceMethod yX10_use, .selects RX10 yX10_use yX10_use, .initialized RX10, .methodLink RX2 51 yX10_slotsOf, .instanceMethod yX10_slotsOf, .selects RX10 yX10_slotsOf yX10_slotsOf, .methodLink RX2 82 yX10_kindAt, .instanceMethod yX10_kindAt, .selects RX10 yX10_kindAt yX10_kindAt, .fieldLink RX2 29 "HeapWorks$Heap" "link" "[Z", .fieldLink RX2 25 "HeapWorks$Heap" "value" "[J", .methodLink RX2 85 yX10_firstValue, .static yX10_firstValue, .code yX10_use cX10_use 2 none, .methodLink RX10 69 yX10_isClass, .instanceMethod yX10_isClass, .selects RX10 yX10_isClass yX10_isClass, .code yX10_isClass cX10_isClass 2 (some .boolean), .fieldLink RX10 65 "HeapWorks$Types" "count" "I", .code yX10_slotsOf cX10_slotsOf 3 (some .int), .methodLink RX10 86 yX10_isArray, .static yX10_isArray, .code yX10_isArray cX10_isArray 1 (some .boolean), .code yX10_kindAt cX10_kindAt 3 (some .int), .code yX10_firstValue cX10_firstValue 1 (some .long), .constantLong RX10 96 (-1)]
def w_z_X2_create_1 : List Cond := .code yX2_create cX2_create 7 (some .int) :: (l_z_X2_create_1 ++ ((wsX20 ++ wsX100)))
theorem in_z_X2_create_1_X2 : ∀ w ∈ wsX20, w ∈ w_z_X2_create_1 := fun w h => List.mem_cons_of_mem _ (List.mem_append_right _ (List.mem_append_left _ h))
theorem in_z_X2_create_1_X10 : ∀ w ∈ wsX100, w ∈ w_z_X2_create_1 := fun w h => List.mem_cons_of_mem _ (List.mem_append_right _ (List.mem_append_right _ (h)))
theorem g_z_X2_create_1_z_X10_use_78 : GoodIn w_z_X2_create_1 (wsV RX2 78 RX10 yX10_use w_z_X10_use) := goodIn_app (goodIn_sub (by decide +kernel) (by decide +kernel)) (goodIn_ca (goodIn_sub (by decide +kernel) (by decide +kernel)) (goodIn_in in_z_X2_create_1_X10 gd_X10))
theorem g_z_X2_create_1_z_X10_slotsOf_1_51 : GoodIn w_z_X2_create_1 (wsV RX2 51 RX10 yX10_slotsOf w_z_X10_slotsOf_1) := goodIn_app (goodIn_sub (by decide +kernel) (by decide +kernel)) (goodIn_sub (by decide +kernel) (by decide +kernel))
theorem g_z_X2_create_1_z_X10_kindAt_1_82 : GoodIn w_z_X2_create_1 (wsV RX2 82 RX10 yX10_kindAt w_z_X10_kindAt_1) := goodIn_app (goodIn_sub (by decide +kernel) (by decide +kernel)) (goodIn_sub (by decide +kernel) (by decide +kernel))
theorem g_z_X2_create_1_z_X10_firstValue_1_85 : GoodIn w_z_X2_create_1 (va_wsS RX2 85 yX10_firstValue w_z_X10_firstValue_1) := goodIn_app (goodIn_sub (by decide +kernel) (by decide +kernel)) (goodIn_sub (by decide +kernel) (by decide +kernel))
set_option maxHeartbeats 4000000 in
set_option maxRecDepth 100000 in
theorem z_X2_create_1 (l : Launch) (dC : Nat → ClassId) (dI : Nat → Nat → Nat) (sz : Nat) (Ad0 : Nat) (Fa0 : Nat → Int32) (Ka0 : ClassId) (Ad1 : Nat) (Fa1 : Nat → Int32) (Ka1 : ClassId) (Ad2 : Nat) (Fa2 : Nat → Int32) (Ka2 : ClassId) (Ad3 : Nat) (Fa3 : Nat → Int64) (Ka3 : ClassId) (Ad4 : Nat) (Fa4 : Nat → Int32) (Ka4 : ClassId) (Ad5 : Nat) (Fs0 : List Value) (Ad6 : Nat) (Fs1 : List Value) (Va0 : Int32) (Va1 : Int32) (k_Fs0 : fh Fs0 18 [(0, .int 0)]) (k_Fs1 : fh Fs1 14 [(0, .ref Ad5), (1, .int 0), (2, .int 0), (3, .int 0), (4, .ref Ad0), (5, .ref Ad1), (6, .ref Ad2), (7, .ref Ad3), (8, .ref Ad4)]) (gv_Va0 : (29 : Int) ≤ Va0.toInt ∧ Va0.toInt ≤ 29) (gv_Va1 : (0 : Int) ≤ Va1.toInt ∧ Va1.toInt ≤ 60) : Met l yX2_create w_z_X2_create_1 ({ frames := 2, cells := 0, slots := 0, locals := 42 }) (va_Pc [.ref Ad6, .int Va0, .int Va1] (fun U => U.heap.size = sz ∧ Wd dC dI [(Ka0, .int), (Ka1, .int), (Ka2, .int), (Ka3, .long), (Ka4, .boolean)] (fun _ => True) [(Ad0, .inl (Ka0, 400, .inl Fa0)), (Ad1, .inl (Ka1, 400, .inl Fa1)), (Ad2, .inl (Ka2, 400, .inl Fa2)), (Ad3, .inl (Ka3, 4000, .inr (.inl Fa3))), (Ad4, .inl (Ka4, 4000, .inl Fa4)), (Ad5, .inr (13, Fs0)), (Ad6, .inr (5, Fs1))] U)) (va_Qi (fun (r : Int32) (u : (Nat → Int32) × (Nat → Int32) × (Nat → Int32) × (Nat → Int64) × (Nat → Int32) × List Value) => (¬ Va0 < 0 ∧ 0 ≤ Va0 ∧ ¬ Va0 < 20 ∧ r = 0 ∧ ow Fs1 (u.2.2.2.2.2) 14 [1, 2, 3] [(0, .ref Ad5), (4, .ref Ad0), (5, .ref Ad1), (6, .ref Ad2), (7, .ref Ad3), (8, .ref Ad4)] ∧ (u.1) (0 : Int32).toNatClampNeg = Va0 ∧ (u.2.1) (0 : Int32).toNatClampNeg = Va1 ∧ (u.2.2.1) (0 : Int32).toNatClampNeg = 0)) (fun (u : (Nat → Int32) × (Nat → Int32) × (Nat → Int32) × (Nat → Int64) × (Nat → Int32) × List Value) t => Wd dC dI [(Ka0, .int), (Ka1, .int), (Ka2, .int), (Ka3, .long), (Ka4, .boolean)] (va_A [(Ad0, .inl (Ka0, 400, .inl Fa0)), (Ad1, .inl (Ka1, 400, .inl Fa1)), (Ad2, .inl (Ka2, 400, .inl Fa2)), (Ad3, .inl (Ka3, 4000, .inr (.inl Fa3))), (Ad4, .inl (Ka4, 4000, .inl Fa4)), (Ad5, .inr (13, Fs0)), (Ad6, .inr (5, Fs1))] sz) [(Ad0, .inl (Ka0, 400, .inl ((u.1)))), (Ad1, .inl (Ka1, 400, .inl ((u.2.1)))), (Ad2, .inl (Ka2, 400, .inl ((u.2.2.1)))), (Ad3, .inl (Ka3, 4000, .inr (.inl ((u.2.2.2.1))))), (Ad4, .inl (Ka4, 4000, .inl ((u.2.2.2.2.1)))), (Ad5, .inr (13, Fs0)), (Ad6, .inr (5, (u.2.2.2.2.2)))] t) (va_A [(Ad0, .inl (Ka0, 400, .inl Fa0)), (Ad1, .inl (Ka1, 400, .inl Fa1)), (Ad2, .inl (Ka2, 400, .inl Fa2)), (Ad3, .inl (Ka3, 4000, .inr (.inl Fa3))), (Ad4, .inl (Ka4, 4000, .inl Fa4)), (Ad5, .inr (13, Fs0)), (Ad6, .inr (5, Fs1))] sz))  0 0 (va_A [(Ad0, .inl (Ka0, 400, .inl Fa0)), (Ad1, .inl (Ka1, 400, .inl Fa1)), (Ad2, .inl (Ka2, 400, .inl Fa2)), (Ad3, .inl (Ka3, 4000, .inr (.inl Fa3))), (Ad4, .inl (Ka4, 4000, .inl Fa4)), (Ad5, .inr (13, Fs0)), (Ad6, .inr (5, Fs1))] sz) := by
  refine Met.ofW (cc := cX2_create) (maxL := 7) (ret := (some .int)) (by decide) rfl ?_
  intro p e s m args below meth c s₁ B hml hv
  obtain ⟨rfl, hsz, hP, hK, hD0⟩ := hv
  have hx := B.exec
  have hb := B.bytes
  have hr := B.returns
  have hts := atoms_spec (ws := w_z_X2_create_1) B.pre
  have hown : s.vm.findClass RX2 = some m.cls := findClass_of_methodNamed B.named
  have hlocks := B.notSynchronized
  subst hsz
  have hD := hD0.self (sz := s.heap.size)
  generalize hAe : va_A [(Ad0, .inl (Ka0, 400, .inl Fa0)), (Ad1, .inl (Ka1, 400, .inl Fa1)), (Ad2, .inl (Ka2, 400, .inl Fa2)), (Ad3, .inl (Ka3, 4000, .inr (.inl Fa3))), (Ad4, .inl (Ka4, 4000, .inl Fa4)), (Ad5, .inr (13, Fs0)), (Ad6, .inr (5, Fs1))] s.heap.size = A at hD ⊢
  have hA : ∀ q : Nat, s.heap.size ≤ q → A q := fun q h => by rw [← hAe]; exact Or.inr h
  have hS : va_S A s.heap s.heap [] := va_S.rf
  have hl := lv_entry ([.ref Ad6, .int Va0, .int Va1]) (n := 7) (Nat.le_of_ble_eq_true rfl)
  rw [lg_entry_eq]
  generalize (lg_sl ([.ref Ad6, .int Va0, .int Va1]) ++ List.replicate (7 - (lg_sl ([.ref Ad6, .int Va0, .int Va1])).length) Slot.unset).toArray = ls at hl ⊢
  have hl : lv_has ls 7 [(0, .ref Ad6), (1, .int Va0), (2, .int Va1)] := hl
  have o_Fs0 := ow_0 k_Fs0
  have o_Fs1 := ow_0 k_Fs1
  refine lv_aload_n hx hb dX2_create_0 rfl (lv_at hl 0 rfl) ?_
  refine va_get (D := (dC, dI)) (ci := 5) (v := .int 0) (C := RX2) (T := TX2) (N := 14) hx hb hts (in_z_X2_create_1_X2) hown hK hP 6 rfl rfl 1 (by decide) (hts (.fieldLink RX2 47 "HeapWorks$Heap" "made" "I") (by decide +kernel)) (fun _ h9 => h9) (ow_at o_Fs1 1 rfl) dX2_create_1 ?_
  refine lv_istore_n (lv' := [(3, .int 0), (0, .ref Ad6), (1, .int Va0), (2, .int Va1)]) hx hb dX2_create_4 rfl hl (by decide) rfl (fun ls hl => ?_)
  refine lv_aload_n hx hb dX2_create_5 rfl (lv_at hl 1 rfl) ?_
  refine lv_dup hx hb dX2_create_6 rfl ?_
  refine va_get (D := (dC, dI)) (ci := 5) (v := .int 0) (C := RX2) (T := TX2) (N := 14) hx hb hts (in_z_X2_create_1_X2) hown hK hP 6 rfl rfl 1 (by decide) (hts (.fieldLink RX2 47 "HeapWorks$Heap" "made" "I") (by decide +kernel)) (fun _ h9 => h9) (ow_at o_Fs1 1 rfl) dX2_create_7 ?_
  refine lv_iconst (v := 1) hx hb dX2_create_10 (by decide) ?_
  refine lv_iadd hx hb dX2_create_11  ?_
  refine lv_topi (fun x1885 ex1885 => ?_)
  obtain rfl : x1885 = 1 := ex1885.trans (by decide)
  refine va_put (D := (dC, dI)) (ci := 5) (v := .int 1) (ty := .int) (C := RX2) (T := TX2) (N := 14) hx hb hts (in_z_X2_create_1_X2) tyX2 tyX2_ok nmX2 hown hK hP hD hS 6 rfl rfl 1 (by decide) (hts (.fieldLink RX2 47 "HeapWorks$Heap" "made" "I") (by decide +kernel)) (fun _ h9 => h9) rfl (by decide +kernel) rfl rfl (by rw [o_Fs1.2.1]; decide) dX2_create_12 (fun H locs hP hD hS => ?_)
  have hP : va_P (dC, dI) vwCl [(Ad0, .inl (Ka0, 400, .inl Fa0)), (Ad1, .inl (Ka1, 400, .inl Fa1)), (Ad2, .inl (Ka2, 400, .inl Fa2)), (Ad3, .inl (Ka3, 4000, .inr (.inl Fa3))), (Ad4, .inl (Ka4, 4000, .inl Fa4)), (Ad5, .inr (13, Fs0)), (Ad6, .inr (5, (Fs1.set 1 (.int 1))))] H := hP
  have hD : va_D A [(Ad0, .inl (Ka0, 400, .inl Fa0)), (Ad1, .inl (Ka1, 400, .inl Fa1)), (Ad2, .inl (Ka2, 400, .inl Fa2)), (Ad3, .inl (Ka3, 4000, .inr (.inl Fa3))), (Ad4, .inl (Ka4, 4000, .inl Fa4)), (Ad5, .inr (13, Fs0)), (Ad6, .inr (5, (Fs1.set 1 (.int 1))))] := hD
  have o_s1886 := ow_set o_Fs1 1 (.int 1) (by decide) (l' := [(1, .int 1), (0, .ref Ad5), (2, .int 0), (3, .int 0), (4, .ref Ad0), (5, .ref Ad1), (6, .ref Ad2), (7, .ref Ad3), (8, .ref Ad4)]) (w' := [1]) rfl rfl
  generalize (Fs1.set 1 (.int 1)) = s1886 at hP hD o_s1886
  refine lv_aload_n hx hb dX2_create_15 rfl (lv_at hl 1 rfl) ?_
  refine lv_dup hx hb dX2_create_16 rfl ?_
  refine va_get (D := (dC, dI)) (ci := 5) (v := .int 0) (C := RX2) (T := TX2) (N := 14) hx hb hts (in_z_X2_create_1_X2) hown hK hP 6 rfl rfl 2 (by decide) (hts (.fieldLink RX2 75 "HeapWorks$Heap" "there" "I") (by decide +kernel)) (fun _ h9 => h9) (ow_at o_s1886 2 rfl) dX2_create_17 ?_
  refine lv_iconst (v := 1) hx hb dX2_create_20 (by decide) ?_
  refine lv_iadd hx hb dX2_create_21  ?_
  refine lv_topi (fun x1887 ex1887 => ?_)
  obtain rfl : x1887 = 1 := ex1887.trans (by decide)
  refine va_put (D := (dC, dI)) (ci := 5) (v := .int 1) (ty := .int) (C := RX2) (T := TX2) (N := 14) hx hb hts (in_z_X2_create_1_X2) tyX2 tyX2_ok nmX2 hown hK hP hD hS 6 rfl rfl 2 (by decide) (hts (.fieldLink RX2 75 "HeapWorks$Heap" "there" "I") (by decide +kernel)) (fun _ h9 => h9) rfl (by decide +kernel) rfl rfl (by rw [o_s1886.2.1]; decide) dX2_create_22 (fun H locs hP hD hS => ?_)
  have hP : va_P (dC, dI) vwCl [(Ad0, .inl (Ka0, 400, .inl Fa0)), (Ad1, .inl (Ka1, 400, .inl Fa1)), (Ad2, .inl (Ka2, 400, .inl Fa2)), (Ad3, .inl (Ka3, 4000, .inr (.inl Fa3))), (Ad4, .inl (Ka4, 4000, .inl Fa4)), (Ad5, .inr (13, Fs0)), (Ad6, .inr (5, (s1886.set 2 (.int 1))))] H := hP
  have hD : va_D A [(Ad0, .inl (Ka0, 400, .inl Fa0)), (Ad1, .inl (Ka1, 400, .inl Fa1)), (Ad2, .inl (Ka2, 400, .inl Fa2)), (Ad3, .inl (Ka3, 4000, .inr (.inl Fa3))), (Ad4, .inl (Ka4, 4000, .inl Fa4)), (Ad5, .inr (13, Fs0)), (Ad6, .inr (5, (s1886.set 2 (.int 1))))] := hD
  have o_s1888 := ow_set o_s1886 2 (.int 1) (by decide) (l' := [(2, .int 1), (1, .int 1), (0, .ref Ad5), (3, .int 0), (4, .ref Ad0), (5, .ref Ad1), (6, .ref Ad2), (7, .ref Ad3), (8, .ref Ad4)]) (w' := [2, 1]) rfl rfl
  generalize (s1886.set 2 (.int 1)) = s1888 at hP hD o_s1888
  refine lv_aload_n hx hb dX2_create_25 rfl (lv_at hl 1 rfl) ?_
  refine va_get (D := (dC, dI)) (ci := 5) (v := .ref Ad0) (C := RX2) (T := TX2) (N := 14) hx hb hts (in_z_X2_create_1_X2) hown hK hP 6 rfl rfl 4 (by decide) (hts (.fieldLink RX2 15 "HeapWorks$Heap" "type" "[I") (by decide +kernel)) (fun _ h9 => h9) (ow_at o_s1888 4 rfl) dX2_create_26 ?_
  refine lv_iload_n hx hb dX2_create_29 rfl (lv_at hl 0 rfl) ?_
  refine lv_iload_n hx hb dX2_create_30 rfl (lv_at hl 2 rfl) ?_
  refine va_iast hx hb hK hP hD hS 0 0 rfl rfl (show vp_in 0 400 from by unfold vp_in; decide) dX2_create_31 (fun H locs hP hD hS => ?_)
  have hP : va_P (dC, dI) vwCl [(Ad0, .inl (Ka0, 400, .inl (upd Fa0 (0 : Int32).toNatClampNeg Va0))), (Ad1, .inl (Ka1, 400, .inl Fa1)), (Ad2, .inl (Ka2, 400, .inl Fa2)), (Ad3, .inl (Ka3, 4000, .inr (.inl Fa3))), (Ad4, .inl (Ka4, 4000, .inl Fa4)), (Ad5, .inr (13, Fs0)), (Ad6, .inr (5, s1888))] H := hP
  have hD : va_D A [(Ad0, .inl (Ka0, 400, .inl (upd Fa0 (0 : Int32).toNatClampNeg Va0))), (Ad1, .inl (Ka1, 400, .inl Fa1)), (Ad2, .inl (Ka2, 400, .inl Fa2)), (Ad3, .inl (Ka3, 4000, .inr (.inl Fa3))), (Ad4, .inl (Ka4, 4000, .inl Fa4)), (Ad5, .inr (13, Fs0)), (Ad6, .inr (5, s1888))] := hD
  have q1890 : (upd Fa0 (0 : Int32).toNatClampNeg Va0) (0 : Int32).toNatClampNeg = Va0 := pk_us
  generalize upd Fa0 (0 : Int32).toNatClampNeg Va0 = f1889 at hP hD q1890
  refine lv_aload_n hx hb dX2_create_32 rfl (lv_at hl 1 rfl) ?_
  refine va_get (D := (dC, dI)) (ci := 5) (v := .ref Ad1) (C := RX2) (T := TX2) (N := 14) hx hb hts (in_z_X2_create_1_X2) hown hK hP 6 rfl rfl 5 (by decide) (hts (.fieldLink RX2 19 "HeapWorks$Heap" "length" "[I") (by decide +kernel)) (fun _ h9 => h9) (ow_at o_s1888 5 rfl) dX2_create_33 ?_
  refine lv_iload_n hx hb dX2_create_36 rfl (lv_at hl 0 rfl) ?_
  refine lv_iload_n hx hb dX2_create_37 rfl (lv_at hl 3 rfl) ?_
  refine va_iast hx hb hK hP hD hS 1 1 rfl rfl (show vp_in 0 400 from by unfold vp_in; decide) dX2_create_38 (fun H locs hP hD hS => ?_)
  have hP : va_P (dC, dI) vwCl [(Ad0, .inl (Ka0, 400, .inl f1889)), (Ad1, .inl (Ka1, 400, .inl (upd Fa1 (0 : Int32).toNatClampNeg Va1))), (Ad2, .inl (Ka2, 400, .inl Fa2)), (Ad3, .inl (Ka3, 4000, .inr (.inl Fa3))), (Ad4, .inl (Ka4, 4000, .inl Fa4)), (Ad5, .inr (13, Fs0)), (Ad6, .inr (5, s1888))] H := hP
  have hD : va_D A [(Ad0, .inl (Ka0, 400, .inl f1889)), (Ad1, .inl (Ka1, 400, .inl (upd Fa1 (0 : Int32).toNatClampNeg Va1))), (Ad2, .inl (Ka2, 400, .inl Fa2)), (Ad3, .inl (Ka3, 4000, .inr (.inl Fa3))), (Ad4, .inl (Ka4, 4000, .inl Fa4)), (Ad5, .inr (13, Fs0)), (Ad6, .inr (5, s1888))] := hD
  have q1892 : (upd Fa1 (0 : Int32).toNatClampNeg Va1) (0 : Int32).toNatClampNeg = Va1 := pk_us
  generalize upd Fa1 (0 : Int32).toNatClampNeg Va1 = f1891 at hP hD q1892
  refine lv_aload_n hx hb dX2_create_39 rfl (lv_at hl 1 rfl) ?_
  refine va_get (D := (dC, dI)) (ci := 5) (v := .ref Ad2) (C := RX2) (T := TX2) (N := 14) hx hb hts (in_z_X2_create_1_X2) hown hK hP 6 rfl rfl 6 (by decide) (hts (.fieldLink RX2 22 "HeapWorks$Heap" "first" "[I") (by decide +kernel)) (fun _ h9 => h9) (ow_at o_s1888 6 rfl) dX2_create_40 ?_
  refine lv_iload_n hx hb dX2_create_43 rfl (lv_at hl 0 rfl) ?_
  refine lv_aload_n hx hb dX2_create_44 rfl (lv_at hl 1 rfl) ?_
  refine va_get (D := (dC, dI)) (ci := 5) (v := .int 0) (C := RX2) (T := TX2) (N := 14) hx hb hts (in_z_X2_create_1_X2) hown hK hP 6 rfl rfl 3 (by decide) (hts (.fieldLink RX2 62 "HeapWorks$Heap" "slots" "I") (by decide +kernel)) (fun _ h9 => h9) (ow_at o_s1888 3 rfl) dX2_create_45 ?_
  refine va_iast hx hb hK hP hD hS 2 2 rfl rfl (show vp_in 0 400 from by unfold vp_in; decide) dX2_create_48 (fun H locs hP hD hS => ?_)
  have hP : va_P (dC, dI) vwCl [(Ad0, .inl (Ka0, 400, .inl f1889)), (Ad1, .inl (Ka1, 400, .inl f1891)), (Ad2, .inl (Ka2, 400, .inl (upd Fa2 (0 : Int32).toNatClampNeg 0))), (Ad3, .inl (Ka3, 4000, .inr (.inl Fa3))), (Ad4, .inl (Ka4, 4000, .inl Fa4)), (Ad5, .inr (13, Fs0)), (Ad6, .inr (5, s1888))] H := hP
  have hD : va_D A [(Ad0, .inl (Ka0, 400, .inl f1889)), (Ad1, .inl (Ka1, 400, .inl f1891)), (Ad2, .inl (Ka2, 400, .inl (upd Fa2 (0 : Int32).toNatClampNeg 0))), (Ad3, .inl (Ka3, 4000, .inr (.inl Fa3))), (Ad4, .inl (Ka4, 4000, .inl Fa4)), (Ad5, .inr (13, Fs0)), (Ad6, .inr (5, s1888))] := hD
  have q1894 : (upd Fa2 (0 : Int32).toNatClampNeg 0) (0 : Int32).toNatClampNeg = 0 := pk_us
  generalize upd Fa2 (0 : Int32).toNatClampNeg 0 = f1893 at hP hD q1894
  refine lv_aload_n hx hb dX2_create_49 rfl (lv_at hl 1 rfl) ?_
  refine va_get (D := (dC, dI)) (ci := 5) (v := .ref Ad5) (C := RX2) (T := TX2) (N := 14) hx hb hts (in_z_X2_create_1_X2) hown hK hP 6 rfl rfl 0 (by decide) (hts (.fieldLink RX2 9 "HeapWorks$Heap" "types" "LHeapWorks$Types;") (by decide +kernel)) (fun _ h9 => h9) (ow_at o_s1888 2 rfl) dX2_create_50 ?_
  refine lv_iload_n hx hb dX2_create_53 rfl (lv_at hl 2 rfl) ?_
  have hPc := hP.sub (ws' := [(Ad5, .inr (13, Fs0))]) [5] rfl
  have hDc := hD.sub (ws' := [(Ad5, .inr (13, Fs0))]) [5] (by decide) rfl
  have hKc := hK.sub (tys' := []) [] rfl
  have hFc := va_free (wc := [(Ad5, .inr (13, Fs0))]) hD hS hA [5] rfl
  refine va_callv (va_runV (As := [.int Va0]) (rest := []) ⟨hx, hb, hml, hown, hts⟩ (z_X10_use l dC dI H.size Ad5 Fs0 Va0 (fh_sub o_Fs0.2 [0] rfl) ) (cwV 1 hts g_z_X2_create_1_z_X10_use_78 rfl rfl rfl (by decide +kernel) ⟨Nat.le_of_ble_eq_true rfl, Nat.le_of_ble_eq_true rfl⟩) ⟨fun a U g mk q => by obtain ⟨q0, q1, qP, qK, qD⟩ := q; exact ⟨q0, q1, qP, va_K.moved (u := U) (U := U.calling g mk a) (Vm.Alike.refl U.vm) qK, qD⟩, va_recv hK hP (ci := 13) (q0 := 5) rfl rfl, fun U hU hW => ⟨rfl, by rw [hU], by rw [hU]; exact hPc, va_K.moved hW.alike hKc, hDc.weaken (fun _ _ _ _ => trivial)⟩⟩ rfl rfl hl.1 rfl (lv_room (Nat.le_of_ble_eq_true rfl)) dX2_create_54 ⟨Nat.le_of_ble_eq_true rfl, Nat.le_of_ble_eq_true rfl⟩) hS (fun q _ h => hFc q h) hFc (fun u t H1 locs ht hvm hw hB hz1 hk1 hS => ?_)
  obtain ⟨hP1, hK1, hD1⟩ := hB
  rw [ht] at hP1
  try dsimp only at hw
  obtain ⟨hP, hD⟩ := va_join (wr := [(Ad0, .inl (Ka0, 400, .inl f1889)), (Ad1, .inl (Ka1, 400, .inl f1891)), (Ad2, .inl (Ka2, 400, .inl f1893)), (Ad3, .inl (Ka3, 4000, .inr (.inl Fa3))), (Ad4, .inl (Ka4, 4000, .inl Fa4)), (Ad6, .inr (5, s1888))]) (w1 := [(Ad5, .inr (13, Fs0))]) hP hD [5] [0, 1, 2, 3, 4, 6] rfl rfl (by decide) (by decide) hk1 hFc hP1 hD1
  have hK := hK.sub (tys' := [(Ka0, .int), (Ka1, .int), (Ka2, .int), (Ka3, .long), (Ka4, .boolean)]) [0, 1, 2, 3, 4] rfl
  generalize H1 = H at hP hS ⊢
  have hP : va_P (dC, dI) vwCl [(Ad0, .inl (Ka0, 400, .inl f1889)), (Ad1, .inl (Ka1, 400, .inl f1891)), (Ad2, .inl (Ka2, 400, .inl f1893)), (Ad3, .inl (Ka3, 4000, .inr (.inl Fa3))), (Ad4, .inl (Ka4, 4000, .inl Fa4)), (Ad6, .inr (5, s1888)), (Ad5, .inr (13, Fs0))] H := hP
  have hD : va_D A [(Ad0, .inl (Ka0, 400, .inl f1889)), (Ad1, .inl (Ka1, 400, .inl f1891)), (Ad2, .inl (Ka2, 400, .inl f1893)), (Ad3, .inl (Ka3, 4000, .inr (.inl Fa3))), (Ad4, .inl (Ka4, 4000, .inl Fa4)), (Ad6, .inr (5, s1888)), (Ad5, .inr (13, Fs0))] := hD
  rcases hw with c1905 | ⟨c1906, c1907⟩
  · exact (by exfalso; (try simp only [i_lt, i_le, i_eq, kc_0] at gv_Va0 c1905); omega)
  · skip
    refine lv_aload_n hx hb dX2_create_57 rfl (lv_at hl 1 rfl) ?_
    refine va_get (D := (dC, dI)) (ci := 5) (v := .ref Ad5) (C := RX2) (T := TX2) (N := 14) hx hb hts (in_z_X2_create_1_X2) hown hK hP 5 rfl rfl 0 (by decide) (hts (.fieldLink RX2 9 "HeapWorks$Heap" "types" "LHeapWorks$Types;") (by decide +kernel)) (fun _ h9 => h9) (ow_at o_s1888 2 rfl) dX2_create_58 ?_
    refine lv_iload_n hx hb dX2_create_61 rfl (lv_at hl 2 rfl) ?_
    refine lv_iload_n hx hb dX2_create_62 rfl (lv_at hl 3 rfl) ?_
    have hPc := hP.sub (ws' := []) [] rfl
    have hDc := hD.sub (ws' := []) [] (by decide) rfl
    have hKc := hK.sub (tys' := []) [] rfl
    have hFc := va_free (wc := []) hD hS hA [] rfl
    refine va_calli (va_runV (As := [.int Va0, .int Va1]) (rest := []) ⟨hx, hb, hml, hown, hts⟩ (z_X10_slotsOf_1 l dC dI H.size Ad5 Va0 Va1  (by (try simp only [i_lt, i_le, i_eq, kc_0] at gv_Va0 c1906 c1907); omega) (by (try simp only [i_lt, i_le, i_eq] at gv_Va1); omega)) (cwV 2 hts g_z_X2_create_1_z_X10_slotsOf_1_51 rfl rfl rfl (by decide +kernel) ⟨Nat.le_of_ble_eq_true rfl, Nat.le_of_ble_eq_true rfl⟩) ⟨fun a U g mk q => by obtain ⟨q0, q1, qP, qK, qD⟩ := q; exact ⟨q0, q1, qP, va_K.moved (u := U) (U := U.calling g mk a) (Vm.Alike.refl U.vm) qK, qD⟩, va_recv hK hP (ci := 13) (q0 := 6) rfl rfl, fun U hU hW => ⟨rfl, by rw [hU], by rw [hU]; exact hPc, va_K.moved hW.alike hKc, hDc.weaken (fun _ _ _ _ => trivial)⟩⟩ rfl rfl hl.1 rfl (lv_room (Nat.le_of_ble_eq_true rfl)) dX2_create_63 ⟨Nat.le_of_ble_eq_true rfl, Nat.le_of_ble_eq_true rfl⟩) hS (fun q _ h => hFc q h) hFc (fun r1922 u t H1 locs ht hvm hw hB hz1 hk1 hS => ?_)
    obtain ⟨hP1, hK1, hD1⟩ := hB
    rw [ht] at hP1
    try dsimp only at hw
    obtain ⟨hP, hD⟩ := va_join (wr := [(Ad0, .inl (Ka0, 400, .inl f1889)), (Ad1, .inl (Ka1, 400, .inl f1891)), (Ad2, .inl (Ka2, 400, .inl f1893)), (Ad3, .inl (Ka3, 4000, .inr (.inl Fa3))), (Ad4, .inl (Ka4, 4000, .inl Fa4)), (Ad6, .inr (5, s1888)), (Ad5, .inr (13, Fs0))]) (w1 := []) hP hD [] [0, 1, 2, 3, 4, 5, 6] rfl rfl (by decide) (by decide) hk1 hFc hP1 hD1
    have hK := hK.sub (tys' := [(Ka0, .int), (Ka1, .int), (Ka2, .int), (Ka3, .long), (Ka4, .boolean)]) [0, 1, 2, 3, 4] rfl
    generalize H1 = H at hP hS ⊢
    have hP : va_P (dC, dI) vwCl [(Ad0, .inl (Ka0, 400, .inl f1889)), (Ad1, .inl (Ka1, 400, .inl f1891)), (Ad2, .inl (Ka2, 400, .inl f1893)), (Ad3, .inl (Ka3, 4000, .inr (.inl Fa3))), (Ad4, .inl (Ka4, 4000, .inl Fa4)), (Ad6, .inr (5, s1888)), (Ad5, .inr (13, Fs0))] H := hP
    have hD : va_D A [(Ad0, .inl (Ka0, 400, .inl f1889)), (Ad1, .inl (Ka1, 400, .inl f1891)), (Ad2, .inl (Ka2, 400, .inl f1893)), (Ad3, .inl (Ka3, 4000, .inr (.inl Fa3))), (Ad4, .inl (Ka4, 4000, .inl Fa4)), (Ad6, .inr (5, s1888)), (Ad5, .inr (13, Fs0))] := hD
    obtain ⟨c1923, er1924⟩ := hw
    have qer1924 := er1924.symm
    subst qer1924
    refine lv_istore (lv' := [(4, .int Va1), (3, .int 0), (0, .ref Ad6), (1, .int Va0), (2, .int Va1)]) hx hb dX2_create_66 hl (by decide) rfl (fun ls hl => ?_)
    refine lv_iconst (v := 0) hx hb dX2_create_68 (by decide) ?_
    refine lv_istore (lv' := [(5, .int 0), (4, .int Va1), (3, .int 0), (0, .ref Ad6), (1, .int Va0), (2, .int Va1)]) hx hb dX2_create_69 hl (by decide) rfl (fun ls hl => ?_)
    have HL1 : ∀ (n j1978 : Nat) (x1979 : Int32) (f1980 : Nat → Int64) (f1981 : Nat → Int32) (s1982 : List Value), x1979 = nI j1978 → 0 ≤ j1978 → j1978 ≤ 60 → 61 ≤ j1978 + n → ∀ (H : Heap) (locs : List Loc) (ls : Array Slot), va_P (dC, dI) vwCl [(Ad0, .inl (Ka0, 400, .inl f1889)), (Ad1, .inl (Ka1, 400, .inl f1891)), (Ad2, .inl (Ka2, 400, .inl f1893)), (Ad3, .inl (Ka3, 4000, .inr (.inl f1980))), (Ad4, .inl (Ka4, 4000, .inl f1981)), (Ad6, .inr (5, s1982)), (Ad5, .inr (13, Fs0))] H → va_D A [(Ad0, .inl (Ka0, 400, .inl f1889)), (Ad1, .inl (Ka1, 400, .inl f1891)), (Ad2, .inl (Ka2, 400, .inl f1893)), (Ad3, .inl (Ka3, 4000, .inr (.inl f1980))), (Ad4, .inl (Ka4, 4000, .inl f1981)), (Ad6, .inr (5, s1982)), (Ad5, .inr (13, Fs0))] → va_S A s.heap H locs → ow Fs1 s1982 14 [1, 2, 3] [(3, .int x1979), (0, .ref Ad5), (4, .ref Ad0), (5, .ref Ad1), (6, .ref Ad2), (7, .ref Ad3), (8, .ref Ad4)] → lv_has ls 7 [(5, .int x1979), (4, .int Va1), (3, .int 0), (0, .ref Ad6), (1, .int Va0), (2, .int Va1)] → W p l e (headSpec w_z_X2_create_1 ({ frames := 2, cells := 0, slots := 0, locals := 42 })).room s m ([.ref Ad6, .int Va0, .int Va1]).toArray below meth c H locs 0 0 (MQ below (va_Qi (fun (r : Int32) (u : (Nat → Int32) × (Nat → Int32) × (Nat → Int32) × (Nat → Int64) × (Nat → Int32) × List Value) => (¬ Va0 < 0 ∧ 0 ≤ Va0 ∧ ¬ Va0 < 20 ∧ r = 0 ∧ ow Fs1 (u.2.2.2.2.2) 14 [1, 2, 3] [(0, .ref Ad5), (4, .ref Ad0), (5, .ref Ad1), (6, .ref Ad2), (7, .ref Ad3), (8, .ref Ad4)] ∧ (u.1) (0 : Int32).toNatClampNeg = Va0 ∧ (u.2.1) (0 : Int32).toNatClampNeg = Va1 ∧ (u.2.2.1) (0 : Int32).toNatClampNeg = 0)) (fun (u : (Nat → Int32) × (Nat → Int32) × (Nat → Int32) × (Nat → Int64) × (Nat → Int32) × List Value) t => Wd dC dI [(Ka0, .int), (Ka1, .int), (Ka2, .int), (Ka3, .long), (Ka4, .boolean)] A [(Ad0, .inl (Ka0, 400, .inl ((u.1)))), (Ad1, .inl (Ka1, 400, .inl ((u.2.1)))), (Ad2, .inl (Ka2, 400, .inl ((u.2.2.1)))), (Ad3, .inl (Ka3, 4000, .inr (.inl ((u.2.2.2.1))))), (Ad4, .inl (Ka4, 4000, .inl ((u.2.2.2.2.1)))), (Ad5, .inr (13, Fs0)), (Ad6, .inr (5, (u.2.2.2.2.2)))] t) A) ([.ref Ad6, .int Va0, .int Va1]).toArray s 0 0 A) (F0 m 71 ls []) := by
      intro n
      induction n with
      | zero =>
        intro j1978 x1979 f1980 f1981 s1982 e1983 h1985 h1986 h1987
        exact absurd h1987 (by omega)
      | succ n ih =>
        intro j1978 x1979 f1980 f1981 s1982 e1983 h1985 h1986 h1987 H locs ls hP hD hS o_s1982 hl
        have t1984 : x1979.toInt = (j1978 : Int) := by rw [e1983]; exact nI_toInt (by omega)
        refine lv_iload hx hb dX2_create_71 (lv_at hl 0 rfl) ?_
        refine lv_iload hx hb dX2_create_73 (lv_at hl 1 rfl) ?_
        refine lv_icmp_ge (tgt := 140) hx hb dX2_create_75 (by decide) (fun c1988 => ?_) (fun c1988 => ?_)
        · skip
          refine lv_iload_n hx hb dX2_create_140 rfl (lv_at hl 2 rfl) ?_
          have hP9 := hP.sub (ws' := [(Ad0, .inl (Ka0, 400, .inl f1889)), (Ad1, .inl (Ka1, 400, .inl f1891)), (Ad2, .inl (Ka2, 400, .inl f1893)), (Ad3, .inl (Ka3, 4000, .inr (.inl f1980))), (Ad4, .inl (Ka4, 4000, .inl f1981)), (Ad5, .inr (13, Fs0)), (Ad6, .inr (5, s1982))]) [0, 1, 2, 3, 4, 6, 5] rfl
          have hD9 := hD.sub (ws' := [(Ad0, .inl (Ka0, 400, .inl f1889)), (Ad1, .inl (Ka1, 400, .inl f1891)), (Ad2, .inl (Ka2, 400, .inl f1893)), (Ad3, .inl (Ka3, 4000, .inr (.inl f1980))), (Ad4, .inl (Ka4, 4000, .inl f1981)), (Ad5, .inr (13, Fs0)), (Ad6, .inr (5, s1982))]) [0, 1, 2, 3, 4, 6, 5] (by decide) rfl
          have hK9 := hK.sub (tys' := [(Ka0, .int), (Ka1, .int), (Ka2, .int), (Ka3, .long), (Ka4, .boolean)]) [0, 1, 2, 3, 4] rfl
          exact W.iret (v := 0) hx hb hr (fun t ht hW => ⟨⟨0, (f1889, f1891, f1893, f1980, f1981, s1982), rfl, ⟨c1906, c1907, c1923, rfl, (ow_sub o_s1982 [1, 2, 3, 4, 5, 6] rfl), q1890, q1892, q1894⟩, by rw [ht]; exact hP9, va_K.moved hW.alike hK9, hD9⟩, hS.F ht⟩) hS.2.2 dX2_create_141
        · skip
          refine lv_aload_n hx hb dX2_create_78 rfl (lv_at hl 3 rfl) ?_
          refine va_get (D := (dC, dI)) (ci := 5) (v := .ref Ad5) (C := RX2) (T := TX2) (N := 14) hx hb hts (in_z_X2_create_1_X2) hown hK hP 5 rfl rfl 0 (by decide) (hts (.fieldLink RX2 9 "HeapWorks$Heap" "types" "LHeapWorks$Types;") (by decide +kernel)) (fun _ h9 => h9) (ow_at o_s1982 1 rfl) dX2_create_79 ?_
          refine lv_iload_n hx hb dX2_create_82 rfl (lv_at hl 4 rfl) ?_
          refine lv_iload hx hb dX2_create_83 (lv_at hl 0 rfl) ?_
          have hPc := hP.sub (ws' := []) [] rfl
          have hDc := hD.sub (ws' := []) [] (by decide) rfl
          have hKc := hK.sub (tys' := []) [] rfl
          have hFc := va_free (wc := []) hD hS hA [] rfl
          refine va_calli (va_runV (As := [.int Va0, .int x1979]) (rest := []) ⟨hx, hb, hml, hown, hts⟩ (z_X10_kindAt_1 l dC dI H.size Ad5 Va0 x1979  (by (try simp only [i_lt, i_le, i_eq, kc_0, kc_20] at gv_Va0 c1906 c1907 c1923); omega) (by (try simp only [i_lt, i_le, i_eq] at t1984 h1986 h1985 c1988 gv_Va1); omega)) (cwV 2 hts g_z_X2_create_1_z_X10_kindAt_1_82 rfl rfl rfl (by decide +kernel) ⟨Nat.le_of_ble_eq_true rfl, Nat.le_of_ble_eq_true rfl⟩) ⟨fun a U g mk q => by obtain ⟨q0, q1, qP, qK, qD⟩ := q; exact ⟨q0, q1, qP, va_K.moved (u := U) (U := U.calling g mk a) (Vm.Alike.refl U.vm) qK, qD⟩, va_recv hK hP (ci := 13) (q0 := 6) rfl rfl, fun U hU hW => ⟨rfl, by rw [hU], by rw [hU]; exact hPc, va_K.moved hW.alike hKc, hDc.weaken (fun _ _ _ _ => trivial)⟩⟩ rfl rfl hl.1 rfl (lv_room (Nat.le_of_ble_eq_true rfl)) dX2_create_85 ⟨Nat.le_of_ble_eq_true rfl, Nat.le_of_ble_eq_true rfl⟩) hS (fun q _ h => hFc q h) hFc (fun r1992 u t H1 locs ht hvm hw hB hz1 hk1 hS => ?_)
          obtain ⟨hP1, hK1, hD1⟩ := hB
          rw [ht] at hP1
          try dsimp only at hw
          obtain ⟨hP, hD⟩ := va_join (wr := [(Ad0, .inl (Ka0, 400, .inl f1889)), (Ad1, .inl (Ka1, 400, .inl f1891)), (Ad2, .inl (Ka2, 400, .inl f1893)), (Ad3, .inl (Ka3, 4000, .inr (.inl f1980))), (Ad4, .inl (Ka4, 4000, .inl f1981)), (Ad6, .inr (5, s1982)), (Ad5, .inr (13, Fs0))]) (w1 := []) hP hD [] [0, 1, 2, 3, 4, 5, 6] rfl rfl (by decide) (by decide) hk1 hFc hP1 hD1
          have hK := hK.sub (tys' := [(Ka0, .int), (Ka1, .int), (Ka2, .int), (Ka3, .long), (Ka4, .boolean)]) [0, 1, 2, 3, 4] rfl
          generalize H1 = H at hP hS ⊢
          have hP : va_P (dC, dI) vwCl [(Ad0, .inl (Ka0, 400, .inl f1889)), (Ad1, .inl (Ka1, 400, .inl f1891)), (Ad2, .inl (Ka2, 400, .inl f1893)), (Ad3, .inl (Ka3, 4000, .inr (.inl f1980))), (Ad4, .inl (Ka4, 4000, .inl f1981)), (Ad6, .inr (5, s1982)), (Ad5, .inr (13, Fs0))] H := hP
          have hD : va_D A [(Ad0, .inl (Ka0, 400, .inl f1889)), (Ad1, .inl (Ka1, 400, .inl f1891)), (Ad2, .inl (Ka2, 400, .inl f1893)), (Ad3, .inl (Ka3, 4000, .inr (.inl f1980))), (Ad4, .inl (Ka4, 4000, .inl f1981)), (Ad6, .inr (5, s1982)), (Ad5, .inr (13, Fs0))] := hD
          obtain ⟨c1993, er1994⟩ := hw
          subst er1994
          refine lv_istore (lv' := [(6, .int 5), (5, .int x1979), (4, .int Va1), (3, .int 0), (0, .ref Ad6), (1, .int Va0), (2, .int Va1)]) hx hb dX2_create_88 hl (by decide) rfl (fun ls hl => ?_)
          refine lv_aload_n hx hb dX2_create_90 rfl (lv_at hl 4 rfl) ?_
          refine va_get (D := (dC, dI)) (ci := 5) (v := .ref Ad4) (C := RX2) (T := TX2) (N := 14) hx hb hts (in_z_X2_create_1_X2) hown hK hP 5 rfl rfl 8 (by decide) (hts (.fieldLink RX2 29 "HeapWorks$Heap" "link" "[Z") (by decide +kernel)) (fun _ h9 => h9) (ow_at o_s1982 6 rfl) dX2_create_91 ?_
          refine lv_aload_n hx hb dX2_create_94 rfl (lv_at hl 4 rfl) ?_
          refine va_get (D := (dC, dI)) (ci := 5) (v := .int x1979) (C := RX2) (T := TX2) (N := 14) hx hb hts (in_z_X2_create_1_X2) hown hK hP 5 rfl rfl 3 (by decide) (hts (.fieldLink RX2 62 "HeapWorks$Heap" "slots" "I") (by decide +kernel)) (fun _ h9 => h9) (ow_at o_s1982 0 rfl) dX2_create_95 ?_
          refine lv_iload hx hb dX2_create_98 (lv_at hl 0 rfl) ?_
          refine lv_iconst (v := 5) hx hb dX2_create_100 (by decide) ?_
          refine lv_icmp_ne (tgt := 108) hx hb dX2_create_101 (by decide) (fun c1995 => absurd c1995 (by decide)) (fun c1995 => ?_)
          refine lv_iconst (v := 1) hx hb dX2_create_104 (by decide) ?_
          refine lv_goto (tgt := 109) hx hb dX2_create_105 (by decide) ?_
          refine va_zast hx hb hK hP hD hS 4 4 rfl rfl (by rw [vp_in_iff]; (try simp only [i_lt, i_le, i_eq] at t1984 h1986 h1985 c1988 gv_Va1); omega) dX2_create_109 (fun H locs hP hD hS => ?_)
          have hP : va_P (dC, dI) vwCl [(Ad0, .inl (Ka0, 400, .inl f1889)), (Ad1, .inl (Ka1, 400, .inl f1891)), (Ad2, .inl (Ka2, 400, .inl f1893)), (Ad3, .inl (Ka3, 4000, .inr (.inl f1980))), (Ad4, .inl (Ka4, 4000, .inl (upd f1981 (x1979 : Int32).toNatClampNeg (vp_nar .boolean 1)))), (Ad6, .inr (5, s1982)), (Ad5, .inr (13, Fs0))] H := hP
          have hD : va_D A [(Ad0, .inl (Ka0, 400, .inl f1889)), (Ad1, .inl (Ka1, 400, .inl f1891)), (Ad2, .inl (Ka2, 400, .inl f1893)), (Ad3, .inl (Ka3, 4000, .inr (.inl f1980))), (Ad4, .inl (Ka4, 4000, .inl (upd f1981 (x1979 : Int32).toNatClampNeg (vp_nar .boolean 1)))), (Ad6, .inr (5, s1982)), (Ad5, .inr (13, Fs0))] := hD
          have q1997 : (upd f1981 (x1979 : Int32).toNatClampNeg (vp_nar .boolean 1)) (x1979 : Int32).toNatClampNeg = 1 := (pk_us.trans (by decide))
          generalize upd f1981 (x1979 : Int32).toNatClampNeg (vp_nar .boolean 1) = f1996 at hP hD q1997
          refine lv_aload_n hx hb dX2_create_110 rfl (lv_at hl 4 rfl) ?_
          refine va_get (D := (dC, dI)) (ci := 5) (v := .ref Ad3) (C := RX2) (T := TX2) (N := 14) hx hb hts (in_z_X2_create_1_X2) hown hK hP 5 rfl rfl 7 (by decide) (hts (.fieldLink RX2 25 "HeapWorks$Heap" "value" "[J") (by decide +kernel)) (fun _ h9 => h9) (ow_at o_s1982 5 rfl) dX2_create_111 ?_
          refine lv_aload_n hx hb dX2_create_114 rfl (lv_at hl 4 rfl) ?_
          refine va_get (D := (dC, dI)) (ci := 5) (v := .int x1979) (C := RX2) (T := TX2) (N := 14) hx hb hts (in_z_X2_create_1_X2) hown hK hP 5 rfl rfl 3 (by decide) (hts (.fieldLink RX2 62 "HeapWorks$Heap" "slots" "I") (by decide +kernel)) (fun _ h9 => h9) (ow_at o_s1982 0 rfl) dX2_create_115 ?_
          refine lv_iload hx hb dX2_create_118 (lv_at hl 0 rfl) ?_
          have hPc := hP.sub (ws' := []) [] rfl
          have hDc := hD.sub (ws' := []) [] (by decide) rfl
          have hKc := hK.sub (tys' := []) [] rfl
          have hFc := va_free (wc := []) hD hS hA [] rfl
          refine va_calll (va_runS (As := [.int 5]) (rest := [.int x1979, .ref Ad3]) ⟨hx, hb, hml, hown, hts⟩ (z_X10_firstValue_1 l dC dI H.size   ) (va_cwS 1 hts g_z_X2_create_1_z_X10_firstValue_1_85 rfl rfl rfl (by decide +kernel) ⟨Nat.le_of_ble_eq_true rfl, Nat.le_of_ble_eq_true rfl⟩) ⟨fun a U g mk q => by obtain ⟨q0, q1, qP, qK, qD⟩ := q; exact ⟨q0, q1, qP, va_K.moved (u := U) (U := U.calling g mk a) (Vm.Alike.refl U.vm) qK, qD⟩, fun U hU hW => ⟨rfl, by rw [hU], by rw [hU]; exact hPc, va_K.moved hW.alike hKc, hDc.weaken (fun _ _ _ _ => trivial)⟩⟩ rfl rfl hl.1 rfl (lv_room (Nat.le_of_ble_eq_true rfl)) dX2_create_120 ⟨Nat.le_of_ble_eq_true rfl, Nat.le_of_ble_eq_true rfl⟩) hS (fun q _ h => hFc q h) hFc (fun r1999 u t H1 locs ht hvm hw hB hz1 hk1 hS => ?_)
          obtain ⟨hP1, hK1, hD1⟩ := hB
          rw [ht] at hP1
          try dsimp only at hw
          obtain ⟨hP, hD⟩ := va_join (wr := [(Ad0, .inl (Ka0, 400, .inl f1889)), (Ad1, .inl (Ka1, 400, .inl f1891)), (Ad2, .inl (Ka2, 400, .inl f1893)), (Ad3, .inl (Ka3, 4000, .inr (.inl f1980))), (Ad4, .inl (Ka4, 4000, .inl f1996)), (Ad6, .inr (5, s1982)), (Ad5, .inr (13, Fs0))]) (w1 := []) hP hD [] [0, 1, 2, 3, 4, 5, 6] rfl rfl (by decide) (by decide) hk1 hFc hP1 hD1
          have hK := hK.sub (tys' := [(Ka0, .int), (Ka1, .int), (Ka2, .int), (Ka3, .long), (Ka4, .boolean)]) [0, 1, 2, 3, 4] rfl
          generalize H1 = H at hP hS ⊢
          have hP : va_P (dC, dI) vwCl [(Ad0, .inl (Ka0, 400, .inl f1889)), (Ad1, .inl (Ka1, 400, .inl f1891)), (Ad2, .inl (Ka2, 400, .inl f1893)), (Ad3, .inl (Ka3, 4000, .inr (.inl f1980))), (Ad4, .inl (Ka4, 4000, .inl f1996)), (Ad6, .inr (5, s1982)), (Ad5, .inr (13, Fs0))] H := hP
          have hD : va_D A [(Ad0, .inl (Ka0, 400, .inl f1889)), (Ad1, .inl (Ka1, 400, .inl f1891)), (Ad2, .inl (Ka2, 400, .inl f1893)), (Ad3, .inl (Ka3, 4000, .inr (.inl f1980))), (Ad4, .inl (Ka4, 4000, .inl f1996)), (Ad6, .inr (5, s1982)), (Ad5, .inr (13, Fs0))] := hD
          have er2000 := hw
          subst er2000
          refine va_last hx hb hK hP hD hS 3 3 rfl rfl (by rw [vp_in_iff]; (try simp only [i_lt, i_le, i_eq] at t1984 h1986 h1985 c1988 gv_Va1); omega) dX2_create_123 (fun H locs hP hD hS => ?_)
          have hP : va_P (dC, dI) vwCl [(Ad0, .inl (Ka0, 400, .inl f1889)), (Ad1, .inl (Ka1, 400, .inl f1891)), (Ad2, .inl (Ka2, 400, .inl f1893)), (Ad3, .inl (Ka3, 4000, .inr (.inl (vp_updL f1980 (x1979 : Int32).toNatClampNeg (-1))))), (Ad4, .inl (Ka4, 4000, .inl f1996)), (Ad6, .inr (5, s1982)), (Ad5, .inr (13, Fs0))] H := hP
          have hD : va_D A [(Ad0, .inl (Ka0, 400, .inl f1889)), (Ad1, .inl (Ka1, 400, .inl f1891)), (Ad2, .inl (Ka2, 400, .inl f1893)), (Ad3, .inl (Ka3, 4000, .inr (.inl (vp_updL f1980 (x1979 : Int32).toNatClampNeg (-1))))), (Ad4, .inl (Ka4, 4000, .inl f1996)), (Ad6, .inr (5, s1982)), (Ad5, .inr (13, Fs0))] := hD
          have q2002 : (vp_updL f1980 (x1979 : Int32).toNatClampNeg (-1)) (x1979 : Int32).toNatClampNeg = (-1) := pk_uLs
          generalize vp_updL f1980 (x1979 : Int32).toNatClampNeg (-1) = f2001 at hP hD q2002
          refine lv_aload_n hx hb dX2_create_124 rfl (lv_at hl 4 rfl) ?_
          refine lv_dup hx hb dX2_create_125 rfl ?_
          refine va_get (D := (dC, dI)) (ci := 5) (v := .int x1979) (C := RX2) (T := TX2) (N := 14) hx hb hts (in_z_X2_create_1_X2) hown hK hP 5 rfl rfl 3 (by decide) (hts (.fieldLink RX2 62 "HeapWorks$Heap" "slots" "I") (by decide +kernel)) (fun _ h9 => h9) (ow_at o_s1982 0 rfl) dX2_create_126 ?_
          refine lv_iconst (v := 1) hx hb dX2_create_129 (by decide) ?_
          refine lv_iadd hx hb dX2_create_130  ?_
          refine lv_topi (fun x2003 ex2003 => ?_)
          have tx2003 : x2003.toInt = (x1979 : Int32).toInt + (1 : Int32).toInt := by rw [ex2003]; exact i_add (by have bd_x1979 := i_bd x1979; (try simp only [i_lt, i_le, i_eq, kc_1] at t1984 h1986 h1985 c1988 gv_Va1 ⊢); omega) (by have bd_x1979 := i_bd x1979; (try simp only [i_lt, i_le, i_eq, kc_1] at t1984 h1986 h1985 c1988 gv_Va1 ⊢); omega)
          refine va_put (D := (dC, dI)) (ci := 5) (v := .int x2003) (ty := .int) (C := RX2) (T := TX2) (N := 14) hx hb hts (in_z_X2_create_1_X2) tyX2 tyX2_ok nmX2 hown hK hP hD hS 5 rfl rfl 3 (by decide) (hts (.fieldLink RX2 62 "HeapWorks$Heap" "slots" "I") (by decide +kernel)) (fun _ h9 => h9) rfl (by decide +kernel) rfl rfl (by rw [o_s1982.2.1]; decide) dX2_create_131 (fun H locs hP hD hS => ?_)
          have hP : va_P (dC, dI) vwCl [(Ad0, .inl (Ka0, 400, .inl f1889)), (Ad1, .inl (Ka1, 400, .inl f1891)), (Ad2, .inl (Ka2, 400, .inl f1893)), (Ad3, .inl (Ka3, 4000, .inr (.inl f2001))), (Ad4, .inl (Ka4, 4000, .inl f1996)), (Ad6, .inr (5, (s1982.set 3 (.int x2003)))), (Ad5, .inr (13, Fs0))] H := hP
          have hD : va_D A [(Ad0, .inl (Ka0, 400, .inl f1889)), (Ad1, .inl (Ka1, 400, .inl f1891)), (Ad2, .inl (Ka2, 400, .inl f1893)), (Ad3, .inl (Ka3, 4000, .inr (.inl f2001))), (Ad4, .inl (Ka4, 4000, .inl f1996)), (Ad6, .inr (5, (s1982.set 3 (.int x2003)))), (Ad5, .inr (13, Fs0))] := hD
          have o_s2004 := ow_set o_s1982 3 (.int x2003) (by decide) (l' := [(3, .int x2003), (0, .ref Ad5), (4, .ref Ad0), (5, .ref Ad1), (6, .ref Ad2), (7, .ref Ad3), (8, .ref Ad4)]) (w' := [3, 1, 2]) rfl rfl
          generalize (s1982.set 3 (.int x2003)) = s2004 at hP hD o_s2004
          obtain ⟨x2005, ex2005⟩ : ∃ y : Int32, y = x1979 + 1 := ⟨_, rfl⟩
          refine lv_iinc (v := x2005) (lv' := [(5, .int x2005), (6, .int 5), (4, .int Va1), (3, .int 0), (0, .ref Ad6), (1, .int Va0), (2, .int Va1)]) hx hb dX2_create_134 hl (k := 1) rfl (by rw [ex2005]; rfl) (by decide) rfl (fun ls hl => ?_)
          refine lv_goto (tgt := 71) hx hb dX2_create_137 (by decide) ?_
          exact ih (j1978 + 1) x2005 f2001 f1996 s2004 (by rw [ex2005, e1983]; exact nI_1 _) (by omega) (by (try simp only [i_lt, i_le, i_eq, kc_1] at t1984 h1986 h1985 c1988 tx2003 gv_Va1); omega) (by omega) _ _ _ (hP.sub [0, 1, 2, 3, 4, 5, 6] rfl) (hD.sub [0, 1, 2, 3, 4, 5, 6] (by decide) rfl) hS (by have h9 : x2003 = x2005 := ex2003.trans ex2005.symm; rw [← h9]; exact (ow_w (ow_sub o_s2004 [0, 1, 2, 3, 4, 5, 6] rfl) (by decide))) (lv_sub hl [0, 2, 3, 4, 5, 6] rfl)
    exact HL1 61 0 (0) Fa3 Fa4 s1888 (by decide) (by omega) (by omega) (by omega) _ _ _ hP hD hS (ow_w (ow_sub o_s1888 [3, 2, 4, 5, 6, 7, 8] rfl) (by decide)) hl

def l_x_make : List Cond := [.fieldLink RX11 19 "HeapWorks" "types" "LHeapWorks$Types;", .methodLink RX11 144 yX10_isType, .instanceMethod yX10_isType, .selects RX10 yX10_isType yX10_isType, .initialized RX10, .classLink RX11 127 "java/lang/IllegalArgumentException", .initialized "java/lang/IllegalArgumentException", .methodLink RX11 206 yX10_isArray, .static yX10_isArray, .fieldLink RX11 28 "HeapWorks" "heap" "LHeapWorks$Heap;", .methodLink RX11 209 yX10_slotsOf, .instanceMethod yX10_slotsOf, .selects RX10 yX10_slotsOf yX10_slotsOf, .methodLink RX11 212 yX2_hasRoom, .instanceMethod yX2_hasRoom, .selects RX2 yX2_hasRoom yX2_hasRoom, .initialized RX2, .classLink RX11 137 "java/lang/IllegalStateException", .initialized "java/lang/IllegalStateException", .methodLink RX11 215 yX2_create, .instanceMethod yX2_create, .selects RX2 yX2_create yX2_create, .code yX10_isType cX10_isType 2 (some .boolean), .methodLink RX10 69 yX10_isClass, .instanceMethod yX10_isClass, .selects RX10 yX10_isClass yX10_isClass, .code yX10_isClass cX10_isClass 2 (some .boolean), .fieldLink RX10 65 "HeapWorks$Types" "count" "I", .code yX10_isArray cX10_isArray 1 (some .boolean), .code yX10_slotsOf cX10_slotsOf 3 (some .int), .methodLink RX10 86 yX10_isArray, .code yX2_hasRoom cX2_hasRoom 3 (some .boolean), .fieldLink RX2 47 "HeapWorks$Heap" "made" "I", .fieldLink RX2 62 "HeapWorks$Heap" "slots" "I", .code yX2_create cX2_create 7 (some .int), .fieldLink RX2 75 "HeapWorks$Heap" "there" "I", .fieldLink RX2 15 "HeapWorks$Heap" "type" "[I", .fieldLink RX2 19 "HeapWorks$Heap" "length" "[I", .fieldLink RX2 22 "HeapWorks$Heap" "first" "[I", .fieldLink RX2 9 "HeapWorks$Heap" "types" "LHeapWorks$Types;", .methodLink RX2 78 yX10_use, .instanceMethod yX10_use, .selects RX10 yX10_use yX10_use, .methodLink RX2 51 yX10_slotsOf, .methodLink RX2 82 yX10_kindAt, .instanceMethod yX10_kindAt, .selects RX10 yX10_kindAt yX10_kindAt, .fieldLink RX2 29 "HeapWorks$Heap" "link" "[Z", .fieldLink RX2 25 "HeapWorks$Heap" "value" "[J", .methodLink RX2 85 yX10_firstValue, .static yX10_firstValue, .code yX10_use cX10_use 2 none, .code yX10_kindAt cX10_kindAt 3 (some .int), .code yX10_firstValue cX10_firstValue 1 (some .long), .constantLong RX10 96 (-1)]
def w_x_make : List Cond := .code yX11_make cX11_make 4 (some .int) :: (l_x_make ++ ((wsX110 ++ (((vx_at0 RX11 129 "java/lang/IllegalArgumentException" ["java/lang/RuntimeException", "java/lang/Exception"]).filter goodWord) ++ (((vx_at0 RX11 139 "java/lang/IllegalStateException" ["java/lang/RuntimeException", "java/lang/Exception"]).filter goodWord) ++ (wsX100 ++ wsX20))))))
theorem in_x_make_X11 : ∀ w ∈ wsX110, w ∈ w_x_make := fun w h => List.mem_cons_of_mem _ (List.mem_append_right _ (List.mem_append_left _ h))
theorem in_x_make_at0_X11_129 : ∀ w ∈ ((vx_at0 RX11 129 "java/lang/IllegalArgumentException" ["java/lang/RuntimeException", "java/lang/Exception"]).filter goodWord), w ∈ w_x_make := fun w h => List.mem_cons_of_mem _ (List.mem_append_right _ (List.mem_append_right _ (List.mem_append_left _ h)))
theorem in_x_make_at0_X11_139 : ∀ w ∈ ((vx_at0 RX11 139 "java/lang/IllegalStateException" ["java/lang/RuntimeException", "java/lang/Exception"]).filter goodWord), w ∈ w_x_make := fun w h => List.mem_cons_of_mem _ (List.mem_append_right _ (List.mem_append_right _ (List.mem_append_right _ (List.mem_append_left _ h))))
theorem in_x_make_X10 : ∀ w ∈ wsX100, w ∈ w_x_make := fun w h => List.mem_cons_of_mem _ (List.mem_append_right _ (List.mem_append_right _ (List.mem_append_right _ (List.mem_append_right _ (List.mem_append_left _ h)))))
theorem in_x_make_X2 : ∀ w ∈ wsX20, w ∈ w_x_make := fun w h => List.mem_cons_of_mem _ (List.mem_append_right _ (List.mem_append_right _ (List.mem_append_right _ (List.mem_append_right _ (List.mem_append_right _ (h))))))
theorem g_x_make_z_X10_isType_144 : GoodIn w_x_make (wsV RX11 144 RX10 yX10_isType w_z_X10_isType) := goodIn_app (goodIn_sub (by decide +kernel) (by decide +kernel)) (goodIn_ca (goodIn_sub (by decide +kernel) (by decide +kernel)) (goodIn_in in_x_make_X10 gd_X10))
theorem g_x_make_z_X10_isArray_206 : GoodIn w_x_make (va_wsS RX11 206 yX10_isArray w_z_X10_isArray) := goodIn_app (goodIn_sub (by decide +kernel) (by decide +kernel)) (goodIn_sub (by decide +kernel) (by decide +kernel))
theorem g_x_make_z_X10_slotsOf_209 : GoodIn w_x_make (wsV RX11 209 RX10 yX10_slotsOf w_z_X10_slotsOf) := goodIn_app (goodIn_sub (by decide +kernel) (by decide +kernel)) (goodIn_sub (by decide +kernel) (by decide +kernel))
theorem g_x_make_z_X2_hasRoom_212 : GoodIn w_x_make (wsV RX11 212 RX2 yX2_hasRoom w_z_X2_hasRoom) := goodIn_app (goodIn_sub (by decide +kernel) (by decide +kernel)) (goodIn_ca (goodIn_sub (by decide +kernel) (by decide +kernel)) (goodIn_in in_x_make_X2 gd_X2))
theorem g_x_make_z_X2_create_215 : GoodIn w_x_make (wsV RX11 215 RX2 yX2_create w_z_X2_create) := goodIn_app (goodIn_sub (by decide +kernel) (by decide +kernel)) (goodIn_ca (goodIn_sub (by decide +kernel) (by decide +kernel)) (goodIn_app (goodIn_in in_x_make_X2 gd_X2) (goodIn_in in_x_make_X10 gd_X10)))
theorem g_x_make_z_X10_slotsOf_1_209 : GoodIn w_x_make (wsV RX11 209 RX10 yX10_slotsOf w_z_X10_slotsOf_1) := goodIn_app (goodIn_sub (by decide +kernel) (by decide +kernel)) (goodIn_sub (by decide +kernel) (by decide +kernel))
theorem g_x_make_z_X2_create_1_215 : GoodIn w_x_make (wsV RX11 215 RX2 yX2_create w_z_X2_create_1) := goodIn_app (goodIn_sub (by decide +kernel) (by decide +kernel)) (goodIn_ca (goodIn_sub (by decide +kernel) (by decide +kernel)) (goodIn_app (goodIn_in in_x_make_X2 gd_X2) (goodIn_in in_x_make_X10 gd_X10)))
set_option maxHeartbeats 4000000 in
set_option maxRecDepth 100000 in
theorem x_make (l : Launch) (dC : Nat → ClassId) (dI : Nat → Nat → Nat) (sz : Nat) (aX : Nat) (fsX : List Value) (aY : Nat) (fsY : List Value) (aH : Nat) (fsHe : List Value) (q1 : Nat) (f1 : Nat → Int32) (k1 : ClassId) (q2 : Nat) (f2 : Nat → Int32) (k2 : ClassId) (q3 : Nat) (f3 : Nat → Int32) (k3 : ClassId) (q4 : Nat) (f4 : Nat → Int64) (k4 : ClassId) (q5 : Nat) (f5 : Nat → Int32) (k5 : ClassId) (p0 : Int32) (p1 : Int32) (k_fsX : fh fsX 18 [(1, .ref aY), (2, .ref aH)]) (k_fsY : fh fsY 18 [(0, .int 0)]) (k_fsHe : fh fsHe 14 [(0, .ref aY), (1, .int 0), (2, .int 0), (3, .int 0), (4, .ref q1), (5, .ref q2), (6, .ref q3), (7, .ref q4), (8, .ref q5)]) (hst : l.stackTraces = false)  : vx_Met l yX11_make w_x_make ({ frames := 7, cells := 1, slots := 6, locals := 140 }) (va_Pc [.ref aX, .int p0, .int p1] (fun U => U.heap.size = sz ∧ Zz (va_A [(aX, .inr (14, fsX)), (aY, .inr (13, fsY)), (aH, .inr (5, fsHe)), (q1, .inl (k1, 400, .inl f1)), (q2, .inl (k2, 400, .inl f2)), (q3, .inl (k3, 400, .inl f3)), (q4, .inl (k4, 4000, .inr (.inl f4))), (q5, .inl (k5, 4000, .inl f5))] sz) U ∧ Wd dC dI [(k1, .int), (k2, .int), (k3, .int), (k4, .long), (k5, .boolean)] (fun _ => True) [(aX, .inr (14, fsX)), (aY, .inr (13, fsY)), (aH, .inr (5, fsHe)), (q1, .inl (k1, 400, .inl f1)), (q2, .inl (k2, 400, .inl f2)), (q3, .inl (k3, 400, .inl f3)), (q4, .inl (k4, 4000, .inr (.inl f4))), (q5, .inl (k5, 4000, .inl f5))] U)) (va_Qi (fun (r : Int32) (u : List Value × (Nat → Int32) × (Nat → Int32) × (Nat → Int32) × (Nat → Int64) × (Nat → Int32)) => (¬ p0 < 0 ∧ 0 ≤ p0 ∧ ¬ p0 < 20 ∧ p0 ≤ 24 ∧ ¬ p0 < 20 ∧ ¬ p1 < 0 ∧ p1 ≤ 60 ∧ ¬ p0 < 20 ∧ ¬ p0 < 20 ∧ ¬ p0 < 0 ∧ 0 ≤ p0 ∧ ¬ p0 < 20 ∧ r = 0 ∧ ow fsHe (u.1) 14 [1, 2, 3] [(0, .ref aY), (4, .ref q1), (5, .ref q2), (6, .ref q3), (7, .ref q4), (8, .ref q5), (0, .ref aY), (4, .ref q1), (5, .ref q2), (6, .ref q3), (7, .ref q4), (8, .ref q5)] ∧ (u.2.1) (0 : Int32).toNatClampNeg = p0 ∧ (u.2.2.1) (0 : Int32).toNatClampNeg = p1 ∧ (u.2.2.2.1) (0 : Int32).toNatClampNeg = 0) ∨ (¬ p0 < 0 ∧ 0 ≤ p0 ∧ ¬ p0 < 20 ∧ ¬ p0 ≤ 24 ∧ p0 = 29 ∧ ¬ p0 < 20 ∧ ¬ p1 < 0 ∧ p1 ≤ 60 ∧ ¬ p0 < 20 ∧ ¬ p0 < 20 ∧ ¬ p0 < 0 ∧ 0 ≤ p0 ∧ ¬ p0 < 20 ∧ r = 0 ∧ ow fsHe (u.1) 14 [1, 2, 3] [(0, .ref aY), (4, .ref q1), (5, .ref q2), (6, .ref q3), (7, .ref q4), (8, .ref q5), (0, .ref aY), (4, .ref q1), (5, .ref q2), (6, .ref q3), (7, .ref q4), (8, .ref q5)] ∧ (u.2.1) (0 : Int32).toNatClampNeg = p0 ∧ (u.2.2.1) (0 : Int32).toNatClampNeg = p1 ∧ (u.2.2.2.1) (0 : Int32).toNatClampNeg = 0)) (fun (u : List Value × (Nat → Int32) × (Nat → Int32) × (Nat → Int32) × (Nat → Int64) × (Nat → Int32)) t => Wd dC dI [(k1, .int), (k2, .int), (k3, .int), (k4, .long), (k5, .boolean)] (va_A [(aX, .inr (14, fsX)), (aY, .inr (13, fsY)), (aH, .inr (5, fsHe)), (q1, .inl (k1, 400, .inl f1)), (q2, .inl (k2, 400, .inl f2)), (q3, .inl (k3, 400, .inl f3)), (q4, .inl (k4, 4000, .inr (.inl f4))), (q5, .inl (k5, 4000, .inl f5))] sz) [(aX, .inr (14, fsX)), (aY, .inr (13, fsY)), (aH, .inr (5, (u.1))), (q1, .inl (k1, 400, .inl ((u.2.1)))), (q2, .inl (k2, 400, .inl ((u.2.2.1)))), (q3, .inl (k3, 400, .inl ((u.2.2.2.1)))), (q4, .inl (k4, 4000, .inr (.inl ((u.2.2.2.2.1))))), (q5, .inl (k5, 4000, .inl ((u.2.2.2.2.2))))] t) (va_A [(aX, .inr (14, fsX)), (aY, .inr (13, fsY)), (aH, .inr (5, fsHe)), (q1, .inl (k1, 400, .inl f1)), (q2, .inl (k2, 400, .inl f2)), (q3, .inl (k3, 400, .inl f3)), (q4, .inl (k4, 4000, .inr (.inl f4))), (q5, .inl (k5, 4000, .inl f5))] sz)) (vx_X (fun _ : Unit => True) (fun E _ _ => (E = "java/lang/IllegalArgumentException" ∧ p0 < 0 ∧ p0 < 20 ∧ ¬ p0 = 29 ∧ p0 < 30) ∨ (E = "java/lang/IllegalArgumentException" ∧ ¬ p0 < 0 ∧ 0 ≤ p0 ∧ p0 < 20 ∧ ¬ p0 = 29 ∧ p0 < 30) ∨ (E = "java/lang/IllegalArgumentException" ∧ ¬ p0 < 0 ∧ 0 ≤ p0 ∧ ¬ p0 < 20 ∧ p0 ≤ 24 ∧ ¬ p0 < 20 ∧ p1 < 0) ∨ (E = "java/lang/IllegalStateException" ∧ ¬ p0 < 0 ∧ 0 ≤ p0 ∧ ¬ p0 < 20 ∧ p0 ≤ 24 ∧ ¬ p0 < 20 ∧ ¬ p1 < 0 ∧ p1 ≤ 60 ∧ ¬ p0 < 20 ∧ ¬ p0 < 20) ∨ (E = "java/lang/IllegalArgumentException" ∧ ¬ p0 < 0 ∧ 0 ≤ p0 ∧ ¬ p0 < 20 ∧ p0 ≤ 24 ∧ ¬ p0 < 20 ∧ ¬ p1 < 0 ∧ ¬ p1 ≤ 60) ∨ (E = "java/lang/IllegalArgumentException" ∧ ¬ p0 < 0 ∧ 0 ≤ p0 ∧ ¬ p0 < 20 ∧ ¬ p0 ≤ 24 ∧ p0 = 29 ∧ ¬ p0 < 20 ∧ p1 < 0) ∨ (E = "java/lang/IllegalStateException" ∧ ¬ p0 < 0 ∧ 0 ≤ p0 ∧ ¬ p0 < 20 ∧ ¬ p0 ≤ 24 ∧ p0 = 29 ∧ ¬ p0 < 20 ∧ ¬ p1 < 0 ∧ p1 ≤ 60 ∧ ¬ p0 < 20 ∧ ¬ p0 < 20) ∨ (E = "java/lang/IllegalArgumentException" ∧ ¬ p0 < 0 ∧ 0 ≤ p0 ∧ ¬ p0 < 20 ∧ ¬ p0 ≤ 24 ∧ p0 = 29 ∧ ¬ p0 < 20 ∧ ¬ p1 < 0 ∧ ¬ p1 ≤ 60) ∨ (E = "java/lang/IllegalArgumentException" ∧ ¬ p0 < 0 ∧ 0 ≤ p0 ∧ ¬ p0 < 20 ∧ ¬ p0 ≤ 24 ∧ ¬ p0 = 29 ∧ p0 < 30) ∨ (E = "java/lang/IllegalArgumentException" ∧ ¬ p0 < 0 ∧ 0 ≤ p0 ∧ ¬ p0 < 20 ∧ ¬ p0 ≤ 24 ∧ ¬ p0 = 29 ∧ ¬ p0 < 30)) (va_A [(aX, .inr (14, fsX)), (aY, .inr (13, fsY)), (aH, .inr (5, fsHe)), (q1, .inl (k1, 400, .inl f1)), (q2, .inl (k2, 400, .inl f2)), (q3, .inl (k3, 400, .inl f3)), (q4, .inl (k4, 4000, .inr (.inl f4))), (q5, .inl (k5, 4000, .inl f5))] sz)) 1 6 (va_A [(aX, .inr (14, fsX)), (aY, .inr (13, fsY)), (aH, .inr (5, fsHe)), (q1, .inl (k1, 400, .inl f1)), (q2, .inl (k2, 400, .inl f2)), (q3, .inl (k3, 400, .inl f3)), (q4, .inl (k4, 4000, .inr (.inl f4))), (q5, .inl (k5, 4000, .inl f5))] sz) := by
  refine vx_ofW (cc := cX11_make) (maxL := 4) (ret := (some .int)) (by decide) rfl ?_
  intro p e s m args below meth c s₁ B hml htab hv
  obtain ⟨rfl, hsz, hZ, hP, hK, hD0⟩ := hv
  have hx := B.exec
  have hb := B.bytes
  have hr := B.returns
  have hts := atoms_spec (ws := w_x_make) B.pre
  have hown : s.vm.findClass RX11 = some m.cls := findClass_of_methodNamed B.named
  have hlocks := B.notSynchronized
  subst hsz
  have hD := hD0.self (sz := s.heap.size)
  generalize hAe : va_A [(aX, .inr (14, fsX)), (aY, .inr (13, fsY)), (aH, .inr (5, fsHe)), (q1, .inl (k1, 400, .inl f1)), (q2, .inl (k2, 400, .inl f2)), (q3, .inl (k3, 400, .inl f3)), (q4, .inl (k4, 4000, .inr (.inl f4))), (q5, .inl (k5, 4000, .inl f5))] s.heap.size = A at hD hZ ⊢
  have hA : ∀ q : Nat, s.heap.size ≤ q → A q := fun q h => by rw [← hAe]; exact Or.inr h
  have hS : va_S A s.heap s.heap [] := va_S.rf
  have hl := lv_entry ([.ref aX, .int p0, .int p1]) (n := 4) (Nat.le_of_ble_eq_true rfl)
  rw [lg_entry_eq]
  generalize (lg_sl ([.ref aX, .int p0, .int p1]) ++ List.replicate (4 - (lg_sl ([.ref aX, .int p0, .int p1])).length) Slot.unset).toArray = ls at hl ⊢
  have hl : lv_has ls 4 [(0, .ref aX), (1, .int p0), (2, .int p1)] := hl
  have o_fsX := ow_0 k_fsX
  have o_fsY := ow_0 k_fsY
  have o_fsHe := ow_0 k_fsHe
  refine lv_aload_n hx hb dX11_make_0 rfl (lv_at hl 0 rfl) ?_
  refine va_get (D := (dC, dI)) (ci := 14) (v := .ref aY) (C := RX11) (T := TX11) (N := 18) hx hb hts (in_x_make_X11) hown hK hP 0 rfl rfl 1 (by decide) (hts (.fieldLink RX11 19 "HeapWorks" "types" "LHeapWorks$Types;") (by decide +kernel)) (fun _ h9 => h9) (ow_at o_fsX 0 rfl) dX11_make_1 ?_
  refine lv_iload_n hx hb dX11_make_4 rfl (lv_at hl 1 rfl) ?_
  have hPc := hP.sub (ws' := [(aY, .inr (13, fsY))]) [1] rfl
  have hDc := hD.sub (ws' := [(aY, .inr (13, fsY))]) [1] (by decide) rfl
  have hKc := hK.sub (tys' := []) [] rfl
  have hFc := va_free (wc := [(aY, .inr (13, fsY))]) hD hS hA [1] rfl
  refine va_calli (va_runV (As := [.int p0]) (rest := []) ⟨hx, hb, hml, hown, hts⟩ (z_X10_isType l dC dI s.heap.size aY fsY p0 (fh_sub o_fsY.2 [0] rfl) ) (cwV 1 hts g_x_make_z_X10_isType_144 rfl rfl rfl (by decide +kernel) ⟨Nat.le_of_ble_eq_true rfl, Nat.le_of_ble_eq_true rfl⟩) ⟨fun a U g mk q => by obtain ⟨q0, q1, qP, qK, qD⟩ := q; exact ⟨q0, q1, qP, va_K.moved (u := U) (U := U.calling g mk a) (Vm.Alike.refl U.vm) qK, qD⟩, va_recv hK hP (ci := 13) (q0 := 1) rfl rfl, fun U hU hW => ⟨rfl, by rw [hU], by rw [hU]; exact hPc, va_K.moved hW.alike hKc, hDc.weaken (fun _ _ _ _ => trivial)⟩⟩ rfl rfl hl.1 rfl (lv_room (Nat.le_of_ble_eq_true rfl)) dX11_make_5 ⟨Nat.le_of_ble_eq_true rfl, Nat.le_of_ble_eq_true rfl⟩) hS (fun q _ h => hFc q h) hFc (fun r2051 u t H1 locs ht hvm hw hB hz1 hk1 hS => ?_)
  obtain ⟨hP1, hK1, hD1⟩ := hB
  rw [ht] at hP1
  try dsimp only at hw
  obtain ⟨hP, hD⟩ := va_join (wr := [(aX, .inr (14, fsX)), (aH, .inr (5, fsHe)), (q1, .inl (k1, 400, .inl f1)), (q2, .inl (k2, 400, .inl f2)), (q3, .inl (k3, 400, .inl f3)), (q4, .inl (k4, 4000, .inr (.inl f4))), (q5, .inl (k5, 4000, .inl f5))]) (w1 := [(aY, .inr (13, fsY))]) hP hD [1] [0, 2, 3, 4, 5, 6, 7] rfl rfl (by decide) (by decide) hk1 hFc hP1 hD1
  have hK := hK.sub (tys' := [(k1, .int), (k2, .int), (k3, .int), (k4, .long), (k5, .boolean)]) [0, 1, 2, 3, 4] rfl
  generalize H1 = H at hP hS ⊢
  have hP : va_P (dC, dI) vwCl [(aX, .inr (14, fsX)), (aH, .inr (5, fsHe)), (q1, .inl (k1, 400, .inl f1)), (q2, .inl (k2, 400, .inl f2)), (q3, .inl (k3, 400, .inl f3)), (q4, .inl (k4, 4000, .inr (.inl f4))), (q5, .inl (k5, 4000, .inl f5)), (aY, .inr (13, fsY))] H := hP
  have hD : va_D A [(aX, .inr (14, fsX)), (aH, .inr (5, fsHe)), (q1, .inl (k1, 400, .inl f1)), (q2, .inl (k2, 400, .inl f2)), (q3, .inl (k3, 400, .inl f3)), (q4, .inl (k4, 4000, .inr (.inl f4))), (q5, .inl (k5, 4000, .inl f5)), (aY, .inr (13, fsY))] := hD
  rcases hw with ⟨c2052, c2053, c2054, c2055, er2056⟩ | ⟨c2057, c2058, c2059, c2060, c2061, er2062⟩ | ⟨c2063, c2064, c2065, c2066, er2067⟩ | ⟨c2068, c2069, c2070, c2071, c2072, er2073⟩ | ⟨c2074, c2075, c2076, c2077, c2078, c2079, er2080⟩ | ⟨c2081, c2082, c2083, c2084, c2085, c2086, er2087⟩
  · skip
    subst er2056
    refine lv_if_eq (tgt := 28) hx hb dX11_make_8 (by decide) (fun c2088 => ?_) (fun c2088 => absurd c2088 (by decide))
    exact vx_throw0 (names := ["java/lang/RuntimeException", "java/lang/Exception"]) hx hb hst hown (by decide +kernel) (by decide +kernel) (hts (.classLink RX11 127 "java/lang/IllegalArgumentException") (by decide +kernel)) (hts (.initialized "java/lang/IllegalArgumentException") (by decide +kernel)) (vx_hat (B := xB "java/lang/IllegalArgumentException") (fun w h => hts w (in_x_make_at0_X11_129 w h)) (by decide +kernel) (Zz_xB hZ (by decide))) (by decide +kernel) hZ.1 hZ.2.1 hS (hl.1.trans hml.symm) dX11_make_28 dX11_make_31 dX11_make_32 dX11_make_35 (fun x h => (htab x h).elim) (by decide) (Nat.le_of_ble_eq_true rfl) (Nat.le_of_ble_eq_true rfl) (Nat.le_of_ble_eq_true rfl) hlocks (fun t _ h1 h2 => ⟨(), trivial, (Or.inl ⟨rfl, c2052, c2053, c2054, c2055⟩), xx_F hS h1 h2⟩) hS.2.2 (by decide) (by decide)
  · skip
    subst er2062
    refine lv_if_eq (tgt := 28) hx hb dX11_make_8 (by decide) (fun c2089 => ?_) (fun c2089 => absurd c2089 (by decide))
    exact vx_throw0 (names := ["java/lang/RuntimeException", "java/lang/Exception"]) hx hb hst hown (by decide +kernel) (by decide +kernel) (hts (.classLink RX11 127 "java/lang/IllegalArgumentException") (by decide +kernel)) (hts (.initialized "java/lang/IllegalArgumentException") (by decide +kernel)) (vx_hat (B := xB "java/lang/IllegalArgumentException") (fun w h => hts w (in_x_make_at0_X11_129 w h)) (by decide +kernel) (Zz_xB hZ (by decide))) (by decide +kernel) hZ.1 hZ.2.1 hS (hl.1.trans hml.symm) dX11_make_28 dX11_make_31 dX11_make_32 dX11_make_35 (fun x h => (htab x h).elim) (by decide) (Nat.le_of_ble_eq_true rfl) (Nat.le_of_ble_eq_true rfl) (Nat.le_of_ble_eq_true rfl) hlocks (fun t _ h1 h2 => ⟨(), trivial, (Or.inr (Or.inl ⟨rfl, c2057, c2058, c2059, c2060, c2061⟩)), xx_F hS h1 h2⟩) hS.2.2 (by decide) (by decide)
  · skip
    subst er2067
    refine lv_if_eq (tgt := 28) hx hb dX11_make_8 (by decide) (fun c2090 => absurd c2090 (by decide)) (fun c2090 => ?_)
    refine lv_iload_n hx hb dX11_make_11 rfl (lv_at hl 1 rfl) ?_
    have hPc := hP.sub (ws' := []) [] rfl
    have hDc := hD.sub (ws' := []) [] (by decide) rfl
    have hKc := hK.sub (tys' := []) [] rfl
    have hFc := va_free (wc := []) hD hS hA [] rfl
    refine va_calli (va_runS (As := [.int p0]) (rest := []) ⟨hx, hb, hml, hown, hts⟩ (z_X10_isArray l dC dI H.size p0  ) (va_cwS 1 hts g_x_make_z_X10_isArray_206 rfl rfl rfl (by decide +kernel) ⟨Nat.le_of_ble_eq_true rfl, Nat.le_of_ble_eq_true rfl⟩) ⟨fun a U g mk q => by obtain ⟨q0, q1, qP, qK, qD⟩ := q; exact ⟨q0, q1, qP, va_K.moved (u := U) (U := U.calling g mk a) (Vm.Alike.refl U.vm) qK, qD⟩, fun U hU hW => ⟨rfl, by rw [hU], by rw [hU]; exact hPc, va_K.moved hW.alike hKc, hDc.weaken (fun _ _ _ _ => trivial)⟩⟩ rfl rfl hl.1 rfl (lv_room (Nat.le_of_ble_eq_true rfl)) dX11_make_12 ⟨Nat.le_of_ble_eq_true rfl, Nat.le_of_ble_eq_true rfl⟩) hS (fun q _ h => hFc q h) hFc (fun r2092 u t H1 locs ht hvm hw hB hz1 hk1 hS => ?_)
    obtain ⟨hP1, hK1, hD1⟩ := hB
    rw [ht] at hP1
    try dsimp only at hw
    obtain ⟨hP, hD⟩ := va_join (wr := [(aX, .inr (14, fsX)), (aH, .inr (5, fsHe)), (q1, .inl (k1, 400, .inl f1)), (q2, .inl (k2, 400, .inl f2)), (q3, .inl (k3, 400, .inl f3)), (q4, .inl (k4, 4000, .inr (.inl f4))), (q5, .inl (k5, 4000, .inl f5)), (aY, .inr (13, fsY))]) (w1 := []) hP hD [] [0, 1, 2, 3, 4, 5, 6, 7] rfl rfl (by decide) (by decide) hk1 hFc hP1 hD1
    have hK := hK.sub (tys' := [(k1, .int), (k2, .int), (k3, .int), (k4, .long), (k5, .boolean)]) [0, 1, 2, 3, 4] rfl
    generalize H1 = H at hP hS ⊢
    have hP : va_P (dC, dI) vwCl [(aX, .inr (14, fsX)), (aH, .inr (5, fsHe)), (q1, .inl (k1, 400, .inl f1)), (q2, .inl (k2, 400, .inl f2)), (q3, .inl (k3, 400, .inl f3)), (q4, .inl (k4, 4000, .inr (.inl f4))), (q5, .inl (k5, 4000, .inl f5)), (aY, .inr (13, fsY))] H := hP
    have hD : va_D A [(aX, .inr (14, fsX)), (aH, .inr (5, fsHe)), (q1, .inl (k1, 400, .inl f1)), (q2, .inl (k2, 400, .inl f2)), (q3, .inl (k3, 400, .inl f3)), (q4, .inl (k4, 4000, .inr (.inl f4))), (q5, .inl (k5, 4000, .inl f5)), (aY, .inr (13, fsY))] := hD
    rcases hw with ⟨c2093, er2094⟩ | ⟨c2095, er2096⟩
    · exact (by exfalso; (try simp only [i_lt, i_le, i_eq, kc_0, kc_20, kc_24] at c2063 c2064 c2065 c2066 c2093); omega)
    · skip
      subst er2096
      refine lv_if_eq (tgt := 36) hx hb dX11_make_15 (by decide) (fun c2097 => absurd c2097 (by decide)) (fun c2097 => ?_)
      refine lv_iload_n hx hb dX11_make_18 rfl (lv_at hl 2 rfl) ?_
      refine lv_if_lt (tgt := 28) hx hb dX11_make_19 (by decide) (fun c2098 => ?_) (fun c2098 => ?_)
      · skip
        exact vx_throw0 (names := ["java/lang/RuntimeException", "java/lang/Exception"]) hx hb hst hown (by decide +kernel) (by decide +kernel) (hts (.classLink RX11 127 "java/lang/IllegalArgumentException") (by decide +kernel)) (hts (.initialized "java/lang/IllegalArgumentException") (by decide +kernel)) (vx_hat (B := xB "java/lang/IllegalArgumentException") (fun w h => hts w (in_x_make_at0_X11_129 w h)) (by decide +kernel) (Zz_xB hZ (by decide))) (by decide +kernel) hZ.1 hZ.2.1 hS (hl.1.trans hml.symm) dX11_make_28 dX11_make_31 dX11_make_32 dX11_make_35 (fun x h => (htab x h).elim) (by decide) (Nat.le_of_ble_eq_true rfl) (Nat.le_of_ble_eq_true rfl) (Nat.le_of_ble_eq_true rfl) hlocks (fun t _ h1 h2 => ⟨(), trivial, (Or.inr (Or.inr (Or.inl ⟨rfl, c2063, c2064, c2065, c2066, c2095, c2098⟩))), xx_F hS h1 h2⟩) hS.2.2 (by decide) (by decide)
      · skip
        refine lv_iload_n hx hb dX11_make_22 rfl (lv_at hl 2 rfl) ?_
        refine lv_bipush (v := 60) hx hb dX11_make_23 (by decide) ?_
        refine lv_icmp_le (tgt := 36) hx hb dX11_make_25 (by decide) (fun c2099 => ?_) (fun c2099 => ?_)
        · skip
          refine lv_iload_n hx hb dX11_make_36 rfl (lv_at hl 1 rfl) ?_
          have hPc := hP.sub (ws' := []) [] rfl
          have hDc := hD.sub (ws' := []) [] (by decide) rfl
          have hKc := hK.sub (tys' := []) [] rfl
          have hFc := va_free (wc := []) hD hS hA [] rfl
          refine va_calli (va_runS (As := [.int p0]) (rest := []) ⟨hx, hb, hml, hown, hts⟩ (z_X10_isArray l dC dI H.size p0  ) (va_cwS 1 hts g_x_make_z_X10_isArray_206 rfl rfl rfl (by decide +kernel) ⟨Nat.le_of_ble_eq_true rfl, Nat.le_of_ble_eq_true rfl⟩) ⟨fun a U g mk q => by obtain ⟨q0, q1, qP, qK, qD⟩ := q; exact ⟨q0, q1, qP, va_K.moved (u := U) (U := U.calling g mk a) (Vm.Alike.refl U.vm) qK, qD⟩, fun U hU hW => ⟨rfl, by rw [hU], by rw [hU]; exact hPc, va_K.moved hW.alike hKc, hDc.weaken (fun _ _ _ _ => trivial)⟩⟩ rfl rfl hl.1 rfl (lv_room (Nat.le_of_ble_eq_true rfl)) dX11_make_37 ⟨Nat.le_of_ble_eq_true rfl, Nat.le_of_ble_eq_true rfl⟩) hS (fun q _ h => hFc q h) hFc (fun r2101 u t H1 locs ht hvm hw hB hz1 hk1 hS => ?_)
          obtain ⟨hP1, hK1, hD1⟩ := hB
          rw [ht] at hP1
          try dsimp only at hw
          obtain ⟨hP, hD⟩ := va_join (wr := [(aX, .inr (14, fsX)), (aH, .inr (5, fsHe)), (q1, .inl (k1, 400, .inl f1)), (q2, .inl (k2, 400, .inl f2)), (q3, .inl (k3, 400, .inl f3)), (q4, .inl (k4, 4000, .inr (.inl f4))), (q5, .inl (k5, 4000, .inl f5)), (aY, .inr (13, fsY))]) (w1 := []) hP hD [] [0, 1, 2, 3, 4, 5, 6, 7] rfl rfl (by decide) (by decide) hk1 hFc hP1 hD1
          have hK := hK.sub (tys' := [(k1, .int), (k2, .int), (k3, .int), (k4, .long), (k5, .boolean)]) [0, 1, 2, 3, 4] rfl
          generalize H1 = H at hP hS ⊢
          have hP : va_P (dC, dI) vwCl [(aX, .inr (14, fsX)), (aH, .inr (5, fsHe)), (q1, .inl (k1, 400, .inl f1)), (q2, .inl (k2, 400, .inl f2)), (q3, .inl (k3, 400, .inl f3)), (q4, .inl (k4, 4000, .inr (.inl f4))), (q5, .inl (k5, 4000, .inl f5)), (aY, .inr (13, fsY))] H := hP
          have hD : va_D A [(aX, .inr (14, fsX)), (aH, .inr (5, fsHe)), (q1, .inl (k1, 400, .inl f1)), (q2, .inl (k2, 400, .inl f2)), (q3, .inl (k3, 400, .inl f3)), (q4, .inl (k4, 4000, .inr (.inl f4))), (q5, .inl (k5, 4000, .inl f5)), (aY, .inr (13, fsY))] := hD
          rcases hw with ⟨c2102, er2103⟩ | ⟨c2104, er2105⟩
          · exact (by exfalso; (try simp only [i_lt, i_le, i_eq, kc_0, kc_20, kc_24] at c2063 c2064 c2065 c2066 c2095 c2102); omega)
          · skip
            subst er2105
            refine lv_if_eq (tgt := 47) hx hb dX11_make_40 (by decide) (fun c2106 => absurd c2106 (by decide)) (fun c2106 => ?_)
            refine lv_iload_n hx hb dX11_make_43 rfl (lv_at hl 2 rfl) ?_
            refine lv_goto (tgt := 48) hx hb dX11_make_44 (by decide) ?_
            refine lv_istore_n (lv' := [(3, .int p1), (0, .ref aX), (1, .int p0), (2, .int p1)]) hx hb dX11_make_48 rfl hl (by decide) rfl (fun ls hl => ?_)
            refine lv_aload_n hx hb dX11_make_49 rfl (lv_at hl 1 rfl) ?_
            refine va_get (D := (dC, dI)) (ci := 14) (v := .ref aH) (C := RX11) (T := TX11) (N := 18) hx hb hts (in_x_make_X11) hown hK hP 0 rfl rfl 2 (by decide) (hts (.fieldLink RX11 28 "HeapWorks" "heap" "LHeapWorks$Heap;") (by decide +kernel)) (fun _ h9 => h9) (ow_at o_fsX 1 rfl) dX11_make_50 ?_
            refine lv_iconst (v := 1) hx hb dX11_make_53 (by decide) ?_
            refine lv_aload_n hx hb dX11_make_54 rfl (lv_at hl 1 rfl) ?_
            refine va_get (D := (dC, dI)) (ci := 14) (v := .ref aY) (C := RX11) (T := TX11) (N := 18) hx hb hts (in_x_make_X11) hown hK hP 0 rfl rfl 1 (by decide) (hts (.fieldLink RX11 19 "HeapWorks" "types" "LHeapWorks$Types;") (by decide +kernel)) (fun _ h9 => h9) (ow_at o_fsX 0 rfl) dX11_make_55 ?_
            refine lv_iload_n hx hb dX11_make_58 rfl (lv_at hl 2 rfl) ?_
            refine lv_iload_n hx hb dX11_make_59 rfl (lv_at hl 0 rfl) ?_
            have hPc := hP.sub (ws' := []) [] rfl
            have hDc := hD.sub (ws' := []) [] (by decide) rfl
            have hKc := hK.sub (tys' := []) [] rfl
            have hFc := va_free (wc := []) hD hS hA [] rfl
            refine va_calli (va_runV (As := [.int p0, .int p1]) (rest := [.int 1, .ref aH]) ⟨hx, hb, hml, hown, hts⟩ (z_X10_slotsOf l dC dI H.size aY p0 p1  (by (try simp only [i_lt, i_le, i_eq, kc_0, kc_20, kc_24] at c2063 c2064 c2065 c2066 c2095 c2104); omega) (by (try simp only [i_lt, i_le, i_eq, kc_0, kc_60] at c2098 c2099); omega)) (cwV 2 hts g_x_make_z_X10_slotsOf_209 rfl rfl rfl (by decide +kernel) ⟨Nat.le_of_ble_eq_true rfl, Nat.le_of_ble_eq_true rfl⟩) ⟨fun a U g mk q => by obtain ⟨q0, q1, qP, qK, qD⟩ := q; exact ⟨q0, q1, qP, va_K.moved (u := U) (U := U.calling g mk a) (Vm.Alike.refl U.vm) qK, qD⟩, va_recv hK hP (ci := 13) (q0 := 7) rfl rfl, fun U hU hW => ⟨rfl, by rw [hU], by rw [hU]; exact hPc, va_K.moved hW.alike hKc, hDc.weaken (fun _ _ _ _ => trivial)⟩⟩ rfl rfl hl.1 rfl (lv_room (Nat.le_of_ble_eq_true rfl)) dX11_make_60 ⟨Nat.le_of_ble_eq_true rfl, Nat.le_of_ble_eq_true rfl⟩) hS (fun q _ h => hFc q h) hFc (fun r2121 u t H1 locs ht hvm hw hB hz1 hk1 hS => ?_)
            obtain ⟨hP1, hK1, hD1⟩ := hB
            rw [ht] at hP1
            try dsimp only at hw
            obtain ⟨hP, hD⟩ := va_join (wr := [(aX, .inr (14, fsX)), (aH, .inr (5, fsHe)), (q1, .inl (k1, 400, .inl f1)), (q2, .inl (k2, 400, .inl f2)), (q3, .inl (k3, 400, .inl f3)), (q4, .inl (k4, 4000, .inr (.inl f4))), (q5, .inl (k5, 4000, .inl f5)), (aY, .inr (13, fsY))]) (w1 := []) hP hD [] [0, 1, 2, 3, 4, 5, 6, 7] rfl rfl (by decide) (by decide) hk1 hFc hP1 hD1
            have hK := hK.sub (tys' := [(k1, .int), (k2, .int), (k3, .int), (k4, .long), (k5, .boolean)]) [0, 1, 2, 3, 4] rfl
            generalize H1 = H at hP hS ⊢
            have hP : va_P (dC, dI) vwCl [(aX, .inr (14, fsX)), (aH, .inr (5, fsHe)), (q1, .inl (k1, 400, .inl f1)), (q2, .inl (k2, 400, .inl f2)), (q3, .inl (k3, 400, .inl f3)), (q4, .inl (k4, 4000, .inr (.inl f4))), (q5, .inl (k5, 4000, .inl f5)), (aY, .inr (13, fsY))] H := hP
            have hD : va_D A [(aX, .inr (14, fsX)), (aH, .inr (5, fsHe)), (q1, .inl (k1, 400, .inl f1)), (q2, .inl (k2, 400, .inl f2)), (q3, .inl (k3, 400, .inl f3)), (q4, .inl (k4, 4000, .inr (.inl f4))), (q5, .inl (k5, 4000, .inl f5)), (aY, .inr (13, fsY))] := hD
            obtain ⟨c2122, er2123⟩ := hw
            have qer2123 := er2123.symm
            subst qer2123
            have hPc := hP.sub (ws' := [(aH, .inr (5, fsHe))]) [1] rfl
            have hDc := hD.sub (ws' := [(aH, .inr (5, fsHe))]) [1] (by decide) rfl
            have hKc := hK.sub (tys' := []) [] rfl
            have hFc := va_free (wc := [(aH, .inr (5, fsHe))]) hD hS hA [1] rfl
            refine va_calli (va_runV (As := [.int 1, .int p1]) (rest := []) ⟨hx, hb, hml, hown, hts⟩ (z_X2_hasRoom l dC dI H.size aH fsHe p1 (fh_sub o_fsHe.2 [1, 3] rfl) ) (cwV 2 hts g_x_make_z_X2_hasRoom_212 rfl rfl rfl (by decide +kernel) ⟨Nat.le_of_ble_eq_true rfl, Nat.le_of_ble_eq_true rfl⟩) ⟨fun a U g mk q => by obtain ⟨q0, q1, qP, qK, qD⟩ := q; exact ⟨q0, q1, qP, va_K.moved (u := U) (U := U.calling g mk a) (Vm.Alike.refl U.vm) qK, qD⟩, va_recv hK hP (ci := 5) (q0 := 1) rfl rfl, fun U hU hW => ⟨rfl, by rw [hU], by rw [hU]; exact hPc, va_K.moved hW.alike hKc, hDc.weaken (fun _ _ _ _ => trivial)⟩⟩ rfl rfl hl.1 rfl (lv_room (Nat.le_of_ble_eq_true rfl)) dX11_make_63 ⟨Nat.le_of_ble_eq_true rfl, Nat.le_of_ble_eq_true rfl⟩) hS (fun q _ h => hFc q h) hFc (fun r2128 u t H1 locs ht hvm hw hB hz1 hk1 hS => ?_)
            obtain ⟨hP1, hK1, hD1⟩ := hB
            rw [ht] at hP1
            try dsimp only at hw
            obtain ⟨hP, hD⟩ := va_join (wr := [(aX, .inr (14, fsX)), (q1, .inl (k1, 400, .inl f1)), (q2, .inl (k2, 400, .inl f2)), (q3, .inl (k3, 400, .inl f3)), (q4, .inl (k4, 4000, .inr (.inl f4))), (q5, .inl (k5, 4000, .inl f5)), (aY, .inr (13, fsY))]) (w1 := [(aH, .inr (5, fsHe))]) hP hD [1] [0, 2, 3, 4, 5, 6, 7] rfl rfl (by decide) (by decide) hk1 hFc hP1 hD1
            have hK := hK.sub (tys' := [(k1, .int), (k2, .int), (k3, .int), (k4, .long), (k5, .boolean)]) [0, 1, 2, 3, 4] rfl
            generalize H1 = H at hP hS ⊢
            have hP : va_P (dC, dI) vwCl [(aX, .inr (14, fsX)), (q1, .inl (k1, 400, .inl f1)), (q2, .inl (k2, 400, .inl f2)), (q3, .inl (k3, 400, .inl f3)), (q4, .inl (k4, 4000, .inr (.inl f4))), (q5, .inl (k5, 4000, .inl f5)), (aY, .inr (13, fsY)), (aH, .inr (5, fsHe))] H := hP
            have hD : va_D A [(aX, .inr (14, fsX)), (q1, .inl (k1, 400, .inl f1)), (q2, .inl (k2, 400, .inl f2)), (q3, .inl (k3, 400, .inl f3)), (q4, .inl (k4, 4000, .inr (.inl f4))), (q5, .inl (k5, 4000, .inl f5)), (aY, .inr (13, fsY)), (aH, .inr (5, fsHe))] := hD
            rcases hw with er2129 | er2130
            · skip
              subst er2129
              refine lv_if_ne (tgt := 77) hx hb dX11_make_66 (by decide) (fun c2131 => absurd c2131 (by decide)) (fun c2131 => ?_)
              exact vx_throw0 (names := ["java/lang/RuntimeException", "java/lang/Exception"]) hx hb hst hown (by decide +kernel) (by decide +kernel) (hts (.classLink RX11 137 "java/lang/IllegalStateException") (by decide +kernel)) (hts (.initialized "java/lang/IllegalStateException") (by decide +kernel)) (vx_hat (B := xB "java/lang/IllegalStateException") (fun w h => hts w (in_x_make_at0_X11_139 w h)) (by decide +kernel) (Zz_xB hZ (by decide))) (by decide +kernel) hZ.1 hZ.2.1 hS (hl.1.trans hml.symm) dX11_make_69 dX11_make_72 dX11_make_73 dX11_make_76 (fun x h => (htab x h).elim) (by decide) (Nat.le_of_ble_eq_true rfl) (Nat.le_of_ble_eq_true rfl) (Nat.le_of_ble_eq_true rfl) hlocks (fun t _ h1 h2 => ⟨(), trivial, (Or.inr (Or.inr (Or.inr (Or.inl ⟨rfl, c2063, c2064, c2065, c2066, c2095, c2098, c2099, c2104, c2122⟩)))), xx_F hS h1 h2⟩) hS.2.2 (by decide) (by decide)
            · skip
              subst er2130
              refine lv_if_ne (tgt := 77) hx hb dX11_make_66 (by decide) (fun c2132 => ?_) (fun c2132 => absurd c2132 (by decide))
              refine lv_aload_n hx hb dX11_make_77 rfl (lv_at hl 1 rfl) ?_
              refine va_get (D := (dC, dI)) (ci := 14) (v := .ref aH) (C := RX11) (T := TX11) (N := 18) hx hb hts (in_x_make_X11) hown hK hP 0 rfl rfl 2 (by decide) (hts (.fieldLink RX11 28 "HeapWorks" "heap" "LHeapWorks$Heap;") (by decide +kernel)) (fun _ h9 => h9) (ow_at o_fsX 1 rfl) dX11_make_78 ?_
              refine lv_iload_n hx hb dX11_make_81 rfl (lv_at hl 2 rfl) ?_
              refine lv_iload_n hx hb dX11_make_82 rfl (lv_at hl 0 rfl) ?_
              have hPc := hP.sub (ws' := [(q1, .inl (k1, 400, .inl f1)), (q2, .inl (k2, 400, .inl f2)), (q3, .inl (k3, 400, .inl f3)), (q4, .inl (k4, 4000, .inr (.inl f4))), (q5, .inl (k5, 4000, .inl f5)), (aY, .inr (13, fsY)), (aH, .inr (5, fsHe))]) [1, 2, 3, 4, 5, 6, 7] rfl
              have hDc := hD.sub (ws' := [(q1, .inl (k1, 400, .inl f1)), (q2, .inl (k2, 400, .inl f2)), (q3, .inl (k3, 400, .inl f3)), (q4, .inl (k4, 4000, .inr (.inl f4))), (q5, .inl (k5, 4000, .inl f5)), (aY, .inr (13, fsY)), (aH, .inr (5, fsHe))]) [1, 2, 3, 4, 5, 6, 7] (by decide) rfl
              have hKc := hK.sub (tys' := [(k1, .int), (k2, .int), (k3, .int), (k4, .long), (k5, .boolean)]) [0, 1, 2, 3, 4] rfl
              have hFc := va_free (wc := [(q1, .inl (k1, 400, .inl f1)), (q2, .inl (k2, 400, .inl f2)), (q3, .inl (k3, 400, .inl f3)), (q4, .inl (k4, 4000, .inr (.inl f4))), (q5, .inl (k5, 4000, .inl f5)), (aY, .inr (13, fsY)), (aH, .inr (5, fsHe))]) hD hS hA [1, 2, 3, 4, 5, 6, 7] rfl
              refine va_calli (va_runV (As := [.int p0, .int p1]) (rest := []) ⟨hx, hb, hml, hown, hts⟩ (z_X2_create l dC dI H.size q1 f1 k1 q2 f2 k2 q3 f3 k3 q4 f4 k4 q5 f5 k5 aY fsY aH fsHe p0 p1 (fh_sub o_fsY.2 [0] rfl) (fh_sub o_fsHe.2 [0, 1, 2, 3, 4, 5, 6, 7, 8] rfl) (by (try simp only [i_lt, i_le, i_eq, kc_0, kc_20, kc_24] at c2063 c2064 c2065 c2066 c2095 c2104 c2122); omega) (by (try simp only [i_lt, i_le, i_eq, kc_0, kc_60] at c2098 c2099); omega)) (cwV 2 hts g_x_make_z_X2_create_215 rfl rfl rfl (by decide +kernel) ⟨Nat.le_of_ble_eq_true rfl, Nat.le_of_ble_eq_true rfl⟩) ⟨fun a U g mk q => by obtain ⟨q0, q1, qP, qK, qD⟩ := q; exact ⟨q0, q1, qP, va_K.moved (u := U) (U := U.calling g mk a) (Vm.Alike.refl U.vm) qK, qD⟩, va_recv hK hP (ci := 5) (q0 := 7) rfl rfl, fun U hU hW => ⟨rfl, by rw [hU], by rw [hU]; exact hPc, va_K.moved hW.alike hKc, hDc.weaken (fun _ _ _ _ => trivial)⟩⟩ rfl rfl hl.1 rfl (lv_room (Nat.le_of_ble_eq_true rfl)) dX11_make_83 ⟨Nat.le_of_ble_eq_true rfl, Nat.le_of_ble_eq_true rfl⟩) hS (fun q _ h => hFc q h) hFc (fun r2363 u t H1 locs ht hvm hw hB hz1 hk1 hS => ?_)
              obtain ⟨f2364, f2365, f2366, f2367, f2368, s2369⟩ := u
              obtain ⟨hP1, hK1, hD1⟩ := hB
              rw [ht] at hP1
              try dsimp only at hw
              obtain ⟨hP, hD⟩ := va_join (wr := [(aX, .inr (14, fsX))]) (w1 := [(q1, .inl (k1, 400, .inl f2364)), (q2, .inl (k2, 400, .inl f2365)), (q3, .inl (k3, 400, .inl f2366)), (q4, .inl (k4, 4000, .inr (.inl f2367))), (q5, .inl (k5, 4000, .inl f2368)), (aY, .inr (13, fsY)), (aH, .inr (5, s2369))]) hP hD [1, 2, 3, 4, 5, 6, 7] [0] rfl rfl (by decide) (by decide) hk1 hFc hP1 hD1
              have hK := hK.sub (tys' := [(k1, .int), (k2, .int), (k3, .int), (k4, .long), (k5, .boolean)]) [0, 1, 2, 3, 4] rfl
              generalize H1 = H at hP hS ⊢
              have hP : va_P (dC, dI) vwCl [(aX, .inr (14, fsX)), (q1, .inl (k1, 400, .inl f2364)), (q2, .inl (k2, 400, .inl f2365)), (q3, .inl (k3, 400, .inl f2366)), (q4, .inl (k4, 4000, .inr (.inl f2367))), (q5, .inl (k5, 4000, .inl f2368)), (aY, .inr (13, fsY)), (aH, .inr (5, s2369))] H := hP
              have hD : va_D A [(aX, .inr (14, fsX)), (q1, .inl (k1, 400, .inl f2364)), (q2, .inl (k2, 400, .inl f2365)), (q3, .inl (k3, 400, .inl f2366)), (q4, .inl (k4, 4000, .inr (.inl f2367))), (q5, .inl (k5, 4000, .inl f2368)), (aY, .inr (13, fsY)), (aH, .inr (5, s2369))] := hD
              obtain ⟨c2370, c2371, c2372, er2373, o_s2369, q2374, q2375, q2376⟩ := hw
              subst er2373
              have o_s2369 := ow_on o_fsHe o_s2369 (l' := [(0, .ref aY), (4, .ref q1), (5, .ref q2), (6, .ref q3), (7, .ref q4), (8, .ref q5), (0, .ref aY), (4, .ref q1), (5, .ref q2), (6, .ref q3), (7, .ref q4), (8, .ref q5)]) (w' := [1, 2, 3]) rfl rfl
              have hP9 := hP.sub (ws' := [(aX, .inr (14, fsX)), (aY, .inr (13, fsY)), (aH, .inr (5, s2369)), (q1, .inl (k1, 400, .inl f2364)), (q2, .inl (k2, 400, .inl f2365)), (q3, .inl (k3, 400, .inl f2366)), (q4, .inl (k4, 4000, .inr (.inl f2367))), (q5, .inl (k5, 4000, .inl f2368))]) [0, 6, 7, 1, 2, 3, 4, 5] rfl
              have hD9 := hD.sub (ws' := [(aX, .inr (14, fsX)), (aY, .inr (13, fsY)), (aH, .inr (5, s2369)), (q1, .inl (k1, 400, .inl f2364)), (q2, .inl (k2, 400, .inl f2365)), (q3, .inl (k3, 400, .inl f2366)), (q4, .inl (k4, 4000, .inr (.inl f2367))), (q5, .inl (k5, 4000, .inl f2368))]) [0, 6, 7, 1, 2, 3, 4, 5] (by decide) rfl
              have hK9 := hK.sub (tys' := [(k1, .int), (k2, .int), (k3, .int), (k4, .long), (k5, .boolean)]) [0, 1, 2, 3, 4] rfl
              refine vx_ret ?_
              refine W.widen (k := 1) (n := 6) (by decide) (by decide) ?_
              exact W.iret (v := 0) hx hb hr (fun t ht hW => ⟨⟨0, (s2369, f2364, f2365, f2366, f2367, f2368), rfl, (Or.inl ⟨c2063, c2064, c2065, c2066, c2095, c2098, c2099, c2104, c2122, c2370, c2371, c2372, rfl, o_s2369, q2374, q2375, q2376⟩), by rw [ht]; exact hP9, va_K.moved hW.alike hK9, hD9⟩, hS.F ht⟩) hS.2.2 dX11_make_86
        · skip
          exact vx_throw0 (names := ["java/lang/RuntimeException", "java/lang/Exception"]) hx hb hst hown (by decide +kernel) (by decide +kernel) (hts (.classLink RX11 127 "java/lang/IllegalArgumentException") (by decide +kernel)) (hts (.initialized "java/lang/IllegalArgumentException") (by decide +kernel)) (vx_hat (B := xB "java/lang/IllegalArgumentException") (fun w h => hts w (in_x_make_at0_X11_129 w h)) (by decide +kernel) (Zz_xB hZ (by decide))) (by decide +kernel) hZ.1 hZ.2.1 hS (hl.1.trans hml.symm) dX11_make_28 dX11_make_31 dX11_make_32 dX11_make_35 (fun x h => (htab x h).elim) (by decide) (Nat.le_of_ble_eq_true rfl) (Nat.le_of_ble_eq_true rfl) (Nat.le_of_ble_eq_true rfl) hlocks (fun t _ h1 h2 => ⟨(), trivial, (Or.inr (Or.inr (Or.inr (Or.inr (Or.inl ⟨rfl, c2063, c2064, c2065, c2066, c2095, c2098, c2099⟩))))), xx_F hS h1 h2⟩) hS.2.2 (by decide) (by decide)
  · skip
    subst er2073
    refine lv_if_eq (tgt := 28) hx hb dX11_make_8 (by decide) (fun c2377 => absurd c2377 (by decide)) (fun c2377 => ?_)
    refine lv_iload_n hx hb dX11_make_11 rfl (lv_at hl 1 rfl) ?_
    have hPc := hP.sub (ws' := []) [] rfl
    have hDc := hD.sub (ws' := []) [] (by decide) rfl
    have hKc := hK.sub (tys' := []) [] rfl
    have hFc := va_free (wc := []) hD hS hA [] rfl
    refine va_calli (va_runS (As := [.int p0]) (rest := []) ⟨hx, hb, hml, hown, hts⟩ (z_X10_isArray l dC dI H.size p0  ) (va_cwS 1 hts g_x_make_z_X10_isArray_206 rfl rfl rfl (by decide +kernel) ⟨Nat.le_of_ble_eq_true rfl, Nat.le_of_ble_eq_true rfl⟩) ⟨fun a U g mk q => by obtain ⟨q0, q1, qP, qK, qD⟩ := q; exact ⟨q0, q1, qP, va_K.moved (u := U) (U := U.calling g mk a) (Vm.Alike.refl U.vm) qK, qD⟩, fun U hU hW => ⟨rfl, by rw [hU], by rw [hU]; exact hPc, va_K.moved hW.alike hKc, hDc.weaken (fun _ _ _ _ => trivial)⟩⟩ rfl rfl hl.1 rfl (lv_room (Nat.le_of_ble_eq_true rfl)) dX11_make_12 ⟨Nat.le_of_ble_eq_true rfl, Nat.le_of_ble_eq_true rfl⟩) hS (fun q _ h => hFc q h) hFc (fun r2379 u t H1 locs ht hvm hw hB hz1 hk1 hS => ?_)
    obtain ⟨hP1, hK1, hD1⟩ := hB
    rw [ht] at hP1
    try dsimp only at hw
    obtain ⟨hP, hD⟩ := va_join (wr := [(aX, .inr (14, fsX)), (aH, .inr (5, fsHe)), (q1, .inl (k1, 400, .inl f1)), (q2, .inl (k2, 400, .inl f2)), (q3, .inl (k3, 400, .inl f3)), (q4, .inl (k4, 4000, .inr (.inl f4))), (q5, .inl (k5, 4000, .inl f5)), (aY, .inr (13, fsY))]) (w1 := []) hP hD [] [0, 1, 2, 3, 4, 5, 6, 7] rfl rfl (by decide) (by decide) hk1 hFc hP1 hD1
    have hK := hK.sub (tys' := [(k1, .int), (k2, .int), (k3, .int), (k4, .long), (k5, .boolean)]) [0, 1, 2, 3, 4] rfl
    generalize H1 = H at hP hS ⊢
    have hP : va_P (dC, dI) vwCl [(aX, .inr (14, fsX)), (aH, .inr (5, fsHe)), (q1, .inl (k1, 400, .inl f1)), (q2, .inl (k2, 400, .inl f2)), (q3, .inl (k3, 400, .inl f3)), (q4, .inl (k4, 4000, .inr (.inl f4))), (q5, .inl (k5, 4000, .inl f5)), (aY, .inr (13, fsY))] H := hP
    have hD : va_D A [(aX, .inr (14, fsX)), (aH, .inr (5, fsHe)), (q1, .inl (k1, 400, .inl f1)), (q2, .inl (k2, 400, .inl f2)), (q3, .inl (k3, 400, .inl f3)), (q4, .inl (k4, 4000, .inr (.inl f4))), (q5, .inl (k5, 4000, .inl f5)), (aY, .inr (13, fsY))] := hD
    rcases hw with ⟨c2380, er2381⟩ | ⟨c2382, er2383⟩
    · exact (by exfalso; (try simp only [i_lt, i_le, i_eq, kc_0, kc_20, kc_24, kc_29] at c2068 c2069 c2070 c2071 c2072 c2380); omega)
    · skip
      subst er2383
      refine lv_if_eq (tgt := 36) hx hb dX11_make_15 (by decide) (fun c2384 => absurd c2384 (by decide)) (fun c2384 => ?_)
      refine lv_iload_n hx hb dX11_make_18 rfl (lv_at hl 2 rfl) ?_
      refine lv_if_lt (tgt := 28) hx hb dX11_make_19 (by decide) (fun c2385 => ?_) (fun c2385 => ?_)
      · skip
        exact vx_throw0 (names := ["java/lang/RuntimeException", "java/lang/Exception"]) hx hb hst hown (by decide +kernel) (by decide +kernel) (hts (.classLink RX11 127 "java/lang/IllegalArgumentException") (by decide +kernel)) (hts (.initialized "java/lang/IllegalArgumentException") (by decide +kernel)) (vx_hat (B := xB "java/lang/IllegalArgumentException") (fun w h => hts w (in_x_make_at0_X11_129 w h)) (by decide +kernel) (Zz_xB hZ (by decide))) (by decide +kernel) hZ.1 hZ.2.1 hS (hl.1.trans hml.symm) dX11_make_28 dX11_make_31 dX11_make_32 dX11_make_35 (fun x h => (htab x h).elim) (by decide) (Nat.le_of_ble_eq_true rfl) (Nat.le_of_ble_eq_true rfl) (Nat.le_of_ble_eq_true rfl) hlocks (fun t _ h1 h2 => ⟨(), trivial, (Or.inr (Or.inr (Or.inr (Or.inr (Or.inr (Or.inl ⟨rfl, c2068, c2069, c2070, c2071, c2072, c2382, c2385⟩)))))), xx_F hS h1 h2⟩) hS.2.2 (by decide) (by decide)
      · skip
        refine lv_iload_n hx hb dX11_make_22 rfl (lv_at hl 2 rfl) ?_
        refine lv_bipush (v := 60) hx hb dX11_make_23 (by decide) ?_
        refine lv_icmp_le (tgt := 36) hx hb dX11_make_25 (by decide) (fun c2386 => ?_) (fun c2386 => ?_)
        · skip
          refine lv_iload_n hx hb dX11_make_36 rfl (lv_at hl 1 rfl) ?_
          have hPc := hP.sub (ws' := []) [] rfl
          have hDc := hD.sub (ws' := []) [] (by decide) rfl
          have hKc := hK.sub (tys' := []) [] rfl
          have hFc := va_free (wc := []) hD hS hA [] rfl
          refine va_calli (va_runS (As := [.int p0]) (rest := []) ⟨hx, hb, hml, hown, hts⟩ (z_X10_isArray l dC dI H.size p0  ) (va_cwS 1 hts g_x_make_z_X10_isArray_206 rfl rfl rfl (by decide +kernel) ⟨Nat.le_of_ble_eq_true rfl, Nat.le_of_ble_eq_true rfl⟩) ⟨fun a U g mk q => by obtain ⟨q0, q1, qP, qK, qD⟩ := q; exact ⟨q0, q1, qP, va_K.moved (u := U) (U := U.calling g mk a) (Vm.Alike.refl U.vm) qK, qD⟩, fun U hU hW => ⟨rfl, by rw [hU], by rw [hU]; exact hPc, va_K.moved hW.alike hKc, hDc.weaken (fun _ _ _ _ => trivial)⟩⟩ rfl rfl hl.1 rfl (lv_room (Nat.le_of_ble_eq_true rfl)) dX11_make_37 ⟨Nat.le_of_ble_eq_true rfl, Nat.le_of_ble_eq_true rfl⟩) hS (fun q _ h => hFc q h) hFc (fun r2388 u t H1 locs ht hvm hw hB hz1 hk1 hS => ?_)
          obtain ⟨hP1, hK1, hD1⟩ := hB
          rw [ht] at hP1
          try dsimp only at hw
          obtain ⟨hP, hD⟩ := va_join (wr := [(aX, .inr (14, fsX)), (aH, .inr (5, fsHe)), (q1, .inl (k1, 400, .inl f1)), (q2, .inl (k2, 400, .inl f2)), (q3, .inl (k3, 400, .inl f3)), (q4, .inl (k4, 4000, .inr (.inl f4))), (q5, .inl (k5, 4000, .inl f5)), (aY, .inr (13, fsY))]) (w1 := []) hP hD [] [0, 1, 2, 3, 4, 5, 6, 7] rfl rfl (by decide) (by decide) hk1 hFc hP1 hD1
          have hK := hK.sub (tys' := [(k1, .int), (k2, .int), (k3, .int), (k4, .long), (k5, .boolean)]) [0, 1, 2, 3, 4] rfl
          generalize H1 = H at hP hS ⊢
          have hP : va_P (dC, dI) vwCl [(aX, .inr (14, fsX)), (aH, .inr (5, fsHe)), (q1, .inl (k1, 400, .inl f1)), (q2, .inl (k2, 400, .inl f2)), (q3, .inl (k3, 400, .inl f3)), (q4, .inl (k4, 4000, .inr (.inl f4))), (q5, .inl (k5, 4000, .inl f5)), (aY, .inr (13, fsY))] H := hP
          have hD : va_D A [(aX, .inr (14, fsX)), (aH, .inr (5, fsHe)), (q1, .inl (k1, 400, .inl f1)), (q2, .inl (k2, 400, .inl f2)), (q3, .inl (k3, 400, .inl f3)), (q4, .inl (k4, 4000, .inr (.inl f4))), (q5, .inl (k5, 4000, .inl f5)), (aY, .inr (13, fsY))] := hD
          rcases hw with ⟨c2389, er2390⟩ | ⟨c2391, er2392⟩
          · exact (by exfalso; (try simp only [i_lt, i_le, i_eq, kc_0, kc_20, kc_24, kc_29] at c2068 c2069 c2070 c2071 c2072 c2382 c2389); omega)
          · skip
            subst er2392
            refine lv_if_eq (tgt := 47) hx hb dX11_make_40 (by decide) (fun c2393 => absurd c2393 (by decide)) (fun c2393 => ?_)
            refine lv_iload_n hx hb dX11_make_43 rfl (lv_at hl 2 rfl) ?_
            refine lv_goto (tgt := 48) hx hb dX11_make_44 (by decide) ?_
            refine lv_istore_n (lv' := [(3, .int p1), (0, .ref aX), (1, .int p0), (2, .int p1)]) hx hb dX11_make_48 rfl hl (by decide) rfl (fun ls hl => ?_)
            refine lv_aload_n hx hb dX11_make_49 rfl (lv_at hl 1 rfl) ?_
            refine va_get (D := (dC, dI)) (ci := 14) (v := .ref aH) (C := RX11) (T := TX11) (N := 18) hx hb hts (in_x_make_X11) hown hK hP 0 rfl rfl 2 (by decide) (hts (.fieldLink RX11 28 "HeapWorks" "heap" "LHeapWorks$Heap;") (by decide +kernel)) (fun _ h9 => h9) (ow_at o_fsX 1 rfl) dX11_make_50 ?_
            refine lv_iconst (v := 1) hx hb dX11_make_53 (by decide) ?_
            refine lv_aload_n hx hb dX11_make_54 rfl (lv_at hl 1 rfl) ?_
            refine va_get (D := (dC, dI)) (ci := 14) (v := .ref aY) (C := RX11) (T := TX11) (N := 18) hx hb hts (in_x_make_X11) hown hK hP 0 rfl rfl 1 (by decide) (hts (.fieldLink RX11 19 "HeapWorks" "types" "LHeapWorks$Types;") (by decide +kernel)) (fun _ h9 => h9) (ow_at o_fsX 0 rfl) dX11_make_55 ?_
            refine lv_iload_n hx hb dX11_make_58 rfl (lv_at hl 2 rfl) ?_
            refine lv_iload_n hx hb dX11_make_59 rfl (lv_at hl 0 rfl) ?_
            have hPc := hP.sub (ws' := []) [] rfl
            have hDc := hD.sub (ws' := []) [] (by decide) rfl
            have hKc := hK.sub (tys' := []) [] rfl
            have hFc := va_free (wc := []) hD hS hA [] rfl
            refine va_calli (va_runV (As := [.int p0, .int p1]) (rest := [.int 1, .ref aH]) ⟨hx, hb, hml, hown, hts⟩ (z_X10_slotsOf_1 l dC dI H.size aY p0 p1  (by (try simp only [i_lt, i_le, i_eq, kc_0, kc_20, kc_24, kc_29] at c2068 c2069 c2070 c2071 c2072 c2382 c2391); omega) (by (try simp only [i_lt, i_le, i_eq, kc_0, kc_60] at c2385 c2386); omega)) (cwV 2 hts g_x_make_z_X10_slotsOf_1_209 rfl rfl rfl (by decide +kernel) ⟨Nat.le_of_ble_eq_true rfl, Nat.le_of_ble_eq_true rfl⟩) ⟨fun a U g mk q => by obtain ⟨q0, q1, qP, qK, qD⟩ := q; exact ⟨q0, q1, qP, va_K.moved (u := U) (U := U.calling g mk a) (Vm.Alike.refl U.vm) qK, qD⟩, va_recv hK hP (ci := 13) (q0 := 7) rfl rfl, fun U hU hW => ⟨rfl, by rw [hU], by rw [hU]; exact hPc, va_K.moved hW.alike hKc, hDc.weaken (fun _ _ _ _ => trivial)⟩⟩ rfl rfl hl.1 rfl (lv_room (Nat.le_of_ble_eq_true rfl)) dX11_make_60 ⟨Nat.le_of_ble_eq_true rfl, Nat.le_of_ble_eq_true rfl⟩) hS (fun q _ h => hFc q h) hFc (fun r2408 u t H1 locs ht hvm hw hB hz1 hk1 hS => ?_)
            obtain ⟨hP1, hK1, hD1⟩ := hB
            rw [ht] at hP1
            try dsimp only at hw
            obtain ⟨hP, hD⟩ := va_join (wr := [(aX, .inr (14, fsX)), (aH, .inr (5, fsHe)), (q1, .inl (k1, 400, .inl f1)), (q2, .inl (k2, 400, .inl f2)), (q3, .inl (k3, 400, .inl f3)), (q4, .inl (k4, 4000, .inr (.inl f4))), (q5, .inl (k5, 4000, .inl f5)), (aY, .inr (13, fsY))]) (w1 := []) hP hD [] [0, 1, 2, 3, 4, 5, 6, 7] rfl rfl (by decide) (by decide) hk1 hFc hP1 hD1
            have hK := hK.sub (tys' := [(k1, .int), (k2, .int), (k3, .int), (k4, .long), (k5, .boolean)]) [0, 1, 2, 3, 4] rfl
            generalize H1 = H at hP hS ⊢
            have hP : va_P (dC, dI) vwCl [(aX, .inr (14, fsX)), (aH, .inr (5, fsHe)), (q1, .inl (k1, 400, .inl f1)), (q2, .inl (k2, 400, .inl f2)), (q3, .inl (k3, 400, .inl f3)), (q4, .inl (k4, 4000, .inr (.inl f4))), (q5, .inl (k5, 4000, .inl f5)), (aY, .inr (13, fsY))] H := hP
            have hD : va_D A [(aX, .inr (14, fsX)), (aH, .inr (5, fsHe)), (q1, .inl (k1, 400, .inl f1)), (q2, .inl (k2, 400, .inl f2)), (q3, .inl (k3, 400, .inl f3)), (q4, .inl (k4, 4000, .inr (.inl f4))), (q5, .inl (k5, 4000, .inl f5)), (aY, .inr (13, fsY))] := hD
            obtain ⟨c2409, er2410⟩ := hw
            have qer2410 := er2410.symm
            subst qer2410
            have hPc := hP.sub (ws' := [(aH, .inr (5, fsHe))]) [1] rfl
            have hDc := hD.sub (ws' := [(aH, .inr (5, fsHe))]) [1] (by decide) rfl
            have hKc := hK.sub (tys' := []) [] rfl
            have hFc := va_free (wc := [(aH, .inr (5, fsHe))]) hD hS hA [1] rfl
            refine va_calli (va_runV (As := [.int 1, .int p1]) (rest := []) ⟨hx, hb, hml, hown, hts⟩ (z_X2_hasRoom l dC dI H.size aH fsHe p1 (fh_sub o_fsHe.2 [1, 3] rfl) ) (cwV 2 hts g_x_make_z_X2_hasRoom_212 rfl rfl rfl (by decide +kernel) ⟨Nat.le_of_ble_eq_true rfl, Nat.le_of_ble_eq_true rfl⟩) ⟨fun a U g mk q => by obtain ⟨q0, q1, qP, qK, qD⟩ := q; exact ⟨q0, q1, qP, va_K.moved (u := U) (U := U.calling g mk a) (Vm.Alike.refl U.vm) qK, qD⟩, va_recv hK hP (ci := 5) (q0 := 1) rfl rfl, fun U hU hW => ⟨rfl, by rw [hU], by rw [hU]; exact hPc, va_K.moved hW.alike hKc, hDc.weaken (fun _ _ _ _ => trivial)⟩⟩ rfl rfl hl.1 rfl (lv_room (Nat.le_of_ble_eq_true rfl)) dX11_make_63 ⟨Nat.le_of_ble_eq_true rfl, Nat.le_of_ble_eq_true rfl⟩) hS (fun q _ h => hFc q h) hFc (fun r2415 u t H1 locs ht hvm hw hB hz1 hk1 hS => ?_)
            obtain ⟨hP1, hK1, hD1⟩ := hB
            rw [ht] at hP1
            try dsimp only at hw
            obtain ⟨hP, hD⟩ := va_join (wr := [(aX, .inr (14, fsX)), (q1, .inl (k1, 400, .inl f1)), (q2, .inl (k2, 400, .inl f2)), (q3, .inl (k3, 400, .inl f3)), (q4, .inl (k4, 4000, .inr (.inl f4))), (q5, .inl (k5, 4000, .inl f5)), (aY, .inr (13, fsY))]) (w1 := [(aH, .inr (5, fsHe))]) hP hD [1] [0, 2, 3, 4, 5, 6, 7] rfl rfl (by decide) (by decide) hk1 hFc hP1 hD1
            have hK := hK.sub (tys' := [(k1, .int), (k2, .int), (k3, .int), (k4, .long), (k5, .boolean)]) [0, 1, 2, 3, 4] rfl
            generalize H1 = H at hP hS ⊢
            have hP : va_P (dC, dI) vwCl [(aX, .inr (14, fsX)), (q1, .inl (k1, 400, .inl f1)), (q2, .inl (k2, 400, .inl f2)), (q3, .inl (k3, 400, .inl f3)), (q4, .inl (k4, 4000, .inr (.inl f4))), (q5, .inl (k5, 4000, .inl f5)), (aY, .inr (13, fsY)), (aH, .inr (5, fsHe))] H := hP
            have hD : va_D A [(aX, .inr (14, fsX)), (q1, .inl (k1, 400, .inl f1)), (q2, .inl (k2, 400, .inl f2)), (q3, .inl (k3, 400, .inl f3)), (q4, .inl (k4, 4000, .inr (.inl f4))), (q5, .inl (k5, 4000, .inl f5)), (aY, .inr (13, fsY)), (aH, .inr (5, fsHe))] := hD
            rcases hw with er2416 | er2417
            · skip
              subst er2416
              refine lv_if_ne (tgt := 77) hx hb dX11_make_66 (by decide) (fun c2418 => absurd c2418 (by decide)) (fun c2418 => ?_)
              exact vx_throw0 (names := ["java/lang/RuntimeException", "java/lang/Exception"]) hx hb hst hown (by decide +kernel) (by decide +kernel) (hts (.classLink RX11 137 "java/lang/IllegalStateException") (by decide +kernel)) (hts (.initialized "java/lang/IllegalStateException") (by decide +kernel)) (vx_hat (B := xB "java/lang/IllegalStateException") (fun w h => hts w (in_x_make_at0_X11_139 w h)) (by decide +kernel) (Zz_xB hZ (by decide))) (by decide +kernel) hZ.1 hZ.2.1 hS (hl.1.trans hml.symm) dX11_make_69 dX11_make_72 dX11_make_73 dX11_make_76 (fun x h => (htab x h).elim) (by decide) (Nat.le_of_ble_eq_true rfl) (Nat.le_of_ble_eq_true rfl) (Nat.le_of_ble_eq_true rfl) hlocks (fun t _ h1 h2 => ⟨(), trivial, (Or.inr (Or.inr (Or.inr (Or.inr (Or.inr (Or.inr (Or.inl ⟨rfl, c2068, c2069, c2070, c2071, c2072, c2382, c2385, c2386, c2391, c2409⟩))))))), xx_F hS h1 h2⟩) hS.2.2 (by decide) (by decide)
            · skip
              subst er2417
              refine lv_if_ne (tgt := 77) hx hb dX11_make_66 (by decide) (fun c2419 => ?_) (fun c2419 => absurd c2419 (by decide))
              refine lv_aload_n hx hb dX11_make_77 rfl (lv_at hl 1 rfl) ?_
              refine va_get (D := (dC, dI)) (ci := 14) (v := .ref aH) (C := RX11) (T := TX11) (N := 18) hx hb hts (in_x_make_X11) hown hK hP 0 rfl rfl 2 (by decide) (hts (.fieldLink RX11 28 "HeapWorks" "heap" "LHeapWorks$Heap;") (by decide +kernel)) (fun _ h9 => h9) (ow_at o_fsX 1 rfl) dX11_make_78 ?_
              refine lv_iload_n hx hb dX11_make_81 rfl (lv_at hl 2 rfl) ?_
              refine lv_iload_n hx hb dX11_make_82 rfl (lv_at hl 0 rfl) ?_
              have hPc := hP.sub (ws' := [(q1, .inl (k1, 400, .inl f1)), (q2, .inl (k2, 400, .inl f2)), (q3, .inl (k3, 400, .inl f3)), (q4, .inl (k4, 4000, .inr (.inl f4))), (q5, .inl (k5, 4000, .inl f5)), (aY, .inr (13, fsY)), (aH, .inr (5, fsHe))]) [1, 2, 3, 4, 5, 6, 7] rfl
              have hDc := hD.sub (ws' := [(q1, .inl (k1, 400, .inl f1)), (q2, .inl (k2, 400, .inl f2)), (q3, .inl (k3, 400, .inl f3)), (q4, .inl (k4, 4000, .inr (.inl f4))), (q5, .inl (k5, 4000, .inl f5)), (aY, .inr (13, fsY)), (aH, .inr (5, fsHe))]) [1, 2, 3, 4, 5, 6, 7] (by decide) rfl
              have hKc := hK.sub (tys' := [(k1, .int), (k2, .int), (k3, .int), (k4, .long), (k5, .boolean)]) [0, 1, 2, 3, 4] rfl
              have hFc := va_free (wc := [(q1, .inl (k1, 400, .inl f1)), (q2, .inl (k2, 400, .inl f2)), (q3, .inl (k3, 400, .inl f3)), (q4, .inl (k4, 4000, .inr (.inl f4))), (q5, .inl (k5, 4000, .inl f5)), (aY, .inr (13, fsY)), (aH, .inr (5, fsHe))]) hD hS hA [1, 2, 3, 4, 5, 6, 7] rfl
              refine va_calli (va_runV (As := [.int p0, .int p1]) (rest := []) ⟨hx, hb, hml, hown, hts⟩ (z_X2_create_1 l dC dI H.size q1 f1 k1 q2 f2 k2 q3 f3 k3 q4 f4 k4 q5 f5 k5 aY fsY aH fsHe p0 p1 (fh_sub o_fsY.2 [0] rfl) (fh_sub o_fsHe.2 [0, 1, 2, 3, 4, 5, 6, 7, 8] rfl) (by (try simp only [i_lt, i_le, i_eq, kc_0, kc_20, kc_24, kc_29] at c2068 c2069 c2070 c2071 c2072 c2382 c2391 c2409); omega) (by (try simp only [i_lt, i_le, i_eq, kc_0, kc_60] at c2385 c2386); omega)) (cwV 2 hts g_x_make_z_X2_create_1_215 rfl rfl rfl (by decide +kernel) ⟨Nat.le_of_ble_eq_true rfl, Nat.le_of_ble_eq_true rfl⟩) ⟨fun a U g mk q => by obtain ⟨q0, q1, qP, qK, qD⟩ := q; exact ⟨q0, q1, qP, va_K.moved (u := U) (U := U.calling g mk a) (Vm.Alike.refl U.vm) qK, qD⟩, va_recv hK hP (ci := 5) (q0 := 7) rfl rfl, fun U hU hW => ⟨rfl, by rw [hU], by rw [hU]; exact hPc, va_K.moved hW.alike hKc, hDc.weaken (fun _ _ _ _ => trivial)⟩⟩ rfl rfl hl.1 rfl (lv_room (Nat.le_of_ble_eq_true rfl)) dX11_make_83 ⟨Nat.le_of_ble_eq_true rfl, Nat.le_of_ble_eq_true rfl⟩) hS (fun q _ h => hFc q h) hFc (fun r2578 u t H1 locs ht hvm hw hB hz1 hk1 hS => ?_)
              obtain ⟨f2579, f2580, f2581, f2582, f2583, s2584⟩ := u
              obtain ⟨hP1, hK1, hD1⟩ := hB
              rw [ht] at hP1
              try dsimp only at hw
              obtain ⟨hP, hD⟩ := va_join (wr := [(aX, .inr (14, fsX))]) (w1 := [(q1, .inl (k1, 400, .inl f2579)), (q2, .inl (k2, 400, .inl f2580)), (q3, .inl (k3, 400, .inl f2581)), (q4, .inl (k4, 4000, .inr (.inl f2582))), (q5, .inl (k5, 4000, .inl f2583)), (aY, .inr (13, fsY)), (aH, .inr (5, s2584))]) hP hD [1, 2, 3, 4, 5, 6, 7] [0] rfl rfl (by decide) (by decide) hk1 hFc hP1 hD1
              have hK := hK.sub (tys' := [(k1, .int), (k2, .int), (k3, .int), (k4, .long), (k5, .boolean)]) [0, 1, 2, 3, 4] rfl
              generalize H1 = H at hP hS ⊢
              have hP : va_P (dC, dI) vwCl [(aX, .inr (14, fsX)), (q1, .inl (k1, 400, .inl f2579)), (q2, .inl (k2, 400, .inl f2580)), (q3, .inl (k3, 400, .inl f2581)), (q4, .inl (k4, 4000, .inr (.inl f2582))), (q5, .inl (k5, 4000, .inl f2583)), (aY, .inr (13, fsY)), (aH, .inr (5, s2584))] H := hP
              have hD : va_D A [(aX, .inr (14, fsX)), (q1, .inl (k1, 400, .inl f2579)), (q2, .inl (k2, 400, .inl f2580)), (q3, .inl (k3, 400, .inl f2581)), (q4, .inl (k4, 4000, .inr (.inl f2582))), (q5, .inl (k5, 4000, .inl f2583)), (aY, .inr (13, fsY)), (aH, .inr (5, s2584))] := hD
              obtain ⟨c2585, c2586, c2587, er2588, o_s2584, q2589, q2590, q2591⟩ := hw
              subst er2588
              have o_s2584 := ow_on o_fsHe o_s2584 (l' := [(0, .ref aY), (4, .ref q1), (5, .ref q2), (6, .ref q3), (7, .ref q4), (8, .ref q5), (0, .ref aY), (4, .ref q1), (5, .ref q2), (6, .ref q3), (7, .ref q4), (8, .ref q5)]) (w' := [1, 2, 3]) rfl rfl
              have hP9 := hP.sub (ws' := [(aX, .inr (14, fsX)), (aY, .inr (13, fsY)), (aH, .inr (5, s2584)), (q1, .inl (k1, 400, .inl f2579)), (q2, .inl (k2, 400, .inl f2580)), (q3, .inl (k3, 400, .inl f2581)), (q4, .inl (k4, 4000, .inr (.inl f2582))), (q5, .inl (k5, 4000, .inl f2583))]) [0, 6, 7, 1, 2, 3, 4, 5] rfl
              have hD9 := hD.sub (ws' := [(aX, .inr (14, fsX)), (aY, .inr (13, fsY)), (aH, .inr (5, s2584)), (q1, .inl (k1, 400, .inl f2579)), (q2, .inl (k2, 400, .inl f2580)), (q3, .inl (k3, 400, .inl f2581)), (q4, .inl (k4, 4000, .inr (.inl f2582))), (q5, .inl (k5, 4000, .inl f2583))]) [0, 6, 7, 1, 2, 3, 4, 5] (by decide) rfl
              have hK9 := hK.sub (tys' := [(k1, .int), (k2, .int), (k3, .int), (k4, .long), (k5, .boolean)]) [0, 1, 2, 3, 4] rfl
              refine vx_ret ?_
              refine W.widen (k := 1) (n := 6) (by decide) (by decide) ?_
              exact W.iret (v := 0) hx hb hr (fun t ht hW => ⟨⟨0, (s2584, f2579, f2580, f2581, f2582, f2583), rfl, (Or.inr (⟨c2068, c2069, c2070, c2071, c2072, c2382, c2385, c2386, c2391, c2409, c2585, c2586, c2587, rfl, o_s2584, q2589, q2590, q2591⟩)), by rw [ht]; exact hP9, va_K.moved hW.alike hK9, hD9⟩, hS.F ht⟩) hS.2.2 dX11_make_86
        · skip
          exact vx_throw0 (names := ["java/lang/RuntimeException", "java/lang/Exception"]) hx hb hst hown (by decide +kernel) (by decide +kernel) (hts (.classLink RX11 127 "java/lang/IllegalArgumentException") (by decide +kernel)) (hts (.initialized "java/lang/IllegalArgumentException") (by decide +kernel)) (vx_hat (B := xB "java/lang/IllegalArgumentException") (fun w h => hts w (in_x_make_at0_X11_129 w h)) (by decide +kernel) (Zz_xB hZ (by decide))) (by decide +kernel) hZ.1 hZ.2.1 hS (hl.1.trans hml.symm) dX11_make_28 dX11_make_31 dX11_make_32 dX11_make_35 (fun x h => (htab x h).elim) (by decide) (Nat.le_of_ble_eq_true rfl) (Nat.le_of_ble_eq_true rfl) (Nat.le_of_ble_eq_true rfl) hlocks (fun t _ h1 h2 => ⟨(), trivial, (Or.inr (Or.inr (Or.inr (Or.inr (Or.inr (Or.inr (Or.inr (Or.inl ⟨rfl, c2068, c2069, c2070, c2071, c2072, c2382, c2385, c2386⟩)))))))), xx_F hS h1 h2⟩) hS.2.2 (by decide) (by decide)
  · skip
    subst er2080
    refine lv_if_eq (tgt := 28) hx hb dX11_make_8 (by decide) (fun c2592 => ?_) (fun c2592 => absurd c2592 (by decide))
    exact vx_throw0 (names := ["java/lang/RuntimeException", "java/lang/Exception"]) hx hb hst hown (by decide +kernel) (by decide +kernel) (hts (.classLink RX11 127 "java/lang/IllegalArgumentException") (by decide +kernel)) (hts (.initialized "java/lang/IllegalArgumentException") (by decide +kernel)) (vx_hat (B := xB "java/lang/IllegalArgumentException") (fun w h => hts w (in_x_make_at0_X11_129 w h)) (by decide +kernel) (Zz_xB hZ (by decide))) (by decide +kernel) hZ.1 hZ.2.1 hS (hl.1.trans hml.symm) dX11_make_28 dX11_make_31 dX11_make_32 dX11_make_35 (fun x h => (htab x h).elim) (by decide) (Nat.le_of_ble_eq_true rfl) (Nat.le_of_ble_eq_true rfl) (Nat.le_of_ble_eq_true rfl) hlocks (fun t _ h1 h2 => ⟨(), trivial, (Or.inr (Or.inr (Or.inr (Or.inr (Or.inr (Or.inr (Or.inr (Or.inr (Or.inl ⟨rfl, c2074, c2075, c2076, c2077, c2078, c2079⟩))))))))), xx_F hS h1 h2⟩) hS.2.2 (by decide) (by decide)
  · skip
    subst er2087
    refine lv_if_eq (tgt := 28) hx hb dX11_make_8 (by decide) (fun c2593 => ?_) (fun c2593 => absurd c2593 (by decide))
    exact vx_throw0 (names := ["java/lang/RuntimeException", "java/lang/Exception"]) hx hb hst hown (by decide +kernel) (by decide +kernel) (hts (.classLink RX11 127 "java/lang/IllegalArgumentException") (by decide +kernel)) (hts (.initialized "java/lang/IllegalArgumentException") (by decide +kernel)) (vx_hat (B := xB "java/lang/IllegalArgumentException") (fun w h => hts w (in_x_make_at0_X11_129 w h)) (by decide +kernel) (Zz_xB hZ (by decide))) (by decide +kernel) hZ.1 hZ.2.1 hS (hl.1.trans hml.symm) dX11_make_28 dX11_make_31 dX11_make_32 dX11_make_35 (fun x h => (htab x h).elim) (by decide) (Nat.le_of_ble_eq_true rfl) (Nat.le_of_ble_eq_true rfl) (Nat.le_of_ble_eq_true rfl) hlocks (fun t _ h1 h2 => ⟨(), trivial, (Or.inr (Or.inr (Or.inr (Or.inr (Or.inr (Or.inr (Or.inr (Or.inr (Or.inr (⟨rfl, c2081, c2082, c2083, c2084, c2085, c2086⟩)))))))))), xx_F hS h1 h2⟩) hS.2.2 (by decide) (by decide)

def l_z_X2_isThere : List Cond := [.fieldLink RX2 47 "HeapWorks$Heap" "made" "I"]
def w_z_X2_isThere : List Cond := .code yX2_isThere cX2_isThere 2 (some .boolean) :: (l_z_X2_isThere ++ (wsX20))
theorem in_z_X2_isThere_X2 : ∀ w ∈ wsX20, w ∈ w_z_X2_isThere := fun w h => List.mem_cons_of_mem _ (List.mem_append_right _ (h))
set_option maxHeartbeats 4000000 in
set_option maxRecDepth 100000 in
theorem z_X2_isThere (l : Launch) (dC : Nat → ClassId) (dI : Nat → Nat → Nat) (sz : Nat) (Ad0 : Nat) (Fs0 : List Value) (Va0 : Int32) (k_Fs0 : fh Fs0 14 [(1, .int 0)])  : Met l yX2_isThere w_z_X2_isThere ({ frames := 0, cells := 0, slots := 0, locals := 0 }) (va_Pc [.ref Ad0, .int Va0] (fun U => U.heap.size = sz ∧ Wd dC dI [] (fun _ => True) [(Ad0, .inr (5, Fs0))] U)) (va_Qi (fun (r : Int32) (u : Unit) => (Va0 < 0 ∧ r = 0) ∨ (¬ Va0 < 0 ∧ 0 ≤ Va0 ∧ r = 0)) (fun (u : Unit) t => Wd dC dI [] (va_A [(Ad0, .inr (5, Fs0))] sz) [(Ad0, .inr (5, Fs0))] t) (va_A [(Ad0, .inr (5, Fs0))] sz))  0 0 (va_A [(Ad0, .inr (5, Fs0))] sz) := by
  refine Met.ofW (cc := cX2_isThere) (maxL := 2) (ret := (some .boolean)) (by decide) rfl ?_
  intro p e s m args below meth c s₁ B hml hv
  obtain ⟨rfl, hsz, hP, hK, hD0⟩ := hv
  have hx := B.exec
  have hb := B.bytes
  have hr := B.returns
  have hts := atoms_spec (ws := w_z_X2_isThere) B.pre
  have hown : s.vm.findClass RX2 = some m.cls := findClass_of_methodNamed B.named
  have hlocks := B.notSynchronized
  subst hsz
  have hD := hD0.self (sz := s.heap.size)
  generalize hAe : va_A [(Ad0, .inr (5, Fs0))] s.heap.size = A at hD ⊢
  have hA : ∀ q : Nat, s.heap.size ≤ q → A q := fun q h => by rw [← hAe]; exact Or.inr h
  have hS : va_S A s.heap s.heap [] := va_S.rf
  have hl := lv_entry ([.ref Ad0, .int Va0]) (n := 2) (Nat.le_of_ble_eq_true rfl)
  rw [lg_entry_eq]
  generalize (lg_sl ([.ref Ad0, .int Va0]) ++ List.replicate (2 - (lg_sl ([.ref Ad0, .int Va0])).length) Slot.unset).toArray = ls at hl ⊢
  have hl : lv_has ls 2 [(0, .ref Ad0), (1, .int Va0)] := hl
  have o_Fs0 := ow_0 k_Fs0
  refine lv_iload_n hx hb dX2_isThere_0 rfl (lv_at hl 1 rfl) ?_
  refine lv_if_lt (tgt := 26) hx hb dX2_isThere_1 (by decide) (fun c2596 => ?_) (fun c2596 => ?_)
  · skip
    refine lv_iconst (v := 0) hx hb dX2_isThere_26 (by decide) ?_
    have hP9 := hP.sub (ws' := [(Ad0, .inr (5, Fs0))]) [0] rfl
    have hD9 := hD.sub (ws' := [(Ad0, .inr (5, Fs0))]) [0] (by decide) rfl
    have hK9 := hK.sub (tys' := []) [] rfl
    exact W.zret (v := 0) hx hb hr rfl (fun t ht hW => ⟨⟨0, (), rfl, (Or.inl ⟨c2596, rfl⟩), by rw [ht]; exact hP9, va_K.moved hW.alike hK9, hD9⟩, hS.F ht⟩) hS.2.2 dX2_isThere_27
  · skip
    refine lv_iload_n hx hb dX2_isThere_4 rfl (lv_at hl 1 rfl) ?_
    refine lv_aload_n hx hb dX2_isThere_5 rfl (lv_at hl 0 rfl) ?_
    refine va_get (D := (dC, dI)) (ci := 5) (v := .int 0) (C := RX2) (T := TX2) (N := 14) hx hb hts (in_z_X2_isThere_X2) hown hK hP 0 rfl rfl 1 (by decide) (hts (.fieldLink RX2 47 "HeapWorks$Heap" "made" "I") (by decide +kernel)) (fun _ h9 => h9) (ow_at o_Fs0 0 rfl) dX2_isThere_6 ?_
    refine lv_icmp_ge (tgt := 26) hx hb dX2_isThere_9 (by decide) (fun c2597 => ?_) (fun c2597 => (by exfalso; have bd_Va0 := i_bd Va0; (try simp only [i_lt, i_le, i_eq, kc_0] at c2596 c2597); omega))
    refine lv_iconst (v := 0) hx hb dX2_isThere_26 (by decide) ?_
    have hP9 := hP.sub (ws' := [(Ad0, .inr (5, Fs0))]) [0] rfl
    have hD9 := hD.sub (ws' := [(Ad0, .inr (5, Fs0))]) [0] (by decide) rfl
    have hK9 := hK.sub (tys' := []) [] rfl
    exact W.zret (v := 0) hx hb hr rfl (fun t ht hW => ⟨⟨0, (), rfl, (Or.inr (⟨c2596, c2597, rfl⟩)), by rw [ht]; exact hP9, va_K.moved hW.alike hK9, hD9⟩, hS.F ht⟩) hS.2.2 dX2_isThere_27

def l_x_root : List Cond := [.fieldLink RX11 28 "HeapWorks" "heap" "LHeapWorks$Heap;", .methodLink RX11 218 yX2_isThere, .instanceMethod yX2_isThere, .selects RX2 yX2_isThere yX2_isThere, .initialized RX2, .classLink RX11 221 "java/util/NoSuchElementException", .initialized "java/util/NoSuchElementException", .code yX2_isThere cX2_isThere 2 (some .boolean), .fieldLink RX2 47 "HeapWorks$Heap" "made" "I"]
def w_x_root : List Cond := .code yX11_root cX11_root 4 none :: (l_x_root ++ ((wsX110 ++ (((vx_at0 RX11 223 "java/util/NoSuchElementException" ["java/lang/RuntimeException", "java/lang/Exception"]).filter goodWord) ++ wsX20))))
theorem in_x_root_X11 : ∀ w ∈ wsX110, w ∈ w_x_root := fun w h => List.mem_cons_of_mem _ (List.mem_append_right _ (List.mem_append_left _ h))
theorem in_x_root_at0_X11_223 : ∀ w ∈ ((vx_at0 RX11 223 "java/util/NoSuchElementException" ["java/lang/RuntimeException", "java/lang/Exception"]).filter goodWord), w ∈ w_x_root := fun w h => List.mem_cons_of_mem _ (List.mem_append_right _ (List.mem_append_right _ (List.mem_append_left _ h)))
theorem in_x_root_X2 : ∀ w ∈ wsX20, w ∈ w_x_root := fun w h => List.mem_cons_of_mem _ (List.mem_append_right _ (List.mem_append_right _ (List.mem_append_right _ (h))))
theorem g_x_root_z_X2_isThere_218 : GoodIn w_x_root (wsV RX11 218 RX2 yX2_isThere w_z_X2_isThere) := goodIn_app (goodIn_sub (by decide +kernel) (by decide +kernel)) (goodIn_ca (goodIn_sub (by decide +kernel) (by decide +kernel)) (goodIn_in in_x_root_X2 gd_X2))
set_option maxHeartbeats 4000000 in
set_option maxRecDepth 100000 in
theorem x_root (l : Launch) (dC : Nat → ClassId) (dI : Nat → Nat → Nat) (sz : Nat) (aX : Nat) (fsX : List Value) (aH : Nat) (fsHe : List Value) (p0 : Int32) (p1 : Int32) (k_fsX : fh fsX 18 [(2, .ref aH)]) (k_fsHe : fh fsHe 14 [(1, .int 0)]) (hst : l.stackTraces = false)  : vx_Met l yX11_root w_x_root ({ frames := 7, cells := 1, slots := 6, locals := 140 }) (va_Pc [.ref aX, .int p0, .int p1] (fun U => U.heap.size = sz ∧ Zz (va_A [(aX, .inr (14, fsX)), (aH, .inr (5, fsHe))] sz) U ∧ Wd dC dI [] (fun _ => True) [(aX, .inr (14, fsX)), (aH, .inr (5, fsHe))] U)) (va_Qv (fun (u : Unit) => False) (fun (u : Unit) t => Wd dC dI [] (va_A [(aX, .inr (14, fsX)), (aH, .inr (5, fsHe))] sz) [(aX, .inr (14, fsX)), (aH, .inr (5, fsHe))] t) (va_A [(aX, .inr (14, fsX)), (aH, .inr (5, fsHe))] sz)) (vx_X (fun _ : Unit => True) (fun E _ _ => (E = "java/util/NoSuchElementException" ∧ p0 < 0) ∨ (E = "java/util/NoSuchElementException" ∧ ¬ p0 < 0 ∧ 0 ≤ p0)) (va_A [(aX, .inr (14, fsX)), (aH, .inr (5, fsHe))] sz)) 1 6 (va_A [(aX, .inr (14, fsX)), (aH, .inr (5, fsHe))] sz) := by
  refine vx_ofW (cc := cX11_root) (maxL := 4) (ret := none) (by decide) rfl ?_
  intro p e s m args below meth c s₁ B hml htab hv
  obtain ⟨rfl, hsz, hZ, hP, hK, hD0⟩ := hv
  have hx := B.exec
  have hb := B.bytes
  have hr := B.returns
  have hts := atoms_spec (ws := w_x_root) B.pre
  have hown : s.vm.findClass RX11 = some m.cls := findClass_of_methodNamed B.named
  have hlocks := B.notSynchronized
  subst hsz
  have hD := hD0.self (sz := s.heap.size)
  generalize hAe : va_A [(aX, .inr (14, fsX)), (aH, .inr (5, fsHe))] s.heap.size = A at hD hZ ⊢
  have hA : ∀ q : Nat, s.heap.size ≤ q → A q := fun q h => by rw [← hAe]; exact Or.inr h
  have hS : va_S A s.heap s.heap [] := va_S.rf
  have hl := lv_entry ([.ref aX, .int p0, .int p1]) (n := 4) (Nat.le_of_ble_eq_true rfl)
  rw [lg_entry_eq]
  generalize (lg_sl ([.ref aX, .int p0, .int p1]) ++ List.replicate (4 - (lg_sl ([.ref aX, .int p0, .int p1])).length) Slot.unset).toArray = ls at hl ⊢
  have hl : lv_has ls 4 [(0, .ref aX), (1, .int p0), (2, .int p1)] := hl
  have o_fsX := ow_0 k_fsX
  have o_fsHe := ow_0 k_fsHe
  refine lv_aload_n hx hb dX11_root_0 rfl (lv_at hl 0 rfl) ?_
  refine va_get (D := (dC, dI)) (ci := 14) (v := .ref aH) (C := RX11) (T := TX11) (N := 18) hx hb hts (in_x_root_X11) hown hK hP 0 rfl rfl 2 (by decide) (hts (.fieldLink RX11 28 "HeapWorks" "heap" "LHeapWorks$Heap;") (by decide +kernel)) (fun _ h9 => h9) (ow_at o_fsX 0 rfl) dX11_root_1 ?_
  refine lv_iload_n hx hb dX11_root_4 rfl (lv_at hl 1 rfl) ?_
  have hPc := hP.sub (ws' := [(aH, .inr (5, fsHe))]) [1] rfl
  have hDc := hD.sub (ws' := [(aH, .inr (5, fsHe))]) [1] (by decide) rfl
  have hKc := hK.sub (tys' := []) [] rfl
  have hFc := va_free (wc := [(aH, .inr (5, fsHe))]) hD hS hA [1] rfl
  refine va_calli (va_runV (As := [.int p0]) (rest := []) ⟨hx, hb, hml, hown, hts⟩ (z_X2_isThere l dC dI s.heap.size aH fsHe p0 (fh_sub o_fsHe.2 [0] rfl) ) (cwV 1 hts g_x_root_z_X2_isThere_218 rfl rfl rfl (by decide +kernel) ⟨Nat.le_of_ble_eq_true rfl, Nat.le_of_ble_eq_true rfl⟩) ⟨fun a U g mk q => by obtain ⟨q0, q1, qP, qK, qD⟩ := q; exact ⟨q0, q1, qP, va_K.moved (u := U) (U := U.calling g mk a) (Vm.Alike.refl U.vm) qK, qD⟩, va_recv hK hP (ci := 5) (q0 := 1) rfl rfl, fun U hU hW => ⟨rfl, by rw [hU], by rw [hU]; exact hPc, va_K.moved hW.alike hKc, hDc.weaken (fun _ _ _ _ => trivial)⟩⟩ rfl rfl hl.1 rfl (lv_room (Nat.le_of_ble_eq_true rfl)) dX11_root_5 ⟨Nat.le_of_ble_eq_true rfl, Nat.le_of_ble_eq_true rfl⟩) hS (fun q _ h => hFc q h) hFc (fun r2608 u t H1 locs ht hvm hw hB hz1 hk1 hS => ?_)
  obtain ⟨hP1, hK1, hD1⟩ := hB
  rw [ht] at hP1
  try dsimp only at hw
  obtain ⟨hP, hD⟩ := va_join (wr := [(aX, .inr (14, fsX))]) (w1 := [(aH, .inr (5, fsHe))]) hP hD [1] [0] rfl rfl (by decide) (by decide) hk1 hFc hP1 hD1
  have hK := hK.sub (tys' := []) [] rfl
  generalize H1 = H at hP hS ⊢
  have hP : va_P (dC, dI) vwCl [(aX, .inr (14, fsX)), (aH, .inr (5, fsHe))] H := hP
  have hD : va_D A [(aX, .inr (14, fsX)), (aH, .inr (5, fsHe))] := hD
  rcases hw with ⟨c2609, er2610⟩ | ⟨c2611, c2612, er2613⟩
  · skip
    subst er2610
    refine lv_if_ne (tgt := 19) hx hb dX11_root_8 (by decide) (fun c2614 => absurd c2614 (by decide)) (fun c2614 => ?_)
    exact vx_throw0 (names := ["java/lang/RuntimeException", "java/lang/Exception"]) hx hb hst hown (by decide +kernel) (by decide +kernel) (hts (.classLink RX11 221 "java/util/NoSuchElementException") (by decide +kernel)) (hts (.initialized "java/util/NoSuchElementException") (by decide +kernel)) (vx_hat (B := xB "java/util/NoSuchElementException") (fun w h => hts w (in_x_root_at0_X11_223 w h)) (by decide +kernel) (Zz_xB hZ (by decide))) (by decide +kernel) hZ.1 hZ.2.1 hS (hl.1.trans hml.symm) dX11_root_11 dX11_root_14 dX11_root_15 dX11_root_18 (fun x h => (htab x h).elim) (by decide) (Nat.le_of_ble_eq_true rfl) (Nat.le_of_ble_eq_true rfl) (Nat.le_of_ble_eq_true rfl) hlocks (fun t _ h1 h2 => ⟨(), trivial, (Or.inl ⟨rfl, c2609⟩), xx_F hS h1 h2⟩) hS.2.2 (by decide) (by decide)
  · skip
    subst er2613
    refine lv_if_ne (tgt := 19) hx hb dX11_root_8 (by decide) (fun c2615 => absurd c2615 (by decide)) (fun c2615 => ?_)
    exact vx_throw0 (names := ["java/lang/RuntimeException", "java/lang/Exception"]) hx hb hst hown (by decide +kernel) (by decide +kernel) (hts (.classLink RX11 221 "java/util/NoSuchElementException") (by decide +kernel)) (hts (.initialized "java/util/NoSuchElementException") (by decide +kernel)) (vx_hat (B := xB "java/util/NoSuchElementException") (fun w h => hts w (in_x_root_at0_X11_223 w h)) (by decide +kernel) (Zz_xB hZ (by decide))) (by decide +kernel) hZ.1 hZ.2.1 hS (hl.1.trans hml.symm) dX11_root_11 dX11_root_14 dX11_root_15 dX11_root_18 (fun x h => (htab x h).elim) (by decide) (Nat.le_of_ble_eq_true rfl) (Nat.le_of_ble_eq_true rfl) (Nat.le_of_ble_eq_true rfl) hlocks (fun t _ h1 h2 => ⟨(), trivial, (Or.inr (⟨rfl, c2611, c2612⟩)), xx_F hS h1 h2⟩) hS.2.2 (by decide) (by decide)

def l_z_X2_hasSlot : List Cond := [.methodLink RX2 55 yX2_isThere, .instanceMethod yX2_isThere, .selects RX2 yX2_isThere yX2_isThere, .initialized RX2, .code yX2_isThere cX2_isThere 2 (some .boolean), .fieldLink RX2 47 "HeapWorks$Heap" "made" "I"]
def w_z_X2_hasSlot : List Cond := .code yX2_hasSlot cX2_hasSlot 3 (some .boolean) :: (l_z_X2_hasSlot ++ (wsX20))
theorem in_z_X2_hasSlot_X2 : ∀ w ∈ wsX20, w ∈ w_z_X2_hasSlot := fun w h => List.mem_cons_of_mem _ (List.mem_append_right _ (h))
theorem g_z_X2_hasSlot_z_X2_isThere_55 : GoodIn w_z_X2_hasSlot (wsV RX2 55 RX2 yX2_isThere w_z_X2_isThere) := goodIn_app (goodIn_sub (by decide +kernel) (by decide +kernel)) (goodIn_ca (goodIn_sub (by decide +kernel) (by decide +kernel)) (goodIn_in in_z_X2_hasSlot_X2 gd_X2))
set_option maxHeartbeats 4000000 in
set_option maxRecDepth 100000 in
theorem z_X2_hasSlot (l : Launch) (dC : Nat → ClassId) (dI : Nat → Nat → Nat) (sz : Nat) (Ad0 : Nat) (Fs0 : List Value) (Va0 : Int32) (Va1 : Int32) (k_Fs0 : fh Fs0 14 [(1, .int 0)])  : Met l yX2_hasSlot w_z_X2_hasSlot ({ frames := 1, cells := 0, slots := 0, locals := 21 }) (va_Pc [.ref Ad0, .int Va0, .int Va1] (fun U => U.heap.size = sz ∧ Wd dC dI [] (fun _ => True) [(Ad0, .inr (5, Fs0))] U)) (va_Qi (fun (r : Int32) (u : Unit) => (Va0 < 0 ∧ r = 0) ∨ (¬ Va0 < 0 ∧ 0 ≤ Va0 ∧ r = 0)) (fun (u : Unit) t => Wd dC dI [] (va_A [(Ad0, .inr (5, Fs0))] sz) [(Ad0, .inr (5, Fs0))] t) (va_A [(Ad0, .inr (5, Fs0))] sz))  0 0 (va_A [(Ad0, .inr (5, Fs0))] sz) := by
  refine Met.ofW (cc := cX2_hasSlot) (maxL := 3) (ret := (some .boolean)) (by decide) rfl ?_
  intro p e s m args below meth c s₁ B hml hv
  obtain ⟨rfl, hsz, hP, hK, hD0⟩ := hv
  have hx := B.exec
  have hb := B.bytes
  have hr := B.returns
  have hts := atoms_spec (ws := w_z_X2_hasSlot) B.pre
  have hown : s.vm.findClass RX2 = some m.cls := findClass_of_methodNamed B.named
  have hlocks := B.notSynchronized
  subst hsz
  have hD := hD0.self (sz := s.heap.size)
  generalize hAe : va_A [(Ad0, .inr (5, Fs0))] s.heap.size = A at hD ⊢
  have hA : ∀ q : Nat, s.heap.size ≤ q → A q := fun q h => by rw [← hAe]; exact Or.inr h
  have hS : va_S A s.heap s.heap [] := va_S.rf
  have hl := lv_entry ([.ref Ad0, .int Va0, .int Va1]) (n := 3) (Nat.le_of_ble_eq_true rfl)
  rw [lg_entry_eq]
  generalize (lg_sl ([.ref Ad0, .int Va0, .int Va1]) ++ List.replicate (3 - (lg_sl ([.ref Ad0, .int Va0, .int Va1])).length) Slot.unset).toArray = ls at hl ⊢
  have hl : lv_has ls 3 [(0, .ref Ad0), (1, .int Va0), (2, .int Va1)] := hl
  have o_Fs0 := ow_0 k_Fs0
  refine lv_aload_n hx hb dX2_hasSlot_0 rfl (lv_at hl 0 rfl) ?_
  refine lv_iload_n hx hb dX2_hasSlot_1 rfl (lv_at hl 1 rfl) ?_
  have hPc := hP.sub (ws' := [(Ad0, .inr (5, Fs0))]) [0] rfl
  have hDc := hD.sub (ws' := [(Ad0, .inr (5, Fs0))]) [0] (by decide) rfl
  have hKc := hK.sub (tys' := []) [] rfl
  have hFc := va_free (wc := [(Ad0, .inr (5, Fs0))]) hD hS hA [0] rfl
  refine va_calli (va_runV (As := [.int Va0]) (rest := []) ⟨hx, hb, hml, hown, hts⟩ (z_X2_isThere l dC dI s.heap.size Ad0 Fs0 Va0 (fh_sub o_Fs0.2 [0] rfl) ) (cwV 1 hts g_z_X2_hasSlot_z_X2_isThere_55 rfl rfl rfl (by decide +kernel) ⟨Nat.le_of_ble_eq_true rfl, Nat.le_of_ble_eq_true rfl⟩) ⟨fun a U g mk q => by obtain ⟨q0, q1, qP, qK, qD⟩ := q; exact ⟨q0, q1, qP, va_K.moved (u := U) (U := U.calling g mk a) (Vm.Alike.refl U.vm) qK, qD⟩, va_recv hK hP (ci := 5) (q0 := 0) rfl rfl, fun U hU hW => ⟨rfl, by rw [hU], by rw [hU]; exact hPc, va_K.moved hW.alike hKc, hDc.weaken (fun _ _ _ _ => trivial)⟩⟩ rfl rfl hl.1 rfl (lv_room (Nat.le_of_ble_eq_true rfl)) dX2_hasSlot_2 ⟨Nat.le_of_ble_eq_true rfl, Nat.le_of_ble_eq_true rfl⟩) hS (fun q _ h => hFc q h) hFc (fun r2628 u t H1 locs ht hvm hw hB hz1 hk1 hS => ?_)
  obtain ⟨hP1, hK1, hD1⟩ := hB
  rw [ht] at hP1
  try dsimp only at hw
  obtain ⟨hP, hD⟩ := va_join (wr := []) (w1 := [(Ad0, .inr (5, Fs0))]) hP hD [0] [] rfl rfl (by decide) (by decide) hk1 hFc hP1 hD1
  have hK := hK.sub (tys' := []) [] rfl
  generalize H1 = H at hP hS ⊢
  have hP : va_P (dC, dI) vwCl [(Ad0, .inr (5, Fs0))] H := hP
  have hD : va_D A [(Ad0, .inr (5, Fs0))] := hD
  rcases hw with ⟨c2629, er2630⟩ | ⟨c2631, c2632, er2633⟩
  · skip
    subst er2630
    refine lv_if_eq (tgt := 25) hx hb dX2_hasSlot_5 (by decide) (fun c2634 => ?_) (fun c2634 => absurd c2634 (by decide))
    refine lv_iconst (v := 0) hx hb dX2_hasSlot_25 (by decide) ?_
    have hP9 := hP.sub (ws' := [(Ad0, .inr (5, Fs0))]) [0] rfl
    have hD9 := hD.sub (ws' := [(Ad0, .inr (5, Fs0))]) [0] (by decide) rfl
    have hK9 := hK.sub (tys' := []) [] rfl
    exact W.zret (v := 0) hx hb hr rfl (fun t ht hW => ⟨⟨0, (), rfl, (Or.inl ⟨c2629, rfl⟩), by rw [ht]; exact hP9, va_K.moved hW.alike hK9, hD9⟩, hS.F ht⟩) hS.2.2 dX2_hasSlot_26
  · skip
    subst er2633
    refine lv_if_eq (tgt := 25) hx hb dX2_hasSlot_5 (by decide) (fun c2635 => ?_) (fun c2635 => absurd c2635 (by decide))
    refine lv_iconst (v := 0) hx hb dX2_hasSlot_25 (by decide) ?_
    have hP9 := hP.sub (ws' := [(Ad0, .inr (5, Fs0))]) [0] rfl
    have hD9 := hD.sub (ws' := [(Ad0, .inr (5, Fs0))]) [0] (by decide) rfl
    have hK9 := hK.sub (tys' := []) [] rfl
    exact W.zret (v := 0) hx hb hr rfl (fun t ht hW => ⟨⟨0, (), rfl, (Or.inr (⟨c2631, c2632, rfl⟩)), by rw [ht]; exact hP9, va_K.moved hW.alike hK9, hD9⟩, hS.F ht⟩) hS.2.2 dX2_hasSlot_26

def l_x_set : List Cond := [.fieldLink RX11 28 "HeapWorks" "heap" "LHeapWorks$Heap;", .methodLink RX11 237 yX2_hasSlot, .instanceMethod yX2_hasSlot, .selects RX2 yX2_hasSlot yX2_hasSlot, .initialized RX2, .classLink RX11 221 "java/util/NoSuchElementException", .initialized "java/util/NoSuchElementException", .code yX2_hasSlot cX2_hasSlot 3 (some .boolean), .methodLink RX2 55 yX2_isThere, .instanceMethod yX2_isThere, .selects RX2 yX2_isThere yX2_isThere, .code yX2_isThere cX2_isThere 2 (some .boolean), .fieldLink RX2 47 "HeapWorks$Heap" "made" "I"]
def w_x_set : List Cond := .code yX11_set cX11_set 7 (some .int) :: (l_x_set ++ ((wsX110 ++ (((vx_at0 RX11 223 "java/util/NoSuchElementException" ["java/lang/RuntimeException", "java/lang/Exception"]).filter goodWord) ++ wsX20))))
theorem in_x_set_X11 : ∀ w ∈ wsX110, w ∈ w_x_set := fun w h => List.mem_cons_of_mem _ (List.mem_append_right _ (List.mem_append_left _ h))
theorem in_x_set_at0_X11_223 : ∀ w ∈ ((vx_at0 RX11 223 "java/util/NoSuchElementException" ["java/lang/RuntimeException", "java/lang/Exception"]).filter goodWord), w ∈ w_x_set := fun w h => List.mem_cons_of_mem _ (List.mem_append_right _ (List.mem_append_right _ (List.mem_append_left _ h)))
theorem in_x_set_X2 : ∀ w ∈ wsX20, w ∈ w_x_set := fun w h => List.mem_cons_of_mem _ (List.mem_append_right _ (List.mem_append_right _ (List.mem_append_right _ (h))))
theorem g_x_set_z_X2_hasSlot_237 : GoodIn w_x_set (wsV RX11 237 RX2 yX2_hasSlot w_z_X2_hasSlot) := goodIn_app (goodIn_sub (by decide +kernel) (by decide +kernel)) (goodIn_ca (goodIn_sub (by decide +kernel) (by decide +kernel)) (goodIn_in in_x_set_X2 gd_X2))
set_option maxHeartbeats 4000000 in
set_option maxRecDepth 100000 in
theorem x_set (l : Launch) (dC : Nat → ClassId) (dI : Nat → Nat → Nat) (sz : Nat) (aX : Nat) (fsX : List Value) (aH : Nat) (fsHe : List Value) (p0 : Int32) (p1 : Int32) (p2 : Int64) (k_fsX : fh fsX 18 [(2, .ref aH)]) (k_fsHe : fh fsHe 14 [(1, .int 0)]) (hst : l.stackTraces = false)  : vx_Met l yX11_set w_x_set ({ frames := 7, cells := 1, slots := 6, locals := 140 }) (va_Pc [.ref aX, .int p0, .int p1, .long p2] (fun U => U.heap.size = sz ∧ Zz (va_A [(aX, .inr (14, fsX)), (aH, .inr (5, fsHe))] sz) U ∧ Wd dC dI [] (fun _ => True) [(aX, .inr (14, fsX)), (aH, .inr (5, fsHe))] U)) (va_Qi (fun (r : Int32) (u : Unit) => False) (fun (u : Unit) t => Wd dC dI [] (va_A [(aX, .inr (14, fsX)), (aH, .inr (5, fsHe))] sz) [(aX, .inr (14, fsX)), (aH, .inr (5, fsHe))] t) (va_A [(aX, .inr (14, fsX)), (aH, .inr (5, fsHe))] sz)) (vx_X (fun _ : Unit => True) (fun E _ _ => (E = "java/util/NoSuchElementException" ∧ p0 < 0) ∨ (E = "java/util/NoSuchElementException" ∧ ¬ p0 < 0 ∧ 0 ≤ p0)) (va_A [(aX, .inr (14, fsX)), (aH, .inr (5, fsHe))] sz)) 1 6 (va_A [(aX, .inr (14, fsX)), (aH, .inr (5, fsHe))] sz) := by
  refine vx_ofW (cc := cX11_set) (maxL := 7) (ret := (some .int)) (by decide) rfl ?_
  intro p e s m args below meth c s₁ B hml htab hv
  obtain ⟨rfl, hsz, hZ, hP, hK, hD0⟩ := hv
  have hx := B.exec
  have hb := B.bytes
  have hr := B.returns
  have hts := atoms_spec (ws := w_x_set) B.pre
  have hown : s.vm.findClass RX11 = some m.cls := findClass_of_methodNamed B.named
  have hlocks := B.notSynchronized
  subst hsz
  have hD := hD0.self (sz := s.heap.size)
  generalize hAe : va_A [(aX, .inr (14, fsX)), (aH, .inr (5, fsHe))] s.heap.size = A at hD hZ ⊢
  have hA : ∀ q : Nat, s.heap.size ≤ q → A q := fun q h => by rw [← hAe]; exact Or.inr h
  have hS : va_S A s.heap s.heap [] := va_S.rf
  have hl := lv_entry ([.ref aX, .int p0, .int p1, .long p2]) (n := 7) (Nat.le_of_ble_eq_true rfl)
  rw [lg_entry_eq]
  generalize (lg_sl ([.ref aX, .int p0, .int p1, .long p2]) ++ List.replicate (7 - (lg_sl ([.ref aX, .int p0, .int p1, .long p2])).length) Slot.unset).toArray = ls at hl ⊢
  have hl : lv_has ls 7 [(0, .ref aX), (1, .int p0), (2, .int p1), (3, .long p2)] := hl
  have o_fsX := ow_0 k_fsX
  have o_fsHe := ow_0 k_fsHe
  refine lv_aload_n hx hb dX11_set_0 rfl (lv_at hl 0 rfl) ?_
  refine va_get (D := (dC, dI)) (ci := 14) (v := .ref aH) (C := RX11) (T := TX11) (N := 18) hx hb hts (in_x_set_X11) hown hK hP 0 rfl rfl 2 (by decide) (hts (.fieldLink RX11 28 "HeapWorks" "heap" "LHeapWorks$Heap;") (by decide +kernel)) (fun _ h9 => h9) (ow_at o_fsX 0 rfl) dX11_set_1 ?_
  refine lv_iload_n hx hb dX11_set_4 rfl (lv_at hl 1 rfl) ?_
  refine lv_iload_n hx hb dX11_set_5 rfl (lv_at hl 2 rfl) ?_
  have hPc := hP.sub (ws' := [(aH, .inr (5, fsHe))]) [1] rfl
  have hDc := hD.sub (ws' := [(aH, .inr (5, fsHe))]) [1] (by decide) rfl
  have hKc := hK.sub (tys' := []) [] rfl
  have hFc := va_free (wc := [(aH, .inr (5, fsHe))]) hD hS hA [1] rfl
  refine va_calli (va_runV (As := [.int p0, .int p1]) (rest := []) ⟨hx, hb, hml, hown, hts⟩ (z_X2_hasSlot l dC dI s.heap.size aH fsHe p0 p1 (fh_sub o_fsHe.2 [0] rfl) ) (cwV 2 hts g_x_set_z_X2_hasSlot_237 rfl rfl rfl (by decide +kernel) ⟨Nat.le_of_ble_eq_true rfl, Nat.le_of_ble_eq_true rfl⟩) ⟨fun a U g mk q => by obtain ⟨q0, q1, qP, qK, qD⟩ := q; exact ⟨q0, q1, qP, va_K.moved (u := U) (U := U.calling g mk a) (Vm.Alike.refl U.vm) qK, qD⟩, va_recv hK hP (ci := 5) (q0 := 1) rfl rfl, fun U hU hW => ⟨rfl, by rw [hU], by rw [hU]; exact hPc, va_K.moved hW.alike hKc, hDc.weaken (fun _ _ _ _ => trivial)⟩⟩ rfl rfl hl.1 rfl (lv_room (Nat.le_of_ble_eq_true rfl)) dX11_set_6 ⟨Nat.le_of_ble_eq_true rfl, Nat.le_of_ble_eq_true rfl⟩) hS (fun q _ h => hFc q h) hFc (fun r2654 u t H1 locs ht hvm hw hB hz1 hk1 hS => ?_)
  obtain ⟨hP1, hK1, hD1⟩ := hB
  rw [ht] at hP1
  try dsimp only at hw
  obtain ⟨hP, hD⟩ := va_join (wr := [(aX, .inr (14, fsX))]) (w1 := [(aH, .inr (5, fsHe))]) hP hD [1] [0] rfl rfl (by decide) (by decide) hk1 hFc hP1 hD1
  have hK := hK.sub (tys' := []) [] rfl
  generalize H1 = H at hP hS ⊢
  have hP : va_P (dC, dI) vwCl [(aX, .inr (14, fsX)), (aH, .inr (5, fsHe))] H := hP
  have hD : va_D A [(aX, .inr (14, fsX)), (aH, .inr (5, fsHe))] := hD
  rcases hw with ⟨c2655, er2656⟩ | ⟨c2657, c2658, er2659⟩
  · skip
    subst er2656
    refine lv_if_ne (tgt := 20) hx hb dX11_set_9 (by decide) (fun c2660 => absurd c2660 (by decide)) (fun c2660 => ?_)
    exact vx_throw0 (names := ["java/lang/RuntimeException", "java/lang/Exception"]) hx hb hst hown (by decide +kernel) (by decide +kernel) (hts (.classLink RX11 221 "java/util/NoSuchElementException") (by decide +kernel)) (hts (.initialized "java/util/NoSuchElementException") (by decide +kernel)) (vx_hat (B := xB "java/util/NoSuchElementException") (fun w h => hts w (in_x_set_at0_X11_223 w h)) (by decide +kernel) (Zz_xB hZ (by decide))) (by decide +kernel) hZ.1 hZ.2.1 hS (hl.1.trans hml.symm) dX11_set_12 dX11_set_15 dX11_set_16 dX11_set_19 (fun x h => (htab x h).elim) (by decide) (Nat.le_of_ble_eq_true rfl) (Nat.le_of_ble_eq_true rfl) (Nat.le_of_ble_eq_true rfl) hlocks (fun t _ h1 h2 => ⟨(), trivial, (Or.inl ⟨rfl, c2655⟩), xx_F hS h1 h2⟩) hS.2.2 (by decide) (by decide)
  · skip
    subst er2659
    refine lv_if_ne (tgt := 20) hx hb dX11_set_9 (by decide) (fun c2661 => absurd c2661 (by decide)) (fun c2661 => ?_)
    exact vx_throw0 (names := ["java/lang/RuntimeException", "java/lang/Exception"]) hx hb hst hown (by decide +kernel) (by decide +kernel) (hts (.classLink RX11 221 "java/util/NoSuchElementException") (by decide +kernel)) (hts (.initialized "java/util/NoSuchElementException") (by decide +kernel)) (vx_hat (B := xB "java/util/NoSuchElementException") (fun w h => hts w (in_x_set_at0_X11_223 w h)) (by decide +kernel) (Zz_xB hZ (by decide))) (by decide +kernel) hZ.1 hZ.2.1 hS (hl.1.trans hml.symm) dX11_set_12 dX11_set_15 dX11_set_16 dX11_set_19 (fun x h => (htab x h).elim) (by decide) (Nat.le_of_ble_eq_true rfl) (Nat.le_of_ble_eq_true rfl) (Nat.le_of_ble_eq_true rfl) hlocks (fun t _ h1 h2 => ⟨(), trivial, (Or.inr (⟨rfl, c2657, c2658⟩)), xx_F hS h1 h2⟩) hS.2.2 (by decide) (by decide)

def l_z_X10_staticField : List Cond := [.methodLink RX10 69 yX10_isClass, .instanceMethod yX10_isClass, .selects RX10 yX10_isClass yX10_isClass, .initialized RX10, .code yX10_isClass cX10_isClass 2 (some .boolean), .fieldLink RX10 65 "HeapWorks$Types" "count" "I"]
def w_z_X10_staticField : List Cond := .code yX10_staticField cX10_staticField 5 (some .int) :: (l_z_X10_staticField ++ (wsX100))
theorem in_z_X10_staticField_X10 : ∀ w ∈ wsX100, w ∈ w_z_X10_staticField := fun w h => List.mem_cons_of_mem _ (List.mem_append_right _ (h))
theorem g_z_X10_staticField_z_X10_isClass_69 : GoodIn w_z_X10_staticField (wsV RX10 69 RX10 yX10_isClass w_z_X10_isClass) := goodIn_app (goodIn_sub (by decide +kernel) (by decide +kernel)) (goodIn_ca (goodIn_sub (by decide +kernel) (by decide +kernel)) (goodIn_in in_z_X10_staticField_X10 gd_X10))
set_option maxHeartbeats 4000000 in
set_option maxRecDepth 100000 in
theorem z_X10_staticField (l : Launch) (dC : Nat → ClassId) (dI : Nat → Nat → Nat) (sz : Nat) (Ad0 : Nat) (Fs0 : List Value) (Va0 : Int32) (Va1 : Int32) (k_Fs0 : fh Fs0 18 [(0, .int 0)])  : Met l yX10_staticField w_z_X10_staticField ({ frames := 1, cells := 0, slots := 0, locals := 21 }) (va_Pc [.ref Ad0, .int Va0, .int Va1] (fun U => U.heap.size = sz ∧ Wd dC dI [] (fun _ => True) [(Ad0, .inr (13, Fs0))] U)) (va_Qi (fun (r : Int32) (u : Unit) => (Va0 < 0 ∧ r = (-1)) ∨ (¬ Va0 < 0 ∧ 0 ≤ Va0 ∧ r = (-1))) (fun (u : Unit) t => Wd dC dI [] (va_A [(Ad0, .inr (13, Fs0))] sz) [(Ad0, .inr (13, Fs0))] t) (va_A [(Ad0, .inr (13, Fs0))] sz))  0 0 (va_A [(Ad0, .inr (13, Fs0))] sz) := by
  refine Met.ofW (cc := cX10_staticField) (maxL := 5) (ret := (some .int)) (by decide) rfl ?_
  intro p e s m args below meth c s₁ B hml hv
  obtain ⟨rfl, hsz, hP, hK, hD0⟩ := hv
  have hx := B.exec
  have hb := B.bytes
  have hr := B.returns
  have hts := atoms_spec (ws := w_z_X10_staticField) B.pre
  have hown : s.vm.findClass RX10 = some m.cls := findClass_of_methodNamed B.named
  have hlocks := B.notSynchronized
  subst hsz
  have hD := hD0.self (sz := s.heap.size)
  generalize hAe : va_A [(Ad0, .inr (13, Fs0))] s.heap.size = A at hD ⊢
  have hA : ∀ q : Nat, s.heap.size ≤ q → A q := fun q h => by rw [← hAe]; exact Or.inr h
  have hS : va_S A s.heap s.heap [] := va_S.rf
  have hl := lv_entry ([.ref Ad0, .int Va0, .int Va1]) (n := 5) (Nat.le_of_ble_eq_true rfl)
  rw [lg_entry_eq]
  generalize (lg_sl ([.ref Ad0, .int Va0, .int Va1]) ++ List.replicate (5 - (lg_sl ([.ref Ad0, .int Va0, .int Va1])).length) Slot.unset).toArray = ls at hl ⊢
  have hl : lv_has ls 5 [(0, .ref Ad0), (1, .int Va0), (2, .int Va1)] := hl
  have o_Fs0 := ow_0 k_Fs0
  refine lv_aload_n hx hb dX10_staticField_0 rfl (lv_at hl 0 rfl) ?_
  refine lv_iload_n hx hb dX10_staticField_1 rfl (lv_at hl 1 rfl) ?_
  have hPc := hP.sub (ws' := [(Ad0, .inr (13, Fs0))]) [0] rfl
  have hDc := hD.sub (ws' := [(Ad0, .inr (13, Fs0))]) [0] (by decide) rfl
  have hKc := hK.sub (tys' := []) [] rfl
  have hFc := va_free (wc := [(Ad0, .inr (13, Fs0))]) hD hS hA [0] rfl
  refine va_calli (va_runV (As := [.int Va0]) (rest := []) ⟨hx, hb, hml, hown, hts⟩ (z_X10_isClass l dC dI s.heap.size Ad0 Fs0 Va0 (fh_sub o_Fs0.2 [0] rfl) ) (cwV 1 hts g_z_X10_staticField_z_X10_isClass_69 rfl rfl rfl (by decide +kernel) ⟨Nat.le_of_ble_eq_true rfl, Nat.le_of_ble_eq_true rfl⟩) ⟨fun a U g mk q => by obtain ⟨q0, q1, qP, qK, qD⟩ := q; exact ⟨q0, q1, qP, va_K.moved (u := U) (U := U.calling g mk a) (Vm.Alike.refl U.vm) qK, qD⟩, va_recv hK hP (ci := 13) (q0 := 0) rfl rfl, fun U hU hW => ⟨rfl, by rw [hU], by rw [hU]; exact hPc, va_K.moved hW.alike hKc, hDc.weaken (fun _ _ _ _ => trivial)⟩⟩ rfl rfl hl.1 rfl (lv_room (Nat.le_of_ble_eq_true rfl)) dX10_staticField_2 ⟨Nat.le_of_ble_eq_true rfl, Nat.le_of_ble_eq_true rfl⟩) hS (fun q _ h => hFc q h) hFc (fun r2674 u t H1 locs ht hvm hw hB hz1 hk1 hS => ?_)
  obtain ⟨hP1, hK1, hD1⟩ := hB
  rw [ht] at hP1
  try dsimp only at hw
  obtain ⟨hP, hD⟩ := va_join (wr := []) (w1 := [(Ad0, .inr (13, Fs0))]) hP hD [0] [] rfl rfl (by decide) (by decide) hk1 hFc hP1 hD1
  have hK := hK.sub (tys' := []) [] rfl
  generalize H1 = H at hP hS ⊢
  have hP : va_P (dC, dI) vwCl [(Ad0, .inr (13, Fs0))] H := hP
  have hD : va_D A [(Ad0, .inr (13, Fs0))] := hD
  rcases hw with ⟨c2675, er2676⟩ | ⟨c2677, c2678, er2679⟩
  · skip
    subst er2676
    refine lv_if_eq (tgt := 22) hx hb dX10_staticField_5 (by decide) (fun c2680 => ?_) (fun c2680 => absurd c2680 (by decide))
    refine lv_iconst (v := (-1)) hx hb dX10_staticField_22 (by decide) ?_
    have hP9 := hP.sub (ws' := [(Ad0, .inr (13, Fs0))]) [0] rfl
    have hD9 := hD.sub (ws' := [(Ad0, .inr (13, Fs0))]) [0] (by decide) rfl
    have hK9 := hK.sub (tys' := []) [] rfl
    exact W.iret (v := (-1)) hx hb hr (fun t ht hW => ⟨⟨(-1), (), rfl, (Or.inl ⟨c2675, rfl⟩), by rw [ht]; exact hP9, va_K.moved hW.alike hK9, hD9⟩, hS.F ht⟩) hS.2.2 dX10_staticField_23
  · skip
    subst er2679
    refine lv_if_eq (tgt := 22) hx hb dX10_staticField_5 (by decide) (fun c2681 => ?_) (fun c2681 => absurd c2681 (by decide))
    refine lv_iconst (v := (-1)) hx hb dX10_staticField_22 (by decide) ?_
    have hP9 := hP.sub (ws' := [(Ad0, .inr (13, Fs0))]) [0] rfl
    have hD9 := hD.sub (ws' := [(Ad0, .inr (13, Fs0))]) [0] (by decide) rfl
    have hK9 := hK.sub (tys' := []) [] rfl
    exact W.iret (v := (-1)) hx hb hr (fun t ht hW => ⟨⟨(-1), (), rfl, (Or.inr (⟨c2677, c2678, rfl⟩)), by rw [ht]; exact hP9, va_K.moved hW.alike hK9, hD9⟩, hS.F ht⟩) hS.2.2 dX10_staticField_23

def l_x_setStatic : List Cond := [.fieldLink RX11 19 "HeapWorks" "types" "LHeapWorks$Types;", .methodLink RX11 260 yX10_staticField, .instanceMethod yX10_staticField, .selects RX10 yX10_staticField yX10_staticField, .initialized RX10, .classLink RX11 221 "java/util/NoSuchElementException", .initialized "java/util/NoSuchElementException", .code yX10_staticField cX10_staticField 5 (some .int), .methodLink RX10 69 yX10_isClass, .instanceMethod yX10_isClass, .selects RX10 yX10_isClass yX10_isClass, .code yX10_isClass cX10_isClass 2 (some .boolean), .fieldLink RX10 65 "HeapWorks$Types" "count" "I"]
def w_x_setStatic : List Cond := .code yX11_setStatic cX11_setStatic 8 (some .int) :: (l_x_setStatic ++ ((wsX110 ++ (((vx_at0 RX11 223 "java/util/NoSuchElementException" ["java/lang/RuntimeException", "java/lang/Exception"]).filter goodWord) ++ wsX100))))
theorem in_x_setStatic_X11 : ∀ w ∈ wsX110, w ∈ w_x_setStatic := fun w h => List.mem_cons_of_mem _ (List.mem_append_right _ (List.mem_append_left _ h))
theorem in_x_setStatic_at0_X11_223 : ∀ w ∈ ((vx_at0 RX11 223 "java/util/NoSuchElementException" ["java/lang/RuntimeException", "java/lang/Exception"]).filter goodWord), w ∈ w_x_setStatic := fun w h => List.mem_cons_of_mem _ (List.mem_append_right _ (List.mem_append_right _ (List.mem_append_left _ h)))
theorem in_x_setStatic_X10 : ∀ w ∈ wsX100, w ∈ w_x_setStatic := fun w h => List.mem_cons_of_mem _ (List.mem_append_right _ (List.mem_append_right _ (List.mem_append_right _ (h))))
theorem g_x_setStatic_z_X10_staticField_260 : GoodIn w_x_setStatic (wsV RX11 260 RX10 yX10_staticField w_z_X10_staticField) := goodIn_app (goodIn_sub (by decide +kernel) (by decide +kernel)) (goodIn_ca (goodIn_sub (by decide +kernel) (by decide +kernel)) (goodIn_in in_x_setStatic_X10 gd_X10))
set_option maxHeartbeats 4000000 in
set_option maxRecDepth 100000 in
theorem x_setStatic (l : Launch) (dC : Nat → ClassId) (dI : Nat → Nat → Nat) (sz : Nat) (aX : Nat) (fsX : List Value) (aY : Nat) (fsY : List Value) (p0 : Int32) (p1 : Int32) (p2 : Int64) (k_fsX : fh fsX 18 [(1, .ref aY)]) (k_fsY : fh fsY 18 [(0, .int 0)]) (hst : l.stackTraces = false)  : vx_Met l yX11_setStatic w_x_setStatic ({ frames := 7, cells := 1, slots := 6, locals := 140 }) (va_Pc [.ref aX, .int p0, .int p1, .long p2] (fun U => U.heap.size = sz ∧ Zz (va_A [(aX, .inr (14, fsX)), (aY, .inr (13, fsY))] sz) U ∧ Wd dC dI [] (fun _ => True) [(aX, .inr (14, fsX)), (aY, .inr (13, fsY))] U)) (va_Qi (fun (r : Int32) (u : Unit) => False) (fun (u : Unit) t => Wd dC dI [] (va_A [(aX, .inr (14, fsX)), (aY, .inr (13, fsY))] sz) [(aX, .inr (14, fsX)), (aY, .inr (13, fsY))] t) (va_A [(aX, .inr (14, fsX)), (aY, .inr (13, fsY))] sz)) (vx_X (fun _ : Unit => True) (fun E _ _ => (E = "java/util/NoSuchElementException" ∧ p0 < 0) ∨ (E = "java/util/NoSuchElementException" ∧ ¬ p0 < 0 ∧ 0 ≤ p0)) (va_A [(aX, .inr (14, fsX)), (aY, .inr (13, fsY))] sz)) 1 6 (va_A [(aX, .inr (14, fsX)), (aY, .inr (13, fsY))] sz) := by
  refine vx_ofW (cc := cX11_setStatic) (maxL := 8) (ret := (some .int)) (by decide) rfl ?_
  intro p e s m args below meth c s₁ B hml htab hv
  obtain ⟨rfl, hsz, hZ, hP, hK, hD0⟩ := hv
  have hx := B.exec
  have hb := B.bytes
  have hr := B.returns
  have hts := atoms_spec (ws := w_x_setStatic) B.pre
  have hown : s.vm.findClass RX11 = some m.cls := findClass_of_methodNamed B.named
  have hlocks := B.notSynchronized
  subst hsz
  have hD := hD0.self (sz := s.heap.size)
  generalize hAe : va_A [(aX, .inr (14, fsX)), (aY, .inr (13, fsY))] s.heap.size = A at hD hZ ⊢
  have hA : ∀ q : Nat, s.heap.size ≤ q → A q := fun q h => by rw [← hAe]; exact Or.inr h
  have hS : va_S A s.heap s.heap [] := va_S.rf
  have hl := lv_entry ([.ref aX, .int p0, .int p1, .long p2]) (n := 8) (Nat.le_of_ble_eq_true rfl)
  rw [lg_entry_eq]
  generalize (lg_sl ([.ref aX, .int p0, .int p1, .long p2]) ++ List.replicate (8 - (lg_sl ([.ref aX, .int p0, .int p1, .long p2])).length) Slot.unset).toArray = ls at hl ⊢
  have hl : lv_has ls 8 [(0, .ref aX), (1, .int p0), (2, .int p1), (3, .long p2)] := hl
  have o_fsX := ow_0 k_fsX
  have o_fsY := ow_0 k_fsY
  refine lv_aload_n hx hb dX11_setStatic_0 rfl (lv_at hl 0 rfl) ?_
  refine va_get (D := (dC, dI)) (ci := 14) (v := .ref aY) (C := RX11) (T := TX11) (N := 18) hx hb hts (in_x_setStatic_X11) hown hK hP 0 rfl rfl 1 (by decide) (hts (.fieldLink RX11 19 "HeapWorks" "types" "LHeapWorks$Types;") (by decide +kernel)) (fun _ h9 => h9) (ow_at o_fsX 0 rfl) dX11_setStatic_1 ?_
  refine lv_iload_n hx hb dX11_setStatic_4 rfl (lv_at hl 1 rfl) ?_
  refine lv_iload_n hx hb dX11_setStatic_5 rfl (lv_at hl 2 rfl) ?_
  have hPc := hP.sub (ws' := [(aY, .inr (13, fsY))]) [1] rfl
  have hDc := hD.sub (ws' := [(aY, .inr (13, fsY))]) [1] (by decide) rfl
  have hKc := hK.sub (tys' := []) [] rfl
  have hFc := va_free (wc := [(aY, .inr (13, fsY))]) hD hS hA [1] rfl
  refine va_calli (va_runV (As := [.int p0, .int p1]) (rest := []) ⟨hx, hb, hml, hown, hts⟩ (z_X10_staticField l dC dI s.heap.size aY fsY p0 p1 (fh_sub o_fsY.2 [0] rfl) ) (cwV 2 hts g_x_setStatic_z_X10_staticField_260 rfl rfl rfl (by decide +kernel) ⟨Nat.le_of_ble_eq_true rfl, Nat.le_of_ble_eq_true rfl⟩) ⟨fun a U g mk q => by obtain ⟨q0, q1, qP, qK, qD⟩ := q; exact ⟨q0, q1, qP, va_K.moved (u := U) (U := U.calling g mk a) (Vm.Alike.refl U.vm) qK, qD⟩, va_recv hK hP (ci := 13) (q0 := 1) rfl rfl, fun U hU hW => ⟨rfl, by rw [hU], by rw [hU]; exact hPc, va_K.moved hW.alike hKc, hDc.weaken (fun _ _ _ _ => trivial)⟩⟩ rfl rfl hl.1 rfl (lv_room (Nat.le_of_ble_eq_true rfl)) dX11_setStatic_6 ⟨Nat.le_of_ble_eq_true rfl, Nat.le_of_ble_eq_true rfl⟩) hS (fun q _ h => hFc q h) hFc (fun r2700 u t H1 locs ht hvm hw hB hz1 hk1 hS => ?_)
  obtain ⟨hP1, hK1, hD1⟩ := hB
  rw [ht] at hP1
  try dsimp only at hw
  obtain ⟨hP, hD⟩ := va_join (wr := [(aX, .inr (14, fsX))]) (w1 := [(aY, .inr (13, fsY))]) hP hD [1] [0] rfl rfl (by decide) (by decide) hk1 hFc hP1 hD1
  have hK := hK.sub (tys' := []) [] rfl
  generalize H1 = H at hP hS ⊢
  have hP : va_P (dC, dI) vwCl [(aX, .inr (14, fsX)), (aY, .inr (13, fsY))] H := hP
  have hD : va_D A [(aX, .inr (14, fsX)), (aY, .inr (13, fsY))] := hD
  rcases hw with ⟨c2701, er2702⟩ | ⟨c2703, c2704, er2705⟩
  · skip
    subst er2702
    refine lv_istore (lv' := [(5, .int (-1)), (0, .ref aX), (1, .int p0), (2, .int p1), (3, .long p2)]) hx hb dX11_setStatic_9 hl (by decide) rfl (fun ls hl => ?_)
    refine lv_iload hx hb dX11_setStatic_11 (lv_at hl 0 rfl) ?_
    refine lv_iconst (v := (-1)) hx hb dX11_setStatic_13 (by decide) ?_
    refine lv_icmp_ne (tgt := 25) hx hb dX11_setStatic_14 (by decide) (fun c2706 => absurd c2706 (by decide)) (fun c2706 => ?_)
    exact vx_throw0 (names := ["java/lang/RuntimeException", "java/lang/Exception"]) hx hb hst hown (by decide +kernel) (by decide +kernel) (hts (.classLink RX11 221 "java/util/NoSuchElementException") (by decide +kernel)) (hts (.initialized "java/util/NoSuchElementException") (by decide +kernel)) (vx_hat (B := xB "java/util/NoSuchElementException") (fun w h => hts w (in_x_setStatic_at0_X11_223 w h)) (by decide +kernel) (Zz_xB hZ (by decide))) (by decide +kernel) hZ.1 hZ.2.1 hS (hl.1.trans hml.symm) dX11_setStatic_17 dX11_setStatic_20 dX11_setStatic_21 dX11_setStatic_24 (fun x h => (htab x h).elim) (by decide) (Nat.le_of_ble_eq_true rfl) (Nat.le_of_ble_eq_true rfl) (Nat.le_of_ble_eq_true rfl) hlocks (fun t _ h1 h2 => ⟨(), trivial, (Or.inl ⟨rfl, c2701⟩), xx_F hS h1 h2⟩) hS.2.2 (by decide) (by decide)
  · skip
    subst er2705
    refine lv_istore (lv' := [(5, .int (-1)), (0, .ref aX), (1, .int p0), (2, .int p1), (3, .long p2)]) hx hb dX11_setStatic_9 hl (by decide) rfl (fun ls hl => ?_)
    refine lv_iload hx hb dX11_setStatic_11 (lv_at hl 0 rfl) ?_
    refine lv_iconst (v := (-1)) hx hb dX11_setStatic_13 (by decide) ?_
    refine lv_icmp_ne (tgt := 25) hx hb dX11_setStatic_14 (by decide) (fun c2707 => absurd c2707 (by decide)) (fun c2707 => ?_)
    exact vx_throw0 (names := ["java/lang/RuntimeException", "java/lang/Exception"]) hx hb hst hown (by decide +kernel) (by decide +kernel) (hts (.classLink RX11 221 "java/util/NoSuchElementException") (by decide +kernel)) (hts (.initialized "java/util/NoSuchElementException") (by decide +kernel)) (vx_hat (B := xB "java/util/NoSuchElementException") (fun w h => hts w (in_x_setStatic_at0_X11_223 w h)) (by decide +kernel) (Zz_xB hZ (by decide))) (by decide +kernel) hZ.1 hZ.2.1 hS (hl.1.trans hml.symm) dX11_setStatic_17 dX11_setStatic_20 dX11_setStatic_21 dX11_setStatic_24 (fun x h => (htab x h).elim) (by decide) (Nat.le_of_ble_eq_true rfl) (Nat.le_of_ble_eq_true rfl) (Nat.le_of_ble_eq_true rfl) hlocks (fun t _ h1 h2 => ⟨(), trivial, (Or.inr (⟨rfl, c2703, c2704⟩)), xx_F hS h1 h2⟩) hS.2.2 (by decide) (by decide)

def l_x_get : List Cond := [.fieldLink RX11 28 "HeapWorks" "heap" "LHeapWorks$Heap;", .methodLink RX11 237 yX2_hasSlot, .instanceMethod yX2_hasSlot, .selects RX2 yX2_hasSlot yX2_hasSlot, .initialized RX2, .classLink RX11 221 "java/util/NoSuchElementException", .initialized "java/util/NoSuchElementException", .code yX2_hasSlot cX2_hasSlot 3 (some .boolean), .methodLink RX2 55 yX2_isThere, .instanceMethod yX2_isThere, .selects RX2 yX2_isThere yX2_isThere, .code yX2_isThere cX2_isThere 2 (some .boolean), .fieldLink RX2 47 "HeapWorks$Heap" "made" "I"]
def w_x_get : List Cond := .code yX11_get cX11_get 3 (some .long) :: (l_x_get ++ ((wsX110 ++ (((vx_at0 RX11 223 "java/util/NoSuchElementException" ["java/lang/RuntimeException", "java/lang/Exception"]).filter goodWord) ++ wsX20))))
theorem in_x_get_X11 : ∀ w ∈ wsX110, w ∈ w_x_get := fun w h => List.mem_cons_of_mem _ (List.mem_append_right _ (List.mem_append_left _ h))
theorem in_x_get_at0_X11_223 : ∀ w ∈ ((vx_at0 RX11 223 "java/util/NoSuchElementException" ["java/lang/RuntimeException", "java/lang/Exception"]).filter goodWord), w ∈ w_x_get := fun w h => List.mem_cons_of_mem _ (List.mem_append_right _ (List.mem_append_right _ (List.mem_append_left _ h)))
theorem in_x_get_X2 : ∀ w ∈ wsX20, w ∈ w_x_get := fun w h => List.mem_cons_of_mem _ (List.mem_append_right _ (List.mem_append_right _ (List.mem_append_right _ (h))))
theorem g_x_get_z_X2_hasSlot_237 : GoodIn w_x_get (wsV RX11 237 RX2 yX2_hasSlot w_z_X2_hasSlot) := goodIn_app (goodIn_sub (by decide +kernel) (by decide +kernel)) (goodIn_ca (goodIn_sub (by decide +kernel) (by decide +kernel)) (goodIn_in in_x_get_X2 gd_X2))
set_option maxHeartbeats 4000000 in
set_option maxRecDepth 100000 in
theorem x_get (l : Launch) (dC : Nat → ClassId) (dI : Nat → Nat → Nat) (sz : Nat) (aX : Nat) (fsX : List Value) (aH : Nat) (fsHe : List Value) (p0 : Int32) (p1 : Int32) (k_fsX : fh fsX 18 [(2, .ref aH)]) (k_fsHe : fh fsHe 14 [(1, .int 0)]) (hst : l.stackTraces = false)  : vx_Met l yX11_get w_x_get ({ frames := 7, cells := 1, slots := 6, locals := 140 }) (va_Pc [.ref aX, .int p0, .int p1] (fun U => U.heap.size = sz ∧ Zz (va_A [(aX, .inr (14, fsX)), (aH, .inr (5, fsHe))] sz) U ∧ Wd dC dI [] (fun _ => True) [(aX, .inr (14, fsX)), (aH, .inr (5, fsHe))] U)) (va_Ql (fun (r : Int64) (u : Unit) => False) (fun (u : Unit) t => Wd dC dI [] (va_A [(aX, .inr (14, fsX)), (aH, .inr (5, fsHe))] sz) [(aX, .inr (14, fsX)), (aH, .inr (5, fsHe))] t) (va_A [(aX, .inr (14, fsX)), (aH, .inr (5, fsHe))] sz)) (vx_X (fun _ : Unit => True) (fun E _ _ => (E = "java/util/NoSuchElementException" ∧ p0 < 0) ∨ (E = "java/util/NoSuchElementException" ∧ ¬ p0 < 0 ∧ 0 ≤ p0)) (va_A [(aX, .inr (14, fsX)), (aH, .inr (5, fsHe))] sz)) 1 6 (va_A [(aX, .inr (14, fsX)), (aH, .inr (5, fsHe))] sz) := by
  refine vx_ofW (cc := cX11_get) (maxL := 3) (ret := (some .long)) (by decide) rfl ?_
  intro p e s m args below meth c s₁ B hml htab hv
  obtain ⟨rfl, hsz, hZ, hP, hK, hD0⟩ := hv
  have hx := B.exec
  have hb := B.bytes
  have hr := B.returns
  have hts := atoms_spec (ws := w_x_get) B.pre
  have hown : s.vm.findClass RX11 = some m.cls := findClass_of_methodNamed B.named
  have hlocks := B.notSynchronized
  subst hsz
  have hD := hD0.self (sz := s.heap.size)
  generalize hAe : va_A [(aX, .inr (14, fsX)), (aH, .inr (5, fsHe))] s.heap.size = A at hD hZ ⊢
  have hA : ∀ q : Nat, s.heap.size ≤ q → A q := fun q h => by rw [← hAe]; exact Or.inr h
  have hS : va_S A s.heap s.heap [] := va_S.rf
  have hl := lv_entry ([.ref aX, .int p0, .int p1]) (n := 3) (Nat.le_of_ble_eq_true rfl)
  rw [lg_entry_eq]
  generalize (lg_sl ([.ref aX, .int p0, .int p1]) ++ List.replicate (3 - (lg_sl ([.ref aX, .int p0, .int p1])).length) Slot.unset).toArray = ls at hl ⊢
  have hl : lv_has ls 3 [(0, .ref aX), (1, .int p0), (2, .int p1)] := hl
  have o_fsX := ow_0 k_fsX
  have o_fsHe := ow_0 k_fsHe
  refine lv_aload_n hx hb dX11_get_0 rfl (lv_at hl 0 rfl) ?_
  refine va_get (D := (dC, dI)) (ci := 14) (v := .ref aH) (C := RX11) (T := TX11) (N := 18) hx hb hts (in_x_get_X11) hown hK hP 0 rfl rfl 2 (by decide) (hts (.fieldLink RX11 28 "HeapWorks" "heap" "LHeapWorks$Heap;") (by decide +kernel)) (fun _ h9 => h9) (ow_at o_fsX 0 rfl) dX11_get_1 ?_
  refine lv_iload_n hx hb dX11_get_4 rfl (lv_at hl 1 rfl) ?_
  refine lv_iload_n hx hb dX11_get_5 rfl (lv_at hl 2 rfl) ?_
  have hPc := hP.sub (ws' := [(aH, .inr (5, fsHe))]) [1] rfl
  have hDc := hD.sub (ws' := [(aH, .inr (5, fsHe))]) [1] (by decide) rfl
  have hKc := hK.sub (tys' := []) [] rfl
  have hFc := va_free (wc := [(aH, .inr (5, fsHe))]) hD hS hA [1] rfl
  refine va_calli (va_runV (As := [.int p0, .int p1]) (rest := []) ⟨hx, hb, hml, hown, hts⟩ (z_X2_hasSlot l dC dI s.heap.size aH fsHe p0 p1 (fh_sub o_fsHe.2 [0] rfl) ) (cwV 2 hts g_x_get_z_X2_hasSlot_237 rfl rfl rfl (by decide +kernel) ⟨Nat.le_of_ble_eq_true rfl, Nat.le_of_ble_eq_true rfl⟩) ⟨fun a U g mk q => by obtain ⟨q0, q1, qP, qK, qD⟩ := q; exact ⟨q0, q1, qP, va_K.moved (u := U) (U := U.calling g mk a) (Vm.Alike.refl U.vm) qK, qD⟩, va_recv hK hP (ci := 5) (q0 := 1) rfl rfl, fun U hU hW => ⟨rfl, by rw [hU], by rw [hU]; exact hPc, va_K.moved hW.alike hKc, hDc.weaken (fun _ _ _ _ => trivial)⟩⟩ rfl rfl hl.1 rfl (lv_room (Nat.le_of_ble_eq_true rfl)) dX11_get_6 ⟨Nat.le_of_ble_eq_true rfl, Nat.le_of_ble_eq_true rfl⟩) hS (fun q _ h => hFc q h) hFc (fun r2736 u t H1 locs ht hvm hw hB hz1 hk1 hS => ?_)
  obtain ⟨hP1, hK1, hD1⟩ := hB
  rw [ht] at hP1
  try dsimp only at hw
  obtain ⟨hP, hD⟩ := va_join (wr := [(aX, .inr (14, fsX))]) (w1 := [(aH, .inr (5, fsHe))]) hP hD [1] [0] rfl rfl (by decide) (by decide) hk1 hFc hP1 hD1
  have hK := hK.sub (tys' := []) [] rfl
  generalize H1 = H at hP hS ⊢
  have hP : va_P (dC, dI) vwCl [(aX, .inr (14, fsX)), (aH, .inr (5, fsHe))] H := hP
  have hD : va_D A [(aX, .inr (14, fsX)), (aH, .inr (5, fsHe))] := hD
  rcases hw with ⟨c2737, er2738⟩ | ⟨c2739, c2740, er2741⟩
  · skip
    subst er2738
    refine lv_if_ne (tgt := 20) hx hb dX11_get_9 (by decide) (fun c2742 => absurd c2742 (by decide)) (fun c2742 => ?_)
    exact vx_throw0 (names := ["java/lang/RuntimeException", "java/lang/Exception"]) hx hb hst hown (by decide +kernel) (by decide +kernel) (hts (.classLink RX11 221 "java/util/NoSuchElementException") (by decide +kernel)) (hts (.initialized "java/util/NoSuchElementException") (by decide +kernel)) (vx_hat (B := xB "java/util/NoSuchElementException") (fun w h => hts w (in_x_get_at0_X11_223 w h)) (by decide +kernel) (Zz_xB hZ (by decide))) (by decide +kernel) hZ.1 hZ.2.1 hS (hl.1.trans hml.symm) dX11_get_12 dX11_get_15 dX11_get_16 dX11_get_19 (fun x h => (htab x h).elim) (by decide) (Nat.le_of_ble_eq_true rfl) (Nat.le_of_ble_eq_true rfl) (Nat.le_of_ble_eq_true rfl) hlocks (fun t _ h1 h2 => ⟨(), trivial, (Or.inl ⟨rfl, c2737⟩), xx_F hS h1 h2⟩) hS.2.2 (by decide) (by decide)
  · skip
    subst er2741
    refine lv_if_ne (tgt := 20) hx hb dX11_get_9 (by decide) (fun c2743 => absurd c2743 (by decide)) (fun c2743 => ?_)
    exact vx_throw0 (names := ["java/lang/RuntimeException", "java/lang/Exception"]) hx hb hst hown (by decide +kernel) (by decide +kernel) (hts (.classLink RX11 221 "java/util/NoSuchElementException") (by decide +kernel)) (hts (.initialized "java/util/NoSuchElementException") (by decide +kernel)) (vx_hat (B := xB "java/util/NoSuchElementException") (fun w h => hts w (in_x_get_at0_X11_223 w h)) (by decide +kernel) (Zz_xB hZ (by decide))) (by decide +kernel) hZ.1 hZ.2.1 hS (hl.1.trans hml.symm) dX11_get_12 dX11_get_15 dX11_get_16 dX11_get_19 (fun x h => (htab x h).elim) (by decide) (Nat.le_of_ble_eq_true rfl) (Nat.le_of_ble_eq_true rfl) (Nat.le_of_ble_eq_true rfl) hlocks (fun t _ h1 h2 => ⟨(), trivial, (Or.inr (⟨rfl, c2739, c2740⟩)), xx_F hS h1 h2⟩) hS.2.2 (by decide) (by decide)

def l_x_getStatic : List Cond := [.fieldLink RX11 19 "HeapWorks" "types" "LHeapWorks$Types;", .methodLink RX11 260 yX10_staticField, .instanceMethod yX10_staticField, .selects RX10 yX10_staticField yX10_staticField, .initialized RX10, .classLink RX11 221 "java/util/NoSuchElementException", .initialized "java/util/NoSuchElementException", .code yX10_staticField cX10_staticField 5 (some .int), .methodLink RX10 69 yX10_isClass, .instanceMethod yX10_isClass, .selects RX10 yX10_isClass yX10_isClass, .code yX10_isClass cX10_isClass 2 (some .boolean), .fieldLink RX10 65 "HeapWorks$Types" "count" "I"]
def w_x_getStatic : List Cond := .code yX11_getStatic cX11_getStatic 4 (some .long) :: (l_x_getStatic ++ ((wsX110 ++ (((vx_at0 RX11 223 "java/util/NoSuchElementException" ["java/lang/RuntimeException", "java/lang/Exception"]).filter goodWord) ++ wsX100))))
theorem in_x_getStatic_X11 : ∀ w ∈ wsX110, w ∈ w_x_getStatic := fun w h => List.mem_cons_of_mem _ (List.mem_append_right _ (List.mem_append_left _ h))
theorem in_x_getStatic_at0_X11_223 : ∀ w ∈ ((vx_at0 RX11 223 "java/util/NoSuchElementException" ["java/lang/RuntimeException", "java/lang/Exception"]).filter goodWord), w ∈ w_x_getStatic := fun w h => List.mem_cons_of_mem _ (List.mem_append_right _ (List.mem_append_right _ (List.mem_append_left _ h)))
theorem in_x_getStatic_X10 : ∀ w ∈ wsX100, w ∈ w_x_getStatic := fun w h => List.mem_cons_of_mem _ (List.mem_append_right _ (List.mem_append_right _ (List.mem_append_right _ (h))))
theorem g_x_getStatic_z_X10_staticField_260 : GoodIn w_x_getStatic (wsV RX11 260 RX10 yX10_staticField w_z_X10_staticField) := goodIn_app (goodIn_sub (by decide +kernel) (by decide +kernel)) (goodIn_ca (goodIn_sub (by decide +kernel) (by decide +kernel)) (goodIn_in in_x_getStatic_X10 gd_X10))
set_option maxHeartbeats 4000000 in
set_option maxRecDepth 100000 in
theorem x_getStatic (l : Launch) (dC : Nat → ClassId) (dI : Nat → Nat → Nat) (sz : Nat) (aX : Nat) (fsX : List Value) (aY : Nat) (fsY : List Value) (p0 : Int32) (p1 : Int32) (k_fsX : fh fsX 18 [(1, .ref aY)]) (k_fsY : fh fsY 18 [(0, .int 0)]) (hst : l.stackTraces = false)  : vx_Met l yX11_getStatic w_x_getStatic ({ frames := 7, cells := 1, slots := 6, locals := 140 }) (va_Pc [.ref aX, .int p0, .int p1] (fun U => U.heap.size = sz ∧ Zz (va_A [(aX, .inr (14, fsX)), (aY, .inr (13, fsY))] sz) U ∧ Wd dC dI [] (fun _ => True) [(aX, .inr (14, fsX)), (aY, .inr (13, fsY))] U)) (va_Ql (fun (r : Int64) (u : Unit) => False) (fun (u : Unit) t => Wd dC dI [] (va_A [(aX, .inr (14, fsX)), (aY, .inr (13, fsY))] sz) [(aX, .inr (14, fsX)), (aY, .inr (13, fsY))] t) (va_A [(aX, .inr (14, fsX)), (aY, .inr (13, fsY))] sz)) (vx_X (fun _ : Unit => True) (fun E _ _ => (E = "java/util/NoSuchElementException" ∧ p0 < 0) ∨ (E = "java/util/NoSuchElementException" ∧ ¬ p0 < 0 ∧ 0 ≤ p0)) (va_A [(aX, .inr (14, fsX)), (aY, .inr (13, fsY))] sz)) 1 6 (va_A [(aX, .inr (14, fsX)), (aY, .inr (13, fsY))] sz) := by
  refine vx_ofW (cc := cX11_getStatic) (maxL := 4) (ret := (some .long)) (by decide) rfl ?_
  intro p e s m args below meth c s₁ B hml htab hv
  obtain ⟨rfl, hsz, hZ, hP, hK, hD0⟩ := hv
  have hx := B.exec
  have hb := B.bytes
  have hr := B.returns
  have hts := atoms_spec (ws := w_x_getStatic) B.pre
  have hown : s.vm.findClass RX11 = some m.cls := findClass_of_methodNamed B.named
  have hlocks := B.notSynchronized
  subst hsz
  have hD := hD0.self (sz := s.heap.size)
  generalize hAe : va_A [(aX, .inr (14, fsX)), (aY, .inr (13, fsY))] s.heap.size = A at hD hZ ⊢
  have hA : ∀ q : Nat, s.heap.size ≤ q → A q := fun q h => by rw [← hAe]; exact Or.inr h
  have hS : va_S A s.heap s.heap [] := va_S.rf
  have hl := lv_entry ([.ref aX, .int p0, .int p1]) (n := 4) (Nat.le_of_ble_eq_true rfl)
  rw [lg_entry_eq]
  generalize (lg_sl ([.ref aX, .int p0, .int p1]) ++ List.replicate (4 - (lg_sl ([.ref aX, .int p0, .int p1])).length) Slot.unset).toArray = ls at hl ⊢
  have hl : lv_has ls 4 [(0, .ref aX), (1, .int p0), (2, .int p1)] := hl
  have o_fsX := ow_0 k_fsX
  have o_fsY := ow_0 k_fsY
  refine lv_aload_n hx hb dX11_getStatic_0 rfl (lv_at hl 0 rfl) ?_
  refine va_get (D := (dC, dI)) (ci := 14) (v := .ref aY) (C := RX11) (T := TX11) (N := 18) hx hb hts (in_x_getStatic_X11) hown hK hP 0 rfl rfl 1 (by decide) (hts (.fieldLink RX11 19 "HeapWorks" "types" "LHeapWorks$Types;") (by decide +kernel)) (fun _ h9 => h9) (ow_at o_fsX 0 rfl) dX11_getStatic_1 ?_
  refine lv_iload_n hx hb dX11_getStatic_4 rfl (lv_at hl 1 rfl) ?_
  refine lv_iload_n hx hb dX11_getStatic_5 rfl (lv_at hl 2 rfl) ?_
  have hPc := hP.sub (ws' := [(aY, .inr (13, fsY))]) [1] rfl
  have hDc := hD.sub (ws' := [(aY, .inr (13, fsY))]) [1] (by decide) rfl
  have hKc := hK.sub (tys' := []) [] rfl
  have hFc := va_free (wc := [(aY, .inr (13, fsY))]) hD hS hA [1] rfl
  refine va_calli (va_runV (As := [.int p0, .int p1]) (rest := []) ⟨hx, hb, hml, hown, hts⟩ (z_X10_staticField l dC dI s.heap.size aY fsY p0 p1 (fh_sub o_fsY.2 [0] rfl) ) (cwV 2 hts g_x_getStatic_z_X10_staticField_260 rfl rfl rfl (by decide +kernel) ⟨Nat.le_of_ble_eq_true rfl, Nat.le_of_ble_eq_true rfl⟩) ⟨fun a U g mk q => by obtain ⟨q0, q1, qP, qK, qD⟩ := q; exact ⟨q0, q1, qP, va_K.moved (u := U) (U := U.calling g mk a) (Vm.Alike.refl U.vm) qK, qD⟩, va_recv hK hP (ci := 13) (q0 := 1) rfl rfl, fun U hU hW => ⟨rfl, by rw [hU], by rw [hU]; exact hPc, va_K.moved hW.alike hKc, hDc.weaken (fun _ _ _ _ => trivial)⟩⟩ rfl rfl hl.1 rfl (lv_room (Nat.le_of_ble_eq_true rfl)) dX11_getStatic_6 ⟨Nat.le_of_ble_eq_true rfl, Nat.le_of_ble_eq_true rfl⟩) hS (fun q _ h => hFc q h) hFc (fun r2772 u t H1 locs ht hvm hw hB hz1 hk1 hS => ?_)
  obtain ⟨hP1, hK1, hD1⟩ := hB
  rw [ht] at hP1
  try dsimp only at hw
  obtain ⟨hP, hD⟩ := va_join (wr := [(aX, .inr (14, fsX))]) (w1 := [(aY, .inr (13, fsY))]) hP hD [1] [0] rfl rfl (by decide) (by decide) hk1 hFc hP1 hD1
  have hK := hK.sub (tys' := []) [] rfl
  generalize H1 = H at hP hS ⊢
  have hP : va_P (dC, dI) vwCl [(aX, .inr (14, fsX)), (aY, .inr (13, fsY))] H := hP
  have hD : va_D A [(aX, .inr (14, fsX)), (aY, .inr (13, fsY))] := hD
  rcases hw with ⟨c2773, er2774⟩ | ⟨c2775, c2776, er2777⟩
  · skip
    subst er2774
    refine lv_istore_n (lv' := [(3, .int (-1)), (0, .ref aX), (1, .int p0), (2, .int p1)]) hx hb dX11_getStatic_9 rfl hl (by decide) rfl (fun ls hl => ?_)
    refine lv_iload_n hx hb dX11_getStatic_10 rfl (lv_at hl 0 rfl) ?_
    refine lv_iconst (v := (-1)) hx hb dX11_getStatic_11 (by decide) ?_
    refine lv_icmp_ne (tgt := 23) hx hb dX11_getStatic_12 (by decide) (fun c2778 => absurd c2778 (by decide)) (fun c2778 => ?_)
    exact vx_throw0 (names := ["java/lang/RuntimeException", "java/lang/Exception"]) hx hb hst hown (by decide +kernel) (by decide +kernel) (hts (.classLink RX11 221 "java/util/NoSuchElementException") (by decide +kernel)) (hts (.initialized "java/util/NoSuchElementException") (by decide +kernel)) (vx_hat (B := xB "java/util/NoSuchElementException") (fun w h => hts w (in_x_getStatic_at0_X11_223 w h)) (by decide +kernel) (Zz_xB hZ (by decide))) (by decide +kernel) hZ.1 hZ.2.1 hS (hl.1.trans hml.symm) dX11_getStatic_15 dX11_getStatic_18 dX11_getStatic_19 dX11_getStatic_22 (fun x h => (htab x h).elim) (by decide) (Nat.le_of_ble_eq_true rfl) (Nat.le_of_ble_eq_true rfl) (Nat.le_of_ble_eq_true rfl) hlocks (fun t _ h1 h2 => ⟨(), trivial, (Or.inl ⟨rfl, c2773⟩), xx_F hS h1 h2⟩) hS.2.2 (by decide) (by decide)
  · skip
    subst er2777
    refine lv_istore_n (lv' := [(3, .int (-1)), (0, .ref aX), (1, .int p0), (2, .int p1)]) hx hb dX11_getStatic_9 rfl hl (by decide) rfl (fun ls hl => ?_)
    refine lv_iload_n hx hb dX11_getStatic_10 rfl (lv_at hl 0 rfl) ?_
    refine lv_iconst (v := (-1)) hx hb dX11_getStatic_11 (by decide) ?_
    refine lv_icmp_ne (tgt := 23) hx hb dX11_getStatic_12 (by decide) (fun c2779 => absurd c2779 (by decide)) (fun c2779 => ?_)
    exact vx_throw0 (names := ["java/lang/RuntimeException", "java/lang/Exception"]) hx hb hst hown (by decide +kernel) (by decide +kernel) (hts (.classLink RX11 221 "java/util/NoSuchElementException") (by decide +kernel)) (hts (.initialized "java/util/NoSuchElementException") (by decide +kernel)) (vx_hat (B := xB "java/util/NoSuchElementException") (fun w h => hts w (in_x_getStatic_at0_X11_223 w h)) (by decide +kernel) (Zz_xB hZ (by decide))) (by decide +kernel) hZ.1 hZ.2.1 hS (hl.1.trans hml.symm) dX11_getStatic_15 dX11_getStatic_18 dX11_getStatic_19 dX11_getStatic_22 (fun x h => (htab x h).elim) (by decide) (Nat.le_of_ble_eq_true rfl) (Nat.le_of_ble_eq_true rfl) (Nat.le_of_ble_eq_true rfl) hlocks (fun t _ h1 h2 => ⟨(), trivial, (Or.inr (⟨rfl, c2775, c2776⟩)), xx_F hS h1 h2⟩) hS.2.2 (by decide) (by decide)

def l_x_object : List Cond := [.fieldLink RX11 28 "HeapWorks" "heap" "LHeapWorks$Heap;", .methodLink RX11 218 yX2_isThere, .instanceMethod yX2_isThere, .selects RX2 yX2_isThere yX2_isThere, .initialized RX2, .code yX2_isThere cX2_isThere 2 (some .boolean), .fieldLink RX2 47 "HeapWorks$Heap" "made" "I"]
def w_x_object : List Cond := .code yX11_object cX11_object 3 (some .int) :: (l_x_object ++ ((wsX110 ++ wsX20)))
theorem in_x_object_X11 : ∀ w ∈ wsX110, w ∈ w_x_object := fun w h => List.mem_cons_of_mem _ (List.mem_append_right _ (List.mem_append_left _ h))
theorem in_x_object_X2 : ∀ w ∈ wsX20, w ∈ w_x_object := fun w h => List.mem_cons_of_mem _ (List.mem_append_right _ (List.mem_append_right _ (h)))
theorem g_x_object_z_X2_isThere_218 : GoodIn w_x_object (wsV RX11 218 RX2 yX2_isThere w_z_X2_isThere) := goodIn_app (goodIn_sub (by decide +kernel) (by decide +kernel)) (goodIn_ca (goodIn_sub (by decide +kernel) (by decide +kernel)) (goodIn_in in_x_object_X2 gd_X2))
set_option maxHeartbeats 4000000 in
set_option maxRecDepth 100000 in
theorem x_object (l : Launch) (dC : Nat → ClassId) (dI : Nat → Nat → Nat) (sz : Nat) (aX : Nat) (fsX : List Value) (aH : Nat) (fsHe : List Value) (p0 : Int32) (p1 : Int32) (k_fsX : fh fsX 18 [(2, .ref aH)]) (k_fsHe : fh fsHe 14 [(1, .int 0)])  : Met l yX11_object w_x_object ({ frames := 1, cells := 0, slots := 0, locals := 21 }) (va_Pc [.ref aX, .int p0, .int p1] (fun U => U.heap.size = sz ∧ Wd dC dI [] (fun _ => True) [(aX, .inr (14, fsX)), (aH, .inr (5, fsHe))] U)) (va_Qi (fun (r : Int32) (u : Unit) => (p0 < 0 ∧ r = (-1)) ∨ (¬ p0 < 0 ∧ 0 ≤ p0 ∧ r = (-1))) (fun (u : Unit) t => Wd dC dI [] (va_A [(aX, .inr (14, fsX)), (aH, .inr (5, fsHe))] sz) [(aX, .inr (14, fsX)), (aH, .inr (5, fsHe))] t) (va_A [(aX, .inr (14, fsX)), (aH, .inr (5, fsHe))] sz))  0 0 (va_A [(aX, .inr (14, fsX)), (aH, .inr (5, fsHe))] sz) := by
  refine Met.ofW (cc := cX11_object) (maxL := 3) (ret := (some .int)) (by decide) rfl ?_
  intro p e s m args below meth c s₁ B hml hv
  obtain ⟨rfl, hsz, hP, hK, hD0⟩ := hv
  have hx := B.exec
  have hb := B.bytes
  have hr := B.returns
  have hts := atoms_spec (ws := w_x_object) B.pre
  have hown : s.vm.findClass RX11 = some m.cls := findClass_of_methodNamed B.named
  have hlocks := B.notSynchronized
  subst hsz
  have hD := hD0.self (sz := s.heap.size)
  generalize hAe : va_A [(aX, .inr (14, fsX)), (aH, .inr (5, fsHe))] s.heap.size = A at hD ⊢
  have hA : ∀ q : Nat, s.heap.size ≤ q → A q := fun q h => by rw [← hAe]; exact Or.inr h
  have hS : va_S A s.heap s.heap [] := va_S.rf
  have hl := lv_entry ([.ref aX, .int p0, .int p1]) (n := 3) (Nat.le_of_ble_eq_true rfl)
  rw [lg_entry_eq]
  generalize (lg_sl ([.ref aX, .int p0, .int p1]) ++ List.replicate (3 - (lg_sl ([.ref aX, .int p0, .int p1])).length) Slot.unset).toArray = ls at hl ⊢
  have hl : lv_has ls 3 [(0, .ref aX), (1, .int p0), (2, .int p1)] := hl
  have o_fsX := ow_0 k_fsX
  have o_fsHe := ow_0 k_fsHe
  refine lv_aload_n hx hb dX11_object_0 rfl (lv_at hl 0 rfl) ?_
  refine va_get (D := (dC, dI)) (ci := 14) (v := .ref aH) (C := RX11) (T := TX11) (N := 18) hx hb hts (in_x_object_X11) hown hK hP 0 rfl rfl 2 (by decide) (hts (.fieldLink RX11 28 "HeapWorks" "heap" "LHeapWorks$Heap;") (by decide +kernel)) (fun _ h9 => h9) (ow_at o_fsX 0 rfl) dX11_object_1 ?_
  refine lv_iload_n hx hb dX11_object_4 rfl (lv_at hl 1 rfl) ?_
  have hPc := hP.sub (ws' := [(aH, .inr (5, fsHe))]) [1] rfl
  have hDc := hD.sub (ws' := [(aH, .inr (5, fsHe))]) [1] (by decide) rfl
  have hKc := hK.sub (tys' := []) [] rfl
  have hFc := va_free (wc := [(aH, .inr (5, fsHe))]) hD hS hA [1] rfl
  refine va_calli (va_runV (As := [.int p0]) (rest := []) ⟨hx, hb, hml, hown, hts⟩ (z_X2_isThere l dC dI s.heap.size aH fsHe p0 (fh_sub o_fsHe.2 [0] rfl) ) (cwV 1 hts g_x_object_z_X2_isThere_218 rfl rfl rfl (by decide +kernel) ⟨Nat.le_of_ble_eq_true rfl, Nat.le_of_ble_eq_true rfl⟩) ⟨fun a U g mk q => by obtain ⟨q0, q1, qP, qK, qD⟩ := q; exact ⟨q0, q1, qP, va_K.moved (u := U) (U := U.calling g mk a) (Vm.Alike.refl U.vm) qK, qD⟩, va_recv hK hP (ci := 5) (q0 := 1) rfl rfl, fun U hU hW => ⟨rfl, by rw [hU], by rw [hU]; exact hPc, va_K.moved hW.alike hKc, hDc.weaken (fun _ _ _ _ => trivial)⟩⟩ rfl rfl hl.1 rfl (lv_room (Nat.le_of_ble_eq_true rfl)) dX11_object_5 ⟨Nat.le_of_ble_eq_true rfl, Nat.le_of_ble_eq_true rfl⟩) hS (fun q _ h => hFc q h) hFc (fun r2792 u t H1 locs ht hvm hw hB hz1 hk1 hS => ?_)
  obtain ⟨hP1, hK1, hD1⟩ := hB
  rw [ht] at hP1
  try dsimp only at hw
  obtain ⟨hP, hD⟩ := va_join (wr := [(aX, .inr (14, fsX))]) (w1 := [(aH, .inr (5, fsHe))]) hP hD [1] [0] rfl rfl (by decide) (by decide) hk1 hFc hP1 hD1
  have hK := hK.sub (tys' := []) [] rfl
  generalize H1 = H at hP hS ⊢
  have hP : va_P (dC, dI) vwCl [(aX, .inr (14, fsX)), (aH, .inr (5, fsHe))] H := hP
  have hD : va_D A [(aX, .inr (14, fsX)), (aH, .inr (5, fsHe))] := hD
  rcases hw with ⟨c2793, er2794⟩ | ⟨c2795, c2796, er2797⟩
  · skip
    subst er2794
    refine lv_if_ne (tgt := 13) hx hb dX11_object_8 (by decide) (fun c2798 => absurd c2798 (by decide)) (fun c2798 => ?_)
    refine lv_iconst (v := (-1)) hx hb dX11_object_11 (by decide) ?_
    have hP9 := hP.sub (ws' := [(aX, .inr (14, fsX)), (aH, .inr (5, fsHe))]) [0, 1] rfl
    have hD9 := hD.sub (ws' := [(aX, .inr (14, fsX)), (aH, .inr (5, fsHe))]) [0, 1] (by decide) rfl
    have hK9 := hK.sub (tys' := []) [] rfl
    exact W.iret (v := (-1)) hx hb hr (fun t ht hW => ⟨⟨(-1), (), rfl, (Or.inl ⟨c2793, rfl⟩), by rw [ht]; exact hP9, va_K.moved hW.alike hK9, hD9⟩, hS.F ht⟩) hS.2.2 dX11_object_12
  · skip
    subst er2797
    refine lv_if_ne (tgt := 13) hx hb dX11_object_8 (by decide) (fun c2799 => absurd c2799 (by decide)) (fun c2799 => ?_)
    refine lv_iconst (v := (-1)) hx hb dX11_object_11 (by decide) ?_
    have hP9 := hP.sub (ws' := [(aX, .inr (14, fsX)), (aH, .inr (5, fsHe))]) [0, 1] rfl
    have hD9 := hD.sub (ws' := [(aX, .inr (14, fsX)), (aH, .inr (5, fsHe))]) [0, 1] (by decide) rfl
    have hK9 := hK.sub (tys' := []) [] rfl
    exact W.iret (v := (-1)) hx hb hr (fun t ht hW => ⟨⟨(-1), (), rfl, (Or.inr (⟨c2795, c2796, rfl⟩)), by rw [ht]; exact hP9, va_K.moved hW.alike hK9, hD9⟩, hS.F ht⟩) hS.2.2 dX11_object_12

def l_z_X3_forgetUndo : List Cond := [.fieldLink RX3 119 "HeapWorks$Journal" "undoCount" "I"]
def w_z_X3_forgetUndo : List Cond := .code yX3_forgetUndo cX3_forgetUndo 1 none :: (l_z_X3_forgetUndo ++ (wsX30))
theorem in_z_X3_forgetUndo_X3 : ∀ w ∈ wsX30, w ∈ w_z_X3_forgetUndo := fun w h => List.mem_cons_of_mem _ (List.mem_append_right _ (h))
set_option maxHeartbeats 4000000 in
set_option maxRecDepth 100000 in
theorem z_X3_forgetUndo (l : Launch) (dC : Nat → ClassId) (dI : Nat → Nat → Nat) (sz : Nat) (Ad0 : Nat) (Fs0 : List Value) (k_Fs0 : fh Fs0 13 [])  : Met l yX3_forgetUndo w_z_X3_forgetUndo ({ frames := 0, cells := 0, slots := 0, locals := 0 }) (va_Pc [.ref Ad0] (fun U => U.heap.size = sz ∧ Wd dC dI [] (fun _ => True) [(Ad0, .inr (6, Fs0))] U)) (va_Qv (fun (u : List Value) => ow Fs0 (u) 13 [6] [(6, .int 0)]) (fun (u : List Value) t => Wd dC dI [] (va_A [(Ad0, .inr (6, Fs0))] sz) [(Ad0, .inr (6, (u)))] t) (va_A [(Ad0, .inr (6, Fs0))] sz))  0 0 (va_A [(Ad0, .inr (6, Fs0))] sz) := by
  refine Met.ofW (cc := cX3_forgetUndo) (maxL := 1) (ret := none) (by decide) rfl ?_
  intro p e s m args below meth c s₁ B hml hv
  obtain ⟨rfl, hsz, hP, hK, hD0⟩ := hv
  have hx := B.exec
  have hb := B.bytes
  have hr := B.returns
  have hts := atoms_spec (ws := w_z_X3_forgetUndo) B.pre
  have hown : s.vm.findClass RX3 = some m.cls := findClass_of_methodNamed B.named
  have hlocks := B.notSynchronized
  subst hsz
  have hD := hD0.self (sz := s.heap.size)
  generalize hAe : va_A [(Ad0, .inr (6, Fs0))] s.heap.size = A at hD ⊢
  have hA : ∀ q : Nat, s.heap.size ≤ q → A q := fun q h => by rw [← hAe]; exact Or.inr h
  have hS : va_S A s.heap s.heap [] := va_S.rf
  have hl := lv_entry ([.ref Ad0]) (n := 1) (Nat.le_of_ble_eq_true rfl)
  rw [lg_entry_eq]
  generalize (lg_sl ([.ref Ad0]) ++ List.replicate (1 - (lg_sl ([.ref Ad0])).length) Slot.unset).toArray = ls at hl ⊢
  have hl : lv_has ls 1 [(0, .ref Ad0)] := hl
  have o_Fs0 := ow_0 k_Fs0
  refine lv_aload_n hx hb dX3_forgetUndo_0 rfl (lv_at hl 0 rfl) ?_
  refine lv_iconst (v := 0) hx hb dX3_forgetUndo_1 (by decide) ?_
  refine va_put (D := (dC, dI)) (ci := 6) (v := .int 0) (ty := .int) (C := RX3) (T := TX3) (N := 13) hx hb hts (in_z_X3_forgetUndo_X3) tyX3 tyX3_ok nmX3 hown hK hP hD hS 0 rfl rfl 6 (by decide) (hts (.fieldLink RX3 119 "HeapWorks$Journal" "undoCount" "I") (by decide +kernel)) (fun _ h9 => h9) rfl (by decide +kernel) rfl rfl (by rw [o_Fs0.2.1]; decide) dX3_forgetUndo_2 (fun H locs hP hD hS => ?_)
  have hP : va_P (dC, dI) vwCl [(Ad0, .inr (6, (Fs0.set 6 (.int 0))))] H := hP
  have hD : va_D A [(Ad0, .inr (6, (Fs0.set 6 (.int 0))))] := hD
  have o_s2801 := ow_set o_Fs0 6 (.int 0) (by decide) (l' := [(6, .int 0)]) (w' := [6]) rfl rfl
  generalize (Fs0.set 6 (.int 0)) = s2801 at hP hD o_s2801
  have hP9 := hP.sub (ws' := [(Ad0, .inr (6, s2801))]) [0] rfl
  have hD9 := hD.sub (ws' := [(Ad0, .inr (6, s2801))]) [0] (by decide) rfl
  have hK9 := hK.sub (tys' := []) [] rfl
  exact W.vret hx hb hr (fun t ht hW => ⟨⟨s2801, rfl, o_s2801, by rw [ht]; exact hP9, va_K.moved hW.alike hK9, hD9⟩, hS.F ht⟩) hS.2.2 dX3_forgetUndo_5

def l_z_J7_rangeCheck_23922 : List Cond := []
def w_z_J7_rangeCheck_23922 : List Cond := .code yJ7_rangeCheck_23922 cJ7_rangeCheck_23922 3 none :: (l_z_J7_rangeCheck_23922)
set_option maxHeartbeats 4000000 in
set_option maxRecDepth 100000 in
theorem z_J7_rangeCheck_23922 (l : Launch) (dC : Nat → ClassId) (dI : Nat → Nat → Nat) (sz : Nat)    : Met l yJ7_rangeCheck_23922 w_z_J7_rangeCheck_23922 ({ frames := 0, cells := 0, slots := 0, locals := 0 }) (va_Pc [.int 400, .int 0, .int 0] (fun U => U.heap.size = sz ∧ Wd dC dI [] (fun _ => True) [] U)) (va_Qv (fun (u : Unit) => True) (fun (u : Unit) t => Wd dC dI [] (va_A [] sz) [] t) (va_A [] sz))  0 0 (va_A [] sz) := by
  refine Met.ofW (cc := cJ7_rangeCheck_23922) (maxL := 3) (ret := none) (by decide) rfl ?_
  intro p e s m args below meth c s₁ B hml hv
  obtain ⟨rfl, hsz, hP, hK, hD0⟩ := hv
  have hx := B.exec
  have hb := B.bytes
  have hr := B.returns
  have hts := atoms_spec (ws := w_z_J7_rangeCheck_23922) B.pre
  have hown : s.vm.findClass RJ7 = some m.cls := findClass_of_methodNamed B.named
  have hlocks := B.notSynchronized
  subst hsz
  have hD := hD0.self (sz := s.heap.size)
  generalize hAe : va_A [] s.heap.size = A at hD ⊢
  have hA : ∀ q : Nat, s.heap.size ≤ q → A q := fun q h => by rw [← hAe]; exact Or.inr h
  have hS : va_S A s.heap s.heap [] := va_S.rf
  have hl := lv_entry ([.int 400, .int 0, .int 0]) (n := 3) (Nat.le_of_ble_eq_true rfl)
  rw [lg_entry_eq]
  generalize (lg_sl ([.int 400, .int 0, .int 0]) ++ List.replicate (3 - (lg_sl ([.int 400, .int 0, .int 0])).length) Slot.unset).toArray = ls at hl ⊢
  have hl : lv_has ls 3 [(0, .int 400), (1, .int 0), (2, .int 0)] := hl
  refine lv_iload_n hx hb dJ7_rangeCheck_23922_0 rfl (lv_at hl 1 rfl) ?_
  refine lv_iload_n hx hb dJ7_rangeCheck_23922_1 rfl (lv_at hl 2 rfl) ?_
  refine lv_icmp_le (tgt := 46) hx hb dJ7_rangeCheck_23922_2 (by decide) (fun c2806 => ?_) (fun c2806 => absurd c2806 (by decide))
  refine lv_iload_n hx hb dJ7_rangeCheck_23922_46 rfl (lv_at hl 1 rfl) ?_
  refine lv_if_ge (tgt := 59) hx hb dJ7_rangeCheck_23922_47 (by decide) (fun c2807 => ?_) (fun c2807 => absurd c2807 (by decide))
  refine lv_iload_n hx hb dJ7_rangeCheck_23922_59 rfl (lv_at hl 2 rfl) ?_
  refine lv_iload_n hx hb dJ7_rangeCheck_23922_60 rfl (lv_at hl 0 rfl) ?_
  refine lv_icmp_le (tgt := 73) hx hb dJ7_rangeCheck_23922_61 (by decide) (fun c2808 => ?_) (fun c2808 => absurd c2808 (by decide))
  have hP9 := hP.sub (ws' := []) [] rfl
  have hD9 := hD.sub (ws' := []) [] (by decide) rfl
  have hK9 := hK.sub (tys' := []) [] rfl
  exact W.vret hx hb hr (fun t ht hW => ⟨⟨(), rfl, trivial, by rw [ht]; exact hP9, va_K.moved hW.alike hK9, hD9⟩, hS.F ht⟩) hS.2.2 dJ7_rangeCheck_23922_73

def l_z_J7_fill_fda19 : List Cond := [.methodLink RJ7 13 yJ7_rangeCheck_23922, .static yJ7_rangeCheck_23922, .initialized RJ7, .code yJ7_rangeCheck_23922 cJ7_rangeCheck_23922 3 none]
def w_z_J7_fill_fda19 : List Cond := .code yJ7_fill_fda19 cJ7_fill_fda19 5 none :: (l_z_J7_fill_fda19)
theorem g_z_J7_fill_fda19_z_J7_rangeCheck_23922_13 : GoodIn w_z_J7_fill_fda19 (wsS RJ7 13 yJ7_rangeCheck_23922 w_z_J7_rangeCheck_23922) := goodIn_app (goodIn_sub (by decide +kernel) (by decide +kernel)) (goodIn_sub (by decide +kernel) (by decide +kernel))
set_option maxHeartbeats 4000000 in
set_option maxRecDepth 100000 in
theorem z_J7_fill_fda19 (l : Launch) (dC : Nat → ClassId) (dI : Nat → Nat → Nat) (sz : Nat) (Ad0 : Nat) (Fa0 : Nat → Int32) (Ka0 : ClassId)   : Met l yJ7_fill_fda19 w_z_J7_fill_fda19 ({ frames := 1, cells := 0, slots := 0, locals := 22 }) (va_Pc [.ref Ad0, .int 0, .int 0, .int (-1)] (fun U => U.heap.size = sz ∧ Wd dC dI [(Ka0, .int)] (fun _ => True) [(Ad0, .inl (Ka0, 400, .inl Fa0))] U)) (va_Qv (fun (u : Unit) => True) (fun (u : Unit) t => Wd dC dI [(Ka0, .int)] (va_A [(Ad0, .inl (Ka0, 400, .inl Fa0))] sz) [(Ad0, .inl (Ka0, 400, .inl Fa0))] t) (va_A [(Ad0, .inl (Ka0, 400, .inl Fa0))] sz))  0 0 (va_A [(Ad0, .inl (Ka0, 400, .inl Fa0))] sz) := by
  refine Met.ofW (cc := cJ7_fill_fda19) (maxL := 5) (ret := none) (by decide) rfl ?_
  intro p e s m args below meth c s₁ B hml hv
  obtain ⟨rfl, hsz, hP, hK, hD0⟩ := hv
  have hx := B.exec
  have hb := B.bytes
  have hr := B.returns
  have hts := atoms_spec (ws := w_z_J7_fill_fda19) B.pre
  have hown : s.vm.findClass RJ7 = some m.cls := findClass_of_methodNamed B.named
  have hlocks := B.notSynchronized
  subst hsz
  have hD := hD0.self (sz := s.heap.size)
  generalize hAe : va_A [(Ad0, .inl (Ka0, 400, .inl Fa0))] s.heap.size = A at hD ⊢
  have hA : ∀ q : Nat, s.heap.size ≤ q → A q := fun q h => by rw [← hAe]; exact Or.inr h
  have hS : va_S A s.heap s.heap [] := va_S.rf
  have hl := lv_entry ([.ref Ad0, .int 0, .int 0, .int (-1)]) (n := 5) (Nat.le_of_ble_eq_true rfl)
  rw [lg_entry_eq]
  generalize (lg_sl ([.ref Ad0, .int 0, .int 0, .int (-1)]) ++ List.replicate (5 - (lg_sl ([.ref Ad0, .int 0, .int 0, .int (-1)])).length) Slot.unset).toArray = ls at hl ⊢
  have hl : lv_has ls 5 [(0, .ref Ad0), (1, .int 0), (2, .int 0), (3, .int (-1))] := hl
  refine lv_aload_n hx hb dJ7_fill_fda19_0 rfl (lv_at hl 0 rfl) ?_
  refine va_alen (v := 400) hx hb hK hP 0 0 rfl rfl (show Int32.ofNat 400 = 400 from by decide) dJ7_fill_fda19_1 ?_
  refine lv_iload_n hx hb dJ7_fill_fda19_2 rfl (lv_at hl 1 rfl) ?_
  refine lv_iload_n hx hb dJ7_fill_fda19_3 rfl (lv_at hl 2 rfl) ?_
  have hPc := hP.sub (ws' := []) [] rfl
  have hDc := hD.sub (ws' := []) [] (by decide) rfl
  have hKc := hK.sub (tys' := []) [] rfl
  have hFc := va_free (wc := []) hD hS hA [] rfl
  refine va_callv (va_runS (As := [.int 400, .int 0, .int 0]) (rest := []) ⟨hx, hb, hml, hown, hts⟩ (z_J7_rangeCheck_23922 l dC dI s.heap.size   ) (cwS 3 hts g_z_J7_fill_fda19_z_J7_rangeCheck_23922_13 rfl rfl rfl (by decide +kernel) ⟨Nat.le_of_ble_eq_true rfl, Nat.le_of_ble_eq_true rfl⟩) ⟨fun a U g mk q => by obtain ⟨q0, q1, qP, qK, qD⟩ := q; exact ⟨q0, q1, qP, va_K.moved (u := U) (U := U.calling g mk a) (Vm.Alike.refl U.vm) qK, qD⟩, fun U hU hW => ⟨rfl, by rw [hU], by rw [hU]; exact hPc, va_K.moved hW.alike hKc, hDc.weaken (fun _ _ _ _ => trivial)⟩⟩ rfl rfl hl.1 rfl (lv_room (Nat.le_of_ble_eq_true rfl)) dJ7_fill_fda19_4 ⟨Nat.le_of_ble_eq_true rfl, Nat.le_of_ble_eq_true rfl⟩) hS (fun q _ h => hFc q h) hFc (fun u t H1 locs ht hvm hw hB hz1 hk1 hS => ?_)
  obtain ⟨hP1, hK1, hD1⟩ := hB
  rw [ht] at hP1
  try dsimp only at hw
  obtain ⟨hP, hD⟩ := va_join (wr := [(Ad0, .inl (Ka0, 400, .inl Fa0))]) (w1 := []) hP hD [] [0] rfl rfl (by decide) (by decide) hk1 hFc hP1 hD1
  have hK := hK.sub (tys' := [(Ka0, .int)]) [0] rfl
  generalize H1 = H at hP hS ⊢
  have hP : va_P (dC, dI) vwCl [(Ad0, .inl (Ka0, 400, .inl Fa0))] H := hP
  have hD : va_D A [(Ad0, .inl (Ka0, 400, .inl Fa0))] := hD
  refine lv_iload_n hx hb dJ7_fill_fda19_7 rfl (lv_at hl 1 rfl) ?_
  refine lv_istore (lv' := [(4, .int 0), (0, .ref Ad0), (1, .int 0), (2, .int 0), (3, .int (-1))]) hx hb dJ7_fill_fda19_8 hl (by decide) rfl (fun ls hl => ?_)
  refine lv_iload hx hb dJ7_fill_fda19_10 (lv_at hl 0 rfl) ?_
  refine lv_iload_n hx hb dJ7_fill_fda19_12 rfl (lv_at hl 3 rfl) ?_
  refine lv_icmp_ge (tgt := 27) hx hb dJ7_fill_fda19_13 (by decide) (fun c2813 => ?_) (fun c2813 => absurd c2813 (by decide))
  have hP9 := hP.sub (ws' := [(Ad0, .inl (Ka0, 400, .inl Fa0))]) [0] rfl
  have hD9 := hD.sub (ws' := [(Ad0, .inl (Ka0, 400, .inl Fa0))]) [0] (by decide) rfl
  have hK9 := hK.sub (tys' := [(Ka0, .int)]) [0] rfl
  exact W.vret hx hb hr (fun t ht hW => ⟨⟨(), rfl, trivial, by rw [ht]; exact hP9, va_K.moved hW.alike hK9, hD9⟩, hS.F ht⟩) hS.2.2 dJ7_fill_fda19_27

def l_z_X2_clearMarks : List Cond := [.fieldLink RX2 44 "HeapWorks$Heap" "mark" "[I", .fieldLink RX2 47 "HeapWorks$Heap" "made" "I", .methodLink RX2 109 yJ7_fill_fda19, .static yJ7_fill_fda19, .initialized RJ7, .code yJ7_fill_fda19 cJ7_fill_fda19 5 none, .methodLink RJ7 13 yJ7_rangeCheck_23922, .static yJ7_rangeCheck_23922, .code yJ7_rangeCheck_23922 cJ7_rangeCheck_23922 3 none]
def w_z_X2_clearMarks : List Cond := .code yX2_clearMarks cX2_clearMarks 1 none :: (l_z_X2_clearMarks ++ (wsX20))
theorem in_z_X2_clearMarks_X2 : ∀ w ∈ wsX20, w ∈ w_z_X2_clearMarks := fun w h => List.mem_cons_of_mem _ (List.mem_append_right _ (h))
theorem g_z_X2_clearMarks_z_J7_fill_fda19_109 : GoodIn w_z_X2_clearMarks (va_wsS RX2 109 yJ7_fill_fda19 w_z_J7_fill_fda19) := goodIn_app (goodIn_sub (by decide +kernel) (by decide +kernel)) (goodIn_sub (by decide +kernel) (by decide +kernel))
set_option maxHeartbeats 4000000 in
set_option maxRecDepth 100000 in
theorem z_X2_clearMarks (l : Launch) (dC : Nat → ClassId) (dI : Nat → Nat → Nat) (sz : Nat) (Ad0 : Nat) (Fs0 : List Value) (Ad1 : Nat) (Fa0 : Nat → Int32) (Ka0 : ClassId) (k_Fs0 : fh Fs0 14 [(1, .int 0), (13, .ref Ad1)])  : Met l yX2_clearMarks w_z_X2_clearMarks ({ frames := 2, cells := 0, slots := 0, locals := 46 }) (va_Pc [.ref Ad0] (fun U => U.heap.size = sz ∧ Wd dC dI [(Ka0, .int)] (fun _ => True) [(Ad0, .inr (5, Fs0)), (Ad1, .inl (Ka0, 400, .inl Fa0))] U)) (va_Qv (fun (u : Unit) => True) (fun (u : Unit) t => Wd dC dI [(Ka0, .int)] (va_A [(Ad0, .inr (5, Fs0)), (Ad1, .inl (Ka0, 400, .inl Fa0))] sz) [(Ad0, .inr (5, Fs0)), (Ad1, .inl (Ka0, 400, .inl Fa0))] t) (va_A [(Ad0, .inr (5, Fs0)), (Ad1, .inl (Ka0, 400, .inl Fa0))] sz))  0 0 (va_A [(Ad0, .inr (5, Fs0)), (Ad1, .inl (Ka0, 400, .inl Fa0))] sz) := by
  refine Met.ofW (cc := cX2_clearMarks) (maxL := 1) (ret := none) (by decide) rfl ?_
  intro p e s m args below meth c s₁ B hml hv
  obtain ⟨rfl, hsz, hP, hK, hD0⟩ := hv
  have hx := B.exec
  have hb := B.bytes
  have hr := B.returns
  have hts := atoms_spec (ws := w_z_X2_clearMarks) B.pre
  have hown : s.vm.findClass RX2 = some m.cls := findClass_of_methodNamed B.named
  have hlocks := B.notSynchronized
  subst hsz
  have hD := hD0.self (sz := s.heap.size)
  generalize hAe : va_A [(Ad0, .inr (5, Fs0)), (Ad1, .inl (Ka0, 400, .inl Fa0))] s.heap.size = A at hD ⊢
  have hA : ∀ q : Nat, s.heap.size ≤ q → A q := fun q h => by rw [← hAe]; exact Or.inr h
  have hS : va_S A s.heap s.heap [] := va_S.rf
  have hl := lv_entry ([.ref Ad0]) (n := 1) (Nat.le_of_ble_eq_true rfl)
  rw [lg_entry_eq]
  generalize (lg_sl ([.ref Ad0]) ++ List.replicate (1 - (lg_sl ([.ref Ad0])).length) Slot.unset).toArray = ls at hl ⊢
  have hl : lv_has ls 1 [(0, .ref Ad0)] := hl
  have o_Fs0 := ow_0 k_Fs0
  refine lv_aload_n hx hb dX2_clearMarks_0 rfl (lv_at hl 0 rfl) ?_
  refine va_get (D := (dC, dI)) (ci := 5) (v := .ref Ad1) (C := RX2) (T := TX2) (N := 14) hx hb hts (in_z_X2_clearMarks_X2) hown hK hP 0 rfl rfl 13 (by decide) (hts (.fieldLink RX2 44 "HeapWorks$Heap" "mark" "[I") (by decide +kernel)) (fun _ h9 => h9) (ow_at o_Fs0 1 rfl) dX2_clearMarks_1 ?_
  refine lv_iconst (v := 0) hx hb dX2_clearMarks_4 (by decide) ?_
  refine lv_aload_n hx hb dX2_clearMarks_5 rfl (lv_at hl 0 rfl) ?_
  refine va_get (D := (dC, dI)) (ci := 5) (v := .int 0) (C := RX2) (T := TX2) (N := 14) hx hb hts (in_z_X2_clearMarks_X2) hown hK hP 0 rfl rfl 1 (by decide) (hts (.fieldLink RX2 47 "HeapWorks$Heap" "made" "I") (by decide +kernel)) (fun _ h9 => h9) (ow_at o_Fs0 0 rfl) dX2_clearMarks_6 ?_
  refine lv_iconst (v := (-1)) hx hb dX2_clearMarks_9 (by decide) ?_
  have hPc := hP.sub (ws' := [(Ad1, .inl (Ka0, 400, .inl Fa0))]) [1] rfl
  have hDc := hD.sub (ws' := [(Ad1, .inl (Ka0, 400, .inl Fa0))]) [1] (by decide) rfl
  have hKc := hK.sub (tys' := [(Ka0, .int)]) [0] rfl
  have hFc := va_free (wc := [(Ad1, .inl (Ka0, 400, .inl Fa0))]) hD hS hA [1] rfl
  refine va_callv (va_runS (As := [.ref Ad1, .int 0, .int 0, .int (-1)]) (rest := []) ⟨hx, hb, hml, hown, hts⟩ (z_J7_fill_fda19 l dC dI s.heap.size Ad1 Fa0 Ka0  ) (va_cwS 4 hts g_z_X2_clearMarks_z_J7_fill_fda19_109 rfl rfl rfl (by decide +kernel) ⟨Nat.le_of_ble_eq_true rfl, Nat.le_of_ble_eq_true rfl⟩) ⟨fun a U g mk q => by obtain ⟨q0, q1, qP, qK, qD⟩ := q; exact ⟨q0, q1, qP, va_K.moved (u := U) (U := U.calling g mk a) (Vm.Alike.refl U.vm) qK, qD⟩, fun U hU hW => ⟨rfl, by rw [hU], by rw [hU]; exact hPc, va_K.moved hW.alike hKc, hDc.weaken (fun _ _ _ _ => trivial)⟩⟩ rfl rfl hl.1 rfl (lv_room (Nat.le_of_ble_eq_true rfl)) dX2_clearMarks_10 ⟨Nat.le_of_ble_eq_true rfl, Nat.le_of_ble_eq_true rfl⟩) hS (fun q _ h => hFc q h) hFc (fun u t H1 locs ht hvm hw hB hz1 hk1 hS => ?_)
  obtain ⟨hP1, hK1, hD1⟩ := hB
  rw [ht] at hP1
  try dsimp only at hw
  obtain ⟨hP, hD⟩ := va_join (wr := [(Ad0, .inr (5, Fs0))]) (w1 := [(Ad1, .inl (Ka0, 400, .inl Fa0))]) hP hD [1] [0] rfl rfl (by decide) (by decide) hk1 hFc hP1 hD1
  have hK := hK.sub (tys' := [(Ka0, .int)]) [0] rfl
  generalize H1 = H at hP hS ⊢
  have hP : va_P (dC, dI) vwCl [(Ad0, .inr (5, Fs0)), (Ad1, .inl (Ka0, 400, .inl Fa0))] H := hP
  have hD : va_D A [(Ad0, .inr (5, Fs0)), (Ad1, .inl (Ka0, 400, .inl Fa0))] := hD
  have hP9 := hP.sub (ws' := [(Ad0, .inr (5, Fs0)), (Ad1, .inl (Ka0, 400, .inl Fa0))]) [0, 1] rfl
  have hD9 := hD.sub (ws' := [(Ad0, .inr (5, Fs0)), (Ad1, .inl (Ka0, 400, .inl Fa0))]) [0, 1] (by decide) rfl
  have hK9 := hK.sub (tys' := [(Ka0, .int)]) [0] rfl
  exact W.vret hx hb hr (fun t ht hW => ⟨⟨(), rfl, trivial, by rw [ht]; exact hP9, va_K.moved hW.alike hK9, hD9⟩, hS.F ht⟩) hS.2.2 dX2_clearMarks_13

def l_z_X10_ownFields : List Cond := [.fieldLink RX10 65 "HeapWorks$Types" "count" "I"]
def w_z_X10_ownFields : List Cond := .code yX10_ownFields cX10_ownFields 1 (some .int) :: (l_z_X10_ownFields ++ (wsX100))
theorem in_z_X10_ownFields_X10 : ∀ w ∈ wsX100, w ∈ w_z_X10_ownFields := fun w h => List.mem_cons_of_mem _ (List.mem_append_right _ (h))
set_option maxHeartbeats 4000000 in
set_option maxRecDepth 100000 in
theorem z_X10_ownFields (l : Launch) (dC : Nat → ClassId) (dI : Nat → Nat → Nat) (sz : Nat) (Ad0 : Nat) (Fs0 : List Value) (k_Fs0 : fh Fs0 18 [(0, .int 0)])  : Met l yX10_ownFields w_z_X10_ownFields ({ frames := 0, cells := 0, slots := 0, locals := 0 }) (va_Pc [.ref Ad0] (fun U => U.heap.size = sz ∧ Wd dC dI [] (fun _ => True) [(Ad0, .inr (13, Fs0))] U)) (va_Qi (fun (r : Int32) (u : Unit) => r = 0) (fun (u : Unit) t => Wd dC dI [] (va_A [(Ad0, .inr (13, Fs0))] sz) [(Ad0, .inr (13, Fs0))] t) (va_A [(Ad0, .inr (13, Fs0))] sz))  0 0 (va_A [(Ad0, .inr (13, Fs0))] sz) := by
  refine Met.ofW (cc := cX10_ownFields) (maxL := 1) (ret := (some .int)) (by decide) rfl ?_
  intro p e s m args below meth c s₁ B hml hv
  obtain ⟨rfl, hsz, hP, hK, hD0⟩ := hv
  have hx := B.exec
  have hb := B.bytes
  have hr := B.returns
  have hts := atoms_spec (ws := w_z_X10_ownFields) B.pre
  have hown : s.vm.findClass RX10 = some m.cls := findClass_of_methodNamed B.named
  have hlocks := B.notSynchronized
  subst hsz
  have hD := hD0.self (sz := s.heap.size)
  generalize hAe : va_A [(Ad0, .inr (13, Fs0))] s.heap.size = A at hD ⊢
  have hA : ∀ q : Nat, s.heap.size ≤ q → A q := fun q h => by rw [← hAe]; exact Or.inr h
  have hS : va_S A s.heap s.heap [] := va_S.rf
  have hl := lv_entry ([.ref Ad0]) (n := 1) (Nat.le_of_ble_eq_true rfl)
  rw [lg_entry_eq]
  generalize (lg_sl ([.ref Ad0]) ++ List.replicate (1 - (lg_sl ([.ref Ad0])).length) Slot.unset).toArray = ls at hl ⊢
  have hl : lv_has ls 1 [(0, .ref Ad0)] := hl
  have o_Fs0 := ow_0 k_Fs0
  refine lv_aload_n hx hb dX10_ownFields_0 rfl (lv_at hl 0 rfl) ?_
  refine va_get (D := (dC, dI)) (ci := 13) (v := .int 0) (C := RX10) (T := TX10) (N := 18) hx hb hts (in_z_X10_ownFields_X10) hown hK hP 0 rfl rfl 0 (by decide) (hts (.fieldLink RX10 65 "HeapWorks$Types" "count" "I") (by decide +kernel)) (fun _ h9 => h9) (ow_at o_Fs0 0 rfl) dX10_ownFields_1 ?_
  refine lv_bipush (v := 6) hx hb dX10_ownFields_4 (by decide) ?_
  refine lv_imul hx hb dX10_ownFields_6  ?_
  refine lv_topi (fun x2820 ex2820 => ?_)
  obtain rfl : x2820 = 0 := ex2820.trans (by decide)
  have hP9 := hP.sub (ws' := [(Ad0, .inr (13, Fs0))]) [0] rfl
  have hD9 := hD.sub (ws' := [(Ad0, .inr (13, Fs0))]) [0] (by decide) rfl
  have hK9 := hK.sub (tys' := []) [] rfl
  exact W.iret (v := 0) hx hb hr (fun t ht hW => ⟨⟨0, (), rfl, rfl, by rw [ht]; exact hP9, va_K.moved hW.alike hK9, hD9⟩, hS.F ht⟩) hS.2.2 dX10_ownFields_7

def l_z_X2_meetRoots : List Cond := [.fieldLink RX2 89 "HeapWorks$Heap" "rootCount" "I", .fieldLink RX2 9 "HeapWorks$Heap" "types" "LHeapWorks$Types;", .methodLink RX2 99 yX10_ownFields, .instanceMethod yX10_ownFields, .selects RX10 yX10_ownFields yX10_ownFields, .initialized RX10, .code yX10_ownFields cX10_ownFields 1 (some .int), .fieldLink RX10 65 "HeapWorks$Types" "count" "I"]
def w_z_X2_meetRoots : List Cond := .code yX2_meetRoots cX2_meetRoots 3 (some .int) :: (l_z_X2_meetRoots ++ ((wsX20 ++ wsX100)))
theorem in_z_X2_meetRoots_X2 : ∀ w ∈ wsX20, w ∈ w_z_X2_meetRoots := fun w h => List.mem_cons_of_mem _ (List.mem_append_right _ (List.mem_append_left _ h))
theorem in_z_X2_meetRoots_X10 : ∀ w ∈ wsX100, w ∈ w_z_X2_meetRoots := fun w h => List.mem_cons_of_mem _ (List.mem_append_right _ (List.mem_append_right _ (h)))
theorem g_z_X2_meetRoots_z_X10_ownFields_99 : GoodIn w_z_X2_meetRoots (wsV RX2 99 RX10 yX10_ownFields w_z_X10_ownFields) := goodIn_app (goodIn_sub (by decide +kernel) (by decide +kernel)) (goodIn_ca (goodIn_sub (by decide +kernel) (by decide +kernel)) (goodIn_in in_z_X2_meetRoots_X10 gd_X10))
set_option maxHeartbeats 4000000 in
set_option maxRecDepth 100000 in
theorem z_X2_meetRoots (l : Launch) (dC : Nat → ClassId) (dI : Nat → Nat → Nat) (sz : Nat) (Ad0 : Nat) (Fs0 : List Value) (Ad1 : Nat) (Fs1 : List Value) (k_Fs0 : fh Fs0 18 [(0, .int 0)]) (k_Fs1 : fh Fs1 14 [(0, .ref Ad0), (11, .int 0)])  : Met l yX2_meetRoots w_z_X2_meetRoots ({ frames := 1, cells := 0, slots := 0, locals := 20 }) (va_Pc [.ref Ad1] (fun U => U.heap.size = sz ∧ Wd dC dI [] (fun _ => True) [(Ad0, .inr (13, Fs0)), (Ad1, .inr (5, Fs1))] U)) (va_Qi (fun (r : Int32) (u : Unit) => r = 0) (fun (u : Unit) t => Wd dC dI [] (va_A [(Ad0, .inr (13, Fs0)), (Ad1, .inr (5, Fs1))] sz) [(Ad0, .inr (13, Fs0)), (Ad1, .inr (5, Fs1))] t) (va_A [(Ad0, .inr (13, Fs0)), (Ad1, .inr (5, Fs1))] sz))  0 0 (va_A [(Ad0, .inr (13, Fs0)), (Ad1, .inr (5, Fs1))] sz) := by
  refine Met.ofW (cc := cX2_meetRoots) (maxL := 3) (ret := (some .int)) (by decide) rfl ?_
  intro p e s m args below meth c s₁ B hml hv
  obtain ⟨rfl, hsz, hP, hK, hD0⟩ := hv
  have hx := B.exec
  have hb := B.bytes
  have hr := B.returns
  have hts := atoms_spec (ws := w_z_X2_meetRoots) B.pre
  have hown : s.vm.findClass RX2 = some m.cls := findClass_of_methodNamed B.named
  have hlocks := B.notSynchronized
  subst hsz
  have hD := hD0.self (sz := s.heap.size)
  generalize hAe : va_A [(Ad0, .inr (13, Fs0)), (Ad1, .inr (5, Fs1))] s.heap.size = A at hD ⊢
  have hA : ∀ q : Nat, s.heap.size ≤ q → A q := fun q h => by rw [← hAe]; exact Or.inr h
  have hS : va_S A s.heap s.heap [] := va_S.rf
  have hl := lv_entry ([.ref Ad1]) (n := 3) (Nat.le_of_ble_eq_true rfl)
  rw [lg_entry_eq]
  generalize (lg_sl ([.ref Ad1]) ++ List.replicate (3 - (lg_sl ([.ref Ad1])).length) Slot.unset).toArray = ls at hl ⊢
  have hl : lv_has ls 3 [(0, .ref Ad1)] := hl
  have o_Fs0 := ow_0 k_Fs0
  have o_Fs1 := ow_0 k_Fs1
  refine lv_iconst (v := 0) hx hb dX2_meetRoots_0 (by decide) ?_
  refine lv_istore_n (lv' := [(1, .int 0), (0, .ref Ad1)]) hx hb dX2_meetRoots_1 rfl hl (by decide) rfl (fun ls hl => ?_)
  refine lv_iconst (v := 0) hx hb dX2_meetRoots_2 (by decide) ?_
  refine lv_istore_n (lv' := [(2, .int 0), (1, .int 0), (0, .ref Ad1)]) hx hb dX2_meetRoots_3 rfl hl (by decide) rfl (fun ls hl => ?_)
  refine lv_iload_n hx hb dX2_meetRoots_4 rfl (lv_at hl 0 rfl) ?_
  refine lv_aload_n hx hb dX2_meetRoots_5 rfl (lv_at hl 2 rfl) ?_
  refine va_get (D := (dC, dI)) (ci := 5) (v := .int 0) (C := RX2) (T := TX2) (N := 14) hx hb hts (in_z_X2_meetRoots_X2) hown hK hP 1 rfl rfl 11 (by decide) (hts (.fieldLink RX2 89 "HeapWorks$Heap" "rootCount" "I") (by decide +kernel)) (fun _ h9 => h9) (ow_at o_Fs1 1 rfl) dX2_meetRoots_6 ?_
  refine lv_icmp_ge (tgt := 31) hx hb dX2_meetRoots_9 (by decide) (fun c2824 => ?_) (fun c2824 => absurd c2824 (by decide))
  refine lv_iconst (v := 0) hx hb dX2_meetRoots_31 (by decide) ?_
  refine lv_istore_n (lv' := [(2, .int 0), (1, .int 0), (0, .ref Ad1)]) hx hb dX2_meetRoots_32 rfl hl (by decide) rfl (fun ls hl => ?_)
  refine lv_iload_n hx hb dX2_meetRoots_33 rfl (lv_at hl 0 rfl) ?_
  refine lv_aload_n hx hb dX2_meetRoots_34 rfl (lv_at hl 2 rfl) ?_
  refine va_get (D := (dC, dI)) (ci := 5) (v := .ref Ad0) (C := RX2) (T := TX2) (N := 14) hx hb hts (in_z_X2_meetRoots_X2) hown hK hP 1 rfl rfl 0 (by decide) (hts (.fieldLink RX2 9 "HeapWorks$Heap" "types" "LHeapWorks$Types;") (by decide +kernel)) (fun _ h9 => h9) (ow_at o_Fs1 0 rfl) dX2_meetRoots_35 ?_
  have hPc := hP.sub (ws' := [(Ad0, .inr (13, Fs0))]) [0] rfl
  have hDc := hD.sub (ws' := [(Ad0, .inr (13, Fs0))]) [0] (by decide) rfl
  have hKc := hK.sub (tys' := []) [] rfl
  have hFc := va_free (wc := [(Ad0, .inr (13, Fs0))]) hD hS hA [0] rfl
  refine va_calli (va_runV (As := []) (rest := [.int 0]) ⟨hx, hb, hml, hown, hts⟩ (z_X10_ownFields l dC dI s.heap.size Ad0 Fs0 (fh_sub o_Fs0.2 [0] rfl) ) (cwV 0 hts g_z_X2_meetRoots_z_X10_ownFields_99 rfl rfl rfl (by decide +kernel) ⟨Nat.le_of_ble_eq_true rfl, Nat.le_of_ble_eq_true rfl⟩) ⟨fun a U g mk q => by obtain ⟨q0, q1, qP, qK, qD⟩ := q; exact ⟨q0, q1, qP, va_K.moved (u := U) (U := U.calling g mk a) (Vm.Alike.refl U.vm) qK, qD⟩, va_recv hK hP (ci := 13) (q0 := 0) rfl rfl, fun U hU hW => ⟨rfl, by rw [hU], by rw [hU]; exact hPc, va_K.moved hW.alike hKc, hDc.weaken (fun _ _ _ _ => trivial)⟩⟩ rfl rfl hl.1 rfl (lv_room (Nat.le_of_ble_eq_true rfl)) dX2_meetRoots_38 ⟨Nat.le_of_ble_eq_true rfl, Nat.le_of_ble_eq_true rfl⟩) hS (fun q _ h => hFc q h) hFc (fun r2826 u t H1 locs ht hvm hw hB hz1 hk1 hS => ?_)
  obtain ⟨hP1, hK1, hD1⟩ := hB
  rw [ht] at hP1
  try dsimp only at hw
  obtain ⟨hP, hD⟩ := va_join (wr := [(Ad1, .inr (5, Fs1))]) (w1 := [(Ad0, .inr (13, Fs0))]) hP hD [0] [1] rfl rfl (by decide) (by decide) hk1 hFc hP1 hD1
  have hK := hK.sub (tys' := []) [] rfl
  generalize H1 = H at hP hS ⊢
  have hP : va_P (dC, dI) vwCl [(Ad1, .inr (5, Fs1)), (Ad0, .inr (13, Fs0))] H := hP
  have hD : va_D A [(Ad1, .inr (5, Fs1)), (Ad0, .inr (13, Fs0))] := hD
  have er2827 := hw
  subst er2827
  refine lv_icmp_ge (tgt := 73) hx hb dX2_meetRoots_41 (by decide) (fun c2828 => ?_) (fun c2828 => absurd c2828 (by decide))
  refine lv_iload_n hx hb dX2_meetRoots_73 rfl (lv_at hl 1 rfl) ?_
  have hP9 := hP.sub (ws' := [(Ad0, .inr (13, Fs0)), (Ad1, .inr (5, Fs1))]) [1, 0] rfl
  have hD9 := hD.sub (ws' := [(Ad0, .inr (13, Fs0)), (Ad1, .inr (5, Fs1))]) [1, 0] (by decide) rfl
  have hK9 := hK.sub (tys' := []) [] rfl
  exact W.iret (v := 0) hx hb hr (fun t ht hW => ⟨⟨0, (), rfl, rfl, by rw [ht]; exact hP9, va_K.moved hW.alike hK9, hD9⟩, hS.F ht⟩) hS.2.2 dX2_meetRoots_74

def l_z_X2_dropUnreached : List Cond := [.methodLink RX2 119 yX2_clearMarks, .instanceMethod yX2_clearMarks, .selects RX2 yX2_clearMarks yX2_clearMarks, .initialized RX2, .methodLink RX2 122 yX2_meetRoots, .instanceMethod yX2_meetRoots, .selects RX2 yX2_meetRoots yX2_meetRoots, .fieldLink RX2 75 "HeapWorks$Heap" "there" "I", .fieldLink RX2 47 "HeapWorks$Heap" "made" "I", .fieldLink RX2 62 "HeapWorks$Heap" "slots" "I", .code yX2_clearMarks cX2_clearMarks 1 none, .fieldLink RX2 44 "HeapWorks$Heap" "mark" "[I", .methodLink RX2 109 yJ7_fill_fda19, .static yJ7_fill_fda19, .initialized RJ7, .code yJ7_fill_fda19 cJ7_fill_fda19 5 none, .methodLink RJ7 13 yJ7_rangeCheck_23922, .static yJ7_rangeCheck_23922, .code yJ7_rangeCheck_23922 cJ7_rangeCheck_23922 3 none, .code yX2_meetRoots cX2_meetRoots 3 (some .int), .fieldLink RX2 89 "HeapWorks$Heap" "rootCount" "I", .fieldLink RX2 9 "HeapWorks$Heap" "types" "LHeapWorks$Types;", .methodLink RX2 99 yX10_ownFields, .instanceMethod yX10_ownFields, .selects RX10 yX10_ownFields yX10_ownFields, .initialized RX10, .code yX10_ownFields cX10_ownFields 1 (some .int), .fieldLink RX10 65 "HeapWorks$Types" "count" "I"]
def w_z_X2_dropUnreached : List Cond := .code yX2_dropUnreached cX2_dropUnreached 6 (some .int) :: (l_z_X2_dropUnreached ++ ((wsX20 ++ wsX100)))
theorem in_z_X2_dropUnreached_X2 : ∀ w ∈ wsX20, w ∈ w_z_X2_dropUnreached := fun w h => List.mem_cons_of_mem _ (List.mem_append_right _ (List.mem_append_left _ h))
theorem in_z_X2_dropUnreached_X10 : ∀ w ∈ wsX100, w ∈ w_z_X2_dropUnreached := fun w h => List.mem_cons_of_mem _ (List.mem_append_right _ (List.mem_append_right _ (h)))
theorem g_z_X2_dropUnreached_z_X2_clearMarks_119 : GoodIn w_z_X2_dropUnreached (wsV RX2 119 RX2 yX2_clearMarks w_z_X2_clearMarks) := goodIn_app (goodIn_sub (by decide +kernel) (by decide +kernel)) (goodIn_ca (goodIn_sub (by decide +kernel) (by decide +kernel)) (goodIn_in in_z_X2_dropUnreached_X2 gd_X2))
theorem g_z_X2_dropUnreached_z_X2_meetRoots_122 : GoodIn w_z_X2_dropUnreached (wsV RX2 122 RX2 yX2_meetRoots w_z_X2_meetRoots) := goodIn_app (goodIn_sub (by decide +kernel) (by decide +kernel)) (goodIn_ca (goodIn_sub (by decide +kernel) (by decide +kernel)) (goodIn_app (goodIn_in in_z_X2_dropUnreached_X2 gd_X2) (goodIn_in in_z_X2_dropUnreached_X10 gd_X10)))
set_option maxHeartbeats 4000000 in
set_option maxRecDepth 100000 in
theorem z_X2_dropUnreached (l : Launch) (dC : Nat → ClassId) (dI : Nat → Nat → Nat) (sz : Nat) (Ad0 : Nat) (Fs0 : List Value) (Ad1 : Nat) (Fs1 : List Value) (Ad2 : Nat) (Fa0 : Nat → Int32) (Ka0 : ClassId) (k_Fs0 : fh Fs0 18 [(0, .int 0)]) (k_Fs1 : fh Fs1 14 [(0, .ref Ad0), (1, .int 0), (2, .int 0), (11, .int 0), (13, .ref Ad2)])  : Met l yX2_dropUnreached w_z_X2_dropUnreached ({ frames := 3, cells := 0, slots := 0, locals := 66 }) (va_Pc [.ref Ad1] (fun U => U.heap.size = sz ∧ Wd dC dI [(Ka0, .int)] (fun _ => True) [(Ad0, .inr (13, Fs0)), (Ad1, .inr (5, Fs1)), (Ad2, .inl (Ka0, 400, .inl Fa0))] U)) (va_Qi (fun (r : Int32) (u : List Value) => (r = 0 ∧ ow Fs1 (u) 14 [2, 3] [(2, .int 0), (3, .int 0), (0, .ref Ad0), (1, .int 0), (11, .int 0), (13, .ref Ad2)])) (fun (u : List Value) t => Wd dC dI [(Ka0, .int)] (va_A [(Ad0, .inr (13, Fs0)), (Ad1, .inr (5, Fs1)), (Ad2, .inl (Ka0, 400, .inl Fa0))] sz) [(Ad0, .inr (13, Fs0)), (Ad1, .inr (5, (u))), (Ad2, .inl (Ka0, 400, .inl Fa0))] t) (va_A [(Ad0, .inr (13, Fs0)), (Ad1, .inr (5, Fs1)), (Ad2, .inl (Ka0, 400, .inl Fa0))] sz))  0 0 (va_A [(Ad0, .inr (13, Fs0)), (Ad1, .inr (5, Fs1)), (Ad2, .inl (Ka0, 400, .inl Fa0))] sz) := by
  refine Met.ofW (cc := cX2_dropUnreached) (maxL := 6) (ret := (some .int)) (by decide) rfl ?_
  intro p e s m args below meth c s₁ B hml hv
  obtain ⟨rfl, hsz, hP, hK, hD0⟩ := hv
  have hx := B.exec
  have hb := B.bytes
  have hr := B.returns
  have hts := atoms_spec (ws := w_z_X2_dropUnreached) B.pre
  have hown : s.vm.findClass RX2 = some m.cls := findClass_of_methodNamed B.named
  have hlocks := B.notSynchronized
  subst hsz
  have hD := hD0.self (sz := s.heap.size)
  generalize hAe : va_A [(Ad0, .inr (13, Fs0)), (Ad1, .inr (5, Fs1)), (Ad2, .inl (Ka0, 400, .inl Fa0))] s.heap.size = A at hD ⊢
  have hA : ∀ q : Nat, s.heap.size ≤ q → A q := fun q h => by rw [← hAe]; exact Or.inr h
  have hS : va_S A s.heap s.heap [] := va_S.rf
  have hl := lv_entry ([.ref Ad1]) (n := 6) (Nat.le_of_ble_eq_true rfl)
  rw [lg_entry_eq]
  generalize (lg_sl ([.ref Ad1]) ++ List.replicate (6 - (lg_sl ([.ref Ad1])).length) Slot.unset).toArray = ls at hl ⊢
  have hl : lv_has ls 6 [(0, .ref Ad1)] := hl
  have o_Fs0 := ow_0 k_Fs0
  have o_Fs1 := ow_0 k_Fs1
  refine lv_aload_n hx hb dX2_dropUnreached_0 rfl (lv_at hl 0 rfl) ?_
  have hPc := hP.sub (ws' := [(Ad1, .inr (5, Fs1)), (Ad2, .inl (Ka0, 400, .inl Fa0))]) [1, 2] rfl
  have hDc := hD.sub (ws' := [(Ad1, .inr (5, Fs1)), (Ad2, .inl (Ka0, 400, .inl Fa0))]) [1, 2] (by decide) rfl
  have hKc := hK.sub (tys' := [(Ka0, .int)]) [0] rfl
  have hFc := va_free (wc := [(Ad1, .inr (5, Fs1)), (Ad2, .inl (Ka0, 400, .inl Fa0))]) hD hS hA [1, 2] rfl
  refine va_callv (va_runV (As := []) (rest := []) ⟨hx, hb, hml, hown, hts⟩ (z_X2_clearMarks l dC dI s.heap.size Ad1 Fs1 Ad2 Fa0 Ka0 (fh_sub o_Fs1.2 [1, 4] rfl) ) (cwV 0 hts g_z_X2_dropUnreached_z_X2_clearMarks_119 rfl rfl rfl (by decide +kernel) ⟨Nat.le_of_ble_eq_true rfl, Nat.le_of_ble_eq_true rfl⟩) ⟨fun a U g mk q => by obtain ⟨q0, q1, qP, qK, qD⟩ := q; exact ⟨q0, q1, qP, va_K.moved (u := U) (U := U.calling g mk a) (Vm.Alike.refl U.vm) qK, qD⟩, va_recv hK hP (ci := 5) (q0 := 1) rfl rfl, fun U hU hW => ⟨rfl, by rw [hU], by rw [hU]; exact hPc, va_K.moved hW.alike hKc, hDc.weaken (fun _ _ _ _ => trivial)⟩⟩ rfl rfl hl.1 rfl (lv_room (Nat.le_of_ble_eq_true rfl)) dX2_dropUnreached_1 ⟨Nat.le_of_ble_eq_true rfl, Nat.le_of_ble_eq_true rfl⟩) hS (fun q _ h => hFc q h) hFc (fun u t H1 locs ht hvm hw hB hz1 hk1 hS => ?_)
  obtain ⟨hP1, hK1, hD1⟩ := hB
  rw [ht] at hP1
  try dsimp only at hw
  obtain ⟨hP, hD⟩ := va_join (wr := [(Ad0, .inr (13, Fs0))]) (w1 := [(Ad1, .inr (5, Fs1)), (Ad2, .inl (Ka0, 400, .inl Fa0))]) hP hD [1, 2] [0] rfl rfl (by decide) (by decide) hk1 hFc hP1 hD1
  have hK := hK.sub (tys' := [(Ka0, .int)]) [0] rfl
  generalize H1 = H at hP hS ⊢
  have hP : va_P (dC, dI) vwCl [(Ad0, .inr (13, Fs0)), (Ad1, .inr (5, Fs1)), (Ad2, .inl (Ka0, 400, .inl Fa0))] H := hP
  have hD : va_D A [(Ad0, .inr (13, Fs0)), (Ad1, .inr (5, Fs1)), (Ad2, .inl (Ka0, 400, .inl Fa0))] := hD
  refine lv_aload_n hx hb dX2_dropUnreached_4 rfl (lv_at hl 0 rfl) ?_
  have hPc := hP.sub (ws' := [(Ad0, .inr (13, Fs0)), (Ad1, .inr (5, Fs1))]) [0, 1] rfl
  have hDc := hD.sub (ws' := [(Ad0, .inr (13, Fs0)), (Ad1, .inr (5, Fs1))]) [0, 1] (by decide) rfl
  have hKc := hK.sub (tys' := []) [] rfl
  have hFc := va_free (wc := [(Ad0, .inr (13, Fs0)), (Ad1, .inr (5, Fs1))]) hD hS hA [0, 1] rfl
  refine va_calli (va_runV (As := []) (rest := []) ⟨hx, hb, hml, hown, hts⟩ (z_X2_meetRoots l dC dI H.size Ad0 Fs0 Ad1 Fs1 (fh_sub o_Fs0.2 [0] rfl) (fh_sub o_Fs1.2 [0, 3] rfl) ) (cwV 0 hts g_z_X2_dropUnreached_z_X2_meetRoots_122 rfl rfl rfl (by decide +kernel) ⟨Nat.le_of_ble_eq_true rfl, Nat.le_of_ble_eq_true rfl⟩) ⟨fun a U g mk q => by obtain ⟨q0, q1, qP, qK, qD⟩ := q; exact ⟨q0, q1, qP, va_K.moved (u := U) (U := U.calling g mk a) (Vm.Alike.refl U.vm) qK, qD⟩, va_recv hK hP (ci := 5) (q0 := 1) rfl rfl, fun U hU hW => ⟨rfl, by rw [hU], by rw [hU]; exact hPc, va_K.moved hW.alike hKc, hDc.weaken (fun _ _ _ _ => trivial)⟩⟩ rfl rfl hl.1 rfl (lv_room (Nat.le_of_ble_eq_true rfl)) dX2_dropUnreached_5 ⟨Nat.le_of_ble_eq_true rfl, Nat.le_of_ble_eq_true rfl⟩) hS (fun q _ h => hFc q h) hFc (fun r2845 u t H1 locs ht hvm hw hB hz1 hk1 hS => ?_)
  obtain ⟨hP1, hK1, hD1⟩ := hB
  rw [ht] at hP1
  try dsimp only at hw
  obtain ⟨hP, hD⟩ := va_join (wr := [(Ad2, .inl (Ka0, 400, .inl Fa0))]) (w1 := [(Ad0, .inr (13, Fs0)), (Ad1, .inr (5, Fs1))]) hP hD [0, 1] [2] rfl rfl (by decide) (by decide) hk1 hFc hP1 hD1
  have hK := hK.sub (tys' := [(Ka0, .int)]) [0] rfl
  generalize H1 = H at hP hS ⊢
  have hP : va_P (dC, dI) vwCl [(Ad2, .inl (Ka0, 400, .inl Fa0)), (Ad0, .inr (13, Fs0)), (Ad1, .inr (5, Fs1))] H := hP
  have hD : va_D A [(Ad2, .inl (Ka0, 400, .inl Fa0)), (Ad0, .inr (13, Fs0)), (Ad1, .inr (5, Fs1))] := hD
  have er2846 := hw
  subst er2846
  refine lv_istore_n (lv' := [(1, .int 0), (0, .ref Ad1)]) hx hb dX2_dropUnreached_8 rfl hl (by decide) rfl (fun ls hl => ?_)
  refine lv_iconst (v := 0) hx hb dX2_dropUnreached_9 (by decide) ?_
  refine lv_istore_n (lv' := [(2, .int 0), (1, .int 0), (0, .ref Ad1)]) hx hb dX2_dropUnreached_10 rfl hl (by decide) rfl (fun ls hl => ?_)
  refine lv_iload_n hx hb dX2_dropUnreached_11 rfl (lv_at hl 0 rfl) ?_
  refine lv_iload_n hx hb dX2_dropUnreached_12 rfl (lv_at hl 1 rfl) ?_
  refine lv_icmp_ge (tgt := 34) hx hb dX2_dropUnreached_13 (by decide) (fun c2847 => ?_) (fun c2847 => absurd c2847 (by decide))
  refine lv_aload_n hx hb dX2_dropUnreached_34 rfl (lv_at hl 2 rfl) ?_
  refine va_get (D := (dC, dI)) (ci := 5) (v := .int 0) (C := RX2) (T := TX2) (N := 14) hx hb hts (in_z_X2_dropUnreached_X2) hown hK hP 2 rfl rfl 2 (by decide) (hts (.fieldLink RX2 75 "HeapWorks$Heap" "there" "I") (by decide +kernel)) (fun _ h9 => h9) (ow_at o_Fs1 2 rfl) dX2_dropUnreached_35 ?_
  refine lv_iload_n hx hb dX2_dropUnreached_38 rfl (lv_at hl 1 rfl) ?_
  refine lv_isub hx hb dX2_dropUnreached_39  ?_
  refine lv_topi (fun x2848 ex2848 => ?_)
  obtain rfl : x2848 = 0 := ex2848.trans (by decide)
  refine lv_istore_n (lv' := [(2, .int 0), (1, .int 0), (0, .ref Ad1)]) hx hb dX2_dropUnreached_40 rfl hl (by decide) rfl (fun ls hl => ?_)
  refine lv_iconst (v := 0) hx hb dX2_dropUnreached_41 (by decide) ?_
  refine lv_istore_n (lv' := [(3, .int 0), (2, .int 0), (1, .int 0), (0, .ref Ad1)]) hx hb dX2_dropUnreached_42 rfl hl (by decide) rfl (fun ls hl => ?_)
  refine lv_iconst (v := 0) hx hb dX2_dropUnreached_43 (by decide) ?_
  refine lv_istore (lv' := [(4, .int 0), (3, .int 0), (2, .int 0), (1, .int 0), (0, .ref Ad1)]) hx hb dX2_dropUnreached_44 hl (by decide) rfl (fun ls hl => ?_)
  refine lv_iload hx hb dX2_dropUnreached_46 (lv_at hl 0 rfl) ?_
  refine lv_aload_n hx hb dX2_dropUnreached_48 rfl (lv_at hl 4 rfl) ?_
  refine va_get (D := (dC, dI)) (ci := 5) (v := .int 0) (C := RX2) (T := TX2) (N := 14) hx hb hts (in_z_X2_dropUnreached_X2) hown hK hP 2 rfl rfl 1 (by decide) (hts (.fieldLink RX2 47 "HeapWorks$Heap" "made" "I") (by decide +kernel)) (fun _ h9 => h9) (ow_at o_Fs1 1 rfl) dX2_dropUnreached_49 ?_
  refine lv_icmp_ge (tgt := 132) hx hb dX2_dropUnreached_52 (by decide) (fun c2849 => ?_) (fun c2849 => absurd c2849 (by decide))
  refine lv_aload_n hx hb dX2_dropUnreached_132 rfl (lv_at hl 4 rfl) ?_
  refine lv_iload_n hx hb dX2_dropUnreached_133 rfl (lv_at hl 1 rfl) ?_
  refine va_put (D := (dC, dI)) (ci := 5) (v := .int 0) (ty := .int) (C := RX2) (T := TX2) (N := 14) hx hb hts (in_z_X2_dropUnreached_X2) tyX2 tyX2_ok nmX2 hown hK hP hD hS 2 rfl rfl 3 (by decide) (hts (.fieldLink RX2 62 "HeapWorks$Heap" "slots" "I") (by decide +kernel)) (fun _ h9 => h9) rfl (by decide +kernel) rfl rfl (by rw [o_Fs1.2.1]; decide) dX2_dropUnreached_134 (fun H locs hP hD hS => ?_)
  have hP : va_P (dC, dI) vwCl [(Ad2, .inl (Ka0, 400, .inl Fa0)), (Ad0, .inr (13, Fs0)), (Ad1, .inr (5, (Fs1.set 3 (.int 0))))] H := hP
  have hD : va_D A [(Ad2, .inl (Ka0, 400, .inl Fa0)), (Ad0, .inr (13, Fs0)), (Ad1, .inr (5, (Fs1.set 3 (.int 0))))] := hD
  have o_s2850 := ow_set o_Fs1 3 (.int 0) (by decide) (l' := [(3, .int 0), (0, .ref Ad0), (1, .int 0), (2, .int 0), (11, .int 0), (13, .ref Ad2)]) (w' := [3]) rfl rfl
  generalize (Fs1.set 3 (.int 0)) = s2850 at hP hD o_s2850
  refine lv_aload_n hx hb dX2_dropUnreached_137 rfl (lv_at hl 4 rfl) ?_
  refine lv_iload_n hx hb dX2_dropUnreached_138 rfl (lv_at hl 3 rfl) ?_
  refine va_put (D := (dC, dI)) (ci := 5) (v := .int 0) (ty := .int) (C := RX2) (T := TX2) (N := 14) hx hb hts (in_z_X2_dropUnreached_X2) tyX2 tyX2_ok nmX2 hown hK hP hD hS 2 rfl rfl 2 (by decide) (hts (.fieldLink RX2 75 "HeapWorks$Heap" "there" "I") (by decide +kernel)) (fun _ h9 => h9) rfl (by decide +kernel) rfl rfl (by rw [o_s2850.2.1]; decide) dX2_dropUnreached_139 (fun H locs hP hD hS => ?_)
  have hP : va_P (dC, dI) vwCl [(Ad2, .inl (Ka0, 400, .inl Fa0)), (Ad0, .inr (13, Fs0)), (Ad1, .inr (5, (s2850.set 2 (.int 0))))] H := hP
  have hD : va_D A [(Ad2, .inl (Ka0, 400, .inl Fa0)), (Ad0, .inr (13, Fs0)), (Ad1, .inr (5, (s2850.set 2 (.int 0))))] := hD
  have o_s2851 := ow_set o_s2850 2 (.int 0) (by decide) (l' := [(2, .int 0), (3, .int 0), (0, .ref Ad0), (1, .int 0), (11, .int 0), (13, .ref Ad2)]) (w' := [2, 3]) rfl rfl
  generalize (s2850.set 2 (.int 0)) = s2851 at hP hD o_s2851
  refine lv_iload_n hx hb dX2_dropUnreached_142 rfl (lv_at hl 2 rfl) ?_
  have hP9 := hP.sub (ws' := [(Ad0, .inr (13, Fs0)), (Ad1, .inr (5, s2851)), (Ad2, .inl (Ka0, 400, .inl Fa0))]) [1, 2, 0] rfl
  have hD9 := hD.sub (ws' := [(Ad0, .inr (13, Fs0)), (Ad1, .inr (5, s2851)), (Ad2, .inl (Ka0, 400, .inl Fa0))]) [1, 2, 0] (by decide) rfl
  have hK9 := hK.sub (tys' := [(Ka0, .int)]) [0] rfl
  exact W.iret (v := 0) hx hb hr (fun t ht hW => ⟨⟨0, s2851, rfl, ⟨rfl, o_s2851⟩, by rw [ht]; exact hP9, va_K.moved hW.alike hK9, hD9⟩, hS.F ht⟩) hS.2.2 dX2_dropUnreached_143

def l_x_collect : List Cond := [.fieldLink RX11 35 "HeapWorks" "journal" "LHeapWorks$Journal;", .methodLink RX11 276 yX3_forgetUndo, .instanceMethod yX3_forgetUndo, .selects RX3 yX3_forgetUndo yX3_forgetUndo, .initialized RX3, .fieldLink RX11 28 "HeapWorks" "heap" "LHeapWorks$Heap;", .methodLink RX11 279 yX2_dropUnreached, .instanceMethod yX2_dropUnreached, .selects RX2 yX2_dropUnreached yX2_dropUnreached, .initialized RX2, .code yX3_forgetUndo cX3_forgetUndo 1 none, .fieldLink RX3 119 "HeapWorks$Journal" "undoCount" "I", .code yX2_dropUnreached cX2_dropUnreached 6 (some .int), .methodLink RX2 119 yX2_clearMarks, .instanceMethod yX2_clearMarks, .selects RX2 yX2_clearMarks yX2_clearMarks, .methodLink RX2 122 yX2_meetRoots, .instanceMethod yX2_meetRoots, .selects RX2 yX2_meetRoots yX2_meetRoots, .fieldLink RX2 75 "HeapWorks$Heap" "there" "I", .fieldLink RX2 47 "HeapWorks$Heap" "made" "I", .fieldLink RX2 62 "HeapWorks$Heap" "slots" "I", .code yX2_clearMarks cX2_clearMarks 1 none, .fieldLink RX2 44 "HeapWorks$Heap" "mark" "[I", .methodLink RX2 109 yJ7_fill_fda19, .static yJ7_fill_fda19, .initialized RJ7, .code yJ7_fill_fda19 cJ7_fill_fda19 5 none, .methodLink RJ7 13 yJ7_rangeCheck_23922, .static yJ7_rangeCheck_23922, .code yJ7_rangeCheck_23922 cJ7_rangeCheck_23922 3 none, .code yX2_meetRoots cX2_meetRoots 3 (some .int), .fieldLink RX2 89 "HeapWorks$Heap" "rootCount" "I", .fieldLink RX2 9 "HeapWorks$Heap" "types" "LHeapWorks$Types;", .methodLink RX2 99 yX10_ownFields, .instanceMethod yX10_ownFields, .selects RX10 yX10_ownFields yX10_ownFields, .initialized RX10, .code yX10_ownFields cX10_ownFields 1 (some .int), .fieldLink RX10 65 "HeapWorks$Types" "count" "I"]
def w_x_collect : List Cond := .code yX11_collect cX11_collect 1 (some .int) :: (l_x_collect ++ ((wsX110 ++ (wsX30 ++ (wsX20 ++ wsX100)))))
theorem in_x_collect_X11 : ∀ w ∈ wsX110, w ∈ w_x_collect := fun w h => List.mem_cons_of_mem _ (List.mem_append_right _ (List.mem_append_left _ h))
theorem in_x_collect_X3 : ∀ w ∈ wsX30, w ∈ w_x_collect := fun w h => List.mem_cons_of_mem _ (List.mem_append_right _ (List.mem_append_right _ (List.mem_append_left _ h)))
theorem in_x_collect_X2 : ∀ w ∈ wsX20, w ∈ w_x_collect := fun w h => List.mem_cons_of_mem _ (List.mem_append_right _ (List.mem_append_right _ (List.mem_append_right _ (List.mem_append_left _ h))))
theorem in_x_collect_X10 : ∀ w ∈ wsX100, w ∈ w_x_collect := fun w h => List.mem_cons_of_mem _ (List.mem_append_right _ (List.mem_append_right _ (List.mem_append_right _ (List.mem_append_right _ (h)))))
theorem g_x_collect_z_X3_forgetUndo_276 : GoodIn w_x_collect (wsV RX11 276 RX3 yX3_forgetUndo w_z_X3_forgetUndo) := goodIn_app (goodIn_sub (by decide +kernel) (by decide +kernel)) (goodIn_ca (goodIn_sub (by decide +kernel) (by decide +kernel)) (goodIn_in in_x_collect_X3 gd_X3))
theorem g_x_collect_z_X2_dropUnreached_279 : GoodIn w_x_collect (wsV RX11 279 RX2 yX2_dropUnreached w_z_X2_dropUnreached) := goodIn_app (goodIn_sub (by decide +kernel) (by decide +kernel)) (goodIn_ca (goodIn_sub (by decide +kernel) (by decide +kernel)) (goodIn_app (goodIn_in in_x_collect_X2 gd_X2) (goodIn_in in_x_collect_X10 gd_X10)))
set_option maxHeartbeats 4000000 in
set_option maxRecDepth 100000 in
theorem x_collect (l : Launch) (dC : Nat → ClassId) (dI : Nat → Nat → Nat) (sz : Nat) (aX : Nat) (fsX : List Value) (aY : Nat) (fsY : List Value) (aH : Nat) (fsHe : List Value) (q6 : Nat) (f6 : Nat → Int32) (k6 : ClassId) (aJ : Nat) (fsJ : List Value) (k_fsX : fh fsX 18 [(2, .ref aH), (3, .ref aJ)]) (k_fsY : fh fsY 18 [(0, .int 0)]) (k_fsHe : fh fsHe 14 [(0, .ref aY), (1, .int 0), (2, .int 0), (11, .int 0), (13, .ref q6)]) (k_fsJ : fh fsJ 13 [])  : Met l yX11_collect w_x_collect ({ frames := 4, cells := 0, slots := 0, locals := 91 }) (va_Pc [.ref aX] (fun U => U.heap.size = sz ∧ Wd dC dI [(k6, .int)] (fun _ => True) [(aX, .inr (14, fsX)), (aY, .inr (13, fsY)), (aH, .inr (5, fsHe)), (q6, .inl (k6, 400, .inl f6)), (aJ, .inr (6, fsJ))] U)) (va_Qi (fun (r : Int32) (u : List Value × List Value) => (r = 0 ∧ ow fsHe (u.1) 14 [2, 3] [(2, .int 0), (3, .int 0), (0, .ref aY), (1, .int 0), (11, .int 0), (13, .ref q6), (0, .ref aY), (1, .int 0), (11, .int 0), (13, .ref q6)] ∧ ow fsJ (u.2) 13 [6] [(6, .int 0)])) (fun (u : List Value × List Value) t => Wd dC dI [(k6, .int)] (va_A [(aX, .inr (14, fsX)), (aY, .inr (13, fsY)), (aH, .inr (5, fsHe)), (q6, .inl (k6, 400, .inl f6)), (aJ, .inr (6, fsJ))] sz) [(aX, .inr (14, fsX)), (aY, .inr (13, fsY)), (aH, .inr (5, (u.1))), (q6, .inl (k6, 400, .inl f6)), (aJ, .inr (6, (u.2)))] t) (va_A [(aX, .inr (14, fsX)), (aY, .inr (13, fsY)), (aH, .inr (5, fsHe)), (q6, .inl (k6, 400, .inl f6)), (aJ, .inr (6, fsJ))] sz))  0 0 (va_A [(aX, .inr (14, fsX)), (aY, .inr (13, fsY)), (aH, .inr (5, fsHe)), (q6, .inl (k6, 400, .inl f6)), (aJ, .inr (6, fsJ))] sz) := by
  refine Met.ofW (cc := cX11_collect) (maxL := 1) (ret := (some .int)) (by decide) rfl ?_
  intro p e s m args below meth c s₁ B hml hv
  obtain ⟨rfl, hsz, hP, hK, hD0⟩ := hv
  have hx := B.exec
  have hb := B.bytes
  have hr := B.returns
  have hts := atoms_spec (ws := w_x_collect) B.pre
  have hown : s.vm.findClass RX11 = some m.cls := findClass_of_methodNamed B.named
  have hlocks := B.notSynchronized
  subst hsz
  have hD := hD0.self (sz := s.heap.size)
  generalize hAe : va_A [(aX, .inr (14, fsX)), (aY, .inr (13, fsY)), (aH, .inr (5, fsHe)), (q6, .inl (k6, 400, .inl f6)), (aJ, .inr (6, fsJ))] s.heap.size = A at hD ⊢
  have hA : ∀ q : Nat, s.heap.size ≤ q → A q := fun q h => by rw [← hAe]; exact Or.inr h
  have hS : va_S A s.heap s.heap [] := va_S.rf
  have hl := lv_entry ([.ref aX]) (n := 1) (Nat.le_of_ble_eq_true rfl)
  rw [lg_entry_eq]
  generalize (lg_sl ([.ref aX]) ++ List.replicate (1 - (lg_sl ([.ref aX])).length) Slot.unset).toArray = ls at hl ⊢
  have hl : lv_has ls 1 [(0, .ref aX)] := hl
  have o_fsX := ow_0 k_fsX
  have o_fsY := ow_0 k_fsY
  have o_fsHe := ow_0 k_fsHe
  have o_fsJ := ow_0 k_fsJ
  refine lv_aload_n hx hb dX11_collect_0 rfl (lv_at hl 0 rfl) ?_
  refine va_get (D := (dC, dI)) (ci := 14) (v := .ref aJ) (C := RX11) (T := TX11) (N := 18) hx hb hts (in_x_collect_X11) hown hK hP 0 rfl rfl 3 (by decide) (hts (.fieldLink RX11 35 "HeapWorks" "journal" "LHeapWorks$Journal;") (by decide +kernel)) (fun _ h9 => h9) (ow_at o_fsX 1 rfl) dX11_collect_1 ?_
  have hPc := hP.sub (ws' := [(aJ, .inr (6, fsJ))]) [4] rfl
  have hDc := hD.sub (ws' := [(aJ, .inr (6, fsJ))]) [4] (by decide) rfl
  have hKc := hK.sub (tys' := []) [] rfl
  have hFc := va_free (wc := [(aJ, .inr (6, fsJ))]) hD hS hA [4] rfl
  refine va_callv (va_runV (As := []) (rest := []) ⟨hx, hb, hml, hown, hts⟩ (z_X3_forgetUndo l dC dI s.heap.size aJ fsJ (fh_sub o_fsJ.2 [] rfl) ) (cwV 0 hts g_x_collect_z_X3_forgetUndo_276 rfl rfl rfl (by decide +kernel) ⟨Nat.le_of_ble_eq_true rfl, Nat.le_of_ble_eq_true rfl⟩) ⟨fun a U g mk q => by obtain ⟨q0, q1, qP, qK, qD⟩ := q; exact ⟨q0, q1, qP, va_K.moved (u := U) (U := U.calling g mk a) (Vm.Alike.refl U.vm) qK, qD⟩, va_recv hK hP (ci := 6) (q0 := 4) rfl rfl, fun U hU hW => ⟨rfl, by rw [hU], by rw [hU]; exact hPc, va_K.moved hW.alike hKc, hDc.weaken (fun _ _ _ _ => trivial)⟩⟩ rfl rfl hl.1 rfl (lv_room (Nat.le_of_ble_eq_true rfl)) dX11_collect_4 ⟨Nat.le_of_ble_eq_true rfl, Nat.le_of_ble_eq_true rfl⟩) hS (fun q _ h => hFc q h) hFc (fun u t H1 locs ht hvm hw hB hz1 hk1 hS => ?_)
  obtain ⟨s2856, rfl⟩ : ∃ z, z = u := ⟨_, rfl⟩
  obtain ⟨hP1, hK1, hD1⟩ := hB
  rw [ht] at hP1
  try dsimp only at hw
  obtain ⟨hP, hD⟩ := va_join (wr := [(aX, .inr (14, fsX)), (aY, .inr (13, fsY)), (aH, .inr (5, fsHe)), (q6, .inl (k6, 400, .inl f6))]) (w1 := [(aJ, .inr (6, s2856))]) hP hD [4] [0, 1, 2, 3] rfl rfl (by decide) (by decide) hk1 hFc hP1 hD1
  have hK := hK.sub (tys' := [(k6, .int)]) [0] rfl
  generalize H1 = H at hP hS ⊢
  have hP : va_P (dC, dI) vwCl [(aX, .inr (14, fsX)), (aY, .inr (13, fsY)), (aH, .inr (5, fsHe)), (q6, .inl (k6, 400, .inl f6)), (aJ, .inr (6, s2856))] H := hP
  have hD : va_D A [(aX, .inr (14, fsX)), (aY, .inr (13, fsY)), (aH, .inr (5, fsHe)), (q6, .inl (k6, 400, .inl f6)), (aJ, .inr (6, s2856))] := hD
  have o_s2856 := hw
  have o_s2856 := ow_on o_fsJ o_s2856 (l' := [(6, .int 0)]) (w' := [6]) rfl rfl
  refine lv_aload_n hx hb dX11_collect_7 rfl (lv_at hl 0 rfl) ?_
  refine va_get (D := (dC, dI)) (ci := 14) (v := .ref aH) (C := RX11) (T := TX11) (N := 18) hx hb hts (in_x_collect_X11) hown hK hP 0 rfl rfl 2 (by decide) (hts (.fieldLink RX11 28 "HeapWorks" "heap" "LHeapWorks$Heap;") (by decide +kernel)) (fun _ h9 => h9) (ow_at o_fsX 0 rfl) dX11_collect_8 ?_
  have hPc := hP.sub (ws' := [(aY, .inr (13, fsY)), (aH, .inr (5, fsHe)), (q6, .inl (k6, 400, .inl f6))]) [1, 2, 3] rfl
  have hDc := hD.sub (ws' := [(aY, .inr (13, fsY)), (aH, .inr (5, fsHe)), (q6, .inl (k6, 400, .inl f6))]) [1, 2, 3] (by decide) rfl
  have hKc := hK.sub (tys' := [(k6, .int)]) [0] rfl
  have hFc := va_free (wc := [(aY, .inr (13, fsY)), (aH, .inr (5, fsHe)), (q6, .inl (k6, 400, .inl f6))]) hD hS hA [1, 2, 3] rfl
  refine va_calli (va_runV (As := []) (rest := []) ⟨hx, hb, hml, hown, hts⟩ (z_X2_dropUnreached l dC dI H.size aY fsY aH fsHe q6 f6 k6 (fh_sub o_fsY.2 [0] rfl) (fh_sub o_fsHe.2 [0, 1, 2, 3, 4] rfl) ) (cwV 0 hts g_x_collect_z_X2_dropUnreached_279 rfl rfl rfl (by decide +kernel) ⟨Nat.le_of_ble_eq_true rfl, Nat.le_of_ble_eq_true rfl⟩) ⟨fun a U g mk q => by obtain ⟨q0, q1, qP, qK, qD⟩ := q; exact ⟨q0, q1, qP, va_K.moved (u := U) (U := U.calling g mk a) (Vm.Alike.refl U.vm) qK, qD⟩, va_recv hK hP (ci := 5) (q0 := 2) rfl rfl, fun U hU hW => ⟨rfl, by rw [hU], by rw [hU]; exact hPc, va_K.moved hW.alike hKc, hDc.weaken (fun _ _ _ _ => trivial)⟩⟩ rfl rfl hl.1 rfl (lv_room (Nat.le_of_ble_eq_true rfl)) dX11_collect_11 ⟨Nat.le_of_ble_eq_true rfl, Nat.le_of_ble_eq_true rfl⟩) hS (fun q _ h => hFc q h) hFc (fun r2873 u t H1 locs ht hvm hw hB hz1 hk1 hS => ?_)
  obtain ⟨s2874, rfl⟩ : ∃ z, z = u := ⟨_, rfl⟩
  obtain ⟨hP1, hK1, hD1⟩ := hB
  rw [ht] at hP1
  try dsimp only at hw
  obtain ⟨hP, hD⟩ := va_join (wr := [(aX, .inr (14, fsX)), (aJ, .inr (6, s2856))]) (w1 := [(aY, .inr (13, fsY)), (aH, .inr (5, s2874)), (q6, .inl (k6, 400, .inl f6))]) hP hD [1, 2, 3] [0, 4] rfl rfl (by decide) (by decide) hk1 hFc hP1 hD1
  have hK := hK.sub (tys' := [(k6, .int)]) [0] rfl
  generalize H1 = H at hP hS ⊢
  have hP : va_P (dC, dI) vwCl [(aX, .inr (14, fsX)), (aJ, .inr (6, s2856)), (aY, .inr (13, fsY)), (aH, .inr (5, s2874)), (q6, .inl (k6, 400, .inl f6))] H := hP
  have hD : va_D A [(aX, .inr (14, fsX)), (aJ, .inr (6, s2856)), (aY, .inr (13, fsY)), (aH, .inr (5, s2874)), (q6, .inl (k6, 400, .inl f6))] := hD
  obtain ⟨er2875, o_s2874⟩ := hw
  subst er2875
  have o_s2874 := ow_on o_fsHe o_s2874 (l' := [(2, .int 0), (3, .int 0), (0, .ref aY), (1, .int 0), (11, .int 0), (13, .ref q6), (0, .ref aY), (1, .int 0), (11, .int 0), (13, .ref q6)]) (w' := [2, 3]) rfl rfl
  have hP9 := hP.sub (ws' := [(aX, .inr (14, fsX)), (aY, .inr (13, fsY)), (aH, .inr (5, s2874)), (q6, .inl (k6, 400, .inl f6)), (aJ, .inr (6, s2856))]) [0, 2, 3, 4, 1] rfl
  have hD9 := hD.sub (ws' := [(aX, .inr (14, fsX)), (aY, .inr (13, fsY)), (aH, .inr (5, s2874)), (q6, .inl (k6, 400, .inl f6)), (aJ, .inr (6, s2856))]) [0, 2, 3, 4, 1] (by decide) rfl
  have hK9 := hK.sub (tys' := [(k6, .int)]) [0] rfl
  exact W.iret (v := 0) hx hb hr (fun t ht hW => ⟨⟨0, (s2874, s2856), rfl, ⟨rfl, o_s2874, o_s2856⟩, by rw [ht]; exact hP9, va_K.moved hW.alike hK9, hD9⟩, hS.F ht⟩) hS.2.2 dX11_collect_14
