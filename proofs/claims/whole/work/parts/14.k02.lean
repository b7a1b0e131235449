def l_k_X9 : List Cond := [.methodLink RX9 3 objectInit, .instanceMethod objectInit, .code objectInit ⟨#[0xb1]⟩ 1 none, .arrayClass .int, .fieldLink RX9 11 "HeapWorks$Tape" "bytes" "[I", .fieldLink RX9 15 "HeapWorks$Tape" "ready" "[I", .fieldLink RX9 18 "HeapWorks$Tape" "words" "[I", .fieldLink RX9 21 "HeapWorks$Tape" "places" "[I", .arrayClass .long, .fieldLink RX9 24 "HeapWorks$Tape" "codes" "[J", .fieldLink RX9 28 "HeapWorks$Tape" "keywords" "[J", .methodLink RX9 33 yJ0_length_8abf5, .instanceMethod yJ0_length_8abf5, .selects RJ0 yJ0_length_8abf5 yJ0_length_8abf5, .initialized RJ0, .methodLink RX9 39 yJ0_charAt_5068e, .instanceMethod yJ0_charAt_5068e, .selects RJ0 yJ0_charAt_5068e yJ0_charAt_5068e, .constantLong RX9 43 (64), .methodLink RX9 45 yX9_symbolOf, .static yX9_symbolOf, .initialized RX9, .code yJ0_length_8abf5 cJ0_length_8abf5 1 (some .int), .fieldLink RJ0 9 "java/lang/String" "value" "[B", .methodLink RJ0 335 yJ0_coder_7d493, .instanceMethod yJ0_coder_7d493, .selects RJ0 yJ0_coder_7d493 yJ0_coder_7d493, .code yJ0_coder_7d493 cJ0_coder_7d493 1 (some .byte), .fieldLink RJ0 38 "java/lang/String" "COMPACT_STRINGS" "Z", .fieldLink RJ0 15 "java/lang/String" "coder" "B", .code yJ0_charAt_5068e cJ0_charAt_5068e 2 (some .char), .methodLink RJ0 492 yJ0_isLatin1_aae02, .instanceMethod yJ0_isLatin1_aae02, .selects RJ0 yJ0_isLatin1_aae02 yJ0_isLatin1_aae02, .methodLink RJ0 495 yJ1_charAt_3b067, .static yJ1_charAt_3b067, .initialized RJ1, .code yJ0_isLatin1_aae02 cJ0_isLatin1_aae02 1 (some .boolean), .code yJ1_charAt_3b067 cJ1_charAt_3b067 2 (some .char), .methodLink RJ1 9 yJ0_checkIndex_df160, .static yJ0_checkIndex_df160, .code yJ0_checkIndex_df160 cJ0_checkIndex_df160 2 none, .fieldLink RJ0 1053 "jdk/internal/util/Preconditions" "SIOOBE_FORMATTER" "Ljava/util/function/BiFunction;", .methodLink RJ0 1059 yJ3_checkIndex_8e157, .static yJ3_checkIndex_8e157, .initialized RJ3, .code yJ3_checkIndex_8e157 cJ3_checkIndex_8e157 3 (some .int), .code yX9_symbolOf cX9_symbolOf 1 (some .int), .methodLink RX9 65 yX9_isDigit, .static yX9_isDigit, .code yX9_isDigit cX9_isDigit 1 (some .boolean)]
def w_k_X9 : List Cond := .code yX9_init cX9_init 5 none :: (l_k_X9 ++ (wsX90))
theorem in_k_X9_X9 : ∀ w ∈ wsX90, w ∈ w_k_X9 := fun w h => List.mem_cons_of_mem _ (List.mem_append_right _ (h))
theorem g_k_X9_zk_J0_length_8abf5_33 : GoodIn w_k_X9 (wsV RX9 33 RJ0 yJ0_length_8abf5 w_zk_J0_length_8abf5) := goodIn_app (goodIn_sub (by decide +kernel) (by decide +kernel)) (goodIn_sub (by decide +kernel) (by decide +kernel))
theorem g_k_X9_zk_J0_charAt_5068e_39 : GoodIn w_k_X9 (wsV RX9 39 RJ0 yJ0_charAt_5068e w_zk_J0_charAt_5068e) := goodIn_app (goodIn_sub (by decide +kernel) (by decide +kernel)) (goodIn_sub (by decide +kernel) (by decide +kernel))
theorem g_k_X9_zk_X9_symbolOf_45 : GoodIn w_k_X9 (wsS RX9 45 yX9_symbolOf w_zk_X9_symbolOf) := goodIn_app (goodIn_sub (by decide +kernel) (by decide +kernel)) (goodIn_sub (by decide +kernel) (by decide +kernel))
set_option maxHeartbeats 4000000 in
set_option maxRecDepth 100000 in
theorem k_X9 (l : Launch) (dC : Nat → ClassId) (dI : Nat → Nat → Nat) (sz : Nat) (adK adV : Nat → Nat) (a0 : Nat) (fs0 : List Value) (k_fs0 : fh fs0 12 [(0, .null), (1, .int 0), (2, .null), (3, .null), (4, .int 0), (5, .null), (6, .null), (7, .null), (8, .int 0), (9, .int 0), (10, .int 0), (11, .long 0)])  : Met l yX9_init w_k_X9 ({ frames := 4, cells := 6, slots := 16052, locals := 85 }) (va_Pc [.ref a0] (fun U => U.heap.size = sz ∧ Kc adK adV (va_A [(a0, .inr (12, fs0))] sz) U ∧ Wd dC dI [] (fun _ => True) [(a0, .inr (12, fs0))] U)) (va_Qv (fun (u : List Value × Nat × (Nat → Int64) × ClassId × Nat × (Nat → Int64) × ClassId × Nat × (Nat → Int32) × ClassId × Nat × (Nat → Int32) × ClassId × Nat × (Nat → Int32) × ClassId × Nat × (Nat → Int32) × ClassId) => match u with | (s755, q751, f1350, k752, q746, f748, k747, q741, f743, k742, q736, f738, k737, q731, f733, k732, q726, f728, k727) => (ow fs0 (s755) 12 [3, 7, 6, 5, 2, 0] [(3, .ref q751), (7, .ref q746), (6, .ref q741), (5, .ref q736), (2, .ref q731), (0, .ref q726), (1, .int 0)] ∧ (∀ j, f748 j = 0) ∧ (∀ j, f743 j = 0) ∧ (∀ j, f738 j = 0) ∧ (∀ j, f733 j = 0) ∧ (∀ j, f728 j = 0))) (fun (u : List Value × Nat × (Nat → Int64) × ClassId × Nat × (Nat → Int64) × ClassId × Nat × (Nat → Int32) × ClassId × Nat × (Nat → Int32) × ClassId × Nat × (Nat → Int32) × ClassId × Nat × (Nat → Int32) × ClassId) t => match u with | (s755, q751, f1350, k752, q746, f748, k747, q741, f743, k742, q736, f738, k737, q731, f733, k732, q726, f728, k727) => Wd dC dI [(k752, .long), (k747, .long), (k742, .int), (k737, .int), (k732, .int), (k727, .int)] (va_A [(a0, .inr (12, fs0))] sz) [(a0, .inr (12, s755)), (q751, .inl (k752, 29, .inr (.inl f1350))), (q746, .inl (k747, 4001, .inr (.inl f748))), (q741, .inl (k742, 4001, .inl f743)), (q736, .inl (k737, 4001, .inl f738)), (q731, .inl (k732, 20, .inl f733)), (q726, .inl (k727, 4000, .inl f728))] t) (va_A [(a0, .inr (12, fs0))] sz))  6 16052 (va_A [(a0, .inr (12, fs0))] sz) := by
  refine Met.ofW (cc := cX9_init) (maxL := 5) (ret := none) (by decide) rfl ?_
  intro p e s m args below meth c s₁ B hml hv
  obtain ⟨rfl, hsz, hC, hP, hK, hD0⟩ := hv
  have hx := B.exec
  have hb := B.bytes
  have hr := B.returns
  have hts := atoms_spec (ws := w_k_X9) B.pre
  have hown : s.vm.findClass RX9 = some m.cls := findClass_of_methodNamed B.named
  have hlocks := B.notSynchronized
  have hin : meth.name = "<init>" := (name_of_methodNamed B.named B.method).1
  subst hsz
  have hD := hD0.self (sz := s.heap.size)
  generalize hAe : va_A [(a0, .inr (12, fs0))] s.heap.size = A at hD hC ⊢
  have hA : ∀ q : Nat, s.heap.size ≤ q → A q := fun q h => by rw [← hAe]; exact Or.inr h
  have hS : va_S A s.heap s.heap [] := va_S.rf
  have hl := lv_entry ([.ref a0]) (n := 5) (Nat.le_of_ble_eq_true rfl)
  rw [lg_entry_eq]
  generalize (lg_sl ([.ref a0]) ++ List.replicate (5 - (lg_sl ([.ref a0])).length) Slot.unset).toArray = ls at hl ⊢
  have hl : lv_has ls 5 [(0, .ref a0)] := hl
  have o_fs0 := ow_0 k_fs0
  refine lv_aload_n hx hb dX9_init_0 rfl (lv_at hl 0 rfl) ?_
  refine W.objInit hx hb hown (hts (.methodLink RX9 3 objectInit) (by decide +kernel)) (hts (.instanceMethod objectInit) (by decide +kernel)) (hts (.code objectInit ⟨#[0xb1]⟩ 1 none) (by decide +kernel)) rfl (by rw [hml]; exact hl.1) rfl dX9_init_1 (Nat.le_of_ble_eq_true rfl) (Nat.le_of_ble_eq_true rfl) ?_
  refine W.eq (g2 := F0 m 4 ls []) rfl ?_
  refine lv_aload_n hx hb dX9_init_4 rfl (lv_at hl 0 rfl) ?_
  refine lv_sipush (v := 4000) hx hb dX9_init_5 (by decide) ?_
  refine va_newa (atype := .int) (ty := .int) (a0 := (4000, .inl (fun _ : Nat => (0 : Int32)))) (N' := 4000) hx hb (hts (.arrayClass .int) (by decide +kernel)) rfl hK hP hD hS hA (na_I 4000) (by decide) (by decide) (by decide) (Nat.le_of_ble_eq_true rfl) (Nat.le_of_ble_eq_true rfl) dX9_init_8 (fun q726 k727 H hK hP hD hS => ?_)
  have hK : va_K (dC, dI) vwCl [(k727, .int)] s := hK
  have hP : va_P (dC, dI) vwCl [(a0, .inr (12, fs0)), (q726, .inl (k727, 4000, .inl ((fun _ : Nat => (0 : Int32)))))] H := hP
  have hD : va_D A [(a0, .inr (12, fs0)), (q726, .inl (k727, 4000, .inl ((fun _ : Nat => (0 : Int32)))))] := hD
  have z729 : ∀ j, (fun _ : Nat => (0 : Int32)) j = 0 := fun _ => rfl
  generalize (fun _ : Nat => (0 : Int32)) = f728 at hP hD z729
  refine W.widen (k := 1) (n := 4000) (by omega) (by omega) ?_
  refine va_putF (D := (dC, dI)) (ci := 12) (v := .ref q726) (ty := .array .int) (C := RX9) (T := TX9) (N := 12) hx hb hts (in_k_X9_X9) tyX9 tyX9_ok nmX9 hown hK hP hD hS 0 rfl rfl 0 (by decide) (hts (.fieldLink RX9 11 "HeapWorks$Tape" "bytes" "[I") (by decide +kernel)) (fun _ h9 => h9) rfl hin rfl (by decide +kernel) rfl rfl (by rw [o_fs0.2.1]; decide) dX9_init_10 (fun H locs hP hD hS => ?_)
  have hP : va_P (dC, dI) vwCl [(a0, .inr (12, (fs0.set 0 (.ref q726)))), (q726, .inl (k727, 4000, .inl f728))] H := hP
  have hD : va_D A [(a0, .inr (12, (fs0.set 0 (.ref q726)))), (q726, .inl (k727, 4000, .inl f728))] := hD
  have o_s730 := ow_set o_fs0 0 (.ref q726) (by decide) (l' := [(0, .ref q726), (1, .int 0), (2, .null), (3, .null), (4, .int 0), (5, .null), (6, .null), (7, .null), (8, .int 0), (9, .int 0), (10, .int 0), (11, .long 0)]) (w' := [0]) rfl rfl
  generalize (fs0.set 0 (.ref q726)) = s730 at hP hD o_s730
  refine lv_aload_n hx hb dX9_init_13 rfl (lv_at hl 0 rfl) ?_
  refine lv_bipush (v := 20) hx hb dX9_init_14 (by decide) ?_
  refine va_newa (atype := .int) (ty := .int) (a0 := (20, .inl (fun _ : Nat => (0 : Int32)))) (N' := 20) hx hb (hts (.arrayClass .int) (by decide +kernel)) rfl hK hP hD hS hA (na_I 20) (by decide) (by decide) (by decide) (Nat.le_of_ble_eq_true rfl) (Nat.le_of_ble_eq_true rfl) dX9_init_16 (fun q731 k732 H hK hP hD hS => ?_)
  have hK : va_K (dC, dI) vwCl [(k727, .int), (k732, .int)] s := hK
  have hP : va_P (dC, dI) vwCl [(a0, .inr (12, s730)), (q726, .inl (k727, 4000, .inl f728)), (q731, .inl (k732, 20, .inl ((fun _ : Nat => (0 : Int32)))))] H := hP
  have hD : va_D A [(a0, .inr (12, s730)), (q726, .inl (k727, 4000, .inl f728)), (q731, .inl (k732, 20, .inl ((fun _ : Nat => (0 : Int32)))))] := hD
  have z734 : ∀ j, (fun _ : Nat => (0 : Int32)) j = 0 := fun _ => rfl
  generalize (fun _ : Nat => (0 : Int32)) = f733 at hP hD z734
  refine W.widen (k := 2) (n := 4020) (by omega) (by omega) ?_
  refine va_putF (D := (dC, dI)) (ci := 12) (v := .ref q731) (ty := .array .int) (C := RX9) (T := TX9) (N := 12) hx hb hts (in_k_X9_X9) tyX9 tyX9_ok nmX9 hown hK hP hD hS 0 rfl rfl 2 (by decide) (hts (.fieldLink RX9 15 "HeapWorks$Tape" "ready" "[I") (by decide +kernel)) (fun _ h9 => h9) rfl hin rfl (by decide +kernel) rfl rfl (by rw [o_s730.2.1]; decide) dX9_init_18 (fun H locs hP hD hS => ?_)
  have hP : va_P (dC, dI) vwCl [(a0, .inr (12, (s730.set 2 (.ref q731)))), (q726, .inl (k727, 4000, .inl f728)), (q731, .inl (k732, 20, .inl f733))] H := hP
  have hD : va_D A [(a0, .inr (12, (s730.set 2 (.ref q731)))), (q726, .inl (k727, 4000, .inl f728)), (q731, .inl (k732, 20, .inl f733))] := hD
  have o_s735 := ow_set o_s730 2 (.ref q731) (by decide) (l' := [(2, .ref q731), (0, .ref q726), (1, .int 0), (3, .null), (4, .int 0), (5, .null), (6, .null), (7, .null), (8, .int 0), (9, .int 0), (10, .int 0), (11, .long 0)]) (w' := [2, 0]) rfl rfl
  generalize (s730.set 2 (.ref q731)) = s735 at hP hD o_s735
  refine lv_aload_n hx hb dX9_init_21 rfl (lv_at hl 0 rfl) ?_
  refine lv_sipush (v := 4001) hx hb dX9_init_22 (by decide) ?_
  refine va_newa (atype := .int) (ty := .int) (a0 := (4001, .inl (fun _ : Nat => (0 : Int32)))) (N' := 4001) hx hb (hts (.arrayClass .int) (by decide +kernel)) rfl hK hP hD hS hA (na_I 4001) (by decide) (by decide) (by decide) (Nat.le_of_ble_eq_true rfl) (Nat.le_of_ble_eq_true rfl) dX9_init_25 (fun q736 k737 H hK hP hD hS => ?_)
  have hK : va_K (dC, dI) vwCl [(k727, .int), (k732, .int), (k737, .int)] s := hK
  have hP : va_P (dC, dI) vwCl [(a0, .inr (12, s735)), (q726, .inl (k727, 4000, .inl f728)), (q731, .inl (k732, 20, .inl f733)), (q736, .inl (k737, 4001, .inl ((fun _ : Nat => (0 : Int32)))))] H := hP
  have hD : va_D A [(a0, .inr (12, s735)), (q726, .inl (k727, 4000, .inl f728)), (q731, .inl (k732, 20, .inl f733)), (q736, .inl (k737, 4001, .inl ((fun _ : Nat => (0 : Int32)))))] := hD
  have z739 : ∀ j, (fun _ : Nat => (0 : Int32)) j = 0 := fun _ => rfl
  generalize (fun _ : Nat => (0 : Int32)) = f738 at hP hD z739
  refine W.widen (k := 3) (n := 8021) (by omega) (by omega) ?_
  refine va_putF (D := (dC, dI)) (ci := 12) (v := .ref q736) (ty := .array .int) (C := RX9) (T := TX9) (N := 12) hx hb hts (in_k_X9_X9) tyX9 tyX9_ok nmX9 hown hK hP hD hS 0 rfl rfl 5 (by decide) (hts (.fieldLink RX9 18 "HeapWorks$Tape" "words" "[I") (by decide +kernel)) (fun _ h9 => h9) rfl hin rfl (by decide +kernel) rfl rfl (by rw [o_s735.2.1]; decide) dX9_init_27 (fun H locs hP hD hS => ?_)
  have hP : va_P (dC, dI) vwCl [(a0, .inr (12, (s735.set 5 (.ref q736)))), (q726, .inl (k727, 4000, .inl f728)), (q731, .inl (k732, 20, .inl f733)), (q736, .inl (k737, 4001, .inl f738))] H := hP
  have hD : va_D A [(a0, .inr (12, (s735.set 5 (.ref q736)))), (q726, .inl (k727, 4000, .inl f728)), (q731, .inl (k732, 20, .inl f733)), (q736, .inl (k737, 4001, .inl f738))] := hD
  have o_s740 := ow_set o_s735 5 (.ref q736) (by decide) (l' := [(5, .ref q736), (2, .ref q731), (0, .ref q726), (1, .int 0), (3, .null), (4, .int 0), (6, .null), (7, .null), (8, .int 0), (9, .int 0), (10, .int 0), (11, .long 0)]) (w' := [5, 2, 0]) rfl rfl
  generalize (s735.set 5 (.ref q736)) = s740 at hP hD o_s740
  refine lv_aload_n hx hb dX9_init_30 rfl (lv_at hl 0 rfl) ?_
  refine lv_sipush (v := 4001) hx hb dX9_init_31 (by decide) ?_
  refine va_newa (atype := .int) (ty := .int) (a0 := (4001, .inl (fun _ : Nat => (0 : Int32)))) (N' := 4001) hx hb (hts (.arrayClass .int) (by decide +kernel)) rfl hK hP hD hS hA (na_I 4001) (by decide) (by decide) (by decide) (Nat.le_of_ble_eq_true rfl) (Nat.le_of_ble_eq_true rfl) dX9_init_34 (fun q741 k742 H hK hP hD hS => ?_)
  have hK : va_K (dC, dI) vwCl [(k727, .int), (k732, .int), (k737, .int), (k742, .int)] s := hK
  have hP : va_P (dC, dI) vwCl [(a0, .inr (12, s740)), (q726, .inl (k727, 4000, .inl f728)), (q731, .inl (k732, 20, .inl f733)), (q736, .inl (k737, 4001, .inl f738)), (q741, .inl (k742, 4001, .inl ((fun _ : Nat => (0 : Int32)))))] H := hP
  have hD : va_D A [(a0, .inr (12, s740)), (q726, .inl (k727, 4000, .inl f728)), (q731, .inl (k732, 20, .inl f733)), (q736, .inl (k737, 4001, .inl f738)), (q741, .inl (k742, 4001, .inl ((fun _ : Nat => (0 : Int32)))))] := hD
  have z744 : ∀ j, (fun _ : Nat => (0 : Int32)) j = 0 := fun _ => rfl
  generalize (fun _ : Nat => (0 : Int32)) = f743 at hP hD z744
  refine W.widen (k := 4) (n := 12022) (by omega) (by omega) ?_
  refine va_putF (D := (dC, dI)) (ci := 12) (v := .ref q741) (ty := .array .int) (C := RX9) (T := TX9) (N := 12) hx hb hts (in_k_X9_X9) tyX9 tyX9_ok nmX9 hown hK hP hD hS 0 rfl rfl 6 (by decide) (hts (.fieldLink RX9 21 "HeapWorks$Tape" "places" "[I") (by decide +kernel)) (fun _ h9 => h9) rfl hin rfl (by decide +kernel) rfl rfl (by rw [o_s740.2.1]; decide) dX9_init_36 (fun H locs hP hD hS => ?_)
  have hP : va_P (dC, dI) vwCl [(a0, .inr (12, (s740.set 6 (.ref q741)))), (q726, .inl (k727, 4000, .inl f728)), (q731, .inl (k732, 20, .inl f733)), (q736, .inl (k737, 4001, .inl f738)), (q741, .inl (k742, 4001, .inl f743))] H := hP
  have hD : va_D A [(a0, .inr (12, (s740.set 6 (.ref q741)))), (q726, .inl (k727, 4000, .inl f728)), (q731, .inl (k732, 20, .inl f733)), (q736, .inl (k737, 4001, .inl f738)), (q741, .inl (k742, 4001, .inl f743))] := hD
  have o_s745 := ow_set o_s740 6 (.ref q741) (by decide) (l' := [(6, .ref q741), (5, .ref q736), (2, .ref q731), (0, .ref q726), (1, .int 0), (3, .null), (4, .int 0), (7, .null), (8, .int 0), (9, .int 0), (10, .int 0), (11, .long 0)]) (w' := [6, 5, 2, 0]) rfl rfl
  generalize (s740.set 6 (.ref q741)) = s745 at hP hD o_s745
  refine lv_aload_n hx hb dX9_init_39 rfl (lv_at hl 0 rfl) ?_
  refine lv_sipush (v := 4001) hx hb dX9_init_40 (by decide) ?_
  refine va_newa (atype := .long) (ty := .long) (a0 := (4001, .inr (.inl (fun _ : Nat => (0 : Int64))))) (N' := 4001) hx hb (hts (.arrayClass .long) (by decide +kernel)) rfl hK hP hD hS hA (na_J 4001) (by decide) (by decide) (by decide) (Nat.le_of_ble_eq_true rfl) (Nat.le_of_ble_eq_true rfl) dX9_init_43 (fun q746 k747 H hK hP hD hS => ?_)
  have hK : va_K (dC, dI) vwCl [(k727, .int), (k732, .int), (k737, .int), (k742, .int), (k747, .long)] s := hK
  have hP : va_P (dC, dI) vwCl [(a0, .inr (12, s745)), (q726, .inl (k727, 4000, .inl f728)), (q731, .inl (k732, 20, .inl f733)), (q736, .inl (k737, 4001, .inl f738)), (q741, .inl (k742, 4001, .inl f743)), (q746, .inl (k747, 4001, .inr (.inl ((fun _ : Nat => (0 : Int64))))))] H := hP
  have hD : va_D A [(a0, .inr (12, s745)), (q726, .inl (k727, 4000, .inl f728)), (q731, .inl (k732, 20, .inl f733)), (q736, .inl (k737, 4001, .inl f738)), (q741, .inl (k742, 4001, .inl f743)), (q746, .inl (k747, 4001, .inr (.inl ((fun _ : Nat => (0 : Int64))))))] := hD
  have z749 : ∀ j, (fun _ : Nat => (0 : Int64)) j = 0 := fun _ => rfl
  generalize (fun _ : Nat => (0 : Int64)) = f748 at hP hD z749
  refine W.widen (k := 5) (n := 16023) (by omega) (by omega) ?_
  refine va_putF (D := (dC, dI)) (ci := 12) (v := .ref q746) (ty := .array .long) (C := RX9) (T := TX9) (N := 12) hx hb hts (in_k_X9_X9) tyX9 tyX9_ok nmX9 hown hK hP hD hS 0 rfl rfl 7 (by decide) (hts (.fieldLink RX9 24 "HeapWorks$Tape" "codes" "[J") (by decide +kernel)) (fun _ h9 => h9) rfl hin rfl (by decide +kernel) rfl rfl (by rw [o_s745.2.1]; decide) dX9_init_45 (fun H locs hP hD hS => ?_)
  have hP : va_P (dC, dI) vwCl [(a0, .inr (12, (s745.set 7 (.ref q746)))), (q726, .inl (k727, 4000, .inl f728)), (q731, .inl (k732, 20, .inl f733)), (q736, .inl (k737, 4001, .inl f738)), (q741, .inl (k742, 4001, .inl f743)), (q746, .inl (k747, 4001, .inr (.inl f748)))] H := hP
  have hD : va_D A [(a0, .inr (12, (s745.set 7 (.ref q746)))), (q726, .inl (k727, 4000, .inl f728)), (q731, .inl (k732, 20, .inl f733)), (q736, .inl (k737, 4001, .inl f738)), (q741, .inl (k742, 4001, .inl f743)), (q746, .inl (k747, 4001, .inr (.inl f748)))] := hD
  have o_s750 := ow_set o_s745 7 (.ref q746) (by decide) (l' := [(7, .ref q746), (6, .ref q741), (5, .ref q736), (2, .ref q731), (0, .ref q726), (1, .int 0), (3, .null), (4, .int 0), (8, .int 0), (9, .int 0), (10, .int 0), (11, .long 0)]) (w' := [7, 6, 5, 2, 0]) rfl rfl
  generalize (s745.set 7 (.ref q746)) = s750 at hP hD o_s750
  refine lv_aload_n hx hb dX9_init_48 rfl (lv_at hl 0 rfl) ?_
  refine lv_bipush (v := 29) hx hb dX9_init_49 (by decide) ?_
  refine va_newa (atype := .long) (ty := .long) (a0 := (29, .inr (.inl (fun _ : Nat => (0 : Int64))))) (N' := 29) hx hb (hts (.arrayClass .long) (by decide +kernel)) rfl hK hP hD hS hA (na_J 29) (by decide) (by decide) (by decide) (Nat.le_of_ble_eq_true rfl) (Nat.le_of_ble_eq_true rfl) dX9_init_51 (fun q751 k752 H hK hP hD hS => ?_)
  have hK : va_K (dC, dI) vwCl [(k727, .int), (k732, .int), (k737, .int), (k742, .int), (k747, .long), (k752, .long)] s := hK
  have hP : va_P (dC, dI) vwCl [(a0, .inr (12, s750)), (q726, .inl (k727, 4000, .inl f728)), (q731, .inl (k732, 20, .inl f733)), (q736, .inl (k737, 4001, .inl f738)), (q741, .inl (k742, 4001, .inl f743)), (q746, .inl (k747, 4001, .inr (.inl f748))), (q751, .inl (k752, 29, .inr (.inl ((fun _ : Nat => (0 : Int64))))))] H := hP
  have hD : va_D A [(a0, .inr (12, s750)), (q726, .inl (k727, 4000, .inl f728)), (q731, .inl (k732, 20, .inl f733)), (q736, .inl (k737, 4001, .inl f738)), (q741, .inl (k742, 4001, .inl f743)), (q746, .inl (k747, 4001, .inr (.inl f748))), (q751, .inl (k752, 29, .inr (.inl ((fun _ : Nat => (0 : Int64))))))] := hD
  have z754 : ∀ j, (fun _ : Nat => (0 : Int64)) j = 0 := fun _ => rfl
  generalize (fun _ : Nat => (0 : Int64)) = f753 at hP hD z754
  refine W.widen (k := 6) (n := 16052) (by omega) (by omega) ?_
  refine va_putF (D := (dC, dI)) (ci := 12) (v := .ref q751) (ty := .array .long) (C := RX9) (T := TX9) (N := 12) hx hb hts (in_k_X9_X9) tyX9 tyX9_ok nmX9 hown hK hP hD hS 0 rfl rfl 3 (by decide) (hts (.fieldLink RX9 28 "HeapWorks$Tape" "keywords" "[J") (by decide +kernel)) (fun _ h9 => h9) rfl hin rfl (by decide +kernel) rfl rfl (by rw [o_s750.2.1]; decide) dX9_init_53 (fun H locs hP hD hS => ?_)
  have hP : va_P (dC, dI) vwCl [(a0, .inr (12, (s750.set 3 (.ref q751)))), (q726, .inl (k727, 4000, .inl f728)), (q731, .inl (k732, 20, .inl f733)), (q736, .inl (k737, 4001, .inl f738)), (q741, .inl (k742, 4001, .inl f743)), (q746, .inl (k747, 4001, .inr (.inl f748))), (q751, .inl (k752, 29, .inr (.inl f753)))] H := hP
  have hD : va_D A [(a0, .inr (12, (s750.set 3 (.ref q751)))), (q726, .inl (k727, 4000, .inl f728)), (q731, .inl (k732, 20, .inl f733)), (q736, .inl (k737, 4001, .inl f738)), (q741, .inl (k742, 4001, .inl f743)), (q746, .inl (k747, 4001, .inr (.inl f748))), (q751, .inl (k752, 29, .inr (.inl f753)))] := hD
  have o_s755 := ow_set o_s750 3 (.ref q751) (by decide) (l' := [(3, .ref q751), (7, .ref q746), (6, .ref q741), (5, .ref q736), (2, .ref q731), (0, .ref q726), (1, .int 0), (4, .int 0), (8, .int 0), (9, .int 0), (10, .int 0), (11, .long 0)]) (w' := [3, 7, 6, 5, 2, 0]) rfl rfl
  generalize (s750.set 3 (.ref q751)) = s755 at hP hD o_s755
  refine lv_iconst (v := 0) hx hb dX9_init_56 (by decide) ?_
  refine lv_istore_n (lv' := [(1, .int 0), (0, .ref a0)]) hx hb dX9_init_57 rfl hl (by decide) rfl (fun ls hl => ?_)
  refine lv_lconst (v := 0) hx hb dX9_init_58 (by decide) ?_
  refine lv_lstore_n (lv' := [(2, .long 0), (1, .int 0), (0, .ref a0)]) hx hb dX9_init_59 rfl hl (by decide) rfl (fun ls hl => ?_)
  refine lv_iconst (v := 0) hx hb dX9_init_60 (by decide) ?_
  refine lv_istore (lv' := [(4, .int 0), (2, .long 0), (1, .int 0), (0, .ref a0)]) hx hb dX9_init_61 hl (by decide) rfl (fun ls hl => ?_)
  have HL1 : ∀ (n j1345 : Nat) (x1346 : Int32) (y1347 : Int64) (y1348 : Int32) (f1350 : Nat → Int64), x1346 = nI j1345 → 0 ≤ j1345 → j1345 ≤ 143 → 144 ≤ j1345 + n → ((0 : Int) ≤ y1348.toInt ∧ y1348.toInt ≤ 29) → ∀ (H : Heap) (locs : List Loc) (ls : Array Slot), va_P (dC, dI) vwCl [(a0, .inr (12, s755)), (q726, .inl (k727, 4000, .inl f728)), (q731, .inl (k732, 20, .inl f733)), (q736, .inl (k737, 4001, .inl f738)), (q741, .inl (k742, 4001, .inl f743)), (q746, .inl (k747, 4001, .inr (.inl f748))), (q751, .inl (k752, 29, .inr (.inl f1350)))] H → va_D A [(a0, .inr (12, s755)), (q726, .inl (k727, 4000, .inl f728)), (q731, .inl (k732, 20, .inl f733)), (q736, .inl (k737, 4001, .inl f738)), (q741, .inl (k742, 4001, .inl f743)), (q746, .inl (k747, 4001, .inr (.inl f748))), (q751, .inl (k752, 29, .inr (.inl f1350)))] → va_S A s.heap H locs → lv_has ls 5 [(4, .int x1346), (2, .long y1347), (1, .int y1348), (0, .ref a0)] → W p l e (headSpec w_k_X9 ({ frames := 4, cells := 6, slots := 16052, locals := 85 })).room s m ([.ref a0]).toArray below meth c H locs 6 16052 (MQ below (va_Qv (fun (u : List Value × Nat × (Nat → Int64) × ClassId × Nat × (Nat → Int64) × ClassId × Nat × (Nat → Int32) × ClassId × Nat × (Nat → Int32) × ClassId × Nat × (Nat → Int32) × ClassId × Nat × (Nat → Int32) × ClassId) => match u with | (s755, q751, f1350, k752, q746, f748, k747, q741, f743, k742, q736, f738, k737, q731, f733, k732, q726, f728, k727) => (ow fs0 (s755) 12 [3, 7, 6, 5, 2, 0] [(3, .ref q751), (7, .ref q746), (6, .ref q741), (5, .ref q736), (2, .ref q731), (0, .ref q726), (1, .int 0)] ∧ (∀ j, f748 j = 0) ∧ (∀ j, f743 j = 0) ∧ (∀ j, f738 j = 0) ∧ (∀ j, f733 j = 0) ∧ (∀ j, f728 j = 0))) (fun (u : List Value × Nat × (Nat → Int64) × ClassId × Nat × (Nat → Int64) × ClassId × Nat × (Nat → Int32) × ClassId × Nat × (Nat → Int32) × ClassId × Nat × (Nat → Int32) × ClassId × Nat × (Nat → Int32) × ClassId) t => match u with | (s755, q751, f1350, k752, q746, f748, k747, q741, f743, k742, q736, f738, k737, q731, f733, k732, q726, f728, k727) => Wd dC dI [(k752, .long), (k747, .long), (k742, .int), (k737, .int), (k732, .int), (k727, .int)] A [(a0, .inr (12, s755)), (q751, .inl (k752, 29, .inr (.inl f1350))), (q746, .inl (k747, 4001, .inr (.inl f748))), (q741, .inl (k742, 4001, .inl f743)), (q736, .inl (k737, 4001, .inl f738)), (q731, .inl (k732, 20, .inl f733)), (q726, .inl (k727, 4000, .inl f728))] t) A) ([.ref a0]).toArray s 6 16052 A) (F0 m 63 ls []) := by
    intro n
    induction n with
    | zero =>
      intro j1345 x1346 y1347 y1348 f1350 e1351 h1353 h1354 h1355 i1349
      exact absurd h1355 (by omega)
    | succ n ih =>
      intro j1345 x1346 y1347 y1348 f1350 e1351 h1353 h1354 h1355 i1349 H locs ls hP hD hS hl
      have t1352 : x1346.toInt = (j1345 : Int) := by rw [e1351]; exact nI_toInt (by omega)
      refine lv_iload hx hb dX9_init_63 (lv_at hl 0 rfl) ?_
      refine va_ldcS hx hb hown hC.2.1 dX9_init_65 ?_
      have hPc := hP.sub (ws' := []) [] rfl
      have hDc := hD.sub (ws' := []) [] (by decide) rfl
      have hKc := hK.sub (tys' := []) [] rfl
      have hFc := va_free (wc := []) hD hS hA [] rfl
      refine va_calli (va_runV (As := []) (rest := [.int x1346]) ⟨hx, hb, hml, hown, hts⟩ (zk_J0_length_8abf5 l dC dI H.size adK adV   ) (cwV 0 hts g_k_X9_zk_J0_length_8abf5_33 rfl rfl rfl (by decide +kernel) ⟨Nat.le_of_ble_eq_true rfl, Nat.le_of_ble_eq_true rfl⟩) ⟨fun a U g mk q => by obtain ⟨q0, q1, qC, qP, qK, qD⟩ := q; exact ⟨q0, q1, Kc_call qC, qP, va_K.moved (u := U) (U := U.calling g mk a) (Vm.Alike.refl U.vm) qK, qD⟩, vk_recv hC.1 (i := 0) (by decide) hS, fun U hU hW => ⟨rfl, by rw [hU], Kc_go hC hS hFc hU hW, by rw [hU]; exact hPc, va_K.moved hW.alike hKc, hDc.weaken (fun _ _ _ _ => trivial)⟩⟩ rfl rfl hl.1 rfl (lv_room (Nat.le_of_ble_eq_true rfl)) dX9_init_67 ⟨Nat.le_of_ble_eq_true rfl, Nat.le_of_ble_eq_true rfl⟩) hS (fun q _ h => hFc q h) hFc (fun r1360 u t H1 locs ht hvm hw hB hz1 hk1 hS => ?_)
      obtain ⟨hP1, hK1, hD1⟩ := hB
      rw [ht] at hP1
      try dsimp only at hw
      obtain ⟨hP, hD⟩ := va_join (wr := [(a0, .inr (12, s755)), (q726, .inl (k727, 4000, .inl f728)), (q731, .inl (k732, 20, .inl f733)), (q736, .inl (k737, 4001, .inl f738)), (q741, .inl (k742, 4001, .inl f743)), (q746, .inl (k747, 4001, .inr (.inl f748))), (q751, .inl (k752, 29, .inr (.inl f1350)))]) (w1 := []) hP hD [] [0, 1, 2, 3, 4, 5, 6] rfl rfl (by decide) (by decide) hk1 hFc hP1 hD1
      have hK := hK.sub (tys' := [(k727, .int), (k732, .int), (k737, .int), (k742, .int), (k747, .long), (k752, .long)]) [0, 1, 2, 3, 4, 5] rfl
      generalize H1 = H at hP hS ⊢
      have hP : va_P (dC, dI) vwCl [(a0, .inr (12, s755)), (q726, .inl (k727, 4000, .inl f728)), (q731, .inl (k732, 20, .inl f733)), (q736, .inl (k737, 4001, .inl f738)), (q741, .inl (k742, 4001, .inl f743)), (q746, .inl (k747, 4001, .inr (.inl f748))), (q751, .inl (k752, 29, .inr (.inl f1350)))] H := hP
      have hD : va_D A [(a0, .inr (12, s755)), (q726, .inl (k727, 4000, .inl f728)), (q731, .inl (k732, 20, .inl f733)), (q736, .inl (k737, 4001, .inl f738)), (q741, .inl (k742, 4001, .inl f743)), (q746, .inl (k747, 4001, .inr (.inl f748))), (q751, .inl (k752, 29, .inr (.inl f1350)))] := hD
      have er1361 := hw
      subst er1361
      refine lv_icmp_ge (tgt := 130) hx hb dX9_init_70 (by decide) (fun c1362 => ?_) (fun c1362 => ?_)
      · skip
        have hP9 := hP.sub (ws' := [(a0, .inr (12, s755)), (q751, .inl (k752, 29, .inr (.inl f1350))), (q746, .inl (k747, 4001, .inr (.inl f748))), (q741, .inl (k742, 4001, .inl f743)), (q736, .inl (k737, 4001, .inl f738)), (q731, .inl (k732, 20, .inl f733)), (q726, .inl (k727, 4000, .inl f728))]) [0, 6, 5, 4, 3, 2, 1] rfl
        have hD9 := hD.sub (ws' := [(a0, .inr (12, s755)), (q751, .inl (k752, 29, .inr (.inl f1350))), (q746, .inl (k747, 4001, .inr (.inl f748))), (q741, .inl (k742, 4001, .inl f743)), (q736, .inl (k737, 4001, .inl f738)), (q731, .inl (k732, 20, .inl f733)), (q726, .inl (k727, 4000, .inl f728))]) [0, 6, 5, 4, 3, 2, 1] (by decide) rfl
        have hK9 := hK.sub (tys' := [(k752, .long), (k747, .long), (k742, .int), (k737, .int), (k732, .int), (k727, .int)]) [5, 4, 3, 2, 1, 0] rfl
        refine W.widen (k := 6) (n := 16052) (by decide) (by decide) ?_
        exact W.vret hx hb hr (fun t ht hW => ⟨⟨(s755, q751, f1350, k752, q746, f748, k747, q741, f743, k742, q736, f738, k737, q731, f733, k732, q726, f728, k727), rfl, ⟨(ow_sub o_s755 [0, 1, 2, 3, 4, 5, 6] rfl), z749, z744, z739, z734, z729⟩, by rw [ht]; exact hP9, va_K.moved hW.alike hK9, hD9⟩, hS.F ht⟩) hS.2.2 dX9_init_130
      · skip
        refine va_ldcS hx hb hown hC.2.1 dX9_init_73 ?_
        refine lv_iload hx hb dX9_init_75 (lv_at hl 0 rfl) ?_
        have hPc := hP.sub (ws' := []) [] rfl
        have hDc := hD.sub (ws' := []) [] (by decide) rfl
        have hKc := hK.sub (tys' := []) [] rfl
        have hFc := va_free (wc := []) hD hS hA [] rfl
        refine va_calli (va_runV (As := [.int x1346]) (rest := []) ⟨hx, hb, hml, hown, hts⟩ (zk_J0_charAt_5068e l dC dI H.size adK adV x1346  (by (try simp only [i_lt, i_le, i_eq, kc_143] at t1352 h1354 h1353 c1362); omega)) (cwV 1 hts g_k_X9_zk_J0_charAt_5068e_39 rfl rfl rfl (by decide +kernel) ⟨Nat.le_of_ble_eq_true rfl, Nat.le_of_ble_eq_true rfl⟩) ⟨fun a U g mk q => by obtain ⟨q0, q1, qC, qP, qK, qD⟩ := q; exact ⟨q0, q1, Kc_call qC, qP, va_K.moved (u := U) (U := U.calling g mk a) (Vm.Alike.refl U.vm) qK, qD⟩, vk_recv hC.1 (i := 0) (by decide) hS, fun U hU hW => ⟨rfl, by rw [hU], Kc_go hC hS hFc hU hW, by rw [hU]; exact hPc, va_K.moved hW.alike hKc, hDc.weaken (fun _ _ _ _ => trivial)⟩⟩ rfl rfl hl.1 rfl (lv_room (Nat.le_of_ble_eq_true rfl)) dX9_init_77 ⟨Nat.le_of_ble_eq_true rfl, Nat.le_of_ble_eq_true rfl⟩) hS (fun q _ h => hFc q h) hFc (fun r1407 u t H1 locs ht hvm hw hB hz1 hk1 hS => ?_)
        obtain ⟨hP1, hK1, hD1⟩ := hB
        rw [ht] at hP1
        try dsimp only at hw
        obtain ⟨hP, hD⟩ := va_join (wr := [(a0, .inr (12, s755)), (q726, .inl (k727, 4000, .inl f728)), (q731, .inl (k732, 20, .inl f733)), (q736, .inl (k737, 4001, .inl f738)), (q741, .inl (k742, 4001, .inl f743)), (q746, .inl (k747, 4001, .inr (.inl f748))), (q751, .inl (k752, 29, .inr (.inl f1350)))]) (w1 := []) hP hD [] [0, 1, 2, 3, 4, 5, 6] rfl rfl (by decide) (by decide) hk1 hFc hP1 hD1
        have hK := hK.sub (tys' := [(k727, .int), (k732, .int), (k737, .int), (k742, .int), (k747, .long), (k752, .long)]) [0, 1, 2, 3, 4, 5] rfl
        generalize H1 = H at hP hS ⊢
        have hP : va_P (dC, dI) vwCl [(a0, .inr (12, s755)), (q726, .inl (k727, 4000, .inl f728)), (q731, .inl (k732, 20, .inl f733)), (q736, .inl (k737, 4001, .inl f738)), (q741, .inl (k742, 4001, .inl f743)), (q746, .inl (k747, 4001, .inr (.inl f748))), (q751, .inl (k752, 29, .inr (.inl f1350)))] H := hP
        have hD : va_D A [(a0, .inr (12, s755)), (q726, .inl (k727, 4000, .inl f728)), (q731, .inl (k732, 20, .inl f733)), (q736, .inl (k737, 4001, .inl f738)), (q741, .inl (k742, 4001, .inl f743)), (q746, .inl (k747, 4001, .inr (.inl f748))), (q751, .inl (k752, 29, .inr (.inl f1350)))] := hD
        obtain ⟨c1408, c1409, nc1410⟩ := hw
        refine lv_bipush (v := 32) hx hb dX9_init_80 (by decide) ?_
        refine lv_icmp_eq (tgt := 106) hx hb dX9_init_82 (by decide) (fun c1411 => ?_) (fun c1411 => ?_)
        · skip
          refine lv_iload_n hx hb dX9_init_106 rfl (lv_at hl 2 rfl) ?_
          refine lv_bipush (v := 29) hx hb dX9_init_107 (by decide) ?_
          refine lv_icmp_ge (tgt := 124) hx hb dX9_init_109 (by decide) (fun c1412 => ?_) (fun c1412 => ?_)
          · skip
            obtain ⟨x1413, ex1413⟩ : ∃ y : Int32, y = x1346 + 1 := ⟨_, rfl⟩
            refine lv_iinc (v := x1413) (lv' := [(4, .int x1413), (2, .long y1347), (1, .int y1348), (0, .ref a0)]) hx hb dX9_init_124 hl (k := 0) rfl (by rw [ex1413]; rfl) (by decide) rfl (fun ls hl => ?_)
            have tx1413 : x1413.toInt = x1346.toInt + (1 : Int32).toInt := by rw [ex1413]; exact i_add (by have bd_x1346 := i_bd x1346; (try simp only [i_lt, i_le, i_eq, kc_143, kc_0, kc_1] at t1352 h1354 h1353 c1362 c1408 c1409 ⊢); omega) (by have bd_x1346 := i_bd x1346; (try simp only [i_lt, i_le, i_eq, kc_143, kc_0, kc_1] at t1352 h1354 h1353 c1362 c1408 c1409 ⊢); omega)
            refine lv_goto (tgt := 63) hx hb dX9_init_127 (by decide) ?_
            exact ih (j1345 + 1) x1413 y1347 y1348 f1350 (by rw [ex1413, e1351]; exact nI_1 _) (by omega) (by (try simp only [i_lt, i_le, i_eq, kc_143, kc_0, kc_1] at t1352 h1354 h1353 c1362 c1408 c1409 tx1413); omega) (by omega)  (by have bd_y1348 := i_bd y1348; (try simp only [i_lt, i_le, i_eq, kc_29] at i1349 c1412); omega) _ _ _ (hP.sub [0, 1, 2, 3, 4, 5, 6] rfl) (hD.sub [0, 1, 2, 3, 4, 5, 6] (by decide) rfl) hS  (lv_sub hl [0, 1, 2, 3] rfl)
          · skip
            refine lv_aload_n hx hb dX9_init_112 rfl (lv_at hl 3 rfl) ?_
            refine va_get (D := (dC, dI)) (ci := 12) (v := .ref q751) (C := RX9) (T := TX9) (N := 12) hx hb hts (in_k_X9_X9) hown hK hP 0 rfl rfl 3 (by decide) (hts (.fieldLink RX9 28 "HeapWorks$Tape" "keywords" "[J") (by decide +kernel)) (fun _ h9 => h9) (ow_at o_s755 0 rfl) dX9_init_113 ?_
            refine lv_iload_n hx hb dX9_init_116 rfl (lv_at hl 2 rfl) ?_
            refine lv_lload_n hx hb dX9_init_117 rfl (lv_at hl 1 rfl) ?_
            refine va_last hx hb hK hP hD hS 6 5 rfl rfl (by rw [vp_in_iff]; (try simp only [i_lt, i_le, i_eq, kc_29] at i1349 c1412); omega) dX9_init_118 (fun H locs hP hD hS => ?_)
            have hP : va_P (dC, dI) vwCl [(a0, .inr (12, s755)), (q726, .inl (k727, 4000, .inl f728)), (q731, .inl (k732, 20, .inl f733)), (q736, .inl (k737, 4001, .inl f738)), (q741, .inl (k742, 4001, .inl f743)), (q746, .inl (k747, 4001, .inr (.inl f748))), (q751, .inl (k752, 29, .inr (.inl (vp_updL f1350 (y1348 : Int32).toNatClampNeg y1347))))] H := hP
            have hD : va_D A [(a0, .inr (12, s755)), (q726, .inl (k727, 4000, .inl f728)), (q731, .inl (k732, 20, .inl f733)), (q736, .inl (k737, 4001, .inl f738)), (q741, .inl (k742, 4001, .inl f743)), (q746, .inl (k747, 4001, .inr (.inl f748))), (q751, .inl (k752, 29, .inr (.inl (vp_updL f1350 (y1348 : Int32).toNatClampNeg y1347))))] := hD
            have q1415 : (vp_updL f1350 (y1348 : Int32).toNatClampNeg y1347) (y1348 : Int32).toNatClampNeg = y1347 := pk_uLs
            generalize vp_updL f1350 (y1348 : Int32).toNatClampNeg y1347 = f1414 at hP hD q1415
            refine lv_lconst (v := 0) hx hb dX9_init_119 (by decide) ?_
            refine lv_lstore_n (lv' := [(2, .long 0), (4, .int x1346), (1, .int y1348), (0, .ref a0)]) hx hb dX9_init_120 rfl hl (by decide) rfl (fun ls hl => ?_)
            obtain ⟨x1416, ex1416⟩ : ∃ y : Int32, y = y1348 + 1 := ⟨_, rfl⟩
            refine lv_iinc (v := x1416) (lv' := [(1, .int x1416), (2, .long 0), (4, .int x1346), (0, .ref a0)]) hx hb dX9_init_121 hl (k := 2) rfl (by rw [ex1416]; rfl) (by decide) rfl (fun ls hl => ?_)
            have tx1416 : x1416.toInt = y1348.toInt + (1 : Int32).toInt := by rw [ex1416]; exact i_add (by have bd_y1348 := i_bd y1348; (try simp only [i_lt, i_le, i_eq, kc_29, kc_1] at i1349 c1412 ⊢); omega) (by have bd_y1348 := i_bd y1348; (try simp only [i_lt, i_le, i_eq, kc_29, kc_1] at i1349 c1412 ⊢); omega)
            obtain ⟨x1417, ex1417⟩ : ∃ y : Int32, y = x1346 + 1 := ⟨_, rfl⟩
            refine lv_iinc (v := x1417) (lv' := [(4, .int x1417), (1, .int x1416), (2, .long 0), (0, .ref a0)]) hx hb dX9_init_124 hl (k := 2) rfl (by rw [ex1417]; rfl) (by decide) rfl (fun ls hl => ?_)
            have tx1417 : x1417.toInt = x1346.toInt + (1 : Int32).toInt := by rw [ex1417]; exact i_add (by have bd_x1346 := i_bd x1346; (try simp only [i_lt, i_le, i_eq, kc_143, kc_0, kc_1] at t1352 h1354 h1353 c1362 c1408 c1409 ⊢); omega) (by have bd_x1346 := i_bd x1346; (try simp only [i_lt, i_le, i_eq, kc_143, kc_0, kc_1] at t1352 h1354 h1353 c1362 c1408 c1409 ⊢); omega)
            refine lv_goto (tgt := 63) hx hb dX9_init_127 (by decide) ?_
            exact ih (j1345 + 1) x1417 (0) x1416 f1414 (by rw [ex1417, e1351]; exact nI_1 _) (by omega) (by (try simp only [i_lt, i_le, i_eq, kc_143, kc_0, kc_1] at t1352 h1354 h1353 c1362 c1408 c1409 tx1417); omega) (by omega)  (by have bd_x1416 := i_bd x1416; (try simp only [i_lt, i_le, i_eq, kc_1, kc_29] at tx1416 i1349 c1412); omega) _ _ _ (hP.sub [0, 1, 2, 3, 4, 5, 6] rfl) (hD.sub [0, 1, 2, 3, 4, 5, 6] (by decide) rfl) hS  (lv_sub hl [0, 2, 1, 3] rfl)
        · skip
          refine lv_lload_n hx hb dX9_init_85 rfl (lv_at hl 1 rfl) ?_
          refine lv_ldc2 (v := 64) hx hb hown (hts (.constantLong RX9 43 (64)) (by decide +kernel)) dX9_init_86 ?_
          refine lv_lmul hx hb dX9_init_89  ?_
          refine lv_topl (fun x1418 ex1418 => ?_)
          refine va_ldcS hx hb hown hC.2.1 dX9_init_90 ?_
          refine lv_iload hx hb dX9_init_92 (lv_at hl 0 rfl) ?_
          have hPc := hP.sub (ws' := []) [] rfl
          have hDc := hD.sub (ws' := []) [] (by decide) rfl
          have hKc := hK.sub (tys' := []) [] rfl
          have hFc := va_free (wc := []) hD hS hA [] rfl
          refine va_calli (va_runV (As := [.int x1346]) (rest := [.long x1418]) ⟨hx, hb, hml, hown, hts⟩ (zk_J0_charAt_5068e l dC dI H.size adK adV x1346  (by (try simp only [i_lt, i_le, i_eq, kc_143, kc_0] at t1352 h1354 h1353 c1362 c1408 c1409); omega)) (cwV 1 hts g_k_X9_zk_J0_charAt_5068e_39 rfl rfl rfl (by decide +kernel) ⟨Nat.le_of_ble_eq_true rfl, Nat.le_of_ble_eq_true rfl⟩) ⟨fun a U g mk q => by obtain ⟨q0, q1, qC, qP, qK, qD⟩ := q; exact ⟨q0, q1, Kc_call qC, qP, va_K.moved (u := U) (U := U.calling g mk a) (Vm.Alike.refl U.vm) qK, qD⟩, vk_recv hC.1 (i := 0) (by decide) hS, fun U hU hW => ⟨rfl, by rw [hU], Kc_go hC hS hFc hU hW, by rw [hU]; exact hPc, va_K.moved hW.alike hKc, hDc.weaken (fun _ _ _ _ => trivial)⟩⟩ rfl rfl hl.1 rfl (lv_room (Nat.le_of_ble_eq_true rfl)) dX9_init_94 ⟨Nat.le_of_ble_eq_true rfl, Nat.le_of_ble_eq_true rfl⟩) hS (fun q _ h => hFc q h) hFc (fun r1463 u t H1 locs ht hvm hw hB hz1 hk1 hS => ?_)
          obtain ⟨hP1, hK1, hD1⟩ := hB
          rw [ht] at hP1
          try dsimp only at hw
          obtain ⟨hP, hD⟩ := va_join (wr := [(a0, .inr (12, s755)), (q726, .inl (k727, 4000, .inl f728)), (q731, .inl (k732, 20, .inl f733)), (q736, .inl (k737, 4001, .inl f738)), (q741, .inl (k742, 4001, .inl f743)), (q746, .inl (k747, 4001, .inr (.inl f748))), (q751, .inl (k752, 29, .inr (.inl f1350)))]) (w1 := []) hP hD [] [0, 1, 2, 3, 4, 5, 6] rfl rfl (by decide) (by decide) hk1 hFc hP1 hD1
          have hK := hK.sub (tys' := [(k727, .int), (k732, .int), (k737, .int), (k742, .int), (k747, .long), (k752, .long)]) [0, 1, 2, 3, 4, 5] rfl
          generalize H1 = H at hP hS ⊢
          have hP : va_P (dC, dI) vwCl [(a0, .inr (12, s755)), (q726, .inl (k727, 4000, .inl f728)), (q731, .inl (k732, 20, .inl f733)), (q736, .inl (k737, 4001, .inl f738)), (q741, .inl (k742, 4001, .inl f743)), (q746, .inl (k747, 4001, .inr (.inl f748))), (q751, .inl (k752, 29, .inr (.inl f1350)))] H := hP
          have hD : va_D A [(a0, .inr (12, s755)), (q726, .inl (k727, 4000, .inl f728)), (q731, .inl (k732, 20, .inl f733)), (q736, .inl (k737, 4001, .inl f738)), (q741, .inl (k742, 4001, .inl f743)), (q746, .inl (k747, 4001, .inr (.inl f748))), (q751, .inl (k752, 29, .inr (.inl f1350)))] := hD
          obtain ⟨c1464, c1465, nc1466⟩ := hw
          have hPc := hP.sub (ws' := []) [] rfl
          have hDc := hD.sub (ws' := []) [] (by decide) rfl
          have hKc := hK.sub (tys' := []) [] rfl
          have hFc := va_free (wc := []) hD hS hA [] rfl
          refine va_calli (va_runS (As := [.int r1463]) (rest := [.long x1418]) ⟨hx, hb, hml, hown, hts⟩ (zk_X9_symbolOf l dC dI H.size r1463  ) (cwS 1 hts g_k_X9_zk_X9_symbolOf_45 rfl rfl rfl (by decide +kernel) ⟨Nat.le_of_ble_eq_true rfl, Nat.le_of_ble_eq_true rfl⟩) ⟨fun a U g mk q => by obtain ⟨q0, q1, qP, qK, qD⟩ := q; exact ⟨q0, q1, qP, va_K.moved (u := U) (U := U.calling g mk a) (Vm.Alike.refl U.vm) qK, qD⟩, fun U hU hW => ⟨rfl, by rw [hU], by rw [hU]; exact hPc, va_K.moved hW.alike hKc, hDc.weaken (fun _ _ _ _ => trivial)⟩⟩ rfl rfl hl.1 rfl (lv_room (Nat.le_of_ble_eq_true rfl)) dX9_init_97 ⟨Nat.le_of_ble_eq_true rfl, Nat.le_of_ble_eq_true rfl⟩) hS (fun q _ h => hFc q h) hFc (fun r1516 u t H1 locs ht hvm hw hB hz1 hk1 hS => ?_)
          obtain ⟨hP1, hK1, hD1⟩ := hB
          rw [ht] at hP1
          try dsimp only at hw
          obtain ⟨hP, hD⟩ := va_join (wr := [(a0, .inr (12, s755)), (q726, .inl (k727, 4000, .inl f728)), (q731, .inl (k732, 20, .inl f733)), (q736, .inl (k737, 4001, .inl f738)), (q741, .inl (k742, 4001, .inl f743)), (q746, .inl (k747, 4001, .inr (.inl f748))), (q751, .inl (k752, 29, .inr (.inl f1350)))]) (w1 := []) hP hD [] [0, 1, 2, 3, 4, 5, 6] rfl rfl (by decide) (by decide) hk1 hFc hP1 hD1
          have hK := hK.sub (tys' := [(k727, .int), (k732, .int), (k737, .int), (k742, .int), (k747, .long), (k752, .long)]) [0, 1, 2, 3, 4, 5] rfl
          generalize H1 = H at hP hS ⊢
          have hP : va_P (dC, dI) vwCl [(a0, .inr (12, s755)), (q726, .inl (k727, 4000, .inl f728)), (q731, .inl (k732, 20, .inl f733)), (q736, .inl (k737, 4001, .inl f738)), (q741, .inl (k742, 4001, .inl f743)), (q746, .inl (k747, 4001, .inr (.inl f748))), (q751, .inl (k752, 29, .inr (.inl f1350)))] H := hP
          have hD : va_D A [(a0, .inr (12, s755)), (q726, .inl (k727, 4000, .inl f728)), (q731, .inl (k732, 20, .inl f733)), (q736, .inl (k737, 4001, .inl f738)), (q741, .inl (k742, 4001, .inl f743)), (q746, .inl (k747, 4001, .inr (.inl f748))), (q751, .inl (k752, 29, .inr (.inl f1350)))] := hD
          rcases hw with ⟨c1517, c1518, c1519, er1520⟩ | ⟨c1521, c1522, c1523, c1524, er1525⟩ | ⟨c1526, c1527, c1528, c1529, er1530⟩ | ⟨c1531, c1532, c1533, c1534, c1535, er1536⟩ | ⟨c1537, c1538, c1539, c1540, c1541, c1542, er1543⟩ | ⟨c1544, c1545, c1546, c1547, er1548⟩ | ⟨c1549, c1550, er1551⟩
          · skip
            subst er1520
            refine lv_i2l hx hb dX9_init_100 rfl ?_
            refine lv_topl (fun x1552 ex1552 => ?_)
            obtain rfl : x1552 = 0 := ex1552.trans (by decide)
            refine lv_ladd hx hb dX9_init_101  ?_
            refine lv_topl (fun x1553 ex1553 => ?_)
            refine lv_lstore_n (lv' := [(2, .long x1553), (4, .int x1346), (1, .int y1348), (0, .ref a0)]) hx hb dX9_init_102 rfl hl (by decide) rfl (fun ls hl => ?_)
            refine lv_goto (tgt := 124) hx hb dX9_init_103 (by decide) ?_
            obtain ⟨x1554, ex1554⟩ : ∃ y : Int32, y = x1346 + 1 := ⟨_, rfl⟩
            refine lv_iinc (v := x1554) (lv' := [(4, .int x1554), (2, .long x1553), (1, .int y1348), (0, .ref a0)]) hx hb dX9_init_124 hl (k := 1) rfl (by rw [ex1554]; rfl) (by decide) rfl (fun ls hl => ?_)
            have tx1554 : x1554.toInt = x1346.toInt + (1 : Int32).toInt := by rw [ex1554]; exact i_add (by have bd_x1346 := i_bd x1346; (try simp only [i_lt, i_le, i_eq, kc_143, kc_0, kc_1] at t1352 h1354 h1353 c1362 c1408 c1409 c1464 c1465 ⊢); omega) (by have bd_x1346 := i_bd x1346; (try simp only [i_lt, i_le, i_eq, kc_143, kc_0, kc_1] at t1352 h1354 h1353 c1362 c1408 c1409 c1464 c1465 ⊢); omega)
            refine lv_goto (tgt := 63) hx hb dX9_init_127 (by decide) ?_
            exact ih (j1345 + 1) x1554 x1553 y1348 f1350 (by rw [ex1554, e1351]; exact nI_1 _) (by omega) (by (try simp only [i_lt, i_le, i_eq, kc_143, kc_0, kc_1] at t1352 h1354 h1353 c1362 c1408 c1409 c1464 c1465 tx1554); omega) (by omega)  (by have bd_y1348 := i_bd y1348; (try simp only [i_lt, i_le, i_eq] at i1349); omega) _ _ _ (hP.sub [0, 1, 2, 3, 4, 5, 6] rfl) (hD.sub [0, 1, 2, 3, 4, 5, 6] (by decide) rfl) hS  (lv_sub hl [0, 1, 2, 3] rfl)
          · skip
            subst er1525
            refine lv_i2l hx hb dX9_init_100 rfl ?_
            refine lv_topl (fun x1555 ex1555 => ?_)
            obtain rfl : x1555 = 0 := ex1555.trans (by decide)
            refine lv_ladd hx hb dX9_init_101  ?_
            refine lv_topl (fun x1556 ex1556 => ?_)
            refine lv_lstore_n (lv' := [(2, .long x1556), (4, .int x1346), (1, .int y1348), (0, .ref a0)]) hx hb dX9_init_102 rfl hl (by decide) rfl (fun ls hl => ?_)
            refine lv_goto (tgt := 124) hx hb dX9_init_103 (by decide) ?_
            obtain ⟨x1557, ex1557⟩ : ∃ y : Int32, y = x1346 + 1 := ⟨_, rfl⟩
            refine lv_iinc (v := x1557) (lv' := [(4, .int x1557), (2, .long x1556), (1, .int y1348), (0, .ref a0)]) hx hb dX9_init_124 hl (k := 1) rfl (by rw [ex1557]; rfl) (by decide) rfl (fun ls hl => ?_)
            have tx1557 : x1557.toInt = x1346.toInt + (1 : Int32).toInt := by rw [ex1557]; exact i_add (by have bd_x1346 := i_bd x1346; (try simp only [i_lt, i_le, i_eq, kc_143, kc_0, kc_1] at t1352 h1354 h1353 c1362 c1408 c1409 c1464 c1465 ⊢); omega) (by have bd_x1346 := i_bd x1346; (try simp only [i_lt, i_le, i_eq, kc_143, kc_0, kc_1] at t1352 h1354 h1353 c1362 c1408 c1409 c1464 c1465 ⊢); omega)
            refine lv_goto (tgt := 63) hx hb dX9_init_127 (by decide) ?_
            exact ih (j1345 + 1) x1557 x1556 y1348 f1350 (by rw [ex1557, e1351]; exact nI_1 _) (by omega) (by (try simp only [i_lt, i_le, i_eq, kc_143, kc_0, kc_1] at t1352 h1354 h1353 c1362 c1408 c1409 c1464 c1465 tx1557); omega) (by omega)  (by have bd_y1348 := i_bd y1348; (try simp only [i_lt, i_le, i_eq] at i1349); omega) _ _ _ (hP.sub [0, 1, 2, 3, 4, 5, 6] rfl) (hD.sub [0, 1, 2, 3, 4, 5, 6] (by decide) rfl) hS  (lv_sub hl [0, 1, 2, 3] rfl)
          · skip
            have er1516 := er1530
            refine lv_i2l hx hb dX9_init_100 rfl ?_
            refine lv_topl (fun x1558 ex1558 => ?_)
            refine lv_ladd hx hb dX9_init_101  ?_
            refine lv_topl (fun x1559 ex1559 => ?_)
            refine lv_lstore_n (lv' := [(2, .long x1559), (4, .int x1346), (1, .int y1348), (0, .ref a0)]) hx hb dX9_init_102 rfl hl (by decide) rfl (fun ls hl => ?_)
            refine lv_goto (tgt := 124) hx hb dX9_init_103 (by decide) ?_
            obtain ⟨x1560, ex1560⟩ : ∃ y : Int32, y = x1346 + 1 := ⟨_, rfl⟩
            refine lv_iinc (v := x1560) (lv' := [(4, .int x1560), (2, .long x1559), (1, .int y1348), (0, .ref a0)]) hx hb dX9_init_124 hl (k := 1) rfl (by rw [ex1560]; rfl) (by decide) rfl (fun ls hl => ?_)
            have tx1560 : x1560.toInt = x1346.toInt + (1 : Int32).toInt := by rw [ex1560]; exact i_add (by have bd_x1346 := i_bd x1346; (try simp only [i_lt, i_le, i_eq, kc_143, kc_0, kc_1] at t1352 h1354 h1353 c1362 c1408 c1409 c1464 c1465 ⊢); omega) (by have bd_x1346 := i_bd x1346; (try simp only [i_lt, i_le, i_eq, kc_143, kc_0, kc_1] at t1352 h1354 h1353 c1362 c1408 c1409 c1464 c1465 ⊢); omega)
            refine lv_goto (tgt := 63) hx hb dX9_init_127 (by decide) ?_
            exact ih (j1345 + 1) x1560 x1559 y1348 f1350 (by rw [ex1560, e1351]; exact nI_1 _) (by omega) (by (try simp only [i_lt, i_le, i_eq, kc_143, kc_0, kc_1] at t1352 h1354 h1353 c1362 c1408 c1409 c1464 c1465 tx1560); omega) (by omega)  (by have bd_y1348 := i_bd y1348; (try simp only [i_lt, i_le, i_eq] at i1349); omega) _ _ _ (hP.sub [0, 1, 2, 3, 4, 5, 6] rfl) (hD.sub [0, 1, 2, 3, 4, 5, 6] (by decide) rfl) hS  (lv_sub hl [0, 1, 2, 3] rfl)
          · skip
            subst er1536
            refine lv_i2l hx hb dX9_init_100 rfl ?_
            refine lv_topl (fun x1561 ex1561 => ?_)
            obtain rfl : x1561 = 0 := ex1561.trans (by decide)
            refine lv_ladd hx hb dX9_init_101  ?_
            refine lv_topl (fun x1562 ex1562 => ?_)
            refine lv_lstore_n (lv' := [(2, .long x1562), (4, .int x1346), (1, .int y1348), (0, .ref a0)]) hx hb dX9_init_102 rfl hl (by decide) rfl (fun ls hl => ?_)
            refine lv_goto (tgt := 124) hx hb dX9_init_103 (by decide) ?_
            obtain ⟨x1563, ex1563⟩ : ∃ y : Int32, y = x1346 + 1 := ⟨_, rfl⟩
            refine lv_iinc (v := x1563) (lv' := [(4, .int x1563), (2, .long x1562), (1, .int y1348), (0, .ref a0)]) hx hb dX9_init_124 hl (k := 1) rfl (by rw [ex1563]; rfl) (by decide) rfl (fun ls hl => ?_)
            have tx1563 : x1563.toInt = x1346.toInt + (1 : Int32).toInt := by rw [ex1563]; exact i_add (by have bd_x1346 := i_bd x1346; (try simp only [i_lt, i_le, i_eq, kc_143, kc_0, kc_1] at t1352 h1354 h1353 c1362 c1408 c1409 c1464 c1465 ⊢); omega) (by have bd_x1346 := i_bd x1346; (try simp only [i_lt, i_le, i_eq, kc_143, kc_0, kc_1] at t1352 h1354 h1353 c1362 c1408 c1409 c1464 c1465 ⊢); omega)
            refine lv_goto (tgt := 63) hx hb dX9_init_127 (by decide) ?_
            exact ih (j1345 + 1) x1563 x1562 y1348 f1350 (by rw [ex1563, e1351]; exact nI_1 _) (by omega) (by (try simp only [i_lt, i_le, i_eq, kc_143, kc_0, kc_1] at t1352 h1354 h1353 c1362 c1408 c1409 c1464 c1465 tx1563); omega) (by omega)  (by have bd_y1348 := i_bd y1348; (try simp only [i_lt, i_le, i_eq] at i1349); omega) _ _ _ (hP.sub [0, 1, 2, 3, 4, 5, 6] rfl) (hD.sub [0, 1, 2, 3, 4, 5, 6] (by decide) rfl) hS  (lv_sub hl [0, 1, 2, 3] rfl)
          · skip
            subst er1543
            refine lv_i2l hx hb dX9_init_100 rfl ?_
            refine lv_topl (fun x1564 ex1564 => ?_)
            obtain rfl : x1564 = 0 := ex1564.trans (by decide)
            refine lv_ladd hx hb dX9_init_101  ?_
            refine lv_topl (fun x1565 ex1565 => ?_)
            refine lv_lstore_n (lv' := [(2, .long x1565), (4, .int x1346), (1, .int y1348), (0, .ref a0)]) hx hb dX9_init_102 rfl hl (by decide) rfl (fun ls hl => ?_)
            refine lv_goto (tgt := 124) hx hb dX9_init_103 (by decide) ?_
            obtain ⟨x1566, ex1566⟩ : ∃ y : Int32, y = x1346 + 1 := ⟨_, rfl⟩
            refine lv_iinc (v := x1566) (lv' := [(4, .int x1566), (2, .long x1565), (1, .int y1348), (0, .ref a0)]) hx hb dX9_init_124 hl (k := 1) rfl (by rw [ex1566]; rfl) (by decide) rfl (fun ls hl => ?_)
            have tx1566 : x1566.toInt = x1346.toInt + (1 : Int32).toInt := by rw [ex1566]; exact i_add (by have bd_x1346 := i_bd x1346; (try simp only [i_lt, i_le, i_eq, kc_143, kc_0, kc_1] at t1352 h1354 h1353 c1362 c1408 c1409 c1464 c1465 ⊢); omega) (by have bd_x1346 := i_bd x1346; (try simp only [i_lt, i_le, i_eq, kc_143, kc_0, kc_1] at t1352 h1354 h1353 c1362 c1408 c1409 c1464 c1465 ⊢); omega)
            refine lv_goto (tgt := 63) hx hb dX9_init_127 (by decide) ?_
            exact ih (j1345 + 1) x1566 x1565 y1348 f1350 (by rw [ex1566, e1351]; exact nI_1 _) (by omega) (by (try simp only [i_lt, i_le, i_eq, kc_143, kc_0, kc_1] at t1352 h1354 h1353 c1362 c1408 c1409 c1464 c1465 tx1566); omega) (by omega)  (by have bd_y1348 := i_bd y1348; (try simp only [i_lt, i_le, i_eq] at i1349); omega) _ _ _ (hP.sub [0, 1, 2, 3, 4, 5, 6] rfl) (hD.sub [0, 1, 2, 3, 4, 5, 6] (by decide) rfl) hS  (lv_sub hl [0, 1, 2, 3] rfl)
          · skip
            have er1516 := er1548
            refine lv_i2l hx hb dX9_init_100 rfl ?_
            refine lv_topl (fun x1567 ex1567 => ?_)
            refine lv_ladd hx hb dX9_init_101  ?_
            refine lv_topl (fun x1568 ex1568 => ?_)
            refine lv_lstore_n (lv' := [(2, .long x1568), (4, .int x1346), (1, .int y1348), (0, .ref a0)]) hx hb dX9_init_102 rfl hl (by decide) rfl (fun ls hl => ?_)
            refine lv_goto (tgt := 124) hx hb dX9_init_103 (by decide) ?_
            obtain ⟨x1569, ex1569⟩ : ∃ y : Int32, y = x1346 + 1 := ⟨_, rfl⟩
            refine lv_iinc (v := x1569) (lv' := [(4, .int x1569), (2, .long x1568), (1, .int y1348), (0, .ref a0)]) hx hb dX9_init_124 hl (k := 1) rfl (by rw [ex1569]; rfl) (by decide) rfl (fun ls hl => ?_)
            have tx1569 : x1569.toInt = x1346.toInt + (1 : Int32).toInt := by rw [ex1569]; exact i_add (by have bd_x1346 := i_bd x1346; (try simp only [i_lt, i_le, i_eq, kc_143, kc_0, kc_1] at t1352 h1354 h1353 c1362 c1408 c1409 c1464 c1465 ⊢); omega) (by have bd_x1346 := i_bd x1346; (try simp only [i_lt, i_le, i_eq, kc_143, kc_0, kc_1] at t1352 h1354 h1353 c1362 c1408 c1409 c1464 c1465 ⊢); omega)
            refine lv_goto (tgt := 63) hx hb dX9_init_127 (by decide) ?_
            exact ih (j1345 + 1) x1569 x1568 y1348 f1350 (by rw [ex1569, e1351]; exact nI_1 _) (by omega) (by (try simp only [i_lt, i_le, i_eq, kc_143, kc_0, kc_1] at t1352 h1354 h1353 c1362 c1408 c1409 c1464 c1465 tx1569); omega) (by omega)  (by have bd_y1348 := i_bd y1348; (try simp only [i_lt, i_le, i_eq] at i1349); omega) _ _ _ (hP.sub [0, 1, 2, 3, 4, 5, 6] rfl) (hD.sub [0, 1, 2, 3, 4, 5, 6] (by decide) rfl) hS  (lv_sub hl [0, 1, 2, 3] rfl)
          · skip
            have er1516 := er1551
            refine lv_i2l hx hb dX9_init_100 rfl ?_
            refine lv_topl (fun x1570 ex1570 => ?_)
            refine lv_ladd hx hb dX9_init_101  ?_
            refine lv_topl (fun x1571 ex1571 => ?_)
            refine lv_lstore_n (lv' := [(2, .long x1571), (4, .int x1346), (1, .int y1348), (0, .ref a0)]) hx hb dX9_init_102 rfl hl (by decide) rfl (fun ls hl => ?_)
            refine lv_goto (tgt := 124) hx hb dX9_init_103 (by decide) ?_
            obtain ⟨x1572, ex1572⟩ : ∃ y : Int32, y = x1346 + 1 := ⟨_, rfl⟩
            refine lv_iinc (v := x1572) (lv' := [(4, .int x1572), (2, .long x1571), (1, .int y1348), (0, .ref a0)]) hx hb dX9_init_124 hl (k := 1) rfl (by rw [ex1572]; rfl) (by decide) rfl (fun ls hl => ?_)
            have tx1572 : x1572.toInt = x1346.toInt + (1 : Int32).toInt := by rw [ex1572]; exact i_add (by have bd_x1346 := i_bd x1346; (try simp only [i_lt, i_le, i_eq, kc_143, kc_0, kc_1] at t1352 h1354 h1353 c1362 c1408 c1409 c1464 c1465 ⊢); omega) (by have bd_x1346 := i_bd x1346; (try simp only [i_lt, i_le, i_eq, kc_143, kc_0, kc_1] at t1352 h1354 h1353 c1362 c1408 c1409 c1464 c1465 ⊢); omega)
            refine lv_goto (tgt := 63) hx hb dX9_init_127 (by decide) ?_
            exact ih (j1345 + 1) x1572 x1571 y1348 f1350 (by rw [ex1572, e1351]; exact nI_1 _) (by omega) (by (try simp only [i_lt, i_le, i_eq, kc_143, kc_0, kc_1] at t1352 h1354 h1353 c1362 c1408 c1409 c1464 c1465 tx1572); omega) (by omega)  (by have bd_y1348 := i_bd y1348; (try simp only [i_lt, i_le, i_eq] at i1349); omega) _ _ _ (hP.sub [0, 1, 2, 3, 4, 5, 6] rfl) (hD.sub [0, 1, 2, 3, 4, 5, 6] (by decide) rfl) hS  (lv_sub hl [0, 1, 2, 3] rfl)
  exact HL1 144 0 (0) (0) (0) f753 (by decide) (by omega) (by omega) (by omega) (by decide) _ _ _ hP hD hS  hl

def l_zk_J0_coder_7d493_1 : List Cond := [.fieldLink RJ0 38 "java/lang/String" "COMPACT_STRINGS" "Z", .fieldLink RJ0 15 "java/lang/String" "coder" "B"]
def w_zk_J0_coder_7d493_1 : List Cond := .code yJ0_coder_7d493 cJ0_coder_7d493 1 (some .byte) :: (l_zk_J0_coder_7d493_1)
set_option maxHeartbeats 4000000 in
set_option maxRecDepth 100000 in
theorem zk_J0_coder_7d493_1 (l : Launch) (dC : Nat → ClassId) (dI : Nat → Nat → Nat) (sz : Nat) (adK adV : Nat → Nat)    : Met l yJ0_coder_7d493 w_zk_J0_coder_7d493_1 ({ frames := 0, cells := 0, slots := 0, locals := 0 }) (va_Pc [.ref (adK 1)] (fun U => U.heap.size = sz ∧ Kc adK adV (va_A [] sz) U ∧ Wd dC dI [] (fun _ => True) [] U)) (va_Qi (fun (r : Int32) (u : Unit) => r = 0) (fun (u : Unit) t => Wd dC dI [] (va_A [] sz) [] t) (va_A [] sz))  0 0 (va_A [] sz) := by
  refine Met.ofW (cc := cJ0_coder_7d493) (maxL := 1) (ret := (some .byte)) (by decide) rfl ?_
  intro p e s m args below meth c s₁ B hml hv
  obtain ⟨rfl, hsz, hC, hP, hK, hD0⟩ := hv
  have hx := B.exec
  have hb := B.bytes
  have hr := B.returns
  have hts := atoms_spec (ws := w_zk_J0_coder_7d493_1) B.pre
  have hown : s.vm.findClass RJ0 = some m.cls := findClass_of_methodNamed B.named
  have hlocks := B.notSynchronized
  subst hsz
  have hD := hD0.self (sz := s.heap.size)
  generalize hAe : va_A [] s.heap.size = A at hD hC ⊢
  have hA : ∀ q : Nat, s.heap.size ≤ q → A q := fun q h => by rw [← hAe]; exact Or.inr h
  have hS : va_S A s.heap s.heap [] := va_S.rf
  have hl := lv_entry ([.ref (adK 1)]) (n := 1) (Nat.le_of_ble_eq_true rfl)
  rw [lg_entry_eq]
  generalize (lg_sl ([.ref (adK 1)]) ++ List.replicate (1 - (lg_sl ([.ref (adK 1)])).length) Slot.unset).toArray = ls at hl ⊢
  have hl : lv_has ls 1 [(0, .ref (adK 1))] := hl
  refine va_gets (v := .int 1) hx hb hC.2.2.2.2.1 hS hown (hts (.fieldLink RJ0 38 "java/lang/String" "COMPACT_STRINGS" "Z") (by decide +kernel)) (fun _ h9 => h9) dJ0_coder_7d493_0 ?_
  refine lv_if_eq (tgt := 13) hx hb dJ0_coder_7d493_3 (by decide) (fun c1582 => absurd c1582 (by decide)) (fun c1582 => ?_)
  refine lv_aload_n hx hb dJ0_coder_7d493_6 rfl (lv_at hl 0 rfl) ?_
  refine vk_getf (v := .int 0) hx hb (hC.1.1 1 (by decide)).2.1 hS hown (hts (.fieldLink RJ0 15 "java/lang/String" "coder" "B") (by decide +kernel)) (fun _ h9 => h9) dJ0_coder_7d493_7 ?_
  refine lv_goto (tgt := 14) hx hb dJ0_coder_7d493_10 (by decide) ?_
  have hP9 := hP.sub (ws' := []) [] rfl
  have hD9 := hD.sub (ws' := []) [] (by decide) rfl
  have hK9 := hK.sub (tys' := []) [] rfl
  exact W.zret (v := 0) hx hb hr rfl (fun t ht hW => ⟨⟨0, (), rfl, rfl, by rw [ht]; exact hP9, va_K.moved hW.alike hK9, hD9⟩, hS.F ht⟩) hS.2.2 dJ0_coder_7d493_14

def l_zk_J0_length_8abf5_1 : List Cond := [.fieldLink RJ0 9 "java/lang/String" "value" "[B", .methodLink RJ0 335 yJ0_coder_7d493, .instanceMethod yJ0_coder_7d493, .selects RJ0 yJ0_coder_7d493 yJ0_coder_7d493, .initialized RJ0, .code yJ0_coder_7d493 cJ0_coder_7d493 1 (some .byte), .fieldLink RJ0 38 "java/lang/String" "COMPACT_STRINGS" "Z", .fieldLink RJ0 15 "java/lang/String" "coder" "B"]
def w_zk_J0_length_8abf5_1 : List Cond := .code yJ0_length_8abf5 cJ0_length_8abf5 1 (some .int) :: (l_zk_J0_length_8abf5_1)
theorem g_zk_J0_length_8abf5_1_zk_J0_coder_7d493_1_335 : GoodIn w_zk_J0_length_8abf5_1 (wsV RJ0 335 RJ0 yJ0_coder_7d493 w_zk_J0_coder_7d493_1) := goodIn_app (goodIn_sub (by decide +kernel) (by decide +kernel)) (goodIn_sub (by decide +kernel) (by decide +kernel))
set_option maxHeartbeats 4000000 in
set_option maxRecDepth 100000 in
theorem zk_J0_length_8abf5_1 (l : Launch) (dC : Nat → ClassId) (dI : Nat → Nat → Nat) (sz : Nat) (adK adV : Nat → Nat)    : Met l yJ0_length_8abf5 w_zk_J0_length_8abf5_1 ({ frames := 1, cells := 0, slots := 0, locals := 20 }) (va_Pc [.ref (adK 1)] (fun U => U.heap.size = sz ∧ Kc adK adV (va_A [] sz) U ∧ Wd dC dI [] (fun _ => True) [] U)) (va_Qi (fun (r : Int32) (u : Unit) => r = 2) (fun (u : Unit) t => Wd dC dI [] (va_A [] sz) [] t) (va_A [] sz))  0 0 (va_A [] sz) := by
  refine Met.ofW (cc := cJ0_length_8abf5) (maxL := 1) (ret := (some .int)) (by decide) rfl ?_
  intro p e s m args below meth c s₁ B hml hv
  obtain ⟨rfl, hsz, hC, hP, hK, hD0⟩ := hv
  have hx := B.exec
  have hb := B.bytes
  have hr := B.returns
  have hts := atoms_spec (ws := w_zk_J0_length_8abf5_1) B.pre
  have hown : s.vm.findClass RJ0 = some m.cls := findClass_of_methodNamed B.named
  have hlocks := B.notSynchronized
  subst hsz
  have hD := hD0.self (sz := s.heap.size)
  generalize hAe : va_A [] s.heap.size = A at hD hC ⊢
  have hA : ∀ q : Nat, s.heap.size ≤ q → A q := fun q h => by rw [← hAe]; exact Or.inr h
  have hS : va_S A s.heap s.heap [] := va_S.rf
  have hl := lv_entry ([.ref (adK 1)]) (n := 1) (Nat.le_of_ble_eq_true rfl)
  rw [lg_entry_eq]
  generalize (lg_sl ([.ref (adK 1)]) ++ List.replicate (1 - (lg_sl ([.ref (adK 1)])).length) Slot.unset).toArray = ls at hl ⊢
  have hl : lv_has ls 1 [(0, .ref (adK 1))] := hl
  refine lv_aload_n hx hb dJ0_length_8abf5_0 rfl (lv_at hl 0 rfl) ?_
  refine vk_getf (v := .ref (adV 1)) hx hb (hC.1.1 1 (by decide)).2.2.1 hS hown (hts (.fieldLink RJ0 9 "java/lang/String" "value" "[B") (by decide +kernel)) (fun _ h9 => h9) dJ0_length_8abf5_1 ?_
  refine va_tlen (v := 2) hx hb (hC.1.1 1 (by decide)).2.2.2 hS (by decide) dJ0_length_8abf5_4 ?_
  refine lv_aload_n hx hb dJ0_length_8abf5_5 rfl (lv_at hl 0 rfl) ?_
  have hPc := hP.sub (ws' := []) [] rfl
  have hDc := hD.sub (ws' := []) [] (by decide) rfl
  have hKc := hK.sub (tys' := []) [] rfl
  have hFc := va_free (wc := []) hD hS hA [] rfl
  refine va_calli (va_runV (As := []) (rest := [.int 2]) ⟨hx, hb, hml, hown, hts⟩ (zk_J0_coder_7d493_1 l dC dI s.heap.size adK adV   ) (cwV 0 hts g_zk_J0_length_8abf5_1_zk_J0_coder_7d493_1_335 rfl rfl rfl (by decide +kernel) ⟨Nat.le_of_ble_eq_true rfl, Nat.le_of_ble_eq_true rfl⟩) ⟨fun a U g mk q => by obtain ⟨q0, q1, qC, qP, qK, qD⟩ := q; exact ⟨q0, q1, Kc_call qC, qP, va_K.moved (u := U) (U := U.calling g mk a) (Vm.Alike.refl U.vm) qK, qD⟩, vk_recv hC.1 (i := 1) (by decide) hS, fun U hU hW => ⟨rfl, by rw [hU], Kc_go hC hS hFc hU hW, by rw [hU]; exact hPc, va_K.moved hW.alike hKc, hDc.weaken (fun _ _ _ _ => trivial)⟩⟩ rfl rfl hl.1 rfl (lv_room (Nat.le_of_ble_eq_true rfl)) dJ0_length_8abf5_6 ⟨Nat.le_of_ble_eq_true rfl, Nat.le_of_ble_eq_true rfl⟩) hS (fun q _ h => hFc q h) hFc (fun r1587 u t H1 locs ht hvm hw hB hz1 hk1 hS => ?_)
  obtain ⟨hP1, hK1, hD1⟩ := hB
  rw [ht] at hP1
  try dsimp only at hw
  obtain ⟨hP, hD⟩ := va_join (wr := []) (w1 := []) hP hD [] [] rfl rfl (by decide) (by decide) hk1 hFc hP1 hD1
  have hK := hK.sub (tys' := []) [] rfl
  generalize H1 = H at hP hS ⊢
  have hP : va_P (dC, dI) vwCl [] H := hP
  have hD : va_D A [] := hD
  have er1588 := hw
  subst er1588
  refine lv_ishr hx hb dJ0_length_8abf5_9  ?_
  refine lv_topi (fun x1589 ex1589 => ?_)
  obtain rfl : x1589 = 2 := ex1589.trans (by decide)
  have hP9 := hP.sub (ws' := []) [] rfl
  have hD9 := hD.sub (ws' := []) [] (by decide) rfl
  have hK9 := hK.sub (tys' := []) [] rfl
  exact W.iret (v := 2) hx hb hr (fun t ht hW => ⟨⟨2, (), rfl, rfl, by rw [ht]; exact hP9, va_K.moved hW.alike hK9, hD9⟩, hS.F ht⟩) hS.2.2 dJ0_length_8abf5_10

def l_zk_J0_isLatin1_aae02_1 : List Cond := [.fieldLink RJ0 38 "java/lang/String" "COMPACT_STRINGS" "Z", .fieldLink RJ0 15 "java/lang/String" "coder" "B"]
def w_zk_J0_isLatin1_aae02_1 : List Cond := .code yJ0_isLatin1_aae02 cJ0_isLatin1_aae02 1 (some .boolean) :: (l_zk_J0_isLatin1_aae02_1)
set_option maxHeartbeats 4000000 in
set_option maxRecDepth 100000 in
theorem zk_J0_isLatin1_aae02_1 (l : Launch) (dC : Nat → ClassId) (dI : Nat → Nat → Nat) (sz : Nat) (adK adV : Nat → Nat)    : Met l yJ0_isLatin1_aae02 w_zk_J0_isLatin1_aae02_1 ({ frames := 0, cells := 0, slots := 0, locals := 0 }) (va_Pc [.ref (adK 1)] (fun U => U.heap.size = sz ∧ Kc adK adV (va_A [] sz) U ∧ Wd dC dI [] (fun _ => True) [] U)) (va_Qi (fun (r : Int32) (u : Unit) => r = 1) (fun (u : Unit) t => Wd dC dI [] (va_A [] sz) [] t) (va_A [] sz))  0 0 (va_A [] sz) := by
  refine Met.ofW (cc := cJ0_isLatin1_aae02) (maxL := 1) (ret := (some .boolean)) (by decide) rfl ?_
  intro p e s m args below meth c s₁ B hml hv
  obtain ⟨rfl, hsz, hC, hP, hK, hD0⟩ := hv
  have hx := B.exec
  have hb := B.bytes
  have hr := B.returns
  have hts := atoms_spec (ws := w_zk_J0_isLatin1_aae02_1) B.pre
  have hown : s.vm.findClass RJ0 = some m.cls := findClass_of_methodNamed B.named
  have hlocks := B.notSynchronized
  subst hsz
  have hD := hD0.self (sz := s.heap.size)
  generalize hAe : va_A [] s.heap.size = A at hD hC ⊢
  have hA : ∀ q : Nat, s.heap.size ≤ q → A q := fun q h => by rw [← hAe]; exact Or.inr h
  have hS : va_S A s.heap s.heap [] := va_S.rf
  have hl := lv_entry ([.ref (adK 1)]) (n := 1) (Nat.le_of_ble_eq_true rfl)
  rw [lg_entry_eq]
  generalize (lg_sl ([.ref (adK 1)]) ++ List.replicate (1 - (lg_sl ([.ref (adK 1)])).length) Slot.unset).toArray = ls at hl ⊢
  have hl : lv_has ls 1 [(0, .ref (adK 1))] := hl
  refine va_gets (v := .int 1) hx hb hC.2.2.2.2.1 hS hown (hts (.fieldLink RJ0 38 "java/lang/String" "COMPACT_STRINGS" "Z") (by decide +kernel)) (fun _ h9 => h9) dJ0_isLatin1_aae02_0 ?_
  refine lv_if_eq (tgt := 17) hx hb dJ0_isLatin1_aae02_3 (by decide) (fun c1596 => absurd c1596 (by decide)) (fun c1596 => ?_)
  refine lv_aload_n hx hb dJ0_isLatin1_aae02_6 rfl (lv_at hl 0 rfl) ?_
  refine vk_getf (v := .int 0) hx hb (hC.1.1 1 (by decide)).2.1 hS hown (hts (.fieldLink RJ0 15 "java/lang/String" "coder" "B") (by decide +kernel)) (fun _ h9 => h9) dJ0_isLatin1_aae02_7 ?_
  refine lv_if_ne (tgt := 17) hx hb dJ0_isLatin1_aae02_10 (by decide) (fun c1597 => absurd c1597 (by decide)) (fun c1597 => ?_)
  refine lv_iconst (v := 1) hx hb dJ0_isLatin1_aae02_13 (by decide) ?_
  refine lv_goto (tgt := 18) hx hb dJ0_isLatin1_aae02_14 (by decide) ?_
  have hP9 := hP.sub (ws' := []) [] rfl
  have hD9 := hD.sub (ws' := []) [] (by decide) rfl
  have hK9 := hK.sub (tys' := []) [] rfl
  exact W.zret (v := 1) hx hb hr rfl (fun t ht hW => ⟨⟨1, (), rfl, rfl, by rw [ht]; exact hP9, va_K.moved hW.alike hK9, hD9⟩, hS.F ht⟩) hS.2.2 dJ0_isLatin1_aae02_18

def l_zk_J3_checkIndex_8e157_2 : List Cond := []
def w_zk_J3_checkIndex_8e157_2 : List Cond := .code yJ3_checkIndex_8e157 cJ3_checkIndex_8e157 3 (some .int) :: (l_zk_J3_checkIndex_8e157_2)
set_option maxHeartbeats 4000000 in
set_option maxRecDepth 100000 in
theorem zk_J3_checkIndex_8e157_2 (l : Launch) (dC : Nat → ClassId) (dI : Nat → Nat → Nat) (sz : Nat) (Va0 : Int32)  (gv_Va0 : (0 : Int) ≤ Va0.toInt ∧ Va0.toInt ≤ 1) : Met l yJ3_checkIndex_8e157 w_zk_J3_checkIndex_8e157_2 ({ frames := 0, cells := 0, slots := 0, locals := 0 }) (va_Pc [.int Va0, .int 2, .null] (fun U => U.heap.size = sz ∧ Wd dC dI [] (fun _ => True) [] U)) (va_Qi (fun (r : Int32) (u : Unit) => (¬ Va0 < 0 ∧ Va0 < 2 ∧ r = Va0)) (fun (u : Unit) t => Wd dC dI [] (va_A [] sz) [] t) (va_A [] sz))  0 0 (va_A [] sz) := by
  refine Met.ofW (cc := cJ3_checkIndex_8e157) (maxL := 3) (ret := (some .int)) (by decide) rfl ?_
  intro p e s m args below meth c s₁ B hml hv
  obtain ⟨rfl, hsz, hP, hK, hD0⟩ := hv
  have hx := B.exec
  have hb := B.bytes
  have hr := B.returns
  have hts := atoms_spec (ws := w_zk_J3_checkIndex_8e157_2) B.pre
  have hown : s.vm.findClass RJ3 = some m.cls := findClass_of_methodNamed B.named
  have hlocks := B.notSynchronized
  subst hsz
  have hD := hD0.self (sz := s.heap.size)
  generalize hAe : va_A [] s.heap.size = A at hD ⊢
  have hA : ∀ q : Nat, s.heap.size ≤ q → A q := fun q h => by rw [← hAe]; exact Or.inr h
  have hS : va_S A s.heap s.heap [] := va_S.rf
  have hl := lv_entry ([.int Va0, .int 2, .null]) (n := 3) (Nat.le_of_ble_eq_true rfl)
  rw [lg_entry_eq]
  generalize (lg_sl ([.int Va0, .int 2, .null]) ++ List.replicate (3 - (lg_sl ([.int Va0, .int 2, .null])).length) Slot.unset).toArray = ls at hl ⊢
  have hl : lv_has ls 3 [(0, .int Va0), (1, .int 2), (2, .null)] := hl
  refine lv_iload_n hx hb dJ3_checkIndex_8e157_0 rfl (lv_at hl 0 rfl) ?_
  refine lv_if_lt (tgt := 9) hx hb dJ3_checkIndex_8e157_1 (by decide) (fun c1620 => (by exfalso; have bd_Va0 := i_bd Va0; (try simp only [i_lt, i_le, i_eq, kc_0] at gv_Va0 c1620); omega)) (fun c1620 => ?_)
  refine lv_iload_n hx hb dJ3_checkIndex_8e157_4 rfl (lv_at hl 0 rfl) ?_
  refine lv_iload_n hx hb dJ3_checkIndex_8e157_5 rfl (lv_at hl 1 rfl) ?_
  refine lv_icmp_lt (tgt := 16) hx hb dJ3_checkIndex_8e157_6 (by decide) (fun c1621 => ?_) (fun c1621 => (by exfalso; have bd_Va0 := i_bd Va0; (try simp only [i_lt, i_le, i_eq, kc_0, kc_2] at gv_Va0 c1620 c1621); omega))
  refine lv_iload_n hx hb dJ3_checkIndex_8e157_16 rfl (lv_at hl 0 rfl) ?_
  have hP9 := hP.sub (ws' := []) [] rfl
  have hD9 := hD.sub (ws' := []) [] (by decide) rfl
  have hK9 := hK.sub (tys' := []) [] rfl
  exact W.iret (v := Va0) hx hb hr (fun t ht hW => ⟨⟨Va0, (), rfl, ⟨c1620, c1621, rfl⟩, by rw [ht]; exact hP9, va_K.moved hW.alike hK9, hD9⟩, hS.F ht⟩) hS.2.2 dJ3_checkIndex_8e157_17

def l_zk_J3_checkIndex_8e157_3 : List Cond := []
def w_zk_J3_checkIndex_8e157_3 : List Cond := .code yJ3_checkIndex_8e157 cJ3_checkIndex_8e157 3 (some .int) :: (l_zk_J3_checkIndex_8e157_3)
set_option maxHeartbeats 4000000 in
set_option maxRecDepth 100000 in
theorem zk_J3_checkIndex_8e157_3 (l : Launch) (dC : Nat → ClassId) (dI : Nat → Nat → Nat) (sz : Nat) (Va0 : Int32) (Br0 : Nat)  (gv_Va0 : (0 : Int) ≤ Va0.toInt ∧ Va0.toInt ≤ 1) : Met l yJ3_checkIndex_8e157 w_zk_J3_checkIndex_8e157_3 ({ frames := 0, cells := 0, slots := 0, locals := 0 }) (va_Pc [.int Va0, .int 2, .ref Br0] (fun U => U.heap.size = sz ∧ Wd dC dI [] (fun _ => True) [] U)) (va_Qi (fun (r : Int32) (u : Unit) => (¬ Va0 < 0 ∧ Va0 < 2 ∧ r = Va0)) (fun (u : Unit) t => Wd dC dI [] (va_A [] sz) [] t) (va_A [] sz))  0 0 (va_A [] sz) := by
  refine Met.ofW (cc := cJ3_checkIndex_8e157) (maxL := 3) (ret := (some .int)) (by decide) rfl ?_
  intro p e s m args below meth c s₁ B hml hv
  obtain ⟨rfl, hsz, hP, hK, hD0⟩ := hv
  have hx := B.exec
  have hb := B.bytes
  have hr := B.returns
  have hts := atoms_spec (ws := w_zk_J3_checkIndex_8e157_3) B.pre
  have hown : s.vm.findClass RJ3 = some m.cls := findClass_of_methodNamed B.named
  have hlocks := B.notSynchronized
  subst hsz
  have hD := hD0.self (sz := s.heap.size)
  generalize hAe : va_A [] s.heap.size = A at hD ⊢
  have hA : ∀ q : Nat, s.heap.size ≤ q → A q := fun q h => by rw [← hAe]; exact Or.inr h
  have hS : va_S A s.heap s.heap [] := va_S.rf
  have hl := lv_entry ([.int Va0, .int 2, .ref Br0]) (n := 3) (Nat.le_of_ble_eq_true rfl)
  rw [lg_entry_eq]
  generalize (lg_sl ([.int Va0, .int 2, .ref Br0]) ++ List.replicate (3 - (lg_sl ([.int Va0, .int 2, .ref Br0])).length) Slot.unset).toArray = ls at hl ⊢
  have hl : lv_has ls 3 [(0, .int Va0), (1, .int 2), (2, .ref Br0)] := hl
  refine lv_iload_n hx hb dJ3_checkIndex_8e157_0 rfl (lv_at hl 0 rfl) ?_
  refine lv_if_lt (tgt := 9) hx hb dJ3_checkIndex_8e157_1 (by decide) (fun c1629 => (by exfalso; have bd_Va0 := i_bd Va0; (try simp only [i_lt, i_le, i_eq, kc_0] at gv_Va0 c1629); omega)) (fun c1629 => ?_)
  refine lv_iload_n hx hb dJ3_checkIndex_8e157_4 rfl (lv_at hl 0 rfl) ?_
  refine lv_iload_n hx hb dJ3_checkIndex_8e157_5 rfl (lv_at hl 1 rfl) ?_
  refine lv_icmp_lt (tgt := 16) hx hb dJ3_checkIndex_8e157_6 (by decide) (fun c1630 => ?_) (fun c1630 => (by exfalso; have bd_Va0 := i_bd Va0; (try simp only [i_lt, i_le, i_eq, kc_0, kc_2] at gv_Va0 c1629 c1630); omega))
  refine lv_iload_n hx hb dJ3_checkIndex_8e157_16 rfl (lv_at hl 0 rfl) ?_
  have hP9 := hP.sub (ws' := []) [] rfl
  have hD9 := hD.sub (ws' := []) [] (by decide) rfl
  have hK9 := hK.sub (tys' := []) [] rfl
  exact W.iret (v := Va0) hx hb hr (fun t ht hW => ⟨⟨Va0, (), rfl, ⟨c1629, c1630, rfl⟩, by rw [ht]; exact hP9, va_K.moved hW.alike hK9, hD9⟩, hS.F ht⟩) hS.2.2 dJ3_checkIndex_8e157_17

def l_zk_J0_checkIndex_df160_1 : List Cond := [.fieldLink RJ0 1053 "jdk/internal/util/Preconditions" "SIOOBE_FORMATTER" "Ljava/util/function/BiFunction;", .methodLink RJ0 1059 yJ3_checkIndex_8e157, .static yJ3_checkIndex_8e157, .initialized RJ3, .code yJ3_checkIndex_8e157 cJ3_checkIndex_8e157 3 (some .int)]
def w_zk_J0_checkIndex_df160_1 : List Cond := .code yJ0_checkIndex_df160 cJ0_checkIndex_df160 2 none :: (l_zk_J0_checkIndex_df160_1)
theorem g_zk_J0_checkIndex_df160_1_zk_J3_checkIndex_8e157_2_1059 : GoodIn w_zk_J0_checkIndex_df160_1 (va_wsS RJ0 1059 yJ3_checkIndex_8e157 w_zk_J3_checkIndex_8e157_2) := goodIn_app (goodIn_sub (by decide +kernel) (by decide +kernel)) (goodIn_sub (by decide +kernel) (by decide +kernel))
theorem g_zk_J0_checkIndex_df160_1_zk_J3_checkIndex_8e157_3_1059 : GoodIn w_zk_J0_checkIndex_df160_1 (va_wsS RJ0 1059 yJ3_checkIndex_8e157 w_zk_J3_checkIndex_8e157_3) := goodIn_app (goodIn_sub (by decide +kernel) (by decide +kernel)) (goodIn_sub (by decide +kernel) (by decide +kernel))
set_option maxHeartbeats 4000000 in
set_option maxRecDepth 100000 in
theorem zk_J0_checkIndex_df160_1 (l : Launch) (dC : Nat → ClassId) (dI : Nat → Nat → Nat) (sz : Nat) (adK adV : Nat → Nat) (Va0 : Int32)  (gv_Va0 : (0 : Int) ≤ Va0.toInt ∧ Va0.toInt ≤ 1) : Met l yJ0_checkIndex_df160 w_zk_J0_checkIndex_df160_1 ({ frames := 1, cells := 0, slots := 0, locals := 22 }) (va_Pc [.int Va0, .int 2] (fun U => U.heap.size = sz ∧ Kc adK adV (va_A [] sz) U ∧ Wd dC dI [] (fun _ => True) [] U)) (va_Qv (fun (u : Unit) => (¬ Va0 < 0 ∧ Va0 < 2)) (fun (u : Unit) t => Wd dC dI [] (va_A [] sz) [] t) (va_A [] sz))  0 0 (va_A [] sz) := by
  refine Met.ofW (cc := cJ0_checkIndex_df160) (maxL := 2) (ret := none) (by decide) rfl ?_
  intro p e s m args below meth c s₁ B hml hv
  obtain ⟨rfl, hsz, hC, hP, hK, hD0⟩ := hv
  have hx := B.exec
  have hb := B.bytes
  have hr := B.returns
  have hts := atoms_spec (ws := w_zk_J0_checkIndex_df160_1) B.pre
  have hown : s.vm.findClass RJ0 = some m.cls := findClass_of_methodNamed B.named
  have hlocks := B.notSynchronized
  subst hsz
  have hD := hD0.self (sz := s.heap.size)
  generalize hAe : va_A [] s.heap.size = A at hD hC ⊢
  have hA : ∀ q : Nat, s.heap.size ≤ q → A q := fun q h => by rw [← hAe]; exact Or.inr h
  have hS : va_S A s.heap s.heap [] := va_S.rf
  have hl := lv_entry ([.int Va0, .int 2]) (n := 2) (Nat.le_of_ble_eq_true rfl)
  rw [lg_entry_eq]
  generalize (lg_sl ([.int Va0, .int 2]) ++ List.replicate (2 - (lg_sl ([.int Va0, .int 2])).length) Slot.unset).toArray = ls at hl ⊢
  have hl : lv_has ls 2 [(0, .int Va0), (1, .int 2)] := hl
  refine lv_iload_n hx hb dJ0_checkIndex_df160_0 rfl (lv_at hl 0 rfl) ?_
  refine lv_iload_n hx hb dJ0_checkIndex_df160_1 rfl (lv_at hl 1 rfl) ?_
  rcases hC.2.2.2.2.2.1 with z1635 | ⟨q1636, z1635⟩
  · refine va_gets (v := .null) hx hb z1635 hS hown (hts (.fieldLink RJ0 1053 "jdk/internal/util/Preconditions" "SIOOBE_FORMATTER" "Ljava/util/function/BiFunction;") (by decide +kernel)) (fun _ h9 => h9) dJ0_checkIndex_df160_2 ?_
    have hPc := hP.sub (ws' := []) [] rfl
    have hDc := hD.sub (ws' := []) [] (by decide) rfl
    have hKc := hK.sub (tys' := []) [] rfl
    have hFc := va_free (wc := []) hD hS hA [] rfl
    refine va_calli (va_runS (As := [.int Va0, .int 2, .null]) (rest := []) ⟨hx, hb, hml, hown, hts⟩ (zk_J3_checkIndex_8e157_2 l dC dI s.heap.size Va0  (by (try simp only [i_lt, i_le, i_eq] at gv_Va0); omega)) (va_cwS 3 hts g_zk_J0_checkIndex_df160_1_zk_J3_checkIndex_8e157_2_1059 rfl rfl rfl (by decide +kernel) ⟨Nat.le_of_ble_eq_true rfl, Nat.le_of_ble_eq_true rfl⟩) ⟨fun a U g mk q => by obtain ⟨q0, q1, qP, qK, qD⟩ := q; exact ⟨q0, q1, qP, va_K.moved (u := U) (U := U.calling g mk a) (Vm.Alike.refl U.vm) qK, qD⟩, fun U hU hW => ⟨rfl, by rw [hU], by rw [hU]; exact hPc, va_K.moved hW.alike hKc, hDc.weaken (fun _ _ _ _ => trivial)⟩⟩ rfl rfl hl.1 rfl (lv_room (Nat.le_of_ble_eq_true rfl)) dJ0_checkIndex_df160_5 ⟨Nat.le_of_ble_eq_true rfl, Nat.le_of_ble_eq_true rfl⟩) hS (fun q _ h => hFc q h) hFc (fun r1640 u t H1 locs ht hvm hw hB hz1 hk1 hS => ?_)
    obtain ⟨hP1, hK1, hD1⟩ := hB
    rw [ht] at hP1
    try dsimp only at hw
    obtain ⟨hP, hD⟩ := va_join (wr := []) (w1 := []) hP hD [] [] rfl rfl (by decide) (by decide) hk1 hFc hP1 hD1
    have hK := hK.sub (tys' := []) [] rfl
    generalize H1 = H at hP hS ⊢
    have hP : va_P (dC, dI) vwCl [] H := hP
    have hD : va_D A [] := hD
    obtain ⟨c1641, c1642, er1643⟩ := hw
    have qer1643 := er1643.symm
    subst qer1643
    refine lv_pop hx hb dJ0_checkIndex_df160_8 rfl ?_
    have hP9 := hP.sub (ws' := []) [] rfl
    have hD9 := hD.sub (ws' := []) [] (by decide) rfl
    have hK9 := hK.sub (tys' := []) [] rfl
    exact W.vret hx hb hr (fun t ht hW => ⟨⟨(), rfl, ⟨c1641, c1642⟩, by rw [ht]; exact hP9, va_K.moved hW.alike hK9, hD9⟩, hS.F ht⟩) hS.2.2 dJ0_checkIndex_df160_9
  · refine va_gets (v := .ref q1636) hx hb z1635 hS hown (hts (.fieldLink RJ0 1053 "jdk/internal/util/Preconditions" "SIOOBE_FORMATTER" "Ljava/util/function/BiFunction;") (by decide +kernel)) (fun _ h9 => h9) dJ0_checkIndex_df160_2 ?_
    have hPc := hP.sub (ws' := []) [] rfl
    have hDc := hD.sub (ws' := []) [] (by decide) rfl
    have hKc := hK.sub (tys' := []) [] rfl
    have hFc := va_free (wc := []) hD hS hA [] rfl
    refine va_calli (va_runS (As := [.int Va0, .int 2, .ref q1636]) (rest := []) ⟨hx, hb, hml, hown, hts⟩ (zk_J3_checkIndex_8e157_3 l dC dI s.heap.size Va0 q1636  (by (try simp only [i_lt, i_le, i_eq] at gv_Va0); omega)) (va_cwS 3 hts g_zk_J0_checkIndex_df160_1_zk_J3_checkIndex_8e157_3_1059 rfl rfl rfl (by decide +kernel) ⟨Nat.le_of_ble_eq_true rfl, Nat.le_of_ble_eq_true rfl⟩) ⟨fun a U g mk q => by obtain ⟨q0, q1, qP, qK, qD⟩ := q; exact ⟨q0, q1, qP, va_K.moved (u := U) (U := U.calling g mk a) (Vm.Alike.refl U.vm) qK, qD⟩, fun U hU hW => ⟨rfl, by rw [hU], by rw [hU]; exact hPc, va_K.moved hW.alike hKc, hDc.weaken (fun _ _ _ _ => trivial)⟩⟩ rfl rfl hl.1 rfl (lv_room (Nat.le_of_ble_eq_true rfl)) dJ0_checkIndex_df160_5 ⟨Nat.le_of_ble_eq_true rfl, Nat.le_of_ble_eq_true rfl⟩) hS (fun q _ h => hFc q h) hFc (fun r1647 u t H1 locs ht hvm hw hB hz1 hk1 hS => ?_)
    obtain ⟨hP1, hK1, hD1⟩ := hB
    rw [ht] at hP1
    try dsimp only at hw
    obtain ⟨hP, hD⟩ := va_join (wr := []) (w1 := []) hP hD [] [] rfl rfl (by decide) (by decide) hk1 hFc hP1 hD1
    have hK := hK.sub (tys' := []) [] rfl
    generalize H1 = H at hP hS ⊢
    have hP : va_P (dC, dI) vwCl [] H := hP
    have hD : va_D A [] := hD
    obtain ⟨c1648, c1649, er1650⟩ := hw
    have qer1650 := er1650.symm
    subst qer1650
    refine lv_pop hx hb dJ0_checkIndex_df160_8 rfl ?_
    have hP9 := hP.sub (ws' := []) [] rfl
    have hD9 := hD.sub (ws' := []) [] (by decide) rfl
    have hK9 := hK.sub (tys' := []) [] rfl
    exact W.vret hx hb hr (fun t ht hW => ⟨⟨(), rfl, ⟨c1648, c1649⟩, by rw [ht]; exact hP9, va_K.moved hW.alike hK9, hD9⟩, hS.F ht⟩) hS.2.2 dJ0_checkIndex_df160_9

def l_zk_J1_charAt_3b067_1 : List Cond := [.methodLink RJ1 9 yJ0_checkIndex_df160, .static yJ0_checkIndex_df160, .initialized RJ0, .code yJ0_checkIndex_df160 cJ0_checkIndex_df160 2 none, .fieldLink RJ0 1053 "jdk/internal/util/Preconditions" "SIOOBE_FORMATTER" "Ljava/util/function/BiFunction;", .methodLink RJ0 1059 yJ3_checkIndex_8e157, .static yJ3_checkIndex_8e157, .initialized RJ3, .code yJ3_checkIndex_8e157 cJ3_checkIndex_8e157 3 (some .int)]
def w_zk_J1_charAt_3b067_1 : List Cond := .code yJ1_charAt_3b067 cJ1_charAt_3b067 2 (some .char) :: (l_zk_J1_charAt_3b067_1)
theorem g_zk_J1_charAt_3b067_1_zk_J0_checkIndex_df160_1_9 : GoodIn w_zk_J1_charAt_3b067_1 (va_wsS RJ1 9 yJ0_checkIndex_df160 w_zk_J0_checkIndex_df160_1) := goodIn_app (goodIn_sub (by decide +kernel) (by decide +kernel)) (goodIn_sub (by decide +kernel) (by decide +kernel))
set_option maxHeartbeats 4000000 in
set_option maxRecDepth 100000 in
theorem zk_J1_charAt_3b067_1 (l : Launch) (dC : Nat → ClassId) (dI : Nat → Nat → Nat) (sz : Nat) (adK adV : Nat → Nat) (Va0 : Int32)  (gv_Va0 : (0 : Int) ≤ Va0.toInt ∧ Va0.toInt ≤ 1) : Met l yJ1_charAt_3b067 w_zk_J1_charAt_3b067_1 ({ frames := 2, cells := 0, slots := 0, locals := 43 }) (va_Pc [.ref (adV 1), .int Va0] (fun U => U.heap.size = sz ∧ Kc adK adV (va_A [] sz) U ∧ Wd dC dI [] (fun _ => True) [] U)) (va_Qi (fun (r : Int32) (u : Unit) => (¬ Va0 < 0 ∧ Va0 < 2 ∧ narrow .char (.int r) = .int r)) (fun (u : Unit) t => Wd dC dI [] (va_A [] sz) [] t) (va_A [] sz))  0 0 (va_A [] sz) := by
  refine Met.ofW (cc := cJ1_charAt_3b067) (maxL := 2) (ret := (some .char)) (by decide) rfl ?_
  intro p e s m args below meth c s₁ B hml hv
  obtain ⟨rfl, hsz, hC, hP, hK, hD0⟩ := hv
  have hx := B.exec
  have hb := B.bytes
  have hr := B.returns
  have hts := atoms_spec (ws := w_zk_J1_charAt_3b067_1) B.pre
  have hown : s.vm.findClass RJ1 = some m.cls := findClass_of_methodNamed B.named
  have hlocks := B.notSynchronized
  subst hsz
  have hD := hD0.self (sz := s.heap.size)
  generalize hAe : va_A [] s.heap.size = A at hD hC ⊢
  have hA : ∀ q : Nat, s.heap.size ≤ q → A q := fun q h => by rw [← hAe]; exact Or.inr h
  have hS : va_S A s.heap s.heap [] := va_S.rf
  have hl := lv_entry ([.ref (adV 1), .int Va0]) (n := 2) (Nat.le_of_ble_eq_true rfl)
  rw [lg_entry_eq]
  generalize (lg_sl ([.ref (adV 1), .int Va0]) ++ List.replicate (2 - (lg_sl ([.ref (adV 1), .int Va0])).length) Slot.unset).toArray = ls at hl ⊢
  have hl : lv_has ls 2 [(0, .ref (adV 1)), (1, .int Va0)] := hl
  refine lv_iload_n hx hb dJ1_charAt_3b067_0 rfl (lv_at hl 1 rfl) ?_
  refine lv_aload_n hx hb dJ1_charAt_3b067_1 rfl (lv_at hl 0 rfl) ?_
  refine va_tlen (v := 2) hx hb (hC.1.1 1 (by decide)).2.2.2 hS (by decide) dJ1_charAt_3b067_2 ?_
  have hPc := hP.sub (ws' := []) [] rfl
  have hDc := hD.sub (ws' := []) [] (by decide) rfl
  have hKc := hK.sub (tys' := []) [] rfl
  have hFc := va_free (wc := []) hD hS hA [] rfl
  refine va_callv (va_runS (As := [.int Va0, .int 2]) (rest := []) ⟨hx, hb, hml, hown, hts⟩ (zk_J0_checkIndex_df160_1 l dC dI s.heap.size adK adV Va0  (by (try simp only [i_lt, i_le, i_eq] at gv_Va0); omega)) (va_cwS 2 hts g_zk_J1_charAt_3b067_1_zk_J0_checkIndex_df160_1_9 rfl rfl rfl (by decide +kernel) ⟨Nat.le_of_ble_eq_true rfl, Nat.le_of_ble_eq_true rfl⟩) ⟨fun a U g mk q => by obtain ⟨q0, q1, qC, qP, qK, qD⟩ := q; exact ⟨q0, q1, Kc_call qC, qP, va_K.moved (u := U) (U := U.calling g mk a) (Vm.Alike.refl U.vm) qK, qD⟩, fun U hU hW => ⟨rfl, by rw [hU], Kc_go hC hS hFc hU hW, by rw [hU]; exact hPc, va_K.moved hW.alike hKc, hDc.weaken (fun _ _ _ _ => trivial)⟩⟩ rfl rfl hl.1 rfl (lv_room (Nat.le_of_ble_eq_true rfl)) dJ1_charAt_3b067_3 ⟨Nat.le_of_ble_eq_true rfl, Nat.le_of_ble_eq_true rfl⟩) hS (fun q _ h => hFc q h) hFc (fun u t H1 locs ht hvm hw hB hz1 hk1 hS => ?_)
  obtain ⟨hP1, hK1, hD1⟩ := hB
  rw [ht] at hP1
  try dsimp only at hw
  obtain ⟨hP, hD⟩ := va_join (wr := []) (w1 := []) hP hD [] [] rfl rfl (by decide) (by decide) hk1 hFc hP1 hD1
  have hK := hK.sub (tys' := []) [] rfl
  generalize H1 = H at hP hS ⊢
  have hP : va_P (dC, dI) vwCl [] H := hP
  have hD : va_D A [] := hD
  obtain ⟨c1675, c1676⟩ := hw
  refine lv_aload_n hx hb dJ1_charAt_3b067_6 rfl (lv_at hl 0 rfl) ?_
  refine lv_iload_n hx hb dJ1_charAt_3b067_7 rfl (lv_at hl 1 rfl) ?_
  refine va_tb hx hb (hC.1.1 1 (by decide)).2.2.2 hS (show vp_in Va0 2 from (by rw [vp_in_iff]; (try simp only [i_lt, i_le, i_eq, kc_0, kc_2] at gv_Va0 c1675 c1676); omega)) rfl dJ1_charAt_3b067_8 ?_
  refine lv_topi (fun x1677 ex1677 => ?_)
  refine lv_sipush (v := 255) hx hb dJ1_charAt_3b067_9 (by decide) ?_
  refine lv_iand hx hb dJ1_charAt_3b067_12  ?_
  refine lv_topi (fun x1678 ex1678 => ?_)
  refine lv_i2c hx hb dJ1_charAt_3b067_13 rfl ?_
  refine lv_topi (fun x1679 ex1679 => ?_)
  have hP9 := hP.sub (ws' := []) [] rfl
  have hD9 := hD.sub (ws' := []) [] (by decide) rfl
  have hK9 := hK.sub (tys' := []) [] rfl
  exact W.zret (v := x1679) hx hb hr (by rw [ex1679]; exact pk_nc _) (fun t ht hW => ⟨⟨x1679, (), rfl, ⟨c1675, c1676, (by rw [ex1679]; exact pk_nc _)⟩, by rw [ht]; exact hP9, va_K.moved hW.alike hK9, hD9⟩, hS.F ht⟩) hS.2.2 dJ1_charAt_3b067_14

def l_zk_J0_charAt_5068e_1 : List Cond := [.methodLink RJ0 492 yJ0_isLatin1_aae02, .instanceMethod yJ0_isLatin1_aae02, .selects RJ0 yJ0_isLatin1_aae02 yJ0_isLatin1_aae02, .initialized RJ0, .fieldLink RJ0 9 "java/lang/String" "value" "[B", .methodLink RJ0 495 yJ1_charAt_3b067, .static yJ1_charAt_3b067, .initialized RJ1, .code yJ0_isLatin1_aae02 cJ0_isLatin1_aae02 1 (some .boolean), .fieldLink RJ0 38 "java/lang/String" "COMPACT_STRINGS" "Z", .fieldLink RJ0 15 "java/lang/String" "coder" "B", .code yJ1_charAt_3b067 cJ1_charAt_3b067 2 (some .char), .methodLink RJ1 9 yJ0_checkIndex_df160, .static yJ0_checkIndex_df160, .code yJ0_checkIndex_df160 cJ0_checkIndex_df160 2 none, .fieldLink RJ0 1053 "jdk/internal/util/Preconditions" "SIOOBE_FORMATTER" "Ljava/util/function/BiFunction;", .methodLink RJ0 1059 yJ3_checkIndex_8e157, .static yJ3_checkIndex_8e157, .initialized RJ3, .code yJ3_checkIndex_8e157 cJ3_checkIndex_8e157 3 (some .int)]
def w_zk_J0_charAt_5068e_1 : List Cond := .code yJ0_charAt_5068e cJ0_charAt_5068e 2 (some .char) :: (l_zk_J0_charAt_5068e_1)
theorem g_zk_J0_charAt_5068e_1_zk_J0_isLatin1_aae02_1_492 : GoodIn w_zk_J0_charAt_5068e_1 (wsV RJ0 492 RJ0 yJ0_isLatin1_aae02 w_zk_J0_isLatin1_aae02_1) := goodIn_app (goodIn_sub (by decide +kernel) (by decide +kernel)) (goodIn_sub (by decide +kernel) (by decide +kernel))
theorem g_zk_J0_charAt_5068e_1_zk_J1_charAt_3b067_1_495 : GoodIn w_zk_J0_charAt_5068e_1 (va_wsS RJ0 495 yJ1_charAt_3b067 w_zk_J1_charAt_3b067_1) := goodIn_app (goodIn_sub (by decide +kernel) (by decide +kernel)) (goodIn_sub (by decide +kernel) (by decide +kernel))
set_option maxHeartbeats 4000000 in
set_option maxRecDepth 100000 in
theorem zk_J0_charAt_5068e_1 (l : Launch) (dC : Nat → ClassId) (dI : Nat → Nat → Nat) (sz : Nat) (adK adV : Nat → Nat) (Va0 : Int32)  (gv_Va0 : (0 : Int) ≤ Va0.toInt ∧ Va0.toInt ≤ 1) : Met l yJ0_charAt_5068e w_zk_J0_charAt_5068e_1 ({ frames := 3, cells := 0, slots := 0, locals := 64 }) (va_Pc [.ref (adK 1), .int Va0] (fun U => U.heap.size = sz ∧ Kc adK adV (va_A [] sz) U ∧ Wd dC dI [] (fun _ => True) [] U)) (va_Qi (fun (r : Int32) (u : Unit) => (¬ Va0 < 0 ∧ Va0 < 2 ∧ narrow .char (.int r) = .int r)) (fun (u : Unit) t => Wd dC dI [] (va_A [] sz) [] t) (va_A [] sz))  0 0 (va_A [] sz) := by
  refine Met.ofW (cc := cJ0_charAt_5068e) (maxL := 2) (ret := (some .char)) (by decide) rfl ?_
  intro p e s m args below meth c s₁ B hml hv
  obtain ⟨rfl, hsz, hC, hP, hK, hD0⟩ := hv
  have hx := B.exec
  have hb := B.bytes
  have hr := B.returns
  have hts := atoms_spec (ws := w_zk_J0_charAt_5068e_1) B.pre
  have hown : s.vm.findClass RJ0 = some m.cls := findClass_of_methodNamed B.named
  have hlocks := B.notSynchronized
  subst hsz
  have hD := hD0.self (sz := s.heap.size)
  generalize hAe : va_A [] s.heap.size = A at hD hC ⊢
  have hA : ∀ q : Nat, s.heap.size ≤ q → A q := fun q h => by rw [← hAe]; exact Or.inr h
  have hS : va_S A s.heap s.heap [] := va_S.rf
  have hl := lv_entry ([.ref (adK 1), .int Va0]) (n := 2) (Nat.le_of_ble_eq_true rfl)
  rw [lg_entry_eq]
  generalize (lg_sl ([.ref (adK 1), .int Va0]) ++ List.replicate (2 - (lg_sl ([.ref (adK 1), .int Va0])).length) Slot.unset).toArray = ls at hl ⊢
  have hl : lv_has ls 2 [(0, .ref (adK 1)), (1, .int Va0)] := hl
  refine lv_aload_n hx hb dJ0_charAt_5068e_0 rfl (lv_at hl 0 rfl) ?_
  have hPc := hP.sub (ws' := []) [] rfl
  have hDc := hD.sub (ws' := []) [] (by decide) rfl
  have hKc := hK.sub (tys' := []) [] rfl
  have hFc := va_free (wc := []) hD hS hA [] rfl
  refine va_calli (va_runV (As := []) (rest := []) ⟨hx, hb, hml, hown, hts⟩ (zk_J0_isLatin1_aae02_1 l dC dI s.heap.size adK adV   ) (cwV 0 hts g_zk_J0_charAt_5068e_1_zk_J0_isLatin1_aae02_1_492 rfl rfl rfl (by decide +kernel) ⟨Nat.le_of_ble_eq_true rfl, Nat.le_of_ble_eq_true rfl⟩) ⟨fun a U g mk q => by obtain ⟨q0, q1, qC, qP, qK, qD⟩ := q; exact ⟨q0, q1, Kc_call qC, qP, va_K.moved (u := U) (U := U.calling g mk a) (Vm.Alike.refl U.vm) qK, qD⟩, vk_recv hC.1 (i := 1) (by decide) hS, fun U hU hW => ⟨rfl, by rw [hU], Kc_go hC hS hFc hU hW, by rw [hU]; exact hPc, va_K.moved hW.alike hKc, hDc.weaken (fun _ _ _ _ => trivial)⟩⟩ rfl rfl hl.1 rfl (lv_room (Nat.le_of_ble_eq_true rfl)) dJ0_charAt_5068e_1 ⟨Nat.le_of_ble_eq_true rfl, Nat.le_of_ble_eq_true rfl⟩) hS (fun q _ h => hFc q h) hFc (fun r1686 u t H1 locs ht hvm hw hB hz1 hk1 hS => ?_)
  obtain ⟨hP1, hK1, hD1⟩ := hB
  rw [ht] at hP1
  try dsimp only at hw
  obtain ⟨hP, hD⟩ := va_join (wr := []) (w1 := []) hP hD [] [] rfl rfl (by decide) (by decide) hk1 hFc hP1 hD1
  have hK := hK.sub (tys' := []) [] rfl
  generalize H1 = H at hP hS ⊢
  have hP : va_P (dC, dI) vwCl [] H := hP
  have hD : va_D A [] := hD
  have er1687 := hw
  subst er1687
  refine lv_if_eq (tgt := 16) hx hb dJ0_charAt_5068e_4 (by decide) (fun c1688 => absurd c1688 (by decide)) (fun c1688 => ?_)
  refine lv_aload_n hx hb dJ0_charAt_5068e_7 rfl (lv_at hl 0 rfl) ?_
  refine vk_getf (v := .ref (adV 1)) hx hb (hC.1.1 1 (by decide)).2.2.1 hS hown (hts (.fieldLink RJ0 9 "java/lang/String" "value" "[B") (by decide +kernel)) (fun _ h9 => h9) dJ0_charAt_5068e_8 ?_
  refine lv_iload_n hx hb dJ0_charAt_5068e_11 rfl (lv_at hl 1 rfl) ?_
  have hPc := hP.sub (ws' := []) [] rfl
  have hDc := hD.sub (ws' := []) [] (by decide) rfl
  have hKc := hK.sub (tys' := []) [] rfl
  have hFc := va_free (wc := []) hD hS hA [] rfl
  refine va_calli (va_runS (As := [.ref (adV 1), .int Va0]) (rest := []) ⟨hx, hb, hml, hown, hts⟩ (zk_J1_charAt_3b067_1 l dC dI H.size adK adV Va0  (by (try simp only [i_lt, i_le, i_eq] at gv_Va0); omega)) (va_cwS 2 hts g_zk_J0_charAt_5068e_1_zk_J1_charAt_3b067_1_495 rfl rfl rfl (by decide +kernel) ⟨Nat.le_of_ble_eq_true rfl, Nat.le_of_ble_eq_true rfl⟩) ⟨fun a U g mk q => by obtain ⟨q0, q1, qC, qP, qK, qD⟩ := q; exact ⟨q0, q1, Kc_call qC, qP, va_K.moved (u := U) (U := U.calling g mk a) (Vm.Alike.refl U.vm) qK, qD⟩, fun U hU hW => ⟨rfl, by rw [hU], Kc_go hC hS hFc hU hW, by rw [hU]; exact hPc, va_K.moved hW.alike hKc, hDc.weaken (fun _ _ _ _ => trivial)⟩⟩ rfl rfl hl.1 rfl (lv_room (Nat.le_of_ble_eq_true rfl)) dJ0_charAt_5068e_12 ⟨Nat.le_of_ble_eq_true rfl, Nat.le_of_ble_eq_true rfl⟩) hS (fun q _ h => hFc q h) hFc (fun r1716 u t H1 locs ht hvm hw hB hz1 hk1 hS => ?_)
  obtain ⟨hP1, hK1, hD1⟩ := hB
  rw [ht] at hP1
  try dsimp only at hw
  obtain ⟨hP, hD⟩ := va_join (wr := []) (w1 := []) hP hD [] [] rfl rfl (by decide) (by decide) hk1 hFc hP1 hD1
  have hK := hK.sub (tys' := []) [] rfl
  generalize H1 = H at hP hS ⊢
  have hP : va_P (dC, dI) vwCl [] H := hP
  have hD : va_D A [] := hD
  obtain ⟨c1717, c1718, nc1719⟩ := hw
  have hP9 := hP.sub (ws' := []) [] rfl
  have hD9 := hD.sub (ws' := []) [] (by decide) rfl
  have hK9 := hK.sub (tys' := []) [] rfl
  exact W.zret (v := r1716) hx hb hr (nc1719) (fun t ht hW => ⟨⟨r1716, (), rfl, ⟨c1717, c1718, (nc1719)⟩, by rw [ht]; exact hP9, va_K.moved hW.alike hK9, hD9⟩, hS.F ht⟩) hS.2.2 dJ0_charAt_5068e_15

def l_zk_X9_codeOf : List Cond := [.methodLink RX9 33 yJ0_length_8abf5, .instanceMethod yJ0_length_8abf5, .selects RJ0 yJ0_length_8abf5 yJ0_length_8abf5, .initialized RJ0, .constantLong RX9 43 (64), .methodLink RX9 39 yJ0_charAt_5068e, .instanceMethod yJ0_charAt_5068e, .selects RJ0 yJ0_charAt_5068e yJ0_charAt_5068e, .methodLink RX9 45 yX9_symbolOf, .static yX9_symbolOf, .initialized RX9, .code yJ0_length_8abf5 cJ0_length_8abf5 1 (some .int), .fieldLink RJ0 9 "java/lang/String" "value" "[B", .methodLink RJ0 335 yJ0_coder_7d493, .instanceMethod yJ0_coder_7d493, .selects RJ0 yJ0_coder_7d493 yJ0_coder_7d493, .code yJ0_coder_7d493 cJ0_coder_7d493 1 (some .byte), .fieldLink RJ0 38 "java/lang/String" "COMPACT_STRINGS" "Z", .fieldLink RJ0 15 "java/lang/String" "coder" "B", .code yJ0_charAt_5068e cJ0_charAt_5068e 2 (some .char), .methodLink RJ0 492 yJ0_isLatin1_aae02, .instanceMethod yJ0_isLatin1_aae02, .selects RJ0 yJ0_isLatin1_aae02 yJ0_isLatin1_aae02, .methodLink RJ0 495 yJ1_charAt_3b067, .static yJ1_charAt_3b067, .initialized RJ1, .code yJ0_isLatin1_aae02 cJ0_isLatin1_aae02 1 (some .boolean), .code yJ1_charAt_3b067 cJ1_charAt_3b067 2 (some .char), .methodLink RJ1 9 yJ0_checkIndex_df160, .static yJ0_checkIndex_df160, .code yJ0_checkIndex_df160 cJ0_checkIndex_df160 2 none, .fieldLink RJ0 1053 "jdk/internal/util/Preconditions" "SIOOBE_FORMATTER" "Ljava/util/function/BiFunction;", .methodLink RJ0 1059 yJ3_checkIndex_8e157, .static yJ3_checkIndex_8e157, .initialized RJ3, .code yJ3_checkIndex_8e157 cJ3_checkIndex_8e157 3 (some .int), .code yX9_symbolOf cX9_symbolOf 1 (some .int), .methodLink RX9 65 yX9_isDigit, .static yX9_isDigit, .code yX9_isDigit cX9_isDigit 1 (some .boolean)]
def w_zk_X9_codeOf : List Cond := .code yX9_codeOf cX9_codeOf 4 (some .long) :: (l_zk_X9_codeOf)
theorem g_zk_X9_codeOf_zk_J0_length_8abf5_1_33 : GoodIn w_zk_X9_codeOf (wsV RX9 33 RJ0 yJ0_length_8abf5 w_zk_J0_length_8abf5_1) := goodIn_app (goodIn_sub (by decide +kernel) (by decide +kernel)) (goodIn_sub (by decide +kernel) (by decide +kernel))
theorem g_zk_X9_codeOf_zk_J0_charAt_5068e_1_39 : GoodIn w_zk_X9_codeOf (wsV RX9 39 RJ0 yJ0_charAt_5068e w_zk_J0_charAt_5068e_1) := goodIn_app (goodIn_sub (by decide +kernel) (by decide +kernel)) (goodIn_sub (by decide +kernel) (by decide +kernel))
theorem g_zk_X9_codeOf_zk_X9_symbolOf_45 : GoodIn w_zk_X9_codeOf (wsS RX9 45 yX9_symbolOf w_zk_X9_symbolOf) := goodIn_app (goodIn_sub (by decide +kernel) (by decide +kernel)) (goodIn_sub (by decide +kernel) (by decide +kernel))
set_option maxHeartbeats 4000000 in
set_option maxRecDepth 100000 in
theorem zk_X9_codeOf (l : Launch) (dC : Nat → ClassId) (dI : Nat → Nat → Nat) (sz : Nat) (adK adV : Nat → Nat)    : Met l yX9_codeOf w_zk_X9_codeOf ({ frames := 4, cells := 0, slots := 0, locals := 85 }) (va_Pc [.ref (adK 1)] (fun U => U.heap.size = sz ∧ Kc adK adV (va_A [] sz) U ∧ Wd dC dI [] (fun _ => True) [] U)) (va_Ql (fun (r : Int64) (u : Unit) => True) (fun (u : Unit) t => Wd dC dI [] (va_A [] sz) [] t) (va_A [] sz))  0 0 (va_A [] sz) := by
  refine Met.ofW (cc := cX9_codeOf) (maxL := 4) (ret := (some .long)) (by decide) rfl ?_
  intro p e s m args below meth c s₁ B hml hv
  obtain ⟨rfl, hsz, hC, hP, hK, hD0⟩ := hv
  have hx := B.exec
  have hb := B.bytes
  have hr := B.returns
  have hts := atoms_spec (ws := w_zk_X9_codeOf) B.pre
  have hown : s.vm.findClass RX9 = some m.cls := findClass_of_methodNamed B.named
  have hlocks := B.notSynchronized
  subst hsz
  have hD := hD0.self (sz := s.heap.size)
  generalize hAe : va_A [] s.heap.size = A at hD hC ⊢
  have hA : ∀ q : Nat, s.heap.size ≤ q → A q := fun q h => by rw [← hAe]; exact Or.inr h
  have hS : va_S A s.heap s.heap [] := va_S.rf
  have hl := lv_entry ([.ref (adK 1)]) (n := 4) (Nat.le_of_ble_eq_true rfl)
  rw [lg_entry_eq]
  generalize (lg_sl ([.ref (adK 1)]) ++ List.replicate (4 - (lg_sl ([.ref (adK 1)])).length) Slot.unset).toArray = ls at hl ⊢
  have hl : lv_has ls 4 [(0, .ref (adK 1))] := hl
  refine lv_lconst (v := 0) hx hb dX9_codeOf_0 (by decide) ?_
  refine lv_lstore_n (lv' := [(1, .long 0), (0, .ref (adK 1))]) hx hb dX9_codeOf_1 rfl hl (by decide) rfl (fun ls hl => ?_)
  refine lv_iconst (v := 0) hx hb dX9_codeOf_2 (by decide) ?_
  refine lv_istore_n (lv' := [(3, .int 0), (1, .long 0), (0, .ref (adK 1))]) hx hb dX9_codeOf_3 rfl hl (by decide) rfl (fun ls hl => ?_)
  have HL1 : ∀ (n j2509 : Nat) (x2510 : Int32) (y2511 : Int64), x2510 = nI j2509 → 0 ≤ j2509 → j2509 ≤ 4 → 5 ≤ j2509 + n → ∀ (H : Heap) (locs : List Loc) (ls : Array Slot), va_P (dC, dI) vwCl [] H → va_D A [] → va_S A s.heap H locs → lv_has ls 4 [(3, .int x2510), (1, .long y2511), (0, .ref (adK 1))] → W p l e (headSpec w_zk_X9_codeOf ({ frames := 4, cells := 0, slots := 0, locals := 85 })).room s m ([.ref (adK 1)]).toArray below meth c H locs 0 0 (MQ below (va_Ql (fun (r : Int64) (u : Unit) => True) (fun (u : Unit) t => Wd dC dI [] A [] t) A) ([.ref (adK 1)]).toArray s 0 0 A) (F0 m 4 ls []) := by
    intro n
    induction n with
    | zero =>
      intro j2509 x2510 y2511 e2512 h2514 h2515 h2516
      exact absurd h2516 (by omega)
    | succ n ih =>
      intro j2509 x2510 y2511 e2512 h2514 h2515 h2516 H locs ls hP hD hS hl
      have t2513 : x2510.toInt = (j2509 : Int) := by rw [e2512]; exact nI_toInt (by omega)
      refine lv_iload_n hx hb dX9_codeOf_4 rfl (lv_at hl 0 rfl) ?_
      refine lv_aload_n hx hb dX9_codeOf_5 rfl (lv_at hl 2 rfl) ?_
      have hPc := hP.sub (ws' := []) [] rfl
      have hDc := hD.sub (ws' := []) [] (by decide) rfl
      have hKc := hK.sub (tys' := []) [] rfl
      have hFc := va_free (wc := []) hD hS hA [] rfl
      refine va_calli (va_runV (As := []) (rest := [.int x2510]) ⟨hx, hb, hml, hown, hts⟩ (zk_J0_length_8abf5_1 l dC dI H.size adK adV   ) (cwV 0 hts g_zk_X9_codeOf_zk_J0_length_8abf5_1_33 rfl rfl rfl (by decide +kernel) ⟨Nat.le_of_ble_eq_true rfl, Nat.le_of_ble_eq_true rfl⟩) ⟨fun a U g mk q => by obtain ⟨q0, q1, qC, qP, qK, qD⟩ := q; exact ⟨q0, q1, Kc_call qC, qP, va_K.moved (u := U) (U := U.calling g mk a) (Vm.Alike.refl U.vm) qK, qD⟩, vk_recv hC.1 (i := 1) (by decide) hS, fun U hU hW => ⟨rfl, by rw [hU], Kc_go hC hS hFc hU hW, by rw [hU]; exact hPc, va_K.moved hW.alike hKc, hDc.weaken (fun _ _ _ _ => trivial)⟩⟩ rfl rfl hl.1 rfl (lv_room (Nat.le_of_ble_eq_true rfl)) dX9_codeOf_6 ⟨Nat.le_of_ble_eq_true rfl, Nat.le_of_ble_eq_true rfl⟩) hS (fun q _ h => hFc q h) hFc (fun r2521 u t H1 locs ht hvm hw hB hz1 hk1 hS => ?_)
      obtain ⟨hP1, hK1, hD1⟩ := hB
      rw [ht] at hP1
      try dsimp only at hw
      obtain ⟨hP, hD⟩ := va_join (wr := []) (w1 := []) hP hD [] [] rfl rfl (by decide) (by decide) hk1 hFc hP1 hD1
      have hK := hK.sub (tys' := []) [] rfl
      generalize H1 = H at hP hS ⊢
      have hP : va_P (dC, dI) vwCl [] H := hP
      have hD : va_D A [] := hD
      have er2522 := hw
      subst er2522
      refine lv_icmp_ge (tgt := 34) hx hb dX9_codeOf_9 (by decide) (fun c2523 => ?_) (fun c2523 => ?_)
      · skip
        refine lv_lload_n hx hb dX9_codeOf_34 rfl (lv_at hl 1 rfl) ?_
        have hP9 := hP.sub (ws' := []) [] rfl
        have hD9 := hD.sub (ws' := []) [] (by decide) rfl
        have hK9 := hK.sub (tys' := []) [] rfl
        exact W.lret (v := y2511) hx hb hr (fun t ht hW => ⟨⟨y2511, (), rfl, trivial, by rw [ht]; exact hP9, va_K.moved hW.alike hK9, hD9⟩, hS.F ht⟩) hS.2.2 dX9_codeOf_35
      · skip
        refine lv_lload_n hx hb dX9_codeOf_12 rfl (lv_at hl 1 rfl) ?_
        refine lv_ldc2 (v := 64) hx hb hown (hts (.constantLong RX9 43 (64)) (by decide +kernel)) dX9_codeOf_13 ?_
        refine lv_lmul hx hb dX9_codeOf_16  ?_
        refine lv_topl (fun x2524 ex2524 => ?_)
        refine lv_aload_n hx hb dX9_codeOf_17 rfl (lv_at hl 2 rfl) ?_
        refine lv_iload_n hx hb dX9_codeOf_18 rfl (lv_at hl 0 rfl) ?_
        have hPc := hP.sub (ws' := []) [] rfl
        have hDc := hD.sub (ws' := []) [] (by decide) rfl
        have hKc := hK.sub (tys' := []) [] rfl
        have hFc := va_free (wc := []) hD hS hA [] rfl
        refine va_calli (va_runV (As := [.int x2510]) (rest := [.long x2524]) ⟨hx, hb, hml, hown, hts⟩ (zk_J0_charAt_5068e_1 l dC dI H.size adK adV x2510  (by (try simp only [i_lt, i_le, i_eq, kc_2] at t2513 h2515 h2514 c2523); omega)) (cwV 1 hts g_zk_X9_codeOf_zk_J0_charAt_5068e_1_39 rfl rfl rfl (by decide +kernel) ⟨Nat.le_of_ble_eq_true rfl, Nat.le_of_ble_eq_true rfl⟩) ⟨fun a U g mk q => by obtain ⟨q0, q1, qC, qP, qK, qD⟩ := q; exact ⟨q0, q1, Kc_call qC, qP, va_K.moved (u := U) (U := U.calling g mk a) (Vm.Alike.refl U.vm) qK, qD⟩, vk_recv hC.1 (i := 1) (by decide) hS, fun U hU hW => ⟨rfl, by rw [hU], Kc_go hC hS hFc hU hW, by rw [hU]; exact hPc, va_K.moved hW.alike hKc, hDc.weaken (fun _ _ _ _ => trivial)⟩⟩ rfl rfl hl.1 rfl (lv_room (Nat.le_of_ble_eq_true rfl)) dX9_codeOf_19 ⟨Nat.le_of_ble_eq_true rfl, Nat.le_of_ble_eq_true rfl⟩) hS (fun q _ h => hFc q h) hFc (fun r2569 u t H1 locs ht hvm hw hB hz1 hk1 hS => ?_)
        obtain ⟨hP1, hK1, hD1⟩ := hB
        rw [ht] at hP1
        try dsimp only at hw
        obtain ⟨hP, hD⟩ := va_join (wr := []) (w1 := []) hP hD [] [] rfl rfl (by decide) (by decide) hk1 hFc hP1 hD1
        have hK := hK.sub (tys' := []) [] rfl
        generalize H1 = H at hP hS ⊢
        have hP : va_P (dC, dI) vwCl [] H := hP
        have hD : va_D A [] := hD
        obtain ⟨c2570, c2571, nc2572⟩ := hw
        have hPc := hP.sub (ws' := []) [] rfl
        have hDc := hD.sub (ws' := []) [] (by decide) rfl
        have hKc := hK.sub (tys' := []) [] rfl
        have hFc := va_free (wc := []) hD hS hA [] rfl
        refine va_calli (va_runS (As := [.int r2569]) (rest := [.long x2524]) ⟨hx, hb, hml, hown, hts⟩ (zk_X9_symbolOf l dC dI H.size r2569  ) (cwS 1 hts g_zk_X9_codeOf_zk_X9_symbolOf_45 rfl rfl rfl (by decide +kernel) ⟨Nat.le_of_ble_eq_true rfl, Nat.le_of_ble_eq_true rfl⟩) ⟨fun a U g mk q => by obtain ⟨q0, q1, qP, qK, qD⟩ := q; exact ⟨q0, q1, qP, va_K.moved (u := U) (U := U.calling g mk a) (Vm.Alike.refl U.vm) qK, qD⟩, fun U hU hW => ⟨rfl, by rw [hU], by rw [hU]; exact hPc, va_K.moved hW.alike hKc, hDc.weaken (fun _ _ _ _ => trivial)⟩⟩ rfl rfl hl.1 rfl (lv_room (Nat.le_of_ble_eq_true rfl)) dX9_codeOf_22 ⟨Nat.le_of_ble_eq_true rfl, Nat.le_of_ble_eq_true rfl⟩) hS (fun q _ h => hFc q h) hFc (fun r2622 u t H1 locs ht hvm hw hB hz1 hk1 hS => ?_)
        obtain ⟨hP1, hK1, hD1⟩ := hB
        rw [ht] at hP1
        try dsimp only at hw
        obtain ⟨hP, hD⟩ := va_join (wr := []) (w1 := []) hP hD [] [] rfl rfl (by decide) (by decide) hk1 hFc hP1 hD1
        have hK := hK.sub (tys' := []) [] rfl
        generalize H1 = H at hP hS ⊢
        have hP : va_P (dC, dI) vwCl [] H := hP
        have hD : va_D A [] := hD
        rcases hw with ⟨c2623, c2624, c2625, er2626⟩ | ⟨c2627, c2628, c2629, c2630, er2631⟩ | ⟨c2632, c2633, c2634, c2635, er2636⟩ | ⟨c2637, c2638, c2639, c2640, c2641, er2642⟩ | ⟨c2643, c2644, c2645, c2646, c2647, c2648, er2649⟩ | ⟨c2650, c2651, c2652, c2653, er2654⟩ | ⟨c2655, c2656, er2657⟩
        · skip
          subst er2626
          refine lv_i2l hx hb dX9_codeOf_25 rfl ?_
          refine lv_topl (fun x2658 ex2658 => ?_)
          obtain rfl : x2658 = 0 := ex2658.trans (by decide)
          refine lv_ladd hx hb dX9_codeOf_26  ?_
          refine lv_topl (fun x2659 ex2659 => ?_)
          refine lv_lstore_n (lv' := [(1, .long x2659), (3, .int x2510), (0, .ref (adK 1))]) hx hb dX9_codeOf_27 rfl hl (by decide) rfl (fun ls hl => ?_)
          obtain ⟨x2660, ex2660⟩ : ∃ y : Int32, y = x2510 + 1 := ⟨_, rfl⟩
          refine lv_iinc (v := x2660) (lv' := [(3, .int x2660), (1, .long x2659), (0, .ref (adK 1))]) hx hb dX9_codeOf_28 hl (k := 1) rfl (by rw [ex2660]; rfl) (by decide) rfl (fun ls hl => ?_)
          have tx2660 : x2660.toInt = x2510.toInt + (1 : Int32).toInt := by rw [ex2660]; exact i_add (by have bd_x2510 := i_bd x2510; (try simp only [i_lt, i_le, i_eq, kc_2, kc_0, kc_1] at t2513 h2515 h2514 c2523 c2570 c2571 ⊢); omega) (by have bd_x2510 := i_bd x2510; (try simp only [i_lt, i_le, i_eq, kc_2, kc_0, kc_1] at t2513 h2515 h2514 c2523 c2570 c2571 ⊢); omega)
          refine lv_goto (tgt := 4) hx hb dX9_codeOf_31 (by decide) ?_
          exact ih (j2509 + 1) x2660 x2659 (by rw [ex2660, e2512]; exact nI_1 _) (by omega) (by (try simp only [i_lt, i_le, i_eq, kc_2, kc_0, kc_1] at t2513 h2515 h2514 c2523 c2570 c2571 tx2660); omega) (by omega)  _ _ _ (hP.sub [] rfl) (hD.sub [] (by decide) rfl) hS  (lv_sub hl [0, 1, 2] rfl)
        · skip
          subst er2631
          refine lv_i2l hx hb dX9_codeOf_25 rfl ?_
          refine lv_topl (fun x2661 ex2661 => ?_)
          obtain rfl : x2661 = 0 := ex2661.trans (by decide)
          refine lv_ladd hx hb dX9_codeOf_26  ?_
          refine lv_topl (fun x2662 ex2662 => ?_)
          refine lv_lstore_n (lv' := [(1, .long x2662), (3, .int x2510), (0, .ref (adK 1))]) hx hb dX9_codeOf_27 rfl hl (by decide) rfl (fun ls hl => ?_)
          obtain ⟨x2663, ex2663⟩ : ∃ y : Int32, y = x2510 + 1 := ⟨_, rfl⟩
          refine lv_iinc (v := x2663) (lv' := [(3, .int x2663), (1, .long x2662), (0, .ref (adK 1))]) hx hb dX9_codeOf_28 hl (k := 1) rfl (by rw [ex2663]; rfl) (by decide) rfl (fun ls hl => ?_)
          have tx2663 : x2663.toInt = x2510.toInt + (1 : Int32).toInt := by rw [ex2663]; exact i_add (by have bd_x2510 := i_bd x2510; (try simp only [i_lt, i_le, i_eq, kc_2, kc_0, kc_1] at t2513 h2515 h2514 c2523 c2570 c2571 ⊢); omega) (by have bd_x2510 := i_bd x2510; (try simp only [i_lt, i_le, i_eq, kc_2, kc_0, kc_1] at t2513 h2515 h2514 c2523 c2570 c2571 ⊢); omega)
          refine lv_goto (tgt := 4) hx hb dX9_codeOf_31 (by decide) ?_
          exact ih (j2509 + 1) x2663 x2662 (by rw [ex2663, e2512]; exact nI_1 _) (by omega) (by (try simp only [i_lt, i_le, i_eq, kc_2, kc_0, kc_1] at t2513 h2515 h2514 c2523 c2570 c2571 tx2663); omega) (by omega)  _ _ _ (hP.sub [] rfl) (hD.sub [] (by decide) rfl) hS  (lv_sub hl [0, 1, 2] rfl)
        · skip
          have er2622 := er2636
          refine lv_i2l hx hb dX9_codeOf_25 rfl ?_
          refine lv_topl (fun x2664 ex2664 => ?_)
          refine lv_ladd hx hb dX9_codeOf_26  ?_
          refine lv_topl (fun x2665 ex2665 => ?_)
          refine lv_lstore_n (lv' := [(1, .long x2665), (3, .int x2510), (0, .ref (adK 1))]) hx hb dX9_codeOf_27 rfl hl (by decide) rfl (fun ls hl => ?_)
          obtain ⟨x2666, ex2666⟩ : ∃ y : Int32, y = x2510 + 1 := ⟨_, rfl⟩
          refine lv_iinc (v := x2666) (lv' := [(3, .int x2666), (1, .long x2665), (0, .ref (adK 1))]) hx hb dX9_codeOf_28 hl (k := 1) rfl (by rw [ex2666]; rfl) (by decide) rfl (fun ls hl => ?_)
          have tx2666 : x2666.toInt = x2510.toInt + (1 : Int32).toInt := by rw [ex2666]; exact i_add (by have bd_x2510 := i_bd x2510; (try simp only [i_lt, i_le, i_eq, kc_2, kc_0, kc_1] at t2513 h2515 h2514 c2523 c2570 c2571 ⊢); omega) (by have bd_x2510 := i_bd x2510; (try simp only [i_lt, i_le, i_eq, kc_2, kc_0, kc_1] at t2513 h2515 h2514 c2523 c2570 c2571 ⊢); omega)
          refine lv_goto (tgt := 4) hx hb dX9_codeOf_31 (by decide) ?_
          exact ih (j2509 + 1) x2666 x2665 (by rw [ex2666, e2512]; exact nI_1 _) (by omega) (by (try simp only [i_lt, i_le, i_eq, kc_2, kc_0, kc_1] at t2513 h2515 h2514 c2523 c2570 c2571 tx2666); omega) (by omega)  _ _ _ (hP.sub [] rfl) (hD.sub [] (by decide) rfl) hS  (lv_sub hl [0, 1, 2] rfl)
        · skip
          subst er2642
          refine lv_i2l hx hb dX9_codeOf_25 rfl ?_
          refine lv_topl (fun x2667 ex2667 => ?_)
          obtain rfl : x2667 = 0 := ex2667.trans (by decide)
          refine lv_ladd hx hb dX9_codeOf_26  ?_
          refine lv_topl (fun x2668 ex2668 => ?_)
          refine lv_lstore_n (lv' := [(1, .long x2668), (3, .int x2510), (0, .ref (adK 1))]) hx hb dX9_codeOf_27 rfl hl (by decide) rfl (fun ls hl => ?_)
          obtain ⟨x2669, ex2669⟩ : ∃ y : Int32, y = x2510 + 1 := ⟨_, rfl⟩
          refine lv_iinc (v := x2669) (lv' := [(3, .int x2669), (1, .long x2668), (0, .ref (adK 1))]) hx hb dX9_codeOf_28 hl (k := 1) rfl (by rw [ex2669]; rfl) (by decide) rfl (fun ls hl => ?_)
          have tx2669 : x2669.toInt = x2510.toInt + (1 : Int32).toInt := by rw [ex2669]; exact i_add (by have bd_x2510 := i_bd x2510; (try simp only [i_lt, i_le, i_eq, kc_2, kc_0, kc_1] at t2513 h2515 h2514 c2523 c2570 c2571 ⊢); omega) (by have bd_x2510 := i_bd x2510; (try simp only [i_lt, i_le, i_eq, kc_2, kc_0, kc_1] at t2513 h2515 h2514 c2523 c2570 c2571 ⊢); omega)
          refine lv_goto (tgt := 4) hx hb dX9_codeOf_31 (by decide) ?_
          exact ih (j2509 + 1) x2669 x2668 (by rw [ex2669, e2512]; exact nI_1 _) (by omega) (by (try simp only [i_lt, i_le, i_eq, kc_2, kc_0, kc_1] at t2513 h2515 h2514 c2523 c2570 c2571 tx2669); omega) (by omega)  _ _ _ (hP.sub [] rfl) (hD.sub [] (by decide) rfl) hS  (lv_sub hl [0, 1, 2] rfl)
        · skip
          subst er2649
          refine lv_i2l hx hb dX9_codeOf_25 rfl ?_
          refine lv_topl (fun x2670 ex2670 => ?_)
          obtain rfl : x2670 = 0 := ex2670.trans (by decide)
          refine lv_ladd hx hb dX9_codeOf_26  ?_
          refine lv_topl (fun x2671 ex2671 => ?_)
          refine lv_lstore_n (lv' := [(1, .long x2671), (3, .int x2510), (0, .ref (adK 1))]) hx hb dX9_codeOf_27 rfl hl (by decide) rfl (fun ls hl => ?_)
          obtain ⟨x2672, ex2672⟩ : ∃ y : Int32, y = x2510 + 1 := ⟨_, rfl⟩
          refine lv_iinc (v := x2672) (lv' := [(3, .int x2672), (1, .long x2671), (0, .ref (adK 1))]) hx hb dX9_codeOf_28 hl (k := 1) rfl (by rw [ex2672]; rfl) (by decide) rfl (fun ls hl => ?_)
          have tx2672 : x2672.toInt = x2510.toInt + (1 : Int32).toInt := by rw [ex2672]; exact i_add (by have bd_x2510 := i_bd x2510; (try simp only [i_lt, i_le, i_eq, kc_2, kc_0, kc_1] at t2513 h2515 h2514 c2523 c2570 c2571 ⊢); omega) (by have bd_x2510 := i_bd x2510; (try simp only [i_lt, i_le, i_eq, kc_2, kc_0, kc_1] at t2513 h2515 h2514 c2523 c2570 c2571 ⊢); omega)
          refine lv_goto (tgt := 4) hx hb dX9_codeOf_31 (by decide) ?_
          exact ih (j2509 + 1) x2672 x2671 (by rw [ex2672, e2512]; exact nI_1 _) (by omega) (by (try simp only [i_lt, i_le, i_eq, kc_2, kc_0, kc_1] at t2513 h2515 h2514 c2523 c2570 c2571 tx2672); omega) (by omega)  _ _ _ (hP.sub [] rfl) (hD.sub [] (by decide) rfl) hS  (lv_sub hl [0, 1, 2] rfl)
        · skip
          have er2622 := er2654
          refine lv_i2l hx hb dX9_codeOf_25 rfl ?_
          refine lv_topl (fun x2673 ex2673 => ?_)
          refine lv_ladd hx hb dX9_codeOf_26  ?_
          refine lv_topl (fun x2674 ex2674 => ?_)
          refine lv_lstore_n (lv' := [(1, .long x2674), (3, .int x2510), (0, .ref (adK 1))]) hx hb dX9_codeOf_27 rfl hl (by decide) rfl (fun ls hl => ?_)
          obtain ⟨x2675, ex2675⟩ : ∃ y : Int32, y = x2510 + 1 := ⟨_, rfl⟩
          refine lv_iinc (v := x2675) (lv' := [(3, .int x2675), (1, .long x2674), (0, .ref (adK 1))]) hx hb dX9_codeOf_28 hl (k := 1) rfl (by rw [ex2675]; rfl) (by decide) rfl (fun ls hl => ?_)
          have tx2675 : x2675.toInt = x2510.toInt + (1 : Int32).toInt := by rw [ex2675]; exact i_add (by have bd_x2510 := i_bd x2510; (try simp only [i_lt, i_le, i_eq, kc_2, kc_0, kc_1] at t2513 h2515 h2514 c2523 c2570 c2571 ⊢); omega) (by have bd_x2510 := i_bd x2510; (try simp only [i_lt, i_le, i_eq, kc_2, kc_0, kc_1] at t2513 h2515 h2514 c2523 c2570 c2571 ⊢); omega)
          refine lv_goto (tgt := 4) hx hb dX9_codeOf_31 (by decide) ?_
          exact ih (j2509 + 1) x2675 x2674 (by rw [ex2675, e2512]; exact nI_1 _) (by omega) (by (try simp only [i_lt, i_le, i_eq, kc_2, kc_0, kc_1] at t2513 h2515 h2514 c2523 c2570 c2571 tx2675); omega) (by omega)  _ _ _ (hP.sub [] rfl) (hD.sub [] (by decide) rfl) hS  (lv_sub hl [0, 1, 2] rfl)
        · skip
          have er2622 := er2657
          refine lv_i2l hx hb dX9_codeOf_25 rfl ?_
          refine lv_topl (fun x2676 ex2676 => ?_)
          refine lv_ladd hx hb dX9_codeOf_26  ?_
          refine lv_topl (fun x2677 ex2677 => ?_)
          refine lv_lstore_n (lv' := [(1, .long x2677), (3, .int x2510), (0, .ref (adK 1))]) hx hb dX9_codeOf_27 rfl hl (by decide) rfl (fun ls hl => ?_)
          obtain ⟨x2678, ex2678⟩ : ∃ y : Int32, y = x2510 + 1 := ⟨_, rfl⟩
          refine lv_iinc (v := x2678) (lv' := [(3, .int x2678), (1, .long x2677), (0, .ref (adK 1))]) hx hb dX9_codeOf_28 hl (k := 1) rfl (by rw [ex2678]; rfl) (by decide) rfl (fun ls hl => ?_)
          have tx2678 : x2678.toInt = x2510.toInt + (1 : Int32).toInt := by rw [ex2678]; exact i_add (by have bd_x2510 := i_bd x2510; (try simp only [i_lt, i_le, i_eq, kc_2, kc_0, kc_1] at t2513 h2515 h2514 c2523 c2570 c2571 ⊢); omega) (by have bd_x2510 := i_bd x2510; (try simp only [i_lt, i_le, i_eq, kc_2, kc_0, kc_1] at t2513 h2515 h2514 c2523 c2570 c2571 ⊢); omega)
          refine lv_goto (tgt := 4) hx hb dX9_codeOf_31 (by decide) ?_
          exact ih (j2509 + 1) x2678 x2677 (by rw [ex2678, e2512]; exact nI_1 _) (by omega) (by (try simp only [i_lt, i_le, i_eq, kc_2, kc_0, kc_1] at t2513 h2515 h2514 c2523 c2570 c2571 tx2678); omega) (by omega)  _ _ _ (hP.sub [] rfl) (hD.sub [] (by decide) rfl) hS  (lv_sub hl [0, 1, 2] rfl)
  exact HL1 5 0 (0) (0) (by decide) (by omega) (by omega) (by omega)  _ _ _ hP hD hS  hl

def l_zk_J0_coder_7d493_2 : List Cond := [.fieldLink RJ0 38 "java/lang/String" "COMPACT_STRINGS" "Z", .fieldLink RJ0 15 "java/lang/String" "coder" "B"]
def w_zk_J0_coder_7d493_2 : List Cond := .code yJ0_coder_7d493 cJ0_coder_7d493 1 (some .byte) :: (l_zk_J0_coder_7d493_2)
set_option maxHeartbeats 4000000 in
set_option maxRecDepth 100000 in
theorem zk_J0_coder_7d493_2 (l : Launch) (dC : Nat → ClassId) (dI : Nat → Nat → Nat) (sz : Nat) (adK adV : Nat → Nat)    : Met l yJ0_coder_7d493 w_zk_J0_coder_7d493_2 ({ frames := 0, cells := 0, slots := 0, locals := 0 }) (va_Pc [.ref (adK 2)] (fun U => U.heap.size = sz ∧ Kc adK adV (va_A [] sz) U ∧ Wd dC dI [] (fun _ => True) [] U)) (va_Qi (fun (r : Int32) (u : Unit) => r = 0) (fun (u : Unit) t => Wd dC dI [] (va_A [] sz) [] t) (va_A [] sz))  0 0 (va_A [] sz) := by
  refine Met.ofW (cc := cJ0_coder_7d493) (maxL := 1) (ret := (some .byte)) (by decide) rfl ?_
  intro p e s m args below meth c s₁ B hml hv
  obtain ⟨rfl, hsz, hC, hP, hK, hD0⟩ := hv
  have hx := B.exec
  have hb := B.bytes
  have hr := B.returns
  have hts := atoms_spec (ws := w_zk_J0_coder_7d493_2) B.pre
  have hown : s.vm.findClass RJ0 = some m.cls := findClass_of_methodNamed B.named
  have hlocks := B.notSynchronized
  subst hsz
  have hD := hD0.self (sz := s.heap.size)
  generalize hAe : va_A [] s.heap.size = A at hD hC ⊢
  have hA : ∀ q : Nat, s.heap.size ≤ q → A q := fun q h => by rw [← hAe]; exact Or.inr h
  have hS : va_S A s.heap s.heap [] := va_S.rf
  have hl := lv_entry ([.ref (adK 2)]) (n := 1) (Nat.le_of_ble_eq_true rfl)
  rw [lg_entry_eq]
  generalize (lg_sl ([.ref (adK 2)]) ++ List.replicate (1 - (lg_sl ([.ref (adK 2)])).length) Slot.unset).toArray = ls at hl ⊢
  have hl : lv_has ls 1 [(0, .ref (adK 2))] := hl
  refine va_gets (v := .int 1) hx hb hC.2.2.2.2.1 hS hown (hts (.fieldLink RJ0 38 "java/lang/String" "COMPACT_STRINGS" "Z") (by decide +kernel)) (fun _ h9 => h9) dJ0_coder_7d493_0 ?_
  refine lv_if_eq (tgt := 13) hx hb dJ0_coder_7d493_3 (by decide) (fun c2689 => absurd c2689 (by decide)) (fun c2689 => ?_)
  refine lv_aload_n hx hb dJ0_coder_7d493_6 rfl (lv_at hl 0 rfl) ?_
  refine vk_getf (v := .int 0) hx hb (hC.1.1 2 (by decide)).2.1 hS hown (hts (.fieldLink RJ0 15 "java/lang/String" "coder" "B") (by decide +kernel)) (fun _ h9 => h9) dJ0_coder_7d493_7 ?_
  refine lv_goto (tgt := 14) hx hb dJ0_coder_7d493_10 (by decide) ?_
  have hP9 := hP.sub (ws' := []) [] rfl
  have hD9 := hD.sub (ws' := []) [] (by decide) rfl
  have hK9 := hK.sub (tys' := []) [] rfl
  exact W.zret (v := 0) hx hb hr rfl (fun t ht hW => ⟨⟨0, (), rfl, rfl, by rw [ht]; exact hP9, va_K.moved hW.alike hK9, hD9⟩, hS.F ht⟩) hS.2.2 dJ0_coder_7d493_14

def l_zk_J0_length_8abf5_2 : List Cond := [.fieldLink RJ0 9 "java/lang/String" "value" "[B", .methodLink RJ0 335 yJ0_coder_7d493, .instanceMethod yJ0_coder_7d493, .selects RJ0 yJ0_coder_7d493 yJ0_coder_7d493, .initialized RJ0, .code yJ0_coder_7d493 cJ0_coder_7d493 1 (some .byte), .fieldLink RJ0 38 "java/lang/String" "COMPACT_STRINGS" "Z", .fieldLink RJ0 15 "java/lang/String" "coder" "B"]
def w_zk_J0_length_8abf5_2 : List Cond := .code yJ0_length_8abf5 cJ0_length_8abf5 1 (some .int) :: (l_zk_J0_length_8abf5_2)
theorem g_zk_J0_length_8abf5_2_zk_J0_coder_7d493_2_335 : GoodIn w_zk_J0_length_8abf5_2 (wsV RJ0 335 RJ0 yJ0_coder_7d493 w_zk_J0_coder_7d493_2) := goodIn_app (goodIn_sub (by decide +kernel) (by decide +kernel)) (goodIn_sub (by decide +kernel) (by decide +kernel))
set_option maxHeartbeats 4000000 in
set_option maxRecDepth 100000 in
theorem zk_J0_length_8abf5_2 (l : Launch) (dC : Nat → ClassId) (dI : Nat → Nat → Nat) (sz : Nat) (adK adV : Nat → Nat)    : Met l yJ0_length_8abf5 w_zk_J0_length_8abf5_2 ({ frames := 1, cells := 0, slots := 0, locals := 20 }) (va_Pc [.ref (adK 2)] (fun U => U.heap.size = sz ∧ Kc adK adV (va_A [] sz) U ∧ Wd dC dI [] (fun _ => True) [] U)) (va_Qi (fun (r : Int32) (u : Unit) => r = 4) (fun (u : Unit) t => Wd dC dI [] (va_A [] sz) [] t) (va_A [] sz))  0 0 (va_A [] sz) := by
  refine Met.ofW (cc := cJ0_length_8abf5) (maxL := 1) (ret := (some .int)) (by decide) rfl ?_
  intro p e s m args below meth c s₁ B hml hv
  obtain ⟨rfl, hsz, hC, hP, hK, hD0⟩ := hv
  have hx := B.exec
  have hb := B.bytes
  have hr := B.returns
  have hts := atoms_spec (ws := w_zk_J0_length_8abf5_2) B.pre
  have hown : s.vm.findClass RJ0 = some m.cls := findClass_of_methodNamed B.named
  have hlocks := B.notSynchronized
  subst hsz
  have hD := hD0.self (sz := s.heap.size)
  generalize hAe : va_A [] s.heap.size = A at hD hC ⊢
  have hA : ∀ q : Nat, s.heap.size ≤ q → A q := fun q h => by rw [← hAe]; exact Or.inr h
  have hS : va_S A s.heap s.heap [] := va_S.rf
  have hl := lv_entry ([.ref (adK 2)]) (n := 1) (Nat.le_of_ble_eq_true rfl)
  rw [lg_entry_eq]
  generalize (lg_sl ([.ref (adK 2)]) ++ List.replicate (1 - (lg_sl ([.ref (adK 2)])).length) Slot.unset).toArray = ls at hl ⊢
  have hl : lv_has ls 1 [(0, .ref (adK 2))] := hl
  refine lv_aload_n hx hb dJ0_length_8abf5_0 rfl (lv_at hl 0 rfl) ?_
  refine vk_getf (v := .ref (adV 2)) hx hb (hC.1.1 2 (by decide)).2.2.1 hS hown (hts (.fieldLink RJ0 9 "java/lang/String" "value" "[B") (by decide +kernel)) (fun _ h9 => h9) dJ0_length_8abf5_1 ?_
  refine va_tlen (v := 4) hx hb (hC.1.1 2 (by decide)).2.2.2 hS (by decide) dJ0_length_8abf5_4 ?_
  refine lv_aload_n hx hb dJ0_length_8abf5_5 rfl (lv_at hl 0 rfl) ?_
  have hPc := hP.sub (ws' := []) [] rfl
  have hDc := hD.sub (ws' := []) [] (by decide) rfl
  have hKc := hK.sub (tys' := []) [] rfl
  have hFc := va_free (wc := []) hD hS hA [] rfl
  refine va_calli (va_runV (As := []) (rest := [.int 4]) ⟨hx, hb, hml, hown, hts⟩ (zk_J0_coder_7d493_2 l dC dI s.heap.size adK adV   ) (cwV 0 hts g_zk_J0_length_8abf5_2_zk_J0_coder_7d493_2_335 rfl rfl rfl (by decide +kernel) ⟨Nat.le_of_ble_eq_true rfl, Nat.le_of_ble_eq_true rfl⟩) ⟨fun a U g mk q => by obtain ⟨q0, q1, qC, qP, qK, qD⟩ := q; exact ⟨q0, q1, Kc_call qC, qP, va_K.moved (u := U) (U := U.calling g mk a) (Vm.Alike.refl U.vm) qK, qD⟩, vk_recv hC.1 (i := 2) (by decide) hS, fun U hU hW => ⟨rfl, by rw [hU], Kc_go hC hS hFc hU hW, by rw [hU]; exact hPc, va_K.moved hW.alike hKc, hDc.weaken (fun _ _ _ _ => trivial)⟩⟩ rfl rfl hl.1 rfl (lv_room (Nat.le_of_ble_eq_true rfl)) dJ0_length_8abf5_6 ⟨Nat.le_of_ble_eq_true rfl, Nat.le_of_ble_eq_true rfl⟩) hS (fun q _ h => hFc q h) hFc (fun r2694 u t H1 locs ht hvm hw hB hz1 hk1 hS => ?_)
  obtain ⟨hP1, hK1, hD1⟩ := hB
  rw [ht] at hP1
  try dsimp only at hw
  obtain ⟨hP, hD⟩ := va_join (wr := []) (w1 := []) hP hD [] [] rfl rfl (by decide) (by decide) hk1 hFc hP1 hD1
  have hK := hK.sub (tys' := []) [] rfl
  generalize H1 = H at hP hS ⊢
  have hP : va_P (dC, dI) vwCl [] H := hP
  have hD : va_D A [] := hD
  have er2695 := hw
  subst er2695
  refine lv_ishr hx hb dJ0_length_8abf5_9  ?_
  refine lv_topi (fun x2696 ex2696 => ?_)
  obtain rfl : x2696 = 4 := ex2696.trans (by decide)
  have hP9 := hP.sub (ws' := []) [] rfl
  have hD9 := hD.sub (ws' := []) [] (by decide) rfl
  have hK9 := hK.sub (tys' := []) [] rfl
  exact W.iret (v := 4) hx hb hr (fun t ht hW => ⟨⟨4, (), rfl, rfl, by rw [ht]; exact hP9, va_K.moved hW.alike hK9, hD9⟩, hS.F ht⟩) hS.2.2 dJ0_length_8abf5_10

def l_zk_J0_isLatin1_aae02_2 : List Cond := [.fieldLink RJ0 38 "java/lang/String" "COMPACT_STRINGS" "Z", .fieldLink RJ0 15 "java/lang/String" "coder" "B"]
def w_zk_J0_isLatin1_aae02_2 : List Cond := .code yJ0_isLatin1_aae02 cJ0_isLatin1_aae02 1 (some .boolean) :: (l_zk_J0_isLatin1_aae02_2)
set_option maxHeartbeats 4000000 in
set_option maxRecDepth 100000 in
theorem zk_J0_isLatin1_aae02_2 (l : Launch) (dC : Nat → ClassId) (dI : Nat → Nat → Nat) (sz : Nat) (adK adV : Nat → Nat)    : Met l yJ0_isLatin1_aae02 w_zk_J0_isLatin1_aae02_2 ({ frames := 0, cells := 0, slots := 0, locals := 0 }) (va_Pc [.ref (adK 2)] (fun U => U.heap.size = sz ∧ Kc adK adV (va_A [] sz) U ∧ Wd dC dI [] (fun _ => True) [] U)) (va_Qi (fun (r : Int32) (u : Unit) => r = 1) (fun (u : Unit) t => Wd dC dI [] (va_A [] sz) [] t) (va_A [] sz))  0 0 (va_A [] sz) := by
  refine Met.ofW (cc := cJ0_isLatin1_aae02) (maxL := 1) (ret := (some .boolean)) (by decide) rfl ?_
  intro p e s m args below meth c s₁ B hml hv
  obtain ⟨rfl, hsz, hC, hP, hK, hD0⟩ := hv
  have hx := B.exec
  have hb := B.bytes
  have hr := B.returns
  have hts := atoms_spec (ws := w_zk_J0_isLatin1_aae02_2) B.pre
  have hown : s.vm.findClass RJ0 = some m.cls := findClass_of_methodNamed B.named
  have hlocks := B.notSynchronized
  subst hsz
  have hD := hD0.self (sz := s.heap.size)
  generalize hAe : va_A [] s.heap.size = A at hD hC ⊢
  have hA : ∀ q : Nat, s.heap.size ≤ q → A q := fun q h => by rw [← hAe]; exact Or.inr h
  have hS : va_S A s.heap s.heap [] := va_S.rf
  have hl := lv_entry ([.ref (adK 2)]) (n := 1) (Nat.le_of_ble_eq_true rfl)
  rw [lg_entry_eq]
  generalize (lg_sl ([.ref (adK 2)]) ++ List.replicate (1 - (lg_sl ([.ref (adK 2)])).length) Slot.unset).toArray = ls at hl ⊢
  have hl : lv_has ls 1 [(0, .ref (adK 2))] := hl
  refine va_gets (v := .int 1) hx hb hC.2.2.2.2.1 hS hown (hts (.fieldLink RJ0 38 "java/lang/String" "COMPACT_STRINGS" "Z") (by decide +kernel)) (fun _ h9 => h9) dJ0_isLatin1_aae02_0 ?_
  refine lv_if_eq (tgt := 17) hx hb dJ0_isLatin1_aae02_3 (by decide) (fun c2703 => absurd c2703 (by decide)) (fun c2703 => ?_)
  refine lv_aload_n hx hb dJ0_isLatin1_aae02_6 rfl (lv_at hl 0 rfl) ?_
  refine vk_getf (v := .int 0) hx hb (hC.1.1 2 (by decide)).2.1 hS hown (hts (.fieldLink RJ0 15 "java/lang/String" "coder" "B") (by decide +kernel)) (fun _ h9 => h9) dJ0_isLatin1_aae02_7 ?_
  refine lv_if_ne (tgt := 17) hx hb dJ0_isLatin1_aae02_10 (by decide) (fun c2704 => absurd c2704 (by decide)) (fun c2704 => ?_)
  refine lv_iconst (v := 1) hx hb dJ0_isLatin1_aae02_13 (by decide) ?_
  refine lv_goto (tgt := 18) hx hb dJ0_isLatin1_aae02_14 (by decide) ?_
  have hP9 := hP.sub (ws' := []) [] rfl
  have hD9 := hD.sub (ws' := []) [] (by decide) rfl
  have hK9 := hK.sub (tys' := []) [] rfl
  exact W.zret (v := 1) hx hb hr rfl (fun t ht hW => ⟨⟨1, (), rfl, rfl, by rw [ht]; exact hP9, va_K.moved hW.alike hK9, hD9⟩, hS.F ht⟩) hS.2.2 dJ0_isLatin1_aae02_18

def l_zk_J3_checkIndex_8e157_4 : List Cond := []
def w_zk_J3_checkIndex_8e157_4 : List Cond := .code yJ3_checkIndex_8e157 cJ3_checkIndex_8e157 3 (some .int) :: (l_zk_J3_checkIndex_8e157_4)
set_option maxHeartbeats 4000000 in
set_option maxRecDepth 100000 in
theorem zk_J3_checkIndex_8e157_4 (l : Launch) (dC : Nat → ClassId) (dI : Nat → Nat → Nat) (sz : Nat) (Va0 : Int32)  (gv_Va0 : (0 : Int) ≤ Va0.toInt ∧ Va0.toInt ≤ 3) : Met l yJ3_checkIndex_8e157 w_zk_J3_checkIndex_8e157_4 ({ frames := 0, cells := 0, slots := 0, locals := 0 }) (va_Pc [.int Va0, .int 4, .null] (fun U => U.heap.size = sz ∧ Wd dC dI [] (fun _ => True) [] U)) (va_Qi (fun (r : Int32) (u : Unit) => (¬ Va0 < 0 ∧ Va0 < 4 ∧ r = Va0)) (fun (u : Unit) t => Wd dC dI [] (va_A [] sz) [] t) (va_A [] sz))  0 0 (va_A [] sz) := by
  refine Met.ofW (cc := cJ3_checkIndex_8e157) (maxL := 3) (ret := (some .int)) (by decide) rfl ?_
  intro p e s m args below meth c s₁ B hml hv
  obtain ⟨rfl, hsz, hP, hK, hD0⟩ := hv
  have hx := B.exec
  have hb := B.bytes
  have hr := B.returns
  have hts := atoms_spec (ws := w_zk_J3_checkIndex_8e157_4) B.pre
  have hown : s.vm.findClass RJ3 = some m.cls := findClass_of_methodNamed B.named
  have hlocks := B.notSynchronized
  subst hsz
  have hD := hD0.self (sz := s.heap.size)
  generalize hAe : va_A [] s.heap.size = A at hD ⊢
  have hA : ∀ q : Nat, s.heap.size ≤ q → A q := fun q h => by rw [← hAe]; exact Or.inr h
  have hS : va_S A s.heap s.heap [] := va_S.rf
  have hl := lv_entry ([.int Va0, .int 4, .null]) (n := 3) (Nat.le_of_ble_eq_true rfl)
  rw [lg_entry_eq]
  generalize (lg_sl ([.int Va0, .int 4, .null]) ++ List.replicate (3 - (lg_sl ([.int Va0, .int 4, .null])).length) Slot.unset).toArray = ls at hl ⊢
  have hl : lv_has ls 3 [(0, .int Va0), (1, .int 4), (2, .null)] := hl
  refine lv_iload_n hx hb dJ3_checkIndex_8e157_0 rfl (lv_at hl 0 rfl) ?_
  refine lv_if_lt (tgt := 9) hx hb dJ3_checkIndex_8e157_1 (by decide) (fun c2727 => (by exfalso; have bd_Va0 := i_bd Va0; (try simp only [i_lt, i_le, i_eq, kc_0] at gv_Va0 c2727); omega)) (fun c2727 => ?_)
  refine lv_iload_n hx hb dJ3_checkIndex_8e157_4 rfl (lv_at hl 0 rfl) ?_
  refine lv_iload_n hx hb dJ3_checkIndex_8e157_5 rfl (lv_at hl 1 rfl) ?_
  refine lv_icmp_lt (tgt := 16) hx hb dJ3_checkIndex_8e157_6 (by decide) (fun c2728 => ?_) (fun c2728 => (by exfalso; have bd_Va0 := i_bd Va0; (try simp only [i_lt, i_le, i_eq, kc_0, kc_4] at gv_Va0 c2727 c2728); omega))
  refine lv_iload_n hx hb dJ3_checkIndex_8e157_16 rfl (lv_at hl 0 rfl) ?_
  have hP9 := hP.sub (ws' := []) [] rfl
  have hD9 := hD.sub (ws' := []) [] (by decide) rfl
  have hK9 := hK.sub (tys' := []) [] rfl
  exact W.iret (v := Va0) hx hb hr (fun t ht hW => ⟨⟨Va0, (), rfl, ⟨c2727, c2728, rfl⟩, by rw [ht]; exact hP9, va_K.moved hW.alike hK9, hD9⟩, hS.F ht⟩) hS.2.2 dJ3_checkIndex_8e157_17

def l_zk_J3_checkIndex_8e157_5 : List Cond := []
def w_zk_J3_checkIndex_8e157_5 : List Cond := .code yJ3_checkIndex_8e157 cJ3_checkIndex_8e157 3 (some .int) :: (l_zk_J3_checkIndex_8e157_5)
set_option maxHeartbeats 4000000 in
set_option maxRecDepth 100000 in
theorem zk_J3_checkIndex_8e157_5 (l : Launch) (dC : Nat → ClassId) (dI : Nat → Nat → Nat) (sz : Nat) (Va0 : Int32) (Br0 : Nat)  (gv_Va0 : (0 : Int) ≤ Va0.toInt ∧ Va0.toInt ≤ 3) : Met l yJ3_checkIndex_8e157 w_zk_J3_checkIndex_8e157_5 ({ frames := 0, cells := 0, slots := 0, locals := 0 }) (va_Pc [.int Va0, .int 4, .ref Br0] (fun U => U.heap.size = sz ∧ Wd dC dI [] (fun _ => True) [] U)) (va_Qi (fun (r : Int32) (u : Unit) => (¬ Va0 < 0 ∧ Va0 < 4 ∧ r = Va0)) (fun (u : Unit) t => Wd dC dI [] (va_A [] sz) [] t) (va_A [] sz))  0 0 (va_A [] sz) := by
  refine Met.ofW (cc := cJ3_checkIndex_8e157) (maxL := 3) (ret := (some .int)) (by decide) rfl ?_
  intro p e s m args below meth c s₁ B hml hv
  obtain ⟨rfl, hsz, hP, hK, hD0⟩ := hv
  have hx := B.exec
  have hb := B.bytes
  have hr := B.returns
  have hts := atoms_spec (ws := w_zk_J3_checkIndex_8e157_5) B.pre
  have hown : s.vm.findClass RJ3 = some m.cls := findClass_of_methodNamed B.named
  have hlocks := B.notSynchronized
  subst hsz
  have hD := hD0.self (sz := s.heap.size)
  generalize hAe : va_A [] s.heap.size = A at hD ⊢
  have hA : ∀ q : Nat, s.heap.size ≤ q → A q := fun q h => by rw [← hAe]; exact Or.inr h
  have hS : va_S A s.heap s.heap [] := va_S.rf
  have hl := lv_entry ([.int Va0, .int 4, .ref Br0]) (n := 3) (Nat.le_of_ble_eq_true rfl)
  rw [lg_entry_eq]
  generalize (lg_sl ([.int Va0, .int 4, .ref Br0]) ++ List.replicate (3 - (lg_sl ([.int Va0, .int 4, .ref Br0])).length) Slot.unset).toArray = ls at hl ⊢
  have hl : lv_has ls 3 [(0, .int Va0), (1, .int 4), (2, .ref Br0)] := hl
  refine lv_iload_n hx hb dJ3_checkIndex_8e157_0 rfl (lv_at hl 0 rfl) ?_
  refine lv_if_lt (tgt := 9) hx hb dJ3_checkIndex_8e157_1 (by decide) (fun c2736 => (by exfalso; have bd_Va0 := i_bd Va0; (try simp only [i_lt, i_le, i_eq, kc_0] at gv_Va0 c2736); omega)) (fun c2736 => ?_)
  refine lv_iload_n hx hb dJ3_checkIndex_8e157_4 rfl (lv_at hl 0 rfl) ?_
  refine lv_iload_n hx hb dJ3_checkIndex_8e157_5 rfl (lv_at hl 1 rfl) ?_
  refine lv_icmp_lt (tgt := 16) hx hb dJ3_checkIndex_8e157_6 (by decide) (fun c2737 => ?_) (fun c2737 => (by exfalso; have bd_Va0 := i_bd Va0; (try simp only [i_lt, i_le, i_eq, kc_0, kc_4] at gv_Va0 c2736 c2737); omega))
  refine lv_iload_n hx hb dJ3_checkIndex_8e157_16 rfl (lv_at hl 0 rfl) ?_
  have hP9 := hP.sub (ws' := []) [] rfl
  have hD9 := hD.sub (ws' := []) [] (by decide) rfl
  have hK9 := hK.sub (tys' := []) [] rfl
  exact W.iret (v := Va0) hx hb hr (fun t ht hW => ⟨⟨Va0, (), rfl, ⟨c2736, c2737, rfl⟩, by rw [ht]; exact hP9, va_K.moved hW.alike hK9, hD9⟩, hS.F ht⟩) hS.2.2 dJ3_checkIndex_8e157_17

def l_zk_J0_checkIndex_df160_2 : List Cond := [.fieldLink RJ0 1053 "jdk/internal/util/Preconditions" "SIOOBE_FORMATTER" "Ljava/util/function/BiFunction;", .methodLink RJ0 1059 yJ3_checkIndex_8e157, .static yJ3_checkIndex_8e157, .initialized RJ3, .code yJ3_checkIndex_8e157 cJ3_checkIndex_8e157 3 (some .int)]
def w_zk_J0_checkIndex_df160_2 : List Cond := .code yJ0_checkIndex_df160 cJ0_checkIndex_df160 2 none :: (l_zk_J0_checkIndex_df160_2)
theorem g_zk_J0_checkIndex_df160_2_zk_J3_checkIndex_8e157_4_1059 : GoodIn w_zk_J0_checkIndex_df160_2 (va_wsS RJ0 1059 yJ3_checkIndex_8e157 w_zk_J3_checkIndex_8e157_4) := goodIn_app (goodIn_sub (by decide +kernel) (by decide +kernel)) (goodIn_sub (by decide +kernel) (by decide +kernel))
theorem g_zk_J0_checkIndex_df160_2_zk_J3_checkIndex_8e157_5_1059 : GoodIn w_zk_J0_checkIndex_df160_2 (va_wsS RJ0 1059 yJ3_checkIndex_8e157 w_zk_J3_checkIndex_8e157_5) := goodIn_app (goodIn_sub (by decide +kernel) (by decide +kernel)) (goodIn_sub (by decide +kernel) (by decide +kernel))
set_option maxHeartbeats 4000000 in
set_option maxRecDepth 100000 in
theorem zk_J0_checkIndex_df160_2 (l : Launch) (dC : Nat → ClassId) (dI : Nat → Nat → Nat) (sz : Nat) (adK adV : Nat → Nat) (Va0 : Int32)  (gv_Va0 : (0 : Int) ≤ Va0.toInt ∧ Va0.toInt ≤ 3) : Met l yJ0_checkIndex_df160 w_zk_J0_checkIndex_df160_2 ({ frames := 1, cells := 0, slots := 0, locals := 22 }) (va_Pc [.int Va0, .int 4] (fun U => U.heap.size = sz ∧ Kc adK adV (va_A [] sz) U ∧ Wd dC dI [] (fun _ => True) [] U)) (va_Qv (fun (u : Unit) => (¬ Va0 < 0 ∧ Va0 < 4)) (fun (u : Unit) t => Wd dC dI [] (va_A [] sz) [] t) (va_A [] sz))  0 0 (va_A [] sz) := by
  refine Met.ofW (cc := cJ0_checkIndex_df160) (maxL := 2) (ret := none) (by decide) rfl ?_
  intro p e s m args below meth c s₁ B hml hv
  obtain ⟨rfl, hsz, hC, hP, hK, hD0⟩ := hv
  have hx := B.exec
  have hb := B.bytes
  have hr := B.returns
  have hts := atoms_spec (ws := w_zk_J0_checkIndex_df160_2) B.pre
  have hown : s.vm.findClass RJ0 = some m.cls := findClass_of_methodNamed B.named
  have hlocks := B.notSynchronized
  subst hsz
  have hD := hD0.self (sz := s.heap.size)
  generalize hAe : va_A [] s.heap.size = A at hD hC ⊢
  have hA : ∀ q : Nat, s.heap.size ≤ q → A q := fun q h => by rw [← hAe]; exact Or.inr h
  have hS : va_S A s.heap s.heap [] := va_S.rf
  have hl := lv_entry ([.int Va0, .int 4]) (n := 2) (Nat.le_of_ble_eq_true rfl)
  rw [lg_entry_eq]
  generalize (lg_sl ([.int Va0, .int 4]) ++ List.replicate (2 - (lg_sl ([.int Va0, .int 4])).length) Slot.unset).toArray = ls at hl ⊢
  have hl : lv_has ls 2 [(0, .int Va0), (1, .int 4)] := hl
  refine lv_iload_n hx hb dJ0_checkIndex_df160_0 rfl (lv_at hl 0 rfl) ?_
  refine lv_iload_n hx hb dJ0_checkIndex_df160_1 rfl (lv_at hl 1 rfl) ?_
  rcases hC.2.2.2.2.2.1 with z2742 | ⟨q2743, z2742⟩
  · refine va_gets (v := .null) hx hb z2742 hS hown (hts (.fieldLink RJ0 1053 "jdk/internal/util/Preconditions" "SIOOBE_FORMATTER" "Ljava/util/function/BiFunction;") (by decide +kernel)) (fun _ h9 => h9) dJ0_checkIndex_df160_2 ?_
    have hPc := hP.sub (ws' := []) [] rfl
    have hDc := hD.sub (ws' := []) [] (by decide) rfl
    have hKc := hK.sub (tys' := []) [] rfl
    have hFc := va_free (wc := []) hD hS hA [] rfl
    refine va_calli (va_runS (As := [.int Va0, .int 4, .null]) (rest := []) ⟨hx, hb, hml, hown, hts⟩ (zk_J3_checkIndex_8e157_4 l dC dI s.heap.size Va0  (by (try simp only [i_lt, i_le, i_eq] at gv_Va0); omega)) (va_cwS 3 hts g_zk_J0_checkIndex_df160_2_zk_J3_checkIndex_8e157_4_1059 rfl rfl rfl (by decide +kernel) ⟨Nat.le_of_ble_eq_true rfl, Nat.le_of_ble_eq_true rfl⟩) ⟨fun a U g mk q => by obtain ⟨q0, q1, qP, qK, qD⟩ := q; exact ⟨q0, q1, qP, va_K.moved (u := U) (U := U.calling g mk a) (Vm.Alike.refl U.vm) qK, qD⟩, fun U hU hW => ⟨rfl, by rw [hU], by rw [hU]; exact hPc, va_K.moved hW.alike hKc, hDc.weaken (fun _ _ _ _ => trivial)⟩⟩ rfl rfl hl.1 rfl (lv_room (Nat.le_of_ble_eq_true rfl)) dJ0_checkIndex_df160_5 ⟨Nat.le_of_ble_eq_true rfl, Nat.le_of_ble_eq_true rfl⟩) hS (fun q _ h => hFc q h) hFc (fun r2747 u t H1 locs ht hvm hw hB hz1 hk1 hS => ?_)
    obtain ⟨hP1, hK1, hD1⟩ := hB
    rw [ht] at hP1
    try dsimp only at hw
    obtain ⟨hP, hD⟩ := va_join (wr := []) (w1 := []) hP hD [] [] rfl rfl (by decide) (by decide) hk1 hFc hP1 hD1
    have hK := hK.sub (tys' := []) [] rfl
    generalize H1 = H at hP hS ⊢
    have hP : va_P (dC, dI) vwCl [] H := hP
    have hD : va_D A [] := hD
    obtain ⟨c2748, c2749, er2750⟩ := hw
    have qer2750 := er2750.symm
    subst qer2750
    refine lv_pop hx hb dJ0_checkIndex_df160_8 rfl ?_
    have hP9 := hP.sub (ws' := []) [] rfl
    have hD9 := hD.sub (ws' := []) [] (by decide) rfl
    have hK9 := hK.sub (tys' := []) [] rfl
    exact W.vret hx hb hr (fun t ht hW => ⟨⟨(), rfl, ⟨c2748, c2749⟩, by rw [ht]; exact hP9, va_K.moved hW.alike hK9, hD9⟩, hS.F ht⟩) hS.2.2 dJ0_checkIndex_df160_9
  · refine va_gets (v := .ref q2743) hx hb z2742 hS hown (hts (.fieldLink RJ0 1053 "jdk/internal/util/Preconditions" "SIOOBE_FORMATTER" "Ljava/util/function/BiFunction;") (by decide +kernel)) (fun _ h9 => h9) dJ0_checkIndex_df160_2 ?_
    have hPc := hP.sub (ws' := []) [] rfl
    have hDc := hD.sub (ws' := []) [] (by decide) rfl
    have hKc := hK.sub (tys' := []) [] rfl
    have hFc := va_free (wc := []) hD hS hA [] rfl
    refine va_calli (va_runS (As := [.int Va0, .int 4, .ref q2743]) (rest := []) ⟨hx, hb, hml, hown, hts⟩ (zk_J3_checkIndex_8e157_5 l dC dI s.heap.size Va0 q2743  (by (try simp only [i_lt, i_le, i_eq] at gv_Va0); omega)) (va_cwS 3 hts g_zk_J0_checkIndex_df160_2_zk_J3_checkIndex_8e157_5_1059 rfl rfl rfl (by decide +kernel) ⟨Nat.le_of_ble_eq_true rfl, Nat.le_of_ble_eq_true rfl⟩) ⟨fun a U g mk q => by obtain ⟨q0, q1, qP, qK, qD⟩ := q; exact ⟨q0, q1, qP, va_K.moved (u := U) (U := U.calling g mk a) (Vm.Alike.refl U.vm) qK, qD⟩, fun U hU hW => ⟨rfl, by rw [hU], by rw [hU]; exact hPc, va_K.moved hW.alike hKc, hDc.weaken (fun _ _ _ _ => trivial)⟩⟩ rfl rfl hl.1 rfl (lv_room (Nat.le_of_ble_eq_true rfl)) dJ0_checkIndex_df160_5 ⟨Nat.le_of_ble_eq_true rfl, Nat.le_of_ble_eq_true rfl⟩) hS (fun q _ h => hFc q h) hFc (fun r2754 u t H1 locs ht hvm hw hB hz1 hk1 hS => ?_)
    obtain ⟨hP1, hK1, hD1⟩ := hB
    rw [ht] at hP1
    try dsimp only at hw
    obtain ⟨hP, hD⟩ := va_join (wr := []) (w1 := []) hP hD [] [] rfl rfl (by decide) (by decide) hk1 hFc hP1 hD1
    have hK := hK.sub (tys' := []) [] rfl
    generalize H1 = H at hP hS ⊢
    have hP : va_P (dC, dI) vwCl [] H := hP
    have hD : va_D A [] := hD
    obtain ⟨c2755, c2756, er2757⟩ := hw
    have qer2757 := er2757.symm
    subst qer2757
    refine lv_pop hx hb dJ0_checkIndex_df160_8 rfl ?_
    have hP9 := hP.sub (ws' := []) [] rfl
    have hD9 := hD.sub (ws' := []) [] (by decide) rfl
    have hK9 := hK.sub (tys' := []) [] rfl
    exact W.vret hx hb hr (fun t ht hW => ⟨⟨(), rfl, ⟨c2755, c2756⟩, by rw [ht]; exact hP9, va_K.moved hW.alike hK9, hD9⟩, hS.F ht⟩) hS.2.2 dJ0_checkIndex_df160_9

def l_zk_J1_charAt_3b067_2 : List Cond := [.methodLink RJ1 9 yJ0_checkIndex_df160, .static yJ0_checkIndex_df160, .initialized RJ0, .code yJ0_checkIndex_df160 cJ0_checkIndex_df160 2 none, .fieldLink RJ0 1053 "jdk/internal/util/Preconditions" "SIOOBE_FORMATTER" "Ljava/util/function/BiFunction;", .methodLink RJ0 1059 yJ3_checkIndex_8e157, .static yJ3_checkIndex_8e157, .initialized RJ3, .code yJ3_checkIndex_8e157 cJ3_checkIndex_8e157 3 (some .int)]
def w_zk_J1_charAt_3b067_2 : List Cond := .code yJ1_charAt_3b067 cJ1_charAt_3b067 2 (some .char) :: (l_zk_J1_charAt_3b067_2)
theorem g_zk_J1_charAt_3b067_2_zk_J0_checkIndex_df160_2_9 : GoodIn w_zk_J1_charAt_3b067_2 (va_wsS RJ1 9 yJ0_checkIndex_df160 w_zk_J0_checkIndex_df160_2) := goodIn_app (goodIn_sub (by decide +kernel) (by decide +kernel)) (goodIn_sub (by decide +kernel) (by decide +kernel))
set_option maxHeartbeats 4000000 in
set_option maxRecDepth 100000 in
theorem zk_J1_charAt_3b067_2 (l : Launch) (dC : Nat → ClassId) (dI : Nat → Nat → Nat) (sz : Nat) (adK adV : Nat → Nat) (Va0 : Int32)  (gv_Va0 : (0 : Int) ≤ Va0.toInt ∧ Va0.toInt ≤ 3) : Met l yJ1_charAt_3b067 w_zk_J1_charAt_3b067_2 ({ frames := 2, cells := 0, slots := 0, locals := 43 }) (va_Pc [.ref (adV 2), .int Va0] (fun U => U.heap.size = sz ∧ Kc adK adV (va_A [] sz) U ∧ Wd dC dI [] (fun _ => True) [] U)) (va_Qi (fun (r : Int32) (u : Unit) => (¬ Va0 < 0 ∧ Va0 < 4 ∧ narrow .char (.int r) = .int r)) (fun (u : Unit) t => Wd dC dI [] (va_A [] sz) [] t) (va_A [] sz))  0 0 (va_A [] sz) := by
  refine Met.ofW (cc := cJ1_charAt_3b067) (maxL := 2) (ret := (some .char)) (by decide) rfl ?_
  intro p e s m args below meth c s₁ B hml hv
  obtain ⟨rfl, hsz, hC, hP, hK, hD0⟩ := hv
  have hx := B.exec
  have hb := B.bytes
  have hr := B.returns
  have hts := atoms_spec (ws := w_zk_J1_charAt_3b067_2) B.pre
  have hown : s.vm.findClass RJ1 = some m.cls := findClass_of_methodNamed B.named
  have hlocks := B.notSynchronized
  subst hsz
  have hD := hD0.self (sz := s.heap.size)
  generalize hAe : va_A [] s.heap.size = A at hD hC ⊢
  have hA : ∀ q : Nat, s.heap.size ≤ q → A q := fun q h => by rw [← hAe]; exact Or.inr h
  have hS : va_S A s.heap s.heap [] := va_S.rf
  have hl := lv_entry ([.ref (adV 2), .int Va0]) (n := 2) (Nat.le_of_ble_eq_true rfl)
  rw [lg_entry_eq]
  generalize (lg_sl ([.ref (adV 2), .int Va0]) ++ List.replicate (2 - (lg_sl ([.ref (adV 2), .int Va0])).length) Slot.unset).toArray = ls at hl ⊢
  have hl : lv_has ls 2 [(0, .ref (adV 2)), (1, .int Va0)] := hl
  refine lv_iload_n hx hb dJ1_charAt_3b067_0 rfl (lv_at hl 1 rfl) ?_
  refine lv_aload_n hx hb dJ1_charAt_3b067_1 rfl (lv_at hl 0 rfl) ?_
  refine va_tlen (v := 4) hx hb (hC.1.1 2 (by decide)).2.2.2 hS (by decide) dJ1_charAt_3b067_2 ?_
  have hPc := hP.sub (ws' := []) [] rfl
  have hDc := hD.sub (ws' := []) [] (by decide) rfl
  have hKc := hK.sub (tys' := []) [] rfl
  have hFc := va_free (wc := []) hD hS hA [] rfl
  refine va_callv (va_runS (As := [.int Va0, .int 4]) (rest := []) ⟨hx, hb, hml, hown, hts⟩ (zk_J0_checkIndex_df160_2 l dC dI s.heap.size adK adV Va0  (by (try simp only [i_lt, i_le, i_eq] at gv_Va0); omega)) (va_cwS 2 hts g_zk_J1_charAt_3b067_2_zk_J0_checkIndex_df160_2_9 rfl rfl rfl (by decide +kernel) ⟨Nat.le_of_ble_eq_true rfl, Nat.le_of_ble_eq_true rfl⟩) ⟨fun a U g mk q => by obtain ⟨q0, q1, qC, qP, qK, qD⟩ := q; exact ⟨q0, q1, Kc_call qC, qP, va_K.moved (u := U) (U := U.calling g mk a) (Vm.Alike.refl U.vm) qK, qD⟩, fun U hU hW => ⟨rfl, by rw [hU], Kc_go hC hS hFc hU hW, by rw [hU]; exact hPc, va_K.moved hW.alike hKc, hDc.weaken (fun _ _ _ _ => trivial)⟩⟩ rfl rfl hl.1 rfl (lv_room (Nat.le_of_ble_eq_true rfl)) dJ1_charAt_3b067_3 ⟨Nat.le_of_ble_eq_true rfl, Nat.le_of_ble_eq_true rfl⟩) hS (fun q _ h => hFc q h) hFc (fun u t H1 locs ht hvm hw hB hz1 hk1 hS => ?_)
  obtain ⟨hP1, hK1, hD1⟩ := hB
  rw [ht] at hP1
  try dsimp only at hw
  obtain ⟨hP, hD⟩ := va_join (wr := []) (w1 := []) hP hD [] [] rfl rfl (by decide) (by decide) hk1 hFc hP1 hD1
  have hK := hK.sub (tys' := []) [] rfl
  generalize H1 = H at hP hS ⊢
  have hP : va_P (dC, dI) vwCl [] H := hP
  have hD : va_D A [] := hD
  obtain ⟨c2782, c2783⟩ := hw
  refine lv_aload_n hx hb dJ1_charAt_3b067_6 rfl (lv_at hl 0 rfl) ?_
  refine lv_iload_n hx hb dJ1_charAt_3b067_7 rfl (lv_at hl 1 rfl) ?_
  refine va_tb hx hb (hC.1.1 2 (by decide)).2.2.2 hS (show vp_in Va0 4 from (by rw [vp_in_iff]; (try simp only [i_lt, i_le, i_eq, kc_0, kc_4] at gv_Va0 c2782 c2783); omega)) rfl dJ1_charAt_3b067_8 ?_
  refine lv_topi (fun x2784 ex2784 => ?_)
  refine lv_sipush (v := 255) hx hb dJ1_charAt_3b067_9 (by decide) ?_
  refine lv_iand hx hb dJ1_charAt_3b067_12  ?_
  refine lv_topi (fun x2785 ex2785 => ?_)
  refine lv_i2c hx hb dJ1_charAt_3b067_13 rfl ?_
  refine lv_topi (fun x2786 ex2786 => ?_)
  have hP9 := hP.sub (ws' := []) [] rfl
  have hD9 := hD.sub (ws' := []) [] (by decide) rfl
  have hK9 := hK.sub (tys' := []) [] rfl
  exact W.zret (v := x2786) hx hb hr (by rw [ex2786]; exact pk_nc _) (fun t ht hW => ⟨⟨x2786, (), rfl, ⟨c2782, c2783, (by rw [ex2786]; exact pk_nc _)⟩, by rw [ht]; exact hP9, va_K.moved hW.alike hK9, hD9⟩, hS.F ht⟩) hS.2.2 dJ1_charAt_3b067_14

def l_zk_J0_charAt_5068e_2 : List Cond := [.methodLink RJ0 492 yJ0_isLatin1_aae02, .instanceMethod yJ0_isLatin1_aae02, .selects RJ0 yJ0_isLatin1_aae02 yJ0_isLatin1_aae02, .initialized RJ0, .fieldLink RJ0 9 "java/lang/String" "value" "[B", .methodLink RJ0 495 yJ1_charAt_3b067, .static yJ1_charAt_3b067, .initialized RJ1, .code yJ0_isLatin1_aae02 cJ0_isLatin1_aae02 1 (some .boolean), .fieldLink RJ0 38 "java/lang/String" "COMPACT_STRINGS" "Z", .fieldLink RJ0 15 "java/lang/String" "coder" "B", .code yJ1_charAt_3b067 cJ1_charAt_3b067 2 (some .char), .methodLink RJ1 9 yJ0_checkIndex_df160, .static yJ0_checkIndex_df160, .code yJ0_checkIndex_df160 cJ0_checkIndex_df160 2 none, .fieldLink RJ0 1053 "jdk/internal/util/Preconditions" "SIOOBE_FORMATTER" "Ljava/util/function/BiFunction;", .methodLink RJ0 1059 yJ3_checkIndex_8e157, .static yJ3_checkIndex_8e157, .initialized RJ3, .code yJ3_checkIndex_8e157 cJ3_checkIndex_8e157 3 (some .int)]
def w_zk_J0_charAt_5068e_2 : List Cond := .code yJ0_charAt_5068e cJ0_charAt_5068e 2 (some .char) :: (l_zk_J0_charAt_5068e_2)
theorem g_zk_J0_charAt_5068e_2_zk_J0_isLatin1_aae02_2_492 : GoodIn w_zk_J0_charAt_5068e_2 (wsV RJ0 492 RJ0 yJ0_isLatin1_aae02 w_zk_J0_isLatin1_aae02_2) := goodIn_app (goodIn_sub (by decide +kernel) (by decide +kernel)) (goodIn_sub (by decide +kernel) (by decide +kernel))
theorem g_zk_J0_charAt_5068e_2_zk_J1_charAt_3b067_2_495 : GoodIn w_zk_J0_charAt_5068e_2 (va_wsS RJ0 495 yJ1_charAt_3b067 w_zk_J1_charAt_3b067_2) := goodIn_app (goodIn_sub (by decide +kernel) (by decide +kernel)) (goodIn_sub (by decide +kernel) (by decide +kernel))
set_option maxHeartbeats 4000000 in
set_option maxRecDepth 100000 in
theorem zk_J0_charAt_5068e_2 (l : Launch) (dC : Nat → ClassId) (dI : Nat → Nat → Nat) (sz : Nat) (adK adV : Nat → Nat) (Va0 : Int32)  (gv_Va0 : (0 : Int) ≤ Va0.toInt ∧ Va0.toInt ≤ 3) : Met l yJ0_charAt_5068e w_zk_J0_charAt_5068e_2 ({ frames := 3, cells := 0, slots := 0, locals := 64 }) (va_Pc [.ref (adK 2), .int Va0] (fun U => U.heap.size = sz ∧ Kc adK adV (va_A [] sz) U ∧ Wd dC dI [] (fun _ => True) [] U)) (va_Qi (fun (r : Int32) (u : Unit) => (¬ Va0 < 0 ∧ Va0 < 4 ∧ narrow .char (.int r) = .int r)) (fun (u : Unit) t => Wd dC dI [] (va_A [] sz) [] t) (va_A [] sz))  0 0 (va_A [] sz) := by
  refine Met.ofW (cc := cJ0_charAt_5068e) (maxL := 2) (ret := (some .char)) (by decide) rfl ?_
  intro p e s m args below meth c s₁ B hml hv
  obtain ⟨rfl, hsz, hC, hP, hK, hD0⟩ := hv
  have hx := B.exec
  have hb := B.bytes
  have hr := B.returns
  have hts := atoms_spec (ws := w_zk_J0_charAt_5068e_2) B.pre
  have hown : s.vm.findClass RJ0 = some m.cls := findClass_of_methodNamed B.named
  have hlocks := B.notSynchronized
  subst hsz
  have hD := hD0.self (sz := s.heap.size)
  generalize hAe : va_A [] s.heap.size = A at hD hC ⊢
  have hA : ∀ q : Nat, s.heap.size ≤ q → A q := fun q h => by rw [← hAe]; exact Or.inr h
  have hS : va_S A s.heap s.heap [] := va_S.rf
  have hl := lv_entry ([.ref (adK 2), .int Va0]) (n := 2) (Nat.le_of_ble_eq_true rfl)
  rw [lg_entry_eq]
  generalize (lg_sl ([.ref (adK 2), .int Va0]) ++ List.replicate (2 - (lg_sl ([.ref (adK 2), .int Va0])).length) Slot.unset).toArray = ls at hl ⊢
  have hl : lv_has ls 2 [(0, .ref (adK 2)), (1, .int Va0)] := hl
  refine lv_aload_n hx hb dJ0_charAt_5068e_0 rfl (lv_at hl 0 rfl) ?_
  have hPc := hP.sub (ws' := []) [] rfl
  have hDc := hD.sub (ws' := []) [] (by decide) rfl
  have hKc := hK.sub (tys' := []) [] rfl
  have hFc := va_free (wc := []) hD hS hA [] rfl
  refine va_calli (va_runV (As := []) (rest := []) ⟨hx, hb, hml, hown, hts⟩ (zk_J0_isLatin1_aae02_2 l dC dI s.heap.size adK adV   ) (cwV 0 hts g_zk_J0_charAt_5068e_2_zk_J0_isLatin1_aae02_2_492 rfl rfl rfl (by decide +kernel) ⟨Nat.le_of_ble_eq_true rfl, Nat.le_of_ble_eq_true rfl⟩) ⟨fun a U g mk q => by obtain ⟨q0, q1, qC, qP, qK, qD⟩ := q; exact ⟨q0, q1, Kc_call qC, qP, va_K.moved (u := U) (U := U.calling g mk a) (Vm.Alike.refl U.vm) qK, qD⟩, vk_recv hC.1 (i := 2) (by decide) hS, fun U hU hW => ⟨rfl, by rw [hU], Kc_go hC hS hFc hU hW, by rw [hU]; exact hPc, va_K.moved hW.alike hKc, hDc.weaken (fun _ _ _ _ => trivial)⟩⟩ rfl rfl hl.1 rfl (lv_room (Nat.le_of_ble_eq_true rfl)) dJ0_charAt_5068e_1 ⟨Nat.le_of_ble_eq_true rfl, Nat.le_of_ble_eq_true rfl⟩) hS (fun q _ h => hFc q h) hFc (fun r2793 u t H1 locs ht hvm hw hB hz1 hk1 hS => ?_)
  obtain ⟨hP1, hK1, hD1⟩ := hB
  rw [ht] at hP1
  try dsimp only at hw
  obtain ⟨hP, hD⟩ := va_join (wr := []) (w1 := []) hP hD [] [] rfl rfl (by decide) (by decide) hk1 hFc hP1 hD1
  have hK := hK.sub (tys' := []) [] rfl
  generalize H1 = H at hP hS ⊢
  have hP : va_P (dC, dI) vwCl [] H := hP
  have hD : va_D A [] := hD
  have er2794 := hw
  subst er2794
  refine lv_if_eq (tgt := 16) hx hb dJ0_charAt_5068e_4 (by decide) (fun c2795 => absurd c2795 (by decide)) (fun c2795 => ?_)
  refine lv_aload_n hx hb dJ0_charAt_5068e_7 rfl (lv_at hl 0 rfl) ?_
  refine vk_getf (v := .ref (adV 2)) hx hb (hC.1.1 2 (by decide)).2.2.1 hS hown (hts (.fieldLink RJ0 9 "java/lang/String" "value" "[B") (by decide +kernel)) (fun _ h9 => h9) dJ0_charAt_5068e_8 ?_
  refine lv_iload_n hx hb dJ0_charAt_5068e_11 rfl (lv_at hl 1 rfl) ?_
  have hPc := hP.sub (ws' := []) [] rfl
  have hDc := hD.sub (ws' := []) [] (by decide) rfl
  have hKc := hK.sub (tys' := []) [] rfl
  have hFc := va_free (wc := []) hD hS hA [] rfl
  refine va_calli (va_runS (As := [.ref (adV 2), .int Va0]) (rest := []) ⟨hx, hb, hml, hown, hts⟩ (zk_J1_charAt_3b067_2 l dC dI H.size adK adV Va0  (by (try simp only [i_lt, i_le, i_eq] at gv_Va0); omega)) (va_cwS 2 hts g_zk_J0_charAt_5068e_2_zk_J1_charAt_3b067_2_495 rfl rfl rfl (by decide +kernel) ⟨Nat.le_of_ble_eq_true rfl, Nat.le_of_ble_eq_true rfl⟩) ⟨fun a U g mk q => by obtain ⟨q0, q1, qC, qP, qK, qD⟩ := q; exact ⟨q0, q1, Kc_call qC, qP, va_K.moved (u := U) (U := U.calling g mk a) (Vm.Alike.refl U.vm) qK, qD⟩, fun U hU hW => ⟨rfl, by rw [hU], Kc_go hC hS hFc hU hW, by rw [hU]; exact hPc, va_K.moved hW.alike hKc, hDc.weaken (fun _ _ _ _ => trivial)⟩⟩ rfl rfl hl.1 rfl (lv_room (Nat.le_of_ble_eq_true rfl)) dJ0_charAt_5068e_12 ⟨Nat.le_of_ble_eq_true rfl, Nat.le_of_ble_eq_true rfl⟩) hS (fun q _ h => hFc q h) hFc (fun r2823 u t H1 locs ht hvm hw hB hz1 hk1 hS => ?_)
  obtain ⟨hP1, hK1, hD1⟩ := hB
  rw [ht] at hP1
  try dsimp only at hw
  obtain ⟨hP, hD⟩ := va_join (wr := []) (w1 := []) hP hD [] [] rfl rfl (by decide) (by decide) hk1 hFc hP1 hD1
  have hK := hK.sub (tys' := []) [] rfl
  generalize H1 = H at hP hS ⊢
  have hP : va_P (dC, dI) vwCl [] H := hP
  have hD : va_D A [] := hD
  obtain ⟨c2824, c2825, nc2826⟩ := hw
  have hP9 := hP.sub (ws' := []) [] rfl
  have hD9 := hD.sub (ws' := []) [] (by decide) rfl
  have hK9 := hK.sub (tys' := []) [] rfl
  exact W.zret (v := r2823) hx hb hr (nc2826) (fun t ht hW => ⟨⟨r2823, (), rfl, ⟨c2824, c2825, (nc2826)⟩, by rw [ht]; exact hP9, va_K.moved hW.alike hK9, hD9⟩, hS.F ht⟩) hS.2.2 dJ0_charAt_5068e_15

def l_zk_X9_codeOf_1 : List Cond := [.methodLink RX9 33 yJ0_length_8abf5, .instanceMethod yJ0_length_8abf5, .selects RJ0 yJ0_length_8abf5 yJ0_length_8abf5, .initialized RJ0, .constantLong RX9 43 (64), .methodLink RX9 39 yJ0_charAt_5068e, .instanceMethod yJ0_charAt_5068e, .selects RJ0 yJ0_charAt_5068e yJ0_charAt_5068e, .methodLink RX9 45 yX9_symbolOf, .static yX9_symbolOf, .initialized RX9, .code yJ0_length_8abf5 cJ0_length_8abf5 1 (some .int), .fieldLink RJ0 9 "java/lang/String" "value" "[B", .methodLink RJ0 335 yJ0_coder_7d493, .instanceMethod yJ0_coder_7d493, .selects RJ0 yJ0_coder_7d493 yJ0_coder_7d493, .code yJ0_coder_7d493 cJ0_coder_7d493 1 (some .byte), .fieldLink RJ0 38 "java/lang/String" "COMPACT_STRINGS" "Z", .fieldLink RJ0 15 "java/lang/String" "coder" "B", .code yJ0_charAt_5068e cJ0_charAt_5068e 2 (some .char), .methodLink RJ0 492 yJ0_isLatin1_aae02, .instanceMethod yJ0_isLatin1_aae02, .selects RJ0 yJ0_isLatin1_aae02 yJ0_isLatin1_aae02, .methodLink RJ0 495 yJ1_charAt_3b067, .static yJ1_charAt_3b067, .initialized RJ1, .code yJ0_isLatin1_aae02 cJ0_isLatin1_aae02 1 (some .boolean), .code yJ1_charAt_3b067 cJ1_charAt_3b067 2 (some .char), .methodLink RJ1 9 yJ0_checkIndex_df160, .static yJ0_checkIndex_df160, .code yJ0_checkIndex_df160 cJ0_checkIndex_df160 2 none, .fieldLink RJ0 1053 "jdk/internal/util/Preconditions" "SIOOBE_FORMATTER" "Ljava/util/function/BiFunction;", .methodLink RJ0 1059 yJ3_checkIndex_8e157, .static yJ3_checkIndex_8e157, .initialized RJ3, .code yJ3_checkIndex_8e157 cJ3_checkIndex_8e157 3 (some .int), .code yX9_symbolOf cX9_symbolOf 1 (some .int), .methodLink RX9 65 yX9_isDigit, .static yX9_isDigit, .code yX9_isDigit cX9_isDigit 1 (some .boolean)]
def w_zk_X9_codeOf_1 : List Cond := .code yX9_codeOf cX9_codeOf 4 (some .long) :: (l_zk_X9_codeOf_1)
theorem g_zk_X9_codeOf_1_zk_J0_length_8abf5_2_33 : GoodIn w_zk_X9_codeOf_1 (wsV RX9 33 RJ0 yJ0_length_8abf5 w_zk_J0_length_8abf5_2) := goodIn_app (goodIn_sub (by decide +kernel) (by decide +kernel)) (goodIn_sub (by decide +kernel) (by decide +kernel))
theorem g_zk_X9_codeOf_1_zk_J0_charAt_5068e_2_39 : GoodIn w_zk_X9_codeOf_1 (wsV RX9 39 RJ0 yJ0_charAt_5068e w_zk_J0_charAt_5068e_2) := goodIn_app (goodIn_sub (by decide +kernel) (by decide +kernel)) (goodIn_sub (by decide +kernel) (by decide +kernel))
theorem g_zk_X9_codeOf_1_zk_X9_symbolOf_45 : GoodIn w_zk_X9_codeOf_1 (wsS RX9 45 yX9_symbolOf w_zk_X9_symbolOf) := goodIn_app (goodIn_sub (by decide +kernel) (by decide +kernel)) (goodIn_sub (by decide +kernel) (by decide +kernel))
set_option maxHeartbeats 4000000 in
set_option maxRecDepth 100000 in
theorem zk_X9_codeOf_1 (l : Launch) (dC : Nat → ClassId) (dI : Nat → Nat → Nat) (sz : Nat) (adK adV : Nat → Nat)    : Met l yX9_codeOf w_zk_X9_codeOf_1 ({ frames := 4, cells := 0, slots := 0, locals := 85 }) (va_Pc [.ref (adK 2)] (fun U => U.heap.size = sz ∧ Kc adK adV (va_A [] sz) U ∧ Wd dC dI [] (fun _ => True) [] U)) (va_Ql (fun (r : Int64) (u : Unit) => True) (fun (u : Unit) t => Wd dC dI [] (va_A [] sz) [] t) (va_A [] sz))  0 0 (va_A [] sz) := by
  refine Met.ofW (cc := cX9_codeOf) (maxL := 4) (ret := (some .long)) (by decide) rfl ?_
  intro p e s m args below meth c s₁ B hml hv
  obtain ⟨rfl, hsz, hC, hP, hK, hD0⟩ := hv
  have hx := B.exec
  have hb := B.bytes
  have hr := B.returns
  have hts := atoms_spec (ws := w_zk_X9_codeOf_1) B.pre
  have hown : s.vm.findClass RX9 = some m.cls := findClass_of_methodNamed B.named
  have hlocks := B.notSynchronized
  subst hsz
  have hD := hD0.self (sz := s.heap.size)
  generalize hAe : va_A [] s.heap.size = A at hD hC ⊢
  have hA : ∀ q : Nat, s.heap.size ≤ q → A q := fun q h => by rw [← hAe]; exact Or.inr h
  have hS : va_S A s.heap s.heap [] := va_S.rf
  have hl := lv_entry ([.ref (adK 2)]) (n := 4) (Nat.le_of_ble_eq_true rfl)
  rw [lg_entry_eq]
  generalize (lg_sl ([.ref (adK 2)]) ++ List.replicate (4 - (lg_sl ([.ref (adK 2)])).length) Slot.unset).toArray = ls at hl ⊢
  have hl : lv_has ls 4 [(0, .ref (adK 2))] := hl
  refine lv_lconst (v := 0) hx hb dX9_codeOf_0 (by decide) ?_
  refine lv_lstore_n (lv' := [(1, .long 0), (0, .ref (adK 2))]) hx hb dX9_codeOf_1 rfl hl (by decide) rfl (fun ls hl => ?_)
  refine lv_iconst (v := 0) hx hb dX9_codeOf_2 (by decide) ?_
  refine lv_istore_n (lv' := [(3, .int 0), (1, .long 0), (0, .ref (adK 2))]) hx hb dX9_codeOf_3 rfl hl (by decide) rfl (fun ls hl => ?_)
  have HL1 : ∀ (n j3616 : Nat) (x3617 : Int32) (y3618 : Int64), x3617 = nI j3616 → 0 ≤ j3616 → j3616 ≤ 4 → 5 ≤ j3616 + n → ∀ (H : Heap) (locs : List Loc) (ls : Array Slot), va_P (dC, dI) vwCl [] H → va_D A [] → va_S A s.heap H locs → lv_has ls 4 [(3, .int x3617), (1, .long y3618), (0, .ref (adK 2))] → W p l e (headSpec w_zk_X9_codeOf_1 ({ frames := 4, cells := 0, slots := 0, locals := 85 })).room s m ([.ref (adK 2)]).toArray below meth c H locs 0 0 (MQ below (va_Ql (fun (r : Int64) (u : Unit) => True) (fun (u : Unit) t => Wd dC dI [] A [] t) A) ([.ref (adK 2)]).toArray s 0 0 A) (F0 m 4 ls []) := by
    intro n
    induction n with
    | zero =>
      intro j3616 x3617 y3618 e3619 h3621 h3622 h3623
      exact absurd h3623 (by omega)
    | succ n ih =>
      intro j3616 x3617 y3618 e3619 h3621 h3622 h3623 H locs ls hP hD hS hl
      have t3620 : x3617.toInt = (j3616 : Int) := by rw [e3619]; exact nI_toInt (by omega)
      refine lv_iload_n hx hb dX9_codeOf_4 rfl (lv_at hl 0 rfl) ?_
      refine lv_aload_n hx hb dX9_codeOf_5 rfl (lv_at hl 2 rfl) ?_
      have hPc := hP.sub (ws' := []) [] rfl
      have hDc := hD.sub (ws' := []) [] (by decide) rfl
      have hKc := hK.sub (tys' := []) [] rfl
      have hFc := va_free (wc := []) hD hS hA [] rfl
      refine va_calli (va_runV (As := []) (rest := [.int x3617]) ⟨hx, hb, hml, hown, hts⟩ (zk_J0_length_8abf5_2 l dC dI H.size adK adV   ) (cwV 0 hts g_zk_X9_codeOf_1_zk_J0_length_8abf5_2_33 rfl rfl rfl (by decide +kernel) ⟨Nat.le_of_ble_eq_true rfl, Nat.le_of_ble_eq_true rfl⟩) ⟨fun a U g mk q => by obtain ⟨q0, q1, qC, qP, qK, qD⟩ := q; exact ⟨q0, q1, Kc_call qC, qP, va_K.moved (u := U) (U := U.calling g mk a) (Vm.Alike.refl U.vm) qK, qD⟩, vk_recv hC.1 (i := 2) (by decide) hS, fun U hU hW => ⟨rfl, by rw [hU], Kc_go hC hS hFc hU hW, by rw [hU]; exact hPc, va_K.moved hW.alike hKc, hDc.weaken (fun _ _ _ _ => trivial)⟩⟩ rfl rfl hl.1 rfl (lv_room (Nat.le_of_ble_eq_true rfl)) dX9_codeOf_6 ⟨Nat.le_of_ble_eq_true rfl, Nat.le_of_ble_eq_true rfl⟩) hS (fun q _ h => hFc q h) hFc (fun r3628 u t H1 locs ht hvm hw hB hz1 hk1 hS => ?_)
      obtain ⟨hP1, hK1, hD1⟩ := hB
      rw [ht] at hP1
      try dsimp only at hw
      obtain ⟨hP, hD⟩ := va_join (wr := []) (w1 := []) hP hD [] [] rfl rfl (by decide) (by decide) hk1 hFc hP1 hD1
      have hK := hK.sub (tys' := []) [] rfl
      generalize H1 = H at hP hS ⊢
      have hP : va_P (dC, dI) vwCl [] H := hP
      have hD : va_D A [] := hD
      have er3629 := hw
      subst er3629
      refine lv_icmp_ge (tgt := 34) hx hb dX9_codeOf_9 (by decide) (fun c3630 => ?_) (fun c3630 => ?_)
      · skip
        refine lv_lload_n hx hb dX9_codeOf_34 rfl (lv_at hl 1 rfl) ?_
        have hP9 := hP.sub (ws' := []) [] rfl
        have hD9 := hD.sub (ws' := []) [] (by decide) rfl
        have hK9 := hK.sub (tys' := []) [] rfl
        exact W.lret (v := y3618) hx hb hr (fun t ht hW => ⟨⟨y3618, (), rfl, trivial, by rw [ht]; exact hP9, va_K.moved hW.alike hK9, hD9⟩, hS.F ht⟩) hS.2.2 dX9_codeOf_35
      · skip
        refine lv_lload_n hx hb dX9_codeOf_12 rfl (lv_at hl 1 rfl) ?_
        refine lv_ldc2 (v := 64) hx hb hown (hts (.constantLong RX9 43 (64)) (by decide +kernel)) dX9_codeOf_13 ?_
        refine lv_lmul hx hb dX9_codeOf_16  ?_
        refine lv_topl (fun x3631 ex3631 => ?_)
        refine lv_aload_n hx hb dX9_codeOf_17 rfl (lv_at hl 2 rfl) ?_
        refine lv_iload_n hx hb dX9_codeOf_18 rfl (lv_at hl 0 rfl) ?_
        have hPc := hP.sub (ws' := []) [] rfl
        have hDc := hD.sub (ws' := []) [] (by decide) rfl
        have hKc := hK.sub (tys' := []) [] rfl
        have hFc := va_free (wc := []) hD hS hA [] rfl
        refine va_calli (va_runV (As := [.int x3617]) (rest := [.long x3631]) ⟨hx, hb, hml, hown, hts⟩ (zk_J0_charAt_5068e_2 l dC dI H.size adK adV x3617  (by (try simp only [i_lt, i_le, i_eq, kc_4] at t3620 h3622 h3621 c3630); omega)) (cwV 1 hts g_zk_X9_codeOf_1_zk_J0_charAt_5068e_2_39 rfl rfl rfl (by decide +kernel) ⟨Nat.le_of_ble_eq_true rfl, Nat.le_of_ble_eq_true rfl⟩) ⟨fun a U g mk q => by obtain ⟨q0, q1, qC, qP, qK, qD⟩ := q; exact ⟨q0, q1, Kc_call qC, qP, va_K.moved (u := U) (U := U.calling g mk a) (Vm.Alike.refl U.vm) qK, qD⟩, vk_recv hC.1 (i := 2) (by decide) hS, fun U hU hW => ⟨rfl, by rw [hU], Kc_go hC hS hFc hU hW, by rw [hU]; exact hPc, va_K.moved hW.alike hKc, hDc.weaken (fun _ _ _ _ => trivial)⟩⟩ rfl rfl hl.1 rfl (lv_room (Nat.le_of_ble_eq_true rfl)) dX9_codeOf_19 ⟨Nat.le_of_ble_eq_true rfl, Nat.le_of_ble_eq_true rfl⟩) hS (fun q _ h => hFc q h) hFc (fun r3676 u t H1 locs ht hvm hw hB hz1 hk1 hS => ?_)
        obtain ⟨hP1, hK1, hD1⟩ := hB
        rw [ht] at hP1
        try dsimp only at hw
        obtain ⟨hP, hD⟩ := va_join (wr := []) (w1 := []) hP hD [] [] rfl rfl (by decide) (by decide) hk1 hFc hP1 hD1
        have hK := hK.sub (tys' := []) [] rfl
        generalize H1 = H at hP hS ⊢
        have hP : va_P (dC, dI) vwCl [] H := hP
        have hD : va_D A [] := hD
        obtain ⟨c3677, c3678, nc3679⟩ := hw
        have hPc := hP.sub (ws' := []) [] rfl
        have hDc := hD.sub (ws' := []) [] (by decide) rfl
        have hKc := hK.sub (tys' := []) [] rfl
        have hFc := va_free (wc := []) hD hS hA [] rfl
        refine va_calli (va_runS (As := [.int r3676]) (rest := [.long x3631]) ⟨hx, hb, hml, hown, hts⟩ (zk_X9_symbolOf l dC dI H.size r3676  ) (cwS 1 hts g_zk_X9_codeOf_1_zk_X9_symbolOf_45 rfl rfl rfl (by decide +kernel) ⟨Nat.le_of_ble_eq_true rfl, Nat.le_of_ble_eq_true rfl⟩) ⟨fun a U g mk q => by obtain ⟨q0, q1, qP, qK, qD⟩ := q; exact ⟨q0, q1, qP, va_K.moved (u := U) (U := U.calling g mk a) (Vm.Alike.refl U.vm) qK, qD⟩, fun U hU hW => ⟨rfl, by rw [hU], by rw [hU]; exact hPc, va_K.moved hW.alike hKc, hDc.weaken (fun _ _ _ _ => trivial)⟩⟩ rfl rfl hl.1 rfl (lv_room (Nat.le_of_ble_eq_true rfl)) dX9_codeOf_22 ⟨Nat.le_of_ble_eq_true rfl, Nat.le_of_ble_eq_true rfl⟩) hS (fun q _ h => hFc q h) hFc (fun r3729 u t H1 locs ht hvm hw hB hz1 hk1 hS => ?_)
        obtain ⟨hP1, hK1, hD1⟩ := hB
        rw [ht] at hP1
        try dsimp only at hw
        obtain ⟨hP, hD⟩ := va_join (wr := []) (w1 := []) hP hD [] [] rfl rfl (by decide) (by decide) hk1 hFc hP1 hD1
        have hK := hK.sub (tys' := []) [] rfl
        generalize H1 = H at hP hS ⊢
        have hP : va_P (dC, dI) vwCl [] H := hP
        have hD : va_D A [] := hD
        rcases hw with ⟨c3730, c3731, c3732, er3733⟩ | ⟨c3734, c3735, c3736, c3737, er3738⟩ | ⟨c3739, c3740, c3741, c3742, er3743⟩ | ⟨c3744, c3745, c3746, c3747, c3748, er3749⟩ | ⟨c3750, c3751, c3752, c3753, c3754, c3755, er3756⟩ | ⟨c3757, c3758, c3759, c3760, er3761⟩ | ⟨c3762, c3763, er3764⟩
        · skip
          subst er3733
          refine lv_i2l hx hb dX9_codeOf_25 rfl ?_
          refine lv_topl (fun x3765 ex3765 => ?_)
          obtain rfl : x3765 = 0 := ex3765.trans (by decide)
          refine lv_ladd hx hb dX9_codeOf_26  ?_
          refine lv_topl (fun x3766 ex3766 => ?_)
          refine lv_lstore_n (lv' := [(1, .long x3766), (3, .int x3617), (0, .ref (adK 2))]) hx hb dX9_codeOf_27 rfl hl (by decide) rfl (fun ls hl => ?_)
          obtain ⟨x3767, ex3767⟩ : ∃ y : Int32, y = x3617 + 1 := ⟨_, rfl⟩
          refine lv_iinc (v := x3767) (lv' := [(3, .int x3767), (1, .long x3766), (0, .ref (adK 2))]) hx hb dX9_codeOf_28 hl (k := 1) rfl (by rw [ex3767]; rfl) (by decide) rfl (fun ls hl => ?_)
          have tx3767 : x3767.toInt = x3617.toInt + (1 : Int32).toInt := by rw [ex3767]; exact i_add (by have bd_x3617 := i_bd x3617; (try simp only [i_lt, i_le, i_eq, kc_4, kc_0, kc_1] at t3620 h3622 h3621 c3630 c3677 c3678 ⊢); omega) (by have bd_x3617 := i_bd x3617; (try simp only [i_lt, i_le, i_eq, kc_4, kc_0, kc_1] at t3620 h3622 h3621 c3630 c3677 c3678 ⊢); omega)
          refine lv_goto (tgt := 4) hx hb dX9_codeOf_31 (by decide) ?_
          exact ih (j3616 + 1) x3767 x3766 (by rw [ex3767, e3619]; exact nI_1 _) (by omega) (by (try simp only [i_lt, i_le, i_eq, kc_4, kc_0, kc_1] at t3620 h3622 h3621 c3630 c3677 c3678 tx3767); omega) (by omega)  _ _ _ (hP.sub [] rfl) (hD.sub [] (by decide) rfl) hS  (lv_sub hl [0, 1, 2] rfl)
        · skip
          subst er3738
          refine lv_i2l hx hb dX9_codeOf_25 rfl ?_
          refine lv_topl (fun x3768 ex3768 => ?_)
          obtain rfl : x3768 = 0 := ex3768.trans (by decide)
          refine lv_ladd hx hb dX9_codeOf_26  ?_
          refine lv_topl (fun x3769 ex3769 => ?_)
          refine lv_lstore_n (lv' := [(1, .long x3769), (3, .int x3617), (0, .ref (adK 2))]) hx hb dX9_codeOf_27 rfl hl (by decide) rfl (fun ls hl => ?_)
          obtain ⟨x3770, ex3770⟩ : ∃ y : Int32, y = x3617 + 1 := ⟨_, rfl⟩
          refine lv_iinc (v := x3770) (lv' := [(3, .int x3770), (1, .long x3769), (0, .ref (adK 2))]) hx hb dX9_codeOf_28 hl (k := 1) rfl (by rw [ex3770]; rfl) (by decide) rfl (fun ls hl => ?_)
          have tx3770 : x3770.toInt = x3617.toInt + (1 : Int32).toInt := by rw [ex3770]; exact i_add (by have bd_x3617 := i_bd x3617; (try simp only [i_lt, i_le, i_eq, kc_4, kc_0, kc_1] at t3620 h3622 h3621 c3630 c3677 c3678 ⊢); omega) (by have bd_x3617 := i_bd x3617; (try simp only [i_lt, i_le, i_eq, kc_4, kc_0, kc_1] at t3620 h3622 h3621 c3630 c3677 c3678 ⊢); omega)
          refine lv_goto (tgt := 4) hx hb dX9_codeOf_31 (by decide) ?_
          exact ih (j3616 + 1) x3770 x3769 (by rw [ex3770, e3619]; exact nI_1 _) (by omega) (by (try simp only [i_lt, i_le, i_eq, kc_4, kc_0, kc_1] at t3620 h3622 h3621 c3630 c3677 c3678 tx3770); omega) (by omega)  _ _ _ (hP.sub [] rfl) (hD.sub [] (by decide) rfl) hS  (lv_sub hl [0, 1, 2] rfl)
        · skip
          have er3729 := er3743
          refine lv_i2l hx hb dX9_codeOf_25 rfl ?_
          refine lv_topl (fun x3771 ex3771 => ?_)
          refine lv_ladd hx hb dX9_codeOf_26  ?_
          refine lv_topl (fun x3772 ex3772 => ?_)
          refine lv_lstore_n (lv' := [(1, .long x3772), (3, .int x3617), (0, .ref (adK 2))]) hx hb dX9_codeOf_27 rfl hl (by decide) rfl (fun ls hl => ?_)
          obtain ⟨x3773, ex3773⟩ : ∃ y : Int32, y = x3617 + 1 := ⟨_, rfl⟩
          refine lv_iinc (v := x3773) (lv' := [(3, .int x3773), (1, .long x3772), (0, .ref (adK 2))]) hx hb dX9_codeOf_28 hl (k := 1) rfl (by rw [ex3773]; rfl) (by decide) rfl (fun ls hl => ?_)
          have tx3773 : x3773.toInt = x3617.toInt + (1 : Int32).toInt := by rw [ex3773]; exact i_add (by have bd_x3617 := i_bd x3617; (try simp only [i_lt, i_le, i_eq, kc_4, kc_0, kc_1] at t3620 h3622 h3621 c3630 c3677 c3678 ⊢); omega) (by have bd_x3617 := i_bd x3617; (try simp only [i_lt, i_le, i_eq, kc_4, kc_0, kc_1] at t3620 h3622 h3621 c3630 c3677 c3678 ⊢); omega)
          refine lv_goto (tgt := 4) hx hb dX9_codeOf_31 (by decide) ?_
          exact ih (j3616 + 1) x3773 x3772 (by rw [ex3773, e3619]; exact nI_1 _) (by omega) (by (try simp only [i_lt, i_le, i_eq, kc_4, kc_0, kc_1] at t3620 h3622 h3621 c3630 c3677 c3678 tx3773); omega) (by omega)  _ _ _ (hP.sub [] rfl) (hD.sub [] (by decide) rfl) hS  (lv_sub hl [0, 1, 2] rfl)
        · skip
          subst er3749
          refine lv_i2l hx hb dX9_codeOf_25 rfl ?_
          refine lv_topl (fun x3774 ex3774 => ?_)
          obtain rfl : x3774 = 0 := ex3774.trans (by decide)
          refine lv_ladd hx hb dX9_codeOf_26  ?_
          refine lv_topl (fun x3775 ex3775 => ?_)
          refine lv_lstore_n (lv' := [(1, .long x3775), (3, .int x3617), (0, .ref (adK 2))]) hx hb dX9_codeOf_27 rfl hl (by decide) rfl (fun ls hl => ?_)
          obtain ⟨x3776, ex3776⟩ : ∃ y : Int32, y = x3617 + 1 := ⟨_, rfl⟩
          refine lv_iinc (v := x3776) (lv' := [(3, .int x3776), (1, .long x3775), (0, .ref (adK 2))]) hx hb dX9_codeOf_28 hl (k := 1) rfl (by rw [ex3776]; rfl) (by decide) rfl (fun ls hl => ?_)
          have tx3776 : x3776.toInt = x3617.toInt + (1 : Int32).toInt := by rw [ex3776]; exact i_add (by have bd_x3617 := i_bd x3617; (try simp only [i_lt, i_le, i_eq, kc_4, kc_0, kc_1] at t3620 h3622 h3621 c3630 c3677 c3678 ⊢); omega) (by have bd_x3617 := i_bd x3617; (try simp only [i_lt, i_le, i_eq, kc_4, kc_0, kc_1] at t3620 h3622 h3621 c3630 c3677 c3678 ⊢); omega)
          refine lv_goto (tgt := 4) hx hb dX9_codeOf_31 (by decide) ?_
          exact ih (j3616 + 1) x3776 x3775 (by rw [ex3776, e3619]; exact nI_1 _) (by omega) (by (try simp only [i_lt, i_le, i_eq, kc_4, kc_0, kc_1] at t3620 h3622 h3621 c3630 c3677 c3678 tx3776); omega) (by omega)  _ _ _ (hP.sub [] rfl) (hD.sub [] (by decide) rfl) hS  (lv_sub hl [0, 1, 2] rfl)
        · skip
          subst er3756
          refine lv_i2l hx hb dX9_codeOf_25 rfl ?_
          refine lv_topl (fun x3777 ex3777 => ?_)
          obtain rfl : x3777 = 0 := ex3777.trans (by decide)
          refine lv_ladd hx hb dX9_codeOf_26  ?_
          refine lv_topl (fun x3778 ex3778 => ?_)
          refine lv_lstore_n (lv' := [(1, .long x3778), (3, .int x3617), (0, .ref (adK 2))]) hx hb dX9_codeOf_27 rfl hl (by decide) rfl (fun ls hl => ?_)
          obtain ⟨x3779, ex3779⟩ : ∃ y : Int32, y = x3617 + 1 := ⟨_, rfl⟩
          refine lv_iinc (v := x3779) (lv' := [(3, .int x3779), (1, .long x3778), (0, .ref (adK 2))]) hx hb dX9_codeOf_28 hl (k := 1) rfl (by rw [ex3779]; rfl) (by decide) rfl (fun ls hl => ?_)
          have tx3779 : x3779.toInt = x3617.toInt + (1 : Int32).toInt := by rw [ex3779]; exact i_add (by have bd_x3617 := i_bd x3617; (try simp only [i_lt, i_le, i_eq, kc_4, kc_0, kc_1] at t3620 h3622 h3621 c3630 c3677 c3678 ⊢); omega) (by have bd_x3617 := i_bd x3617; (try simp only [i_lt, i_le, i_eq, kc_4, kc_0, kc_1] at t3620 h3622 h3621 c3630 c3677 c3678 ⊢); omega)
          refine lv_goto (tgt := 4) hx hb dX9_codeOf_31 (by decide) ?_
          exact ih (j3616 + 1) x3779 x3778 (by rw [ex3779, e3619]; exact nI_1 _) (by omega) (by (try simp only [i_lt, i_le, i_eq, kc_4, kc_0, kc_1] at t3620 h3622 h3621 c3630 c3677 c3678 tx3779); omega) (by omega)  _ _ _ (hP.sub [] rfl) (hD.sub [] (by decide) rfl) hS  (lv_sub hl [0, 1, 2] rfl)
        · skip
          have er3729 := er3761
          refine lv_i2l hx hb dX9_codeOf_25 rfl ?_
          refine lv_topl (fun x3780 ex3780 => ?_)
          refine lv_ladd hx hb dX9_codeOf_26  ?_
          refine lv_topl (fun x3781 ex3781 => ?_)
          refine lv_lstore_n (lv' := [(1, .long x3781), (3, .int x3617), (0, .ref (adK 2))]) hx hb dX9_codeOf_27 rfl hl (by decide) rfl (fun ls hl => ?_)
          obtain ⟨x3782, ex3782⟩ : ∃ y : Int32, y = x3617 + 1 := ⟨_, rfl⟩
          refine lv_iinc (v := x3782) (lv' := [(3, .int x3782), (1, .long x3781), (0, .ref (adK 2))]) hx hb dX9_codeOf_28 hl (k := 1) rfl (by rw [ex3782]; rfl) (by decide) rfl (fun ls hl => ?_)
          have tx3782 : x3782.toInt = x3617.toInt + (1 : Int32).toInt := by rw [ex3782]; exact i_add (by have bd_x3617 := i_bd x3617; (try simp only [i_lt, i_le, i_eq, kc_4, kc_0, kc_1] at t3620 h3622 h3621 c3630 c3677 c3678 ⊢); omega) (by have bd_x3617 := i_bd x3617; (try simp only [i_lt, i_le, i_eq, kc_4, kc_0, kc_1] at t3620 h3622 h3621 c3630 c3677 c3678 ⊢); omega)
          refine lv_goto (tgt := 4) hx hb dX9_codeOf_31 (by decide) ?_
          exact ih (j3616 + 1) x3782 x3781 (by rw [ex3782, e3619]; exact nI_1 _) (by omega) (by (try simp only [i_lt, i_le, i_eq, kc_4, kc_0, kc_1] at t3620 h3622 h3621 c3630 c3677 c3678 tx3782); omega) (by omega)  _ _ _ (hP.sub [] rfl) (hD.sub [] (by decide) rfl) hS  (lv_sub hl [0, 1, 2] rfl)
        · skip
          have er3729 := er3764
          refine lv_i2l hx hb dX9_codeOf_25 rfl ?_
          refine lv_topl (fun x3783 ex3783 => ?_)
          refine lv_ladd hx hb dX9_codeOf_26  ?_
          refine lv_topl (fun x3784 ex3784 => ?_)
          refine lv_lstore_n (lv' := [(1, .long x3784), (3, .int x3617), (0, .ref (adK 2))]) hx hb dX9_codeOf_27 rfl hl (by decide) rfl (fun ls hl => ?_)
          obtain ⟨x3785, ex3785⟩ : ∃ y : Int32, y = x3617 + 1 := ⟨_, rfl⟩
          refine lv_iinc (v := x3785) (lv' := [(3, .int x3785), (1, .long x3784), (0, .ref (adK 2))]) hx hb dX9_codeOf_28 hl (k := 1) rfl (by rw [ex3785]; rfl) (by decide) rfl (fun ls hl => ?_)
          have tx3785 : x3785.toInt = x3617.toInt + (1 : Int32).toInt := by rw [ex3785]; exact i_add (by have bd_x3617 := i_bd x3617; (try simp only [i_lt, i_le, i_eq, kc_4, kc_0, kc_1] at t3620 h3622 h3621 c3630 c3677 c3678 ⊢); omega) (by have bd_x3617 := i_bd x3617; (try simp only [i_lt, i_le, i_eq, kc_4, kc_0, kc_1] at t3620 h3622 h3621 c3630 c3677 c3678 ⊢); omega)
          refine lv_goto (tgt := 4) hx hb dX9_codeOf_31 (by decide) ?_
          exact ih (j3616 + 1) x3785 x3784 (by rw [ex3785, e3619]; exact nI_1 _) (by omega) (by (try simp only [i_lt, i_le, i_eq, kc_4, kc_0, kc_1] at t3620 h3622 h3621 c3630 c3677 c3678 tx3785); omega) (by omega)  _ _ _ (hP.sub [] rfl) (hD.sub [] (by decide) rfl) hS  (lv_sub hl [0, 1, 2] rfl)
  exact HL1 5 0 (0) (0) (by decide) (by omega) (by omega) (by omega)  _ _ _ hP hD hS  hl

def l_k_X7 : List Cond := [.methodLink RX7 3 objectInit, .instanceMethod objectInit, .code objectInit ⟨#[0xb1]⟩ 1 none, .fieldLink RX7 9 "HeapWorks$RuleText" "tape" "LHeapWorks$Tape;", .methodLink RX7 17 yX9_codeOf, .static yX9_codeOf, .initialized RX9, .fieldLink RX7 23 "HeapWorks$RuleText" "ifCode" "J", .fieldLink RX7 29 "HeapWorks$RuleText" "linkCode" "J", .arrayClass .int, .fieldLink RX7 32 "HeapWorks$RuleText" "headRelation" "[I", .fieldLink RX7 36 "HeapWorks$RuleText" "headA" "[I", .fieldLink RX7 39 "HeapWorks$RuleText" "headB" "[I", .fieldLink RX7 42 "HeapWorks$RuleText" "variableCount" "[I", .fieldLink RX7 45 "HeapWorks$RuleText" "bodyCount" "[I", .fieldLink RX7 48 "HeapWorks$RuleText" "bodyRelation" "[I", .fieldLink RX7 51 "HeapWorks$RuleText" "bodyA" "[I", .fieldLink RX7 54 "HeapWorks$RuleText" "bodyB" "[I", .arrayClass .long, .fieldLink RX7 57 "HeapWorks$RuleText" "bodyName" "[J", .fieldLink RX7 61 "HeapWorks$RuleText" "variableName" "[J", .fieldLink RX7 64 "HeapWorks$RuleText" "relationName" "[J", .fieldLink RX7 67 "HeapWorks$RuleText" "arity" "[I", .code yX9_codeOf cX9_codeOf 4 (some .long), .methodLink RX9 33 yJ0_length_8abf5, .instanceMethod yJ0_length_8abf5, .selects RJ0 yJ0_length_8abf5 yJ0_length_8abf5, .initialized RJ0, .constantLong RX9 43 (64), .methodLink RX9 39 yJ0_charAt_5068e, .instanceMethod yJ0_charAt_5068e, .selects RJ0 yJ0_charAt_5068e yJ0_charAt_5068e, .methodLink RX9 45 yX9_symbolOf, .static yX9_symbolOf, .code yJ0_length_8abf5 cJ0_length_8abf5 1 (some .int), .fieldLink RJ0 9 "java/lang/String" "value" "[B", .methodLink RJ0 335 yJ0_coder_7d493, .instanceMethod yJ0_coder_7d493, .selects RJ0 yJ0_coder_7d493 yJ0_coder_7d493, .code yJ0_coder_7d493 cJ0_coder_7d493 1 (some .byte), .fieldLink RJ0 38 "java/lang/String" "COMPACT_STRINGS" "Z", .fieldLink RJ0 15 "java/lang/String" "coder" "B", .code yJ0_charAt_5068e cJ0_charAt_5068e 2 (some .char), .methodLink RJ0 492 yJ0_isLatin1_aae02, .instanceMethod yJ0_isLatin1_aae02, .selects RJ0 yJ0_isLatin1_aae02 yJ0_isLatin1_aae02, .methodLink RJ0 495 yJ1_charAt_3b067, .static yJ1_charAt_3b067, .initialized RJ1, .code yJ0_isLatin1_aae02 cJ0_isLatin1_aae02 1 (some .boolean), .code yJ1_charAt_3b067 cJ1_charAt_3b067 2 (some .char), .methodLink RJ1 9 yJ0_checkIndex_df160, .static yJ0_checkIndex_df160, .code yJ0_checkIndex_df160 cJ0_checkIndex_df160 2 none, .fieldLink RJ0 1053 "jdk/internal/util/Preconditions" "SIOOBE_FORMATTER" "Ljava/util/function/BiFunction;", .methodLink RJ0 1059 yJ3_checkIndex_8e157, .static yJ3_checkIndex_8e157, .initialized RJ3, .code yJ3_checkIndex_8e157 cJ3_checkIndex_8e157 3 (some .int), .code yX9_symbolOf cX9_symbolOf 1 (some .int), .methodLink RX9 65 yX9_isDigit, .static yX9_isDigit, .code yX9_isDigit cX9_isDigit 1 (some .boolean)]
def w_k_X7 : List Cond := .code yX7_init cX7_init 2 none :: (l_k_X7 ++ (wsX70))
theorem in_k_X7_X7 : ∀ w ∈ wsX70, w ∈ w_k_X7 := fun w h => List.mem_cons_of_mem _ (List.mem_append_right _ (h))
theorem g_k_X7_zk_X9_codeOf_17 : GoodIn w_k_X7 (va_wsS RX7 17 yX9_codeOf w_zk_X9_codeOf) := goodIn_app (goodIn_sub (by decide +kernel) (by decide +kernel)) (goodIn_sub (by decide +kernel) (by decide +kernel))
theorem g_k_X7_zk_X9_codeOf_1_17 : GoodIn w_k_X7 (va_wsS RX7 17 yX9_codeOf w_zk_X9_codeOf_1) := goodIn_app (goodIn_sub (by decide +kernel) (by decide +kernel)) (goodIn_sub (by decide +kernel) (by decide +kernel))
set_option maxHeartbeats 4000000 in
set_option maxRecDepth 100000 in
theorem k_X7 (l : Launch) (dC : Nat → ClassId) (dI : Nat → Nat → Nat) (sz : Nat) (adK adV : Nat → Nat) (a0 : Nat) (fs0 : List Value) (b0 : Nat) (k_fs0 : fh fs0 21 [(0, .null), (1, .long 0), (2, .long 0), (3, .int 0), (4, .null), (5, .null), (6, .null), (7, .null), (8, .null), (9, .null), (10, .null), (11, .null), (12, .null), (13, .null), (14, .int 0), (15, .int 0), (16, .int 0), (17, .null), (18, .null), (19, .int 0), (20, .int 0)])  : Met l yX7_init w_k_X7 ({ frames := 5, cells := 12, slots := 267, locals := 108 }) (va_Pc [.ref a0, .ref b0] (fun U => U.heap.size = sz ∧ Kc adK adV (va_A [(a0, .inr (10, fs0))] sz) U ∧ Wd dC dI [] (fun _ => True) [(a0, .inr (10, fs0))] U)) (va_Qv (fun (u : List Value) => ow fs0 (u) 21 [18, 17, 13, 12, 11, 10, 9, 8, 7, 6, 5, 4, 2, 1, 0] [(0, .ref b0), (16, .int 0)]) (fun (u : List Value) t => Wd dC dI [] (va_A [(a0, .inr (10, fs0))] sz) [(a0, .inr (10, (u)))] t) (va_A [(a0, .inr (10, fs0))] sz))  12 267 (va_A [(a0, .inr (10, fs0))] sz) := by
  refine Met.ofW (cc := cX7_init) (maxL := 2) (ret := none) (by decide) rfl ?_
  intro p e s m args below meth c s₁ B hml hv
  obtain ⟨rfl, hsz, hC, hP, hK, hD0⟩ := hv
  have hx := B.exec
  have hb := B.bytes
  have hr := B.returns
  have hts := atoms_spec (ws := w_k_X7) B.pre
  have hown : s.vm.findClass RX7 = some m.cls := findClass_of_methodNamed B.named
  have hlocks := B.notSynchronized
  have hin : meth.name = "<init>" := (name_of_methodNamed B.named B.method).1
  subst hsz
  have hD := hD0.self (sz := s.heap.size)
  generalize hAe : va_A [(a0, .inr (10, fs0))] s.heap.size = A at hD hC ⊢
  have hA : ∀ q : Nat, s.heap.size ≤ q → A q := fun q h => by rw [← hAe]; exact Or.inr h
  have hS : va_S A s.heap s.heap [] := va_S.rf
  have hl := lv_entry ([.ref a0, .ref b0]) (n := 2) (Nat.le_of_ble_eq_true rfl)
  rw [lg_entry_eq]
  generalize (lg_sl ([.ref a0, .ref b0]) ++ List.replicate (2 - (lg_sl ([.ref a0, .ref b0])).length) Slot.unset).toArray = ls at hl ⊢
  have hl : lv_has ls 2 [(0, .ref a0), (1, .ref b0)] := hl
  have o_fs0 := ow_0 k_fs0
  refine lv_aload_n hx hb dX7_init_0 rfl (lv_at hl 0 rfl) ?_
  refine W.objInit hx hb hown (hts (.methodLink RX7 3 objectInit) (by decide +kernel)) (hts (.instanceMethod objectInit) (by decide +kernel)) (hts (.code objectInit ⟨#[0xb1]⟩ 1 none) (by decide +kernel)) rfl (by rw [hml]; exact hl.1) rfl dX7_init_1 (Nat.le_of_ble_eq_true rfl) (Nat.le_of_ble_eq_true rfl) ?_
  refine W.eq (g2 := F0 m 4 ls []) rfl ?_
  refine lv_aload_n hx hb dX7_init_4 rfl (lv_at hl 0 rfl) ?_
  refine lv_aload_n hx hb dX7_init_5 rfl (lv_at hl 1 rfl) ?_
  refine va_putF (D := (dC, dI)) (ci := 10) (v := .ref b0) (ty := .object "HeapWorks$Tape") (C := RX7) (T := TX7) (N := 21) hx hb hts (in_k_X7_X7) tyX7 tyX7_ok nmX7 hown hK hP hD hS 0 rfl rfl 0 (by decide) (hts (.fieldLink RX7 9 "HeapWorks$RuleText" "tape" "LHeapWorks$Tape;") (by decide +kernel)) (fun _ h9 => h9) rfl hin rfl (by decide +kernel) rfl rfl (by rw [o_fs0.2.1]; decide) dX7_init_6 (fun H locs hP hD hS => ?_)
  have hP : va_P (dC, dI) vwCl [(a0, .inr (10, (fs0.set 0 (.ref b0))))] H := hP
  have hD : va_D A [(a0, .inr (10, (fs0.set 0 (.ref b0))))] := hD
  have o_s1573 := ow_set o_fs0 0 (.ref b0) (by decide) (l' := [(0, .ref b0), (1, .long 0), (2, .long 0), (3, .int 0), (4, .null), (5, .null), (6, .null), (7, .null), (8, .null), (9, .null), (10, .null), (11, .null), (12, .null), (13, .null), (14, .int 0), (15, .int 0), (16, .int 0), (17, .null), (18, .null), (19, .int 0), (20, .int 0)]) (w' := [0]) rfl rfl
  generalize (fs0.set 0 (.ref b0)) = s1573 at hP hD o_s1573
  refine lv_aload_n hx hb dX7_init_9 rfl (lv_at hl 0 rfl) ?_
  refine va_ldcS hx hb hown hC.2.2.1 dX7_init_10 ?_
  have hPc := hP.sub (ws' := []) [] rfl
  have hDc := hD.sub (ws' := []) [] (by decide) rfl
  have hKc := hK.sub (tys' := []) [] rfl
  have hFc := va_free (wc := []) hD hS hA [] rfl
  refine va_calll (va_runS (As := [.ref (adK 1)]) (rest := [.ref a0]) ⟨hx, hb, hml, hown, hts⟩ (zk_X9_codeOf l dC dI H.size adK adV   ) (va_cwS 1 hts g_k_X7_zk_X9_codeOf_17 rfl rfl rfl (by decide +kernel) ⟨Nat.le_of_ble_eq_true rfl, Nat.le_of_ble_eq_true rfl⟩) ⟨fun a U g mk q => by obtain ⟨q0, q1, qC, qP, qK, qD⟩ := q; exact ⟨q0, q1, Kc_call qC, qP, va_K.moved (u := U) (U := U.calling g mk a) (Vm.Alike.refl U.vm) qK, qD⟩, fun U hU hW => ⟨rfl, by rw [hU], Kc_go hC hS hFc hU hW, by rw [hU]; exact hPc, va_K.moved hW.alike hKc, hDc.weaken (fun _ _ _ _ => trivial)⟩⟩ rfl rfl hl.1 rfl (lv_room (Nat.le_of_ble_eq_true rfl)) dX7_init_12 ⟨Nat.le_of_ble_eq_true rfl, Nat.le_of_ble_eq_true rfl⟩) hS (fun q _ h => hFc q h) hFc (fun r2679 u t H1 locs ht hvm hw hB hz1 hk1 hS => ?_)
  obtain ⟨hP1, hK1, hD1⟩ := hB
  rw [ht] at hP1
  try dsimp only at hw
  obtain ⟨hP, hD⟩ := va_join (wr := [(a0, .inr (10, s1573))]) (w1 := []) hP hD [] [0] rfl rfl (by decide) (by decide) hk1 hFc hP1 hD1
  have hK := hK.sub (tys' := []) [] rfl
  generalize H1 = H at hP hS ⊢
  have hP : va_P (dC, dI) vwCl [(a0, .inr (10, s1573))] H := hP
  have hD : va_D A [(a0, .inr (10, s1573))] := hD
  refine va_putF (D := (dC, dI)) (ci := 10) (v := .long r2679) (ty := .long) (C := RX7) (T := TX7) (N := 21) hx hb hts (in_k_X7_X7) tyX7 tyX7_ok nmX7 hown hK hP hD hS 0 rfl rfl 1 (by decide) (hts (.fieldLink RX7 23 "HeapWorks$RuleText" "ifCode" "J") (by decide +kernel)) (fun _ h9 => h9) rfl hin rfl (by decide +kernel) rfl rfl (by rw [o_s1573.2.1]; decide) dX7_init_15 (fun H locs hP hD hS => ?_)
  have hP : va_P (dC, dI) vwCl [(a0, .inr (10, (s1573.set 1 (.long r2679))))] H := hP
  have hD : va_D A [(a0, .inr (10, (s1573.set 1 (.long r2679))))] := hD
  have o_s2680 := ow_set o_s1573 1 (.long r2679) (by decide) (l' := [(1, .long r2679), (0, .ref b0), (2, .long 0), (3, .int 0), (4, .null), (5, .null), (6, .null), (7, .null), (8, .null), (9, .null), (10, .null), (11, .null), (12, .null), (13, .null), (14, .int 0), (15, .int 0), (16, .int 0), (17, .null), (18, .null), (19, .int 0), (20, .int 0)]) (w' := [1, 0]) rfl rfl
  generalize (s1573.set 1 (.long r2679)) = s2680 at hP hD o_s2680
  refine lv_aload_n hx hb dX7_init_18 rfl (lv_at hl 0 rfl) ?_
  refine va_ldcS hx hb hown hC.2.2.2.1 dX7_init_19 ?_
  have hPc := hP.sub (ws' := []) [] rfl
  have hDc := hD.sub (ws' := []) [] (by decide) rfl
  have hKc := hK.sub (tys' := []) [] rfl
  have hFc := va_free (wc := []) hD hS hA [] rfl
  refine va_calll (va_runS (As := [.ref (adK 2)]) (rest := [.ref a0]) ⟨hx, hb, hml, hown, hts⟩ (zk_X9_codeOf_1 l dC dI H.size adK adV   ) (va_cwS 1 hts g_k_X7_zk_X9_codeOf_1_17 rfl rfl rfl (by decide +kernel) ⟨Nat.le_of_ble_eq_true rfl, Nat.le_of_ble_eq_true rfl⟩) ⟨fun a U g mk q => by obtain ⟨q0, q1, qC, qP, qK, qD⟩ := q; exact ⟨q0, q1, Kc_call qC, qP, va_K.moved (u := U) (U := U.calling g mk a) (Vm.Alike.refl U.vm) qK, qD⟩, fun U hU hW => ⟨rfl, by rw [hU], Kc_go hC hS hFc hU hW, by rw [hU]; exact hPc, va_K.moved hW.alike hKc, hDc.weaken (fun _ _ _ _ => trivial)⟩⟩ rfl rfl hl.1 rfl (lv_room (Nat.le_of_ble_eq_true rfl)) dX7_init_21 ⟨Nat.le_of_ble_eq_true rfl, Nat.le_of_ble_eq_true rfl⟩) hS (fun q _ h => hFc q h) hFc (fun r3786 u t H1 locs ht hvm hw hB hz1 hk1 hS => ?_)
  obtain ⟨hP1, hK1, hD1⟩ := hB
  rw [ht] at hP1
  try dsimp only at hw
  obtain ⟨hP, hD⟩ := va_join (wr := [(a0, .inr (10, s2680))]) (w1 := []) hP hD [] [0] rfl rfl (by decide) (by decide) hk1 hFc hP1 hD1
  have hK := hK.sub (tys' := []) [] rfl
  generalize H1 = H at hP hS ⊢
  have hP : va_P (dC, dI) vwCl [(a0, .inr (10, s2680))] H := hP
  have hD : va_D A [(a0, .inr (10, s2680))] := hD
  refine va_putF (D := (dC, dI)) (ci := 10) (v := .long r3786) (ty := .long) (C := RX7) (T := TX7) (N := 21) hx hb hts (in_k_X7_X7) tyX7 tyX7_ok nmX7 hown hK hP hD hS 0 rfl rfl 2 (by decide) (hts (.fieldLink RX7 29 "HeapWorks$RuleText" "linkCode" "J") (by decide +kernel)) (fun _ h9 => h9) rfl hin rfl (by decide +kernel) rfl rfl (by rw [o_s2680.2.1]; decide) dX7_init_24 (fun H locs hP hD hS => ?_)
  have hP : va_P (dC, dI) vwCl [(a0, .inr (10, (s2680.set 2 (.long r3786))))] H := hP
  have hD : va_D A [(a0, .inr (10, (s2680.set 2 (.long r3786))))] := hD
  have o_s3787 := ow_set o_s2680 2 (.long r3786) (by decide) (l' := [(2, .long r3786), (1, .long r2679), (0, .ref b0), (3, .int 0), (4, .null), (5, .null), (6, .null), (7, .null), (8, .null), (9, .null), (10, .null), (11, .null), (12, .null), (13, .null), (14, .int 0), (15, .int 0), (16, .int 0), (17, .null), (18, .null), (19, .int 0), (20, .int 0)]) (w' := [2, 1, 0]) rfl rfl
  generalize (s2680.set 2 (.long r3786)) = s3787 at hP hD o_s3787
  refine lv_aload_n hx hb dX7_init_27 rfl (lv_at hl 0 rfl) ?_
  refine lv_bipush (v := 12) hx hb dX7_init_28 (by decide) ?_
  refine va_newa (atype := .int) (ty := .int) (a0 := (12, .inl (fun _ : Nat => (0 : Int32)))) (N' := 12) hx hb (hts (.arrayClass .int) (by decide +kernel)) rfl hK hP hD hS hA (na_I 12) (by decide) (by decide) (by decide) (Nat.le_of_ble_eq_true rfl) (Nat.le_of_ble_eq_true rfl) dX7_init_30 (fun q3788 k3789 H hK hP hD hS => ?_)
  have hK : va_K (dC, dI) vwCl [(k3789, .int)] s := hK
  have hP : va_P (dC, dI) vwCl [(a0, .inr (10, s3787)), (q3788, .inl (k3789, 12, .inl ((fun _ : Nat => (0 : Int32)))))] H := hP
  have hD : va_D A [(a0, .inr (10, s3787)), (q3788, .inl (k3789, 12, .inl ((fun _ : Nat => (0 : Int32)))))] := hD
  have z3791 : ∀ j, (fun _ : Nat => (0 : Int32)) j = 0 := fun _ => rfl
  generalize (fun _ : Nat => (0 : Int32)) = f3790 at hP hD z3791
  refine W.widen (k := 1) (n := 12) (by omega) (by omega) ?_
  refine va_putF (D := (dC, dI)) (ci := 10) (v := .ref q3788) (ty := .array .int) (C := RX7) (T := TX7) (N := 21) hx hb hts (in_k_X7_X7) tyX7 tyX7_ok nmX7 hown hK hP hD hS 0 rfl rfl 4 (by decide) (hts (.fieldLink RX7 32 "HeapWorks$RuleText" "headRelation" "[I") (by decide +kernel)) (fun _ h9 => h9) rfl hin rfl (by decide +kernel) rfl rfl (by rw [o_s3787.2.1]; decide) dX7_init_32 (fun H locs hP hD hS => ?_)
  have hP : va_P (dC, dI) vwCl [(a0, .inr (10, (s3787.set 4 (.ref q3788)))), (q3788, .inl (k3789, 12, .inl f3790))] H := hP
  have hD : va_D A [(a0, .inr (10, (s3787.set 4 (.ref q3788)))), (q3788, .inl (k3789, 12, .inl f3790))] := hD
  have o_s3792 := ow_set o_s3787 4 (.ref q3788) (by decide) (l' := [(4, .ref q3788), (2, .long r3786), (1, .long r2679), (0, .ref b0), (3, .int 0), (5, .null), (6, .null), (7, .null), (8, .null), (9, .null), (10, .null), (11, .null), (12, .null), (13, .null), (14, .int 0), (15, .int 0), (16, .int 0), (17, .null), (18, .null), (19, .int 0), (20, .int 0)]) (w' := [4, 2, 1, 0]) rfl rfl
  generalize (s3787.set 4 (.ref q3788)) = s3792 at hP hD o_s3792
  have hP := hP.sub (ws' := [(a0, .inr (10, s3792))]) [0] rfl
  have hD := hD.sub (ws' := [(a0, .inr (10, s3792))]) [0] (by decide) rfl
  have hK := hK.sub (tys' := []) [] rfl
  refine lv_aload_n hx hb dX7_init_35 rfl (lv_at hl 0 rfl) ?_
  refine lv_bipush (v := 12) hx hb dX7_init_36 (by decide) ?_
  refine va_newa (atype := .int) (ty := .int) (a0 := (12, .inl (fun _ : Nat => (0 : Int32)))) (N' := 12) hx hb (hts (.arrayClass .int) (by decide +kernel)) rfl hK hP hD hS hA (na_I 12) (by decide) (by decide) (by decide) (Nat.le_of_ble_eq_true rfl) (Nat.le_of_ble_eq_true rfl) dX7_init_38 (fun q3793 k3794 H hK hP hD hS => ?_)
  have hK : va_K (dC, dI) vwCl [(k3794, .int)] s := hK
  have hP : va_P (dC, dI) vwCl [(a0, .inr (10, s3792)), (q3793, .inl (k3794, 12, .inl ((fun _ : Nat => (0 : Int32)))))] H := hP
  have hD : va_D A [(a0, .inr (10, s3792)), (q3793, .inl (k3794, 12, .inl ((fun _ : Nat => (0 : Int32)))))] := hD
  have z3796 : ∀ j, (fun _ : Nat => (0 : Int32)) j = 0 := fun _ => rfl
  generalize (fun _ : Nat => (0 : Int32)) = f3795 at hP hD z3796
  refine W.widen (k := 2) (n := 24) (by omega) (by omega) ?_
  refine va_putF (D := (dC, dI)) (ci := 10) (v := .ref q3793) (ty := .array .int) (C := RX7) (T := TX7) (N := 21) hx hb hts (in_k_X7_X7) tyX7 tyX7_ok nmX7 hown hK hP hD hS 0 rfl rfl 5 (by decide) (hts (.fieldLink RX7 36 "HeapWorks$RuleText" "headA" "[I") (by decide +kernel)) (fun _ h9 => h9) rfl hin rfl (by decide +kernel) rfl rfl (by rw [o_s3792.2.1]; decide) dX7_init_40 (fun H locs hP hD hS => ?_)
  have hP : va_P (dC, dI) vwCl [(a0, .inr (10, (s3792.set 5 (.ref q3793)))), (q3793, .inl (k3794, 12, .inl f3795))] H := hP
  have hD : va_D A [(a0, .inr (10, (s3792.set 5 (.ref q3793)))), (q3793, .inl (k3794, 12, .inl f3795))] := hD
  have o_s3797 := ow_set o_s3792 5 (.ref q3793) (by decide) (l' := [(5, .ref q3793), (4, .ref q3788), (2, .long r3786), (1, .long r2679), (0, .ref b0), (3, .int 0), (6, .null), (7, .null), (8, .null), (9, .null), (10, .null), (11, .null), (12, .null), (13, .null), (14, .int 0), (15, .int 0), (16, .int 0), (17, .null), (18, .null), (19, .int 0), (20, .int 0)]) (w' := [5, 4, 2, 1, 0]) rfl rfl
  generalize (s3792.set 5 (.ref q3793)) = s3797 at hP hD o_s3797
  have hP := hP.sub (ws' := [(a0, .inr (10, s3797))]) [0] rfl
  have hD := hD.sub (ws' := [(a0, .inr (10, s3797))]) [0] (by decide) rfl
  have hK := hK.sub (tys' := []) [] rfl
  refine lv_aload_n hx hb dX7_init_43 rfl (lv_at hl 0 rfl) ?_
  refine lv_bipush (v := 12) hx hb dX7_init_44 (by decide) ?_
  refine va_newa (atype := .int) (ty := .int) (a0 := (12, .inl (fun _ : Nat => (0 : Int32)))) (N' := 12) hx hb (hts (.arrayClass .int) (by decide +kernel)) rfl hK hP hD hS hA (na_I 12) (by decide) (by decide) (by decide) (Nat.le_of_ble_eq_true rfl) (Nat.le_of_ble_eq_true rfl) dX7_init_46 (fun q3798 k3799 H hK hP hD hS => ?_)
  have hK : va_K (dC, dI) vwCl [(k3799, .int)] s := hK
  have hP : va_P (dC, dI) vwCl [(a0, .inr (10, s3797)), (q3798, .inl (k3799, 12, .inl ((fun _ : Nat => (0 : Int32)))))] H := hP
  have hD : va_D A [(a0, .inr (10, s3797)), (q3798, .inl (k3799, 12, .inl ((fun _ : Nat => (0 : Int32)))))] := hD
  have z3801 : ∀ j, (fun _ : Nat => (0 : Int32)) j = 0 := fun _ => rfl
  generalize (fun _ : Nat => (0 : Int32)) = f3800 at hP hD z3801
  refine W.widen (k := 3) (n := 36) (by omega) (by omega) ?_
  refine va_putF (D := (dC, dI)) (ci := 10) (v := .ref q3798) (ty := .array .int) (C := RX7) (T := TX7) (N := 21) hx hb hts (in_k_X7_X7) tyX7 tyX7_ok nmX7 hown hK hP hD hS 0 rfl rfl 6 (by decide) (hts (.fieldLink RX7 39 "HeapWorks$RuleText" "headB" "[I") (by decide +kernel)) (fun _ h9 => h9) rfl hin rfl (by decide +kernel) rfl rfl (by rw [o_s3797.2.1]; decide) dX7_init_48 (fun H locs hP hD hS => ?_)
  have hP : va_P (dC, dI) vwCl [(a0, .inr (10, (s3797.set 6 (.ref q3798)))), (q3798, .inl (k3799, 12, .inl f3800))] H := hP
  have hD : va_D A [(a0, .inr (10, (s3797.set 6 (.ref q3798)))), (q3798, .inl (k3799, 12, .inl f3800))] := hD
  have o_s3802 := ow_set o_s3797 6 (.ref q3798) (by decide) (l' := [(6, .ref q3798), (5, .ref q3793), (4, .ref q3788), (2, .long r3786), (1, .long r2679), (0, .ref b0), (3, .int 0), (7, .null), (8, .null), (9, .null), (10, .null), (11, .null), (12, .null), (13, .null), (14, .int 0), (15, .int 0), (16, .int 0), (17, .null), (18, .null), (19, .int 0), (20, .int 0)]) (w' := [6, 5, 4, 2, 1, 0]) rfl rfl
  generalize (s3797.set 6 (.ref q3798)) = s3802 at hP hD o_s3802
  have hP := hP.sub (ws' := [(a0, .inr (10, s3802))]) [0] rfl
  have hD := hD.sub (ws' := [(a0, .inr (10, s3802))]) [0] (by decide) rfl
  have hK := hK.sub (tys' := []) [] rfl
  refine lv_aload_n hx hb dX7_init_51 rfl (lv_at hl 0 rfl) ?_
  refine lv_bipush (v := 12) hx hb dX7_init_52 (by decide) ?_
  refine va_newa (atype := .int) (ty := .int) (a0 := (12, .inl (fun _ : Nat => (0 : Int32)))) (N' := 12) hx hb (hts (.arrayClass .int) (by decide +kernel)) rfl hK hP hD hS hA (na_I 12) (by decide) (by decide) (by decide) (Nat.le_of_ble_eq_true rfl) (Nat.le_of_ble_eq_true rfl) dX7_init_54 (fun q3803 k3804 H hK hP hD hS => ?_)
  have hK : va_K (dC, dI) vwCl [(k3804, .int)] s := hK
  have hP : va_P (dC, dI) vwCl [(a0, .inr (10, s3802)), (q3803, .inl (k3804, 12, .inl ((fun _ : Nat => (0 : Int32)))))] H := hP
  have hD : va_D A [(a0, .inr (10, s3802)), (q3803, .inl (k3804, 12, .inl ((fun _ : Nat => (0 : Int32)))))] := hD
  have z3806 : ∀ j, (fun _ : Nat => (0 : Int32)) j = 0 := fun _ => rfl
  generalize (fun _ : Nat => (0 : Int32)) = f3805 at hP hD z3806
  refine W.widen (k := 4) (n := 48) (by omega) (by omega) ?_
  refine va_putF (D := (dC, dI)) (ci := 10) (v := .ref q3803) (ty := .array .int) (C := RX7) (T := TX7) (N := 21) hx hb hts (in_k_X7_X7) tyX7 tyX7_ok nmX7 hown hK hP hD hS 0 rfl rfl 7 (by decide) (hts (.fieldLink RX7 42 "HeapWorks$RuleText" "variableCount" "[I") (by decide +kernel)) (fun _ h9 => h9) rfl hin rfl (by decide +kernel) rfl rfl (by rw [o_s3802.2.1]; decide) dX7_init_56 (fun H locs hP hD hS => ?_)
  have hP : va_P (dC, dI) vwCl [(a0, .inr (10, (s3802.set 7 (.ref q3803)))), (q3803, .inl (k3804, 12, .inl f3805))] H := hP
  have hD : va_D A [(a0, .inr (10, (s3802.set 7 (.ref q3803)))), (q3803, .inl (k3804, 12, .inl f3805))] := hD
  have o_s3807 := ow_set o_s3802 7 (.ref q3803) (by decide) (l' := [(7, .ref q3803), (6, .ref q3798), (5, .ref q3793), (4, .ref q3788), (2, .long r3786), (1, .long r2679), (0, .ref b0), (3, .int 0), (8, .null), (9, .null), (10, .null), (11, .null), (12, .null), (13, .null), (14, .int 0), (15, .int 0), (16, .int 0), (17, .null), (18, .null), (19, .int 0), (20, .int 0)]) (w' := [7, 6, 5, 4, 2, 1, 0]) rfl rfl
  generalize (s3802.set 7 (.ref q3803)) = s3807 at hP hD o_s3807
  have hP := hP.sub (ws' := [(a0, .inr (10, s3807))]) [0] rfl
  have hD := hD.sub (ws' := [(a0, .inr (10, s3807))]) [0] (by decide) rfl
  have hK := hK.sub (tys' := []) [] rfl
  refine lv_aload_n hx hb dX7_init_59 rfl (lv_at hl 0 rfl) ?_
  refine lv_bipush (v := 12) hx hb dX7_init_60 (by decide) ?_
  refine va_newa (atype := .int) (ty := .int) (a0 := (12, .inl (fun _ : Nat => (0 : Int32)))) (N' := 12) hx hb (hts (.arrayClass .int) (by decide +kernel)) rfl hK hP hD hS hA (na_I 12) (by decide) (by decide) (by decide) (Nat.le_of_ble_eq_true rfl) (Nat.le_of_ble_eq_true rfl) dX7_init_62 (fun q3808 k3809 H hK hP hD hS => ?_)
  have hK : va_K (dC, dI) vwCl [(k3809, .int)] s := hK
  have hP : va_P (dC, dI) vwCl [(a0, .inr (10, s3807)), (q3808, .inl (k3809, 12, .inl ((fun _ : Nat => (0 : Int32)))))] H := hP
  have hD : va_D A [(a0, .inr (10, s3807)), (q3808, .inl (k3809, 12, .inl ((fun _ : Nat => (0 : Int32)))))] := hD
  have z3811 : ∀ j, (fun _ : Nat => (0 : Int32)) j = 0 := fun _ => rfl
  generalize (fun _ : Nat => (0 : Int32)) = f3810 at hP hD z3811
  refine W.widen (k := 5) (n := 60) (by omega) (by omega) ?_
  refine va_putF (D := (dC, dI)) (ci := 10) (v := .ref q3808) (ty := .array .int) (C := RX7) (T := TX7) (N := 21) hx hb hts (in_k_X7_X7) tyX7 tyX7_ok nmX7 hown hK hP hD hS 0 rfl rfl 8 (by decide) (hts (.fieldLink RX7 45 "HeapWorks$RuleText" "bodyCount" "[I") (by decide +kernel)) (fun _ h9 => h9) rfl hin rfl (by decide +kernel) rfl rfl (by rw [o_s3807.2.1]; decide) dX7_init_64 (fun H locs hP hD hS => ?_)
  have hP : va_P (dC, dI) vwCl [(a0, .inr (10, (s3807.set 8 (.ref q3808)))), (q3808, .inl (k3809, 12, .inl f3810))] H := hP
  have hD : va_D A [(a0, .inr (10, (s3807.set 8 (.ref q3808)))), (q3808, .inl (k3809, 12, .inl f3810))] := hD
  have o_s3812 := ow_set o_s3807 8 (.ref q3808) (by decide) (l' := [(8, .ref q3808), (7, .ref q3803), (6, .ref q3798), (5, .ref q3793), (4, .ref q3788), (2, .long r3786), (1, .long r2679), (0, .ref b0), (3, .int 0), (9, .null), (10, .null), (11, .null), (12, .null), (13, .null), (14, .int 0), (15, .int 0), (16, .int 0), (17, .null), (18, .null), (19, .int 0), (20, .int 0)]) (w' := [8, 7, 6, 5, 4, 2, 1, 0]) rfl rfl
  generalize (s3807.set 8 (.ref q3808)) = s3812 at hP hD o_s3812
  have hP := hP.sub (ws' := [(a0, .inr (10, s3812))]) [0] rfl
  have hD := hD.sub (ws' := [(a0, .inr (10, s3812))]) [0] (by decide) rfl
  have hK := hK.sub (tys' := []) [] rfl
  refine lv_aload_n hx hb dX7_init_67 rfl (lv_at hl 0 rfl) ?_
  refine lv_bipush (v := 48) hx hb dX7_init_68 (by decide) ?_
  refine va_newa (atype := .int) (ty := .int) (a0 := (48, .inl (fun _ : Nat => (0 : Int32)))) (N' := 48) hx hb (hts (.arrayClass .int) (by decide +kernel)) rfl hK hP hD hS hA (na_I 48) (by decide) (by decide) (by decide) (Nat.le_of_ble_eq_true rfl) (Nat.le_of_ble_eq_true rfl) dX7_init_70 (fun q3813 k3814 H hK hP hD hS => ?_)
  have hK : va_K (dC, dI) vwCl [(k3814, .int)] s := hK
  have hP : va_P (dC, dI) vwCl [(a0, .inr (10, s3812)), (q3813, .inl (k3814, 48, .inl ((fun _ : Nat => (0 : Int32)))))] H := hP
  have hD : va_D A [(a0, .inr (10, s3812)), (q3813, .inl (k3814, 48, .inl ((fun _ : Nat => (0 : Int32)))))] := hD
  have z3816 : ∀ j, (fun _ : Nat => (0 : Int32)) j = 0 := fun _ => rfl
  generalize (fun _ : Nat => (0 : Int32)) = f3815 at hP hD z3816
  refine W.widen (k := 6) (n := 108) (by omega) (by omega) ?_
  refine va_putF (D := (dC, dI)) (ci := 10) (v := .ref q3813) (ty := .array .int) (C := RX7) (T := TX7) (N := 21) hx hb hts (in_k_X7_X7) tyX7 tyX7_ok nmX7 hown hK hP hD hS 0 rfl rfl 9 (by decide) (hts (.fieldLink RX7 48 "HeapWorks$RuleText" "bodyRelation" "[I") (by decide +kernel)) (fun _ h9 => h9) rfl hin rfl (by decide +kernel) rfl rfl (by rw [o_s3812.2.1]; decide) dX7_init_72 (fun H locs hP hD hS => ?_)
  have hP : va_P (dC, dI) vwCl [(a0, .inr (10, (s3812.set 9 (.ref q3813)))), (q3813, .inl (k3814, 48, .inl f3815))] H := hP
  have hD : va_D A [(a0, .inr (10, (s3812.set 9 (.ref q3813)))), (q3813, .inl (k3814, 48, .inl f3815))] := hD
  have o_s3817 := ow_set o_s3812 9 (.ref q3813) (by decide) (l' := [(9, .ref q3813), (8, .ref q3808), (7, .ref q3803), (6, .ref q3798), (5, .ref q3793), (4, .ref q3788), (2, .long r3786), (1, .long r2679), (0, .ref b0), (3, .int 0), (10, .null), (11, .null), (12, .null), (13, .null), (14, .int 0), (15, .int 0), (16, .int 0), (17, .null), (18, .null), (19, .int 0), (20, .int 0)]) (w' := [9, 8, 7, 6, 5, 4, 2, 1, 0]) rfl rfl
  generalize (s3812.set 9 (.ref q3813)) = s3817 at hP hD o_s3817
  have hP := hP.sub (ws' := [(a0, .inr (10, s3817))]) [0] rfl
  have hD := hD.sub (ws' := [(a0, .inr (10, s3817))]) [0] (by decide) rfl
  have hK := hK.sub (tys' := []) [] rfl
  refine lv_aload_n hx hb dX7_init_75 rfl (lv_at hl 0 rfl) ?_
  refine lv_bipush (v := 48) hx hb dX7_init_76 (by decide) ?_
  refine va_newa (atype := .int) (ty := .int) (a0 := (48, .inl (fun _ : Nat => (0 : Int32)))) (N' := 48) hx hb (hts (.arrayClass .int) (by decide +kernel)) rfl hK hP hD hS hA (na_I 48) (by decide) (by decide) (by decide) (Nat.le_of_ble_eq_true rfl) (Nat.le_of_ble_eq_true rfl) dX7_init_78 (fun q3818 k3819 H hK hP hD hS => ?_)
  have hK : va_K (dC, dI) vwCl [(k3819, .int)] s := hK
  have hP : va_P (dC, dI) vwCl [(a0, .inr (10, s3817)), (q3818, .inl (k3819, 48, .inl ((fun _ : Nat => (0 : Int32)))))] H := hP
  have hD : va_D A [(a0, .inr (10, s3817)), (q3818, .inl (k3819, 48, .inl ((fun _ : Nat => (0 : Int32)))))] := hD
  have z3821 : ∀ j, (fun _ : Nat => (0 : Int32)) j = 0 := fun _ => rfl
  generalize (fun _ : Nat => (0 : Int32)) = f3820 at hP hD z3821
  refine W.widen (k := 7) (n := 156) (by omega) (by omega) ?_
  refine va_putF (D := (dC, dI)) (ci := 10) (v := .ref q3818) (ty := .array .int) (C := RX7) (T := TX7) (N := 21) hx hb hts (in_k_X7_X7) tyX7 tyX7_ok nmX7 hown hK hP hD hS 0 rfl rfl 10 (by decide) (hts (.fieldLink RX7 51 "HeapWorks$RuleText" "bodyA" "[I") (by decide +kernel)) (fun _ h9 => h9) rfl hin rfl (by decide +kernel) rfl rfl (by rw [o_s3817.2.1]; decide) dX7_init_80 (fun H locs hP hD hS => ?_)
  have hP : va_P (dC, dI) vwCl [(a0, .inr (10, (s3817.set 10 (.ref q3818)))), (q3818, .inl (k3819, 48, .inl f3820))] H := hP
  have hD : va_D A [(a0, .inr (10, (s3817.set 10 (.ref q3818)))), (q3818, .inl (k3819, 48, .inl f3820))] := hD
  have o_s3822 := ow_set o_s3817 10 (.ref q3818) (by decide) (l' := [(10, .ref q3818), (9, .ref q3813), (8, .ref q3808), (7, .ref q3803), (6, .ref q3798), (5, .ref q3793), (4, .ref q3788), (2, .long r3786), (1, .long r2679), (0, .ref b0), (3, .int 0), (11, .null), (12, .null), (13, .null), (14, .int 0), (15, .int 0), (16, .int 0), (17, .null), (18, .null), (19, .int 0), (20, .int 0)]) (w' := [10, 9, 8, 7, 6, 5, 4, 2, 1, 0]) rfl rfl
  generalize (s3817.set 10 (.ref q3818)) = s3822 at hP hD o_s3822
  have hP := hP.sub (ws' := [(a0, .inr (10, s3822))]) [0] rfl
  have hD := hD.sub (ws' := [(a0, .inr (10, s3822))]) [0] (by decide) rfl
  have hK := hK.sub (tys' := []) [] rfl
  refine lv_aload_n hx hb dX7_init_83 rfl (lv_at hl 0 rfl) ?_
  refine lv_bipush (v := 48) hx hb dX7_init_84 (by decide) ?_
  refine va_newa (atype := .int) (ty := .int) (a0 := (48, .inl (fun _ : Nat => (0 : Int32)))) (N' := 48) hx hb (hts (.arrayClass .int) (by decide +kernel)) rfl hK hP hD hS hA (na_I 48) (by decide) (by decide) (by decide) (Nat.le_of_ble_eq_true rfl) (Nat.le_of_ble_eq_true rfl) dX7_init_86 (fun q3823 k3824 H hK hP hD hS => ?_)
  have hK : va_K (dC, dI) vwCl [(k3824, .int)] s := hK
  have hP : va_P (dC, dI) vwCl [(a0, .inr (10, s3822)), (q3823, .inl (k3824, 48, .inl ((fun _ : Nat => (0 : Int32)))))] H := hP
  have hD : va_D A [(a0, .inr (10, s3822)), (q3823, .inl (k3824, 48, .inl ((fun _ : Nat => (0 : Int32)))))] := hD
  have z3826 : ∀ j, (fun _ : Nat => (0 : Int32)) j = 0 := fun _ => rfl
  generalize (fun _ : Nat => (0 : Int32)) = f3825 at hP hD z3826
  refine W.widen (k := 8) (n := 204) (by omega) (by omega) ?_
  refine va_putF (D := (dC, dI)) (ci := 10) (v := .ref q3823) (ty := .array .int) (C := RX7) (T := TX7) (N := 21) hx hb hts (in_k_X7_X7) tyX7 tyX7_ok nmX7 hown hK hP hD hS 0 rfl rfl 11 (by decide) (hts (.fieldLink RX7 54 "HeapWorks$RuleText" "bodyB" "[I") (by decide +kernel)) (fun _ h9 => h9) rfl hin rfl (by decide +kernel) rfl rfl (by rw [o_s3822.2.1]; decide) dX7_init_88 (fun H locs hP hD hS => ?_)
  have hP : va_P (dC, dI) vwCl [(a0, .inr (10, (s3822.set 11 (.ref q3823)))), (q3823, .inl (k3824, 48, .inl f3825))] H := hP
  have hD : va_D A [(a0, .inr (10, (s3822.set 11 (.ref q3823)))), (q3823, .inl (k3824, 48, .inl f3825))] := hD
  have o_s3827 := ow_set o_s3822 11 (.ref q3823) (by decide) (l' := [(11, .ref q3823), (10, .ref q3818), (9, .ref q3813), (8, .ref q3808), (7, .ref q3803), (6, .ref q3798), (5, .ref q3793), (4, .ref q3788), (2, .long r3786), (1, .long r2679), (0, .ref b0), (3, .int 0), (12, .null), (13, .null), (14, .int 0), (15, .int 0), (16, .int 0), (17, .null), (18, .null), (19, .int 0), (20, .int 0)]) (w' := [11, 10, 9, 8, 7, 6, 5, 4, 2, 1, 0]) rfl rfl
  generalize (s3822.set 11 (.ref q3823)) = s3827 at hP hD o_s3827
  have hP := hP.sub (ws' := [(a0, .inr (10, s3827))]) [0] rfl
  have hD := hD.sub (ws' := [(a0, .inr (10, s3827))]) [0] (by decide) rfl
  have hK := hK.sub (tys' := []) [] rfl
  refine lv_aload_n hx hb dX7_init_91 rfl (lv_at hl 0 rfl) ?_
  refine lv_bipush (v := 48) hx hb dX7_init_92 (by decide) ?_
  refine va_newa (atype := .long) (ty := .long) (a0 := (48, .inr (.inl (fun _ : Nat => (0 : Int64))))) (N' := 48) hx hb (hts (.arrayClass .long) (by decide +kernel)) rfl hK hP hD hS hA (na_J 48) (by decide) (by decide) (by decide) (Nat.le_of_ble_eq_true rfl) (Nat.le_of_ble_eq_true rfl) dX7_init_94 (fun q3828 k3829 H hK hP hD hS => ?_)
  have hK : va_K (dC, dI) vwCl [(k3829, .long)] s := hK
  have hP : va_P (dC, dI) vwCl [(a0, .inr (10, s3827)), (q3828, .inl (k3829, 48, .inr (.inl ((fun _ : Nat => (0 : Int64))))))] H := hP
  have hD : va_D A [(a0, .inr (10, s3827)), (q3828, .inl (k3829, 48, .inr (.inl ((fun _ : Nat => (0 : Int64))))))] := hD
  have z3831 : ∀ j, (fun _ : Nat => (0 : Int64)) j = 0 := fun _ => rfl
  generalize (fun _ : Nat => (0 : Int64)) = f3830 at hP hD z3831
  refine W.widen (k := 9) (n := 252) (by omega) (by omega) ?_
  refine va_putF (D := (dC, dI)) (ci := 10) (v := .ref q3828) (ty := .array .long) (C := RX7) (T := TX7) (N := 21) hx hb hts (in_k_X7_X7) tyX7 tyX7_ok nmX7 hown hK hP hD hS 0 rfl rfl 12 (by decide) (hts (.fieldLink RX7 57 "HeapWorks$RuleText" "bodyName" "[J") (by decide +kernel)) (fun _ h9 => h9) rfl hin rfl (by decide +kernel) rfl rfl (by rw [o_s3827.2.1]; decide) dX7_init_96 (fun H locs hP hD hS => ?_)
  have hP : va_P (dC, dI) vwCl [(a0, .inr (10, (s3827.set 12 (.ref q3828)))), (q3828, .inl (k3829, 48, .inr (.inl f3830)))] H := hP
  have hD : va_D A [(a0, .inr (10, (s3827.set 12 (.ref q3828)))), (q3828, .inl (k3829, 48, .inr (.inl f3830)))] := hD
  have o_s3832 := ow_set o_s3827 12 (.ref q3828) (by decide) (l' := [(12, .ref q3828), (11, .ref q3823), (10, .ref q3818), (9, .ref q3813), (8, .ref q3808), (7, .ref q3803), (6, .ref q3798), (5, .ref q3793), (4, .ref q3788), (2, .long r3786), (1, .long r2679), (0, .ref b0), (3, .int 0), (13, .null), (14, .int 0), (15, .int 0), (16, .int 0), (17, .null), (18, .null), (19, .int 0), (20, .int 0)]) (w' := [12, 11, 10, 9, 8, 7, 6, 5, 4, 2, 1, 0]) rfl rfl
  generalize (s3827.set 12 (.ref q3828)) = s3832 at hP hD o_s3832
  have hP := hP.sub (ws' := [(a0, .inr (10, s3832))]) [0] rfl
  have hD := hD.sub (ws' := [(a0, .inr (10, s3832))]) [0] (by decide) rfl
  have hK := hK.sub (tys' := []) [] rfl
  refine lv_aload_n hx hb dX7_init_99 rfl (lv_at hl 0 rfl) ?_
  refine lv_iconst (v := 3) hx hb dX7_init_100 (by decide) ?_
  refine va_newa (atype := .long) (ty := .long) (a0 := (3, .inr (.inl (fun _ : Nat => (0 : Int64))))) (N' := 3) hx hb (hts (.arrayClass .long) (by decide +kernel)) rfl hK hP hD hS hA (na_J 3) (by decide) (by decide) (by decide) (Nat.le_of_ble_eq_true rfl) (Nat.le_of_ble_eq_true rfl) dX7_init_101 (fun q3833 k3834 H hK hP hD hS => ?_)
  have hK : va_K (dC, dI) vwCl [(k3834, .long)] s := hK
  have hP : va_P (dC, dI) vwCl [(a0, .inr (10, s3832)), (q3833, .inl (k3834, 3, .inr (.inl ((fun _ : Nat => (0 : Int64))))))] H := hP
  have hD : va_D A [(a0, .inr (10, s3832)), (q3833, .inl (k3834, 3, .inr (.inl ((fun _ : Nat => (0 : Int64))))))] := hD
  have z3836 : ∀ j, (fun _ : Nat => (0 : Int64)) j = 0 := fun _ => rfl
  generalize (fun _ : Nat => (0 : Int64)) = f3835 at hP hD z3836
  refine W.widen (k := 10) (n := 255) (by omega) (by omega) ?_
  refine va_putF (D := (dC, dI)) (ci := 10) (v := .ref q3833) (ty := .array .long) (C := RX7) (T := TX7) (N := 21) hx hb hts (in_k_X7_X7) tyX7 tyX7_ok nmX7 hown hK hP hD hS 0 rfl rfl 13 (by decide) (hts (.fieldLink RX7 61 "HeapWorks$RuleText" "variableName" "[J") (by decide +kernel)) (fun _ h9 => h9) rfl hin rfl (by decide +kernel) rfl rfl (by rw [o_s3832.2.1]; decide) dX7_init_103 (fun H locs hP hD hS => ?_)
  have hP : va_P (dC, dI) vwCl [(a0, .inr (10, (s3832.set 13 (.ref q3833)))), (q3833, .inl (k3834, 3, .inr (.inl f3835)))] H := hP
  have hD : va_D A [(a0, .inr (10, (s3832.set 13 (.ref q3833)))), (q3833, .inl (k3834, 3, .inr (.inl f3835)))] := hD
  have o_s3837 := ow_set o_s3832 13 (.ref q3833) (by decide) (l' := [(13, .ref q3833), (12, .ref q3828), (11, .ref q3823), (10, .ref q3818), (9, .ref q3813), (8, .ref q3808), (7, .ref q3803), (6, .ref q3798), (5, .ref q3793), (4, .ref q3788), (2, .long r3786), (1, .long r2679), (0, .ref b0), (3, .int 0), (14, .int 0), (15, .int 0), (16, .int 0), (17, .null), (18, .null), (19, .int 0), (20, .int 0)]) (w' := [13, 12, 11, 10, 9, 8, 7, 6, 5, 4, 2, 1, 0]) rfl rfl
  generalize (s3832.set 13 (.ref q3833)) = s3837 at hP hD o_s3837
  have hP := hP.sub (ws' := [(a0, .inr (10, s3837))]) [0] rfl
  have hD := hD.sub (ws' := [(a0, .inr (10, s3837))]) [0] (by decide) rfl
  have hK := hK.sub (tys' := []) [] rfl
  refine lv_aload_n hx hb dX7_init_106 rfl (lv_at hl 0 rfl) ?_
  refine lv_bipush (v := 6) hx hb dX7_init_107 (by decide) ?_
  refine va_newa (atype := .long) (ty := .long) (a0 := (6, .inr (.inl (fun _ : Nat => (0 : Int64))))) (N' := 6) hx hb (hts (.arrayClass .long) (by decide +kernel)) rfl hK hP hD hS hA (na_J 6) (by decide) (by decide) (by decide) (Nat.le_of_ble_eq_true rfl) (Nat.le_of_ble_eq_true rfl) dX7_init_109 (fun q3838 k3839 H hK hP hD hS => ?_)
  have hK : va_K (dC, dI) vwCl [(k3839, .long)] s := hK
  have hP : va_P (dC, dI) vwCl [(a0, .inr (10, s3837)), (q3838, .inl (k3839, 6, .inr (.inl ((fun _ : Nat => (0 : Int64))))))] H := hP
  have hD : va_D A [(a0, .inr (10, s3837)), (q3838, .inl (k3839, 6, .inr (.inl ((fun _ : Nat => (0 : Int64))))))] := hD
  have z3841 : ∀ j, (fun _ : Nat => (0 : Int64)) j = 0 := fun _ => rfl
  generalize (fun _ : Nat => (0 : Int64)) = f3840 at hP hD z3841
  refine W.widen (k := 11) (n := 261) (by omega) (by omega) ?_
  refine va_putF (D := (dC, dI)) (ci := 10) (v := .ref q3838) (ty := .array .long) (C := RX7) (T := TX7) (N := 21) hx hb hts (in_k_X7_X7) tyX7 tyX7_ok nmX7 hown hK hP hD hS 0 rfl rfl 17 (by decide) (hts (.fieldLink RX7 64 "HeapWorks$RuleText" "relationName" "[J") (by decide +kernel)) (fun _ h9 => h9) rfl hin rfl (by decide +kernel) rfl rfl (by rw [o_s3837.2.1]; decide) dX7_init_111 (fun H locs hP hD hS => ?_)
  have hP : va_P (dC, dI) vwCl [(a0, .inr (10, (s3837.set 17 (.ref q3838)))), (q3838, .inl (k3839, 6, .inr (.inl f3840)))] H := hP
  have hD : va_D A [(a0, .inr (10, (s3837.set 17 (.ref q3838)))), (q3838, .inl (k3839, 6, .inr (.inl f3840)))] := hD
  have o_s3842 := ow_set o_s3837 17 (.ref q3838) (by decide) (l' := [(17, .ref q3838), (13, .ref q3833), (12, .ref q3828), (11, .ref q3823), (10, .ref q3818), (9, .ref q3813), (8, .ref q3808), (7, .ref q3803), (6, .ref q3798), (5, .ref q3793), (4, .ref q3788), (2, .long r3786), (1, .long r2679), (0, .ref b0), (3, .int 0), (14, .int 0), (15, .int 0), (16, .int 0), (18, .null), (19, .int 0), (20, .int 0)]) (w' := [17, 13, 12, 11, 10, 9, 8, 7, 6, 5, 4, 2, 1, 0]) rfl rfl
  generalize (s3837.set 17 (.ref q3838)) = s3842 at hP hD o_s3842
  have hP := hP.sub (ws' := [(a0, .inr (10, s3842))]) [0] rfl
  have hD := hD.sub (ws' := [(a0, .inr (10, s3842))]) [0] (by decide) rfl
  have hK := hK.sub (tys' := []) [] rfl
  refine lv_aload_n hx hb dX7_init_114 rfl (lv_at hl 0 rfl) ?_
  refine lv_bipush (v := 6) hx hb dX7_init_115 (by decide) ?_
  refine va_newa (atype := .int) (ty := .int) (a0 := (6, .inl (fun _ : Nat => (0 : Int32)))) (N' := 6) hx hb (hts (.arrayClass .int) (by decide +kernel)) rfl hK hP hD hS hA (na_I 6) (by decide) (by decide) (by decide) (Nat.le_of_ble_eq_true rfl) (Nat.le_of_ble_eq_true rfl) dX7_init_117 (fun q3843 k3844 H hK hP hD hS => ?_)
  have hK : va_K (dC, dI) vwCl [(k3844, .int)] s := hK
  have hP : va_P (dC, dI) vwCl [(a0, .inr (10, s3842)), (q3843, .inl (k3844, 6, .inl ((fun _ : Nat => (0 : Int32)))))] H := hP
  have hD : va_D A [(a0, .inr (10, s3842)), (q3843, .inl (k3844, 6, .inl ((fun _ : Nat => (0 : Int32)))))] := hD
  have z3846 : ∀ j, (fun _ : Nat => (0 : Int32)) j = 0 := fun _ => rfl
  generalize (fun _ : Nat => (0 : Int32)) = f3845 at hP hD z3846
  refine W.widen (k := 12) (n := 267) (by omega) (by omega) ?_
  refine va_putF (D := (dC, dI)) (ci := 10) (v := .ref q3843) (ty := .array .int) (C := RX7) (T := TX7) (N := 21) hx hb hts (in_k_X7_X7) tyX7 tyX7_ok nmX7 hown hK hP hD hS 0 rfl rfl 18 (by decide) (hts (.fieldLink RX7 67 "HeapWorks$RuleText" "arity" "[I") (by decide +kernel)) (fun _ h9 => h9) rfl hin rfl (by decide +kernel) rfl rfl (by rw [o_s3842.2.1]; decide) dX7_init_119 (fun H locs hP hD hS => ?_)
  have hP : va_P (dC, dI) vwCl [(a0, .inr (10, (s3842.set 18 (.ref q3843)))), (q3843, .inl (k3844, 6, .inl f3845))] H := hP
  have hD : va_D A [(a0, .inr (10, (s3842.set 18 (.ref q3843)))), (q3843, .inl (k3844, 6, .inl f3845))] := hD
  have o_s3847 := ow_set o_s3842 18 (.ref q3843) (by decide) (l' := [(18, .ref q3843), (17, .ref q3838), (13, .ref q3833), (12, .ref q3828), (11, .ref q3823), (10, .ref q3818), (9, .ref q3813), (8, .ref q3808), (7, .ref q3803), (6, .ref q3798), (5, .ref q3793), (4, .ref q3788), (2, .long r3786), (1, .long r2679), (0, .ref b0), (3, .int 0), (14, .int 0), (15, .int 0), (16, .int 0), (19, .int 0), (20, .int 0)]) (w' := [18, 17, 13, 12, 11, 10, 9, 8, 7, 6, 5, 4, 2, 1, 0]) rfl rfl
  generalize (s3842.set 18 (.ref q3843)) = s3847 at hP hD o_s3847
  have hP := hP.sub (ws' := [(a0, .inr (10, s3847))]) [0] rfl
  have hD := hD.sub (ws' := [(a0, .inr (10, s3847))]) [0] (by decide) rfl
  have hK := hK.sub (tys' := []) [] rfl
  have hP9 := hP.sub (ws' := [(a0, .inr (10, s3847))]) [0] rfl
  have hD9 := hD.sub (ws' := [(a0, .inr (10, s3847))]) [0] (by decide) rfl
  have hK9 := hK.sub (tys' := []) [] rfl
  refine W.widen (k := 12) (n := 267) (by decide) (by decide) ?_
  exact W.vret hx hb hr (fun t ht hW => ⟨⟨s3847, rfl, (ow_sub o_s3847 [14, 18] rfl), by rw [ht]; exact hP9, va_K.moved hW.alike hK9, hD9⟩, hS.F ht⟩) hS.2.2 dX7_init_122

def l_zk_X9_init : List Cond := [.methodLink RX9 3 objectInit, .instanceMethod objectInit, .code objectInit ⟨#[0xb1]⟩ 1 none, .arrayClass .int, .fieldLink RX9 11 "HeapWorks$Tape" "bytes" "[I", .fieldLink RX9 15 "HeapWorks$Tape" "ready" "[I", .fieldLink RX9 18 "HeapWorks$Tape" "words" "[I", .fieldLink RX9 21 "HeapWorks$Tape" "places" "[I", .arrayClass .long, .fieldLink RX9 24 "HeapWorks$Tape" "codes" "[J", .fieldLink RX9 28 "HeapWorks$Tape" "keywords" "[J", .methodLink RX9 33 yJ0_length_8abf5, .instanceMethod yJ0_length_8abf5, .selects RJ0 yJ0_length_8abf5 yJ0_length_8abf5, .initialized RJ0, .methodLink RX9 39 yJ0_charAt_5068e, .instanceMethod yJ0_charAt_5068e, .selects RJ0 yJ0_charAt_5068e yJ0_charAt_5068e, .constantLong RX9 43 (64), .methodLink RX9 45 yX9_symbolOf, .static yX9_symbolOf, .initialized RX9, .code yJ0_length_8abf5 cJ0_length_8abf5 1 (some .int), .fieldLink RJ0 9 "java/lang/String" "value" "[B", .methodLink RJ0 335 yJ0_coder_7d493, .instanceMethod yJ0_coder_7d493, .selects RJ0 yJ0_coder_7d493 yJ0_coder_7d493, .code yJ0_coder_7d493 cJ0_coder_7d493 1 (some .byte), .fieldLink RJ0 38 "java/lang/String" "COMPACT_STRINGS" "Z", .fieldLink RJ0 15 "java/lang/String" "coder" "B", .code yJ0_charAt_5068e cJ0_charAt_5068e 2 (some .char), .methodLink RJ0 492 yJ0_isLatin1_aae02, .instanceMethod yJ0_isLatin1_aae02, .selects RJ0 yJ0_isLatin1_aae02 yJ0_isLatin1_aae02, .methodLink RJ0 495 yJ1_charAt_3b067, .static yJ1_charAt_3b067, .initialized RJ1, .code yJ0_isLatin1_aae02 cJ0_isLatin1_aae02 1 (some .boolean), .code yJ1_charAt_3b067 cJ1_charAt_3b067 2 (some .char), .methodLink RJ1 9 yJ0_checkIndex_df160, .static yJ0_checkIndex_df160, .code yJ0_checkIndex_df160 cJ0_checkIndex_df160 2 none, .fieldLink RJ0 1053 "jdk/internal/util/Preconditions" "SIOOBE_FORMATTER" "Ljava/util/function/BiFunction;", .methodLink RJ0 1059 yJ3_checkIndex_8e157, .static yJ3_checkIndex_8e157, .initialized RJ3, .code yJ3_checkIndex_8e157 cJ3_checkIndex_8e157 3 (some .int), .code yX9_symbolOf cX9_symbolOf 1 (some .int), .methodLink RX9 65 yX9_isDigit, .static yX9_isDigit, .code yX9_isDigit cX9_isDigit 1 (some .boolean)]
def w_zk_X9_init : List Cond := .code yX9_init cX9_init 5 none :: (l_zk_X9_init ++ (wsX90))
theorem in_zk_X9_init_X9 : ∀ w ∈ wsX90, w ∈ w_zk_X9_init := fun w h => List.mem_cons_of_mem _ (List.mem_append_right _ (h))
theorem g_zk_X9_init_zk_J0_length_8abf5_33 : GoodIn w_zk_X9_init (wsV RX9 33 RJ0 yJ0_length_8abf5 w_zk_J0_length_8abf5) := goodIn_app (goodIn_sub (by decide +kernel) (by decide +kernel)) (goodIn_sub (by decide +kernel) (by decide +kernel))
theorem g_zk_X9_init_zk_J0_charAt_5068e_39 : GoodIn w_zk_X9_init (wsV RX9 39 RJ0 yJ0_charAt_5068e w_zk_J0_charAt_5068e) := goodIn_app (goodIn_sub (by decide +kernel) (by decide +kernel)) (goodIn_sub (by decide +kernel) (by decide +kernel))
theorem g_zk_X9_init_zk_X9_symbolOf_45 : GoodIn w_zk_X9_init (wsS RX9 45 yX9_symbolOf w_zk_X9_symbolOf) := goodIn_app (goodIn_sub (by decide +kernel) (by decide +kernel)) (goodIn_sub (by decide +kernel) (by decide +kernel))
set_option maxHeartbeats 4000000 in
set_option maxRecDepth 100000 in
theorem zk_X9_init (l : Launch) (dC : Nat → ClassId) (dI : Nat → Nat → Nat) (sz : Nat) (adK adV : Nat → Nat) (Ad0 : Nat) (Fs0 : List Value) (k_Fs0 : fh Fs0 12 [(3, .null)])  : Met l yX9_init w_zk_X9_init ({ frames := 4, cells := 6, slots := 16052, locals := 85 }) (va_Pc [.ref Ad0] (fun U => U.heap.size = sz ∧ Kc adK adV (va_A [(Ad0, .inr (12, Fs0))] sz) U ∧ Wd dC dI [] (fun _ => True) [(Ad0, .inr (12, Fs0))] U)) (va_Qv (fun (u : List Value × Nat × (Nat → Int64) × ClassId × Nat × (Nat → Int64) × ClassId × Nat × (Nat → Int32) × ClassId × Nat × (Nat → Int32) × ClassId × Nat × (Nat → Int32) × ClassId × Nat × (Nat → Int32) × ClassId) => match u with | (s4588, q4584, f5045, k4585, q4579, f4581, k4580, q4574, f4576, k4575, q4569, f4571, k4570, q4564, f4566, k4565, q4559, f4561, k4560) => (ow Fs0 (s4588) 12 [3, 7, 6, 5, 2, 0] [(3, .ref q4584), (7, .ref q4579), (6, .ref q4574), (5, .ref q4569), (2, .ref q4564), (0, .ref q4559)] ∧ (∀ j, f4581 j = 0) ∧ (∀ j, f4576 j = 0) ∧ (∀ j, f4571 j = 0) ∧ (∀ j, f4566 j = 0) ∧ (∀ j, f4561 j = 0))) (fun (u : List Value × Nat × (Nat → Int64) × ClassId × Nat × (Nat → Int64) × ClassId × Nat × (Nat → Int32) × ClassId × Nat × (Nat → Int32) × ClassId × Nat × (Nat → Int32) × ClassId × Nat × (Nat → Int32) × ClassId) t => match u with | (s4588, q4584, f5045, k4585, q4579, f4581, k4580, q4574, f4576, k4575, q4569, f4571, k4570, q4564, f4566, k4565, q4559, f4561, k4560) => Wd dC dI [(k4585, .long), (k4580, .long), (k4575, .int), (k4570, .int), (k4565, .int), (k4560, .int)] (va_A [(Ad0, .inr (12, Fs0))] sz) [(Ad0, .inr (12, s4588)), (q4584, .inl (k4585, 29, .inr (.inl f5045))), (q4579, .inl (k4580, 4001, .inr (.inl f4581))), (q4574, .inl (k4575, 4001, .inl f4576)), (q4569, .inl (k4570, 4001, .inl f4571)), (q4564, .inl (k4565, 20, .inl f4566)), (q4559, .inl (k4560, 4000, .inl f4561))] t) (va_A [(Ad0, .inr (12, Fs0))] sz))  6 16052 (va_A [(Ad0, .inr (12, Fs0))] sz) := by
  refine Met.ofW (cc := cX9_init) (maxL := 5) (ret := none) (by decide) rfl ?_
  intro p e s m args below meth c s₁ B hml hv
  obtain ⟨rfl, hsz, hC, hP, hK, hD0⟩ := hv
  have hx := B.exec
  have hb := B.bytes
  have hr := B.returns
  have hts := atoms_spec (ws := w_zk_X9_init) B.pre
  have hown : s.vm.findClass RX9 = some m.cls := findClass_of_methodNamed B.named
  have hlocks := B.notSynchronized
  have hin : meth.name = "<init>" := (name_of_methodNamed B.named B.method).1
  subst hsz
  have hD := hD0.self (sz := s.heap.size)
  generalize hAe : va_A [(Ad0, .inr (12, Fs0))] s.heap.size = A at hD hC ⊢
  have hA : ∀ q : Nat, s.heap.size ≤ q → A q := fun q h => by rw [← hAe]; exact Or.inr h
  have hS : va_S A s.heap s.heap [] := va_S.rf
  have hl := lv_entry ([.ref Ad0]) (n := 5) (Nat.le_of_ble_eq_true rfl)
  rw [lg_entry_eq]
  generalize (lg_sl ([.ref Ad0]) ++ List.replicate (5 - (lg_sl ([.ref Ad0])).length) Slot.unset).toArray = ls at hl ⊢
  have hl : lv_has ls 5 [(0, .ref Ad0)] := hl
  have o_Fs0 := ow_0 k_Fs0
  refine lv_aload_n hx hb dX9_init_0 rfl (lv_at hl 0 rfl) ?_
  refine W.objInit hx hb hown (hts (.methodLink RX9 3 objectInit) (by decide +kernel)) (hts (.instanceMethod objectInit) (by decide +kernel)) (hts (.code objectInit ⟨#[0xb1]⟩ 1 none) (by decide +kernel)) rfl (by rw [hml]; exact hl.1) rfl dX9_init_1 (Nat.le_of_ble_eq_true rfl) (Nat.le_of_ble_eq_true rfl) ?_
  refine W.eq (g2 := F0 m 4 ls []) rfl ?_
  refine lv_aload_n hx hb dX9_init_4 rfl (lv_at hl 0 rfl) ?_
  refine lv_sipush (v := 4000) hx hb dX9_init_5 (by decide) ?_
  refine va_newa (atype := .int) (ty := .int) (a0 := (4000, .inl (fun _ : Nat => (0 : Int32)))) (N' := 4000) hx hb (hts (.arrayClass .int) (by decide +kernel)) rfl hK hP hD hS hA (na_I 4000) (by decide) (by decide) (by decide) (Nat.le_of_ble_eq_true rfl) (Nat.le_of_ble_eq_true rfl) dX9_init_8 (fun q4559 k4560 H hK hP hD hS => ?_)
  have hK : va_K (dC, dI) vwCl [(k4560, .int)] s := hK
  have hP : va_P (dC, dI) vwCl [(Ad0, .inr (12, Fs0)), (q4559, .inl (k4560, 4000, .inl ((fun _ : Nat => (0 : Int32)))))] H := hP
  have hD : va_D A [(Ad0, .inr (12, Fs0)), (q4559, .inl (k4560, 4000, .inl ((fun _ : Nat => (0 : Int32)))))] := hD
  have z4562 : ∀ j, (fun _ : Nat => (0 : Int32)) j = 0 := fun _ => rfl
  generalize (fun _ : Nat => (0 : Int32)) = f4561 at hP hD z4562
  refine W.widen (k := 1) (n := 4000) (by omega) (by omega) ?_
  refine va_putF (D := (dC, dI)) (ci := 12) (v := .ref q4559) (ty := .array .int) (C := RX9) (T := TX9) (N := 12) hx hb hts (in_zk_X9_init_X9) tyX9 tyX9_ok nmX9 hown hK hP hD hS 0 rfl rfl 0 (by decide) (hts (.fieldLink RX9 11 "HeapWorks$Tape" "bytes" "[I") (by decide +kernel)) (fun _ h9 => h9) rfl hin rfl (by decide +kernel) rfl rfl (by rw [o_Fs0.2.1]; decide) dX9_init_10 (fun H locs hP hD hS => ?_)
  have hP : va_P (dC, dI) vwCl [(Ad0, .inr (12, (Fs0.set 0 (.ref q4559)))), (q4559, .inl (k4560, 4000, .inl f4561))] H := hP
  have hD : va_D A [(Ad0, .inr (12, (Fs0.set 0 (.ref q4559)))), (q4559, .inl (k4560, 4000, .inl f4561))] := hD
  have o_s4563 := ow_set o_Fs0 0 (.ref q4559) (by decide) (l' := [(0, .ref q4559), (3, .null)]) (w' := [0]) rfl rfl
  generalize (Fs0.set 0 (.ref q4559)) = s4563 at hP hD o_s4563
  refine lv_aload_n hx hb dX9_init_13 rfl (lv_at hl 0 rfl) ?_
  refine lv_bipush (v := 20) hx hb dX9_init_14 (by decide) ?_
  refine va_newa (atype := .int) (ty := .int) (a0 := (20, .inl (fun _ : Nat => (0 : Int32)))) (N' := 20) hx hb (hts (.arrayClass .int) (by decide +kernel)) rfl hK hP hD hS hA (na_I 20) (by decide) (by decide) (by decide) (Nat.le_of_ble_eq_true rfl) (Nat.le_of_ble_eq_true rfl) dX9_init_16 (fun q4564 k4565 H hK hP hD hS => ?_)
  have hK : va_K (dC, dI) vwCl [(k4560, .int), (k4565, .int)] s := hK
  have hP : va_P (dC, dI) vwCl [(Ad0, .inr (12, s4563)), (q4559, .inl (k4560, 4000, .inl f4561)), (q4564, .inl (k4565, 20, .inl ((fun _ : Nat => (0 : Int32)))))] H := hP
  have hD : va_D A [(Ad0, .inr (12, s4563)), (q4559, .inl (k4560, 4000, .inl f4561)), (q4564, .inl (k4565, 20, .inl ((fun _ : Nat => (0 : Int32)))))] := hD
  have z4567 : ∀ j, (fun _ : Nat => (0 : Int32)) j = 0 := fun _ => rfl
  generalize (fun _ : Nat => (0 : Int32)) = f4566 at hP hD z4567
  refine W.widen (k := 2) (n := 4020) (by omega) (by omega) ?_
  refine va_putF (D := (dC, dI)) (ci := 12) (v := .ref q4564) (ty := .array .int) (C := RX9) (T := TX9) (N := 12) hx hb hts (in_zk_X9_init_X9) tyX9 tyX9_ok nmX9 hown hK hP hD hS 0 rfl rfl 2 (by decide) (hts (.fieldLink RX9 15 "HeapWorks$Tape" "ready" "[I") (by decide +kernel)) (fun _ h9 => h9) rfl hin rfl (by decide +kernel) rfl rfl (by rw [o_s4563.2.1]; decide) dX9_init_18 (fun H locs hP hD hS => ?_)
  have hP : va_P (dC, dI) vwCl [(Ad0, .inr (12, (s4563.set 2 (.ref q4564)))), (q4559, .inl (k4560, 4000, .inl f4561)), (q4564, .inl (k4565, 20, .inl f4566))] H := hP
  have hD : va_D A [(Ad0, .inr (12, (s4563.set 2 (.ref q4564)))), (q4559, .inl (k4560, 4000, .inl f4561)), (q4564, .inl (k4565, 20, .inl f4566))] := hD
  have o_s4568 := ow_set o_s4563 2 (.ref q4564) (by decide) (l' := [(2, .ref q4564), (0, .ref q4559), (3, .null)]) (w' := [2, 0]) rfl rfl
  generalize (s4563.set 2 (.ref q4564)) = s4568 at hP hD o_s4568
  refine lv_aload_n hx hb dX9_init_21 rfl (lv_at hl 0 rfl) ?_
  refine lv_sipush (v := 4001) hx hb dX9_init_22 (by decide) ?_
  refine va_newa (atype := .int) (ty := .int) (a0 := (4001, .inl (fun _ : Nat => (0 : Int32)))) (N' := 4001) hx hb (hts (.arrayClass .int) (by decide +kernel)) rfl hK hP hD hS hA (na_I 4001) (by decide) (by decide) (by decide) (Nat.le_of_ble_eq_true rfl) (Nat.le_of_ble_eq_true rfl) dX9_init_25 (fun q4569 k4570 H hK hP hD hS => ?_)
  have hK : va_K (dC, dI) vwCl [(k4560, .int), (k4565, .int), (k4570, .int)] s := hK
  have hP : va_P (dC, dI) vwCl [(Ad0, .inr (12, s4568)), (q4559, .inl (k4560, 4000, .inl f4561)), (q4564, .inl (k4565, 20, .inl f4566)), (q4569, .inl (k4570, 4001, .inl ((fun _ : Nat => (0 : Int32)))))] H := hP
  have hD : va_D A [(Ad0, .inr (12, s4568)), (q4559, .inl (k4560, 4000, .inl f4561)), (q4564, .inl (k4565, 20, .inl f4566)), (q4569, .inl (k4570, 4001, .inl ((fun _ : Nat => (0 : Int32)))))] := hD
  have z4572 : ∀ j, (fun _ : Nat => (0 : Int32)) j = 0 := fun _ => rfl
  generalize (fun _ : Nat => (0 : Int32)) = f4571 at hP hD z4572
  refine W.widen (k := 3) (n := 8021) (by omega) (by omega) ?_
  refine va_putF (D := (dC, dI)) (ci := 12) (v := .ref q4569) (ty := .array .int) (C := RX9) (T := TX9) (N := 12) hx hb hts (in_zk_X9_init_X9) tyX9 tyX9_ok nmX9 hown hK hP hD hS 0 rfl rfl 5 (by decide) (hts (.fieldLink RX9 18 "HeapWorks$Tape" "words" "[I") (by decide +kernel)) (fun _ h9 => h9) rfl hin rfl (by decide +kernel) rfl rfl (by rw [o_s4568.2.1]; decide) dX9_init_27 (fun H locs hP hD hS => ?_)
  have hP : va_P (dC, dI) vwCl [(Ad0, .inr (12, (s4568.set 5 (.ref q4569)))), (q4559, .inl (k4560, 4000, .inl f4561)), (q4564, .inl (k4565, 20, .inl f4566)), (q4569, .inl (k4570, 4001, .inl f4571))] H := hP
  have hD : va_D A [(Ad0, .inr (12, (s4568.set 5 (.ref q4569)))), (q4559, .inl (k4560, 4000, .inl f4561)), (q4564, .inl (k4565, 20, .inl f4566)), (q4569, .inl (k4570, 4001, .inl f4571))] := hD
  have o_s4573 := ow_set o_s4568 5 (.ref q4569) (by decide) (l' := [(5, .ref q4569), (2, .ref q4564), (0, .ref q4559), (3, .null)]) (w' := [5, 2, 0]) rfl rfl
  generalize (s4568.set 5 (.ref q4569)) = s4573 at hP hD o_s4573
  refine lv_aload_n hx hb dX9_init_30 rfl (lv_at hl 0 rfl) ?_
  refine lv_sipush (v := 4001) hx hb dX9_init_31 (by decide) ?_
  refine va_newa (atype := .int) (ty := .int) (a0 := (4001, .inl (fun _ : Nat => (0 : Int32)))) (N' := 4001) hx hb (hts (.arrayClass .int) (by decide +kernel)) rfl hK hP hD hS hA (na_I 4001) (by decide) (by decide) (by decide) (Nat.le_of_ble_eq_true rfl) (Nat.le_of_ble_eq_true rfl) dX9_init_34 (fun q4574 k4575 H hK hP hD hS => ?_)
  have hK : va_K (dC, dI) vwCl [(k4560, .int), (k4565, .int), (k4570, .int), (k4575, .int)] s := hK
  have hP : va_P (dC, dI) vwCl [(Ad0, .inr (12, s4573)), (q4559, .inl (k4560, 4000, .inl f4561)), (q4564, .inl (k4565, 20, .inl f4566)), (q4569, .inl (k4570, 4001, .inl f4571)), (q4574, .inl (k4575, 4001, .inl ((fun _ : Nat => (0 : Int32)))))] H := hP
  have hD : va_D A [(Ad0, .inr (12, s4573)), (q4559, .inl (k4560, 4000, .inl f4561)), (q4564, .inl (k4565, 20, .inl f4566)), (q4569, .inl (k4570, 4001, .inl f4571)), (q4574, .inl (k4575, 4001, .inl ((fun _ : Nat => (0 : Int32)))))] := hD
  have z4577 : ∀ j, (fun _ : Nat => (0 : Int32)) j = 0 := fun _ => rfl
  generalize (fun _ : Nat => (0 : Int32)) = f4576 at hP hD z4577
  refine W.widen (k := 4) (n := 12022) (by omega) (by omega) ?_
  refine va_putF (D := (dC, dI)) (ci := 12) (v := .ref q4574) (ty := .array .int) (C := RX9) (T := TX9) (N := 12) hx hb hts (in_zk_X9_init_X9) tyX9 tyX9_ok nmX9 hown hK hP hD hS 0 rfl rfl 6 (by decide) (hts (.fieldLink RX9 21 "HeapWorks$Tape" "places" "[I") (by decide +kernel)) (fun _ h9 => h9) rfl hin rfl (by decide +kernel) rfl rfl (by rw [o_s4573.2.1]; decide) dX9_init_36 (fun H locs hP hD hS => ?_)
  have hP : va_P (dC, dI) vwCl [(Ad0, .inr (12, (s4573.set 6 (.ref q4574)))), (q4559, .inl (k4560, 4000, .inl f4561)), (q4564, .inl (k4565, 20, .inl f4566)), (q4569, .inl (k4570, 4001, .inl f4571)), (q4574, .inl (k4575, 4001, .inl f4576))] H := hP
  have hD : va_D A [(Ad0, .inr (12, (s4573.set 6 (.ref q4574)))), (q4559, .inl (k4560, 4000, .inl f4561)), (q4564, .inl (k4565, 20, .inl f4566)), (q4569, .inl (k4570, 4001, .inl f4571)), (q4574, .inl (k4575, 4001, .inl f4576))] := hD
  have o_s4578 := ow_set o_s4573 6 (.ref q4574) (by decide) (l' := [(6, .ref q4574), (5, .ref q4569), (2, .ref q4564), (0, .ref q4559), (3, .null)]) (w' := [6, 5, 2, 0]) rfl rfl
  generalize (s4573.set 6 (.ref q4574)) = s4578 at hP hD o_s4578
  refine lv_aload_n hx hb dX9_init_39 rfl (lv_at hl 0 rfl) ?_
  refine lv_sipush (v := 4001) hx hb dX9_init_40 (by decide) ?_
  refine va_newa (atype := .long) (ty := .long) (a0 := (4001, .inr (.inl (fun _ : Nat => (0 : Int64))))) (N' := 4001) hx hb (hts (.arrayClass .long) (by decide +kernel)) rfl hK hP hD hS hA (na_J 4001) (by decide) (by decide) (by decide) (Nat.le_of_ble_eq_true rfl) (Nat.le_of_ble_eq_true rfl) dX9_init_43 (fun q4579 k4580 H hK hP hD hS => ?_)
  have hK : va_K (dC, dI) vwCl [(k4560, .int), (k4565, .int), (k4570, .int), (k4575, .int), (k4580, .long)] s := hK
  have hP : va_P (dC, dI) vwCl [(Ad0, .inr (12, s4578)), (q4559, .inl (k4560, 4000, .inl f4561)), (q4564, .inl (k4565, 20, .inl f4566)), (q4569, .inl (k4570, 4001, .inl f4571)), (q4574, .inl (k4575, 4001, .inl f4576)), (q4579, .inl (k4580, 4001, .inr (.inl ((fun _ : Nat => (0 : Int64))))))] H := hP
  have hD : va_D A [(Ad0, .inr (12, s4578)), (q4559, .inl (k4560, 4000, .inl f4561)), (q4564, .inl (k4565, 20, .inl f4566)), (q4569, .inl (k4570, 4001, .inl f4571)), (q4574, .inl (k4575, 4001, .inl f4576)), (q4579, .inl (k4580, 4001, .inr (.inl ((fun _ : Nat => (0 : Int64))))))] := hD
  have z4582 : ∀ j, (fun _ : Nat => (0 : Int64)) j = 0 := fun _ => rfl
  generalize (fun _ : Nat => (0 : Int64)) = f4581 at hP hD z4582
  refine W.widen (k := 5) (n := 16023) (by omega) (by omega) ?_
  refine va_putF (D := (dC, dI)) (ci := 12) (v := .ref q4579) (ty := .array .long) (C := RX9) (T := TX9) (N := 12) hx hb hts (in_zk_X9_init_X9) tyX9 tyX9_ok nmX9 hown hK hP hD hS 0 rfl rfl 7 (by decide) (hts (.fieldLink RX9 24 "HeapWorks$Tape" "codes" "[J") (by decide +kernel)) (fun _ h9 => h9) rfl hin rfl (by decide +kernel) rfl rfl (by rw [o_s4578.2.1]; decide) dX9_init_45 (fun H locs hP hD hS => ?_)
  have hP : va_P (dC, dI) vwCl [(Ad0, .inr (12, (s4578.set 7 (.ref q4579)))), (q4559, .inl (k4560, 4000, .inl f4561)), (q4564, .inl (k4565, 20, .inl f4566)), (q4569, .inl (k4570, 4001, .inl f4571)), (q4574, .inl (k4575, 4001, .inl f4576)), (q4579, .inl (k4580, 4001, .inr (.inl f4581)))] H := hP
  have hD : va_D A [(Ad0, .inr (12, (s4578.set 7 (.ref q4579)))), (q4559, .inl (k4560, 4000, .inl f4561)), (q4564, .inl (k4565, 20, .inl f4566)), (q4569, .inl (k4570, 4001, .inl f4571)), (q4574, .inl (k4575, 4001, .inl f4576)), (q4579, .inl (k4580, 4001, .inr (.inl f4581)))] := hD
  have o_s4583 := ow_set o_s4578 7 (.ref q4579) (by decide) (l' := [(7, .ref q4579), (6, .ref q4574), (5, .ref q4569), (2, .ref q4564), (0, .ref q4559), (3, .null)]) (w' := [7, 6, 5, 2, 0]) rfl rfl
  generalize (s4578.set 7 (.ref q4579)) = s4583 at hP hD o_s4583
  refine lv_aload_n hx hb dX9_init_48 rfl (lv_at hl 0 rfl) ?_
  refine lv_bipush (v := 29) hx hb dX9_init_49 (by decide) ?_
  refine va_newa (atype := .long) (ty := .long) (a0 := (29, .inr (.inl (fun _ : Nat => (0 : Int64))))) (N' := 29) hx hb (hts (.arrayClass .long) (by decide +kernel)) rfl hK hP hD hS hA (na_J 29) (by decide) (by decide) (by decide) (Nat.le_of_ble_eq_true rfl) (Nat.le_of_ble_eq_true rfl) dX9_init_51 (fun q4584 k4585 H hK hP hD hS => ?_)
  have hK : va_K (dC, dI) vwCl [(k4560, .int), (k4565, .int), (k4570, .int), (k4575, .int), (k4580, .long), (k4585, .long)] s := hK
  have hP : va_P (dC, dI) vwCl [(Ad0, .inr (12, s4583)), (q4559, .inl (k4560, 4000, .inl f4561)), (q4564, .inl (k4565, 20, .inl f4566)), (q4569, .inl (k4570, 4001, .inl f4571)), (q4574, .inl (k4575, 4001, .inl f4576)), (q4579, .inl (k4580, 4001, .inr (.inl f4581))), (q4584, .inl (k4585, 29, .inr (.inl ((fun _ : Nat => (0 : Int64))))))] H := hP
  have hD : va_D A [(Ad0, .inr (12, s4583)), (q4559, .inl (k4560, 4000, .inl f4561)), (q4564, .inl (k4565, 20, .inl f4566)), (q4569, .inl (k4570, 4001, .inl f4571)), (q4574, .inl (k4575, 4001, .inl f4576)), (q4579, .inl (k4580, 4001, .inr (.inl f4581))), (q4584, .inl (k4585, 29, .inr (.inl ((fun _ : Nat => (0 : Int64))))))] := hD
  have z4587 : ∀ j, (fun _ : Nat => (0 : Int64)) j = 0 := fun _ => rfl
  generalize (fun _ : Nat => (0 : Int64)) = f4586 at hP hD z4587
  refine W.widen (k := 6) (n := 16052) (by omega) (by omega) ?_
  refine va_putF (D := (dC, dI)) (ci := 12) (v := .ref q4584) (ty := .array .long) (C := RX9) (T := TX9) (N := 12) hx hb hts (in_zk_X9_init_X9) tyX9 tyX9_ok nmX9 hown hK hP hD hS 0 rfl rfl 3 (by decide) (hts (.fieldLink RX9 28 "HeapWorks$Tape" "keywords" "[J") (by decide +kernel)) (fun _ h9 => h9) rfl hin rfl (by decide +kernel) rfl rfl (by rw [o_s4583.2.1]; decide) dX9_init_53 (fun H locs hP hD hS => ?_)
  have hP : va_P (dC, dI) vwCl [(Ad0, .inr (12, (s4583.set 3 (.ref q4584)))), (q4559, .inl (k4560, 4000, .inl f4561)), (q4564, .inl (k4565, 20, .inl f4566)), (q4569, .inl (k4570, 4001, .inl f4571)), (q4574, .inl (k4575, 4001, .inl f4576)), (q4579, .inl (k4580, 4001, .inr (.inl f4581))), (q4584, .inl (k4585, 29, .inr (.inl f4586)))] H := hP
  have hD : va_D A [(Ad0, .inr (12, (s4583.set 3 (.ref q4584)))), (q4559, .inl (k4560, 4000, .inl f4561)), (q4564, .inl (k4565, 20, .inl f4566)), (q4569, .inl (k4570, 4001, .inl f4571)), (q4574, .inl (k4575, 4001, .inl f4576)), (q4579, .inl (k4580, 4001, .inr (.inl f4581))), (q4584, .inl (k4585, 29, .inr (.inl f4586)))] := hD
  have o_s4588 := ow_set o_s4583 3 (.ref q4584) (by decide) (l' := [(3, .ref q4584), (7, .ref q4579), (6, .ref q4574), (5, .ref q4569), (2, .ref q4564), (0, .ref q4559)]) (w' := [3, 7, 6, 5, 2, 0]) rfl rfl
  generalize (s4583.set 3 (.ref q4584)) = s4588 at hP hD o_s4588
  refine lv_iconst (v := 0) hx hb dX9_init_56 (by decide) ?_
  refine lv_istore_n (lv' := [(1, .int 0), (0, .ref Ad0)]) hx hb dX9_init_57 rfl hl (by decide) rfl (fun ls hl => ?_)
  refine lv_lconst (v := 0) hx hb dX9_init_58 (by decide) ?_
  refine lv_lstore_n (lv' := [(2, .long 0), (1, .int 0), (0, .ref Ad0)]) hx hb dX9_init_59 rfl hl (by decide) rfl (fun ls hl => ?_)
  refine lv_iconst (v := 0) hx hb dX9_init_60 (by decide) ?_
  refine lv_istore (lv' := [(4, .int 0), (2, .long 0), (1, .int 0), (0, .ref Ad0)]) hx hb dX9_init_61 hl (by decide) rfl (fun ls hl => ?_)
  have HL1 : ∀ (n j5040 : Nat) (x5041 : Int32) (y5042 : Int64) (y5043 : Int32) (f5045 : Nat → Int64), x5041 = nI j5040 → 0 ≤ j5040 → j5040 ≤ 143 → 144 ≤ j5040 + n → ((0 : Int) ≤ y5043.toInt ∧ y5043.toInt ≤ 29) → ∀ (H : Heap) (locs : List Loc) (ls : Array Slot), va_P (dC, dI) vwCl [(Ad0, .inr (12, s4588)), (q4559, .inl (k4560, 4000, .inl f4561)), (q4564, .inl (k4565, 20, .inl f4566)), (q4569, .inl (k4570, 4001, .inl f4571)), (q4574, .inl (k4575, 4001, .inl f4576)), (q4579, .inl (k4580, 4001, .inr (.inl f4581))), (q4584, .inl (k4585, 29, .inr (.inl f5045)))] H → va_D A [(Ad0, .inr (12, s4588)), (q4559, .inl (k4560, 4000, .inl f4561)), (q4564, .inl (k4565, 20, .inl f4566)), (q4569, .inl (k4570, 4001, .inl f4571)), (q4574, .inl (k4575, 4001, .inl f4576)), (q4579, .inl (k4580, 4001, .inr (.inl f4581))), (q4584, .inl (k4585, 29, .inr (.inl f5045)))] → va_S A s.heap H locs → lv_has ls 5 [(4, .int x5041), (2, .long y5042), (1, .int y5043), (0, .ref Ad0)] → W p l e (headSpec w_zk_X9_init ({ frames := 4, cells := 6, slots := 16052, locals := 85 })).room s m ([.ref Ad0]).toArray below meth c H locs 6 16052 (MQ below (va_Qv (fun (u : List Value × Nat × (Nat → Int64) × ClassId × Nat × (Nat → Int64) × ClassId × Nat × (Nat → Int32) × ClassId × Nat × (Nat → Int32) × ClassId × Nat × (Nat → Int32) × ClassId × Nat × (Nat → Int32) × ClassId) => match u with | (s4588, q4584, f5045, k4585, q4579, f4581, k4580, q4574, f4576, k4575, q4569, f4571, k4570, q4564, f4566, k4565, q4559, f4561, k4560) => (ow Fs0 (s4588) 12 [3, 7, 6, 5, 2, 0] [(3, .ref q4584), (7, .ref q4579), (6, .ref q4574), (5, .ref q4569), (2, .ref q4564), (0, .ref q4559)] ∧ (∀ j, f4581 j = 0) ∧ (∀ j, f4576 j = 0) ∧ (∀ j, f4571 j = 0) ∧ (∀ j, f4566 j = 0) ∧ (∀ j, f4561 j = 0))) (fun (u : List Value × Nat × (Nat → Int64) × ClassId × Nat × (Nat → Int64) × ClassId × Nat × (Nat → Int32) × ClassId × Nat × (Nat → Int32) × ClassId × Nat × (Nat → Int32) × ClassId × Nat × (Nat → Int32) × ClassId) t => match u with | (s4588, q4584, f5045, k4585, q4579, f4581, k4580, q4574, f4576, k4575, q4569, f4571, k4570, q4564, f4566, k4565, q4559, f4561, k4560) => Wd dC dI [(k4585, .long), (k4580, .long), (k4575, .int), (k4570, .int), (k4565, .int), (k4560, .int)] A [(Ad0, .inr (12, s4588)), (q4584, .inl (k4585, 29, .inr (.inl f5045))), (q4579, .inl (k4580, 4001, .inr (.inl f4581))), (q4574, .inl (k4575, 4001, .inl f4576)), (q4569, .inl (k4570, 4001, .inl f4571)), (q4564, .inl (k4565, 20, .inl f4566)), (q4559, .inl (k4560, 4000, .inl f4561))] t) A) ([.ref Ad0]).toArray s 6 16052 A) (F0 m 63 ls []) := by
    intro n
    induction n with
    | zero =>
      intro j5040 x5041 y5042 y5043 f5045 e5046 h5048 h5049 h5050 i5044
      exact absurd h5050 (by omega)
    | succ n ih =>
      intro j5040 x5041 y5042 y5043 f5045 e5046 h5048 h5049 h5050 i5044 H locs ls hP hD hS hl
      have t5047 : x5041.toInt = (j5040 : Int) := by rw [e5046]; exact nI_toInt (by omega)
      refine lv_iload hx hb dX9_init_63 (lv_at hl 0 rfl) ?_
      refine va_ldcS hx hb hown hC.2.1 dX9_init_65 ?_
      have hPc := hP.sub (ws' := []) [] rfl
      have hDc := hD.sub (ws' := []) [] (by decide) rfl
      have hKc := hK.sub (tys' := []) [] rfl
      have hFc := va_free (wc := []) hD hS hA [] rfl
      refine va_calli (va_runV (As := []) (rest := [.int x5041]) ⟨hx, hb, hml, hown, hts⟩ (zk_J0_length_8abf5 l dC dI H.size adK adV   ) (cwV 0 hts g_zk_X9_init_zk_J0_length_8abf5_33 rfl rfl rfl (by decide +kernel) ⟨Nat.le_of_ble_eq_true rfl, Nat.le_of_ble_eq_true rfl⟩) ⟨fun a U g mk q => by obtain ⟨q0, q1, qC, qP, qK, qD⟩ := q; exact ⟨q0, q1, Kc_call qC, qP, va_K.moved (u := U) (U := U.calling g mk a) (Vm.Alike.refl U.vm) qK, qD⟩, vk_recv hC.1 (i := 0) (by decide) hS, fun U hU hW => ⟨rfl, by rw [hU], Kc_go hC hS hFc hU hW, by rw [hU]; exact hPc, va_K.moved hW.alike hKc, hDc.weaken (fun _ _ _ _ => trivial)⟩⟩ rfl rfl hl.1 rfl (lv_room (Nat.le_of_ble_eq_true rfl)) dX9_init_67 ⟨Nat.le_of_ble_eq_true rfl, Nat.le_of_ble_eq_true rfl⟩) hS (fun q _ h => hFc q h) hFc (fun r5055 u t H1 locs ht hvm hw hB hz1 hk1 hS => ?_)
      obtain ⟨hP1, hK1, hD1⟩ := hB
      rw [ht] at hP1
      try dsimp only at hw
      obtain ⟨hP, hD⟩ := va_join (wr := [(Ad0, .inr (12, s4588)), (q4559, .inl (k4560, 4000, .inl f4561)), (q4564, .inl (k4565, 20, .inl f4566)), (q4569, .inl (k4570, 4001, .inl f4571)), (q4574, .inl (k4575, 4001, .inl f4576)), (q4579, .inl (k4580, 4001, .inr (.inl f4581))), (q4584, .inl (k4585, 29, .inr (.inl f5045)))]) (w1 := []) hP hD [] [0, 1, 2, 3, 4, 5, 6] rfl rfl (by decide) (by decide) hk1 hFc hP1 hD1
      have hK := hK.sub (tys' := [(k4560, .int), (k4565, .int), (k4570, .int), (k4575, .int), (k4580, .long), (k4585, .long)]) [0, 1, 2, 3, 4, 5] rfl
      generalize H1 = H at hP hS ⊢
      have hP : va_P (dC, dI) vwCl [(Ad0, .inr (12, s4588)), (q4559, .inl (k4560, 4000, .inl f4561)), (q4564, .inl (k4565, 20, .inl f4566)), (q4569, .inl (k4570, 4001, .inl f4571)), (q4574, .inl (k4575, 4001, .inl f4576)), (q4579, .inl (k4580, 4001, .inr (.inl f4581))), (q4584, .inl (k4585, 29, .inr (.inl f5045)))] H := hP
      have hD : va_D A [(Ad0, .inr (12, s4588)), (q4559, .inl (k4560, 4000, .inl f4561)), (q4564, .inl (k4565, 20, .inl f4566)), (q4569, .inl (k4570, 4001, .inl f4571)), (q4574, .inl (k4575, 4001, .inl f4576)), (q4579, .inl (k4580, 4001, .inr (.inl f4581))), (q4584, .inl (k4585, 29, .inr (.inl f5045)))] := hD
      have er5056 := hw
      subst er5056
      refine lv_icmp_ge (tgt := 130) hx hb dX9_init_70 (by decide) (fun c5057 => ?_) (fun c5057 => ?_)
      · skip
        have hP9 := hP.sub (ws' := [(Ad0, .inr (12, s4588)), (q4584, .inl (k4585, 29, .inr (.inl f5045))), (q4579, .inl (k4580, 4001, .inr (.inl f4581))), (q4574, .inl (k4575, 4001, .inl f4576)), (q4569, .inl (k4570, 4001, .inl f4571)), (q4564, .inl (k4565, 20, .inl f4566)), (q4559, .inl (k4560, 4000, .inl f4561))]) [0, 6, 5, 4, 3, 2, 1] rfl
        have hD9 := hD.sub (ws' := [(Ad0, .inr (12, s4588)), (q4584, .inl (k4585, 29, .inr (.inl f5045))), (q4579, .inl (k4580, 4001, .inr (.inl f4581))), (q4574, .inl (k4575, 4001, .inl f4576)), (q4569, .inl (k4570, 4001, .inl f4571)), (q4564, .inl (k4565, 20, .inl f4566)), (q4559, .inl (k4560, 4000, .inl f4561))]) [0, 6, 5, 4, 3, 2, 1] (by decide) rfl
        have hK9 := hK.sub (tys' := [(k4585, .long), (k4580, .long), (k4575, .int), (k4570, .int), (k4565, .int), (k4560, .int)]) [5, 4, 3, 2, 1, 0] rfl
        refine W.widen (k := 6) (n := 16052) (by decide) (by decide) ?_
        exact W.vret hx hb hr (fun t ht hW => ⟨⟨(s4588, q4584, f5045, k4585, q4579, f4581, k4580, q4574, f4576, k4575, q4569, f4571, k4570, q4564, f4566, k4565, q4559, f4561, k4560), rfl, ⟨o_s4588, z4582, z4577, z4572, z4567, z4562⟩, by rw [ht]; exact hP9, va_K.moved hW.alike hK9, hD9⟩, hS.F ht⟩) hS.2.2 dX9_init_130
      · skip
        refine va_ldcS hx hb hown hC.2.1 dX9_init_73 ?_
        refine lv_iload hx hb dX9_init_75 (lv_at hl 0 rfl) ?_
        have hPc := hP.sub (ws' := []) [] rfl
        have hDc := hD.sub (ws' := []) [] (by decide) rfl
        have hKc := hK.sub (tys' := []) [] rfl
        have hFc := va_free (wc := []) hD hS hA [] rfl
        refine va_calli (va_runV (As := [.int x5041]) (rest := []) ⟨hx, hb, hml, hown, hts⟩ (zk_J0_charAt_5068e l dC dI H.size adK adV x5041  (by (try simp only [i_lt, i_le, i_eq, kc_143] at t5047 h5049 h5048 c5057); omega)) (cwV 1 hts g_zk_X9_init_zk_J0_charAt_5068e_39 rfl rfl rfl (by decide +kernel) ⟨Nat.le_of_ble_eq_true rfl, Nat.le_of_ble_eq_true rfl⟩) ⟨fun a U g mk q => by obtain ⟨q0, q1, qC, qP, qK, qD⟩ := q; exact ⟨q0, q1, Kc_call qC, qP, va_K.moved (u := U) (U := U.calling g mk a) (Vm.Alike.refl U.vm) qK, qD⟩, vk_recv hC.1 (i := 0) (by decide) hS, fun U hU hW => ⟨rfl, by rw [hU], Kc_go hC hS hFc hU hW, by rw [hU]; exact hPc, va_K.moved hW.alike hKc, hDc.weaken (fun _ _ _ _ => trivial)⟩⟩ rfl rfl hl.1 rfl (lv_room (Nat.le_of_ble_eq_true rfl)) dX9_init_77 ⟨Nat.le_of_ble_eq_true rfl, Nat.le_of_ble_eq_true rfl⟩) hS (fun q _ h => hFc q h) hFc (fun r5102 u t H1 locs ht hvm hw hB hz1 hk1 hS => ?_)
        obtain ⟨hP1, hK1, hD1⟩ := hB
        rw [ht] at hP1
        try dsimp only at hw
        obtain ⟨hP, hD⟩ := va_join (wr := [(Ad0, .inr (12, s4588)), (q4559, .inl (k4560, 4000, .inl f4561)), (q4564, .inl (k4565, 20, .inl f4566)), (q4569, .inl (k4570, 4001, .inl f4571)), (q4574, .inl (k4575, 4001, .inl f4576)), (q4579, .inl (k4580, 4001, .inr (.inl f4581))), (q4584, .inl (k4585, 29, .inr (.inl f5045)))]) (w1 := []) hP hD [] [0, 1, 2, 3, 4, 5, 6] rfl rfl (by decide) (by decide) hk1 hFc hP1 hD1
        have hK := hK.sub (tys' := [(k4560, .int), (k4565, .int), (k4570, .int), (k4575, .int), (k4580, .long), (k4585, .long)]) [0, 1, 2, 3, 4, 5] rfl
        generalize H1 = H at hP hS ⊢
        have hP : va_P (dC, dI) vwCl [(Ad0, .inr (12, s4588)), (q4559, .inl (k4560, 4000, .inl f4561)), (q4564, .inl (k4565, 20, .inl f4566)), (q4569, .inl (k4570, 4001, .inl f4571)), (q4574, .inl (k4575, 4001, .inl f4576)), (q4579, .inl (k4580, 4001, .inr (.inl f4581))), (q4584, .inl (k4585, 29, .inr (.inl f5045)))] H := hP
        have hD : va_D A [(Ad0, .inr (12, s4588)), (q4559, .inl (k4560, 4000, .inl f4561)), (q4564, .inl (k4565, 20, .inl f4566)), (q4569, .inl (k4570, 4001, .inl f4571)), (q4574, .inl (k4575, 4001, .inl f4576)), (q4579, .inl (k4580, 4001, .inr (.inl f4581))), (q4584, .inl (k4585, 29, .inr (.inl f5045)))] := hD
        obtain ⟨c5103, c5104, nc5105⟩ := hw
        refine lv_bipush (v := 32) hx hb dX9_init_80 (by decide) ?_
        refine lv_icmp_eq (tgt := 106) hx hb dX9_init_82 (by decide) (fun c5106 => ?_) (fun c5106 => ?_)
        · skip
          refine lv_iload_n hx hb dX9_init_106 rfl (lv_at hl 2 rfl) ?_
          refine lv_bipush (v := 29) hx hb dX9_init_107 (by decide) ?_
          refine lv_icmp_ge (tgt := 124) hx hb dX9_init_109 (by decide) (fun c5107 => ?_) (fun c5107 => ?_)
          · skip
            obtain ⟨x5108, ex5108⟩ : ∃ y : Int32, y = x5041 + 1 := ⟨_, rfl⟩
            refine lv_iinc (v := x5108) (lv' := [(4, .int x5108), (2, .long y5042), (1, .int y5043), (0, .ref Ad0)]) hx hb dX9_init_124 hl (k := 0) rfl (by rw [ex5108]; rfl) (by decide) rfl (fun ls hl => ?_)
            have tx5108 : x5108.toInt = x5041.toInt + (1 : Int32).toInt := by rw [ex5108]; exact i_add (by have bd_x5041 := i_bd x5041; (try simp only [i_lt, i_le, i_eq, kc_143, kc_0, kc_1] at t5047 h5049 h5048 c5057 c5103 c5104 ⊢); omega) (by have bd_x5041 := i_bd x5041; (try simp only [i_lt, i_le, i_eq, kc_143, kc_0, kc_1] at t5047 h5049 h5048 c5057 c5103 c5104 ⊢); omega)
            refine lv_goto (tgt := 63) hx hb dX9_init_127 (by decide) ?_
            exact ih (j5040 + 1) x5108 y5042 y5043 f5045 (by rw [ex5108, e5046]; exact nI_1 _) (by omega) (by (try simp only [i_lt, i_le, i_eq, kc_143, kc_0, kc_1] at t5047 h5049 h5048 c5057 c5103 c5104 tx5108); omega) (by omega)  (by have bd_y5043 := i_bd y5043; (try simp only [i_lt, i_le, i_eq, kc_29] at i5044 c5107); omega) _ _ _ (hP.sub [0, 1, 2, 3, 4, 5, 6] rfl) (hD.sub [0, 1, 2, 3, 4, 5, 6] (by decide) rfl) hS  (lv_sub hl [0, 1, 2, 3] rfl)
          · skip
            refine lv_aload_n hx hb dX9_init_112 rfl (lv_at hl 3 rfl) ?_
            refine va_get (D := (dC, dI)) (ci := 12) (v := .ref q4584) (C := RX9) (T := TX9) (N := 12) hx hb hts (in_zk_X9_init_X9) hown hK hP 0 rfl rfl 3 (by decide) (hts (.fieldLink RX9 28 "HeapWorks$Tape" "keywords" "[J") (by decide +kernel)) (fun _ h9 => h9) (ow_at o_s4588 0 rfl) dX9_init_113 ?_
            refine lv_iload_n hx hb dX9_init_116 rfl (lv_at hl 2 rfl) ?_
            refine lv_lload_n hx hb dX9_init_117 rfl (lv_at hl 1 rfl) ?_
            refine va_last hx hb hK hP hD hS 6 5 rfl rfl (by rw [vp_in_iff]; (try simp only [i_lt, i_le, i_eq, kc_29] at i5044 c5107); omega) dX9_init_118 (fun H locs hP hD hS => ?_)
            have hP : va_P (dC, dI) vwCl [(Ad0, .inr (12, s4588)), (q4559, .inl (k4560, 4000, .inl f4561)), (q4564, .inl (k4565, 20, .inl f4566)), (q4569, .inl (k4570, 4001, .inl f4571)), (q4574, .inl (k4575, 4001, .inl f4576)), (q4579, .inl (k4580, 4001, .inr (.inl f4581))), (q4584, .inl (k4585, 29, .inr (.inl (vp_updL f5045 (y5043 : Int32).toNatClampNeg y5042))))] H := hP
            have hD : va_D A [(Ad0, .inr (12, s4588)), (q4559, .inl (k4560, 4000, .inl f4561)), (q4564, .inl (k4565, 20, .inl f4566)), (q4569, .inl (k4570, 4001, .inl f4571)), (q4574, .inl (k4575, 4001, .inl f4576)), (q4579, .inl (k4580, 4001, .inr (.inl f4581))), (q4584, .inl (k4585, 29, .inr (.inl (vp_updL f5045 (y5043 : Int32).toNatClampNeg y5042))))] := hD
            have q5110 : (vp_updL f5045 (y5043 : Int32).toNatClampNeg y5042) (y5043 : Int32).toNatClampNeg = y5042 := pk_uLs
            generalize vp_updL f5045 (y5043 : Int32).toNatClampNeg y5042 = f5109 at hP hD q5110
            refine lv_lconst (v := 0) hx hb dX9_init_119 (by decide) ?_
            refine lv_lstore_n (lv' := [(2, .long 0), (4, .int x5041), (1, .int y5043), (0, .ref Ad0)]) hx hb dX9_init_120 rfl hl (by decide) rfl (fun ls hl => ?_)
            obtain ⟨x5111, ex5111⟩ : ∃ y : Int32, y = y5043 + 1 := ⟨_, rfl⟩
            refine lv_iinc (v := x5111) (lv' := [(1, .int x5111), (2, .long 0), (4, .int x5041), (0, .ref Ad0)]) hx hb dX9_init_121 hl (k := 2) rfl (by rw [ex5111]; rfl) (by decide) rfl (fun ls hl => ?_)
            have tx5111 : x5111.toInt = y5043.toInt + (1 : Int32).toInt := by rw [ex5111]; exact i_add (by have bd_y5043 := i_bd y5043; (try simp only [i_lt, i_le, i_eq, kc_29, kc_1] at i5044 c5107 ⊢); omega) (by have bd_y5043 := i_bd y5043; (try simp only [i_lt, i_le, i_eq, kc_29, kc_1] at i5044 c5107 ⊢); omega)
            obtain ⟨x5112, ex5112⟩ : ∃ y : Int32, y = x5041 + 1 := ⟨_, rfl⟩
            refine lv_iinc (v := x5112) (lv' := [(4, .int x5112), (1, .int x5111), (2, .long 0), (0, .ref Ad0)]) hx hb dX9_init_124 hl (k := 2) rfl (by rw [ex5112]; rfl) (by decide) rfl (fun ls hl => ?_)
            have tx5112 : x5112.toInt = x5041.toInt + (1 : Int32).toInt := by rw [ex5112]; exact i_add (by have bd_x5041 := i_bd x5041; (try simp only [i_lt, i_le, i_eq, kc_143, kc_0, kc_1] at t5047 h5049 h5048 c5057 c5103 c5104 ⊢); omega) (by have bd_x5041 := i_bd x5041; (try simp only [i_lt, i_le, i_eq, kc_143, kc_0, kc_1] at t5047 h5049 h5048 c5057 c5103 c5104 ⊢); omega)
            refine lv_goto (tgt := 63) hx hb dX9_init_127 (by decide) ?_
            exact ih (j5040 + 1) x5112 (0) x5111 f5109 (by rw [ex5112, e5046]; exact nI_1 _) (by omega) (by (try simp only [i_lt, i_le, i_eq, kc_143, kc_0, kc_1] at t5047 h5049 h5048 c5057 c5103 c5104 tx5112); omega) (by omega)  (by have bd_x5111 := i_bd x5111; (try simp only [i_lt, i_le, i_eq, kc_1, kc_29] at tx5111 i5044 c5107); omega) _ _ _ (hP.sub [0, 1, 2, 3, 4, 5, 6] rfl) (hD.sub [0, 1, 2, 3, 4, 5, 6] (by decide) rfl) hS  (lv_sub hl [0, 2, 1, 3] rfl)
        · skip
          refine lv_lload_n hx hb dX9_init_85 rfl (lv_at hl 1 rfl) ?_
          refine lv_ldc2 (v := 64) hx hb hown (hts (.constantLong RX9 43 (64)) (by decide +kernel)) dX9_init_86 ?_
          refine lv_lmul hx hb dX9_init_89  ?_
          refine lv_topl (fun x5113 ex5113 => ?_)
          refine va_ldcS hx hb hown hC.2.1 dX9_init_90 ?_
          refine lv_iload hx hb dX9_init_92 (lv_at hl 0 rfl) ?_
          have hPc := hP.sub (ws' := []) [] rfl
          have hDc := hD.sub (ws' := []) [] (by decide) rfl
          have hKc := hK.sub (tys' := []) [] rfl
          have hFc := va_free (wc := []) hD hS hA [] rfl
          refine va_calli (va_runV (As := [.int x5041]) (rest := [.long x5113]) ⟨hx, hb, hml, hown, hts⟩ (zk_J0_charAt_5068e l dC dI H.size adK adV x5041  (by (try simp only [i_lt, i_le, i_eq, kc_143, kc_0] at t5047 h5049 h5048 c5057 c5103 c5104); omega)) (cwV 1 hts g_zk_X9_init_zk_J0_charAt_5068e_39 rfl rfl rfl (by decide +kernel) ⟨Nat.le_of_ble_eq_true rfl, Nat.le_of_ble_eq_true rfl⟩) ⟨fun a U g mk q => by obtain ⟨q0, q1, qC, qP, qK, qD⟩ := q; exact ⟨q0, q1, Kc_call qC, qP, va_K.moved (u := U) (U := U.calling g mk a) (Vm.Alike.refl U.vm) qK, qD⟩, vk_recv hC.1 (i := 0) (by decide) hS, fun U hU hW => ⟨rfl, by rw [hU], Kc_go hC hS hFc hU hW, by rw [hU]; exact hPc, va_K.moved hW.alike hKc, hDc.weaken (fun _ _ _ _ => trivial)⟩⟩ rfl rfl hl.1 rfl (lv_room (Nat.le_of_ble_eq_true rfl)) dX9_init_94 ⟨Nat.le_of_ble_eq_true rfl, Nat.le_of_ble_eq_true rfl⟩) hS (fun q _ h => hFc q h) hFc (fun r5158 u t H1 locs ht hvm hw hB hz1 hk1 hS => ?_)
          obtain ⟨hP1, hK1, hD1⟩ := hB
          rw [ht] at hP1
          try dsimp only at hw
          obtain ⟨hP, hD⟩ := va_join (wr := [(Ad0, .inr (12, s4588)), (q4559, .inl (k4560, 4000, .inl f4561)), (q4564, .inl (k4565, 20, .inl f4566)), (q4569, .inl (k4570, 4001, .inl f4571)), (q4574, .inl (k4575, 4001, .inl f4576)), (q4579, .inl (k4580, 4001, .inr (.inl f4581))), (q4584, .inl (k4585, 29, .inr (.inl f5045)))]) (w1 := []) hP hD [] [0, 1, 2, 3, 4, 5, 6] rfl rfl (by decide) (by decide) hk1 hFc hP1 hD1
          have hK := hK.sub (tys' := [(k4560, .int), (k4565, .int), (k4570, .int), (k4575, .int), (k4580, .long), (k4585, .long)]) [0, 1, 2, 3, 4, 5] rfl
          generalize H1 = H at hP hS ⊢
          have hP : va_P (dC, dI) vwCl [(Ad0, .inr (12, s4588)), (q4559, .inl (k4560, 4000, .inl f4561)), (q4564, .inl (k4565, 20, .inl f4566)), (q4569, .inl (k4570, 4001, .inl f4571)), (q4574, .inl (k4575, 4001, .inl f4576)), (q4579, .inl (k4580, 4001, .inr (.inl f4581))), (q4584, .inl (k4585, 29, .inr (.inl f5045)))] H := hP
          have hD : va_D A [(Ad0, .inr (12, s4588)), (q4559, .inl (k4560, 4000, .inl f4561)), (q4564, .inl (k4565, 20, .inl f4566)), (q4569, .inl (k4570, 4001, .inl f4571)), (q4574, .inl (k4575, 4001, .inl f4576)), (q4579, .inl (k4580, 4001, .inr (.inl f4581))), (q4584, .inl (k4585, 29, .inr (.inl f5045)))] := hD
          obtain ⟨c5159, c5160, nc5161⟩ := hw
          have hPc := hP.sub (ws' := []) [] rfl
          have hDc := hD.sub (ws' := []) [] (by decide) rfl
          have hKc := hK.sub (tys' := []) [] rfl
          have hFc := va_free (wc := []) hD hS hA [] rfl
          refine va_calli (va_runS (As := [.int r5158]) (rest := [.long x5113]) ⟨hx, hb, hml, hown, hts⟩ (zk_X9_symbolOf l dC dI H.size r5158  ) (cwS 1 hts g_zk_X9_init_zk_X9_symbolOf_45 rfl rfl rfl (by decide +kernel) ⟨Nat.le_of_ble_eq_true rfl, Nat.le_of_ble_eq_true rfl⟩) ⟨fun a U g mk q => by obtain ⟨q0, q1, qP, qK, qD⟩ := q; exact ⟨q0, q1, qP, va_K.moved (u := U) (U := U.calling g mk a) (Vm.Alike.refl U.vm) qK, qD⟩, fun U hU hW => ⟨rfl, by rw [hU], by rw [hU]; exact hPc, va_K.moved hW.alike hKc, hDc.weaken (fun _ _ _ _ => trivial)⟩⟩ rfl rfl hl.1 rfl (lv_room (Nat.le_of_ble_eq_true rfl)) dX9_init_97 ⟨Nat.le_of_ble_eq_true rfl, Nat.le_of_ble_eq_true rfl⟩) hS (fun q _ h => hFc q h) hFc (fun r5211 u t H1 locs ht hvm hw hB hz1 hk1 hS => ?_)
          obtain ⟨hP1, hK1, hD1⟩ := hB
          rw [ht] at hP1
          try dsimp only at hw
          obtain ⟨hP, hD⟩ := va_join (wr := [(Ad0, .inr (12, s4588)), (q4559, .inl (k4560, 4000, .inl f4561)), (q4564, .inl (k4565, 20, .inl f4566)), (q4569, .inl (k4570, 4001, .inl f4571)), (q4574, .inl (k4575, 4001, .inl f4576)), (q4579, .inl (k4580, 4001, .inr (.inl f4581))), (q4584, .inl (k4585, 29, .inr (.inl f5045)))]) (w1 := []) hP hD [] [0, 1, 2, 3, 4, 5, 6] rfl rfl (by decide) (by decide) hk1 hFc hP1 hD1
          have hK := hK.sub (tys' := [(k4560, .int), (k4565, .int), (k4570, .int), (k4575, .int), (k4580, .long), (k4585, .long)]) [0, 1, 2, 3, 4, 5] rfl
          generalize H1 = H at hP hS ⊢
          have hP : va_P (dC, dI) vwCl [(Ad0, .inr (12, s4588)), (q4559, .inl (k4560, 4000, .inl f4561)), (q4564, .inl (k4565, 20, .inl f4566)), (q4569, .inl (k4570, 4001, .inl f4571)), (q4574, .inl (k4575, 4001, .inl f4576)), (q4579, .inl (k4580, 4001, .inr (.inl f4581))), (q4584, .inl (k4585, 29, .inr (.inl f5045)))] H := hP
          have hD : va_D A [(Ad0, .inr (12, s4588)), (q4559, .inl (k4560, 4000, .inl f4561)), (q4564, .inl (k4565, 20, .inl f4566)), (q4569, .inl (k4570, 4001, .inl f4571)), (q4574, .inl (k4575, 4001, .inl f4576)), (q4579, .inl (k4580, 4001, .inr (.inl f4581))), (q4584, .inl (k4585, 29, .inr (.inl f5045)))] := hD
          rcases hw with ⟨c5212, c5213, c5214, er5215⟩ | ⟨c5216, c5217, c5218, c5219, er5220⟩ | ⟨c5221, c5222, c5223, c5224, er5225⟩ | ⟨c5226, c5227, c5228, c5229, c5230, er5231⟩ | ⟨c5232, c5233, c5234, c5235, c5236, c5237, er5238⟩ | ⟨c5239, c5240, c5241, c5242, er5243⟩ | ⟨c5244, c5245, er5246⟩
          · skip
            subst er5215
            refine lv_i2l hx hb dX9_init_100 rfl ?_
            refine lv_topl (fun x5247 ex5247 => ?_)
            obtain rfl : x5247 = 0 := ex5247.trans (by decide)
            refine lv_ladd hx hb dX9_init_101  ?_
            refine lv_topl (fun x5248 ex5248 => ?_)
            refine lv_lstore_n (lv' := [(2, .long x5248), (4, .int x5041), (1, .int y5043), (0, .ref Ad0)]) hx hb dX9_init_102 rfl hl (by decide) rfl (fun ls hl => ?_)
            refine lv_goto (tgt := 124) hx hb dX9_init_103 (by decide) ?_
            obtain ⟨x5249, ex5249⟩ : ∃ y : Int32, y = x5041 + 1 := ⟨_, rfl⟩
            refine lv_iinc (v := x5249) (lv' := [(4, .int x5249), (2, .long x5248), (1, .int y5043), (0, .ref Ad0)]) hx hb dX9_init_124 hl (k := 1) rfl (by rw [ex5249]; rfl) (by decide) rfl (fun ls hl => ?_)
            have tx5249 : x5249.toInt = x5041.toInt + (1 : Int32).toInt := by rw [ex5249]; exact i_add (by have bd_x5041 := i_bd x5041; (try simp only [i_lt, i_le, i_eq, kc_143, kc_0, kc_1] at t5047 h5049 h5048 c5057 c5103 c5104 c5159 c5160 ⊢); omega) (by have bd_x5041 := i_bd x5041; (try simp only [i_lt, i_le, i_eq, kc_143, kc_0, kc_1] at t5047 h5049 h5048 c5057 c5103 c5104 c5159 c5160 ⊢); omega)
            refine lv_goto (tgt := 63) hx hb dX9_init_127 (by decide) ?_
            exact ih (j5040 + 1) x5249 x5248 y5043 f5045 (by rw [ex5249, e5046]; exact nI_1 _) (by omega) (by (try simp only [i_lt, i_le, i_eq, kc_143, kc_0, kc_1] at t5047 h5049 h5048 c5057 c5103 c5104 c5159 c5160 tx5249); omega) (by omega)  (by have bd_y5043 := i_bd y5043; (try simp only [i_lt, i_le, i_eq] at i5044); omega) _ _ _ (hP.sub [0, 1, 2, 3, 4, 5, 6] rfl) (hD.sub [0, 1, 2, 3, 4, 5, 6] (by decide) rfl) hS  (lv_sub hl [0, 1, 2, 3] rfl)
          · skip
            subst er5220
            refine lv_i2l hx hb dX9_init_100 rfl ?_
            refine lv_topl (fun x5250 ex5250 => ?_)
            obtain rfl : x5250 = 0 := ex5250.trans (by decide)
            refine lv_ladd hx hb dX9_init_101  ?_
            refine lv_topl (fun x5251 ex5251 => ?_)
            refine lv_lstore_n (lv' := [(2, .long x5251), (4, .int x5041), (1, .int y5043), (0, .ref Ad0)]) hx hb dX9_init_102 rfl hl (by decide) rfl (fun ls hl => ?_)
            refine lv_goto (tgt := 124) hx hb dX9_init_103 (by decide) ?_
            obtain ⟨x5252, ex5252⟩ : ∃ y : Int32, y = x5041 + 1 := ⟨_, rfl⟩
            refine lv_iinc (v := x5252) (lv' := [(4, .int x5252), (2, .long x5251), (1, .int y5043), (0, .ref Ad0)]) hx hb dX9_init_124 hl (k := 1) rfl (by rw [ex5252]; rfl) (by decide) rfl (fun ls hl => ?_)
            have tx5252 : x5252.toInt = x5041.toInt + (1 : Int32).toInt := by rw [ex5252]; exact i_add (by have bd_x5041 := i_bd x5041; (try simp only [i_lt, i_le, i_eq, kc_143, kc_0, kc_1] at t5047 h5049 h5048 c5057 c5103 c5104 c5159 c5160 ⊢); omega) (by have bd_x5041 := i_bd x5041; (try simp only [i_lt, i_le, i_eq, kc_143, kc_0, kc_1] at t5047 h5049 h5048 c5057 c5103 c5104 c5159 c5160 ⊢); omega)
            refine lv_goto (tgt := 63) hx hb dX9_init_127 (by decide) ?_
            exact ih (j5040 + 1) x5252 x5251 y5043 f5045 (by rw [ex5252, e5046]; exact nI_1 _) (by omega) (by (try simp only [i_lt, i_le, i_eq, kc_143, kc_0, kc_1] at t5047 h5049 h5048 c5057 c5103 c5104 c5159 c5160 tx5252); omega) (by omega)  (by have bd_y5043 := i_bd y5043; (try simp only [i_lt, i_le, i_eq] at i5044); omega) _ _ _ (hP.sub [0, 1, 2, 3, 4, 5, 6] rfl) (hD.sub [0, 1, 2, 3, 4, 5, 6] (by decide) rfl) hS  (lv_sub hl [0, 1, 2, 3] rfl)
          · skip
            have er5211 := er5225
            refine lv_i2l hx hb dX9_init_100 rfl ?_
            refine lv_topl (fun x5253 ex5253 => ?_)
            refine lv_ladd hx hb dX9_init_101  ?_
            refine lv_topl (fun x5254 ex5254 => ?_)
            refine lv_lstore_n (lv' := [(2, .long x5254), (4, .int x5041), (1, .int y5043), (0, .ref Ad0)]) hx hb dX9_init_102 rfl hl (by decide) rfl (fun ls hl => ?_)
            refine lv_goto (tgt := 124) hx hb dX9_init_103 (by decide) ?_
            obtain ⟨x5255, ex5255⟩ : ∃ y : Int32, y = x5041 + 1 := ⟨_, rfl⟩
            refine lv_iinc (v := x5255) (lv' := [(4, .int x5255), (2, .long x5254), (1, .int y5043), (0, .ref Ad0)]) hx hb dX9_init_124 hl (k := 1) rfl (by rw [ex5255]; rfl) (by decide) rfl (fun ls hl => ?_)
            have tx5255 : x5255.toInt = x5041.toInt + (1 : Int32).toInt := by rw [ex5255]; exact i_add (by have bd_x5041 := i_bd x5041; (try simp only [i_lt, i_le, i_eq, kc_143, kc_0, kc_1] at t5047 h5049 h5048 c5057 c5103 c5104 c5159 c5160 ⊢); omega) (by have bd_x5041 := i_bd x5041; (try simp only [i_lt, i_le, i_eq, kc_143, kc_0, kc_1] at t5047 h5049 h5048 c5057 c5103 c5104 c5159 c5160 ⊢); omega)
            refine lv_goto (tgt := 63) hx hb dX9_init_127 (by decide) ?_
            exact ih (j5040 + 1) x5255 x5254 y5043 f5045 (by rw [ex5255, e5046]; exact nI_1 _) (by omega) (by (try simp only [i_lt, i_le, i_eq, kc_143, kc_0, kc_1] at t5047 h5049 h5048 c5057 c5103 c5104 c5159 c5160 tx5255); omega) (by omega)  (by have bd_y5043 := i_bd y5043; (try simp only [i_lt, i_le, i_eq] at i5044); omega) _ _ _ (hP.sub [0, 1, 2, 3, 4, 5, 6] rfl) (hD.sub [0, 1, 2, 3, 4, 5, 6] (by decide) rfl) hS  (lv_sub hl [0, 1, 2, 3] rfl)
          · skip
            subst er5231
            refine lv_i2l hx hb dX9_init_100 rfl ?_
            refine lv_topl (fun x5256 ex5256 => ?_)
            obtain rfl : x5256 = 0 := ex5256.trans (by decide)
            refine lv_ladd hx hb dX9_init_101  ?_
            refine lv_topl (fun x5257 ex5257 => ?_)
            refine lv_lstore_n (lv' := [(2, .long x5257), (4, .int x5041), (1, .int y5043), (0, .ref Ad0)]) hx hb dX9_init_102 rfl hl (by decide) rfl (fun ls hl => ?_)
            refine lv_goto (tgt := 124) hx hb dX9_init_103 (by decide) ?_
            obtain ⟨x5258, ex5258⟩ : ∃ y : Int32, y = x5041 + 1 := ⟨_, rfl⟩
            refine lv_iinc (v := x5258) (lv' := [(4, .int x5258), (2, .long x5257), (1, .int y5043), (0, .ref Ad0)]) hx hb dX9_init_124 hl (k := 1) rfl (by rw [ex5258]; rfl) (by decide) rfl (fun ls hl => ?_)
            have tx5258 : x5258.toInt = x5041.toInt + (1 : Int32).toInt := by rw [ex5258]; exact i_add (by have bd_x5041 := i_bd x5041; (try simp only [i_lt, i_le, i_eq, kc_143, kc_0, kc_1] at t5047 h5049 h5048 c5057 c5103 c5104 c5159 c5160 ⊢); omega) (by have bd_x5041 := i_bd x5041; (try simp only [i_lt, i_le, i_eq, kc_143, kc_0, kc_1] at t5047 h5049 h5048 c5057 c5103 c5104 c5159 c5160 ⊢); omega)
            refine lv_goto (tgt := 63) hx hb dX9_init_127 (by decide) ?_
            exact ih (j5040 + 1) x5258 x5257 y5043 f5045 (by rw [ex5258, e5046]; exact nI_1 _) (by omega) (by (try simp only [i_lt, i_le, i_eq, kc_143, kc_0, kc_1] at t5047 h5049 h5048 c5057 c5103 c5104 c5159 c5160 tx5258); omega) (by omega)  (by have bd_y5043 := i_bd y5043; (try simp only [i_lt, i_le, i_eq] at i5044); omega) _ _ _ (hP.sub [0, 1, 2, 3, 4, 5, 6] rfl) (hD.sub [0, 1, 2, 3, 4, 5, 6] (by decide) rfl) hS  (lv_sub hl [0, 1, 2, 3] rfl)
          · skip
            subst er5238
            refine lv_i2l hx hb dX9_init_100 rfl ?_
            refine lv_topl (fun x5259 ex5259 => ?_)
            obtain rfl : x5259 = 0 := ex5259.trans (by decide)
            refine lv_ladd hx hb dX9_init_101  ?_
            refine lv_topl (fun x5260 ex5260 => ?_)
            refine lv_lstore_n (lv' := [(2, .long x5260), (4, .int x5041), (1, .int y5043), (0, .ref Ad0)]) hx hb dX9_init_102 rfl hl (by decide) rfl (fun ls hl => ?_)
            refine lv_goto (tgt := 124) hx hb dX9_init_103 (by decide) ?_
            obtain ⟨x5261, ex5261⟩ : ∃ y : Int32, y = x5041 + 1 := ⟨_, rfl⟩
            refine lv_iinc (v := x5261) (lv' := [(4, .int x5261), (2, .long x5260), (1, .int y5043), (0, .ref Ad0)]) hx hb dX9_init_124 hl (k := 1) rfl (by rw [ex5261]; rfl) (by decide) rfl (fun ls hl => ?_)
            have tx5261 : x5261.toInt = x5041.toInt + (1 : Int32).toInt := by rw [ex5261]; exact i_add (by have bd_x5041 := i_bd x5041; (try simp only [i_lt, i_le, i_eq, kc_143, kc_0, kc_1] at t5047 h5049 h5048 c5057 c5103 c5104 c5159 c5160 ⊢); omega) (by have bd_x5041 := i_bd x5041; (try simp only [i_lt, i_le, i_eq, kc_143, kc_0, kc_1] at t5047 h5049 h5048 c5057 c5103 c5104 c5159 c5160 ⊢); omega)
            refine lv_goto (tgt := 63) hx hb dX9_init_127 (by decide) ?_
            exact ih (j5040 + 1) x5261 x5260 y5043 f5045 (by rw [ex5261, e5046]; exact nI_1 _) (by omega) (by (try simp only [i_lt, i_le, i_eq, kc_143, kc_0, kc_1] at t5047 h5049 h5048 c5057 c5103 c5104 c5159 c5160 tx5261); omega) (by omega)  (by have bd_y5043 := i_bd y5043; (try simp only [i_lt, i_le, i_eq] at i5044); omega) _ _ _ (hP.sub [0, 1, 2, 3, 4, 5, 6] rfl) (hD.sub [0, 1, 2, 3, 4, 5, 6] (by decide) rfl) hS  (lv_sub hl [0, 1, 2, 3] rfl)
          · skip
            have er5211 := er5243
            refine lv_i2l hx hb dX9_init_100 rfl ?_
            refine lv_topl (fun x5262 ex5262 => ?_)
            refine lv_ladd hx hb dX9_init_101  ?_
            refine lv_topl (fun x5263 ex5263 => ?_)
            refine lv_lstore_n (lv' := [(2, .long x5263), (4, .int x5041), (1, .int y5043), (0, .ref Ad0)]) hx hb dX9_init_102 rfl hl (by decide) rfl (fun ls hl => ?_)
            refine lv_goto (tgt := 124) hx hb dX9_init_103 (by decide) ?_
            obtain ⟨x5264, ex5264⟩ : ∃ y : Int32, y = x5041 + 1 := ⟨_, rfl⟩
            refine lv_iinc (v := x5264) (lv' := [(4, .int x5264), (2, .long x5263), (1, .int y5043), (0, .ref Ad0)]) hx hb dX9_init_124 hl (k := 1) rfl (by rw [ex5264]; rfl) (by decide) rfl (fun ls hl => ?_)
            have tx5264 : x5264.toInt = x5041.toInt + (1 : Int32).toInt := by rw [ex5264]; exact i_add (by have bd_x5041 := i_bd x5041; (try simp only [i_lt, i_le, i_eq, kc_143, kc_0, kc_1] at t5047 h5049 h5048 c5057 c5103 c5104 c5159 c5160 ⊢); omega) (by have bd_x5041 := i_bd x5041; (try simp only [i_lt, i_le, i_eq, kc_143, kc_0, kc_1] at t5047 h5049 h5048 c5057 c5103 c5104 c5159 c5160 ⊢); omega)
            refine lv_goto (tgt := 63) hx hb dX9_init_127 (by decide) ?_
            exact ih (j5040 + 1) x5264 x5263 y5043 f5045 (by rw [ex5264, e5046]; exact nI_1 _) (by omega) (by (try simp only [i_lt, i_le, i_eq, kc_143, kc_0, kc_1] at t5047 h5049 h5048 c5057 c5103 c5104 c5159 c5160 tx5264); omega) (by omega)  (by have bd_y5043 := i_bd y5043; (try simp only [i_lt, i_le, i_eq] at i5044); omega) _ _ _ (hP.sub [0, 1, 2, 3, 4, 5, 6] rfl) (hD.sub [0, 1, 2, 3, 4, 5, 6] (by decide) rfl) hS  (lv_sub hl [0, 1, 2, 3] rfl)
          · skip
            have er5211 := er5246
            refine lv_i2l hx hb dX9_init_100 rfl ?_
            refine lv_topl (fun x5265 ex5265 => ?_)
            refine lv_ladd hx hb dX9_init_101  ?_
            refine lv_topl (fun x5266 ex5266 => ?_)
            refine lv_lstore_n (lv' := [(2, .long x5266), (4, .int x5041), (1, .int y5043), (0, .ref Ad0)]) hx hb dX9_init_102 rfl hl (by decide) rfl (fun ls hl => ?_)
            refine lv_goto (tgt := 124) hx hb dX9_init_103 (by decide) ?_
            obtain ⟨x5267, ex5267⟩ : ∃ y : Int32, y = x5041 + 1 := ⟨_, rfl⟩
            refine lv_iinc (v := x5267) (lv' := [(4, .int x5267), (2, .long x5266), (1, .int y5043), (0, .ref Ad0)]) hx hb dX9_init_124 hl (k := 1) rfl (by rw [ex5267]; rfl) (by decide) rfl (fun ls hl => ?_)
            have tx5267 : x5267.toInt = x5041.toInt + (1 : Int32).toInt := by rw [ex5267]; exact i_add (by have bd_x5041 := i_bd x5041; (try simp only [i_lt, i_le, i_eq, kc_143, kc_0, kc_1] at t5047 h5049 h5048 c5057 c5103 c5104 c5159 c5160 ⊢); omega) (by have bd_x5041 := i_bd x5041; (try simp only [i_lt, i_le, i_eq, kc_143, kc_0, kc_1] at t5047 h5049 h5048 c5057 c5103 c5104 c5159 c5160 ⊢); omega)
            refine lv_goto (tgt := 63) hx hb dX9_init_127 (by decide) ?_
            exact ih (j5040 + 1) x5267 x5266 y5043 f5045 (by rw [ex5267, e5046]; exact nI_1 _) (by omega) (by (try simp only [i_lt, i_le, i_eq, kc_143, kc_0, kc_1] at t5047 h5049 h5048 c5057 c5103 c5104 c5159 c5160 tx5267); omega) (by omega)  (by have bd_y5043 := i_bd y5043; (try simp only [i_lt, i_le, i_eq] at i5044); omega) _ _ _ (hP.sub [0, 1, 2, 3, 4, 5, 6] rfl) (hD.sub [0, 1, 2, 3, 4, 5, 6] (by decide) rfl) hS  (lv_sub hl [0, 1, 2, 3] rfl)
  exact HL1 144 0 (0) (0) (0) f4586 (by decide) (by omega) (by omega) (by omega) (by decide) _ _ _ hP hD hS  hl

def l_zk_X10_init : List Cond := [.methodLink RX10 5 objectInit, .instanceMethod objectInit, .code objectInit ⟨#[0xb1]⟩ 1 none, .arrayClass .long, .fieldLink RX10 11 "HeapWorks$Types" "name" "[J", .arrayClass .int, .fieldLink RX10 15 "HeapWorks$Types" "loader" "[I", .fieldLink RX10 19 "HeapWorks$Types" "parent" "[I", .arrayClass .boolean, .fieldLink RX10 22 "HeapWorks$Types" "used" "[Z", .fieldLink RX10 26 "HeapWorks$Types" "apart" "[Z", .fieldLink RX10 29 "HeapWorks$Types" "fieldCount" "[I", .fieldLink RX10 32 "HeapWorks$Types" "staticCount" "[I", .fieldLink RX10 35 "HeapWorks$Types" "slotCount" "[I", .fieldLink RX10 38 "HeapWorks$Types" "fieldsEnd" "[I", .fieldLink RX10 41 "HeapWorks$Types" "fieldName" "[J", .fieldLink RX10 44 "HeapWorks$Types" "fieldKind" "[I", .fieldLink RX10 47 "HeapWorks$Types" "fieldLink" "[I", .fieldLink RX10 50 "HeapWorks$Types" "fieldStatic" "[Z", .fieldLink RX10 53 "HeapWorks$Types" "fieldPlace" "[I", .fieldLink RX10 56 "HeapWorks$Types" "slotName" "[J", .fieldLink RX10 59 "HeapWorks$Types" "slotKind" "[I", .fieldLink RX10 62 "HeapWorks$Types" "slotLink" "[I"]
def w_zk_X10_init : List Cond := .code yX10_init cX10_init 1 none :: (l_zk_X10_init ++ (wsX100))
theorem in_zk_X10_init_X10 : ∀ w ∈ wsX100, w ∈ w_zk_X10_init := fun w h => List.mem_cons_of_mem _ (List.mem_append_right _ (h))
set_option maxHeartbeats 4000000 in
set_option maxRecDepth 100000 in
theorem zk_X10_init (l : Launch) (dC : Nat → ClassId) (dI : Nat → Nat → Nat) (sz : Nat) (Ad0 : Nat) (Fs0 : List Value) (k_Fs0 : fh Fs0 18 [])  : Met l yX10_init w_zk_X10_init ({ frames := 1, cells := 17, slots := 5232, locals := 24 }) (va_Pc [.ref Ad0] (fun U => U.heap.size = sz ∧ Wd dC dI [] (fun _ => True) [(Ad0, .inr (13, Fs0))] U)) (va_Qv (fun (u : List Value) => ow Fs0 (u) 18 [17, 16, 15, 14, 13, 12, 11, 10, 9, 8, 7, 6, 5, 4, 3, 2, 1] []) (fun (u : List Value) t => Wd dC dI [] (va_A [(Ad0, .inr (13, Fs0))] sz) [(Ad0, .inr (13, (u)))] t) (va_A [(Ad0, .inr (13, Fs0))] sz))  17 5232 (va_A [(Ad0, .inr (13, Fs0))] sz) := by
  refine Met.ofW (cc := cX10_init) (maxL := 1) (ret := none) (by decide) rfl ?_
  intro p e s m args below meth c s₁ B hml hv
  obtain ⟨rfl, hsz, hP, hK, hD0⟩ := hv
  have hx := B.exec
  have hb := B.bytes
  have hr := B.returns
  have hts := atoms_spec (ws := w_zk_X10_init) B.pre
  have hown : s.vm.findClass RX10 = some m.cls := findClass_of_methodNamed B.named
  have hlocks := B.notSynchronized
  have hin : meth.name = "<init>" := (name_of_methodNamed B.named B.method).1
  subst hsz
  have hD := hD0.self (sz := s.heap.size)
  generalize hAe : va_A [(Ad0, .inr (13, Fs0))] s.heap.size = A at hD ⊢
  have hA : ∀ q : Nat, s.heap.size ≤ q → A q := fun q h => by rw [← hAe]; exact Or.inr h
  have hS : va_S A s.heap s.heap [] := va_S.rf
  have hl := lv_entry ([.ref Ad0]) (n := 1) (Nat.le_of_ble_eq_true rfl)
  rw [lg_entry_eq]
  generalize (lg_sl ([.ref Ad0]) ++ List.replicate (1 - (lg_sl ([.ref Ad0])).length) Slot.unset).toArray = ls at hl ⊢
  have hl : lv_has ls 1 [(0, .ref Ad0)] := hl
  have o_Fs0 := ow_0 k_Fs0
  refine lv_aload_n hx hb dX10_init_0 rfl (lv_at hl 0 rfl) ?_
  refine W.objInit hx hb hown (hts (.methodLink RX10 5 objectInit) (by decide +kernel)) (hts (.instanceMethod objectInit) (by decide +kernel)) (hts (.code objectInit ⟨#[0xb1]⟩ 1 none) (by decide +kernel)) rfl (by rw [hml]; exact hl.1) rfl dX10_init_1 (Nat.le_of_ble_eq_true rfl) (Nat.le_of_ble_eq_true rfl) ?_
  refine W.eq (g2 := F0 m 4 ls []) rfl ?_
  refine lv_aload_n hx hb dX10_init_4 rfl (lv_at hl 0 rfl) ?_
  refine lv_bipush (v := 16) hx hb dX10_init_5 (by decide) ?_
  refine va_newa (atype := .long) (ty := .long) (a0 := (16, .inr (.inl (fun _ : Nat => (0 : Int64))))) (N' := 16) hx hb (hts (.arrayClass .long) (by decide +kernel)) rfl hK hP hD hS hA (na_J 16) (by decide) (by decide) (by decide) (Nat.le_of_ble_eq_true rfl) (Nat.le_of_ble_eq_true rfl) dX10_init_7 (fun q5380 k5381 H hK hP hD hS => ?_)
  have hK : va_K (dC, dI) vwCl [(k5381, .long)] s := hK
  have hP : va_P (dC, dI) vwCl [(Ad0, .inr (13, Fs0)), (q5380, .inl (k5381, 16, .inr (.inl ((fun _ : Nat => (0 : Int64))))))] H := hP
  have hD : va_D A [(Ad0, .inr (13, Fs0)), (q5380, .inl (k5381, 16, .inr (.inl ((fun _ : Nat => (0 : Int64))))))] := hD
  have z5383 : ∀ j, (fun _ : Nat => (0 : Int64)) j = 0 := fun _ => rfl
  generalize (fun _ : Nat => (0 : Int64)) = f5382 at hP hD z5383
  refine W.widen (k := 1) (n := 16) (by omega) (by omega) ?_
  refine va_putF (D := (dC, dI)) (ci := 13) (v := .ref q5380) (ty := .array .long) (C := RX10) (T := TX10) (N := 18) hx hb hts (in_zk_X10_init_X10) tyX10 tyX10_ok nmX10 hown hK hP hD hS 0 rfl rfl 1 (by decide) (hts (.fieldLink RX10 11 "HeapWorks$Types" "name" "[J") (by decide +kernel)) (fun _ h9 => h9) rfl hin rfl (by decide +kernel) rfl rfl (by rw [o_Fs0.2.1]; decide) dX10_init_9 (fun H locs hP hD hS => ?_)
  have hP : va_P (dC, dI) vwCl [(Ad0, .inr (13, (Fs0.set 1 (.ref q5380)))), (q5380, .inl (k5381, 16, .inr (.inl f5382)))] H := hP
  have hD : va_D A [(Ad0, .inr (13, (Fs0.set 1 (.ref q5380)))), (q5380, .inl (k5381, 16, .inr (.inl f5382)))] := hD
  have o_s5384 := ow_set o_Fs0 1 (.ref q5380) (by decide) (l' := [(1, .ref q5380)]) (w' := [1]) rfl rfl
  generalize (Fs0.set 1 (.ref q5380)) = s5384 at hP hD o_s5384
  have hP := hP.sub (ws' := [(Ad0, .inr (13, s5384))]) [0] rfl
  have hD := hD.sub (ws' := [(Ad0, .inr (13, s5384))]) [0] (by decide) rfl
  have hK := hK.sub (tys' := []) [] rfl
  refine lv_aload_n hx hb dX10_init_12 rfl (lv_at hl 0 rfl) ?_
  refine lv_bipush (v := 16) hx hb dX10_init_13 (by decide) ?_
  refine va_newa (atype := .int) (ty := .int) (a0 := (16, .inl (fun _ : Nat => (0 : Int32)))) (N' := 16) hx hb (hts (.arrayClass .int) (by decide +kernel)) rfl hK hP hD hS hA (na_I 16) (by decide) (by decide) (by decide) (Nat.le_of_ble_eq_true rfl) (Nat.le_of_ble_eq_true rfl) dX10_init_15 (fun q5385 k5386 H hK hP hD hS => ?_)
  have hK : va_K (dC, dI) vwCl [(k5386, .int)] s := hK
  have hP : va_P (dC, dI) vwCl [(Ad0, .inr (13, s5384)), (q5385, .inl (k5386, 16, .inl ((fun _ : Nat => (0 : Int32)))))] H := hP
  have hD : va_D A [(Ad0, .inr (13, s5384)), (q5385, .inl (k5386, 16, .inl ((fun _ : Nat => (0 : Int32)))))] := hD
  have z5388 : ∀ j, (fun _ : Nat => (0 : Int32)) j = 0 := fun _ => rfl
  generalize (fun _ : Nat => (0 : Int32)) = f5387 at hP hD z5388
  refine W.widen (k := 2) (n := 32) (by omega) (by omega) ?_
  refine va_putF (D := (dC, dI)) (ci := 13) (v := .ref q5385) (ty := .array .int) (C := RX10) (T := TX10) (N := 18) hx hb hts (in_zk_X10_init_X10) tyX10 tyX10_ok nmX10 hown hK hP hD hS 0 rfl rfl 2 (by decide) (hts (.fieldLink RX10 15 "HeapWorks$Types" "loader" "[I") (by decide +kernel)) (fun _ h9 => h9) rfl hin rfl (by decide +kernel) rfl rfl (by rw [o_s5384.2.1]; decide) dX10_init_17 (fun H locs hP hD hS => ?_)
  have hP : va_P (dC, dI) vwCl [(Ad0, .inr (13, (s5384.set 2 (.ref q5385)))), (q5385, .inl (k5386, 16, .inl f5387))] H := hP
  have hD : va_D A [(Ad0, .inr (13, (s5384.set 2 (.ref q5385)))), (q5385, .inl (k5386, 16, .inl f5387))] := hD
  have o_s5389 := ow_set o_s5384 2 (.ref q5385) (by decide) (l' := [(2, .ref q5385), (1, .ref q5380)]) (w' := [2, 1]) rfl rfl
  generalize (s5384.set 2 (.ref q5385)) = s5389 at hP hD o_s5389
  have hP := hP.sub (ws' := [(Ad0, .inr (13, s5389))]) [0] rfl
  have hD := hD.sub (ws' := [(Ad0, .inr (13, s5389))]) [0] (by decide) rfl
  have hK := hK.sub (tys' := []) [] rfl
  refine lv_aload_n hx hb dX10_init_20 rfl (lv_at hl 0 rfl) ?_
  refine lv_bipush (v := 16) hx hb dX10_init_21 (by decide) ?_
  refine va_newa (atype := .int) (ty := .int) (a0 := (16, .inl (fun _ : Nat => (0 : Int32)))) (N' := 16) hx hb (hts (.arrayClass .int) (by decide +kernel)) rfl hK hP hD hS hA (na_I 16) (by decide) (by decide) (by decide) (Nat.le_of_ble_eq_true rfl) (Nat.le_of_ble_eq_true rfl) dX10_init_23 (fun q5390 k5391 H hK hP hD hS => ?_)
  have hK : va_K (dC, dI) vwCl [(k5391, .int)] s := hK
  have hP : va_P (dC, dI) vwCl [(Ad0, .inr (13, s5389)), (q5390, .inl (k5391, 16, .inl ((fun _ : Nat => (0 : Int32)))))] H := hP
  have hD : va_D A [(Ad0, .inr (13, s5389)), (q5390, .inl (k5391, 16, .inl ((fun _ : Nat => (0 : Int32)))))] := hD
  have z5393 : ∀ j, (fun _ : Nat => (0 : Int32)) j = 0 := fun _ => rfl
  generalize (fun _ : Nat => (0 : Int32)) = f5392 at hP hD z5393
  refine W.widen (k := 3) (n := 48) (by omega) (by omega) ?_
  refine va_putF (D := (dC, dI)) (ci := 13) (v := .ref q5390) (ty := .array .int) (C := RX10) (T := TX10) (N := 18) hx hb hts (in_zk_X10_init_X10) tyX10 tyX10_ok nmX10 hown hK hP hD hS 0 rfl rfl 3 (by decide) (hts (.fieldLink RX10 19 "HeapWorks$Types" "parent" "[I") (by decide +kernel)) (fun _ h9 => h9) rfl hin rfl (by decide +kernel) rfl rfl (by rw [o_s5389.2.1]; decide) dX10_init_25 (fun H locs hP hD hS => ?_)
  have hP : va_P (dC, dI) vwCl [(Ad0, .inr (13, (s5389.set 3 (.ref q5390)))), (q5390, .inl (k5391, 16, .inl f5392))] H := hP
  have hD : va_D A [(Ad0, .inr (13, (s5389.set 3 (.ref q5390)))), (q5390, .inl (k5391, 16, .inl f5392))] := hD
  have o_s5394 := ow_set o_s5389 3 (.ref q5390) (by decide) (l' := [(3, .ref q5390), (2, .ref q5385), (1, .ref q5380)]) (w' := [3, 2, 1]) rfl rfl
  generalize (s5389.set 3 (.ref q5390)) = s5394 at hP hD o_s5394
  have hP := hP.sub (ws' := [(Ad0, .inr (13, s5394))]) [0] rfl
  have hD := hD.sub (ws' := [(Ad0, .inr (13, s5394))]) [0] (by decide) rfl
  have hK := hK.sub (tys' := []) [] rfl
  refine lv_aload_n hx hb dX10_init_28 rfl (lv_at hl 0 rfl) ?_
  refine lv_bipush (v := 16) hx hb dX10_init_29 (by decide) ?_
  refine va_newa (atype := .boolean) (ty := .boolean) (a0 := (16, .inl (fun _ : Nat => (0 : Int32)))) (N' := 16) hx hb (hts (.arrayClass .boolean) (by decide +kernel)) rfl hK hP hD hS hA (na_Z 16) (by decide) (by decide) (by decide) (Nat.le_of_ble_eq_true rfl) (Nat.le_of_ble_eq_true rfl) dX10_init_31 (fun q5395 k5396 H hK hP hD hS => ?_)
  have hK : va_K (dC, dI) vwCl [(k5396, .boolean)] s := hK
  have hP : va_P (dC, dI) vwCl [(Ad0, .inr (13, s5394)), (q5395, .inl (k5396, 16, .inl ((fun _ : Nat => (0 : Int32)))))] H := hP
  have hD : va_D A [(Ad0, .inr (13, s5394)), (q5395, .inl (k5396, 16, .inl ((fun _ : Nat => (0 : Int32)))))] := hD
  have z5398 : ∀ j, (fun _ : Nat => (0 : Int32)) j = 0 := fun _ => rfl
  generalize (fun _ : Nat => (0 : Int32)) = f5397 at hP hD z5398
  refine W.widen (k := 4) (n := 64) (by omega) (by omega) ?_
  refine va_putF (D := (dC, dI)) (ci := 13) (v := .ref q5395) (ty := .array .boolean) (C := RX10) (T := TX10) (N := 18) hx hb hts (in_zk_X10_init_X10) tyX10 tyX10_ok nmX10 hown hK hP hD hS 0 rfl rfl 4 (by decide) (hts (.fieldLink RX10 22 "HeapWorks$Types" "used" "[Z") (by decide +kernel)) (fun _ h9 => h9) rfl hin rfl (by decide +kernel) rfl rfl (by rw [o_s5394.2.1]; decide) dX10_init_33 (fun H locs hP hD hS => ?_)
  have hP : va_P (dC, dI) vwCl [(Ad0, .inr (13, (s5394.set 4 (.ref q5395)))), (q5395, .inl (k5396, 16, .inl f5397))] H := hP
  have hD : va_D A [(Ad0, .inr (13, (s5394.set 4 (.ref q5395)))), (q5395, .inl (k5396, 16, .inl f5397))] := hD
  have o_s5399 := ow_set o_s5394 4 (.ref q5395) (by decide) (l' := [(4, .ref q5395), (3, .ref q5390), (2, .ref q5385), (1, .ref q5380)]) (w' := [4, 3, 2, 1]) rfl rfl
  generalize (s5394.set 4 (.ref q5395)) = s5399 at hP hD o_s5399
  have hP := hP.sub (ws' := [(Ad0, .inr (13, s5399))]) [0] rfl
  have hD := hD.sub (ws' := [(Ad0, .inr (13, s5399))]) [0] (by decide) rfl
  have hK := hK.sub (tys' := []) [] rfl
  refine lv_aload_n hx hb dX10_init_36 rfl (lv_at hl 0 rfl) ?_
  refine lv_bipush (v := 16) hx hb dX10_init_37 (by decide) ?_
  refine va_newa (atype := .boolean) (ty := .boolean) (a0 := (16, .inl (fun _ : Nat => (0 : Int32)))) (N' := 16) hx hb (hts (.arrayClass .boolean) (by decide +kernel)) rfl hK hP hD hS hA (na_Z 16) (by decide) (by decide) (by decide) (Nat.le_of_ble_eq_true rfl) (Nat.le_of_ble_eq_true rfl) dX10_init_39 (fun q5400 k5401 H hK hP hD hS => ?_)
  have hK : va_K (dC, dI) vwCl [(k5401, .boolean)] s := hK
  have hP : va_P (dC, dI) vwCl [(Ad0, .inr (13, s5399)), (q5400, .inl (k5401, 16, .inl ((fun _ : Nat => (0 : Int32)))))] H := hP
  have hD : va_D A [(Ad0, .inr (13, s5399)), (q5400, .inl (k5401, 16, .inl ((fun _ : Nat => (0 : Int32)))))] := hD
  have z5403 : ∀ j, (fun _ : Nat => (0 : Int32)) j = 0 := fun _ => rfl
  generalize (fun _ : Nat => (0 : Int32)) = f5402 at hP hD z5403
  refine W.widen (k := 5) (n := 80) (by omega) (by omega) ?_
  refine va_putF (D := (dC, dI)) (ci := 13) (v := .ref q5400) (ty := .array .boolean) (C := RX10) (T := TX10) (N := 18) hx hb hts (in_zk_X10_init_X10) tyX10 tyX10_ok nmX10 hown hK hP hD hS 0 rfl rfl 5 (by decide) (hts (.fieldLink RX10 26 "HeapWorks$Types" "apart" "[Z") (by decide +kernel)) (fun _ h9 => h9) rfl hin rfl (by decide +kernel) rfl rfl (by rw [o_s5399.2.1]; decide) dX10_init_41 (fun H locs hP hD hS => ?_)
  have hP : va_P (dC, dI) vwCl [(Ad0, .inr (13, (s5399.set 5 (.ref q5400)))), (q5400, .inl (k5401, 16, .inl f5402))] H := hP
  have hD : va_D A [(Ad0, .inr (13, (s5399.set 5 (.ref q5400)))), (q5400, .inl (k5401, 16, .inl f5402))] := hD
  have o_s5404 := ow_set o_s5399 5 (.ref q5400) (by decide) (l' := [(5, .ref q5400), (4, .ref q5395), (3, .ref q5390), (2, .ref q5385), (1, .ref q5380)]) (w' := [5, 4, 3, 2, 1]) rfl rfl
  generalize (s5399.set 5 (.ref q5400)) = s5404 at hP hD o_s5404
  have hP := hP.sub (ws' := [(Ad0, .inr (13, s5404))]) [0] rfl
  have hD := hD.sub (ws' := [(Ad0, .inr (13, s5404))]) [0] (by decide) rfl
  have hK := hK.sub (tys' := []) [] rfl
  refine lv_aload_n hx hb dX10_init_44 rfl (lv_at hl 0 rfl) ?_
  refine lv_bipush (v := 16) hx hb dX10_init_45 (by decide) ?_
  refine va_newa (atype := .int) (ty := .int) (a0 := (16, .inl (fun _ : Nat => (0 : Int32)))) (N' := 16) hx hb (hts (.arrayClass .int) (by decide +kernel)) rfl hK hP hD hS hA (na_I 16) (by decide) (by decide) (by decide) (Nat.le_of_ble_eq_true rfl) (Nat.le_of_ble_eq_true rfl) dX10_init_47 (fun q5405 k5406 H hK hP hD hS => ?_)
  have hK : va_K (dC, dI) vwCl [(k5406, .int)] s := hK
  have hP : va_P (dC, dI) vwCl [(Ad0, .inr (13, s5404)), (q5405, .inl (k5406, 16, .inl ((fun _ : Nat => (0 : Int32)))))] H := hP
  have hD : va_D A [(Ad0, .inr (13, s5404)), (q5405, .inl (k5406, 16, .inl ((fun _ : Nat => (0 : Int32)))))] := hD
  have z5408 : ∀ j, (fun _ : Nat => (0 : Int32)) j = 0 := fun _ => rfl
  generalize (fun _ : Nat => (0 : Int32)) = f5407 at hP hD z5408
  refine W.widen (k := 6) (n := 96) (by omega) (by omega) ?_
  refine va_putF (D := (dC, dI)) (ci := 13) (v := .ref q5405) (ty := .array .int) (C := RX10) (T := TX10) (N := 18) hx hb hts (in_zk_X10_init_X10) tyX10 tyX10_ok nmX10 hown hK hP hD hS 0 rfl rfl 6 (by decide) (hts (.fieldLink RX10 29 "HeapWorks$Types" "fieldCount" "[I") (by decide +kernel)) (fun _ h9 => h9) rfl hin rfl (by decide +kernel) rfl rfl (by rw [o_s5404.2.1]; decide) dX10_init_49 (fun H locs hP hD hS => ?_)
  have hP : va_P (dC, dI) vwCl [(Ad0, .inr (13, (s5404.set 6 (.ref q5405)))), (q5405, .inl (k5406, 16, .inl f5407))] H := hP
  have hD : va_D A [(Ad0, .inr (13, (s5404.set 6 (.ref q5405)))), (q5405, .inl (k5406, 16, .inl f5407))] := hD
  have o_s5409 := ow_set o_s5404 6 (.ref q5405) (by decide) (l' := [(6, .ref q5405), (5, .ref q5400), (4, .ref q5395), (3, .ref q5390), (2, .ref q5385), (1, .ref q5380)]) (w' := [6, 5, 4, 3, 2, 1]) rfl rfl
  generalize (s5404.set 6 (.ref q5405)) = s5409 at hP hD o_s5409
  have hP := hP.sub (ws' := [(Ad0, .inr (13, s5409))]) [0] rfl
  have hD := hD.sub (ws' := [(Ad0, .inr (13, s5409))]) [0] (by decide) rfl
  have hK := hK.sub (tys' := []) [] rfl
  refine lv_aload_n hx hb dX10_init_52 rfl (lv_at hl 0 rfl) ?_
  refine lv_bipush (v := 16) hx hb dX10_init_53 (by decide) ?_
  refine va_newa (atype := .int) (ty := .int) (a0 := (16, .inl (fun _ : Nat => (0 : Int32)))) (N' := 16) hx hb (hts (.arrayClass .int) (by decide +kernel)) rfl hK hP hD hS hA (na_I 16) (by decide) (by decide) (by decide) (Nat.le_of_ble_eq_true rfl) (Nat.le_of_ble_eq_true rfl) dX10_init_55 (fun q5410 k5411 H hK hP hD hS => ?_)
  have hK : va_K (dC, dI) vwCl [(k5411, .int)] s := hK
  have hP : va_P (dC, dI) vwCl [(Ad0, .inr (13, s5409)), (q5410, .inl (k5411, 16, .inl ((fun _ : Nat => (0 : Int32)))))] H := hP
  have hD : va_D A [(Ad0, .inr (13, s5409)), (q5410, .inl (k5411, 16, .inl ((fun _ : Nat => (0 : Int32)))))] := hD
  have z5413 : ∀ j, (fun _ : Nat => (0 : Int32)) j = 0 := fun _ => rfl
  generalize (fun _ : Nat => (0 : Int32)) = f5412 at hP hD z5413
  refine W.widen (k := 7) (n := 112) (by omega) (by omega) ?_
  refine va_putF (D := (dC, dI)) (ci := 13) (v := .ref q5410) (ty := .array .int) (C := RX10) (T := TX10) (N := 18) hx hb hts (in_zk_X10_init_X10) tyX10 tyX10_ok nmX10 hown hK hP hD hS 0 rfl rfl 7 (by decide) (hts (.fieldLink RX10 32 "HeapWorks$Types" "staticCount" "[I") (by decide +kernel)) (fun _ h9 => h9) rfl hin rfl (by decide +kernel) rfl rfl (by rw [o_s5409.2.1]; decide) dX10_init_57 (fun H locs hP hD hS => ?_)
  have hP : va_P (dC, dI) vwCl [(Ad0, .inr (13, (s5409.set 7 (.ref q5410)))), (q5410, .inl (k5411, 16, .inl f5412))] H := hP
  have hD : va_D A [(Ad0, .inr (13, (s5409.set 7 (.ref q5410)))), (q5410, .inl (k5411, 16, .inl f5412))] := hD
  have o_s5414 := ow_set o_s5409 7 (.ref q5410) (by decide) (l' := [(7, .ref q5410), (6, .ref q5405), (5, .ref q5400), (4, .ref q5395), (3, .ref q5390), (2, .ref q5385), (1, .ref q5380)]) (w' := [7, 6, 5, 4, 3, 2, 1]) rfl rfl
  generalize (s5409.set 7 (.ref q5410)) = s5414 at hP hD o_s5414
  have hP := hP.sub (ws' := [(Ad0, .inr (13, s5414))]) [0] rfl
  have hD := hD.sub (ws' := [(Ad0, .inr (13, s5414))]) [0] (by decide) rfl
  have hK := hK.sub (tys' := []) [] rfl
  refine lv_aload_n hx hb dX10_init_60 rfl (lv_at hl 0 rfl) ?_
  refine lv_bipush (v := 16) hx hb dX10_init_61 (by decide) ?_
  refine va_newa (atype := .int) (ty := .int) (a0 := (16, .inl (fun _ : Nat => (0 : Int32)))) (N' := 16) hx hb (hts (.arrayClass .int) (by decide +kernel)) rfl hK hP hD hS hA (na_I 16) (by decide) (by decide) (by decide) (Nat.le_of_ble_eq_true rfl) (Nat.le_of_ble_eq_true rfl) dX10_init_63 (fun q5415 k5416 H hK hP hD hS => ?_)
  have hK : va_K (dC, dI) vwCl [(k5416, .int)] s := hK
  have hP : va_P (dC, dI) vwCl [(Ad0, .inr (13, s5414)), (q5415, .inl (k5416, 16, .inl ((fun _ : Nat => (0 : Int32)))))] H := hP
  have hD : va_D A [(Ad0, .inr (13, s5414)), (q5415, .inl (k5416, 16, .inl ((fun _ : Nat => (0 : Int32)))))] := hD
  have z5418 : ∀ j, (fun _ : Nat => (0 : Int32)) j = 0 := fun _ => rfl
  generalize (fun _ : Nat => (0 : Int32)) = f5417 at hP hD z5418
  refine W.widen (k := 8) (n := 128) (by omega) (by omega) ?_
  refine va_putF (D := (dC, dI)) (ci := 13) (v := .ref q5415) (ty := .array .int) (C := RX10) (T := TX10) (N := 18) hx hb hts (in_zk_X10_init_X10) tyX10 tyX10_ok nmX10 hown hK hP hD hS 0 rfl rfl 8 (by decide) (hts (.fieldLink RX10 35 "HeapWorks$Types" "slotCount" "[I") (by decide +kernel)) (fun _ h9 => h9) rfl hin rfl (by decide +kernel) rfl rfl (by rw [o_s5414.2.1]; decide) dX10_init_65 (fun H locs hP hD hS => ?_)
  have hP : va_P (dC, dI) vwCl [(Ad0, .inr (13, (s5414.set 8 (.ref q5415)))), (q5415, .inl (k5416, 16, .inl f5417))] H := hP
  have hD : va_D A [(Ad0, .inr (13, (s5414.set 8 (.ref q5415)))), (q5415, .inl (k5416, 16, .inl f5417))] := hD
  have o_s5419 := ow_set o_s5414 8 (.ref q5415) (by decide) (l' := [(8, .ref q5415), (7, .ref q5410), (6, .ref q5405), (5, .ref q5400), (4, .ref q5395), (3, .ref q5390), (2, .ref q5385), (1, .ref q5380)]) (w' := [8, 7, 6, 5, 4, 3, 2, 1]) rfl rfl
  generalize (s5414.set 8 (.ref q5415)) = s5419 at hP hD o_s5419
  have hP := hP.sub (ws' := [(Ad0, .inr (13, s5419))]) [0] rfl
  have hD := hD.sub (ws' := [(Ad0, .inr (13, s5419))]) [0] (by decide) rfl
  have hK := hK.sub (tys' := []) [] rfl
  refine lv_aload_n hx hb dX10_init_68 rfl (lv_at hl 0 rfl) ?_
  refine lv_bipush (v := 16) hx hb dX10_init_69 (by decide) ?_
  refine va_newa (atype := .int) (ty := .int) (a0 := (16, .inl (fun _ : Nat => (0 : Int32)))) (N' := 16) hx hb (hts (.arrayClass .int) (by decide +kernel)) rfl hK hP hD hS hA (na_I 16) (by decide) (by decide) (by decide) (Nat.le_of_ble_eq_true rfl) (Nat.le_of_ble_eq_true rfl) dX10_init_71 (fun q5420 k5421 H hK hP hD hS => ?_)
  have hK : va_K (dC, dI) vwCl [(k5421, .int)] s := hK
  have hP : va_P (dC, dI) vwCl [(Ad0, .inr (13, s5419)), (q5420, .inl (k5421, 16, .inl ((fun _ : Nat => (0 : Int32)))))] H := hP
  have hD : va_D A [(Ad0, .inr (13, s5419)), (q5420, .inl (k5421, 16, .inl ((fun _ : Nat => (0 : Int32)))))] := hD
  have z5423 : ∀ j, (fun _ : Nat => (0 : Int32)) j = 0 := fun _ => rfl
  generalize (fun _ : Nat => (0 : Int32)) = f5422 at hP hD z5423
  refine W.widen (k := 9) (n := 144) (by omega) (by omega) ?_
  refine va_putF (D := (dC, dI)) (ci := 13) (v := .ref q5420) (ty := .array .int) (C := RX10) (T := TX10) (N := 18) hx hb hts (in_zk_X10_init_X10) tyX10 tyX10_ok nmX10 hown hK hP hD hS 0 rfl rfl 9 (by decide) (hts (.fieldLink RX10 38 "HeapWorks$Types" "fieldsEnd" "[I") (by decide +kernel)) (fun _ h9 => h9) rfl hin rfl (by decide +kernel) rfl rfl (by rw [o_s5419.2.1]; decide) dX10_init_73 (fun H locs hP hD hS => ?_)
  have hP : va_P (dC, dI) vwCl [(Ad0, .inr (13, (s5419.set 9 (.ref q5420)))), (q5420, .inl (k5421, 16, .inl f5422))] H := hP
  have hD : va_D A [(Ad0, .inr (13, (s5419.set 9 (.ref q5420)))), (q5420, .inl (k5421, 16, .inl f5422))] := hD
  have o_s5424 := ow_set o_s5419 9 (.ref q5420) (by decide) (l' := [(9, .ref q5420), (8, .ref q5415), (7, .ref q5410), (6, .ref q5405), (5, .ref q5400), (4, .ref q5395), (3, .ref q5390), (2, .ref q5385), (1, .ref q5380)]) (w' := [9, 8, 7, 6, 5, 4, 3, 2, 1]) rfl rfl
  generalize (s5419.set 9 (.ref q5420)) = s5424 at hP hD o_s5424
  have hP := hP.sub (ws' := [(Ad0, .inr (13, s5424))]) [0] rfl
  have hD := hD.sub (ws' := [(Ad0, .inr (13, s5424))]) [0] (by decide) rfl
  have hK := hK.sub (tys' := []) [] rfl
  refine lv_aload_n hx hb dX10_init_76 rfl (lv_at hl 0 rfl) ?_
  refine lv_bipush (v := 96) hx hb dX10_init_77 (by decide) ?_
  refine va_newa (atype := .long) (ty := .long) (a0 := (96, .inr (.inl (fun _ : Nat => (0 : Int64))))) (N' := 96) hx hb (hts (.arrayClass .long) (by decide +kernel)) rfl hK hP hD hS hA (na_J 96) (by decide) (by decide) (by decide) (Nat.le_of_ble_eq_true rfl) (Nat.le_of_ble_eq_true rfl) dX10_init_79 (fun q5425 k5426 H hK hP hD hS => ?_)
  have hK : va_K (dC, dI) vwCl [(k5426, .long)] s := hK
  have hP : va_P (dC, dI) vwCl [(Ad0, .inr (13, s5424)), (q5425, .inl (k5426, 96, .inr (.inl ((fun _ : Nat => (0 : Int64))))))] H := hP
  have hD : va_D A [(Ad0, .inr (13, s5424)), (q5425, .inl (k5426, 96, .inr (.inl ((fun _ : Nat => (0 : Int64))))))] := hD
  have z5428 : ∀ j, (fun _ : Nat => (0 : Int64)) j = 0 := fun _ => rfl
  generalize (fun _ : Nat => (0 : Int64)) = f5427 at hP hD z5428
  refine W.widen (k := 10) (n := 240) (by omega) (by omega) ?_
  refine va_putF (D := (dC, dI)) (ci := 13) (v := .ref q5425) (ty := .array .long) (C := RX10) (T := TX10) (N := 18) hx hb hts (in_zk_X10_init_X10) tyX10 tyX10_ok nmX10 hown hK hP hD hS 0 rfl rfl 10 (by decide) (hts (.fieldLink RX10 41 "HeapWorks$Types" "fieldName" "[J") (by decide +kernel)) (fun _ h9 => h9) rfl hin rfl (by decide +kernel) rfl rfl (by rw [o_s5424.2.1]; decide) dX10_init_81 (fun H locs hP hD hS => ?_)
  have hP : va_P (dC, dI) vwCl [(Ad0, .inr (13, (s5424.set 10 (.ref q5425)))), (q5425, .inl (k5426, 96, .inr (.inl f5427)))] H := hP
  have hD : va_D A [(Ad0, .inr (13, (s5424.set 10 (.ref q5425)))), (q5425, .inl (k5426, 96, .inr (.inl f5427)))] := hD
  have o_s5429 := ow_set o_s5424 10 (.ref q5425) (by decide) (l' := [(10, .ref q5425), (9, .ref q5420), (8, .ref q5415), (7, .ref q5410), (6, .ref q5405), (5, .ref q5400), (4, .ref q5395), (3, .ref q5390), (2, .ref q5385), (1, .ref q5380)]) (w' := [10, 9, 8, 7, 6, 5, 4, 3, 2, 1]) rfl rfl
  generalize (s5424.set 10 (.ref q5425)) = s5429 at hP hD o_s5429
  have hP := hP.sub (ws' := [(Ad0, .inr (13, s5429))]) [0] rfl
  have hD := hD.sub (ws' := [(Ad0, .inr (13, s5429))]) [0] (by decide) rfl
  have hK := hK.sub (tys' := []) [] rfl
  refine lv_aload_n hx hb dX10_init_84 rfl (lv_at hl 0 rfl) ?_
  refine lv_bipush (v := 96) hx hb dX10_init_85 (by decide) ?_
  refine va_newa (atype := .int) (ty := .int) (a0 := (96, .inl (fun _ : Nat => (0 : Int32)))) (N' := 96) hx hb (hts (.arrayClass .int) (by decide +kernel)) rfl hK hP hD hS hA (na_I 96) (by decide) (by decide) (by decide) (Nat.le_of_ble_eq_true rfl) (Nat.le_of_ble_eq_true rfl) dX10_init_87 (fun q5430 k5431 H hK hP hD hS => ?_)
  have hK : va_K (dC, dI) vwCl [(k5431, .int)] s := hK
  have hP : va_P (dC, dI) vwCl [(Ad0, .inr (13, s5429)), (q5430, .inl (k5431, 96, .inl ((fun _ : Nat => (0 : Int32)))))] H := hP
  have hD : va_D A [(Ad0, .inr (13, s5429)), (q5430, .inl (k5431, 96, .inl ((fun _ : Nat => (0 : Int32)))))] := hD
  have z5433 : ∀ j, (fun _ : Nat => (0 : Int32)) j = 0 := fun _ => rfl
  generalize (fun _ : Nat => (0 : Int32)) = f5432 at hP hD z5433
  refine W.widen (k := 11) (n := 336) (by omega) (by omega) ?_
  refine va_putF (D := (dC, dI)) (ci := 13) (v := .ref q5430) (ty := .array .int) (C := RX10) (T := TX10) (N := 18) hx hb hts (in_zk_X10_init_X10) tyX10 tyX10_ok nmX10 hown hK hP hD hS 0 rfl rfl 11 (by decide) (hts (.fieldLink RX10 44 "HeapWorks$Types" "fieldKind" "[I") (by decide +kernel)) (fun _ h9 => h9) rfl hin rfl (by decide +kernel) rfl rfl (by rw [o_s5429.2.1]; decide) dX10_init_89 (fun H locs hP hD hS => ?_)
  have hP : va_P (dC, dI) vwCl [(Ad0, .inr (13, (s5429.set 11 (.ref q5430)))), (q5430, .inl (k5431, 96, .inl f5432))] H := hP
  have hD : va_D A [(Ad0, .inr (13, (s5429.set 11 (.ref q5430)))), (q5430, .inl (k5431, 96, .inl f5432))] := hD
  have o_s5434 := ow_set o_s5429 11 (.ref q5430) (by decide) (l' := [(11, .ref q5430), (10, .ref q5425), (9, .ref q5420), (8, .ref q5415), (7, .ref q5410), (6, .ref q5405), (5, .ref q5400), (4, .ref q5395), (3, .ref q5390), (2, .ref q5385), (1, .ref q5380)]) (w' := [11, 10, 9, 8, 7, 6, 5, 4, 3, 2, 1]) rfl rfl
  generalize (s5429.set 11 (.ref q5430)) = s5434 at hP hD o_s5434
  have hP := hP.sub (ws' := [(Ad0, .inr (13, s5434))]) [0] rfl
  have hD := hD.sub (ws' := [(Ad0, .inr (13, s5434))]) [0] (by decide) rfl
  have hK := hK.sub (tys' := []) [] rfl
  refine lv_aload_n hx hb dX10_init_92 rfl (lv_at hl 0 rfl) ?_
  refine lv_bipush (v := 96) hx hb dX10_init_93 (by decide) ?_
  refine va_newa (atype := .int) (ty := .int) (a0 := (96, .inl (fun _ : Nat => (0 : Int32)))) (N' := 96) hx hb (hts (.arrayClass .int) (by decide +kernel)) rfl hK hP hD hS hA (na_I 96) (by decide) (by decide) (by decide) (Nat.le_of_ble_eq_true rfl) (Nat.le_of_ble_eq_true rfl) dX10_init_95 (fun q5435 k5436 H hK hP hD hS => ?_)
  have hK : va_K (dC, dI) vwCl [(k5436, .int)] s := hK
  have hP : va_P (dC, dI) vwCl [(Ad0, .inr (13, s5434)), (q5435, .inl (k5436, 96, .inl ((fun _ : Nat => (0 : Int32)))))] H := hP
  have hD : va_D A [(Ad0, .inr (13, s5434)), (q5435, .inl (k5436, 96, .inl ((fun _ : Nat => (0 : Int32)))))] := hD
  have z5438 : ∀ j, (fun _ : Nat => (0 : Int32)) j = 0 := fun _ => rfl
  generalize (fun _ : Nat => (0 : Int32)) = f5437 at hP hD z5438
  refine W.widen (k := 12) (n := 432) (by omega) (by omega) ?_
  refine va_putF (D := (dC, dI)) (ci := 13) (v := .ref q5435) (ty := .array .int) (C := RX10) (T := TX10) (N := 18) hx hb hts (in_zk_X10_init_X10) tyX10 tyX10_ok nmX10 hown hK hP hD hS 0 rfl rfl 12 (by decide) (hts (.fieldLink RX10 47 "HeapWorks$Types" "fieldLink" "[I") (by decide +kernel)) (fun _ h9 => h9) rfl hin rfl (by decide +kernel) rfl rfl (by rw [o_s5434.2.1]; decide) dX10_init_97 (fun H locs hP hD hS => ?_)
  have hP : va_P (dC, dI) vwCl [(Ad0, .inr (13, (s5434.set 12 (.ref q5435)))), (q5435, .inl (k5436, 96, .inl f5437))] H := hP
  have hD : va_D A [(Ad0, .inr (13, (s5434.set 12 (.ref q5435)))), (q5435, .inl (k5436, 96, .inl f5437))] := hD
  have o_s5439 := ow_set o_s5434 12 (.ref q5435) (by decide) (l' := [(12, .ref q5435), (11, .ref q5430), (10, .ref q5425), (9, .ref q5420), (8, .ref q5415), (7, .ref q5410), (6, .ref q5405), (5, .ref q5400), (4, .ref q5395), (3, .ref q5390), (2, .ref q5385), (1, .ref q5380)]) (w' := [12, 11, 10, 9, 8, 7, 6, 5, 4, 3, 2, 1]) rfl rfl
  generalize (s5434.set 12 (.ref q5435)) = s5439 at hP hD o_s5439
  have hP := hP.sub (ws' := [(Ad0, .inr (13, s5439))]) [0] rfl
  have hD := hD.sub (ws' := [(Ad0, .inr (13, s5439))]) [0] (by decide) rfl
  have hK := hK.sub (tys' := []) [] rfl
  refine lv_aload_n hx hb dX10_init_100 rfl (lv_at hl 0 rfl) ?_
  refine lv_bipush (v := 96) hx hb dX10_init_101 (by decide) ?_
  refine va_newa (atype := .boolean) (ty := .boolean) (a0 := (96, .inl (fun _ : Nat => (0 : Int32)))) (N' := 96) hx hb (hts (.arrayClass .boolean) (by decide +kernel)) rfl hK hP hD hS hA (na_Z 96) (by decide) (by decide) (by decide) (Nat.le_of_ble_eq_true rfl) (Nat.le_of_ble_eq_true rfl) dX10_init_103 (fun q5440 k5441 H hK hP hD hS => ?_)
  have hK : va_K (dC, dI) vwCl [(k5441, .boolean)] s := hK
  have hP : va_P (dC, dI) vwCl [(Ad0, .inr (13, s5439)), (q5440, .inl (k5441, 96, .inl ((fun _ : Nat => (0 : Int32)))))] H := hP
  have hD : va_D A [(Ad0, .inr (13, s5439)), (q5440, .inl (k5441, 96, .inl ((fun _ : Nat => (0 : Int32)))))] := hD
  have z5443 : ∀ j, (fun _ : Nat => (0 : Int32)) j = 0 := fun _ => rfl
  generalize (fun _ : Nat => (0 : Int32)) = f5442 at hP hD z5443
  refine W.widen (k := 13) (n := 528) (by omega) (by omega) ?_
  refine va_putF (D := (dC, dI)) (ci := 13) (v := .ref q5440) (ty := .array .boolean) (C := RX10) (T := TX10) (N := 18) hx hb hts (in_zk_X10_init_X10) tyX10 tyX10_ok nmX10 hown hK hP hD hS 0 rfl rfl 13 (by decide) (hts (.fieldLink RX10 50 "HeapWorks$Types" "fieldStatic" "[Z") (by decide +kernel)) (fun _ h9 => h9) rfl hin rfl (by decide +kernel) rfl rfl (by rw [o_s5439.2.1]; decide) dX10_init_105 (fun H locs hP hD hS => ?_)
  have hP : va_P (dC, dI) vwCl [(Ad0, .inr (13, (s5439.set 13 (.ref q5440)))), (q5440, .inl (k5441, 96, .inl f5442))] H := hP
  have hD : va_D A [(Ad0, .inr (13, (s5439.set 13 (.ref q5440)))), (q5440, .inl (k5441, 96, .inl f5442))] := hD
  have o_s5444 := ow_set o_s5439 13 (.ref q5440) (by decide) (l' := [(13, .ref q5440), (12, .ref q5435), (11, .ref q5430), (10, .ref q5425), (9, .ref q5420), (8, .ref q5415), (7, .ref q5410), (6, .ref q5405), (5, .ref q5400), (4, .ref q5395), (3, .ref q5390), (2, .ref q5385), (1, .ref q5380)]) (w' := [13, 12, 11, 10, 9, 8, 7, 6, 5, 4, 3, 2, 1]) rfl rfl
  generalize (s5439.set 13 (.ref q5440)) = s5444 at hP hD o_s5444
  have hP := hP.sub (ws' := [(Ad0, .inr (13, s5444))]) [0] rfl
  have hD := hD.sub (ws' := [(Ad0, .inr (13, s5444))]) [0] (by decide) rfl
  have hK := hK.sub (tys' := []) [] rfl
  refine lv_aload_n hx hb dX10_init_108 rfl (lv_at hl 0 rfl) ?_
  refine lv_bipush (v := 96) hx hb dX10_init_109 (by decide) ?_
  refine va_newa (atype := .int) (ty := .int) (a0 := (96, .inl (fun _ : Nat => (0 : Int32)))) (N' := 96) hx hb (hts (.arrayClass .int) (by decide +kernel)) rfl hK hP hD hS hA (na_I 96) (by decide) (by decide) (by decide) (Nat.le_of_ble_eq_true rfl) (Nat.le_of_ble_eq_true rfl) dX10_init_111 (fun q5445 k5446 H hK hP hD hS => ?_)
  have hK : va_K (dC, dI) vwCl [(k5446, .int)] s := hK
  have hP : va_P (dC, dI) vwCl [(Ad0, .inr (13, s5444)), (q5445, .inl (k5446, 96, .inl ((fun _ : Nat => (0 : Int32)))))] H := hP
  have hD : va_D A [(Ad0, .inr (13, s5444)), (q5445, .inl (k5446, 96, .inl ((fun _ : Nat => (0 : Int32)))))] := hD
  have z5448 : ∀ j, (fun _ : Nat => (0 : Int32)) j = 0 := fun _ => rfl
  generalize (fun _ : Nat => (0 : Int32)) = f5447 at hP hD z5448
  refine W.widen (k := 14) (n := 624) (by omega) (by omega) ?_
  refine va_putF (D := (dC, dI)) (ci := 13) (v := .ref q5445) (ty := .array .int) (C := RX10) (T := TX10) (N := 18) hx hb hts (in_zk_X10_init_X10) tyX10 tyX10_ok nmX10 hown hK hP hD hS 0 rfl rfl 14 (by decide) (hts (.fieldLink RX10 53 "HeapWorks$Types" "fieldPlace" "[I") (by decide +kernel)) (fun _ h9 => h9) rfl hin rfl (by decide +kernel) rfl rfl (by rw [o_s5444.2.1]; decide) dX10_init_113 (fun H locs hP hD hS => ?_)
  have hP : va_P (dC, dI) vwCl [(Ad0, .inr (13, (s5444.set 14 (.ref q5445)))), (q5445, .inl (k5446, 96, .inl f5447))] H := hP
  have hD : va_D A [(Ad0, .inr (13, (s5444.set 14 (.ref q5445)))), (q5445, .inl (k5446, 96, .inl f5447))] := hD
  have o_s5449 := ow_set o_s5444 14 (.ref q5445) (by decide) (l' := [(14, .ref q5445), (13, .ref q5440), (12, .ref q5435), (11, .ref q5430), (10, .ref q5425), (9, .ref q5420), (8, .ref q5415), (7, .ref q5410), (6, .ref q5405), (5, .ref q5400), (4, .ref q5395), (3, .ref q5390), (2, .ref q5385), (1, .ref q5380)]) (w' := [14, 13, 12, 11, 10, 9, 8, 7, 6, 5, 4, 3, 2, 1]) rfl rfl
  generalize (s5444.set 14 (.ref q5445)) = s5449 at hP hD o_s5449
  have hP := hP.sub (ws' := [(Ad0, .inr (13, s5449))]) [0] rfl
  have hD := hD.sub (ws' := [(Ad0, .inr (13, s5449))]) [0] (by decide) rfl
  have hK := hK.sub (tys' := []) [] rfl
  refine lv_aload_n hx hb dX10_init_116 rfl (lv_at hl 0 rfl) ?_
  refine lv_sipush (v := 1536) hx hb dX10_init_117 (by decide) ?_
  refine va_newa (atype := .long) (ty := .long) (a0 := (1536, .inr (.inl (fun _ : Nat => (0 : Int64))))) (N' := 1536) hx hb (hts (.arrayClass .long) (by decide +kernel)) rfl hK hP hD hS hA (na_J 1536) (by decide) (by decide) (by decide) (Nat.le_of_ble_eq_true rfl) (Nat.le_of_ble_eq_true rfl) dX10_init_120 (fun q5450 k5451 H hK hP hD hS => ?_)
  have hK : va_K (dC, dI) vwCl [(k5451, .long)] s := hK
  have hP : va_P (dC, dI) vwCl [(Ad0, .inr (13, s5449)), (q5450, .inl (k5451, 1536, .inr (.inl ((fun _ : Nat => (0 : Int64))))))] H := hP
  have hD : va_D A [(Ad0, .inr (13, s5449)), (q5450, .inl (k5451, 1536, .inr (.inl ((fun _ : Nat => (0 : Int64))))))] := hD
  have z5453 : ∀ j, (fun _ : Nat => (0 : Int64)) j = 0 := fun _ => rfl
  generalize (fun _ : Nat => (0 : Int64)) = f5452 at hP hD z5453
  refine W.widen (k := 15) (n := 2160) (by omega) (by omega) ?_
  refine va_putF (D := (dC, dI)) (ci := 13) (v := .ref q5450) (ty := .array .long) (C := RX10) (T := TX10) (N := 18) hx hb hts (in_zk_X10_init_X10) tyX10 tyX10_ok nmX10 hown hK hP hD hS 0 rfl rfl 15 (by decide) (hts (.fieldLink RX10 56 "HeapWorks$Types" "slotName" "[J") (by decide +kernel)) (fun _ h9 => h9) rfl hin rfl (by decide +kernel) rfl rfl (by rw [o_s5449.2.1]; decide) dX10_init_122 (fun H locs hP hD hS => ?_)
  have hP : va_P (dC, dI) vwCl [(Ad0, .inr (13, (s5449.set 15 (.ref q5450)))), (q5450, .inl (k5451, 1536, .inr (.inl f5452)))] H := hP
  have hD : va_D A [(Ad0, .inr (13, (s5449.set 15 (.ref q5450)))), (q5450, .inl (k5451, 1536, .inr (.inl f5452)))] := hD
  have o_s5454 := ow_set o_s5449 15 (.ref q5450) (by decide) (l' := [(15, .ref q5450), (14, .ref q5445), (13, .ref q5440), (12, .ref q5435), (11, .ref q5430), (10, .ref q5425), (9, .ref q5420), (8, .ref q5415), (7, .ref q5410), (6, .ref q5405), (5, .ref q5400), (4, .ref q5395), (3, .ref q5390), (2, .ref q5385), (1, .ref q5380)]) (w' := [15, 14, 13, 12, 11, 10, 9, 8, 7, 6, 5, 4, 3, 2, 1]) rfl rfl
  generalize (s5449.set 15 (.ref q5450)) = s5454 at hP hD o_s5454
  have hP := hP.sub (ws' := [(Ad0, .inr (13, s5454))]) [0] rfl
  have hD := hD.sub (ws' := [(Ad0, .inr (13, s5454))]) [0] (by decide) rfl
  have hK := hK.sub (tys' := []) [] rfl
  refine lv_aload_n hx hb dX10_init_125 rfl (lv_at hl 0 rfl) ?_
  refine lv_sipush (v := 1536) hx hb dX10_init_126 (by decide) ?_
  refine va_newa (atype := .int) (ty := .int) (a0 := (1536, .inl (fun _ : Nat => (0 : Int32)))) (N' := 1536) hx hb (hts (.arrayClass .int) (by decide +kernel)) rfl hK hP hD hS hA (na_I 1536) (by decide) (by decide) (by decide) (Nat.le_of_ble_eq_true rfl) (Nat.le_of_ble_eq_true rfl) dX10_init_129 (fun q5455 k5456 H hK hP hD hS => ?_)
  have hK : va_K (dC, dI) vwCl [(k5456, .int)] s := hK
  have hP : va_P (dC, dI) vwCl [(Ad0, .inr (13, s5454)), (q5455, .inl (k5456, 1536, .inl ((fun _ : Nat => (0 : Int32)))))] H := hP
  have hD : va_D A [(Ad0, .inr (13, s5454)), (q5455, .inl (k5456, 1536, .inl ((fun _ : Nat => (0 : Int32)))))] := hD
  have z5458 : ∀ j, (fun _ : Nat => (0 : Int32)) j = 0 := fun _ => rfl
  generalize (fun _ : Nat => (0 : Int32)) = f5457 at hP hD z5458
  refine W.widen (k := 16) (n := 3696) (by omega) (by omega) ?_
  refine va_putF (D := (dC, dI)) (ci := 13) (v := .ref q5455) (ty := .array .int) (C := RX10) (T := TX10) (N := 18) hx hb hts (in_zk_X10_init_X10) tyX10 tyX10_ok nmX10 hown hK hP hD hS 0 rfl rfl 16 (by decide) (hts (.fieldLink RX10 59 "HeapWorks$Types" "slotKind" "[I") (by decide +kernel)) (fun _ h9 => h9) rfl hin rfl (by decide +kernel) rfl rfl (by rw [o_s5454.2.1]; decide) dX10_init_131 (fun H locs hP hD hS => ?_)
  have hP : va_P (dC, dI) vwCl [(Ad0, .inr (13, (s5454.set 16 (.ref q5455)))), (q5455, .inl (k5456, 1536, .inl f5457))] H := hP
  have hD : va_D A [(Ad0, .inr (13, (s5454.set 16 (.ref q5455)))), (q5455, .inl (k5456, 1536, .inl f5457))] := hD
  have o_s5459 := ow_set o_s5454 16 (.ref q5455) (by decide) (l' := [(16, .ref q5455), (15, .ref q5450), (14, .ref q5445), (13, .ref q5440), (12, .ref q5435), (11, .ref q5430), (10, .ref q5425), (9, .ref q5420), (8, .ref q5415), (7, .ref q5410), (6, .ref q5405), (5, .ref q5400), (4, .ref q5395), (3, .ref q5390), (2, .ref q5385), (1, .ref q5380)]) (w' := [16, 15, 14, 13, 12, 11, 10, 9, 8, 7, 6, 5, 4, 3, 2, 1]) rfl rfl
  generalize (s5454.set 16 (.ref q5455)) = s5459 at hP hD o_s5459
  have hP := hP.sub (ws' := [(Ad0, .inr (13, s5459))]) [0] rfl
  have hD := hD.sub (ws' := [(Ad0, .inr (13, s5459))]) [0] (by decide) rfl
  have hK := hK.sub (tys' := []) [] rfl
  refine lv_aload_n hx hb dX10_init_134 rfl (lv_at hl 0 rfl) ?_
  refine lv_sipush (v := 1536) hx hb dX10_init_135 (by decide) ?_
  refine va_newa (atype := .int) (ty := .int) (a0 := (1536, .inl (fun _ : Nat => (0 : Int32)))) (N' := 1536) hx hb (hts (.arrayClass .int) (by decide +kernel)) rfl hK hP hD hS hA (na_I 1536) (by decide) (by decide) (by decide) (Nat.le_of_ble_eq_true rfl) (Nat.le_of_ble_eq_true rfl) dX10_init_138 (fun q5460 k5461 H hK hP hD hS => ?_)
  have hK : va_K (dC, dI) vwCl [(k5461, .int)] s := hK
  have hP : va_P (dC, dI) vwCl [(Ad0, .inr (13, s5459)), (q5460, .inl (k5461, 1536, .inl ((fun _ : Nat => (0 : Int32)))))] H := hP
  have hD : va_D A [(Ad0, .inr (13, s5459)), (q5460, .inl (k5461, 1536, .inl ((fun _ : Nat => (0 : Int32)))))] := hD
  have z5463 : ∀ j, (fun _ : Nat => (0 : Int32)) j = 0 := fun _ => rfl
  generalize (fun _ : Nat => (0 : Int32)) = f5462 at hP hD z5463
  refine W.widen (k := 17) (n := 5232) (by omega) (by omega) ?_
  refine va_putF (D := (dC, dI)) (ci := 13) (v := .ref q5460) (ty := .array .int) (C := RX10) (T := TX10) (N := 18) hx hb hts (in_zk_X10_init_X10) tyX10 tyX10_ok nmX10 hown hK hP hD hS 0 rfl rfl 17 (by decide) (hts (.fieldLink RX10 62 "HeapWorks$Types" "slotLink" "[I") (by decide +kernel)) (fun _ h9 => h9) rfl hin rfl (by decide +kernel) rfl rfl (by rw [o_s5459.2.1]; decide) dX10_init_140 (fun H locs hP hD hS => ?_)
  have hP : va_P (dC, dI) vwCl [(Ad0, .inr (13, (s5459.set 17 (.ref q5460)))), (q5460, .inl (k5461, 1536, .inl f5462))] H := hP
  have hD : va_D A [(Ad0, .inr (13, (s5459.set 17 (.ref q5460)))), (q5460, .inl (k5461, 1536, .inl f5462))] := hD
  have o_s5464 := ow_set o_s5459 17 (.ref q5460) (by decide) (l' := [(17, .ref q5460), (16, .ref q5455), (15, .ref q5450), (14, .ref q5445), (13, .ref q5440), (12, .ref q5435), (11, .ref q5430), (10, .ref q5425), (9, .ref q5420), (8, .ref q5415), (7, .ref q5410), (6, .ref q5405), (5, .ref q5400), (4, .ref q5395), (3, .ref q5390), (2, .ref q5385), (1, .ref q5380)]) (w' := [17, 16, 15, 14, 13, 12, 11, 10, 9, 8, 7, 6, 5, 4, 3, 2, 1]) rfl rfl
  generalize (s5459.set 17 (.ref q5460)) = s5464 at hP hD o_s5464
  have hP := hP.sub (ws' := [(Ad0, .inr (13, s5464))]) [0] rfl
  have hD := hD.sub (ws' := [(Ad0, .inr (13, s5464))]) [0] (by decide) rfl
  have hK := hK.sub (tys' := []) [] rfl
  have hP9 := hP.sub (ws' := [(Ad0, .inr (13, s5464))]) [0] rfl
  have hD9 := hD.sub (ws' := [(Ad0, .inr (13, s5464))]) [0] (by decide) rfl
  have hK9 := hK.sub (tys' := []) [] rfl
  refine W.widen (k := 17) (n := 5232) (by decide) (by decide) ?_
  exact W.vret hx hb hr (fun t ht hW => ⟨⟨s5464, rfl, (ow_sub o_s5464 [] rfl), by rw [ht]; exact hP9, va_K.moved hW.alike hK9, hD9⟩, hS.F ht⟩) hS.2.2 dX10_init_143

def l_zk_X2_init : List Cond := [.methodLink RX2 3 objectInit, .instanceMethod objectInit, .code objectInit ⟨#[0xb1]⟩ 1 none, .fieldLink RX2 9 "HeapWorks$Heap" "types" "LHeapWorks$Types;", .arrayClass .int, .fieldLink RX2 15 "HeapWorks$Heap" "type" "[I", .fieldLink RX2 19 "HeapWorks$Heap" "length" "[I", .fieldLink RX2 22 "HeapWorks$Heap" "first" "[I", .arrayClass .long, .fieldLink RX2 25 "HeapWorks$Heap" "value" "[J", .arrayClass .boolean, .fieldLink RX2 29 "HeapWorks$Heap" "link" "[Z", .fieldLink RX2 35 "HeapWorks$Heap" "statics" "[J", .fieldLink RX2 38 "HeapWorks$Heap" "roots" "[I", .fieldLink RX2 41 "HeapWorks$Heap" "order" "[I", .fieldLink RX2 44 "HeapWorks$Heap" "mark" "[I"]
def w_zk_X2_init : List Cond := .code yX2_init cX2_init 2 none :: (l_zk_X2_init ++ (wsX20))
theorem in_zk_X2_init_X2 : ∀ w ∈ wsX20, w ∈ w_zk_X2_init := fun w h => List.mem_cons_of_mem _ (List.mem_append_right _ (h))
set_option maxHeartbeats 4000000 in
set_option maxRecDepth 100000 in
theorem zk_X2_init (l : Launch) (dC : Nat → ClassId) (dI : Nat → Nat → Nat) (sz : Nat) (Ad0 : Nat) (Fs0 : List Value) (Br0 : Nat) (k_Fs0 : fh Fs0 14 [])  : Met l yX2_init w_zk_X2_init ({ frames := 1, cells := 9, slots := 10108, locals := 24 }) (va_Pc [.ref Ad0, .ref Br0] (fun U => U.heap.size = sz ∧ Wd dC dI [] (fun _ => True) [(Ad0, .inr (5, Fs0))] U)) (va_Qv (fun (u : List Value × Nat × (Nat → Int32) × ClassId × Nat × (Nat → Int32) × ClassId × Nat × (Nat → Int64) × ClassId × Nat × (Nat → Int32) × ClassId × Nat × (Nat → Int32) × ClassId × Nat × (Nat → Int32) × ClassId) => match u with | (s5560, q5556, f5558, k5557, q5536, f5538, k5537, q5531, f5533, k5532, q5526, f5528, k5527, q5521, f5523, k5522, q5516, f5518, k5517) => (ow Fs0 (s5560) 14 [13, 12, 10, 9, 8, 7, 6, 5, 4, 0] [(13, .ref q5556), (8, .ref q5536), (7, .ref q5531), (6, .ref q5526), (5, .ref q5521), (4, .ref q5516), (0, .ref Br0)] ∧ (∀ j, f5558 j = 0) ∧ (∀ j, f5538 j = 0) ∧ (∀ j, f5533 j = 0) ∧ (∀ j, f5528 j = 0) ∧ (∀ j, f5523 j = 0) ∧ (∀ j, f5518 j = 0))) (fun (u : List Value × Nat × (Nat → Int32) × ClassId × Nat × (Nat → Int32) × ClassId × Nat × (Nat → Int64) × ClassId × Nat × (Nat → Int32) × ClassId × Nat × (Nat → Int32) × ClassId × Nat × (Nat → Int32) × ClassId) t => match u with | (s5560, q5556, f5558, k5557, q5536, f5538, k5537, q5531, f5533, k5532, q5526, f5528, k5527, q5521, f5523, k5522, q5516, f5518, k5517) => Wd dC dI [(k5557, .int), (k5537, .boolean), (k5532, .long), (k5527, .int), (k5522, .int), (k5517, .int)] (va_A [(Ad0, .inr (5, Fs0))] sz) [(Ad0, .inr (5, s5560)), (q5556, .inl (k5557, 400, .inl f5558)), (q5536, .inl (k5537, 4000, .inl f5538)), (q5531, .inl (k5532, 4000, .inr (.inl f5533))), (q5526, .inl (k5527, 400, .inl f5528)), (q5521, .inl (k5522, 400, .inl f5523)), (q5516, .inl (k5517, 400, .inl f5518))] t) (va_A [(Ad0, .inr (5, Fs0))] sz))  9 10108 (va_A [(Ad0, .inr (5, Fs0))] sz) := by
  refine Met.ofW (cc := cX2_init) (maxL := 2) (ret := none) (by decide) rfl ?_
  intro p e s m args below meth c s₁ B hml hv
  obtain ⟨rfl, hsz, hP, hK, hD0⟩ := hv
  have hx := B.exec
  have hb := B.bytes
  have hr := B.returns
  have hts := atoms_spec (ws := w_zk_X2_init) B.pre
  have hown : s.vm.findClass RX2 = some m.cls := findClass_of_methodNamed B.named
  have hlocks := B.notSynchronized
  have hin : meth.name = "<init>" := (name_of_methodNamed B.named B.method).1
  subst hsz
  have hD := hD0.self (sz := s.heap.size)
  generalize hAe : va_A [(Ad0, .inr (5, Fs0))] s.heap.size = A at hD ⊢
  have hA : ∀ q : Nat, s.heap.size ≤ q → A q := fun q h => by rw [← hAe]; exact Or.inr h
  have hS : va_S A s.heap s.heap [] := va_S.rf
  have hl := lv_entry ([.ref Ad0, .ref Br0]) (n := 2) (Nat.le_of_ble_eq_true rfl)
  rw [lg_entry_eq]
  generalize (lg_sl ([.ref Ad0, .ref Br0]) ++ List.replicate (2 - (lg_sl ([.ref Ad0, .ref Br0])).length) Slot.unset).toArray = ls at hl ⊢
  have hl : lv_has ls 2 [(0, .ref Ad0), (1, .ref Br0)] := hl
  have o_Fs0 := ow_0 k_Fs0
  refine lv_aload_n hx hb dX2_init_0 rfl (lv_at hl 0 rfl) ?_
  refine W.objInit hx hb hown (hts (.methodLink RX2 3 objectInit) (by decide +kernel)) (hts (.instanceMethod objectInit) (by decide +kernel)) (hts (.code objectInit ⟨#[0xb1]⟩ 1 none) (by decide +kernel)) rfl (by rw [hml]; exact hl.1) rfl dX2_init_1 (Nat.le_of_ble_eq_true rfl) (Nat.le_of_ble_eq_true rfl) ?_
  refine W.eq (g2 := F0 m 4 ls []) rfl ?_
  refine lv_aload_n hx hb dX2_init_4 rfl (lv_at hl 0 rfl) ?_
  refine lv_aload_n hx hb dX2_init_5 rfl (lv_at hl 1 rfl) ?_
  refine va_putF (D := (dC, dI)) (ci := 5) (v := .ref Br0) (ty := .object "HeapWorks$Types") (C := RX2) (T := TX2) (N := 14) hx hb hts (in_zk_X2_init_X2) tyX2 tyX2_ok nmX2 hown hK hP hD hS 0 rfl rfl 0 (by decide) (hts (.fieldLink RX2 9 "HeapWorks$Heap" "types" "LHeapWorks$Types;") (by decide +kernel)) (fun _ h9 => h9) rfl hin rfl (by decide +kernel) rfl rfl (by rw [o_Fs0.2.1]; decide) dX2_init_6 (fun H locs hP hD hS => ?_)
  have hP : va_P (dC, dI) vwCl [(Ad0, .inr (5, (Fs0.set 0 (.ref Br0))))] H := hP
  have hD : va_D A [(Ad0, .inr (5, (Fs0.set 0 (.ref Br0))))] := hD
  have o_s5515 := ow_set o_Fs0 0 (.ref Br0) (by decide) (l' := [(0, .ref Br0)]) (w' := [0]) rfl rfl
  generalize (Fs0.set 0 (.ref Br0)) = s5515 at hP hD o_s5515
  refine lv_aload_n hx hb dX2_init_9 rfl (lv_at hl 0 rfl) ?_
  refine lv_sipush (v := 400) hx hb dX2_init_10 (by decide) ?_
  refine va_newa (atype := .int) (ty := .int) (a0 := (400, .inl (fun _ : Nat => (0 : Int32)))) (N' := 400) hx hb (hts (.arrayClass .int) (by decide +kernel)) rfl hK hP hD hS hA (na_I 400) (by decide) (by decide) (by decide) (Nat.le_of_ble_eq_true rfl) (Nat.le_of_ble_eq_true rfl) dX2_init_13 (fun q5516 k5517 H hK hP hD hS => ?_)
  have hK : va_K (dC, dI) vwCl [(k5517, .int)] s := hK
  have hP : va_P (dC, dI) vwCl [(Ad0, .inr (5, s5515)), (q5516, .inl (k5517, 400, .inl ((fun _ : Nat => (0 : Int32)))))] H := hP
  have hD : va_D A [(Ad0, .inr (5, s5515)), (q5516, .inl (k5517, 400, .inl ((fun _ : Nat => (0 : Int32)))))] := hD
  have z5519 : ∀ j, (fun _ : Nat => (0 : Int32)) j = 0 := fun _ => rfl
  generalize (fun _ : Nat => (0 : Int32)) = f5518 at hP hD z5519
  refine W.widen (k := 1) (n := 400) (by omega) (by omega) ?_
  refine va_putF (D := (dC, dI)) (ci := 5) (v := .ref q5516) (ty := .array .int) (C := RX2) (T := TX2) (N := 14) hx hb hts (in_zk_X2_init_X2) tyX2 tyX2_ok nmX2 hown hK hP hD hS 0 rfl rfl 4 (by decide) (hts (.fieldLink RX2 15 "HeapWorks$Heap" "type" "[I") (by decide +kernel)) (fun _ h9 => h9) rfl hin rfl (by decide +kernel) rfl rfl (by rw [o_s5515.2.1]; decide) dX2_init_15 (fun H locs hP hD hS => ?_)
  have hP : va_P (dC, dI) vwCl [(Ad0, .inr (5, (s5515.set 4 (.ref q5516)))), (q5516, .inl (k5517, 400, .inl f5518))] H := hP
  have hD : va_D A [(Ad0, .inr (5, (s5515.set 4 (.ref q5516)))), (q5516, .inl (k5517, 400, .inl f5518))] := hD
  have o_s5520 := ow_set o_s5515 4 (.ref q5516) (by decide) (l' := [(4, .ref q5516), (0, .ref Br0)]) (w' := [4, 0]) rfl rfl
  generalize (s5515.set 4 (.ref q5516)) = s5520 at hP hD o_s5520
  refine lv_aload_n hx hb dX2_init_18 rfl (lv_at hl 0 rfl) ?_
  refine lv_sipush (v := 400) hx hb dX2_init_19 (by decide) ?_
  refine va_newa (atype := .int) (ty := .int) (a0 := (400, .inl (fun _ : Nat => (0 : Int32)))) (N' := 400) hx hb (hts (.arrayClass .int) (by decide +kernel)) rfl hK hP hD hS hA (na_I 400) (by decide) (by decide) (by decide) (Nat.le_of_ble_eq_true rfl) (Nat.le_of_ble_eq_true rfl) dX2_init_22 (fun q5521 k5522 H hK hP hD hS => ?_)
  have hK : va_K (dC, dI) vwCl [(k5517, .int), (k5522, .int)] s := hK
  have hP : va_P (dC, dI) vwCl [(Ad0, .inr (5, s5520)), (q5516, .inl (k5517, 400, .inl f5518)), (q5521, .inl (k5522, 400, .inl ((fun _ : Nat => (0 : Int32)))))] H := hP
  have hD : va_D A [(Ad0, .inr (5, s5520)), (q5516, .inl (k5517, 400, .inl f5518)), (q5521, .inl (k5522, 400, .inl ((fun _ : Nat => (0 : Int32)))))] := hD
  have z5524 : ∀ j, (fun _ : Nat => (0 : Int32)) j = 0 := fun _ => rfl
  generalize (fun _ : Nat => (0 : Int32)) = f5523 at hP hD z5524
  refine W.widen (k := 2) (n := 800) (by omega) (by omega) ?_
  refine va_putF (D := (dC, dI)) (ci := 5) (v := .ref q5521) (ty := .array .int) (C := RX2) (T := TX2) (N := 14) hx hb hts (in_zk_X2_init_X2) tyX2 tyX2_ok nmX2 hown hK hP hD hS 0 rfl rfl 5 (by decide) (hts (.fieldLink RX2 19 "HeapWorks$Heap" "length" "[I") (by decide +kernel)) (fun _ h9 => h9) rfl hin rfl (by decide +kernel) rfl rfl (by rw [o_s5520.2.1]; decide) dX2_init_24 (fun H locs hP hD hS => ?_)
  have hP : va_P (dC, dI) vwCl [(Ad0, .inr (5, (s5520.set 5 (.ref q5521)))), (q5516, .inl (k5517, 400, .inl f5518)), (q5521, .inl (k5522, 400, .inl f5523))] H := hP
  have hD : va_D A [(Ad0, .inr (5, (s5520.set 5 (.ref q5521)))), (q5516, .inl (k5517, 400, .inl f5518)), (q5521, .inl (k5522, 400, .inl f5523))] := hD
  have o_s5525 := ow_set o_s5520 5 (.ref q5521) (by decide) (l' := [(5, .ref q5521), (4, .ref q5516), (0, .ref Br0)]) (w' := [5, 4, 0]) rfl rfl
  generalize (s5520.set 5 (.ref q5521)) = s5525 at hP hD o_s5525
  refine lv_aload_n hx hb dX2_init_27 rfl (lv_at hl 0 rfl) ?_
  refine lv_sipush (v := 400) hx hb dX2_init_28 (by decide) ?_
  refine va_newa (atype := .int) (ty := .int) (a0 := (400, .inl (fun _ : Nat => (0 : Int32)))) (N' := 400) hx hb (hts (.arrayClass .int) (by decide +kernel)) rfl hK hP hD hS hA (na_I 400) (by decide) (by decide) (by decide) (Nat.le_of_ble_eq_true rfl) (Nat.le_of_ble_eq_true rfl) dX2_init_31 (fun q5526 k5527 H hK hP hD hS => ?_)
  have hK : va_K (dC, dI) vwCl [(k5517, .int), (k5522, .int), (k5527, .int)] s := hK
  have hP : va_P (dC, dI) vwCl [(Ad0, .inr (5, s5525)), (q5516, .inl (k5517, 400, .inl f5518)), (q5521, .inl (k5522, 400, .inl f5523)), (q5526, .inl (k5527, 400, .inl ((fun _ : Nat => (0 : Int32)))))] H := hP
  have hD : va_D A [(Ad0, .inr (5, s5525)), (q5516, .inl (k5517, 400, .inl f5518)), (q5521, .inl (k5522, 400, .inl f5523)), (q5526, .inl (k5527, 400, .inl ((fun _ : Nat => (0 : Int32)))))] := hD
  have z5529 : ∀ j, (fun _ : Nat => (0 : Int32)) j = 0 := fun _ => rfl
  generalize (fun _ : Nat => (0 : Int32)) = f5528 at hP hD z5529
  refine W.widen (k := 3) (n := 1200) (by omega) (by omega) ?_
  refine va_putF (D := (dC, dI)) (ci := 5) (v := .ref q5526) (ty := .array .int) (C := RX2) (T := TX2) (N := 14) hx hb hts (in_zk_X2_init_X2) tyX2 tyX2_ok nmX2 hown hK hP hD hS 0 rfl rfl 6 (by decide) (hts (.fieldLink RX2 22 "HeapWorks$Heap" "first" "[I") (by decide +kernel)) (fun _ h9 => h9) rfl hin rfl (by decide +kernel) rfl rfl (by rw [o_s5525.2.1]; decide) dX2_init_33 (fun H locs hP hD hS => ?_)
  have hP : va_P (dC, dI) vwCl [(Ad0, .inr (5, (s5525.set 6 (.ref q5526)))), (q5516, .inl (k5517, 400, .inl f5518)), (q5521, .inl (k5522, 400, .inl f5523)), (q5526, .inl (k5527, 400, .inl f5528))] H := hP
  have hD : va_D A [(Ad0, .inr (5, (s5525.set 6 (.ref q5526)))), (q5516, .inl (k5517, 400, .inl f5518)), (q5521, .inl (k5522, 400, .inl f5523)), (q5526, .inl (k5527, 400, .inl f5528))] := hD
  have o_s5530 := ow_set o_s5525 6 (.ref q5526) (by decide) (l' := [(6, .ref q5526), (5, .ref q5521), (4, .ref q5516), (0, .ref Br0)]) (w' := [6, 5, 4, 0]) rfl rfl
  generalize (s5525.set 6 (.ref q5526)) = s5530 at hP hD o_s5530
  refine lv_aload_n hx hb dX2_init_36 rfl (lv_at hl 0 rfl) ?_
  refine lv_sipush (v := 4000) hx hb dX2_init_37 (by decide) ?_
  refine va_newa (atype := .long) (ty := .long) (a0 := (4000, .inr (.inl (fun _ : Nat => (0 : Int64))))) (N' := 4000) hx hb (hts (.arrayClass .long) (by decide +kernel)) rfl hK hP hD hS hA (na_J 4000) (by decide) (by decide) (by decide) (Nat.le_of_ble_eq_true rfl) (Nat.le_of_ble_eq_true rfl) dX2_init_40 (fun q5531 k5532 H hK hP hD hS => ?_)
  have hK : va_K (dC, dI) vwCl [(k5517, .int), (k5522, .int), (k5527, .int), (k5532, .long)] s := hK
  have hP : va_P (dC, dI) vwCl [(Ad0, .inr (5, s5530)), (q5516, .inl (k5517, 400, .inl f5518)), (q5521, .inl (k5522, 400, .inl f5523)), (q5526, .inl (k5527, 400, .inl f5528)), (q5531, .inl (k5532, 4000, .inr (.inl ((fun _ : Nat => (0 : Int64))))))] H := hP
  have hD : va_D A [(Ad0, .inr (5, s5530)), (q5516, .inl (k5517, 400, .inl f5518)), (q5521, .inl (k5522, 400, .inl f5523)), (q5526, .inl (k5527, 400, .inl f5528)), (q5531, .inl (k5532, 4000, .inr (.inl ((fun _ : Nat => (0 : Int64))))))] := hD
  have z5534 : ∀ j, (fun _ : Nat => (0 : Int64)) j = 0 := fun _ => rfl
  generalize (fun _ : Nat => (0 : Int64)) = f5533 at hP hD z5534
  refine W.widen (k := 4) (n := 5200) (by omega) (by omega) ?_
  refine va_putF (D := (dC, dI)) (ci := 5) (v := .ref q5531) (ty := .array .long) (C := RX2) (T := TX2) (N := 14) hx hb hts (in_zk_X2_init_X2) tyX2 tyX2_ok nmX2 hown hK hP hD hS 0 rfl rfl 7 (by decide) (hts (.fieldLink RX2 25 "HeapWorks$Heap" "value" "[J") (by decide +kernel)) (fun _ h9 => h9) rfl hin rfl (by decide +kernel) rfl rfl (by rw [o_s5530.2.1]; decide) dX2_init_42 (fun H locs hP hD hS => ?_)
  have hP : va_P (dC, dI) vwCl [(Ad0, .inr (5, (s5530.set 7 (.ref q5531)))), (q5516, .inl (k5517, 400, .inl f5518)), (q5521, .inl (k5522, 400, .inl f5523)), (q5526, .inl (k5527, 400, .inl f5528)), (q5531, .inl (k5532, 4000, .inr (.inl f5533)))] H := hP
  have hD : va_D A [(Ad0, .inr (5, (s5530.set 7 (.ref q5531)))), (q5516, .inl (k5517, 400, .inl f5518)), (q5521, .inl (k5522, 400, .inl f5523)), (q5526, .inl (k5527, 400, .inl f5528)), (q5531, .inl (k5532, 4000, .inr (.inl f5533)))] := hD
  have o_s5535 := ow_set o_s5530 7 (.ref q5531) (by decide) (l' := [(7, .ref q5531), (6, .ref q5526), (5, .ref q5521), (4, .ref q5516), (0, .ref Br0)]) (w' := [7, 6, 5, 4, 0]) rfl rfl
  generalize (s5530.set 7 (.ref q5531)) = s5535 at hP hD o_s5535
  refine lv_aload_n hx hb dX2_init_45 rfl (lv_at hl 0 rfl) ?_
  refine lv_sipush (v := 4000) hx hb dX2_init_46 (by decide) ?_
  refine va_newa (atype := .boolean) (ty := .boolean) (a0 := (4000, .inl (fun _ : Nat => (0 : Int32)))) (N' := 4000) hx hb (hts (.arrayClass .boolean) (by decide +kernel)) rfl hK hP hD hS hA (na_Z 4000) (by decide) (by decide) (by decide) (Nat.le_of_ble_eq_true rfl) (Nat.le_of_ble_eq_true rfl) dX2_init_49 (fun q5536 k5537 H hK hP hD hS => ?_)
  have hK : va_K (dC, dI) vwCl [(k5517, .int), (k5522, .int), (k5527, .int), (k5532, .long), (k5537, .boolean)] s := hK
  have hP : va_P (dC, dI) vwCl [(Ad0, .inr (5, s5535)), (q5516, .inl (k5517, 400, .inl f5518)), (q5521, .inl (k5522, 400, .inl f5523)), (q5526, .inl (k5527, 400, .inl f5528)), (q5531, .inl (k5532, 4000, .inr (.inl f5533))), (q5536, .inl (k5537, 4000, .inl ((fun _ : Nat => (0 : Int32)))))] H := hP
  have hD : va_D A [(Ad0, .inr (5, s5535)), (q5516, .inl (k5517, 400, .inl f5518)), (q5521, .inl (k5522, 400, .inl f5523)), (q5526, .inl (k5527, 400, .inl f5528)), (q5531, .inl (k5532, 4000, .inr (.inl f5533))), (q5536, .inl (k5537, 4000, .inl ((fun _ : Nat => (0 : Int32)))))] := hD
  have z5539 : ∀ j, (fun _ : Nat => (0 : Int32)) j = 0 := fun _ => rfl
  generalize (fun _ : Nat => (0 : Int32)) = f5538 at hP hD z5539
  refine W.widen (k := 5) (n := 9200) (by omega) (by omega) ?_
  refine va_putF (D := (dC, dI)) (ci := 5) (v := .ref q5536) (ty := .array .boolean) (C := RX2) (T := TX2) (N := 14) hx hb hts (in_zk_X2_init_X2) tyX2 tyX2_ok nmX2 hown hK hP hD hS 0 rfl rfl 8 (by decide) (hts (.fieldLink RX2 29 "HeapWorks$Heap" "link" "[Z") (by decide +kernel)) (fun _ h9 => h9) rfl hin rfl (by decide +kernel) rfl rfl (by rw [o_s5535.2.1]; decide) dX2_init_51 (fun H locs hP hD hS => ?_)
  have hP : va_P (dC, dI) vwCl [(Ad0, .inr (5, (s5535.set 8 (.ref q5536)))), (q5516, .inl (k5517, 400, .inl f5518)), (q5521, .inl (k5522, 400, .inl f5523)), (q5526, .inl (k5527, 400, .inl f5528)), (q5531, .inl (k5532, 4000, .inr (.inl f5533))), (q5536, .inl (k5537, 4000, .inl f5538))] H := hP
  have hD : va_D A [(Ad0, .inr (5, (s5535.set 8 (.ref q5536)))), (q5516, .inl (k5517, 400, .inl f5518)), (q5521, .inl (k5522, 400, .inl f5523)), (q5526, .inl (k5527, 400, .inl f5528)), (q5531, .inl (k5532, 4000, .inr (.inl f5533))), (q5536, .inl (k5537, 4000, .inl f5538))] := hD
  have o_s5540 := ow_set o_s5535 8 (.ref q5536) (by decide) (l' := [(8, .ref q5536), (7, .ref q5531), (6, .ref q5526), (5, .ref q5521), (4, .ref q5516), (0, .ref Br0)]) (w' := [8, 7, 6, 5, 4, 0]) rfl rfl
  generalize (s5535.set 8 (.ref q5536)) = s5540 at hP hD o_s5540
  refine lv_aload_n hx hb dX2_init_54 rfl (lv_at hl 0 rfl) ?_
  refine lv_bipush (v := 96) hx hb dX2_init_55 (by decide) ?_
  refine va_newa (atype := .long) (ty := .long) (a0 := (96, .inr (.inl (fun _ : Nat => (0 : Int64))))) (N' := 96) hx hb (hts (.arrayClass .long) (by decide +kernel)) rfl hK hP hD hS hA (na_J 96) (by decide) (by decide) (by decide) (Nat.le_of_ble_eq_true rfl) (Nat.le_of_ble_eq_true rfl) dX2_init_57 (fun q5541 k5542 H hK hP hD hS => ?_)
  have hK : va_K (dC, dI) vwCl [(k5517, .int), (k5522, .int), (k5527, .int), (k5532, .long), (k5537, .boolean), (k5542, .long)] s := hK
  have hP : va_P (dC, dI) vwCl [(Ad0, .inr (5, s5540)), (q5516, .inl (k5517, 400, .inl f5518)), (q5521, .inl (k5522, 400, .inl f5523)), (q5526, .inl (k5527, 400, .inl f5528)), (q5531, .inl (k5532, 4000, .inr (.inl f5533))), (q5536, .inl (k5537, 4000, .inl f5538)), (q5541, .inl (k5542, 96, .inr (.inl ((fun _ : Nat => (0 : Int64))))))] H := hP
  have hD : va_D A [(Ad0, .inr (5, s5540)), (q5516, .inl (k5517, 400, .inl f5518)), (q5521, .inl (k5522, 400, .inl f5523)), (q5526, .inl (k5527, 400, .inl f5528)), (q5531, .inl (k5532, 4000, .inr (.inl f5533))), (q5536, .inl (k5537, 4000, .inl f5538)), (q5541, .inl (k5542, 96, .inr (.inl ((fun _ : Nat => (0 : Int64))))))] := hD
  have z5544 : ∀ j, (fun _ : Nat => (0 : Int64)) j = 0 := fun _ => rfl
  generalize (fun _ : Nat => (0 : Int64)) = f5543 at hP hD z5544
  refine W.widen (k := 6) (n := 9296) (by omega) (by omega) ?_
  refine va_putF (D := (dC, dI)) (ci := 5) (v := .ref q5541) (ty := .array .long) (C := RX2) (T := TX2) (N := 14) hx hb hts (in_zk_X2_init_X2) tyX2 tyX2_ok nmX2 hown hK hP hD hS 0 rfl rfl 9 (by decide) (hts (.fieldLink RX2 35 "HeapWorks$Heap" "statics" "[J") (by decide +kernel)) (fun _ h9 => h9) rfl hin rfl (by decide +kernel) rfl rfl (by rw [o_s5540.2.1]; decide) dX2_init_59 (fun H locs hP hD hS => ?_)
  have hP : va_P (dC, dI) vwCl [(Ad0, .inr (5, (s5540.set 9 (.ref q5541)))), (q5516, .inl (k5517, 400, .inl f5518)), (q5521, .inl (k5522, 400, .inl f5523)), (q5526, .inl (k5527, 400, .inl f5528)), (q5531, .inl (k5532, 4000, .inr (.inl f5533))), (q5536, .inl (k5537, 4000, .inl f5538)), (q5541, .inl (k5542, 96, .inr (.inl f5543)))] H := hP
  have hD : va_D A [(Ad0, .inr (5, (s5540.set 9 (.ref q5541)))), (q5516, .inl (k5517, 400, .inl f5518)), (q5521, .inl (k5522, 400, .inl f5523)), (q5526, .inl (k5527, 400, .inl f5528)), (q5531, .inl (k5532, 4000, .inr (.inl f5533))), (q5536, .inl (k5537, 4000, .inl f5538)), (q5541, .inl (k5542, 96, .inr (.inl f5543)))] := hD
  have o_s5545 := ow_set o_s5540 9 (.ref q5541) (by decide) (l' := [(9, .ref q5541), (8, .ref q5536), (7, .ref q5531), (6, .ref q5526), (5, .ref q5521), (4, .ref q5516), (0, .ref Br0)]) (w' := [9, 8, 7, 6, 5, 4, 0]) rfl rfl
  generalize (s5540.set 9 (.ref q5541)) = s5545 at hP hD o_s5545
  have hP := hP.sub (ws' := [(Ad0, .inr (5, s5545)), (q5516, .inl (k5517, 400, .inl f5518)), (q5521, .inl (k5522, 400, .inl f5523)), (q5526, .inl (k5527, 400, .inl f5528)), (q5531, .inl (k5532, 4000, .inr (.inl f5533))), (q5536, .inl (k5537, 4000, .inl f5538))]) [0, 1, 2, 3, 4, 5] rfl
  have hD := hD.sub (ws' := [(Ad0, .inr (5, s5545)), (q5516, .inl (k5517, 400, .inl f5518)), (q5521, .inl (k5522, 400, .inl f5523)), (q5526, .inl (k5527, 400, .inl f5528)), (q5531, .inl (k5532, 4000, .inr (.inl f5533))), (q5536, .inl (k5537, 4000, .inl f5538))]) [0, 1, 2, 3, 4, 5] (by decide) rfl
  have hK := hK.sub (tys' := [(k5517, .int), (k5522, .int), (k5527, .int), (k5532, .long), (k5537, .boolean)]) [0, 1, 2, 3, 4] rfl
  refine lv_aload_n hx hb dX2_init_62 rfl (lv_at hl 0 rfl) ?_
  refine lv_bipush (v := 12) hx hb dX2_init_63 (by decide) ?_
  refine va_newa (atype := .int) (ty := .int) (a0 := (12, .inl (fun _ : Nat => (0 : Int32)))) (N' := 12) hx hb (hts (.arrayClass .int) (by decide +kernel)) rfl hK hP hD hS hA (na_I 12) (by decide) (by decide) (by decide) (Nat.le_of_ble_eq_true rfl) (Nat.le_of_ble_eq_true rfl) dX2_init_65 (fun q5546 k5547 H hK hP hD hS => ?_)
  have hK : va_K (dC, dI) vwCl [(k5517, .int), (k5522, .int), (k5527, .int), (k5532, .long), (k5537, .boolean), (k5547, .int)] s := hK
  have hP : va_P (dC, dI) vwCl [(Ad0, .inr (5, s5545)), (q5516, .inl (k5517, 400, .inl f5518)), (q5521, .inl (k5522, 400, .inl f5523)), (q5526, .inl (k5527, 400, .inl f5528)), (q5531, .inl (k5532, 4000, .inr (.inl f5533))), (q5536, .inl (k5537, 4000, .inl f5538)), (q5546, .inl (k5547, 12, .inl ((fun _ : Nat => (0 : Int32)))))] H := hP
  have hD : va_D A [(Ad0, .inr (5, s5545)), (q5516, .inl (k5517, 400, .inl f5518)), (q5521, .inl (k5522, 400, .inl f5523)), (q5526, .inl (k5527, 400, .inl f5528)), (q5531, .inl (k5532, 4000, .inr (.inl f5533))), (q5536, .inl (k5537, 4000, .inl f5538)), (q5546, .inl (k5547, 12, .inl ((fun _ : Nat => (0 : Int32)))))] := hD
  have z5549 : ∀ j, (fun _ : Nat => (0 : Int32)) j = 0 := fun _ => rfl
  generalize (fun _ : Nat => (0 : Int32)) = f5548 at hP hD z5549
  refine W.widen (k := 7) (n := 9308) (by omega) (by omega) ?_
  refine va_putF (D := (dC, dI)) (ci := 5) (v := .ref q5546) (ty := .array .int) (C := RX2) (T := TX2) (N := 14) hx hb hts (in_zk_X2_init_X2) tyX2 tyX2_ok nmX2 hown hK hP hD hS 0 rfl rfl 10 (by decide) (hts (.fieldLink RX2 38 "HeapWorks$Heap" "roots" "[I") (by decide +kernel)) (fun _ h9 => h9) rfl hin rfl (by decide +kernel) rfl rfl (by rw [o_s5545.2.1]; decide) dX2_init_67 (fun H locs hP hD hS => ?_)
  have hP : va_P (dC, dI) vwCl [(Ad0, .inr (5, (s5545.set 10 (.ref q5546)))), (q5516, .inl (k5517, 400, .inl f5518)), (q5521, .inl (k5522, 400, .inl f5523)), (q5526, .inl (k5527, 400, .inl f5528)), (q5531, .inl (k5532, 4000, .inr (.inl f5533))), (q5536, .inl (k5537, 4000, .inl f5538)), (q5546, .inl (k5547, 12, .inl f5548))] H := hP
  have hD : va_D A [(Ad0, .inr (5, (s5545.set 10 (.ref q5546)))), (q5516, .inl (k5517, 400, .inl f5518)), (q5521, .inl (k5522, 400, .inl f5523)), (q5526, .inl (k5527, 400, .inl f5528)), (q5531, .inl (k5532, 4000, .inr (.inl f5533))), (q5536, .inl (k5537, 4000, .inl f5538)), (q5546, .inl (k5547, 12, .inl f5548))] := hD
  have o_s5550 := ow_set o_s5545 10 (.ref q5546) (by decide) (l' := [(10, .ref q5546), (9, .ref q5541), (8, .ref q5536), (7, .ref q5531), (6, .ref q5526), (5, .ref q5521), (4, .ref q5516), (0, .ref Br0)]) (w' := [10, 9, 8, 7, 6, 5, 4, 0]) rfl rfl
  generalize (s5545.set 10 (.ref q5546)) = s5550 at hP hD o_s5550
  have hP := hP.sub (ws' := [(Ad0, .inr (5, s5550)), (q5516, .inl (k5517, 400, .inl f5518)), (q5521, .inl (k5522, 400, .inl f5523)), (q5526, .inl (k5527, 400, .inl f5528)), (q5531, .inl (k5532, 4000, .inr (.inl f5533))), (q5536, .inl (k5537, 4000, .inl f5538))]) [0, 1, 2, 3, 4, 5] rfl
  have hD := hD.sub (ws' := [(Ad0, .inr (5, s5550)), (q5516, .inl (k5517, 400, .inl f5518)), (q5521, .inl (k5522, 400, .inl f5523)), (q5526, .inl (k5527, 400, .inl f5528)), (q5531, .inl (k5532, 4000, .inr (.inl f5533))), (q5536, .inl (k5537, 4000, .inl f5538))]) [0, 1, 2, 3, 4, 5] (by decide) rfl
  have hK := hK.sub (tys' := [(k5517, .int), (k5522, .int), (k5527, .int), (k5532, .long), (k5537, .boolean)]) [0, 1, 2, 3, 4] rfl
  refine lv_aload_n hx hb dX2_init_70 rfl (lv_at hl 0 rfl) ?_
  refine lv_sipush (v := 400) hx hb dX2_init_71 (by decide) ?_
  refine va_newa (atype := .int) (ty := .int) (a0 := (400, .inl (fun _ : Nat => (0 : Int32)))) (N' := 400) hx hb (hts (.arrayClass .int) (by decide +kernel)) rfl hK hP hD hS hA (na_I 400) (by decide) (by decide) (by decide) (Nat.le_of_ble_eq_true rfl) (Nat.le_of_ble_eq_true rfl) dX2_init_74 (fun q5551 k5552 H hK hP hD hS => ?_)
  have hK : va_K (dC, dI) vwCl [(k5517, .int), (k5522, .int), (k5527, .int), (k5532, .long), (k5537, .boolean), (k5552, .int)] s := hK
  have hP : va_P (dC, dI) vwCl [(Ad0, .inr (5, s5550)), (q5516, .inl (k5517, 400, .inl f5518)), (q5521, .inl (k5522, 400, .inl f5523)), (q5526, .inl (k5527, 400, .inl f5528)), (q5531, .inl (k5532, 4000, .inr (.inl f5533))), (q5536, .inl (k5537, 4000, .inl f5538)), (q5551, .inl (k5552, 400, .inl ((fun _ : Nat => (0 : Int32)))))] H := hP
  have hD : va_D A [(Ad0, .inr (5, s5550)), (q5516, .inl (k5517, 400, .inl f5518)), (q5521, .inl (k5522, 400, .inl f5523)), (q5526, .inl (k5527, 400, .inl f5528)), (q5531, .inl (k5532, 4000, .inr (.inl f5533))), (q5536, .inl (k5537, 4000, .inl f5538)), (q5551, .inl (k5552, 400, .inl ((fun _ : Nat => (0 : Int32)))))] := hD
  have z5554 : ∀ j, (fun _ : Nat => (0 : Int32)) j = 0 := fun _ => rfl
  generalize (fun _ : Nat => (0 : Int32)) = f5553 at hP hD z5554
  refine W.widen (k := 8) (n := 9708) (by omega) (by omega) ?_
  refine va_putF (D := (dC, dI)) (ci := 5) (v := .ref q5551) (ty := .array .int) (C := RX2) (T := TX2) (N := 14) hx hb hts (in_zk_X2_init_X2) tyX2 tyX2_ok nmX2 hown hK hP hD hS 0 rfl rfl 12 (by decide) (hts (.fieldLink RX2 41 "HeapWorks$Heap" "order" "[I") (by decide +kernel)) (fun _ h9 => h9) rfl hin rfl (by decide +kernel) rfl rfl (by rw [o_s5550.2.1]; decide) dX2_init_76 (fun H locs hP hD hS => ?_)
  have hP : va_P (dC, dI) vwCl [(Ad0, .inr (5, (s5550.set 12 (.ref q5551)))), (q5516, .inl (k5517, 400, .inl f5518)), (q5521, .inl (k5522, 400, .inl f5523)), (q5526, .inl (k5527, 400, .inl f5528)), (q5531, .inl (k5532, 4000, .inr (.inl f5533))), (q5536, .inl (k5537, 4000, .inl f5538)), (q5551, .inl (k5552, 400, .inl f5553))] H := hP
  have hD : va_D A [(Ad0, .inr (5, (s5550.set 12 (.ref q5551)))), (q5516, .inl (k5517, 400, .inl f5518)), (q5521, .inl (k5522, 400, .inl f5523)), (q5526, .inl (k5527, 400, .inl f5528)), (q5531, .inl (k5532, 4000, .inr (.inl f5533))), (q5536, .inl (k5537, 4000, .inl f5538)), (q5551, .inl (k5552, 400, .inl f5553))] := hD
  have o_s5555 := ow_set o_s5550 12 (.ref q5551) (by decide) (l' := [(12, .ref q5551), (10, .ref q5546), (9, .ref q5541), (8, .ref q5536), (7, .ref q5531), (6, .ref q5526), (5, .ref q5521), (4, .ref q5516), (0, .ref Br0)]) (w' := [12, 10, 9, 8, 7, 6, 5, 4, 0]) rfl rfl
  generalize (s5550.set 12 (.ref q5551)) = s5555 at hP hD o_s5555
  have hP := hP.sub (ws' := [(Ad0, .inr (5, s5555)), (q5516, .inl (k5517, 400, .inl f5518)), (q5521, .inl (k5522, 400, .inl f5523)), (q5526, .inl (k5527, 400, .inl f5528)), (q5531, .inl (k5532, 4000, .inr (.inl f5533))), (q5536, .inl (k5537, 4000, .inl f5538))]) [0, 1, 2, 3, 4, 5] rfl
  have hD := hD.sub (ws' := [(Ad0, .inr (5, s5555)), (q5516, .inl (k5517, 400, .inl f5518)), (q5521, .inl (k5522, 400, .inl f5523)), (q5526, .inl (k5527, 400, .inl f5528)), (q5531, .inl (k5532, 4000, .inr (.inl f5533))), (q5536, .inl (k5537, 4000, .inl f5538))]) [0, 1, 2, 3, 4, 5] (by decide) rfl
  have hK := hK.sub (tys' := [(k5517, .int), (k5522, .int), (k5527, .int), (k5532, .long), (k5537, .boolean)]) [0, 1, 2, 3, 4] rfl
  refine lv_aload_n hx hb dX2_init_79 rfl (lv_at hl 0 rfl) ?_
  refine lv_sipush (v := 400) hx hb dX2_init_80 (by decide) ?_
  refine va_newa (atype := .int) (ty := .int) (a0 := (400, .inl (fun _ : Nat => (0 : Int32)))) (N' := 400) hx hb (hts (.arrayClass .int) (by decide +kernel)) rfl hK hP hD hS hA (na_I 400) (by decide) (by decide) (by decide) (Nat.le_of_ble_eq_true rfl) (Nat.le_of_ble_eq_true rfl) dX2_init_83 (fun q5556 k5557 H hK hP hD hS => ?_)
  have hK : va_K (dC, dI) vwCl [(k5517, .int), (k5522, .int), (k5527, .int), (k5532, .long), (k5537, .boolean), (k5557, .int)] s := hK
  have hP : va_P (dC, dI) vwCl [(Ad0, .inr (5, s5555)), (q5516, .inl (k5517, 400, .inl f5518)), (q5521, .inl (k5522, 400, .inl f5523)), (q5526, .inl (k5527, 400, .inl f5528)), (q5531, .inl (k5532, 4000, .inr (.inl f5533))), (q5536, .inl (k5537, 4000, .inl f5538)), (q5556, .inl (k5557, 400, .inl ((fun _ : Nat => (0 : Int32)))))] H := hP
  have hD : va_D A [(Ad0, .inr (5, s5555)), (q5516, .inl (k5517, 400, .inl f5518)), (q5521, .inl (k5522, 400, .inl f5523)), (q5526, .inl (k5527, 400, .inl f5528)), (q5531, .inl (k5532, 4000, .inr (.inl f5533))), (q5536, .inl (k5537, 4000, .inl f5538)), (q5556, .inl (k5557, 400, .inl ((fun _ : Nat => (0 : Int32)))))] := hD
  have z5559 : ∀ j, (fun _ : Nat => (0 : Int32)) j = 0 := fun _ => rfl
  generalize (fun _ : Nat => (0 : Int32)) = f5558 at hP hD z5559
  refine W.widen (k := 9) (n := 10108) (by omega) (by omega) ?_
  refine va_putF (D := (dC, dI)) (ci := 5) (v := .ref q5556) (ty := .array .int) (C := RX2) (T := TX2) (N := 14) hx hb hts (in_zk_X2_init_X2) tyX2 tyX2_ok nmX2 hown hK hP hD hS 0 rfl rfl 13 (by decide) (hts (.fieldLink RX2 44 "HeapWorks$Heap" "mark" "[I") (by decide +kernel)) (fun _ h9 => h9) rfl hin rfl (by decide +kernel) rfl rfl (by rw [o_s5555.2.1]; decide) dX2_init_85 (fun H locs hP hD hS => ?_)
  have hP : va_P (dC, dI) vwCl [(Ad0, .inr (5, (s5555.set 13 (.ref q5556)))), (q5516, .inl (k5517, 400, .inl f5518)), (q5521, .inl (k5522, 400, .inl f5523)), (q5526, .inl (k5527, 400, .inl f5528)), (q5531, .inl (k5532, 4000, .inr (.inl f5533))), (q5536, .inl (k5537, 4000, .inl f5538)), (q5556, .inl (k5557, 400, .inl f5558))] H := hP
  have hD : va_D A [(Ad0, .inr (5, (s5555.set 13 (.ref q5556)))), (q5516, .inl (k5517, 400, .inl f5518)), (q5521, .inl (k5522, 400, .inl f5523)), (q5526, .inl (k5527, 400, .inl f5528)), (q5531, .inl (k5532, 4000, .inr (.inl f5533))), (q5536, .inl (k5537, 4000, .inl f5538)), (q5556, .inl (k5557, 400, .inl f5558))] := hD
  have o_s5560 := ow_set o_s5555 13 (.ref q5556) (by decide) (l' := [(13, .ref q5556), (12, .ref q5551), (10, .ref q5546), (9, .ref q5541), (8, .ref q5536), (7, .ref q5531), (6, .ref q5526), (5, .ref q5521), (4, .ref q5516), (0, .ref Br0)]) (w' := [13, 12, 10, 9, 8, 7, 6, 5, 4, 0]) rfl rfl
  generalize (s5555.set 13 (.ref q5556)) = s5560 at hP hD o_s5560
  have hP9 := hP.sub (ws' := [(Ad0, .inr (5, s5560)), (q5556, .inl (k5557, 400, .inl f5558)), (q5536, .inl (k5537, 4000, .inl f5538)), (q5531, .inl (k5532, 4000, .inr (.inl f5533))), (q5526, .inl (k5527, 400, .inl f5528)), (q5521, .inl (k5522, 400, .inl f5523)), (q5516, .inl (k5517, 400, .inl f5518))]) [0, 6, 5, 4, 3, 2, 1] rfl
  have hD9 := hD.sub (ws' := [(Ad0, .inr (5, s5560)), (q5556, .inl (k5557, 400, .inl f5558)), (q5536, .inl (k5537, 4000, .inl f5538)), (q5531, .inl (k5532, 4000, .inr (.inl f5533))), (q5526, .inl (k5527, 400, .inl f5528)), (q5521, .inl (k5522, 400, .inl f5523)), (q5516, .inl (k5517, 400, .inl f5518))]) [0, 6, 5, 4, 3, 2, 1] (by decide) rfl
  have hK9 := hK.sub (tys' := [(k5557, .int), (k5537, .boolean), (k5532, .long), (k5527, .int), (k5522, .int), (k5517, .int)]) [5, 4, 3, 2, 1, 0] rfl
  refine W.widen (k := 9) (n := 10108) (by decide) (by decide) ?_
  exact W.vret hx hb hr (fun t ht hW => ⟨⟨(s5560, q5556, f5558, k5557, q5536, f5538, k5537, q5531, f5533, k5532, q5526, f5528, k5527, q5521, f5523, k5522, q5516, f5518, k5517), rfl, ⟨(ow_sub o_s5560 [0, 4, 5, 6, 7, 8, 9] rfl), z5559, z5539, z5534, z5529, z5524, z5519⟩, by rw [ht]; exact hP9, va_K.moved hW.alike hK9, hD9⟩, hS.F ht⟩) hS.2.2 dX2_init_88

def l_zk_X3_init : List Cond := [.methodLink RX3 3 objectInit, .instanceMethod objectInit, .code objectInit ⟨#[0xb1]⟩ 1 none, .fieldLink RX3 9 "HeapWorks$Journal" "types" "LHeapWorks$Types;", .arrayClass .int, .fieldLink RX3 15 "HeapWorks$Journal" "undoWrite" "[I", .fieldLink RX3 19 "HeapWorks$Journal" "undoPlace" "[I", .arrayClass .long, .fieldLink RX3 22 "HeapWorks$Journal" "undoValue" "[J", .fieldLink RX3 26 "HeapWorks$Journal" "watchType" "[I", .fieldLink RX3 29 "HeapWorks$Journal" "watchField" "[I", .fieldLink RX3 32 "HeapWorks$Journal" "watchCondition" "[I", .fieldLink RX3 35 "HeapWorks$Journal" "rowCount" "[I", .fieldLink RX3 38 "HeapWorks$Journal" "rowParts" "[J"]
def w_zk_X3_init : List Cond := .code yX3_init cX3_init 2 none :: (l_zk_X3_init ++ (wsX30))
theorem in_zk_X3_init_X3 : ∀ w ∈ wsX30, w ∈ w_zk_X3_init := fun w h => List.mem_cons_of_mem _ (List.mem_append_right _ (h))
set_option maxHeartbeats 4000000 in
set_option maxRecDepth 100000 in
theorem zk_X3_init (l : Launch) (dC : Nat → ClassId) (dI : Nat → Nat → Nat) (sz : Nat) (Ad0 : Nat) (Fs0 : List Value) (Br0 : Nat) (k_Fs0 : fh Fs0 13 [])  : Met l yX3_init w_zk_X3_init ({ frames := 1, cells := 8, slots := 468, locals := 24 }) (va_Pc [.ref Ad0, .ref Br0] (fun U => U.heap.size = sz ∧ Wd dC dI [] (fun _ => True) [(Ad0, .inr (6, Fs0))] U)) (va_Qv (fun (u : List Value) => ow Fs0 (u) 13 [12, 11, 10, 9, 8, 4, 3, 2, 0] [(0, .ref Br0)]) (fun (u : List Value) t => Wd dC dI [] (va_A [(Ad0, .inr (6, Fs0))] sz) [(Ad0, .inr (6, (u)))] t) (va_A [(Ad0, .inr (6, Fs0))] sz))  8 468 (va_A [(Ad0, .inr (6, Fs0))] sz) := by
  refine Met.ofW (cc := cX3_init) (maxL := 2) (ret := none) (by decide) rfl ?_
  intro p e s m args below meth c s₁ B hml hv
  obtain ⟨rfl, hsz, hP, hK, hD0⟩ := hv
  have hx := B.exec
  have hb := B.bytes
  have hr := B.returns
  have hts := atoms_spec (ws := w_zk_X3_init) B.pre
  have hown : s.vm.findClass RX3 = some m.cls := findClass_of_methodNamed B.named
  have hlocks := B.notSynchronized
  have hin : meth.name = "<init>" := (name_of_methodNamed B.named B.method).1
  subst hsz
  have hD := hD0.self (sz := s.heap.size)
  generalize hAe : va_A [(Ad0, .inr (6, Fs0))] s.heap.size = A at hD ⊢
  have hA : ∀ q : Nat, s.heap.size ≤ q → A q := fun q h => by rw [← hAe]; exact Or.inr h
  have hS : va_S A s.heap s.heap [] := va_S.rf
  have hl := lv_entry ([.ref Ad0, .ref Br0]) (n := 2) (Nat.le_of_ble_eq_true rfl)
  rw [lg_entry_eq]
  generalize (lg_sl ([.ref Ad0, .ref Br0]) ++ List.replicate (2 - (lg_sl ([.ref Ad0, .ref Br0])).length) Slot.unset).toArray = ls at hl ⊢
  have hl : lv_has ls 2 [(0, .ref Ad0), (1, .ref Br0)] := hl
  have o_Fs0 := ow_0 k_Fs0
  refine lv_aload_n hx hb dX3_init_0 rfl (lv_at hl 0 rfl) ?_
  refine W.objInit hx hb hown (hts (.methodLink RX3 3 objectInit) (by decide +kernel)) (hts (.instanceMethod objectInit) (by decide +kernel)) (hts (.code objectInit ⟨#[0xb1]⟩ 1 none) (by decide +kernel)) rfl (by rw [hml]; exact hl.1) rfl dX3_init_1 (Nat.le_of_ble_eq_true rfl) (Nat.le_of_ble_eq_true rfl) ?_
  refine W.eq (g2 := F0 m 4 ls []) rfl ?_
  refine lv_aload_n hx hb dX3_init_4 rfl (lv_at hl 0 rfl) ?_
  refine lv_aload_n hx hb dX3_init_5 rfl (lv_at hl 1 rfl) ?_
  refine va_putF (D := (dC, dI)) (ci := 6) (v := .ref Br0) (ty := .object "HeapWorks$Types") (C := RX3) (T := TX3) (N := 13) hx hb hts (in_zk_X3_init_X3) tyX3 tyX3_ok nmX3 hown hK hP hD hS 0 rfl rfl 0 (by decide) (hts (.fieldLink RX3 9 "HeapWorks$Journal" "types" "LHeapWorks$Types;") (by decide +kernel)) (fun _ h9 => h9) rfl hin rfl (by decide +kernel) rfl rfl (by rw [o_Fs0.2.1]; decide) dX3_init_6 (fun H locs hP hD hS => ?_)
  have hP : va_P (dC, dI) vwCl [(Ad0, .inr (6, (Fs0.set 0 (.ref Br0))))] H := hP
  have hD : va_D A [(Ad0, .inr (6, (Fs0.set 0 (.ref Br0))))] := hD
  have o_s5630 := ow_set o_Fs0 0 (.ref Br0) (by decide) (l' := [(0, .ref Br0)]) (w' := [0]) rfl rfl
  generalize (Fs0.set 0 (.ref Br0)) = s5630 at hP hD o_s5630
  refine lv_aload_n hx hb dX3_init_9 rfl (lv_at hl 0 rfl) ?_
  refine lv_bipush (v := 100) hx hb dX3_init_10 (by decide) ?_
  refine va_newa (atype := .int) (ty := .int) (a0 := (100, .inl (fun _ : Nat => (0 : Int32)))) (N' := 100) hx hb (hts (.arrayClass .int) (by decide +kernel)) rfl hK hP hD hS hA (na_I 100) (by decide) (by decide) (by decide) (Nat.le_of_ble_eq_true rfl) (Nat.le_of_ble_eq_true rfl) dX3_init_12 (fun q5631 k5632 H hK hP hD hS => ?_)
  have hK : va_K (dC, dI) vwCl [(k5632, .int)] s := hK
  have hP : va_P (dC, dI) vwCl [(Ad0, .inr (6, s5630)), (q5631, .inl (k5632, 100, .inl ((fun _ : Nat => (0 : Int32)))))] H := hP
  have hD : va_D A [(Ad0, .inr (6, s5630)), (q5631, .inl (k5632, 100, .inl ((fun _ : Nat => (0 : Int32)))))] := hD
  have z5634 : ∀ j, (fun _ : Nat => (0 : Int32)) j = 0 := fun _ => rfl
  generalize (fun _ : Nat => (0 : Int32)) = f5633 at hP hD z5634
  refine W.widen (k := 1) (n := 100) (by omega) (by omega) ?_
  refine va_putF (D := (dC, dI)) (ci := 6) (v := .ref q5631) (ty := .array .int) (C := RX3) (T := TX3) (N := 13) hx hb hts (in_zk_X3_init_X3) tyX3 tyX3_ok nmX3 hown hK hP hD hS 0 rfl rfl 2 (by decide) (hts (.fieldLink RX3 15 "HeapWorks$Journal" "undoWrite" "[I") (by decide +kernel)) (fun _ h9 => h9) rfl hin rfl (by decide +kernel) rfl rfl (by rw [o_s5630.2.1]; decide) dX3_init_14 (fun H locs hP hD hS => ?_)
  have hP : va_P (dC, dI) vwCl [(Ad0, .inr (6, (s5630.set 2 (.ref q5631)))), (q5631, .inl (k5632, 100, .inl f5633))] H := hP
  have hD : va_D A [(Ad0, .inr (6, (s5630.set 2 (.ref q5631)))), (q5631, .inl (k5632, 100, .inl f5633))] := hD
  have o_s5635 := ow_set o_s5630 2 (.ref q5631) (by decide) (l' := [(2, .ref q5631), (0, .ref Br0)]) (w' := [2, 0]) rfl rfl
  generalize (s5630.set 2 (.ref q5631)) = s5635 at hP hD o_s5635
  have hP := hP.sub (ws' := [(Ad0, .inr (6, s5635))]) [0] rfl
  have hD := hD.sub (ws' := [(Ad0, .inr (6, s5635))]) [0] (by decide) rfl
  have hK := hK.sub (tys' := []) [] rfl
  refine lv_aload_n hx hb dX3_init_17 rfl (lv_at hl 0 rfl) ?_
  refine lv_bipush (v := 100) hx hb dX3_init_18 (by decide) ?_
  refine va_newa (atype := .int) (ty := .int) (a0 := (100, .inl (fun _ : Nat => (0 : Int32)))) (N' := 100) hx hb (hts (.arrayClass .int) (by decide +kernel)) rfl hK hP hD hS hA (na_I 100) (by decide) (by decide) (by decide) (Nat.le_of_ble_eq_true rfl) (Nat.le_of_ble_eq_true rfl) dX3_init_20 (fun q5636 k5637 H hK hP hD hS => ?_)
  have hK : va_K (dC, dI) vwCl [(k5637, .int)] s := hK
  have hP : va_P (dC, dI) vwCl [(Ad0, .inr (6, s5635)), (q5636, .inl (k5637, 100, .inl ((fun _ : Nat => (0 : Int32)))))] H := hP
  have hD : va_D A [(Ad0, .inr (6, s5635)), (q5636, .inl (k5637, 100, .inl ((fun _ : Nat => (0 : Int32)))))] := hD
  have z5639 : ∀ j, (fun _ : Nat => (0 : Int32)) j = 0 := fun _ => rfl
  generalize (fun _ : Nat => (0 : Int32)) = f5638 at hP hD z5639
  refine W.widen (k := 2) (n := 200) (by omega) (by omega) ?_
  refine va_putF (D := (dC, dI)) (ci := 6) (v := .ref q5636) (ty := .array .int) (C := RX3) (T := TX3) (N := 13) hx hb hts (in_zk_X3_init_X3) tyX3 tyX3_ok nmX3 hown hK hP hD hS 0 rfl rfl 3 (by decide) (hts (.fieldLink RX3 19 "HeapWorks$Journal" "undoPlace" "[I") (by decide +kernel)) (fun _ h9 => h9) rfl hin rfl (by decide +kernel) rfl rfl (by rw [o_s5635.2.1]; decide) dX3_init_22 (fun H locs hP hD hS => ?_)
  have hP : va_P (dC, dI) vwCl [(Ad0, .inr (6, (s5635.set 3 (.ref q5636)))), (q5636, .inl (k5637, 100, .inl f5638))] H := hP
  have hD : va_D A [(Ad0, .inr (6, (s5635.set 3 (.ref q5636)))), (q5636, .inl (k5637, 100, .inl f5638))] := hD
  have o_s5640 := ow_set o_s5635 3 (.ref q5636) (by decide) (l' := [(3, .ref q5636), (2, .ref q5631), (0, .ref Br0)]) (w' := [3, 2, 0]) rfl rfl
  generalize (s5635.set 3 (.ref q5636)) = s5640 at hP hD o_s5640
  have hP := hP.sub (ws' := [(Ad0, .inr (6, s5640))]) [0] rfl
  have hD := hD.sub (ws' := [(Ad0, .inr (6, s5640))]) [0] (by decide) rfl
  have hK := hK.sub (tys' := []) [] rfl
  refine lv_aload_n hx hb dX3_init_25 rfl (lv_at hl 0 rfl) ?_
  refine lv_bipush (v := 100) hx hb dX3_init_26 (by decide) ?_
  refine va_newa (atype := .long) (ty := .long) (a0 := (100, .inr (.inl (fun _ : Nat => (0 : Int64))))) (N' := 100) hx hb (hts (.arrayClass .long) (by decide +kernel)) rfl hK hP hD hS hA (na_J 100) (by decide) (by decide) (by decide) (Nat.le_of_ble_eq_true rfl) (Nat.le_of_ble_eq_true rfl) dX3_init_28 (fun q5641 k5642 H hK hP hD hS => ?_)
  have hK : va_K (dC, dI) vwCl [(k5642, .long)] s := hK
  have hP : va_P (dC, dI) vwCl [(Ad0, .inr (6, s5640)), (q5641, .inl (k5642, 100, .inr (.inl ((fun _ : Nat => (0 : Int64))))))] H := hP
  have hD : va_D A [(Ad0, .inr (6, s5640)), (q5641, .inl (k5642, 100, .inr (.inl ((fun _ : Nat => (0 : Int64))))))] := hD
  have z5644 : ∀ j, (fun _ : Nat => (0 : Int64)) j = 0 := fun _ => rfl
  generalize (fun _ : Nat => (0 : Int64)) = f5643 at hP hD z5644
  refine W.widen (k := 3) (n := 300) (by omega) (by omega) ?_
  refine va_putF (D := (dC, dI)) (ci := 6) (v := .ref q5641) (ty := .array .long) (C := RX3) (T := TX3) (N := 13) hx hb hts (in_zk_X3_init_X3) tyX3 tyX3_ok nmX3 hown hK hP hD hS 0 rfl rfl 4 (by decide) (hts (.fieldLink RX3 22 "HeapWorks$Journal" "undoValue" "[J") (by decide +kernel)) (fun _ h9 => h9) rfl hin rfl (by decide +kernel) rfl rfl (by rw [o_s5640.2.1]; decide) dX3_init_30 (fun H locs hP hD hS => ?_)
  have hP : va_P (dC, dI) vwCl [(Ad0, .inr (6, (s5640.set 4 (.ref q5641)))), (q5641, .inl (k5642, 100, .inr (.inl f5643)))] H := hP
  have hD : va_D A [(Ad0, .inr (6, (s5640.set 4 (.ref q5641)))), (q5641, .inl (k5642, 100, .inr (.inl f5643)))] := hD
  have o_s5645 := ow_set o_s5640 4 (.ref q5641) (by decide) (l' := [(4, .ref q5641), (3, .ref q5636), (2, .ref q5631), (0, .ref Br0)]) (w' := [4, 3, 2, 0]) rfl rfl
  generalize (s5640.set 4 (.ref q5641)) = s5645 at hP hD o_s5645
  have hP := hP.sub (ws' := [(Ad0, .inr (6, s5645))]) [0] rfl
  have hD := hD.sub (ws' := [(Ad0, .inr (6, s5645))]) [0] (by decide) rfl
  have hK := hK.sub (tys' := []) [] rfl
  refine lv_aload_n hx hb dX3_init_33 rfl (lv_at hl 0 rfl) ?_
  refine lv_bipush (v := 6) hx hb dX3_init_34 (by decide) ?_
  refine va_newa (atype := .int) (ty := .int) (a0 := (6, .inl (fun _ : Nat => (0 : Int32)))) (N' := 6) hx hb (hts (.arrayClass .int) (by decide +kernel)) rfl hK hP hD hS hA (na_I 6) (by decide) (by decide) (by decide) (Nat.le_of_ble_eq_true rfl) (Nat.le_of_ble_eq_true rfl) dX3_init_36 (fun q5646 k5647 H hK hP hD hS => ?_)
  have hK : va_K (dC, dI) vwCl [(k5647, .int)] s := hK
  have hP : va_P (dC, dI) vwCl [(Ad0, .inr (6, s5645)), (q5646, .inl (k5647, 6, .inl ((fun _ : Nat => (0 : Int32)))))] H := hP
  have hD : va_D A [(Ad0, .inr (6, s5645)), (q5646, .inl (k5647, 6, .inl ((fun _ : Nat => (0 : Int32)))))] := hD
  have z5649 : ∀ j, (fun _ : Nat => (0 : Int32)) j = 0 := fun _ => rfl
  generalize (fun _ : Nat => (0 : Int32)) = f5648 at hP hD z5649
  refine W.widen (k := 4) (n := 306) (by omega) (by omega) ?_
  refine va_putF (D := (dC, dI)) (ci := 6) (v := .ref q5646) (ty := .array .int) (C := RX3) (T := TX3) (N := 13) hx hb hts (in_zk_X3_init_X3) tyX3 tyX3_ok nmX3 hown hK hP hD hS 0 rfl rfl 8 (by decide) (hts (.fieldLink RX3 26 "HeapWorks$Journal" "watchType" "[I") (by decide +kernel)) (fun _ h9 => h9) rfl hin rfl (by decide +kernel) rfl rfl (by rw [o_s5645.2.1]; decide) dX3_init_38 (fun H locs hP hD hS => ?_)
  have hP : va_P (dC, dI) vwCl [(Ad0, .inr (6, (s5645.set 8 (.ref q5646)))), (q5646, .inl (k5647, 6, .inl f5648))] H := hP
  have hD : va_D A [(Ad0, .inr (6, (s5645.set 8 (.ref q5646)))), (q5646, .inl (k5647, 6, .inl f5648))] := hD
  have o_s5650 := ow_set o_s5645 8 (.ref q5646) (by decide) (l' := [(8, .ref q5646), (4, .ref q5641), (3, .ref q5636), (2, .ref q5631), (0, .ref Br0)]) (w' := [8, 4, 3, 2, 0]) rfl rfl
  generalize (s5645.set 8 (.ref q5646)) = s5650 at hP hD o_s5650
  have hP := hP.sub (ws' := [(Ad0, .inr (6, s5650))]) [0] rfl
  have hD := hD.sub (ws' := [(Ad0, .inr (6, s5650))]) [0] (by decide) rfl
  have hK := hK.sub (tys' := []) [] rfl
  refine lv_aload_n hx hb dX3_init_41 rfl (lv_at hl 0 rfl) ?_
  refine lv_bipush (v := 6) hx hb dX3_init_42 (by decide) ?_
  refine va_newa (atype := .int) (ty := .int) (a0 := (6, .inl (fun _ : Nat => (0 : Int32)))) (N' := 6) hx hb (hts (.arrayClass .int) (by decide +kernel)) rfl hK hP hD hS hA (na_I 6) (by decide) (by decide) (by decide) (Nat.le_of_ble_eq_true rfl) (Nat.le_of_ble_eq_true rfl) dX3_init_44 (fun q5651 k5652 H hK hP hD hS => ?_)
  have hK : va_K (dC, dI) vwCl [(k5652, .int)] s := hK
  have hP : va_P (dC, dI) vwCl [(Ad0, .inr (6, s5650)), (q5651, .inl (k5652, 6, .inl ((fun _ : Nat => (0 : Int32)))))] H := hP
  have hD : va_D A [(Ad0, .inr (6, s5650)), (q5651, .inl (k5652, 6, .inl ((fun _ : Nat => (0 : Int32)))))] := hD
  have z5654 : ∀ j, (fun _ : Nat => (0 : Int32)) j = 0 := fun _ => rfl
  generalize (fun _ : Nat => (0 : Int32)) = f5653 at hP hD z5654
  refine W.widen (k := 5) (n := 312) (by omega) (by omega) ?_
  refine va_putF (D := (dC, dI)) (ci := 6) (v := .ref q5651) (ty := .array .int) (C := RX3) (T := TX3) (N := 13) hx hb hts (in_zk_X3_init_X3) tyX3 tyX3_ok nmX3 hown hK hP hD hS 0 rfl rfl 9 (by decide) (hts (.fieldLink RX3 29 "HeapWorks$Journal" "watchField" "[I") (by decide +kernel)) (fun _ h9 => h9) rfl hin rfl (by decide +kernel) rfl rfl (by rw [o_s5650.2.1]; decide) dX3_init_46 (fun H locs hP hD hS => ?_)
  have hP : va_P (dC, dI) vwCl [(Ad0, .inr (6, (s5650.set 9 (.ref q5651)))), (q5651, .inl (k5652, 6, .inl f5653))] H := hP
  have hD : va_D A [(Ad0, .inr (6, (s5650.set 9 (.ref q5651)))), (q5651, .inl (k5652, 6, .inl f5653))] := hD
  have o_s5655 := ow_set o_s5650 9 (.ref q5651) (by decide) (l' := [(9, .ref q5651), (8, .ref q5646), (4, .ref q5641), (3, .ref q5636), (2, .ref q5631), (0, .ref Br0)]) (w' := [9, 8, 4, 3, 2, 0]) rfl rfl
  generalize (s5650.set 9 (.ref q5651)) = s5655 at hP hD o_s5655
  have hP := hP.sub (ws' := [(Ad0, .inr (6, s5655))]) [0] rfl
  have hD := hD.sub (ws' := [(Ad0, .inr (6, s5655))]) [0] (by decide) rfl
  have hK := hK.sub (tys' := []) [] rfl
  refine lv_aload_n hx hb dX3_init_49 rfl (lv_at hl 0 rfl) ?_
  refine lv_bipush (v := 6) hx hb dX3_init_50 (by decide) ?_
  refine va_newa (atype := .int) (ty := .int) (a0 := (6, .inl (fun _ : Nat => (0 : Int32)))) (N' := 6) hx hb (hts (.arrayClass .int) (by decide +kernel)) rfl hK hP hD hS hA (na_I 6) (by decide) (by decide) (by decide) (Nat.le_of_ble_eq_true rfl) (Nat.le_of_ble_eq_true rfl) dX3_init_52 (fun q5656 k5657 H hK hP hD hS => ?_)
  have hK : va_K (dC, dI) vwCl [(k5657, .int)] s := hK
  have hP : va_P (dC, dI) vwCl [(Ad0, .inr (6, s5655)), (q5656, .inl (k5657, 6, .inl ((fun _ : Nat => (0 : Int32)))))] H := hP
  have hD : va_D A [(Ad0, .inr (6, s5655)), (q5656, .inl (k5657, 6, .inl ((fun _ : Nat => (0 : Int32)))))] := hD
  have z5659 : ∀ j, (fun _ : Nat => (0 : Int32)) j = 0 := fun _ => rfl
  generalize (fun _ : Nat => (0 : Int32)) = f5658 at hP hD z5659
  refine W.widen (k := 6) (n := 318) (by omega) (by omega) ?_
  refine va_putF (D := (dC, dI)) (ci := 6) (v := .ref q5656) (ty := .array .int) (C := RX3) (T := TX3) (N := 13) hx hb hts (in_zk_X3_init_X3) tyX3 tyX3_ok nmX3 hown hK hP hD hS 0 rfl rfl 10 (by decide) (hts (.fieldLink RX3 32 "HeapWorks$Journal" "watchCondition" "[I") (by decide +kernel)) (fun _ h9 => h9) rfl hin rfl (by decide +kernel) rfl rfl (by rw [o_s5655.2.1]; decide) dX3_init_54 (fun H locs hP hD hS => ?_)
  have hP : va_P (dC, dI) vwCl [(Ad0, .inr (6, (s5655.set 10 (.ref q5656)))), (q5656, .inl (k5657, 6, .inl f5658))] H := hP
  have hD : va_D A [(Ad0, .inr (6, (s5655.set 10 (.ref q5656)))), (q5656, .inl (k5657, 6, .inl f5658))] := hD
  have o_s5660 := ow_set o_s5655 10 (.ref q5656) (by decide) (l' := [(10, .ref q5656), (9, .ref q5651), (8, .ref q5646), (4, .ref q5641), (3, .ref q5636), (2, .ref q5631), (0, .ref Br0)]) (w' := [10, 9, 8, 4, 3, 2, 0]) rfl rfl
  generalize (s5655.set 10 (.ref q5656)) = s5660 at hP hD o_s5660
  have hP := hP.sub (ws' := [(Ad0, .inr (6, s5660))]) [0] rfl
  have hD := hD.sub (ws' := [(Ad0, .inr (6, s5660))]) [0] (by decide) rfl
  have hK := hK.sub (tys' := []) [] rfl
  refine lv_aload_n hx hb dX3_init_57 rfl (lv_at hl 0 rfl) ?_
  refine lv_bipush (v := 6) hx hb dX3_init_58 (by decide) ?_
  refine va_newa (atype := .int) (ty := .int) (a0 := (6, .inl (fun _ : Nat => (0 : Int32)))) (N' := 6) hx hb (hts (.arrayClass .int) (by decide +kernel)) rfl hK hP hD hS hA (na_I 6) (by decide) (by decide) (by decide) (Nat.le_of_ble_eq_true rfl) (Nat.le_of_ble_eq_true rfl) dX3_init_60 (fun q5661 k5662 H hK hP hD hS => ?_)
  have hK : va_K (dC, dI) vwCl [(k5662, .int)] s := hK
  have hP : va_P (dC, dI) vwCl [(Ad0, .inr (6, s5660)), (q5661, .inl (k5662, 6, .inl ((fun _ : Nat => (0 : Int32)))))] H := hP
  have hD : va_D A [(Ad0, .inr (6, s5660)), (q5661, .inl (k5662, 6, .inl ((fun _ : Nat => (0 : Int32)))))] := hD
  have z5664 : ∀ j, (fun _ : Nat => (0 : Int32)) j = 0 := fun _ => rfl
  generalize (fun _ : Nat => (0 : Int32)) = f5663 at hP hD z5664
  refine W.widen (k := 7) (n := 324) (by omega) (by omega) ?_
  refine va_putF (D := (dC, dI)) (ci := 6) (v := .ref q5661) (ty := .array .int) (C := RX3) (T := TX3) (N := 13) hx hb hts (in_zk_X3_init_X3) tyX3 tyX3_ok nmX3 hown hK hP hD hS 0 rfl rfl 11 (by decide) (hts (.fieldLink RX3 35 "HeapWorks$Journal" "rowCount" "[I") (by decide +kernel)) (fun _ h9 => h9) rfl hin rfl (by decide +kernel) rfl rfl (by rw [o_s5660.2.1]; decide) dX3_init_62 (fun H locs hP hD hS => ?_)
  have hP : va_P (dC, dI) vwCl [(Ad0, .inr (6, (s5660.set 11 (.ref q5661)))), (q5661, .inl (k5662, 6, .inl f5663))] H := hP
  have hD : va_D A [(Ad0, .inr (6, (s5660.set 11 (.ref q5661)))), (q5661, .inl (k5662, 6, .inl f5663))] := hD
  have o_s5665 := ow_set o_s5660 11 (.ref q5661) (by decide) (l' := [(11, .ref q5661), (10, .ref q5656), (9, .ref q5651), (8, .ref q5646), (4, .ref q5641), (3, .ref q5636), (2, .ref q5631), (0, .ref Br0)]) (w' := [11, 10, 9, 8, 4, 3, 2, 0]) rfl rfl
  generalize (s5660.set 11 (.ref q5661)) = s5665 at hP hD o_s5665
  have hP := hP.sub (ws' := [(Ad0, .inr (6, s5665))]) [0] rfl
  have hD := hD.sub (ws' := [(Ad0, .inr (6, s5665))]) [0] (by decide) rfl
  have hK := hK.sub (tys' := []) [] rfl
  refine lv_aload_n hx hb dX3_init_65 rfl (lv_at hl 0 rfl) ?_
  refine lv_sipush (v := 144) hx hb dX3_init_66 (by decide) ?_
  refine va_newa (atype := .long) (ty := .long) (a0 := (144, .inr (.inl (fun _ : Nat => (0 : Int64))))) (N' := 144) hx hb (hts (.arrayClass .long) (by decide +kernel)) rfl hK hP hD hS hA (na_J 144) (by decide) (by decide) (by decide) (Nat.le_of_ble_eq_true rfl) (Nat.le_of_ble_eq_true rfl) dX3_init_69 (fun q5666 k5667 H hK hP hD hS => ?_)
  have hK : va_K (dC, dI) vwCl [(k5667, .long)] s := hK
  have hP : va_P (dC, dI) vwCl [(Ad0, .inr (6, s5665)), (q5666, .inl (k5667, 144, .inr (.inl ((fun _ : Nat => (0 : Int64))))))] H := hP
  have hD : va_D A [(Ad0, .inr (6, s5665)), (q5666, .inl (k5667, 144, .inr (.inl ((fun _ : Nat => (0 : Int64))))))] := hD
  have z5669 : ∀ j, (fun _ : Nat => (0 : Int64)) j = 0 := fun _ => rfl
  generalize (fun _ : Nat => (0 : Int64)) = f5668 at hP hD z5669
  refine W.widen (k := 8) (n := 468) (by omega) (by omega) ?_
  refine va_putF (D := (dC, dI)) (ci := 6) (v := .ref q5666) (ty := .array .long) (C := RX3) (T := TX3) (N := 13) hx hb hts (in_zk_X3_init_X3) tyX3 tyX3_ok nmX3 hown hK hP hD hS 0 rfl rfl 12 (by decide) (hts (.fieldLink RX3 38 "HeapWorks$Journal" "rowParts" "[J") (by decide +kernel)) (fun _ h9 => h9) rfl hin rfl (by decide +kernel) rfl rfl (by rw [o_s5665.2.1]; decide) dX3_init_71 (fun H locs hP hD hS => ?_)
  have hP : va_P (dC, dI) vwCl [(Ad0, .inr (6, (s5665.set 12 (.ref q5666)))), (q5666, .inl (k5667, 144, .inr (.inl f5668)))] H := hP
  have hD : va_D A [(Ad0, .inr (6, (s5665.set 12 (.ref q5666)))), (q5666, .inl (k5667, 144, .inr (.inl f5668)))] := hD
  have o_s5670 := ow_set o_s5665 12 (.ref q5666) (by decide) (l' := [(12, .ref q5666), (11, .ref q5661), (10, .ref q5656), (9, .ref q5651), (8, .ref q5646), (4, .ref q5641), (3, .ref q5636), (2, .ref q5631), (0, .ref Br0)]) (w' := [12, 11, 10, 9, 8, 4, 3, 2, 0]) rfl rfl
  generalize (s5665.set 12 (.ref q5666)) = s5670 at hP hD o_s5670
  have hP := hP.sub (ws' := [(Ad0, .inr (6, s5670))]) [0] rfl
  have hD := hD.sub (ws' := [(Ad0, .inr (6, s5670))]) [0] (by decide) rfl
  have hK := hK.sub (tys' := []) [] rfl
  have hP9 := hP.sub (ws' := [(Ad0, .inr (6, s5670))]) [0] rfl
  have hD9 := hD.sub (ws' := [(Ad0, .inr (6, s5670))]) [0] (by decide) rfl
  have hK9 := hK.sub (tys' := []) [] rfl
  refine W.widen (k := 8) (n := 468) (by decide) (by decide) ?_
  exact W.vret hx hb hr (fun t ht hW => ⟨⟨s5670, rfl, (ow_sub o_s5670 [8] rfl), by rw [ht]; exact hP9, va_K.moved hW.alike hK9, hD9⟩, hS.F ht⟩) hS.2.2 dX3_init_74
