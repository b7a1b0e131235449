theorem kc_27 : (27 : Int32).toInt = 27 := by decide
theorem kc_37 : (37 : Int32).toInt = 37 := by decide
theorem kc_48 : (48 : Int32).toInt = 48 := by decide
theorem kc_53 : (53 : Int32).toInt = 53 := by decide
theorem kc_57 : (57 : Int32).toInt = 57 := by decide
theorem kc_65 : (65 : Int32).toInt = 65 := by decide
theorem kc_90 : (90 : Int32).toInt = 90 := by decide
theorem kc_97 : (97 : Int32).toInt = 97 := by decide
theorem kc_122 : (122 : Int32).toInt = 122 := by decide
theorem kc_143 : (143 : Int32).toInt = 143 := by decide
def l_k_X10 : List Cond := [.methodLink RX10 5 objectInit, .instanceMethod objectInit, .code objectInit ⟨#[0xb1]⟩ 1 none, .arrayClass .long, .fieldLink RX10 11 "HeapWorks$Types" "name" "[J", .arrayClass .int, .fieldLink RX10 15 "HeapWorks$Types" "loader" "[I", .fieldLink RX10 19 "HeapWorks$Types" "parent" "[I", .arrayClass .boolean, .fieldLink RX10 22 "HeapWorks$Types" "used" "[Z", .fieldLink RX10 26 "HeapWorks$Types" "apart" "[Z", .fieldLink RX10 29 "HeapWorks$Types" "fieldCount" "[I", .fieldLink RX10 32 "HeapWorks$Types" "staticCount" "[I", .fieldLink RX10 35 "HeapWorks$Types" "slotCount" "[I", .fieldLink RX10 38 "HeapWorks$Types" "fieldsEnd" "[I", .fieldLink RX10 41 "HeapWorks$Types" "fieldName" "[J", .fieldLink RX10 44 "HeapWorks$Types" "fieldKind" "[I", .fieldLink RX10 47 "HeapWorks$Types" "fieldLink" "[I", .fieldLink RX10 50 "HeapWorks$Types" "fieldStatic" "[Z", .fieldLink RX10 53 "HeapWorks$Types" "fieldPlace" "[I", .fieldLink RX10 56 "HeapWorks$Types" "slotName" "[J", .fieldLink RX10 59 "HeapWorks$Types" "slotKind" "[I", .fieldLink RX10 62 "HeapWorks$Types" "slotLink" "[I"]
def w_k_X10 : List Cond := .code yX10_init cX10_init 1 none :: (l_k_X10 ++ (wsX100))
theorem in_k_X10_X10 : ∀ w ∈ wsX100, w ∈ w_k_X10 := fun w h => List.mem_cons_of_mem _ (List.mem_append_right _ (h))
set_option maxHeartbeats 4000000 in
set_option maxRecDepth 100000 in
theorem k_X10 (l : Launch) (dC : Nat → ClassId) (dI : Nat → Nat → Nat) (sz : Nat) (a0 : Nat) (fs0 : List Value) (k_fs0 : fh fs0 18 [(0, .int 0), (1, .null), (2, .null), (3, .null), (4, .null), (5, .null), (6, .null), (7, .null), (8, .null), (9, .null), (10, .null), (11, .null), (12, .null), (13, .null), (14, .null), (15, .null), (16, .null), (17, .null)])  : Met l yX10_init w_k_X10 ({ frames := 1, cells := 17, slots := 5232, locals := 24 }) (va_Pc [.ref a0] (fun U => U.heap.size = sz ∧ Wd dC dI [] (fun _ => True) [(a0, .inr (13, fs0))] U)) (va_Qv (fun (u : List Value) => ow fs0 (u) 18 [17, 16, 15, 14, 13, 12, 11, 10, 9, 8, 7, 6, 5, 4, 3, 2, 1] [(0, .int 0)]) (fun (u : List Value) t => Wd dC dI [] (va_A [(a0, .inr (13, fs0))] sz) [(a0, .inr (13, (u)))] t) (va_A [(a0, .inr (13, fs0))] sz))  17 5232 (va_A [(a0, .inr (13, fs0))] sz) := by
  refine Met.ofW (cc := cX10_init) (maxL := 1) (ret := none) (by decide) rfl ?_
  intro p e s m args below meth c s₁ B hml hv
  obtain ⟨rfl, hsz, hP, hK, hD0⟩ := hv
  have hx := B.exec
  have hb := B.bytes
  have hr := B.returns
  have hts := atoms_spec (ws := w_k_X10) B.pre
  have hown : s.vm.findClass RX10 = some m.cls := findClass_of_methodNamed B.named
  have hlocks := B.notSynchronized
  have hin : meth.name = "<init>" := (name_of_methodNamed B.named B.method).1
  subst hsz
  have hD := hD0.self (sz := s.heap.size)
  generalize hAe : va_A [(a0, .inr (13, fs0))] s.heap.size = A at hD ⊢
  have hA : ∀ q : Nat, s.heap.size ≤ q → A q := fun q h => by rw [← hAe]; exact Or.inr h
  have hS : va_S A s.heap s.heap [] := va_S.rf
  have hl := lv_entry ([.ref a0]) (n := 1) (Nat.le_of_ble_eq_true rfl)
  rw [lg_entry_eq]
  generalize (lg_sl ([.ref a0]) ++ List.replicate (1 - (lg_sl ([.ref a0])).length) Slot.unset).toArray = ls at hl ⊢
  have hl : lv_has ls 1 [(0, .ref a0)] := hl
  have o_fs0 := ow_0 k_fs0
  refine lv_aload_n hx hb dX10_init_0 rfl (lv_at hl 0 rfl) ?_
  refine W.objInit hx hb hown (hts (.methodLink RX10 5 objectInit) (by decide +kernel)) (hts (.instanceMethod objectInit) (by decide +kernel)) (hts (.code objectInit ⟨#[0xb1]⟩ 1 none) (by decide +kernel)) rfl (by rw [hml]; exact hl.1) rfl dX10_init_1 (Nat.le_of_ble_eq_true rfl) (Nat.le_of_ble_eq_true rfl) ?_
  refine W.eq (g2 := F0 m 4 ls []) rfl ?_
  refine lv_aload_n hx hb dX10_init_4 rfl (lv_at hl 0 rfl) ?_
  refine lv_bipush (v := 16) hx hb dX10_init_5 (by decide) ?_
  refine va_newa (atype := .long) (ty := .long) (a0 := (16, .inr (.inl (fun _ : Nat => (0 : Int64))))) (N' := 16) hx hb (hts (.arrayClass .long) (by decide +kernel)) rfl hK hP hD hS hA (na_J 16) (by decide) (by decide) (by decide) (Nat.le_of_ble_eq_true rfl) (Nat.le_of_ble_eq_true rfl) dX10_init_7 (fun q1 k2 H hK hP hD hS => ?_)
  have hK : va_K (dC, dI) vwCl [(k2, .long)] s := hK
  have hP : va_P (dC, dI) vwCl [(a0, .inr (13, fs0)), (q1, .inl (k2, 16, .inr (.inl ((fun _ : Nat => (0 : Int64))))))] H := hP
  have hD : va_D A [(a0, .inr (13, fs0)), (q1, .inl (k2, 16, .inr (.inl ((fun _ : Nat => (0 : Int64))))))] := hD
  have z4 : ∀ j, (fun _ : Nat => (0 : Int64)) j = 0 := fun _ => rfl
  generalize (fun _ : Nat => (0 : Int64)) = f3 at hP hD z4
  refine W.widen (k := 1) (n := 16) (by omega) (by omega) ?_
  refine va_putF (D := (dC, dI)) (ci := 13) (v := .ref q1) (ty := .array .long) (C := RX10) (T := TX10) (N := 18) hx hb hts (in_k_X10_X10) tyX10 tyX10_ok nmX10 hown hK hP hD hS 0 rfl rfl 1 (by decide) (hts (.fieldLink RX10 11 "HeapWorks$Types" "name" "[J") (by decide +kernel)) (fun _ h9 => h9) rfl hin rfl (by decide +kernel) rfl rfl (by rw [o_fs0.2.1]; decide) dX10_init_9 (fun H locs hP hD hS => ?_)
  have hP : va_P (dC, dI) vwCl [(a0, .inr (13, (fs0.set 1 (.ref q1)))), (q1, .inl (k2, 16, .inr (.inl f3)))] H := hP
  have hD : va_D A [(a0, .inr (13, (fs0.set 1 (.ref q1)))), (q1, .inl (k2, 16, .inr (.inl f3)))] := hD
  have o_s5 := ow_set o_fs0 1 (.ref q1) (by decide) (l' := [(1, .ref q1), (0, .int 0), (2, .null), (3, .null), (4, .null), (5, .null), (6, .null), (7, .null), (8, .null), (9, .null), (10, .null), (11, .null), (12, .null), (13, .null), (14, .null), (15, .null), (16, .null), (17, .null)]) (w' := [1]) rfl rfl
  generalize (fs0.set 1 (.ref q1)) = s5 at hP hD o_s5
  have hP := hP.sub (ws' := [(a0, .inr (13, s5))]) [0] rfl
  have hD := hD.sub (ws' := [(a0, .inr (13, s5))]) [0] (by decide) rfl
  have hK := hK.sub (tys' := []) [] rfl
  refine lv_aload_n hx hb dX10_init_12 rfl (lv_at hl 0 rfl) ?_
  refine lv_bipush (v := 16) hx hb dX10_init_13 (by decide) ?_
  refine va_newa (atype := .int) (ty := .int) (a0 := (16, .inl (fun _ : Nat => (0 : Int32)))) (N' := 16) hx hb (hts (.arrayClass .int) (by decide +kernel)) rfl hK hP hD hS hA (na_I 16) (by decide) (by decide) (by decide) (Nat.le_of_ble_eq_true rfl) (Nat.le_of_ble_eq_true rfl) dX10_init_15 (fun q6 k7 H hK hP hD hS => ?_)
  have hK : va_K (dC, dI) vwCl [(k7, .int)] s := hK
  have hP : va_P (dC, dI) vwCl [(a0, .inr (13, s5)), (q6, .inl (k7, 16, .inl ((fun _ : Nat => (0 : Int32)))))] H := hP
  have hD : va_D A [(a0, .inr (13, s5)), (q6, .inl (k7, 16, .inl ((fun _ : Nat => (0 : Int32)))))] := hD
  have z9 : ∀ j, (fun _ : Nat => (0 : Int32)) j = 0 := fun _ => rfl
  generalize (fun _ : Nat => (0 : Int32)) = f8 at hP hD z9
  refine W.widen (k := 2) (n := 32) (by omega) (by omega) ?_
  refine va_putF (D := (dC, dI)) (ci := 13) (v := .ref q6) (ty := .array .int) (C := RX10) (T := TX10) (N := 18) hx hb hts (in_k_X10_X10) tyX10 tyX10_ok nmX10 hown hK hP hD hS 0 rfl rfl 2 (by decide) (hts (.fieldLink RX10 15 "HeapWorks$Types" "loader" "[I") (by decide +kernel)) (fun _ h9 => h9) rfl hin rfl (by decide +kernel) rfl rfl (by rw [o_s5.2.1]; decide) dX10_init_17 (fun H locs hP hD hS => ?_)
  have hP : va_P (dC, dI) vwCl [(a0, .inr (13, (s5.set 2 (.ref q6)))), (q6, .inl (k7, 16, .inl f8))] H := hP
  have hD : va_D A [(a0, .inr (13, (s5.set 2 (.ref q6)))), (q6, .inl (k7, 16, .inl f8))] := hD
  have o_s10 := ow_set o_s5 2 (.ref q6) (by decide) (l' := [(2, .ref q6), (1, .ref q1), (0, .int 0), (3, .null), (4, .null), (5, .null), (6, .null), (7, .null), (8, .null), (9, .null), (10, .null), (11, .null), (12, .null), (13, .null), (14, .null), (15, .null), (16, .null), (17, .null)]) (w' := [2, 1]) rfl rfl
  generalize (s5.set 2 (.ref q6)) = s10 at hP hD o_s10
  have hP := hP.sub (ws' := [(a0, .inr (13, s10))]) [0] rfl
  have hD := hD.sub (ws' := [(a0, .inr (13, s10))]) [0] (by decide) rfl
  have hK := hK.sub (tys' := []) [] rfl
  refine lv_aload_n hx hb dX10_init_20 rfl (lv_at hl 0 rfl) ?_
  refine lv_bipush (v := 16) hx hb dX10_init_21 (by decide) ?_
  refine va_newa (atype := .int) (ty := .int) (a0 := (16, .inl (fun _ : Nat => (0 : Int32)))) (N' := 16) hx hb (hts (.arrayClass .int) (by decide +kernel)) rfl hK hP hD hS hA (na_I 16) (by decide) (by decide) (by decide) (Nat.le_of_ble_eq_true rfl) (Nat.le_of_ble_eq_true rfl) dX10_init_23 (fun q11 k12 H hK hP hD hS => ?_)
  have hK : va_K (dC, dI) vwCl [(k12, .int)] s := hK
  have hP : va_P (dC, dI) vwCl [(a0, .inr (13, s10)), (q11, .inl (k12, 16, .inl ((fun _ : Nat => (0 : Int32)))))] H := hP
  have hD : va_D A [(a0, .inr (13, s10)), (q11, .inl (k12, 16, .inl ((fun _ : Nat => (0 : Int32)))))] := hD
  have z14 : ∀ j, (fun _ : Nat => (0 : Int32)) j = 0 := fun _ => rfl
  generalize (fun _ : Nat => (0 : Int32)) = f13 at hP hD z14
  refine W.widen (k := 3) (n := 48) (by omega) (by omega) ?_
  refine va_putF (D := (dC, dI)) (ci := 13) (v := .ref q11) (ty := .array .int) (C := RX10) (T := TX10) (N := 18) hx hb hts (in_k_X10_X10) tyX10 tyX10_ok nmX10 hown hK hP hD hS 0 rfl rfl 3 (by decide) (hts (.fieldLink RX10 19 "HeapWorks$Types" "parent" "[I") (by decide +kernel)) (fun _ h9 => h9) rfl hin rfl (by decide +kernel) rfl rfl (by rw [o_s10.2.1]; decide) dX10_init_25 (fun H locs hP hD hS => ?_)
  have hP : va_P (dC, dI) vwCl [(a0, .inr (13, (s10.set 3 (.ref q11)))), (q11, .inl (k12, 16, .inl f13))] H := hP
  have hD : va_D A [(a0, .inr (13, (s10.set 3 (.ref q11)))), (q11, .inl (k12, 16, .inl f13))] := hD
  have o_s15 := ow_set o_s10 3 (.ref q11) (by decide) (l' := [(3, .ref q11), (2, .ref q6), (1, .ref q1), (0, .int 0), (4, .null), (5, .null), (6, .null), (7, .null), (8, .null), (9, .null), (10, .null), (11, .null), (12, .null), (13, .null), (14, .null), (15, .null), (16, .null), (17, .null)]) (w' := [3, 2, 1]) rfl rfl
  generalize (s10.set 3 (.ref q11)) = s15 at hP hD o_s15
  have hP := hP.sub (ws' := [(a0, .inr (13, s15))]) [0] rfl
  have hD := hD.sub (ws' := [(a0, .inr (13, s15))]) [0] (by decide) rfl
  have hK := hK.sub (tys' := []) [] rfl
  refine lv_aload_n hx hb dX10_init_28 rfl (lv_at hl 0 rfl) ?_
  refine lv_bipush (v := 16) hx hb dX10_init_29 (by decide) ?_
  refine va_newa (atype := .boolean) (ty := .boolean) (a0 := (16, .inl (fun _ : Nat => (0 : Int32)))) (N' := 16) hx hb (hts (.arrayClass .boolean) (by decide +kernel)) rfl hK hP hD hS hA (na_Z 16) (by decide) (by decide) (by decide) (Nat.le_of_ble_eq_true rfl) (Nat.le_of_ble_eq_true rfl) dX10_init_31 (fun q16 k17 H hK hP hD hS => ?_)
  have hK : va_K (dC, dI) vwCl [(k17, .boolean)] s := hK
  have hP : va_P (dC, dI) vwCl [(a0, .inr (13, s15)), (q16, .inl (k17, 16, .inl ((fun _ : Nat => (0 : Int32)))))] H := hP
  have hD : va_D A [(a0, .inr (13, s15)), (q16, .inl (k17, 16, .inl ((fun _ : Nat => (0 : Int32)))))] := hD
  have z19 : ∀ j, (fun _ : Nat => (0 : Int32)) j = 0 := fun _ => rfl
  generalize (fun _ : Nat => (0 : Int32)) = f18 at hP hD z19
  refine W.widen (k := 4) (n := 64) (by omega) (by omega) ?_
  refine va_putF (D := (dC, dI)) (ci := 13) (v := .ref q16) (ty := .array .boolean) (C := RX10) (T := TX10) (N := 18) hx hb hts (in_k_X10_X10) tyX10 tyX10_ok nmX10 hown hK hP hD hS 0 rfl rfl 4 (by decide) (hts (.fieldLink RX10 22 "HeapWorks$Types" "used" "[Z") (by decide +kernel)) (fun _ h9 => h9) rfl hin rfl (by decide +kernel) rfl rfl (by rw [o_s15.2.1]; decide) dX10_init_33 (fun H locs hP hD hS => ?_)
  have hP : va_P (dC, dI) vwCl [(a0, .inr (13, (s15.set 4 (.ref q16)))), (q16, .inl (k17, 16, .inl f18))] H := hP
  have hD : va_D A [(a0, .inr (13, (s15.set 4 (.ref q16)))), (q16, .inl (k17, 16, .inl f18))] := hD
  have o_s20 := ow_set o_s15 4 (.ref q16) (by decide) (l' := [(4, .ref q16), (3, .ref q11), (2, .ref q6), (1, .ref q1), (0, .int 0), (5, .null), (6, .null), (7, .null), (8, .null), (9, .null), (10, .null), (11, .null), (12, .null), (13, .null), (14, .null), (15, .null), (16, .null), (17, .null)]) (w' := [4, 3, 2, 1]) rfl rfl
  generalize (s15.set 4 (.ref q16)) = s20 at hP hD o_s20
  have hP := hP.sub (ws' := [(a0, .inr (13, s20))]) [0] rfl
  have hD := hD.sub (ws' := [(a0, .inr (13, s20))]) [0] (by decide) rfl
  have hK := hK.sub (tys' := []) [] rfl
  refine lv_aload_n hx hb dX10_init_36 rfl (lv_at hl 0 rfl) ?_
  refine lv_bipush (v := 16) hx hb dX10_init_37 (by decide) ?_
  refine va_newa (atype := .boolean) (ty := .boolean) (a0 := (16, .inl (fun _ : Nat => (0 : Int32)))) (N' := 16) hx hb (hts (.arrayClass .boolean) (by decide +kernel)) rfl hK hP hD hS hA (na_Z 16) (by decide) (by decide) (by decide) (Nat.le_of_ble_eq_true rfl) (Nat.le_of_ble_eq_true rfl) dX10_init_39 (fun q21 k22 H hK hP hD hS => ?_)
  have hK : va_K (dC, dI) vwCl [(k22, .boolean)] s := hK
  have hP : va_P (dC, dI) vwCl [(a0, .inr (13, s20)), (q21, .inl (k22, 16, .inl ((fun _ : Nat => (0 : Int32)))))] H := hP
  have hD : va_D A [(a0, .inr (13, s20)), (q21, .inl (k22, 16, .inl ((fun _ : Nat => (0 : Int32)))))] := hD
  have z24 : ∀ j, (fun _ : Nat => (0 : Int32)) j = 0 := fun _ => rfl
  generalize (fun _ : Nat => (0 : Int32)) = f23 at hP hD z24
  refine W.widen (k := 5) (n := 80) (by omega) (by omega) ?_
  refine va_putF (D := (dC, dI)) (ci := 13) (v := .ref q21) (ty := .array .boolean) (C := RX10) (T := TX10) (N := 18) hx hb hts (in_k_X10_X10) tyX10 tyX10_ok nmX10 hown hK hP hD hS 0 rfl rfl 5 (by decide) (hts (.fieldLink RX10 26 "HeapWorks$Types" "apart" "[Z") (by decide +kernel)) (fun _ h9 => h9) rfl hin rfl (by decide +kernel) rfl rfl (by rw [o_s20.2.1]; decide) dX10_init_41 (fun H locs hP hD hS => ?_)
  have hP : va_P (dC, dI) vwCl [(a0, .inr (13, (s20.set 5 (.ref q21)))), (q21, .inl (k22, 16, .inl f23))] H := hP
  have hD : va_D A [(a0, .inr (13, (s20.set 5 (.ref q21)))), (q21, .inl (k22, 16, .inl f23))] := hD
  have o_s25 := ow_set o_s20 5 (.ref q21) (by decide) (l' := [(5, .ref q21), (4, .ref q16), (3, .ref q11), (2, .ref q6), (1, .ref q1), (0, .int 0), (6, .null), (7, .null), (8, .null), (9, .null), (10, .null), (11, .null), (12, .null), (13, .null), (14, .null), (15, .null), (16, .null), (17, .null)]) (w' := [5, 4, 3, 2, 1]) rfl rfl
  generalize (s20.set 5 (.ref q21)) = s25 at hP hD o_s25
  have hP := hP.sub (ws' := [(a0, .inr (13, s25))]) [0] rfl
  have hD := hD.sub (ws' := [(a0, .inr (13, s25))]) [0] (by decide) rfl
  have hK := hK.sub (tys' := []) [] rfl
  refine lv_aload_n hx hb dX10_init_44 rfl (lv_at hl 0 rfl) ?_
  refine lv_bipush (v := 16) hx hb dX10_init_45 (by decide) ?_
  refine va_newa (atype := .int) (ty := .int) (a0 := (16, .inl (fun _ : Nat => (0 : Int32)))) (N' := 16) hx hb (hts (.arrayClass .int) (by decide +kernel)) rfl hK hP hD hS hA (na_I 16) (by decide) (by decide) (by decide) (Nat.le_of_ble_eq_true rfl) (Nat.le_of_ble_eq_true rfl) dX10_init_47 (fun q26 k27 H hK hP hD hS => ?_)
  have hK : va_K (dC, dI) vwCl [(k27, .int)] s := hK
  have hP : va_P (dC, dI) vwCl [(a0, .inr (13, s25)), (q26, .inl (k27, 16, .inl ((fun _ : Nat => (0 : Int32)))))] H := hP
  have hD : va_D A [(a0, .inr (13, s25)), (q26, .inl (k27, 16, .inl ((fun _ : Nat => (0 : Int32)))))] := hD
  have z29 : ∀ j, (fun _ : Nat => (0 : Int32)) j = 0 := fun _ => rfl
  generalize (fun _ : Nat => (0 : Int32)) = f28 at hP hD z29
  refine W.widen (k := 6) (n := 96) (by omega) (by omega) ?_
  refine va_putF (D := (dC, dI)) (ci := 13) (v := .ref q26) (ty := .array .int) (C := RX10) (T := TX10) (N := 18) hx hb hts (in_k_X10_X10) tyX10 tyX10_ok nmX10 hown hK hP hD hS 0 rfl rfl 6 (by decide) (hts (.fieldLink RX10 29 "HeapWorks$Types" "fieldCount" "[I") (by decide +kernel)) (fun _ h9 => h9) rfl hin rfl (by decide +kernel) rfl rfl (by rw [o_s25.2.1]; decide) dX10_init_49 (fun H locs hP hD hS => ?_)
  have hP : va_P (dC, dI) vwCl [(a0, .inr (13, (s25.set 6 (.ref q26)))), (q26, .inl (k27, 16, .inl f28))] H := hP
  have hD : va_D A [(a0, .inr (13, (s25.set 6 (.ref q26)))), (q26, .inl (k27, 16, .inl f28))] := hD
  have o_s30 := ow_set o_s25 6 (.ref q26) (by decide) (l' := [(6, .ref q26), (5, .ref q21), (4, .ref q16), (3, .ref q11), (2, .ref q6), (1, .ref q1), (0, .int 0), (7, .null), (8, .null), (9, .null), (10, .null), (11, .null), (12, .null), (13, .null), (14, .null), (15, .null), (16, .null), (17, .null)]) (w' := [6, 5, 4, 3, 2, 1]) rfl rfl
  generalize (s25.set 6 (.ref q26)) = s30 at hP hD o_s30
  have hP := hP.sub (ws' := [(a0, .inr (13, s30))]) [0] rfl
  have hD := hD.sub (ws' := [(a0, .inr (13, s30))]) [0] (by decide) rfl
  have hK := hK.sub (tys' := []) [] rfl
  refine lv_aload_n hx hb dX10_init_52 rfl (lv_at hl 0 rfl) ?_
  refine lv_bipush (v := 16) hx hb dX10_init_53 (by decide) ?_
  refine va_newa (atype := .int) (ty := .int) (a0 := (16, .inl (fun _ : Nat => (0 : Int32)))) (N' := 16) hx hb (hts (.arrayClass .int) (by decide +kernel)) rfl hK hP hD hS hA (na_I 16) (by decide) (by decide) (by decide) (Nat.le_of_ble_eq_true rfl) (Nat.le_of_ble_eq_true rfl) dX10_init_55 (fun q31 k32 H hK hP hD hS => ?_)
  have hK : va_K (dC, dI) vwCl [(k32, .int)] s := hK
  have hP : va_P (dC, dI) vwCl [(a0, .inr (13, s30)), (q31, .inl (k32, 16, .inl ((fun _ : Nat => (0 : Int32)))))] H := hP
  have hD : va_D A [(a0, .inr (13, s30)), (q31, .inl (k32, 16, .inl ((fun _ : Nat => (0 : Int32)))))] := hD
  have z34 : ∀ j, (fun _ : Nat => (0 : Int32)) j = 0 := fun _ => rfl
  generalize (fun _ : Nat => (0 : Int32)) = f33 at hP hD z34
  refine W.widen (k := 7) (n := 112) (by omega) (by omega) ?_
  refine va_putF (D := (dC, dI)) (ci := 13) (v := .ref q31) (ty := .array .int) (C := RX10) (T := TX10) (N := 18) hx hb hts (in_k_X10_X10) tyX10 tyX10_ok nmX10 hown hK hP hD hS 0 rfl rfl 7 (by decide) (hts (.fieldLink RX10 32 "HeapWorks$Types" "staticCount" "[I") (by decide +kernel)) (fun _ h9 => h9) rfl hin rfl (by decide +kernel) rfl rfl (by rw [o_s30.2.1]; decide) dX10_init_57 (fun H locs hP hD hS => ?_)
  have hP : va_P (dC, dI) vwCl [(a0, .inr (13, (s30.set 7 (.ref q31)))), (q31, .inl (k32, 16, .inl f33))] H := hP
  have hD : va_D A [(a0, .inr (13, (s30.set 7 (.ref q31)))), (q31, .inl (k32, 16, .inl f33))] := hD
  have o_s35 := ow_set o_s30 7 (.ref q31) (by decide) (l' := [(7, .ref q31), (6, .ref q26), (5, .ref q21), (4, .ref q16), (3, .ref q11), (2, .ref q6), (1, .ref q1), (0, .int 0), (8, .null), (9, .null), (10, .null), (11, .null), (12, .null), (13, .null), (14, .null), (15, .null), (16, .null), (17, .null)]) (w' := [7, 6, 5, 4, 3, 2, 1]) rfl rfl
  generalize (s30.set 7 (.ref q31)) = s35 at hP hD o_s35
  have hP := hP.sub (ws' := [(a0, .inr (13, s35))]) [0] rfl
  have hD := hD.sub (ws' := [(a0, .inr (13, s35))]) [0] (by decide) rfl
  have hK := hK.sub (tys' := []) [] rfl
  refine lv_aload_n hx hb dX10_init_60 rfl (lv_at hl 0 rfl) ?_
  refine lv_bipush (v := 16) hx hb dX10_init_61 (by decide) ?_
  refine va_newa (atype := .int) (ty := .int) (a0 := (16, .inl (fun _ : Nat => (0 : Int32)))) (N' := 16) hx hb (hts (.arrayClass .int) (by decide +kernel)) rfl hK hP hD hS hA (na_I 16) (by decide) (by decide) (by decide) (Nat.le_of_ble_eq_true rfl) (Nat.le_of_ble_eq_true rfl) dX10_init_63 (fun q36 k37 H hK hP hD hS => ?_)
  have hK : va_K (dC, dI) vwCl [(k37, .int)] s := hK
  have hP : va_P (dC, dI) vwCl [(a0, .inr (13, s35)), (q36, .inl (k37, 16, .inl ((fun _ : Nat => (0 : Int32)))))] H := hP
  have hD : va_D A [(a0, .inr (13, s35)), (q36, .inl (k37, 16, .inl ((fun _ : Nat => (0 : Int32)))))] := hD
  have z39 : ∀ j, (fun _ : Nat => (0 : Int32)) j = 0 := fun _ => rfl
  generalize (fun _ : Nat => (0 : Int32)) = f38 at hP hD z39
  refine W.widen (k := 8) (n := 128) (by omega) (by omega) ?_
  refine va_putF (D := (dC, dI)) (ci := 13) (v := .ref q36) (ty := .array .int) (C := RX10) (T := TX10) (N := 18) hx hb hts (in_k_X10_X10) tyX10 tyX10_ok nmX10 hown hK hP hD hS 0 rfl rfl 8 (by decide) (hts (.fieldLink RX10 35 "HeapWorks$Types" "slotCount" "[I") (by decide +kernel)) (fun _ h9 => h9) rfl hin rfl (by decide +kernel) rfl rfl (by rw [o_s35.2.1]; decide) dX10_init_65 (fun H locs hP hD hS => ?_)
  have hP : va_P (dC, dI) vwCl [(a0, .inr (13, (s35.set 8 (.ref q36)))), (q36, .inl (k37, 16, .inl f38))] H := hP
  have hD : va_D A [(a0, .inr (13, (s35.set 8 (.ref q36)))), (q36, .inl (k37, 16, .inl f38))] := hD
  have o_s40 := ow_set o_s35 8 (.ref q36) (by decide) (l' := [(8, .ref q36), (7, .ref q31), (6, .ref q26), (5, .ref q21), (4, .ref q16), (3, .ref q11), (2, .ref q6), (1, .ref q1), (0, .int 0), (9, .null), (10, .null), (11, .null), (12, .null), (13, .null), (14, .null), (15, .null), (16, .null), (17, .null)]) (w' := [8, 7, 6, 5, 4, 3, 2, 1]) rfl rfl
  generalize (s35.set 8 (.ref q36)) = s40 at hP hD o_s40
  have hP := hP.sub (ws' := [(a0, .inr (13, s40))]) [0] rfl
  have hD := hD.sub (ws' := [(a0, .inr (13, s40))]) [0] (by decide) rfl
  have hK := hK.sub (tys' := []) [] rfl
  refine lv_aload_n hx hb dX10_init_68 rfl (lv_at hl 0 rfl) ?_
  refine lv_bipush (v := 16) hx hb dX10_init_69 (by decide) ?_
  refine va_newa (atype := .int) (ty := .int) (a0 := (16, .inl (fun _ : Nat => (0 : Int32)))) (N' := 16) hx hb (hts (.arrayClass .int) (by decide +kernel)) rfl hK hP hD hS hA (na_I 16) (by decide) (by decide) (by decide) (Nat.le_of_ble_eq_true rfl) (Nat.le_of_ble_eq_true rfl) dX10_init_71 (fun q41 k42 H hK hP hD hS => ?_)
  have hK : va_K (dC, dI) vwCl [(k42, .int)] s := hK
  have hP : va_P (dC, dI) vwCl [(a0, .inr (13, s40)), (q41, .inl (k42, 16, .inl ((fun _ : Nat => (0 : Int32)))))] H := hP
  have hD : va_D A [(a0, .inr (13, s40)), (q41, .inl (k42, 16, .inl ((fun _ : Nat => (0 : Int32)))))] := hD
  have z44 : ∀ j, (fun _ : Nat => (0 : Int32)) j = 0 := fun _ => rfl
  generalize (fun _ : Nat => (0 : Int32)) = f43 at hP hD z44
  refine W.widen (k := 9) (n := 144) (by omega) (by omega) ?_
  refine va_putF (D := (dC, dI)) (ci := 13) (v := .ref q41) (ty := .array .int) (C := RX10) (T := TX10) (N := 18) hx hb hts (in_k_X10_X10) tyX10 tyX10_ok nmX10 hown hK hP hD hS 0 rfl rfl 9 (by decide) (hts (.fieldLink RX10 38 "HeapWorks$Types" "fieldsEnd" "[I") (by decide +kernel)) (fun _ h9 => h9) rfl hin rfl (by decide +kernel) rfl rfl (by rw [o_s40.2.1]; decide) dX10_init_73 (fun H locs hP hD hS => ?_)
  have hP : va_P (dC, dI) vwCl [(a0, .inr (13, (s40.set 9 (.ref q41)))), (q41, .inl (k42, 16, .inl f43))] H := hP
  have hD : va_D A [(a0, .inr (13, (s40.set 9 (.ref q41)))), (q41, .inl (k42, 16, .inl f43))] := hD
  have o_s45 := ow_set o_s40 9 (.ref q41) (by decide) (l' := [(9, .ref q41), (8, .ref q36), (7, .ref q31), (6, .ref q26), (5, .ref q21), (4, .ref q16), (3, .ref q11), (2, .ref q6), (1, .ref q1), (0, .int 0), (10, .null), (11, .null), (12, .null), (13, .null), (14, .null), (15, .null), (16, .null), (17, .null)]) (w' := [9, 8, 7, 6, 5, 4, 3, 2, 1]) rfl rfl
  generalize (s40.set 9 (.ref q41)) = s45 at hP hD o_s45
  have hP := hP.sub (ws' := [(a0, .inr (13, s45))]) [0] rfl
  have hD := hD.sub (ws' := [(a0, .inr (13, s45))]) [0] (by decide) rfl
  have hK := hK.sub (tys' := []) [] rfl
  refine lv_aload_n hx hb dX10_init_76 rfl (lv_at hl 0 rfl) ?_
  refine lv_bipush (v := 96) hx hb dX10_init_77 (by decide) ?_
  refine va_newa (atype := .long) (ty := .long) (a0 := (96, .inr (.inl (fun _ : Nat => (0 : Int64))))) (N' := 96) hx hb (hts (.arrayClass .long) (by decide +kernel)) rfl hK hP hD hS hA (na_J 96) (by decide) (by decide) (by decide) (Nat.le_of_ble_eq_true rfl) (Nat.le_of_ble_eq_true rfl) dX10_init_79 (fun q46 k47 H hK hP hD hS => ?_)
  have hK : va_K (dC, dI) vwCl [(k47, .long)] s := hK
  have hP : va_P (dC, dI) vwCl [(a0, .inr (13, s45)), (q46, .inl (k47, 96, .inr (.inl ((fun _ : Nat => (0 : Int64))))))] H := hP
  have hD : va_D A [(a0, .inr (13, s45)), (q46, .inl (k47, 96, .inr (.inl ((fun _ : Nat => (0 : Int64))))))] := hD
  have z49 : ∀ j, (fun _ : Nat => (0 : Int64)) j = 0 := fun _ => rfl
  generalize (fun _ : Nat => (0 : Int64)) = f48 at hP hD z49
  refine W.widen (k := 10) (n := 240) (by omega) (by omega) ?_
  refine va_putF (D := (dC, dI)) (ci := 13) (v := .ref q46) (ty := .array .long) (C := RX10) (T := TX10) (N := 18) hx hb hts (in_k_X10_X10) tyX10 tyX10_ok nmX10 hown hK hP hD hS 0 rfl rfl 10 (by decide) (hts (.fieldLink RX10 41 "HeapWorks$Types" "fieldName" "[J") (by decide +kernel)) (fun _ h9 => h9) rfl hin rfl (by decide +kernel) rfl rfl (by rw [o_s45.2.1]; decide) dX10_init_81 (fun H locs hP hD hS => ?_)
  have hP : va_P (dC, dI) vwCl [(a0, .inr (13, (s45.set 10 (.ref q46)))), (q46, .inl (k47, 96, .inr (.inl f48)))] H := hP
  have hD : va_D A [(a0, .inr (13, (s45.set 10 (.ref q46)))), (q46, .inl (k47, 96, .inr (.inl f48)))] := hD
  have o_s50 := ow_set o_s45 10 (.ref q46) (by decide) (l' := [(10, .ref q46), (9, .ref q41), (8, .ref q36), (7, .ref q31), (6, .ref q26), (5, .ref q21), (4, .ref q16), (3, .ref q11), (2, .ref q6), (1, .ref q1), (0, .int 0), (11, .null), (12, .null), (13, .null), (14, .null), (15, .null), (16, .null), (17, .null)]) (w' := [10, 9, 8, 7, 6, 5, 4, 3, 2, 1]) rfl rfl
  generalize (s45.set 10 (.ref q46)) = s50 at hP hD o_s50
  have hP := hP.sub (ws' := [(a0, .inr (13, s50))]) [0] rfl
  have hD := hD.sub (ws' := [(a0, .inr (13, s50))]) [0] (by decide) rfl
  have hK := hK.sub (tys' := []) [] rfl
  refine lv_aload_n hx hb dX10_init_84 rfl (lv_at hl 0 rfl) ?_
  refine lv_bipush (v := 96) hx hb dX10_init_85 (by decide) ?_
  refine va_newa (atype := .int) (ty := .int) (a0 := (96, .inl (fun _ : Nat => (0 : Int32)))) (N' := 96) hx hb (hts (.arrayClass .int) (by decide +kernel)) rfl hK hP hD hS hA (na_I 96) (by decide) (by decide) (by decide) (Nat.le_of_ble_eq_true rfl) (Nat.le_of_ble_eq_true rfl) dX10_init_87 (fun q51 k52 H hK hP hD hS => ?_)
  have hK : va_K (dC, dI) vwCl [(k52, .int)] s := hK
  have hP : va_P (dC, dI) vwCl [(a0, .inr (13, s50)), (q51, .inl (k52, 96, .inl ((fun _ : Nat => (0 : Int32)))))] H := hP
  have hD : va_D A [(a0, .inr (13, s50)), (q51, .inl (k52, 96, .inl ((fun _ : Nat => (0 : Int32)))))] := hD
  have z54 : ∀ j, (fun _ : Nat => (0 : Int32)) j = 0 := fun _ => rfl
  generalize (fun _ : Nat => (0 : Int32)) = f53 at hP hD z54
  refine W.widen (k := 11) (n := 336) (by omega) (by omega) ?_
  refine va_putF (D := (dC, dI)) (ci := 13) (v := .ref q51) (ty := .array .int) (C := RX10) (T := TX10) (N := 18) hx hb hts (in_k_X10_X10) tyX10 tyX10_ok nmX10 hown hK hP hD hS 0 rfl rfl 11 (by decide) (hts (.fieldLink RX10 44 "HeapWorks$Types" "fieldKind" "[I") (by decide +kernel)) (fun _ h9 => h9) rfl hin rfl (by decide +kernel) rfl rfl (by rw [o_s50.2.1]; decide) dX10_init_89 (fun H locs hP hD hS => ?_)
  have hP : va_P (dC, dI) vwCl [(a0, .inr (13, (s50.set 11 (.ref q51)))), (q51, .inl (k52, 96, .inl f53))] H := hP
  have hD : va_D A [(a0, .inr (13, (s50.set 11 (.ref q51)))), (q51, .inl (k52, 96, .inl f53))] := hD
  have o_s55 := ow_set o_s50 11 (.ref q51) (by decide) (l' := [(11, .ref q51), (10, .ref q46), (9, .ref q41), (8, .ref q36), (7, .ref q31), (6, .ref q26), (5, .ref q21), (4, .ref q16), (3, .ref q11), (2, .ref q6), (1, .ref q1), (0, .int 0), (12, .null), (13, .null), (14, .null), (15, .null), (16, .null), (17, .null)]) (w' := [11, 10, 9, 8, 7, 6, 5, 4, 3, 2, 1]) rfl rfl
  generalize (s50.set 11 (.ref q51)) = s55 at hP hD o_s55
  have hP := hP.sub (ws' := [(a0, .inr (13, s55))]) [0] rfl
  have hD := hD.sub (ws' := [(a0, .inr (13, s55))]) [0] (by decide) rfl
  have hK := hK.sub (tys' := []) [] rfl
  refine lv_aload_n hx hb dX10_init_92 rfl (lv_at hl 0 rfl) ?_
  refine lv_bipush (v := 96) hx hb dX10_init_93 (by decide) ?_
  refine va_newa (atype := .int) (ty := .int) (a0 := (96, .inl (fun _ : Nat => (0 : Int32)))) (N' := 96) hx hb (hts (.arrayClass .int) (by decide +kernel)) rfl hK hP hD hS hA (na_I 96) (by decide) (by decide) (by decide) (Nat.le_of_ble_eq_true rfl) (Nat.le_of_ble_eq_true rfl) dX10_init_95 (fun q56 k57 H hK hP hD hS => ?_)
  have hK : va_K (dC, dI) vwCl [(k57, .int)] s := hK
  have hP : va_P (dC, dI) vwCl [(a0, .inr (13, s55)), (q56, .inl (k57, 96, .inl ((fun _ : Nat => (0 : Int32)))))] H := hP
  have hD : va_D A [(a0, .inr (13, s55)), (q56, .inl (k57, 96, .inl ((fun _ : Nat => (0 : Int32)))))] := hD
  have z59 : ∀ j, (fun _ : Nat => (0 : Int32)) j = 0 := fun _ => rfl
  generalize (fun _ : Nat => (0 : Int32)) = f58 at hP hD z59
  refine W.widen (k := 12) (n := 432) (by omega) (by omega) ?_
  refine va_putF (D := (dC, dI)) (ci := 13) (v := .ref q56) (ty := .array .int) (C := RX10) (T := TX10) (N := 18) hx hb hts (in_k_X10_X10) tyX10 tyX10_ok nmX10 hown hK hP hD hS 0 rfl rfl 12 (by decide) (hts (.fieldLink RX10 47 "HeapWorks$Types" "fieldLink" "[I") (by decide +kernel)) (fun _ h9 => h9) rfl hin rfl (by decide +kernel) rfl rfl (by rw [o_s55.2.1]; decide) dX10_init_97 (fun H locs hP hD hS => ?_)
  have hP : va_P (dC, dI) vwCl [(a0, .inr (13, (s55.set 12 (.ref q56)))), (q56, .inl (k57, 96, .inl f58))] H := hP
  have hD : va_D A [(a0, .inr (13, (s55.set 12 (.ref q56)))), (q56, .inl (k57, 96, .inl f58))] := hD
  have o_s60 := ow_set o_s55 12 (.ref q56) (by decide) (l' := [(12, .ref q56), (11, .ref q51), (10, .ref q46), (9, .ref q41), (8, .ref q36), (7, .ref q31), (6, .ref q26), (5, .ref q21), (4, .ref q16), (3, .ref q11), (2, .ref q6), (1, .ref q1), (0, .int 0), (13, .null), (14, .null), (15, .null), (16, .null), (17, .null)]) (w' := [12, 11, 10, 9, 8, 7, 6, 5, 4, 3, 2, 1]) rfl rfl
  generalize (s55.set 12 (.ref q56)) = s60 at hP hD o_s60
  have hP := hP.sub (ws' := [(a0, .inr (13, s60))]) [0] rfl
  have hD := hD.sub (ws' := [(a0, .inr (13, s60))]) [0] (by decide) rfl
  have hK := hK.sub (tys' := []) [] rfl
  refine lv_aload_n hx hb dX10_init_100 rfl (lv_at hl 0 rfl) ?_
  refine lv_bipush (v := 96) hx hb dX10_init_101 (by decide) ?_
  refine va_newa (atype := .boolean) (ty := .boolean) (a0 := (96, .inl (fun _ : Nat => (0 : Int32)))) (N' := 96) hx hb (hts (.arrayClass .boolean) (by decide +kernel)) rfl hK hP hD hS hA (na_Z 96) (by decide) (by decide) (by decide) (Nat.le_of_ble_eq_true rfl) (Nat.le_of_ble_eq_true rfl) dX10_init_103 (fun q61 k62 H hK hP hD hS => ?_)
  have hK : va_K (dC, dI) vwCl [(k62, .boolean)] s := hK
  have hP : va_P (dC, dI) vwCl [(a0, .inr (13, s60)), (q61, .inl (k62, 96, .inl ((fun _ : Nat => (0 : Int32)))))] H := hP
  have hD : va_D A [(a0, .inr (13, s60)), (q61, .inl (k62, 96, .inl ((fun _ : Nat => (0 : Int32)))))] := hD
  have z64 : ∀ j, (fun _ : Nat => (0 : Int32)) j = 0 := fun _ => rfl
  generalize (fun _ : Nat => (0 : Int32)) = f63 at hP hD z64
  refine W.widen (k := 13) (n := 528) (by omega) (by omega) ?_
  refine va_putF (D := (dC, dI)) (ci := 13) (v := .ref q61) (ty := .array .boolean) (C := RX10) (T := TX10) (N := 18) hx hb hts (in_k_X10_X10) tyX10 tyX10_ok nmX10 hown hK hP hD hS 0 rfl rfl 13 (by decide) (hts (.fieldLink RX10 50 "HeapWorks$Types" "fieldStatic" "[Z") (by decide +kernel)) (fun _ h9 => h9) rfl hin rfl (by decide +kernel) rfl rfl (by rw [o_s60.2.1]; decide) dX10_init_105 (fun H locs hP hD hS => ?_)
  have hP : va_P (dC, dI) vwCl [(a0, .inr (13, (s60.set 13 (.ref q61)))), (q61, .inl (k62, 96, .inl f63))] H := hP
  have hD : va_D A [(a0, .inr (13, (s60.set 13 (.ref q61)))), (q61, .inl (k62, 96, .inl f63))] := hD
  have o_s65 := ow_set o_s60 13 (.ref q61) (by decide) (l' := [(13, .ref q61), (12, .ref q56), (11, .ref q51), (10, .ref q46), (9, .ref q41), (8, .ref q36), (7, .ref q31), (6, .ref q26), (5, .ref q21), (4, .ref q16), (3, .ref q11), (2, .ref q6), (1, .ref q1), (0, .int 0), (14, .null), (15, .null), (16, .null), (17, .null)]) (w' := [13, 12, 11, 10, 9, 8, 7, 6, 5, 4, 3, 2, 1]) rfl rfl
  generalize (s60.set 13 (.ref q61)) = s65 at hP hD o_s65
  have hP := hP.sub (ws' := [(a0, .inr (13, s65))]) [0] rfl
  have hD := hD.sub (ws' := [(a0, .inr (13, s65))]) [0] (by decide) rfl
  have hK := hK.sub (tys' := []) [] rfl
  refine lv_aload_n hx hb dX10_init_108 rfl (lv_at hl 0 rfl) ?_
  refine lv_bipush (v := 96) hx hb dX10_init_109 (by decide) ?_
  refine va_newa (atype := .int) (ty := .int) (a0 := (96, .inl (fun _ : Nat => (0 : Int32)))) (N' := 96) hx hb (hts (.arrayClass .int) (by decide +kernel)) rfl hK hP hD hS hA (na_I 96) (by decide) (by decide) (by decide) (Nat.le_of_ble_eq_true rfl) (Nat.le_of_ble_eq_true rfl) dX10_init_111 (fun q66 k67 H hK hP hD hS => ?_)
  have hK : va_K (dC, dI) vwCl [(k67, .int)] s := hK
  have hP : va_P (dC, dI) vwCl [(a0, .inr (13, s65)), (q66, .inl (k67, 96, .inl ((fun _ : Nat => (0 : Int32)))))] H := hP
  have hD : va_D A [(a0, .inr (13, s65)), (q66, .inl (k67, 96, .inl ((fun _ : Nat => (0 : Int32)))))] := hD
  have z69 : ∀ j, (fun _ : Nat => (0 : Int32)) j = 0 := fun _ => rfl
  generalize (fun _ : Nat => (0 : Int32)) = f68 at hP hD z69
  refine W.widen (k := 14) (n := 624) (by omega) (by omega) ?_
  refine va_putF (D := (dC, dI)) (ci := 13) (v := .ref q66) (ty := .array .int) (C := RX10) (T := TX10) (N := 18) hx hb hts (in_k_X10_X10) tyX10 tyX10_ok nmX10 hown hK hP hD hS 0 rfl rfl 14 (by decide) (hts (.fieldLink RX10 53 "HeapWorks$Types" "fieldPlace" "[I") (by decide +kernel)) (fun _ h9 => h9) rfl hin rfl (by decide +kernel) rfl rfl (by rw [o_s65.2.1]; decide) dX10_init_113 (fun H locs hP hD hS => ?_)
  have hP : va_P (dC, dI) vwCl [(a0, .inr (13, (s65.set 14 (.ref q66)))), (q66, .inl (k67, 96, .inl f68))] H := hP
  have hD : va_D A [(a0, .inr (13, (s65.set 14 (.ref q66)))), (q66, .inl (k67, 96, .inl f68))] := hD
  have o_s70 := ow_set o_s65 14 (.ref q66) (by decide) (l' := [(14, .ref q66), (13, .ref q61), (12, .ref q56), (11, .ref q51), (10, .ref q46), (9, .ref q41), (8, .ref q36), (7, .ref q31), (6, .ref q26), (5, .ref q21), (4, .ref q16), (3, .ref q11), (2, .ref q6), (1, .ref q1), (0, .int 0), (15, .null), (16, .null), (17, .null)]) (w' := [14, 13, 12, 11, 10, 9, 8, 7, 6, 5, 4, 3, 2, 1]) rfl rfl
  generalize (s65.set 14 (.ref q66)) = s70 at hP hD o_s70
  have hP := hP.sub (ws' := [(a0, .inr (13, s70))]) [0] rfl
  have hD := hD.sub (ws' := [(a0, .inr (13, s70))]) [0] (by decide) rfl
  have hK := hK.sub (tys' := []) [] rfl
  refine lv_aload_n hx hb dX10_init_116 rfl (lv_at hl 0 rfl) ?_
  refine lv_sipush (v := 1536) hx hb dX10_init_117 (by decide) ?_
  refine va_newa (atype := .long) (ty := .long) (a0 := (1536, .inr (.inl (fun _ : Nat => (0 : Int64))))) (N' := 1536) hx hb (hts (.arrayClass .long) (by decide +kernel)) rfl hK hP hD hS hA (na_J 1536) (by decide) (by decide) (by decide) (Nat.le_of_ble_eq_true rfl) (Nat.le_of_ble_eq_true rfl) dX10_init_120 (fun q71 k72 H hK hP hD hS => ?_)
  have hK : va_K (dC, dI) vwCl [(k72, .long)] s := hK
  have hP : va_P (dC, dI) vwCl [(a0, .inr (13, s70)), (q71, .inl (k72, 1536, .inr (.inl ((fun _ : Nat => (0 : Int64))))))] H := hP
  have hD : va_D A [(a0, .inr (13, s70)), (q71, .inl (k72, 1536, .inr (.inl ((fun _ : Nat => (0 : Int64))))))] := hD
  have z74 : ∀ j, (fun _ : Nat => (0 : Int64)) j = 0 := fun _ => rfl
  generalize (fun _ : Nat => (0 : Int64)) = f73 at hP hD z74
  refine W.widen (k := 15) (n := 2160) (by omega) (by omega) ?_
  refine va_putF (D := (dC, dI)) (ci := 13) (v := .ref q71) (ty := .array .long) (C := RX10) (T := TX10) (N := 18) hx hb hts (in_k_X10_X10) tyX10 tyX10_ok nmX10 hown hK hP hD hS 0 rfl rfl 15 (by decide) (hts (.fieldLink RX10 56 "HeapWorks$Types" "slotName" "[J") (by decide +kernel)) (fun _ h9 => h9) rfl hin rfl (by decide +kernel) rfl rfl (by rw [o_s70.2.1]; decide) dX10_init_122 (fun H locs hP hD hS => ?_)
  have hP : va_P (dC, dI) vwCl [(a0, .inr (13, (s70.set 15 (.ref q71)))), (q71, .inl (k72, 1536, .inr (.inl f73)))] H := hP
  have hD : va_D A [(a0, .inr (13, (s70.set 15 (.ref q71)))), (q71, .inl (k72, 1536, .inr (.inl f73)))] := hD
  have o_s75 := ow_set o_s70 15 (.ref q71) (by decide) (l' := [(15, .ref q71), (14, .ref q66), (13, .ref q61), (12, .ref q56), (11, .ref q51), (10, .ref q46), (9, .ref q41), (8, .ref q36), (7, .ref q31), (6, .ref q26), (5, .ref q21), (4, .ref q16), (3, .ref q11), (2, .ref q6), (1, .ref q1), (0, .int 0), (16, .null), (17, .null)]) (w' := [15, 14, 13, 12, 11, 10, 9, 8, 7, 6, 5, 4, 3, 2, 1]) rfl rfl
  generalize (s70.set 15 (.ref q71)) = s75 at hP hD o_s75
  have hP := hP.sub (ws' := [(a0, .inr (13, s75))]) [0] rfl
  have hD := hD.sub (ws' := [(a0, .inr (13, s75))]) [0] (by decide) rfl
  have hK := hK.sub (tys' := []) [] rfl
  refine lv_aload_n hx hb dX10_init_125 rfl (lv_at hl 0 rfl) ?_
  refine lv_sipush (v := 1536) hx hb dX10_init_126 (by decide) ?_
  refine va_newa (atype := .int) (ty := .int) (a0 := (1536, .inl (fun _ : Nat => (0 : Int32)))) (N' := 1536) hx hb (hts (.arrayClass .int) (by decide +kernel)) rfl hK hP hD hS hA (na_I 1536) (by decide) (by decide) (by decide) (Nat.le_of_ble_eq_true rfl) (Nat.le_of_ble_eq_true rfl) dX10_init_129 (fun q76 k77 H hK hP hD hS => ?_)
  have hK : va_K (dC, dI) vwCl [(k77, .int)] s := hK
  have hP : va_P (dC, dI) vwCl [(a0, .inr (13, s75)), (q76, .inl (k77, 1536, .inl ((fun _ : Nat => (0 : Int32)))))] H := hP
  have hD : va_D A [(a0, .inr (13, s75)), (q76, .inl (k77, 1536, .inl ((fun _ : Nat => (0 : Int32)))))] := hD
  have z79 : ∀ j, (fun _ : Nat => (0 : Int32)) j = 0 := fun _ => rfl
  generalize (fun _ : Nat => (0 : Int32)) = f78 at hP hD z79
  refine W.widen (k := 16) (n := 3696) (by omega) (by omega) ?_
  refine va_putF (D := (dC, dI)) (ci := 13) (v := .ref q76) (ty := .array .int) (C := RX10) (T := TX10) (N := 18) hx hb hts (in_k_X10_X10) tyX10 tyX10_ok nmX10 hown hK hP hD hS 0 rfl rfl 16 (by decide) (hts (.fieldLink RX10 59 "HeapWorks$Types" "slotKind" "[I") (by decide +kernel)) (fun _ h9 => h9) rfl hin rfl (by decide +kernel) rfl rfl (by rw [o_s75.2.1]; decide) dX10_init_131 (fun H locs hP hD hS => ?_)
  have hP : va_P (dC, dI) vwCl [(a0, .inr (13, (s75.set 16 (.ref q76)))), (q76, .inl (k77, 1536, .inl f78))] H := hP
  have hD : va_D A [(a0, .inr (13, (s75.set 16 (.ref q76)))), (q76, .inl (k77, 1536, .inl f78))] := hD
  have o_s80 := ow_set o_s75 16 (.ref q76) (by decide) (l' := [(16, .ref q76), (15, .ref q71), (14, .ref q66), (13, .ref q61), (12, .ref q56), (11, .ref q51), (10, .ref q46), (9, .ref q41), (8, .ref q36), (7, .ref q31), (6, .ref q26), (5, .ref q21), (4, .ref q16), (3, .ref q11), (2, .ref q6), (1, .ref q1), (0, .int 0), (17, .null)]) (w' := [16, 15, 14, 13, 12, 11, 10, 9, 8, 7, 6, 5, 4, 3, 2, 1]) rfl rfl
  generalize (s75.set 16 (.ref q76)) = s80 at hP hD o_s80
  have hP := hP.sub (ws' := [(a0, .inr (13, s80))]) [0] rfl
  have hD := hD.sub (ws' := [(a0, .inr (13, s80))]) [0] (by decide) rfl
  have hK := hK.sub (tys' := []) [] rfl
  refine lv_aload_n hx hb dX10_init_134 rfl (lv_at hl 0 rfl) ?_
  refine lv_sipush (v := 1536) hx hb dX10_init_135 (by decide) ?_
  refine va_newa (atype := .int) (ty := .int) (a0 := (1536, .inl (fun _ : Nat => (0 : Int32)))) (N' := 1536) hx hb (hts (.arrayClass .int) (by decide +kernel)) rfl hK hP hD hS hA (na_I 1536) (by decide) (by decide) (by decide) (Nat.le_of_ble_eq_true rfl) (Nat.le_of_ble_eq_true rfl) dX10_init_138 (fun q81 k82 H hK hP hD hS => ?_)
  have hK : va_K (dC, dI) vwCl [(k82, .int)] s := hK
  have hP : va_P (dC, dI) vwCl [(a0, .inr (13, s80)), (q81, .inl (k82, 1536, .inl ((fun _ : Nat => (0 : Int32)))))] H := hP
  have hD : va_D A [(a0, .inr (13, s80)), (q81, .inl (k82, 1536, .inl ((fun _ : Nat => (0 : Int32)))))] := hD
  have z84 : ∀ j, (fun _ : Nat => (0 : Int32)) j = 0 := fun _ => rfl
  generalize (fun _ : Nat => (0 : Int32)) = f83 at hP hD z84
  refine W.widen (k := 17) (n := 5232) (by omega) (by omega) ?_
  refine va_putF (D := (dC, dI)) (ci := 13) (v := .ref q81) (ty := .array .int) (C := RX10) (T := TX10) (N := 18) hx hb hts (in_k_X10_X10) tyX10 tyX10_ok nmX10 hown hK hP hD hS 0 rfl rfl 17 (by decide) (hts (.fieldLink RX10 62 "HeapWorks$Types" "slotLink" "[I") (by decide +kernel)) (fun _ h9 => h9) rfl hin rfl (by decide +kernel) rfl rfl (by rw [o_s80.2.1]; decide) dX10_init_140 (fun H locs hP hD hS => ?_)
  have hP : va_P (dC, dI) vwCl [(a0, .inr (13, (s80.set 17 (.ref q81)))), (q81, .inl (k82, 1536, .inl f83))] H := hP
  have hD : va_D A [(a0, .inr (13, (s80.set 17 (.ref q81)))), (q81, .inl (k82, 1536, .inl f83))] := hD
  have o_s85 := ow_set o_s80 17 (.ref q81) (by decide) (l' := [(17, .ref q81), (16, .ref q76), (15, .ref q71), (14, .ref q66), (13, .ref q61), (12, .ref q56), (11, .ref q51), (10, .ref q46), (9, .ref q41), (8, .ref q36), (7, .ref q31), (6, .ref q26), (5, .ref q21), (4, .ref q16), (3, .ref q11), (2, .ref q6), (1, .ref q1), (0, .int 0)]) (w' := [17, 16, 15, 14, 13, 12, 11, 10, 9, 8, 7, 6, 5, 4, 3, 2, 1]) rfl rfl
  generalize (s80.set 17 (.ref q81)) = s85 at hP hD o_s85
  have hP := hP.sub (ws' := [(a0, .inr (13, s85))]) [0] rfl
  have hD := hD.sub (ws' := [(a0, .inr (13, s85))]) [0] (by decide) rfl
  have hK := hK.sub (tys' := []) [] rfl
  have hP9 := hP.sub (ws' := [(a0, .inr (13, s85))]) [0] rfl
  have hD9 := hD.sub (ws' := [(a0, .inr (13, s85))]) [0] (by decide) rfl
  have hK9 := hK.sub (tys' := []) [] rfl
  refine W.widen (k := 17) (n := 5232) (by decide) (by decide) ?_
  exact W.vret hx hb hr (fun t ht hW => ⟨⟨s85, rfl, (ow_sub o_s85 [17] rfl), by rw [ht]; exact hP9, va_K.moved hW.alike hK9, hD9⟩, hS.F ht⟩) hS.2.2 dX10_init_143

def l_k_X2 : List Cond := [.methodLink RX2 3 objectInit, .instanceMethod objectInit, .code objectInit ⟨#[0xb1]⟩ 1 none, .fieldLink RX2 9 "HeapWorks$Heap" "types" "LHeapWorks$Types;", .arrayClass .int, .fieldLink RX2 15 "HeapWorks$Heap" "type" "[I", .fieldLink RX2 19 "HeapWorks$Heap" "length" "[I", .fieldLink RX2 22 "HeapWorks$Heap" "first" "[I", .arrayClass .long, .fieldLink RX2 25 "HeapWorks$Heap" "value" "[J", .arrayClass .boolean, .fieldLink RX2 29 "HeapWorks$Heap" "link" "[Z", .fieldLink RX2 35 "HeapWorks$Heap" "statics" "[J", .fieldLink RX2 38 "HeapWorks$Heap" "roots" "[I", .fieldLink RX2 41 "HeapWorks$Heap" "order" "[I", .fieldLink RX2 44 "HeapWorks$Heap" "mark" "[I"]
def w_k_X2 : List Cond := .code yX2_init cX2_init 2 none :: (l_k_X2 ++ (wsX20))
theorem in_k_X2_X2 : ∀ w ∈ wsX20, w ∈ w_k_X2 := fun w h => List.mem_cons_of_mem _ (List.mem_append_right _ (h))
set_option maxHeartbeats 4000000 in
set_option maxRecDepth 100000 in
theorem k_X2 (l : Launch) (dC : Nat → ClassId) (dI : Nat → Nat → Nat) (sz : Nat) (a0 : Nat) (fs0 : List Value) (b0 : Nat) (k_fs0 : fh fs0 14 [(0, .null), (1, .int 0), (2, .int 0), (3, .int 0), (4, .null), (5, .null), (6, .null), (7, .null), (8, .null), (9, .null), (10, .null), (11, .int 0), (12, .null), (13, .null)])  : Met l yX2_init w_k_X2 ({ frames := 1, cells := 9, slots := 10108, locals := 24 }) (va_Pc [.ref a0, .ref b0] (fun U => U.heap.size = sz ∧ Wd dC dI [] (fun _ => True) [(a0, .inr (5, fs0))] U)) (va_Qv (fun (u : List Value × Nat × (Nat → Int32) × ClassId × Nat × (Nat → Int32) × ClassId × Nat × (Nat → Int64) × ClassId × Nat × (Nat → Int32) × ClassId × Nat × (Nat → Int32) × ClassId × Nat × (Nat → Int32) × ClassId) => match u with | (s131, q127, f129, k128, q107, f109, k108, q102, f104, k103, q97, f99, k98, q92, f94, k93, q87, f89, k88) => (ow fs0 (s131) 14 [13, 12, 10, 9, 8, 7, 6, 5, 4, 0] [(13, .ref q127), (8, .ref q107), (7, .ref q102), (6, .ref q97), (5, .ref q92), (4, .ref q87), (0, .ref b0), (1, .int 0), (2, .int 0), (3, .int 0), (11, .int 0)] ∧ (∀ j, f129 j = 0) ∧ (∀ j, f109 j = 0) ∧ (∀ j, f104 j = 0) ∧ (∀ j, f99 j = 0) ∧ (∀ j, f94 j = 0) ∧ (∀ j, f89 j = 0))) (fun (u : List Value × Nat × (Nat → Int32) × ClassId × Nat × (Nat → Int32) × ClassId × Nat × (Nat → Int64) × ClassId × Nat × (Nat → Int32) × ClassId × Nat × (Nat → Int32) × ClassId × Nat × (Nat → Int32) × ClassId) t => match u with | (s131, q127, f129, k128, q107, f109, k108, q102, f104, k103, q97, f99, k98, q92, f94, k93, q87, f89, k88) => Wd dC dI [(k128, .int), (k108, .boolean), (k103, .long), (k98, .int), (k93, .int), (k88, .int)] (va_A [(a0, .inr (5, fs0))] sz) [(a0, .inr (5, s131)), (q127, .inl (k128, 400, .inl f129)), (q107, .inl (k108, 4000, .inl f109)), (q102, .inl (k103, 4000, .inr (.inl f104))), (q97, .inl (k98, 400, .inl f99)), (q92, .inl (k93, 400, .inl f94)), (q87, .inl (k88, 400, .inl f89))] t) (va_A [(a0, .inr (5, fs0))] sz))  9 10108 (va_A [(a0, .inr (5, fs0))] sz) := by
  refine Met.ofW (cc := cX2_init) (maxL := 2) (ret := none) (by decide) rfl ?_
  intro p e s m args below meth c s₁ B hml hv
  obtain ⟨rfl, hsz, hP, hK, hD0⟩ := hv
  have hx := B.exec
  have hb := B.bytes
  have hr := B.returns
  have hts := atoms_spec (ws := w_k_X2) B.pre
  have hown : s.vm.findClass RX2 = some m.cls := findClass_of_methodNamed B.named
  have hlocks := B.notSynchronized
  have hin : meth.name = "<init>" := (name_of_methodNamed B.named B.method).1
  subst hsz
  have hD := hD0.self (sz := s.heap.size)
  generalize hAe : va_A [(a0, .inr (5, fs0))] s.heap.size = A at hD ⊢
  have hA : ∀ q : Nat, s.heap.size ≤ q → A q := fun q h => by rw [← hAe]; exact Or.inr h
  have hS : va_S A s.heap s.heap [] := va_S.rf
  have hl := lv_entry ([.ref a0, .ref b0]) (n := 2) (Nat.le_of_ble_eq_true rfl)
  rw [lg_entry_eq]
  generalize (lg_sl ([.ref a0, .ref b0]) ++ List.replicate (2 - (lg_sl ([.ref a0, .ref b0])).length) Slot.unset).toArray = ls at hl ⊢
  have hl : lv_has ls 2 [(0, .ref a0), (1, .ref b0)] := hl
  have o_fs0 := ow_0 k_fs0
  refine lv_aload_n hx hb dX2_init_0 rfl (lv_at hl 0 rfl) ?_
  refine W.objInit hx hb hown (hts (.methodLink RX2 3 objectInit) (by decide +kernel)) (hts (.instanceMethod objectInit) (by decide +kernel)) (hts (.code objectInit ⟨#[0xb1]⟩ 1 none) (by decide +kernel)) rfl (by rw [hml]; exact hl.1) rfl dX2_init_1 (Nat.le_of_ble_eq_true rfl) (Nat.le_of_ble_eq_true rfl) ?_
  refine W.eq (g2 := F0 m 4 ls []) rfl ?_
  refine lv_aload_n hx hb dX2_init_4 rfl (lv_at hl 0 rfl) ?_
  refine lv_aload_n hx hb dX2_init_5 rfl (lv_at hl 1 rfl) ?_
  refine va_putF (D := (dC, dI)) (ci := 5) (v := .ref b0) (ty := .object "HeapWorks$Types") (C := RX2) (T := TX2) (N := 14) hx hb hts (in_k_X2_X2) tyX2 tyX2_ok nmX2 hown hK hP hD hS 0 rfl rfl 0 (by decide) (hts (.fieldLink RX2 9 "HeapWorks$Heap" "types" "LHeapWorks$Types;") (by decide +kernel)) (fun _ h9 => h9) rfl hin rfl (by decide +kernel) rfl rfl (by rw [o_fs0.2.1]; decide) dX2_init_6 (fun H locs hP hD hS => ?_)
  have hP : va_P (dC, dI) vwCl [(a0, .inr (5, (fs0.set 0 (.ref b0))))] H := hP
  have hD : va_D A [(a0, .inr (5, (fs0.set 0 (.ref b0))))] := hD
  have o_s86 := ow_set o_fs0 0 (.ref b0) (by decide) (l' := [(0, .ref b0), (1, .int 0), (2, .int 0), (3, .int 0), (4, .null), (5, .null), (6, .null), (7, .null), (8, .null), (9, .null), (10, .null), (11, .int 0), (12, .null), (13, .null)]) (w' := [0]) rfl rfl
  generalize (fs0.set 0 (.ref b0)) = s86 at hP hD o_s86
  refine lv_aload_n hx hb dX2_init_9 rfl (lv_at hl 0 rfl) ?_
  refine lv_sipush (v := 400) hx hb dX2_init_10 (by decide) ?_
  refine va_newa (atype := .int) (ty := .int) (a0 := (400, .inl (fun _ : Nat => (0 : Int32)))) (N' := 400) hx hb (hts (.arrayClass .int) (by decide +kernel)) rfl hK hP hD hS hA (na_I 400) (by decide) (by decide) (by decide) (Nat.le_of_ble_eq_true rfl) (Nat.le_of_ble_eq_true rfl) dX2_init_13 (fun q87 k88 H hK hP hD hS => ?_)
  have hK : va_K (dC, dI) vwCl [(k88, .int)] s := hK
  have hP : va_P (dC, dI) vwCl [(a0, .inr (5, s86)), (q87, .inl (k88, 400, .inl ((fun _ : Nat => (0 : Int32)))))] H := hP
  have hD : va_D A [(a0, .inr (5, s86)), (q87, .inl (k88, 400, .inl ((fun _ : Nat => (0 : Int32)))))] := hD
  have z90 : ∀ j, (fun _ : Nat => (0 : Int32)) j = 0 := fun _ => rfl
  generalize (fun _ : Nat => (0 : Int32)) = f89 at hP hD z90
  refine W.widen (k := 1) (n := 400) (by omega) (by omega) ?_
  refine va_putF (D := (dC, dI)) (ci := 5) (v := .ref q87) (ty := .array .int) (C := RX2) (T := TX2) (N := 14) hx hb hts (in_k_X2_X2) tyX2 tyX2_ok nmX2 hown hK hP hD hS 0 rfl rfl 4 (by decide) (hts (.fieldLink RX2 15 "HeapWorks$Heap" "type" "[I") (by decide +kernel)) (fun _ h9 => h9) rfl hin rfl (by decide +kernel) rfl rfl (by rw [o_s86.2.1]; decide) dX2_init_15 (fun H locs hP hD hS => ?_)
  have hP : va_P (dC, dI) vwCl [(a0, .inr (5, (s86.set 4 (.ref q87)))), (q87, .inl (k88, 400, .inl f89))] H := hP
  have hD : va_D A [(a0, .inr (5, (s86.set 4 (.ref q87)))), (q87, .inl (k88, 400, .inl f89))] := hD
  have o_s91 := ow_set o_s86 4 (.ref q87) (by decide) (l' := [(4, .ref q87), (0, .ref b0), (1, .int 0), (2, .int 0), (3, .int 0), (5, .null), (6, .null), (7, .null), (8, .null), (9, .null), (10, .null), (11, .int 0), (12, .null), (13, .null)]) (w' := [4, 0]) rfl rfl
  generalize (s86.set 4 (.ref q87)) = s91 at hP hD o_s91
  refine lv_aload_n hx hb dX2_init_18 rfl (lv_at hl 0 rfl) ?_
  refine lv_sipush (v := 400) hx hb dX2_init_19 (by decide) ?_
  refine va_newa (atype := .int) (ty := .int) (a0 := (400, .inl (fun _ : Nat => (0 : Int32)))) (N' := 400) hx hb (hts (.arrayClass .int) (by decide +kernel)) rfl hK hP hD hS hA (na_I 400) (by decide) (by decide) (by decide) (Nat.le_of_ble_eq_true rfl) (Nat.le_of_ble_eq_true rfl) dX2_init_22 (fun q92 k93 H hK hP hD hS => ?_)
  have hK : va_K (dC, dI) vwCl [(k88, .int), (k93, .int)] s := hK
  have hP : va_P (dC, dI) vwCl [(a0, .inr (5, s91)), (q87, .inl (k88, 400, .inl f89)), (q92, .inl (k93, 400, .inl ((fun _ : Nat => (0 : Int32)))))] H := hP
  have hD : va_D A [(a0, .inr (5, s91)), (q87, .inl (k88, 400, .inl f89)), (q92, .inl (k93, 400, .inl ((fun _ : Nat => (0 : Int32)))))] := hD
  have z95 : ∀ j, (fun _ : Nat => (0 : Int32)) j = 0 := fun _ => rfl
  generalize (fun _ : Nat => (0 : Int32)) = f94 at hP hD z95
  refine W.widen (k := 2) (n := 800) (by omega) (by omega) ?_
  refine va_putF (D := (dC, dI)) (ci := 5) (v := .ref q92) (ty := .array .int) (C := RX2) (T := TX2) (N := 14) hx hb hts (in_k_X2_X2) tyX2 tyX2_ok nmX2 hown hK hP hD hS 0 rfl rfl 5 (by decide) (hts (.fieldLink RX2 19 "HeapWorks$Heap" "length" "[I") (by decide +kernel)) (fun _ h9 => h9) rfl hin rfl (by decide +kernel) rfl rfl (by rw [o_s91.2.1]; decide) dX2_init_24 (fun H locs hP hD hS => ?_)
  have hP : va_P (dC, dI) vwCl [(a0, .inr (5, (s91.set 5 (.ref q92)))), (q87, .inl (k88, 400, .inl f89)), (q92, .inl (k93, 400, .inl f94))] H := hP
  have hD : va_D A [(a0, .inr (5, (s91.set 5 (.ref q92)))), (q87, .inl (k88, 400, .inl f89)), (q92, .inl (k93, 400, .inl f94))] := hD
  have o_s96 := ow_set o_s91 5 (.ref q92) (by decide) (l' := [(5, .ref q92), (4, .ref q87), (0, .ref b0), (1, .int 0), (2, .int 0), (3, .int 0), (6, .null), (7, .null), (8, .null), (9, .null), (10, .null), (11, .int 0), (12, .null), (13, .null)]) (w' := [5, 4, 0]) rfl rfl
  generalize (s91.set 5 (.ref q92)) = s96 at hP hD o_s96
  refine lv_aload_n hx hb dX2_init_27 rfl (lv_at hl 0 rfl) ?_
  refine lv_sipush (v := 400) hx hb dX2_init_28 (by decide) ?_
  refine va_newa (atype := .int) (ty := .int) (a0 := (400, .inl (fun _ : Nat => (0 : Int32)))) (N' := 400) hx hb (hts (.arrayClass .int) (by decide +kernel)) rfl hK hP hD hS hA (na_I 400) (by decide) (by decide) (by decide) (Nat.le_of_ble_eq_true rfl) (Nat.le_of_ble_eq_true rfl) dX2_init_31 (fun q97 k98 H hK hP hD hS => ?_)
  have hK : va_K (dC, dI) vwCl [(k88, .int), (k93, .int), (k98, .int)] s := hK
  have hP : va_P (dC, dI) vwCl [(a0, .inr (5, s96)), (q87, .inl (k88, 400, .inl f89)), (q92, .inl (k93, 400, .inl f94)), (q97, .inl (k98, 400, .inl ((fun _ : Nat => (0 : Int32)))))] H := hP
  have hD : va_D A [(a0, .inr (5, s96)), (q87, .inl (k88, 400, .inl f89)), (q92, .inl (k93, 400, .inl f94)), (q97, .inl (k98, 400, .inl ((fun _ : Nat => (0 : Int32)))))] := hD
  have z100 : ∀ j, (fun _ : Nat => (0 : Int32)) j = 0 := fun _ => rfl
  generalize (fun _ : Nat => (0 : Int32)) = f99 at hP hD z100
  refine W.widen (k := 3) (n := 1200) (by omega) (by omega) ?_
  refine va_putF (D := (dC, dI)) (ci := 5) (v := .ref q97) (ty := .array .int) (C := RX2) (T := TX2) (N := 14) hx hb hts (in_k_X2_X2) tyX2 tyX2_ok nmX2 hown hK hP hD hS 0 rfl rfl 6 (by decide) (hts (.fieldLink RX2 22 "HeapWorks$Heap" "first" "[I") (by decide +kernel)) (fun _ h9 => h9) rfl hin rfl (by decide +kernel) rfl rfl (by rw [o_s96.2.1]; decide) dX2_init_33 (fun H locs hP hD hS => ?_)
  have hP : va_P (dC, dI) vwCl [(a0, .inr (5, (s96.set 6 (.ref q97)))), (q87, .inl (k88, 400, .inl f89)), (q92, .inl (k93, 400, .inl f94)), (q97, .inl (k98, 400, .inl f99))] H := hP
  have hD : va_D A [(a0, .inr (5, (s96.set 6 (.ref q97)))), (q87, .inl (k88, 400, .inl f89)), (q92, .inl (k93, 400, .inl f94)), (q97, .inl (k98, 400, .inl f99))] := hD
  have o_s101 := ow_set o_s96 6 (.ref q97) (by decide) (l' := [(6, .ref q97), (5, .ref q92), (4, .ref q87), (0, .ref b0), (1, .int 0), (2, .int 0), (3, .int 0), (7, .null), (8, .null), (9, .null), (10, .null), (11, .int 0), (12, .null), (13, .null)]) (w' := [6, 5, 4, 0]) rfl rfl
  generalize (s96.set 6 (.ref q97)) = s101 at hP hD o_s101
  refine lv_aload_n hx hb dX2_init_36 rfl (lv_at hl 0 rfl) ?_
  refine lv_sipush (v := 4000) hx hb dX2_init_37 (by decide) ?_
  refine va_newa (atype := .long) (ty := .long) (a0 := (4000, .inr (.inl (fun _ : Nat => (0 : Int64))))) (N' := 4000) hx hb (hts (.arrayClass .long) (by decide +kernel)) rfl hK hP hD hS hA (na_J 4000) (by decide) (by decide) (by decide) (Nat.le_of_ble_eq_true rfl) (Nat.le_of_ble_eq_true rfl) dX2_init_40 (fun q102 k103 H hK hP hD hS => ?_)
  have hK : va_K (dC, dI) vwCl [(k88, .int), (k93, .int), (k98, .int), (k103, .long)] s := hK
  have hP : va_P (dC, dI) vwCl [(a0, .inr (5, s101)), (q87, .inl (k88, 400, .inl f89)), (q92, .inl (k93, 400, .inl f94)), (q97, .inl (k98, 400, .inl f99)), (q102, .inl (k103, 4000, .inr (.inl ((fun _ : Nat => (0 : Int64))))))] H := hP
  have hD : va_D A [(a0, .inr (5, s101)), (q87, .inl (k88, 400, .inl f89)), (q92, .inl (k93, 400, .inl f94)), (q97, .inl (k98, 400, .inl f99)), (q102, .inl (k103, 4000, .inr (.inl ((fun _ : Nat => (0 : Int64))))))] := hD
  have z105 : ∀ j, (fun _ : Nat => (0 : Int64)) j = 0 := fun _ => rfl
  generalize (fun _ : Nat => (0 : Int64)) = f104 at hP hD z105
  refine W.widen (k := 4) (n := 5200) (by omega) (by omega) ?_
  refine va_putF (D := (dC, dI)) (ci := 5) (v := .ref q102) (ty := .array .long) (C := RX2) (T := TX2) (N := 14) hx hb hts (in_k_X2_X2) tyX2 tyX2_ok nmX2 hown hK hP hD hS 0 rfl rfl 7 (by decide) (hts (.fieldLink RX2 25 "HeapWorks$Heap" "value" "[J") (by decide +kernel)) (fun _ h9 => h9) rfl hin rfl (by decide +kernel) rfl rfl (by rw [o_s101.2.1]; decide) dX2_init_42 (fun H locs hP hD hS => ?_)
  have hP : va_P (dC, dI) vwCl [(a0, .inr (5, (s101.set 7 (.ref q102)))), (q87, .inl (k88, 400, .inl f89)), (q92, .inl (k93, 400, .inl f94)), (q97, .inl (k98, 400, .inl f99)), (q102, .inl (k103, 4000, .inr (.inl f104)))] H := hP
  have hD : va_D A [(a0, .inr (5, (s101.set 7 (.ref q102)))), (q87, .inl (k88, 400, .inl f89)), (q92, .inl (k93, 400, .inl f94)), (q97, .inl (k98, 400, .inl f99)), (q102, .inl (k103, 4000, .inr (.inl f104)))] := hD
  have o_s106 := ow_set o_s101 7 (.ref q102) (by decide) (l' := [(7, .ref q102), (6, .ref q97), (5, .ref q92), (4, .ref q87), (0, .ref b0), (1, .int 0), (2, .int 0), (3, .int 0), (8, .null), (9, .null), (10, .null), (11, .int 0), (12, .null), (13, .null)]) (w' := [7, 6, 5, 4, 0]) rfl rfl
  generalize (s101.set 7 (.ref q102)) = s106 at hP hD o_s106
  refine lv_aload_n hx hb dX2_init_45 rfl (lv_at hl 0 rfl) ?_
  refine lv_sipush (v := 4000) hx hb dX2_init_46 (by decide) ?_
  refine va_newa (atype := .boolean) (ty := .boolean) (a0 := (4000, .inl (fun _ : Nat => (0 : Int32)))) (N' := 4000) hx hb (hts (.arrayClass .boolean) (by decide +kernel)) rfl hK hP hD hS hA (na_Z 4000) (by decide) (by decide) (by decide) (Nat.le_of_ble_eq_true rfl) (Nat.le_of_ble_eq_true rfl) dX2_init_49 (fun q107 k108 H hK hP hD hS => ?_)
  have hK : va_K (dC, dI) vwCl [(k88, .int), (k93, .int), (k98, .int), (k103, .long), (k108, .boolean)] s := hK
  have hP : va_P (dC, dI) vwCl [(a0, .inr (5, s106)), (q87, .inl (k88, 400, .inl f89)), (q92, .inl (k93, 400, .inl f94)), (q97, .inl (k98, 400, .inl f99)), (q102, .inl (k103, 4000, .inr (.inl f104))), (q107, .inl (k108, 4000, .inl ((fun _ : Nat => (0 : Int32)))))] H := hP
  have hD : va_D A [(a0, .inr (5, s106)), (q87, .inl (k88, 400, .inl f89)), (q92, .inl (k93, 400, .inl f94)), (q97, .inl (k98, 400, .inl f99)), (q102, .inl (k103, 4000, .inr (.inl f104))), (q107, .inl (k108, 4000, .inl ((fun _ : Nat => (0 : Int32)))))] := hD
  have z110 : ∀ j, (fun _ : Nat => (0 : Int32)) j = 0 := fun _ => rfl
  generalize (fun _ : Nat => (0 : Int32)) = f109 at hP hD z110
  refine W.widen (k := 5) (n := 9200) (by omega) (by omega) ?_
  refine va_putF (D := (dC, dI)) (ci := 5) (v := .ref q107) (ty := .array .boolean) (C := RX2) (T := TX2) (N := 14) hx hb hts (in_k_X2_X2) tyX2 tyX2_ok nmX2 hown hK hP hD hS 0 rfl rfl 8 (by decide) (hts (.fieldLink RX2 29 "HeapWorks$Heap" "link" "[Z") (by decide +kernel)) (fun _ h9 => h9) rfl hin rfl (by decide +kernel) rfl rfl (by rw [o_s106.2.1]; decide) dX2_init_51 (fun H locs hP hD hS => ?_)
  have hP : va_P (dC, dI) vwCl [(a0, .inr (5, (s106.set 8 (.ref q107)))), (q87, .inl (k88, 400, .inl f89)), (q92, .inl (k93, 400, .inl f94)), (q97, .inl (k98, 400, .inl f99)), (q102, .inl (k103, 4000, .inr (.inl f104))), (q107, .inl (k108, 4000, .inl f109))] H := hP
  have hD : va_D A [(a0, .inr (5, (s106.set 8 (.ref q107)))), (q87, .inl (k88, 400, .inl f89)), (q92, .inl (k93, 400, .inl f94)), (q97, .inl (k98, 400, .inl f99)), (q102, .inl (k103, 4000, .inr (.inl f104))), (q107, .inl (k108, 4000, .inl f109))] := hD
  have o_s111 := ow_set o_s106 8 (.ref q107) (by decide) (l' := [(8, .ref q107), (7, .ref q102), (6, .ref q97), (5, .ref q92), (4, .ref q87), (0, .ref b0), (1, .int 0), (2, .int 0), (3, .int 0), (9, .null), (10, .null), (11, .int 0), (12, .null), (13, .null)]) (w' := [8, 7, 6, 5, 4, 0]) rfl rfl
  generalize (s106.set 8 (.ref q107)) = s111 at hP hD o_s111
  refine lv_aload_n hx hb dX2_init_54 rfl (lv_at hl 0 rfl) ?_
  refine lv_bipush (v := 96) hx hb dX2_init_55 (by decide) ?_
  refine va_newa (atype := .long) (ty := .long) (a0 := (96, .inr (.inl (fun _ : Nat => (0 : Int64))))) (N' := 96) hx hb (hts (.arrayClass .long) (by decide +kernel)) rfl hK hP hD hS hA (na_J 96) (by decide) (by decide) (by decide) (Nat.le_of_ble_eq_true rfl) (Nat.le_of_ble_eq_true rfl) dX2_init_57 (fun q112 k113 H hK hP hD hS => ?_)
  have hK : va_K (dC, dI) vwCl [(k88, .int), (k93, .int), (k98, .int), (k103, .long), (k108, .boolean), (k113, .long)] s := hK
  have hP : va_P (dC, dI) vwCl [(a0, .inr (5, s111)), (q87, .inl (k88, 400, .inl f89)), (q92, .inl (k93, 400, .inl f94)), (q97, .inl (k98, 400, .inl f99)), (q102, .inl (k103, 4000, .inr (.inl f104))), (q107, .inl (k108, 4000, .inl f109)), (q112, .inl (k113, 96, .inr (.inl ((fun _ : Nat => (0 : Int64))))))] H := hP
  have hD : va_D A [(a0, .inr (5, s111)), (q87, .inl (k88, 400, .inl f89)), (q92, .inl (k93, 400, .inl f94)), (q97, .inl (k98, 400, .inl f99)), (q102, .inl (k103, 4000, .inr (.inl f104))), (q107, .inl (k108, 4000, .inl f109)), (q112, .inl (k113, 96, .inr (.inl ((fun _ : Nat => (0 : Int64))))))] := hD
  have z115 : ∀ j, (fun _ : Nat => (0 : Int64)) j = 0 := fun _ => rfl
  generalize (fun _ : Nat => (0 : Int64)) = f114 at hP hD z115
  refine W.widen (k := 6) (n := 9296) (by omega) (by omega) ?_
  refine va_putF (D := (dC, dI)) (ci := 5) (v := .ref q112) (ty := .array .long) (C := RX2) (T := TX2) (N := 14) hx hb hts (in_k_X2_X2) tyX2 tyX2_ok nmX2 hown hK hP hD hS 0 rfl rfl 9 (by decide) (hts (.fieldLink RX2 35 "HeapWorks$Heap" "statics" "[J") (by decide +kernel)) (fun _ h9 => h9) rfl hin rfl (by decide +kernel) rfl rfl (by rw [o_s111.2.1]; decide) dX2_init_59 (fun H locs hP hD hS => ?_)
  have hP : va_P (dC, dI) vwCl [(a0, .inr (5, (s111.set 9 (.ref q112)))), (q87, .inl (k88, 400, .inl f89)), (q92, .inl (k93, 400, .inl f94)), (q97, .inl (k98, 400, .inl f99)), (q102, .inl (k103, 4000, .inr (.inl f104))), (q107, .inl (k108, 4000, .inl f109)), (q112, .inl (k113, 96, .inr (.inl f114)))] H := hP
  have hD : va_D A [(a0, .inr (5, (s111.set 9 (.ref q112)))), (q87, .inl (k88, 400, .inl f89)), (q92, .inl (k93, 400, .inl f94)), (q97, .inl (k98, 400, .inl f99)), (q102, .inl (k103, 4000, .inr (.inl f104))), (q107, .inl (k108, 4000, .inl f109)), (q112, .inl (k113, 96, .inr (.inl f114)))] := hD
  have o_s116 := ow_set o_s111 9 (.ref q112) (by decide) (l' := [(9, .ref q112), (8, .ref q107), (7, .ref q102), (6, .ref q97), (5, .ref q92), (4, .ref q87), (0, .ref b0), (1, .int 0), (2, .int 0), (3, .int 0), (10, .null), (11, .int 0), (12, .null), (13, .null)]) (w' := [9, 8, 7, 6, 5, 4, 0]) rfl rfl
  generalize (s111.set 9 (.ref q112)) = s116 at hP hD o_s116
  have hP := hP.sub (ws' := [(a0, .inr (5, s116)), (q87, .inl (k88, 400, .inl f89)), (q92, .inl (k93, 400, .inl f94)), (q97, .inl (k98, 400, .inl f99)), (q102, .inl (k103, 4000, .inr (.inl f104))), (q107, .inl (k108, 4000, .inl f109))]) [0, 1, 2, 3, 4, 5] rfl
  have hD := hD.sub (ws' := [(a0, .inr (5, s116)), (q87, .inl (k88, 400, .inl f89)), (q92, .inl (k93, 400, .inl f94)), (q97, .inl (k98, 400, .inl f99)), (q102, .inl (k103, 4000, .inr (.inl f104))), (q107, .inl (k108, 4000, .inl f109))]) [0, 1, 2, 3, 4, 5] (by decide) rfl
  have hK := hK.sub (tys' := [(k88, .int), (k93, .int), (k98, .int), (k103, .long), (k108, .boolean)]) [0, 1, 2, 3, 4] rfl
  refine lv_aload_n hx hb dX2_init_62 rfl (lv_at hl 0 rfl) ?_
  refine lv_bipush (v := 12) hx hb dX2_init_63 (by decide) ?_
  refine va_newa (atype := .int) (ty := .int) (a0 := (12, .inl (fun _ : Nat => (0 : Int32)))) (N' := 12) hx hb (hts (.arrayClass .int) (by decide +kernel)) rfl hK hP hD hS hA (na_I 12) (by decide) (by decide) (by decide) (Nat.le_of_ble_eq_true rfl) (Nat.le_of_ble_eq_true rfl) dX2_init_65 (fun q117 k118 H hK hP hD hS => ?_)
  have hK : va_K (dC, dI) vwCl [(k88, .int), (k93, .int), (k98, .int), (k103, .long), (k108, .boolean), (k118, .int)] s := hK
  have hP : va_P (dC, dI) vwCl [(a0, .inr (5, s116)), (q87, .inl (k88, 400, .inl f89)), (q92, .inl (k93, 400, .inl f94)), (q97, .inl (k98, 400, .inl f99)), (q102, .inl (k103, 4000, .inr (.inl f104))), (q107, .inl (k108, 4000, .inl f109)), (q117, .inl (k118, 12, .inl ((fun _ : Nat => (0 : Int32)))))] H := hP
  have hD : va_D A [(a0, .inr (5, s116)), (q87, .inl (k88, 400, .inl f89)), (q92, .inl (k93, 400, .inl f94)), (q97, .inl (k98, 400, .inl f99)), (q102, .inl (k103, 4000, .inr (.inl f104))), (q107, .inl (k108, 4000, .inl f109)), (q117, .inl (k118, 12, .inl ((fun _ : Nat => (0 : Int32)))))] := hD
  have z120 : ∀ j, (fun _ : Nat => (0 : Int32)) j = 0 := fun _ => rfl
  generalize (fun _ : Nat => (0 : Int32)) = f119 at hP hD z120
  refine W.widen (k := 7) (n := 9308) (by omega) (by omega) ?_
  refine va_putF (D := (dC, dI)) (ci := 5) (v := .ref q117) (ty := .array .int) (C := RX2) (T := TX2) (N := 14) hx hb hts (in_k_X2_X2) tyX2 tyX2_ok nmX2 hown hK hP hD hS 0 rfl rfl 10 (by decide) (hts (.fieldLink RX2 38 "HeapWorks$Heap" "roots" "[I") (by decide +kernel)) (fun _ h9 => h9) rfl hin rfl (by decide +kernel) rfl rfl (by rw [o_s116.2.1]; decide) dX2_init_67 (fun H locs hP hD hS => ?_)
  have hP : va_P (dC, dI) vwCl [(a0, .inr (5, (s116.set 10 (.ref q117)))), (q87, .inl (k88, 400, .inl f89)), (q92, .inl (k93, 400, .inl f94)), (q97, .inl (k98, 400, .inl f99)), (q102, .inl (k103, 4000, .inr (.inl f104))), (q107, .inl (k108, 4000, .inl f109)), (q117, .inl (k118, 12, .inl f119))] H := hP
  have hD : va_D A [(a0, .inr (5, (s116.set 10 (.ref q117)))), (q87, .inl (k88, 400, .inl f89)), (q92, .inl (k93, 400, .inl f94)), (q97, .inl (k98, 400, .inl f99)), (q102, .inl (k103, 4000, .inr (.inl f104))), (q107, .inl (k108, 4000, .inl f109)), (q117, .inl (k118, 12, .inl f119))] := hD
  have o_s121 := ow_set o_s116 10 (.ref q117) (by decide) (l' := [(10, .ref q117), (9, .ref q112), (8, .ref q107), (7, .ref q102), (6, .ref q97), (5, .ref q92), (4, .ref q87), (0, .ref b0), (1, .int 0), (2, .int 0), (3, .int 0), (11, .int 0), (12, .null), (13, .null)]) (w' := [10, 9, 8, 7, 6, 5, 4, 0]) rfl rfl
  generalize (s116.set 10 (.ref q117)) = s121 at hP hD o_s121
  have hP := hP.sub (ws' := [(a0, .inr (5, s121)), (q87, .inl (k88, 400, .inl f89)), (q92, .inl (k93, 400, .inl f94)), (q97, .inl (k98, 400, .inl f99)), (q102, .inl (k103, 4000, .inr (.inl f104))), (q107, .inl (k108, 4000, .inl f109))]) [0, 1, 2, 3, 4, 5] rfl
  have hD := hD.sub (ws' := [(a0, .inr (5, s121)), (q87, .inl (k88, 400, .inl f89)), (q92, .inl (k93, 400, .inl f94)), (q97, .inl (k98, 400, .inl f99)), (q102, .inl (k103, 4000, .inr (.inl f104))), (q107, .inl (k108, 4000, .inl f109))]) [0, 1, 2, 3, 4, 5] (by decide) rfl
  have hK := hK.sub (tys' := [(k88, .int), (k93, .int), (k98, .int), (k103, .long), (k108, .boolean)]) [0, 1, 2, 3, 4] rfl
  refine lv_aload_n hx hb dX2_init_70 rfl (lv_at hl 0 rfl) ?_
  refine lv_sipush (v := 400) hx hb dX2_init_71 (by decide) ?_
  refine va_newa (atype := .int) (ty := .int) (a0 := (400, .inl (fun _ : Nat => (0 : Int32)))) (N' := 400) hx hb (hts (.arrayClass .int) (by decide +kernel)) rfl hK hP hD hS hA (na_I 400) (by decide) (by decide) (by decide) (Nat.le_of_ble_eq_true rfl) (Nat.le_of_ble_eq_true rfl) dX2_init_74 (fun q122 k123 H hK hP hD hS => ?_)
  have hK : va_K (dC, dI) vwCl [(k88, .int), (k93, .int), (k98, .int), (k103, .long), (k108, .boolean), (k123, .int)] s := hK
  have hP : va_P (dC, dI) vwCl [(a0, .inr (5, s121)), (q87, .inl (k88, 400, .inl f89)), (q92, .inl (k93, 400, .inl f94)), (q97, .inl (k98, 400, .inl f99)), (q102, .inl (k103, 4000, .inr (.inl f104))), (q107, .inl (k108, 4000, .inl f109)), (q122, .inl (k123, 400, .inl ((fun _ : Nat => (0 : Int32)))))] H := hP
  have hD : va_D A [(a0, .inr (5, s121)), (q87, .inl (k88, 400, .inl f89)), (q92, .inl (k93, 400, .inl f94)), (q97, .inl (k98, 400, .inl f99)), (q102, .inl (k103, 4000, .inr (.inl f104))), (q107, .inl (k108, 4000, .inl f109)), (q122, .inl (k123, 400, .inl ((fun _ : Nat => (0 : Int32)))))] := hD
  have z125 : ∀ j, (fun _ : Nat => (0 : Int32)) j = 0 := fun _ => rfl
  generalize (fun _ : Nat => (0 : Int32)) = f124 at hP hD z125
  refine W.widen (k := 8) (n := 9708) (by omega) (by omega) ?_
  refine va_putF (D := (dC, dI)) (ci := 5) (v := .ref q122) (ty := .array .int) (C := RX2) (T := TX2) (N := 14) hx hb hts (in_k_X2_X2) tyX2 tyX2_ok nmX2 hown hK hP hD hS 0 rfl rfl 12 (by decide) (hts (.fieldLink RX2 41 "HeapWorks$Heap" "order" "[I") (by decide +kernel)) (fun _ h9 => h9) rfl hin rfl (by decide +kernel) rfl rfl (by rw [o_s121.2.1]; decide) dX2_init_76 (fun H locs hP hD hS => ?_)
  have hP : va_P (dC, dI) vwCl [(a0, .inr (5, (s121.set 12 (.ref q122)))), (q87, .inl (k88, 400, .inl f89)), (q92, .inl (k93, 400, .inl f94)), (q97, .inl (k98, 400, .inl f99)), (q102, .inl (k103, 4000, .inr (.inl f104))), (q107, .inl (k108, 4000, .inl f109)), (q122, .inl (k123, 400, .inl f124))] H := hP
  have hD : va_D A [(a0, .inr (5, (s121.set 12 (.ref q122)))), (q87, .inl (k88, 400, .inl f89)), (q92, .inl (k93, 400, .inl f94)), (q97, .inl (k98, 400, .inl f99)), (q102, .inl (k103, 4000, .inr (.inl f104))), (q107, .inl (k108, 4000, .inl f109)), (q122, .inl (k123, 400, .inl f124))] := hD
  have o_s126 := ow_set o_s121 12 (.ref q122) (by decide) (l' := [(12, .ref q122), (10, .ref q117), (9, .ref q112), (8, .ref q107), (7, .ref q102), (6, .ref q97), (5, .ref q92), (4, .ref q87), (0, .ref b0), (1, .int 0), (2, .int 0), (3, .int 0), (11, .int 0), (13, .null)]) (w' := [12, 10, 9, 8, 7, 6, 5, 4, 0]) rfl rfl
  generalize (s121.set 12 (.ref q122)) = s126 at hP hD o_s126
  have hP := hP.sub (ws' := [(a0, .inr (5, s126)), (q87, .inl (k88, 400, .inl f89)), (q92, .inl (k93, 400, .inl f94)), (q97, .inl (k98, 400, .inl f99)), (q102, .inl (k103, 4000, .inr (.inl f104))), (q107, .inl (k108, 4000, .inl f109))]) [0, 1, 2, 3, 4, 5] rfl
  have hD := hD.sub (ws' := [(a0, .inr (5, s126)), (q87, .inl (k88, 400, .inl f89)), (q92, .inl (k93, 400, .inl f94)), (q97, .inl (k98, 400, .inl f99)), (q102, .inl (k103, 4000, .inr (.inl f104))), (q107, .inl (k108, 4000, .inl f109))]) [0, 1, 2, 3, 4, 5] (by decide) rfl
  have hK := hK.sub (tys' := [(k88, .int), (k93, .int), (k98, .int), (k103, .long), (k108, .boolean)]) [0, 1, 2, 3, 4] rfl
  refine lv_aload_n hx hb dX2_init_79 rfl (lv_at hl 0 rfl) ?_
  refine lv_sipush (v := 400) hx hb dX2_init_80 (by decide) ?_
  refine va_newa (atype := .int) (ty := .int) (a0 := (400, .inl (fun _ : Nat => (0 : Int32)))) (N' := 400) hx hb (hts (.arrayClass .int) (by decide +kernel)) rfl hK hP hD hS hA (na_I 400) (by decide) (by decide) (by decide) (Nat.le_of_ble_eq_true rfl) (Nat.le_of_ble_eq_true rfl) dX2_init_83 (fun q127 k128 H hK hP hD hS => ?_)
  have hK : va_K (dC, dI) vwCl [(k88, .int), (k93, .int), (k98, .int), (k103, .long), (k108, .boolean), (k128, .int)] s := hK
  have hP : va_P (dC, dI) vwCl [(a0, .inr (5, s126)), (q87, .inl (k88, 400, .inl f89)), (q92, .inl (k93, 400, .inl f94)), (q97, .inl (k98, 400, .inl f99)), (q102, .inl (k103, 4000, .inr (.inl f104))), (q107, .inl (k108, 4000, .inl f109)), (q127, .inl (k128, 400, .inl ((fun _ : Nat => (0 : Int32)))))] H := hP
  have hD : va_D A [(a0, .inr (5, s126)), (q87, .inl (k88, 400, .inl f89)), (q92, .inl (k93, 400, .inl f94)), (q97, .inl (k98, 400, .inl f99)), (q102, .inl (k103, 4000, .inr (.inl f104))), (q107, .inl (k108, 4000, .inl f109)), (q127, .inl (k128, 400, .inl ((fun _ : Nat => (0 : Int32)))))] := hD
  have z130 : ∀ j, (fun _ : Nat => (0 : Int32)) j = 0 := fun _ => rfl
  generalize (fun _ : Nat => (0 : Int32)) = f129 at hP hD z130
  refine W.widen (k := 9) (n := 10108) (by omega) (by omega) ?_
  refine va_putF (D := (dC, dI)) (ci := 5) (v := .ref q127) (ty := .array .int) (C := RX2) (T := TX2) (N := 14) hx hb hts (in_k_X2_X2) tyX2 tyX2_ok nmX2 hown hK hP hD hS 0 rfl rfl 13 (by decide) (hts (.fieldLink RX2 44 "HeapWorks$Heap" "mark" "[I") (by decide +kernel)) (fun _ h9 => h9) rfl hin rfl (by decide +kernel) rfl rfl (by rw [o_s126.2.1]; decide) dX2_init_85 (fun H locs hP hD hS => ?_)
  have hP : va_P (dC, dI) vwCl [(a0, .inr (5, (s126.set 13 (.ref q127)))), (q87, .inl (k88, 400, .inl f89)), (q92, .inl (k93, 400, .inl f94)), (q97, .inl (k98, 400, .inl f99)), (q102, .inl (k103, 4000, .inr (.inl f104))), (q107, .inl (k108, 4000, .inl f109)), (q127, .inl (k128, 400, .inl f129))] H := hP
  have hD : va_D A [(a0, .inr (5, (s126.set 13 (.ref q127)))), (q87, .inl (k88, 400, .inl f89)), (q92, .inl (k93, 400, .inl f94)), (q97, .inl (k98, 400, .inl f99)), (q102, .inl (k103, 4000, .inr (.inl f104))), (q107, .inl (k108, 4000, .inl f109)), (q127, .inl (k128, 400, .inl f129))] := hD
  have o_s131 := ow_set o_s126 13 (.ref q127) (by decide) (l' := [(13, .ref q127), (12, .ref q122), (10, .ref q117), (9, .ref q112), (8, .ref q107), (7, .ref q102), (6, .ref q97), (5, .ref q92), (4, .ref q87), (0, .ref b0), (1, .int 0), (2, .int 0), (3, .int 0), (11, .int 0)]) (w' := [13, 12, 10, 9, 8, 7, 6, 5, 4, 0]) rfl rfl
  generalize (s126.set 13 (.ref q127)) = s131 at hP hD o_s131
  have hP9 := hP.sub (ws' := [(a0, .inr (5, s131)), (q127, .inl (k128, 400, .inl f129)), (q107, .inl (k108, 4000, .inl f109)), (q102, .inl (k103, 4000, .inr (.inl f104))), (q97, .inl (k98, 400, .inl f99)), (q92, .inl (k93, 400, .inl f94)), (q87, .inl (k88, 400, .inl f89))]) [0, 6, 5, 4, 3, 2, 1] rfl
  have hD9 := hD.sub (ws' := [(a0, .inr (5, s131)), (q127, .inl (k128, 400, .inl f129)), (q107, .inl (k108, 4000, .inl f109)), (q102, .inl (k103, 4000, .inr (.inl f104))), (q97, .inl (k98, 400, .inl f99)), (q92, .inl (k93, 400, .inl f94)), (q87, .inl (k88, 400, .inl f89))]) [0, 6, 5, 4, 3, 2, 1] (by decide) rfl
  have hK9 := hK.sub (tys' := [(k128, .int), (k108, .boolean), (k103, .long), (k98, .int), (k93, .int), (k88, .int)]) [5, 4, 3, 2, 1, 0] rfl
  refine W.widen (k := 9) (n := 10108) (by decide) (by decide) ?_
  exact W.vret hx hb hr (fun t ht hW => ⟨⟨(s131, q127, f129, k128, q107, f109, k108, q102, f104, k103, q97, f99, k98, q92, f94, k93, q87, f89, k88), rfl, ⟨(ow_sub o_s131 [0, 4, 5, 6, 7, 8, 9, 10, 11, 12, 13] rfl), z130, z110, z105, z100, z95, z90⟩, by rw [ht]; exact hP9, va_K.moved hW.alike hK9, hD9⟩, hS.F ht⟩) hS.2.2 dX2_init_88

def l_k_X3 : List Cond := [.methodLink RX3 3 objectInit, .instanceMethod objectInit, .code objectInit ⟨#[0xb1]⟩ 1 none, .fieldLink RX3 9 "HeapWorks$Journal" "types" "LHeapWorks$Types;", .arrayClass .int, .fieldLink RX3 15 "HeapWorks$Journal" "undoWrite" "[I", .fieldLink RX3 19 "HeapWorks$Journal" "undoPlace" "[I", .arrayClass .long, .fieldLink RX3 22 "HeapWorks$Journal" "undoValue" "[J", .fieldLink RX3 26 "HeapWorks$Journal" "watchType" "[I", .fieldLink RX3 29 "HeapWorks$Journal" "watchField" "[I", .fieldLink RX3 32 "HeapWorks$Journal" "watchCondition" "[I", .fieldLink RX3 35 "HeapWorks$Journal" "rowCount" "[I", .fieldLink RX3 38 "HeapWorks$Journal" "rowParts" "[J"]
def w_k_X3 : List Cond := .code yX3_init cX3_init 2 none :: (l_k_X3 ++ (wsX30))
theorem in_k_X3_X3 : ∀ w ∈ wsX30, w ∈ w_k_X3 := fun w h => List.mem_cons_of_mem _ (List.mem_append_right _ (h))
set_option maxHeartbeats 4000000 in
set_option maxRecDepth 100000 in
theorem k_X3 (l : Launch) (dC : Nat → ClassId) (dI : Nat → Nat → Nat) (sz : Nat) (a0 : Nat) (fs0 : List Value) (b0 : Nat) (k_fs0 : fh fs0 13 [(0, .null), (1, .int 0), (2, .null), (3, .null), (4, .null), (5, .int 0), (6, .int 0), (7, .int 0), (8, .null), (9, .null), (10, .null), (11, .null), (12, .null)])  : Met l yX3_init w_k_X3 ({ frames := 1, cells := 8, slots := 468, locals := 24 }) (va_Pc [.ref a0, .ref b0] (fun U => U.heap.size = sz ∧ Wd dC dI [] (fun _ => True) [(a0, .inr (6, fs0))] U)) (va_Qv (fun (u : List Value) => ow fs0 (u) 13 [12, 11, 10, 9, 8, 4, 3, 2, 0] [(0, .ref b0), (1, .int 0), (5, .int 0), (6, .int 0), (7, .int 0)]) (fun (u : List Value) t => Wd dC dI [] (va_A [(a0, .inr (6, fs0))] sz) [(a0, .inr (6, (u)))] t) (va_A [(a0, .inr (6, fs0))] sz))  8 468 (va_A [(a0, .inr (6, fs0))] sz) := by
  refine Met.ofW (cc := cX3_init) (maxL := 2) (ret := none) (by decide) rfl ?_
  intro p e s m args below meth c s₁ B hml hv
  obtain ⟨rfl, hsz, hP, hK, hD0⟩ := hv
  have hx := B.exec
  have hb := B.bytes
  have hr := B.returns
  have hts := atoms_spec (ws := w_k_X3) B.pre
  have hown : s.vm.findClass RX3 = some m.cls := findClass_of_methodNamed B.named
  have hlocks := B.notSynchronized
  have hin : meth.name = "<init>" := (name_of_methodNamed B.named B.method).1
  subst hsz
  have hD := hD0.self (sz := s.heap.size)
  generalize hAe : va_A [(a0, .inr (6, fs0))] s.heap.size = A at hD ⊢
  have hA : ∀ q : Nat, s.heap.size ≤ q → A q := fun q h => by rw [← hAe]; exact Or.inr h
  have hS : va_S A s.heap s.heap [] := va_S.rf
  have hl := lv_entry ([.ref a0, .ref b0]) (n := 2) (Nat.le_of_ble_eq_true rfl)
  rw [lg_entry_eq]
  generalize (lg_sl ([.ref a0, .ref b0]) ++ List.replicate (2 - (lg_sl ([.ref a0, .ref b0])).length) Slot.unset).toArray = ls at hl ⊢
  have hl : lv_has ls 2 [(0, .ref a0), (1, .ref b0)] := hl
  have o_fs0 := ow_0 k_fs0
  refine lv_aload_n hx hb dX3_init_0 rfl (lv_at hl 0 rfl) ?_
  refine W.objInit hx hb hown (hts (.methodLink RX3 3 objectInit) (by decide +kernel)) (hts (.instanceMethod objectInit) (by decide +kernel)) (hts (.code objectInit ⟨#[0xb1]⟩ 1 none) (by decide +kernel)) rfl (by rw [hml]; exact hl.1) rfl dX3_init_1 (Nat.le_of_ble_eq_true rfl) (Nat.le_of_ble_eq_true rfl) ?_
  refine W.eq (g2 := F0 m 4 ls []) rfl ?_
  refine lv_aload_n hx hb dX3_init_4 rfl (lv_at hl 0 rfl) ?_
  refine lv_aload_n hx hb dX3_init_5 rfl (lv_at hl 1 rfl) ?_
  refine va_putF (D := (dC, dI)) (ci := 6) (v := .ref b0) (ty := .object "HeapWorks$Types") (C := RX3) (T := TX3) (N := 13) hx hb hts (in_k_X3_X3) tyX3 tyX3_ok nmX3 hown hK hP hD hS 0 rfl rfl 0 (by decide) (hts (.fieldLink RX3 9 "HeapWorks$Journal" "types" "LHeapWorks$Types;") (by decide +kernel)) (fun _ h9 => h9) rfl hin rfl (by decide +kernel) rfl rfl (by rw [o_fs0.2.1]; decide) dX3_init_6 (fun H locs hP hD hS => ?_)
  have hP : va_P (dC, dI) vwCl [(a0, .inr (6, (fs0.set 0 (.ref b0))))] H := hP
  have hD : va_D A [(a0, .inr (6, (fs0.set 0 (.ref b0))))] := hD
  have o_s132 := ow_set o_fs0 0 (.ref b0) (by decide) (l' := [(0, .ref b0), (1, .int 0), (2, .null), (3, .null), (4, .null), (5, .int 0), (6, .int 0), (7, .int 0), (8, .null), (9, .null), (10, .null), (11, .null), (12, .null)]) (w' := [0]) rfl rfl
  generalize (fs0.set 0 (.ref b0)) = s132 at hP hD o_s132
  refine lv_aload_n hx hb dX3_init_9 rfl (lv_at hl 0 rfl) ?_
  refine lv_bipush (v := 100) hx hb dX3_init_10 (by decide) ?_
  refine va_newa (atype := .int) (ty := .int) (a0 := (100, .inl (fun _ : Nat => (0 : Int32)))) (N' := 100) hx hb (hts (.arrayClass .int) (by decide +kernel)) rfl hK hP hD hS hA (na_I 100) (by decide) (by decide) (by decide) (Nat.le_of_ble_eq_true rfl) (Nat.le_of_ble_eq_true rfl) dX3_init_12 (fun q133 k134 H hK hP hD hS => ?_)
  have hK : va_K (dC, dI) vwCl [(k134, .int)] s := hK
  have hP : va_P (dC, dI) vwCl [(a0, .inr (6, s132)), (q133, .inl (k134, 100, .inl ((fun _ : Nat => (0 : Int32)))))] H := hP
  have hD : va_D A [(a0, .inr (6, s132)), (q133, .inl (k134, 100, .inl ((fun _ : Nat => (0 : Int32)))))] := hD
  have z136 : ∀ j, (fun _ : Nat => (0 : Int32)) j = 0 := fun _ => rfl
  generalize (fun _ : Nat => (0 : Int32)) = f135 at hP hD z136
  refine W.widen (k := 1) (n := 100) (by omega) (by omega) ?_
  refine va_putF (D := (dC, dI)) (ci := 6) (v := .ref q133) (ty := .array .int) (C := RX3) (T := TX3) (N := 13) hx hb hts (in_k_X3_X3) tyX3 tyX3_ok nmX3 hown hK hP hD hS 0 rfl rfl 2 (by decide) (hts (.fieldLink RX3 15 "HeapWorks$Journal" "undoWrite" "[I") (by decide +kernel)) (fun _ h9 => h9) rfl hin rfl (by decide +kernel) rfl rfl (by rw [o_s132.2.1]; decide) dX3_init_14 (fun H locs hP hD hS => ?_)
  have hP : va_P (dC, dI) vwCl [(a0, .inr (6, (s132.set 2 (.ref q133)))), (q133, .inl (k134, 100, .inl f135))] H := hP
  have hD : va_D A [(a0, .inr (6, (s132.set 2 (.ref q133)))), (q133, .inl (k134, 100, .inl f135))] := hD
  have o_s137 := ow_set o_s132 2 (.ref q133) (by decide) (l' := [(2, .ref q133), (0, .ref b0), (1, .int 0), (3, .null), (4, .null), (5, .int 0), (6, .int 0), (7, .int 0), (8, .null), (9, .null), (10, .null), (11, .null), (12, .null)]) (w' := [2, 0]) rfl rfl
  generalize (s132.set 2 (.ref q133)) = s137 at hP hD o_s137
  have hP := hP.sub (ws' := [(a0, .inr (6, s137))]) [0] rfl
  have hD := hD.sub (ws' := [(a0, .inr (6, s137))]) [0] (by decide) rfl
  have hK := hK.sub (tys' := []) [] rfl
  refine lv_aload_n hx hb dX3_init_17 rfl (lv_at hl 0 rfl) ?_
  refine lv_bipush (v := 100) hx hb dX3_init_18 (by decide) ?_
  refine va_newa (atype := .int) (ty := .int) (a0 := (100, .inl (fun _ : Nat => (0 : Int32)))) (N' := 100) hx hb (hts (.arrayClass .int) (by decide +kernel)) rfl hK hP hD hS hA (na_I 100) (by decide) (by decide) (by decide) (Nat.le_of_ble_eq_true rfl) (Nat.le_of_ble_eq_true rfl) dX3_init_20 (fun q138 k139 H hK hP hD hS => ?_)
  have hK : va_K (dC, dI) vwCl [(k139, .int)] s := hK
  have hP : va_P (dC, dI) vwCl [(a0, .inr (6, s137)), (q138, .inl (k139, 100, .inl ((fun _ : Nat => (0 : Int32)))))] H := hP
  have hD : va_D A [(a0, .inr (6, s137)), (q138, .inl (k139, 100, .inl ((fun _ : Nat => (0 : Int32)))))] := hD
  have z141 : ∀ j, (fun _ : Nat => (0 : Int32)) j = 0 := fun _ => rfl
  generalize (fun _ : Nat => (0 : Int32)) = f140 at hP hD z141
  refine W.widen (k := 2) (n := 200) (by omega) (by omega) ?_
  refine va_putF (D := (dC, dI)) (ci := 6) (v := .ref q138) (ty := .array .int) (C := RX3) (T := TX3) (N := 13) hx hb hts (in_k_X3_X3) tyX3 tyX3_ok nmX3 hown hK hP hD hS 0 rfl rfl 3 (by decide) (hts (.fieldLink RX3 19 "HeapWorks$Journal" "undoPlace" "[I") (by decide +kernel)) (fun _ h9 => h9) rfl hin rfl (by decide +kernel) rfl rfl (by rw [o_s137.2.1]; decide) dX3_init_22 (fun H locs hP hD hS => ?_)
  have hP : va_P (dC, dI) vwCl [(a0, .inr (6, (s137.set 3 (.ref q138)))), (q138, .inl (k139, 100, .inl f140))] H := hP
  have hD : va_D A [(a0, .inr (6, (s137.set 3 (.ref q138)))), (q138, .inl (k139, 100, .inl f140))] := hD
  have o_s142 := ow_set o_s137 3 (.ref q138) (by decide) (l' := [(3, .ref q138), (2, .ref q133), (0, .ref b0), (1, .int 0), (4, .null), (5, .int 0), (6, .int 0), (7, .int 0), (8, .null), (9, .null), (10, .null), (11, .null), (12, .null)]) (w' := [3, 2, 0]) rfl rfl
  generalize (s137.set 3 (.ref q138)) = s142 at hP hD o_s142
  have hP := hP.sub (ws' := [(a0, .inr (6, s142))]) [0] rfl
  have hD := hD.sub (ws' := [(a0, .inr (6, s142))]) [0] (by decide) rfl
  have hK := hK.sub (tys' := []) [] rfl
  refine lv_aload_n hx hb dX3_init_25 rfl (lv_at hl 0 rfl) ?_
  refine lv_bipush (v := 100) hx hb dX3_init_26 (by decide) ?_
  refine va_newa (atype := .long) (ty := .long) (a0 := (100, .inr (.inl (fun _ : Nat => (0 : Int64))))) (N' := 100) hx hb (hts (.arrayClass .long) (by decide +kernel)) rfl hK hP hD hS hA (na_J 100) (by decide) (by decide) (by decide) (Nat.le_of_ble_eq_true rfl) (Nat.le_of_ble_eq_true rfl) dX3_init_28 (fun q143 k144 H hK hP hD hS => ?_)
  have hK : va_K (dC, dI) vwCl [(k144, .long)] s := hK
  have hP : va_P (dC, dI) vwCl [(a0, .inr (6, s142)), (q143, .inl (k144, 100, .inr (.inl ((fun _ : Nat => (0 : Int64))))))] H := hP
  have hD : va_D A [(a0, .inr (6, s142)), (q143, .inl (k144, 100, .inr (.inl ((fun _ : Nat => (0 : Int64))))))] := hD
  have z146 : ∀ j, (fun _ : Nat => (0 : Int64)) j = 0 := fun _ => rfl
  generalize (fun _ : Nat => (0 : Int64)) = f145 at hP hD z146
  refine W.widen (k := 3) (n := 300) (by omega) (by omega) ?_
  refine va_putF (D := (dC, dI)) (ci := 6) (v := .ref q143) (ty := .array .long) (C := RX3) (T := TX3) (N := 13) hx hb hts (in_k_X3_X3) tyX3 tyX3_ok nmX3 hown hK hP hD hS 0 rfl rfl 4 (by decide) (hts (.fieldLink RX3 22 "HeapWorks$Journal" "undoValue" "[J") (by decide +kernel)) (fun _ h9 => h9) rfl hin rfl (by decide +kernel) rfl rfl (by rw [o_s142.2.1]; decide) dX3_init_30 (fun H locs hP hD hS => ?_)
  have hP : va_P (dC, dI) vwCl [(a0, .inr (6, (s142.set 4 (.ref q143)))), (q143, .inl (k144, 100, .inr (.inl f145)))] H := hP
  have hD : va_D A [(a0, .inr (6, (s142.set 4 (.ref q143)))), (q143, .inl (k144, 100, .inr (.inl f145)))] := hD
  have o_s147 := ow_set o_s142 4 (.ref q143) (by decide) (l' := [(4, .ref q143), (3, .ref q138), (2, .ref q133), (0, .ref b0), (1, .int 0), (5, .int 0), (6, .int 0), (7, .int 0), (8, .null), (9, .null), (10, .null), (11, .null), (12, .null)]) (w' := [4, 3, 2, 0]) rfl rfl
  generalize (s142.set 4 (.ref q143)) = s147 at hP hD o_s147
  have hP := hP.sub (ws' := [(a0, .inr (6, s147))]) [0] rfl
  have hD := hD.sub (ws' := [(a0, .inr (6, s147))]) [0] (by decide) rfl
  have hK := hK.sub (tys' := []) [] rfl
  refine lv_aload_n hx hb dX3_init_33 rfl (lv_at hl 0 rfl) ?_
  refine lv_bipush (v := 6) hx hb dX3_init_34 (by decide) ?_
  refine va_newa (atype := .int) (ty := .int) (a0 := (6, .inl (fun _ : Nat => (0 : Int32)))) (N' := 6) hx hb (hts (.arrayClass .int) (by decide +kernel)) rfl hK hP hD hS hA (na_I 6) (by decide) (by decide) (by decide) (Nat.le_of_ble_eq_true rfl) (Nat.le_of_ble_eq_true rfl) dX3_init_36 (fun q148 k149 H hK hP hD hS => ?_)
  have hK : va_K (dC, dI) vwCl [(k149, .int)] s := hK
  have hP : va_P (dC, dI) vwCl [(a0, .inr (6, s147)), (q148, .inl (k149, 6, .inl ((fun _ : Nat => (0 : Int32)))))] H := hP
  have hD : va_D A [(a0, .inr (6, s147)), (q148, .inl (k149, 6, .inl ((fun _ : Nat => (0 : Int32)))))] := hD
  have z151 : ∀ j, (fun _ : Nat => (0 : Int32)) j = 0 := fun _ => rfl
  generalize (fun _ : Nat => (0 : Int32)) = f150 at hP hD z151
  refine W.widen (k := 4) (n := 306) (by omega) (by omega) ?_
  refine va_putF (D := (dC, dI)) (ci := 6) (v := .ref q148) (ty := .array .int) (C := RX3) (T := TX3) (N := 13) hx hb hts (in_k_X3_X3) tyX3 tyX3_ok nmX3 hown hK hP hD hS 0 rfl rfl 8 (by decide) (hts (.fieldLink RX3 26 "HeapWorks$Journal" "watchType" "[I") (by decide +kernel)) (fun _ h9 => h9) rfl hin rfl (by decide +kernel) rfl rfl (by rw [o_s147.2.1]; decide) dX3_init_38 (fun H locs hP hD hS => ?_)
  have hP : va_P (dC, dI) vwCl [(a0, .inr (6, (s147.set 8 (.ref q148)))), (q148, .inl (k149, 6, .inl f150))] H := hP
  have hD : va_D A [(a0, .inr (6, (s147.set 8 (.ref q148)))), (q148, .inl (k149, 6, .inl f150))] := hD
  have o_s152 := ow_set o_s147 8 (.ref q148) (by decide) (l' := [(8, .ref q148), (4, .ref q143), (3, .ref q138), (2, .ref q133), (0, .ref b0), (1, .int 0), (5, .int 0), (6, .int 0), (7, .int 0), (9, .null), (10, .null), (11, .null), (12, .null)]) (w' := [8, 4, 3, 2, 0]) rfl rfl
  generalize (s147.set 8 (.ref q148)) = s152 at hP hD o_s152
  have hP := hP.sub (ws' := [(a0, .inr (6, s152))]) [0] rfl
  have hD := hD.sub (ws' := [(a0, .inr (6, s152))]) [0] (by decide) rfl
  have hK := hK.sub (tys' := []) [] rfl
  refine lv_aload_n hx hb dX3_init_41 rfl (lv_at hl 0 rfl) ?_
  refine lv_bipush (v := 6) hx hb dX3_init_42 (by decide) ?_
  refine va_newa (atype := .int) (ty := .int) (a0 := (6, .inl (fun _ : Nat => (0 : Int32)))) (N' := 6) hx hb (hts (.arrayClass .int) (by decide +kernel)) rfl hK hP hD hS hA (na_I 6) (by decide) (by decide) (by decide) (Nat.le_of_ble_eq_true rfl) (Nat.le_of_ble_eq_true rfl) dX3_init_44 (fun q153 k154 H hK hP hD hS => ?_)
  have hK : va_K (dC, dI) vwCl [(k154, .int)] s := hK
  have hP : va_P (dC, dI) vwCl [(a0, .inr (6, s152)), (q153, .inl (k154, 6, .inl ((fun _ : Nat => (0 : Int32)))))] H := hP
  have hD : va_D A [(a0, .inr (6, s152)), (q153, .inl (k154, 6, .inl ((fun _ : Nat => (0 : Int32)))))] := hD
  have z156 : ∀ j, (fun _ : Nat => (0 : Int32)) j = 0 := fun _ => rfl
  generalize (fun _ : Nat => (0 : Int32)) = f155 at hP hD z156
  refine W.widen (k := 5) (n := 312) (by omega) (by omega) ?_
  refine va_putF (D := (dC, dI)) (ci := 6) (v := .ref q153) (ty := .array .int) (C := RX3) (T := TX3) (N := 13) hx hb hts (in_k_X3_X3) tyX3 tyX3_ok nmX3 hown hK hP hD hS 0 rfl rfl 9 (by decide) (hts (.fieldLink RX3 29 "HeapWorks$Journal" "watchField" "[I") (by decide +kernel)) (fun _ h9 => h9) rfl hin rfl (by decide +kernel) rfl rfl (by rw [o_s152.2.1]; decide) dX3_init_46 (fun H locs hP hD hS => ?_)
  have hP : va_P (dC, dI) vwCl [(a0, .inr (6, (s152.set 9 (.ref q153)))), (q153, .inl (k154, 6, .inl f155))] H := hP
  have hD : va_D A [(a0, .inr (6, (s152.set 9 (.ref q153)))), (q153, .inl (k154, 6, .inl f155))] := hD
  have o_s157 := ow_set o_s152 9 (.ref q153) (by decide) (l' := [(9, .ref q153), (8, .ref q148), (4, .ref q143), (3, .ref q138), (2, .ref q133), (0, .ref b0), (1, .int 0), (5, .int 0), (6, .int 0), (7, .int 0), (10, .null), (11, .null), (12, .null)]) (w' := [9, 8, 4, 3, 2, 0]) rfl rfl
  generalize (s152.set 9 (.ref q153)) = s157 at hP hD o_s157
  have hP := hP.sub (ws' := [(a0, .inr (6, s157))]) [0] rfl
  have hD := hD.sub (ws' := [(a0, .inr (6, s157))]) [0] (by decide) rfl
  have hK := hK.sub (tys' := []) [] rfl
  refine lv_aload_n hx hb dX3_init_49 rfl (lv_at hl 0 rfl) ?_
  refine lv_bipush (v := 6) hx hb dX3_init_50 (by decide) ?_
  refine va_newa (atype := .int) (ty := .int) (a0 := (6, .inl (fun _ : Nat => (0 : Int32)))) (N' := 6) hx hb (hts (.arrayClass .int) (by decide +kernel)) rfl hK hP hD hS hA (na_I 6) (by decide) (by decide) (by decide) (Nat.le_of_ble_eq_true rfl) (Nat.le_of_ble_eq_true rfl) dX3_init_52 (fun q158 k159 H hK hP hD hS => ?_)
  have hK : va_K (dC, dI) vwCl [(k159, .int)] s := hK
  have hP : va_P (dC, dI) vwCl [(a0, .inr (6, s157)), (q158, .inl (k159, 6, .inl ((fun _ : Nat => (0 : Int32)))))] H := hP
  have hD : va_D A [(a0, .inr (6, s157)), (q158, .inl (k159, 6, .inl ((fun _ : Nat => (0 : Int32)))))] := hD
  have z161 : ∀ j, (fun _ : Nat => (0 : Int32)) j = 0 := fun _ => rfl
  generalize (fun _ : Nat => (0 : Int32)) = f160 at hP hD z161
  refine W.widen (k := 6) (n := 318) (by omega) (by omega) ?_
  refine va_putF (D := (dC, dI)) (ci := 6) (v := .ref q158) (ty := .array .int) (C := RX3) (T := TX3) (N := 13) hx hb hts (in_k_X3_X3) tyX3 tyX3_ok nmX3 hown hK hP hD hS 0 rfl rfl 10 (by decide) (hts (.fieldLink RX3 32 "HeapWorks$Journal" "watchCondition" "[I") (by decide +kernel)) (fun _ h9 => h9) rfl hin rfl (by decide +kernel) rfl rfl (by rw [o_s157.2.1]; decide) dX3_init_54 (fun H locs hP hD hS => ?_)
  have hP : va_P (dC, dI) vwCl [(a0, .inr (6, (s157.set 10 (.ref q158)))), (q158, .inl (k159, 6, .inl f160))] H := hP
  have hD : va_D A [(a0, .inr (6, (s157.set 10 (.ref q158)))), (q158, .inl (k159, 6, .inl f160))] := hD
  have o_s162 := ow_set o_s157 10 (.ref q158) (by decide) (l' := [(10, .ref q158), (9, .ref q153), (8, .ref q148), (4, .ref q143), (3, .ref q138), (2, .ref q133), (0, .ref b0), (1, .int 0), (5, .int 0), (6, .int 0), (7, .int 0), (11, .null), (12, .null)]) (w' := [10, 9, 8, 4, 3, 2, 0]) rfl rfl
  generalize (s157.set 10 (.ref q158)) = s162 at hP hD o_s162
  have hP := hP.sub (ws' := [(a0, .inr (6, s162))]) [0] rfl
  have hD := hD.sub (ws' := [(a0, .inr (6, s162))]) [0] (by decide) rfl
  have hK := hK.sub (tys' := []) [] rfl
  refine lv_aload_n hx hb dX3_init_57 rfl (lv_at hl 0 rfl) ?_
  refine lv_bipush (v := 6) hx hb dX3_init_58 (by decide) ?_
  refine va_newa (atype := .int) (ty := .int) (a0 := (6, .inl (fun _ : Nat => (0 : Int32)))) (N' := 6) hx hb (hts (.arrayClass .int) (by decide +kernel)) rfl hK hP hD hS hA (na_I 6) (by decide) (by decide) (by decide) (Nat.le_of_ble_eq_true rfl) (Nat.le_of_ble_eq_true rfl) dX3_init_60 (fun q163 k164 H hK hP hD hS => ?_)
  have hK : va_K (dC, dI) vwCl [(k164, .int)] s := hK
  have hP : va_P (dC, dI) vwCl [(a0, .inr (6, s162)), (q163, .inl (k164, 6, .inl ((fun _ : Nat => (0 : Int32)))))] H := hP
  have hD : va_D A [(a0, .inr (6, s162)), (q163, .inl (k164, 6, .inl ((fun _ : Nat => (0 : Int32)))))] := hD
  have z166 : ∀ j, (fun _ : Nat => (0 : Int32)) j = 0 := fun _ => rfl
  generalize (fun _ : Nat => (0 : Int32)) = f165 at hP hD z166
  refine W.widen (k := 7) (n := 324) (by omega) (by omega) ?_
  refine va_putF (D := (dC, dI)) (ci := 6) (v := .ref q163) (ty := .array .int) (C := RX3) (T := TX3) (N := 13) hx hb hts (in_k_X3_X3) tyX3 tyX3_ok nmX3 hown hK hP hD hS 0 rfl rfl 11 (by decide) (hts (.fieldLink RX3 35 "HeapWorks$Journal" "rowCount" "[I") (by decide +kernel)) (fun _ h9 => h9) rfl hin rfl (by decide +kernel) rfl rfl (by rw [o_s162.2.1]; decide) dX3_init_62 (fun H locs hP hD hS => ?_)
  have hP : va_P (dC, dI) vwCl [(a0, .inr (6, (s162.set 11 (.ref q163)))), (q163, .inl (k164, 6, .inl f165))] H := hP
  have hD : va_D A [(a0, .inr (6, (s162.set 11 (.ref q163)))), (q163, .inl (k164, 6, .inl f165))] := hD
  have o_s167 := ow_set o_s162 11 (.ref q163) (by decide) (l' := [(11, .ref q163), (10, .ref q158), (9, .ref q153), (8, .ref q148), (4, .ref q143), (3, .ref q138), (2, .ref q133), (0, .ref b0), (1, .int 0), (5, .int 0), (6, .int 0), (7, .int 0), (12, .null)]) (w' := [11, 10, 9, 8, 4, 3, 2, 0]) rfl rfl
  generalize (s162.set 11 (.ref q163)) = s167 at hP hD o_s167
  have hP := hP.sub (ws' := [(a0, .inr (6, s167))]) [0] rfl
  have hD := hD.sub (ws' := [(a0, .inr (6, s167))]) [0] (by decide) rfl
  have hK := hK.sub (tys' := []) [] rfl
  refine lv_aload_n hx hb dX3_init_65 rfl (lv_at hl 0 rfl) ?_
  refine lv_sipush (v := 144) hx hb dX3_init_66 (by decide) ?_
  refine va_newa (atype := .long) (ty := .long) (a0 := (144, .inr (.inl (fun _ : Nat => (0 : Int64))))) (N' := 144) hx hb (hts (.arrayClass .long) (by decide +kernel)) rfl hK hP hD hS hA (na_J 144) (by decide) (by decide) (by decide) (Nat.le_of_ble_eq_true rfl) (Nat.le_of_ble_eq_true rfl) dX3_init_69 (fun q168 k169 H hK hP hD hS => ?_)
  have hK : va_K (dC, dI) vwCl [(k169, .long)] s := hK
  have hP : va_P (dC, dI) vwCl [(a0, .inr (6, s167)), (q168, .inl (k169, 144, .inr (.inl ((fun _ : Nat => (0 : Int64))))))] H := hP
  have hD : va_D A [(a0, .inr (6, s167)), (q168, .inl (k169, 144, .inr (.inl ((fun _ : Nat => (0 : Int64))))))] := hD
  have z171 : ∀ j, (fun _ : Nat => (0 : Int64)) j = 0 := fun _ => rfl
  generalize (fun _ : Nat => (0 : Int64)) = f170 at hP hD z171
  refine W.widen (k := 8) (n := 468) (by omega) (by omega) ?_
  refine va_putF (D := (dC, dI)) (ci := 6) (v := .ref q168) (ty := .array .long) (C := RX3) (T := TX3) (N := 13) hx hb hts (in_k_X3_X3) tyX3 tyX3_ok nmX3 hown hK hP hD hS 0 rfl rfl 12 (by decide) (hts (.fieldLink RX3 38 "HeapWorks$Journal" "rowParts" "[J") (by decide +kernel)) (fun _ h9 => h9) rfl hin rfl (by decide +kernel) rfl rfl (by rw [o_s167.2.1]; decide) dX3_init_71 (fun H locs hP hD hS => ?_)
  have hP : va_P (dC, dI) vwCl [(a0, .inr (6, (s167.set 12 (.ref q168)))), (q168, .inl (k169, 144, .inr (.inl f170)))] H := hP
  have hD : va_D A [(a0, .inr (6, (s167.set 12 (.ref q168)))), (q168, .inl (k169, 144, .inr (.inl f170)))] := hD
  have o_s172 := ow_set o_s167 12 (.ref q168) (by decide) (l' := [(12, .ref q168), (11, .ref q163), (10, .ref q158), (9, .ref q153), (8, .ref q148), (4, .ref q143), (3, .ref q138), (2, .ref q133), (0, .ref b0), (1, .int 0), (5, .int 0), (6, .int 0), (7, .int 0)]) (w' := [12, 11, 10, 9, 8, 4, 3, 2, 0]) rfl rfl
  generalize (s167.set 12 (.ref q168)) = s172 at hP hD o_s172
  have hP := hP.sub (ws' := [(a0, .inr (6, s172))]) [0] rfl
  have hD := hD.sub (ws' := [(a0, .inr (6, s172))]) [0] (by decide) rfl
  have hK := hK.sub (tys' := []) [] rfl
  have hP9 := hP.sub (ws' := [(a0, .inr (6, s172))]) [0] rfl
  have hD9 := hD.sub (ws' := [(a0, .inr (6, s172))]) [0] (by decide) rfl
  have hK9 := hK.sub (tys' := []) [] rfl
  refine W.widen (k := 8) (n := 468) (by decide) (by decide) ?_
  exact W.vret hx hb hr (fun t ht hW => ⟨⟨s172, rfl, (ow_sub o_s172 [8, 9, 10, 11, 12] rfl), by rw [ht]; exact hP9, va_K.moved hW.alike hK9, hD9⟩, hS.F ht⟩) hS.2.2 dX3_init_74

def l_k_X8 : List Cond := [.methodLink RX8 3 objectInit, .instanceMethod objectInit, .code objectInit ⟨#[0xb1]⟩ 1 none, .fieldLink RX8 9 "HeapWorks$Shape" "types" "LHeapWorks$Types;", .arrayClass .int, .fieldLink RX8 17 "HeapWorks$Shape" "holderFirst" "[I", .fieldLink RX8 21 "HeapWorks$Shape" "holderThing" "[I", .fieldLink RX8 24 "HeapWorks$Shape" "holderSlot" "[I", .fieldLink RX8 27 "HeapWorks$Shape" "dominator" "[I", .fieldLink RX8 30 "HeapWorks$Shape" "kept" "[I", .fieldLink RX8 33 "HeapWorks$Shape" "dominated" "[I", .fieldLink RX8 36 "HeapWorks$Shape" "ring" "[I", .fieldLink RX8 39 "HeapWorks$Shape" "twin" "[I", .fieldLink RX8 42 "HeapWorks$Shape" "order" "[I", .fieldLink RX8 45 "HeapWorks$Shape" "low" "[I", .fieldLink RX8 48 "HeapWorks$Shape" "stack" "[I", .fieldLink RX8 51 "HeapWorks$Shape" "path" "[I", .fieldLink RX8 54 "HeapWorks$Shape" "cursor" "[I", .fieldLink RX8 57 "HeapWorks$Shape" "bucket" "[I"]
def w_k_X8 : List Cond := .code yX8_init cX8_init 2 none :: (l_k_X8 ++ (wsX80))
theorem in_k_X8_X8 : ∀ w ∈ wsX80, w ∈ w_k_X8 := fun w h => List.mem_cons_of_mem _ (List.mem_append_right _ (h))
set_option maxHeartbeats 4000000 in
set_option maxRecDepth 100000 in
theorem k_X8 (l : Launch) (dC : Nat → ClassId) (dI : Nat → Nat → Nat) (sz : Nat) (a0 : Nat) (fs0 : List Value) (b0 : Nat) (k_fs0 : fh fs0 18 [(0, .null), (1, .int 0), (2, .null), (3, .null), (4, .null), (5, .null), (6, .null), (7, .null), (8, .null), (9, .int 0), (10, .null), (11, .int 0), (12, .null), (13, .null), (14, .null), (15, .null), (16, .null), (17, .null)])  : Met l yX8_init w_k_X8 ({ frames := 1, cells := 14, slots := 13129, locals := 24 }) (va_Pc [.ref a0, .ref b0] (fun U => U.heap.size = sz ∧ Wd dC dI [] (fun _ => True) [(a0, .inr (11, fs0))] U)) (va_Qv (fun (u : List Value × Nat × (Nat → Int32) × ClassId × Nat × (Nat → Int32) × ClassId × Nat × (Nat → Int32) × ClassId × Nat × (Nat → Int32) × ClassId × Nat × (Nat → Int32) × ClassId) => match u with | (s243, q239, f241, k240, q229, f231, k230, q219, f221, k220, q209, f211, k210, q204, f206, k205) => (ow fs0 (s243) 18 [17, 16, 15, 14, 13, 12, 10, 8, 7, 6, 5, 4, 3, 2, 0] [(17, .ref q239), (15, .ref q229), (13, .ref q219), (10, .ref q209), (8, .ref q204), (0, .ref b0), (1, .int 0), (9, .int 0), (11, .int 0)] ∧ (∀ j, f241 j = 0) ∧ (∀ j, f231 j = 0) ∧ (∀ j, f221 j = 0) ∧ (∀ j, f211 j = 0) ∧ (∀ j, f206 j = 0))) (fun (u : List Value × Nat × (Nat → Int32) × ClassId × Nat × (Nat → Int32) × ClassId × Nat × (Nat → Int32) × ClassId × Nat × (Nat → Int32) × ClassId × Nat × (Nat → Int32) × ClassId) t => match u with | (s243, q239, f241, k240, q229, f231, k230, q219, f221, k220, q209, f211, k210, q204, f206, k205) => Wd dC dI [(k240, .int), (k230, .int), (k220, .int), (k210, .int), (k205, .int)] (va_A [(a0, .inr (11, fs0))] sz) [(a0, .inr (11, s243)), (q239, .inl (k240, 512, .inl f241)), (q229, .inl (k230, 400, .inl f231)), (q219, .inl (k220, 400, .inl f221)), (q209, .inl (k210, 400, .inl f211)), (q204, .inl (k205, 400, .inl f206))] t) (va_A [(a0, .inr (11, fs0))] sz))  14 13129 (va_A [(a0, .inr (11, fs0))] sz) := by
  refine Met.ofW (cc := cX8_init) (maxL := 2) (ret := none) (by decide) rfl ?_
  intro p e s m args below meth c s₁ B hml hv
  obtain ⟨rfl, hsz, hP, hK, hD0⟩ := hv
  have hx := B.exec
  have hb := B.bytes
  have hr := B.returns
  have hts := atoms_spec (ws := w_k_X8) B.pre
  have hown : s.vm.findClass RX8 = some m.cls := findClass_of_methodNamed B.named
  have hlocks := B.notSynchronized
  have hin : meth.name = "<init>" := (name_of_methodNamed B.named B.method).1
  subst hsz
  have hD := hD0.self (sz := s.heap.size)
  generalize hAe : va_A [(a0, .inr (11, fs0))] s.heap.size = A at hD ⊢
  have hA : ∀ q : Nat, s.heap.size ≤ q → A q := fun q h => by rw [← hAe]; exact Or.inr h
  have hS : va_S A s.heap s.heap [] := va_S.rf
  have hl := lv_entry ([.ref a0, .ref b0]) (n := 2) (Nat.le_of_ble_eq_true rfl)
  rw [lg_entry_eq]
  generalize (lg_sl ([.ref a0, .ref b0]) ++ List.replicate (2 - (lg_sl ([.ref a0, .ref b0])).length) Slot.unset).toArray = ls at hl ⊢
  have hl : lv_has ls 2 [(0, .ref a0), (1, .ref b0)] := hl
  have o_fs0 := ow_0 k_fs0
  refine lv_aload_n hx hb dX8_init_0 rfl (lv_at hl 0 rfl) ?_
  refine W.objInit hx hb hown (hts (.methodLink RX8 3 objectInit) (by decide +kernel)) (hts (.instanceMethod objectInit) (by decide +kernel)) (hts (.code objectInit ⟨#[0xb1]⟩ 1 none) (by decide +kernel)) rfl (by rw [hml]; exact hl.1) rfl dX8_init_1 (Nat.le_of_ble_eq_true rfl) (Nat.le_of_ble_eq_true rfl) ?_
  refine W.eq (g2 := F0 m 4 ls []) rfl ?_
  refine lv_aload_n hx hb dX8_init_4 rfl (lv_at hl 0 rfl) ?_
  refine lv_aload_n hx hb dX8_init_5 rfl (lv_at hl 1 rfl) ?_
  refine va_putF (D := (dC, dI)) (ci := 11) (v := .ref b0) (ty := .object "HeapWorks$Types") (C := RX8) (T := TX8) (N := 18) hx hb hts (in_k_X8_X8) tyX8 tyX8_ok nmX8 hown hK hP hD hS 0 rfl rfl 0 (by decide) (hts (.fieldLink RX8 9 "HeapWorks$Shape" "types" "LHeapWorks$Types;") (by decide +kernel)) (fun _ h9 => h9) rfl hin rfl (by decide +kernel) rfl rfl (by rw [o_fs0.2.1]; decide) dX8_init_6 (fun H locs hP hD hS => ?_)
  have hP : va_P (dC, dI) vwCl [(a0, .inr (11, (fs0.set 0 (.ref b0))))] H := hP
  have hD : va_D A [(a0, .inr (11, (fs0.set 0 (.ref b0))))] := hD
  have o_s173 := ow_set o_fs0 0 (.ref b0) (by decide) (l' := [(0, .ref b0), (1, .int 0), (2, .null), (3, .null), (4, .null), (5, .null), (6, .null), (7, .null), (8, .null), (9, .int 0), (10, .null), (11, .int 0), (12, .null), (13, .null), (14, .null), (15, .null), (16, .null), (17, .null)]) (w' := [0]) rfl rfl
  generalize (fs0.set 0 (.ref b0)) = s173 at hP hD o_s173
  refine lv_aload_n hx hb dX8_init_9 rfl (lv_at hl 0 rfl) ?_
  refine lv_sipush (v := 401) hx hb dX8_init_10 (by decide) ?_
  refine va_newa (atype := .int) (ty := .int) (a0 := (401, .inl (fun _ : Nat => (0 : Int32)))) (N' := 401) hx hb (hts (.arrayClass .int) (by decide +kernel)) rfl hK hP hD hS hA (na_I 401) (by decide) (by decide) (by decide) (Nat.le_of_ble_eq_true rfl) (Nat.le_of_ble_eq_true rfl) dX8_init_13 (fun q174 k175 H hK hP hD hS => ?_)
  have hK : va_K (dC, dI) vwCl [(k175, .int)] s := hK
  have hP : va_P (dC, dI) vwCl [(a0, .inr (11, s173)), (q174, .inl (k175, 401, .inl ((fun _ : Nat => (0 : Int32)))))] H := hP
  have hD : va_D A [(a0, .inr (11, s173)), (q174, .inl (k175, 401, .inl ((fun _ : Nat => (0 : Int32)))))] := hD
  have z177 : ∀ j, (fun _ : Nat => (0 : Int32)) j = 0 := fun _ => rfl
  generalize (fun _ : Nat => (0 : Int32)) = f176 at hP hD z177
  refine W.widen (k := 1) (n := 401) (by omega) (by omega) ?_
  refine va_putF (D := (dC, dI)) (ci := 11) (v := .ref q174) (ty := .array .int) (C := RX8) (T := TX8) (N := 18) hx hb hts (in_k_X8_X8) tyX8 tyX8_ok nmX8 hown hK hP hD hS 0 rfl rfl 2 (by decide) (hts (.fieldLink RX8 17 "HeapWorks$Shape" "holderFirst" "[I") (by decide +kernel)) (fun _ h9 => h9) rfl hin rfl (by decide +kernel) rfl rfl (by rw [o_s173.2.1]; decide) dX8_init_15 (fun H locs hP hD hS => ?_)
  have hP : va_P (dC, dI) vwCl [(a0, .inr (11, (s173.set 2 (.ref q174)))), (q174, .inl (k175, 401, .inl f176))] H := hP
  have hD : va_D A [(a0, .inr (11, (s173.set 2 (.ref q174)))), (q174, .inl (k175, 401, .inl f176))] := hD
  have o_s178 := ow_set o_s173 2 (.ref q174) (by decide) (l' := [(2, .ref q174), (0, .ref b0), (1, .int 0), (3, .null), (4, .null), (5, .null), (6, .null), (7, .null), (8, .null), (9, .int 0), (10, .null), (11, .int 0), (12, .null), (13, .null), (14, .null), (15, .null), (16, .null), (17, .null)]) (w' := [2, 0]) rfl rfl
  generalize (s173.set 2 (.ref q174)) = s178 at hP hD o_s178
  have hP := hP.sub (ws' := [(a0, .inr (11, s178))]) [0] rfl
  have hD := hD.sub (ws' := [(a0, .inr (11, s178))]) [0] (by decide) rfl
  have hK := hK.sub (tys' := []) [] rfl
  refine lv_aload_n hx hb dX8_init_18 rfl (lv_at hl 0 rfl) ?_
  refine lv_sipush (v := 4108) hx hb dX8_init_19 (by decide) ?_
  refine va_newa (atype := .int) (ty := .int) (a0 := (4108, .inl (fun _ : Nat => (0 : Int32)))) (N' := 4108) hx hb (hts (.arrayClass .int) (by decide +kernel)) rfl hK hP hD hS hA (na_I 4108) (by decide) (by decide) (by decide) (Nat.le_of_ble_eq_true rfl) (Nat.le_of_ble_eq_true rfl) dX8_init_22 (fun q179 k180 H hK hP hD hS => ?_)
  have hK : va_K (dC, dI) vwCl [(k180, .int)] s := hK
  have hP : va_P (dC, dI) vwCl [(a0, .inr (11, s178)), (q179, .inl (k180, 4108, .inl ((fun _ : Nat => (0 : Int32)))))] H := hP
  have hD : va_D A [(a0, .inr (11, s178)), (q179, .inl (k180, 4108, .inl ((fun _ : Nat => (0 : Int32)))))] := hD
  have z182 : ∀ j, (fun _ : Nat => (0 : Int32)) j = 0 := fun _ => rfl
  generalize (fun _ : Nat => (0 : Int32)) = f181 at hP hD z182
  refine W.widen (k := 2) (n := 4509) (by omega) (by omega) ?_
  refine va_putF (D := (dC, dI)) (ci := 11) (v := .ref q179) (ty := .array .int) (C := RX8) (T := TX8) (N := 18) hx hb hts (in_k_X8_X8) tyX8 tyX8_ok nmX8 hown hK hP hD hS 0 rfl rfl 3 (by decide) (hts (.fieldLink RX8 21 "HeapWorks$Shape" "holderThing" "[I") (by decide +kernel)) (fun _ h9 => h9) rfl hin rfl (by decide +kernel) rfl rfl (by rw [o_s178.2.1]; decide) dX8_init_24 (fun H locs hP hD hS => ?_)
  have hP : va_P (dC, dI) vwCl [(a0, .inr (11, (s178.set 3 (.ref q179)))), (q179, .inl (k180, 4108, .inl f181))] H := hP
  have hD : va_D A [(a0, .inr (11, (s178.set 3 (.ref q179)))), (q179, .inl (k180, 4108, .inl f181))] := hD
  have o_s183 := ow_set o_s178 3 (.ref q179) (by decide) (l' := [(3, .ref q179), (2, .ref q174), (0, .ref b0), (1, .int 0), (4, .null), (5, .null), (6, .null), (7, .null), (8, .null), (9, .int 0), (10, .null), (11, .int 0), (12, .null), (13, .null), (14, .null), (15, .null), (16, .null), (17, .null)]) (w' := [3, 2, 0]) rfl rfl
  generalize (s178.set 3 (.ref q179)) = s183 at hP hD o_s183
  have hP := hP.sub (ws' := [(a0, .inr (11, s183))]) [0] rfl
  have hD := hD.sub (ws' := [(a0, .inr (11, s183))]) [0] (by decide) rfl
  have hK := hK.sub (tys' := []) [] rfl
  refine lv_aload_n hx hb dX8_init_27 rfl (lv_at hl 0 rfl) ?_
  refine lv_sipush (v := 4108) hx hb dX8_init_28 (by decide) ?_
  refine va_newa (atype := .int) (ty := .int) (a0 := (4108, .inl (fun _ : Nat => (0 : Int32)))) (N' := 4108) hx hb (hts (.arrayClass .int) (by decide +kernel)) rfl hK hP hD hS hA (na_I 4108) (by decide) (by decide) (by decide) (Nat.le_of_ble_eq_true rfl) (Nat.le_of_ble_eq_true rfl) dX8_init_31 (fun q184 k185 H hK hP hD hS => ?_)
  have hK : va_K (dC, dI) vwCl [(k185, .int)] s := hK
  have hP : va_P (dC, dI) vwCl [(a0, .inr (11, s183)), (q184, .inl (k185, 4108, .inl ((fun _ : Nat => (0 : Int32)))))] H := hP
  have hD : va_D A [(a0, .inr (11, s183)), (q184, .inl (k185, 4108, .inl ((fun _ : Nat => (0 : Int32)))))] := hD
  have z187 : ∀ j, (fun _ : Nat => (0 : Int32)) j = 0 := fun _ => rfl
  generalize (fun _ : Nat => (0 : Int32)) = f186 at hP hD z187
  refine W.widen (k := 3) (n := 8617) (by omega) (by omega) ?_
  refine va_putF (D := (dC, dI)) (ci := 11) (v := .ref q184) (ty := .array .int) (C := RX8) (T := TX8) (N := 18) hx hb hts (in_k_X8_X8) tyX8 tyX8_ok nmX8 hown hK hP hD hS 0 rfl rfl 4 (by decide) (hts (.fieldLink RX8 24 "HeapWorks$Shape" "holderSlot" "[I") (by decide +kernel)) (fun _ h9 => h9) rfl hin rfl (by decide +kernel) rfl rfl (by rw [o_s183.2.1]; decide) dX8_init_33 (fun H locs hP hD hS => ?_)
  have hP : va_P (dC, dI) vwCl [(a0, .inr (11, (s183.set 4 (.ref q184)))), (q184, .inl (k185, 4108, .inl f186))] H := hP
  have hD : va_D A [(a0, .inr (11, (s183.set 4 (.ref q184)))), (q184, .inl (k185, 4108, .inl f186))] := hD
  have o_s188 := ow_set o_s183 4 (.ref q184) (by decide) (l' := [(4, .ref q184), (3, .ref q179), (2, .ref q174), (0, .ref b0), (1, .int 0), (5, .null), (6, .null), (7, .null), (8, .null), (9, .int 0), (10, .null), (11, .int 0), (12, .null), (13, .null), (14, .null), (15, .null), (16, .null), (17, .null)]) (w' := [4, 3, 2, 0]) rfl rfl
  generalize (s183.set 4 (.ref q184)) = s188 at hP hD o_s188
  have hP := hP.sub (ws' := [(a0, .inr (11, s188))]) [0] rfl
  have hD := hD.sub (ws' := [(a0, .inr (11, s188))]) [0] (by decide) rfl
  have hK := hK.sub (tys' := []) [] rfl
  refine lv_aload_n hx hb dX8_init_36 rfl (lv_at hl 0 rfl) ?_
  refine lv_sipush (v := 400) hx hb dX8_init_37 (by decide) ?_
  refine va_newa (atype := .int) (ty := .int) (a0 := (400, .inl (fun _ : Nat => (0 : Int32)))) (N' := 400) hx hb (hts (.arrayClass .int) (by decide +kernel)) rfl hK hP hD hS hA (na_I 400) (by decide) (by decide) (by decide) (Nat.le_of_ble_eq_true rfl) (Nat.le_of_ble_eq_true rfl) dX8_init_40 (fun q189 k190 H hK hP hD hS => ?_)
  have hK : va_K (dC, dI) vwCl [(k190, .int)] s := hK
  have hP : va_P (dC, dI) vwCl [(a0, .inr (11, s188)), (q189, .inl (k190, 400, .inl ((fun _ : Nat => (0 : Int32)))))] H := hP
  have hD : va_D A [(a0, .inr (11, s188)), (q189, .inl (k190, 400, .inl ((fun _ : Nat => (0 : Int32)))))] := hD
  have z192 : ∀ j, (fun _ : Nat => (0 : Int32)) j = 0 := fun _ => rfl
  generalize (fun _ : Nat => (0 : Int32)) = f191 at hP hD z192
  refine W.widen (k := 4) (n := 9017) (by omega) (by omega) ?_
  refine va_putF (D := (dC, dI)) (ci := 11) (v := .ref q189) (ty := .array .int) (C := RX8) (T := TX8) (N := 18) hx hb hts (in_k_X8_X8) tyX8 tyX8_ok nmX8 hown hK hP hD hS 0 rfl rfl 5 (by decide) (hts (.fieldLink RX8 27 "HeapWorks$Shape" "dominator" "[I") (by decide +kernel)) (fun _ h9 => h9) rfl hin rfl (by decide +kernel) rfl rfl (by rw [o_s188.2.1]; decide) dX8_init_42 (fun H locs hP hD hS => ?_)
  have hP : va_P (dC, dI) vwCl [(a0, .inr (11, (s188.set 5 (.ref q189)))), (q189, .inl (k190, 400, .inl f191))] H := hP
  have hD : va_D A [(a0, .inr (11, (s188.set 5 (.ref q189)))), (q189, .inl (k190, 400, .inl f191))] := hD
  have o_s193 := ow_set o_s188 5 (.ref q189) (by decide) (l' := [(5, .ref q189), (4, .ref q184), (3, .ref q179), (2, .ref q174), (0, .ref b0), (1, .int 0), (6, .null), (7, .null), (8, .null), (9, .int 0), (10, .null), (11, .int 0), (12, .null), (13, .null), (14, .null), (15, .null), (16, .null), (17, .null)]) (w' := [5, 4, 3, 2, 0]) rfl rfl
  generalize (s188.set 5 (.ref q189)) = s193 at hP hD o_s193
  have hP := hP.sub (ws' := [(a0, .inr (11, s193))]) [0] rfl
  have hD := hD.sub (ws' := [(a0, .inr (11, s193))]) [0] (by decide) rfl
  have hK := hK.sub (tys' := []) [] rfl
  refine lv_aload_n hx hb dX8_init_45 rfl (lv_at hl 0 rfl) ?_
  refine lv_sipush (v := 400) hx hb dX8_init_46 (by decide) ?_
  refine va_newa (atype := .int) (ty := .int) (a0 := (400, .inl (fun _ : Nat => (0 : Int32)))) (N' := 400) hx hb (hts (.arrayClass .int) (by decide +kernel)) rfl hK hP hD hS hA (na_I 400) (by decide) (by decide) (by decide) (Nat.le_of_ble_eq_true rfl) (Nat.le_of_ble_eq_true rfl) dX8_init_49 (fun q194 k195 H hK hP hD hS => ?_)
  have hK : va_K (dC, dI) vwCl [(k195, .int)] s := hK
  have hP : va_P (dC, dI) vwCl [(a0, .inr (11, s193)), (q194, .inl (k195, 400, .inl ((fun _ : Nat => (0 : Int32)))))] H := hP
  have hD : va_D A [(a0, .inr (11, s193)), (q194, .inl (k195, 400, .inl ((fun _ : Nat => (0 : Int32)))))] := hD
  have z197 : ∀ j, (fun _ : Nat => (0 : Int32)) j = 0 := fun _ => rfl
  generalize (fun _ : Nat => (0 : Int32)) = f196 at hP hD z197
  refine W.widen (k := 5) (n := 9417) (by omega) (by omega) ?_
  refine va_putF (D := (dC, dI)) (ci := 11) (v := .ref q194) (ty := .array .int) (C := RX8) (T := TX8) (N := 18) hx hb hts (in_k_X8_X8) tyX8 tyX8_ok nmX8 hown hK hP hD hS 0 rfl rfl 6 (by decide) (hts (.fieldLink RX8 30 "HeapWorks$Shape" "kept" "[I") (by decide +kernel)) (fun _ h9 => h9) rfl hin rfl (by decide +kernel) rfl rfl (by rw [o_s193.2.1]; decide) dX8_init_51 (fun H locs hP hD hS => ?_)
  have hP : va_P (dC, dI) vwCl [(a0, .inr (11, (s193.set 6 (.ref q194)))), (q194, .inl (k195, 400, .inl f196))] H := hP
  have hD : va_D A [(a0, .inr (11, (s193.set 6 (.ref q194)))), (q194, .inl (k195, 400, .inl f196))] := hD
  have o_s198 := ow_set o_s193 6 (.ref q194) (by decide) (l' := [(6, .ref q194), (5, .ref q189), (4, .ref q184), (3, .ref q179), (2, .ref q174), (0, .ref b0), (1, .int 0), (7, .null), (8, .null), (9, .int 0), (10, .null), (11, .int 0), (12, .null), (13, .null), (14, .null), (15, .null), (16, .null), (17, .null)]) (w' := [6, 5, 4, 3, 2, 0]) rfl rfl
  generalize (s193.set 6 (.ref q194)) = s198 at hP hD o_s198
  have hP := hP.sub (ws' := [(a0, .inr (11, s198))]) [0] rfl
  have hD := hD.sub (ws' := [(a0, .inr (11, s198))]) [0] (by decide) rfl
  have hK := hK.sub (tys' := []) [] rfl
  refine lv_aload_n hx hb dX8_init_54 rfl (lv_at hl 0 rfl) ?_
  refine lv_sipush (v := 400) hx hb dX8_init_55 (by decide) ?_
  refine va_newa (atype := .int) (ty := .int) (a0 := (400, .inl (fun _ : Nat => (0 : Int32)))) (N' := 400) hx hb (hts (.arrayClass .int) (by decide +kernel)) rfl hK hP hD hS hA (na_I 400) (by decide) (by decide) (by decide) (Nat.le_of_ble_eq_true rfl) (Nat.le_of_ble_eq_true rfl) dX8_init_58 (fun q199 k200 H hK hP hD hS => ?_)
  have hK : va_K (dC, dI) vwCl [(k200, .int)] s := hK
  have hP : va_P (dC, dI) vwCl [(a0, .inr (11, s198)), (q199, .inl (k200, 400, .inl ((fun _ : Nat => (0 : Int32)))))] H := hP
  have hD : va_D A [(a0, .inr (11, s198)), (q199, .inl (k200, 400, .inl ((fun _ : Nat => (0 : Int32)))))] := hD
  have z202 : ∀ j, (fun _ : Nat => (0 : Int32)) j = 0 := fun _ => rfl
  generalize (fun _ : Nat => (0 : Int32)) = f201 at hP hD z202
  refine W.widen (k := 6) (n := 9817) (by omega) (by omega) ?_
  refine va_putF (D := (dC, dI)) (ci := 11) (v := .ref q199) (ty := .array .int) (C := RX8) (T := TX8) (N := 18) hx hb hts (in_k_X8_X8) tyX8 tyX8_ok nmX8 hown hK hP hD hS 0 rfl rfl 7 (by decide) (hts (.fieldLink RX8 33 "HeapWorks$Shape" "dominated" "[I") (by decide +kernel)) (fun _ h9 => h9) rfl hin rfl (by decide +kernel) rfl rfl (by rw [o_s198.2.1]; decide) dX8_init_60 (fun H locs hP hD hS => ?_)
  have hP : va_P (dC, dI) vwCl [(a0, .inr (11, (s198.set 7 (.ref q199)))), (q199, .inl (k200, 400, .inl f201))] H := hP
  have hD : va_D A [(a0, .inr (11, (s198.set 7 (.ref q199)))), (q199, .inl (k200, 400, .inl f201))] := hD
  have o_s203 := ow_set o_s198 7 (.ref q199) (by decide) (l' := [(7, .ref q199), (6, .ref q194), (5, .ref q189), (4, .ref q184), (3, .ref q179), (2, .ref q174), (0, .ref b0), (1, .int 0), (8, .null), (9, .int 0), (10, .null), (11, .int 0), (12, .null), (13, .null), (14, .null), (15, .null), (16, .null), (17, .null)]) (w' := [7, 6, 5, 4, 3, 2, 0]) rfl rfl
  generalize (s198.set 7 (.ref q199)) = s203 at hP hD o_s203
  have hP := hP.sub (ws' := [(a0, .inr (11, s203))]) [0] rfl
  have hD := hD.sub (ws' := [(a0, .inr (11, s203))]) [0] (by decide) rfl
  have hK := hK.sub (tys' := []) [] rfl
  refine lv_aload_n hx hb dX8_init_63 rfl (lv_at hl 0 rfl) ?_
  refine lv_sipush (v := 400) hx hb dX8_init_64 (by decide) ?_
  refine va_newa (atype := .int) (ty := .int) (a0 := (400, .inl (fun _ : Nat => (0 : Int32)))) (N' := 400) hx hb (hts (.arrayClass .int) (by decide +kernel)) rfl hK hP hD hS hA (na_I 400) (by decide) (by decide) (by decide) (Nat.le_of_ble_eq_true rfl) (Nat.le_of_ble_eq_true rfl) dX8_init_67 (fun q204 k205 H hK hP hD hS => ?_)
  have hK : va_K (dC, dI) vwCl [(k205, .int)] s := hK
  have hP : va_P (dC, dI) vwCl [(a0, .inr (11, s203)), (q204, .inl (k205, 400, .inl ((fun _ : Nat => (0 : Int32)))))] H := hP
  have hD : va_D A [(a0, .inr (11, s203)), (q204, .inl (k205, 400, .inl ((fun _ : Nat => (0 : Int32)))))] := hD
  have z207 : ∀ j, (fun _ : Nat => (0 : Int32)) j = 0 := fun _ => rfl
  generalize (fun _ : Nat => (0 : Int32)) = f206 at hP hD z207
  refine W.widen (k := 7) (n := 10217) (by omega) (by omega) ?_
  refine va_putF (D := (dC, dI)) (ci := 11) (v := .ref q204) (ty := .array .int) (C := RX8) (T := TX8) (N := 18) hx hb hts (in_k_X8_X8) tyX8 tyX8_ok nmX8 hown hK hP hD hS 0 rfl rfl 8 (by decide) (hts (.fieldLink RX8 36 "HeapWorks$Shape" "ring" "[I") (by decide +kernel)) (fun _ h9 => h9) rfl hin rfl (by decide +kernel) rfl rfl (by rw [o_s203.2.1]; decide) dX8_init_69 (fun H locs hP hD hS => ?_)
  have hP : va_P (dC, dI) vwCl [(a0, .inr (11, (s203.set 8 (.ref q204)))), (q204, .inl (k205, 400, .inl f206))] H := hP
  have hD : va_D A [(a0, .inr (11, (s203.set 8 (.ref q204)))), (q204, .inl (k205, 400, .inl f206))] := hD
  have o_s208 := ow_set o_s203 8 (.ref q204) (by decide) (l' := [(8, .ref q204), (7, .ref q199), (6, .ref q194), (5, .ref q189), (4, .ref q184), (3, .ref q179), (2, .ref q174), (0, .ref b0), (1, .int 0), (9, .int 0), (10, .null), (11, .int 0), (12, .null), (13, .null), (14, .null), (15, .null), (16, .null), (17, .null)]) (w' := [8, 7, 6, 5, 4, 3, 2, 0]) rfl rfl
  generalize (s203.set 8 (.ref q204)) = s208 at hP hD o_s208
  refine lv_aload_n hx hb dX8_init_72 rfl (lv_at hl 0 rfl) ?_
  refine lv_sipush (v := 400) hx hb dX8_init_73 (by decide) ?_
  refine va_newa (atype := .int) (ty := .int) (a0 := (400, .inl (fun _ : Nat => (0 : Int32)))) (N' := 400) hx hb (hts (.arrayClass .int) (by decide +kernel)) rfl hK hP hD hS hA (na_I 400) (by decide) (by decide) (by decide) (Nat.le_of_ble_eq_true rfl) (Nat.le_of_ble_eq_true rfl) dX8_init_76 (fun q209 k210 H hK hP hD hS => ?_)
  have hK : va_K (dC, dI) vwCl [(k205, .int), (k210, .int)] s := hK
  have hP : va_P (dC, dI) vwCl [(a0, .inr (11, s208)), (q204, .inl (k205, 400, .inl f206)), (q209, .inl (k210, 400, .inl ((fun _ : Nat => (0 : Int32)))))] H := hP
  have hD : va_D A [(a0, .inr (11, s208)), (q204, .inl (k205, 400, .inl f206)), (q209, .inl (k210, 400, .inl ((fun _ : Nat => (0 : Int32)))))] := hD
  have z212 : ∀ j, (fun _ : Nat => (0 : Int32)) j = 0 := fun _ => rfl
  generalize (fun _ : Nat => (0 : Int32)) = f211 at hP hD z212
  refine W.widen (k := 8) (n := 10617) (by omega) (by omega) ?_
  refine va_putF (D := (dC, dI)) (ci := 11) (v := .ref q209) (ty := .array .int) (C := RX8) (T := TX8) (N := 18) hx hb hts (in_k_X8_X8) tyX8 tyX8_ok nmX8 hown hK hP hD hS 0 rfl rfl 10 (by decide) (hts (.fieldLink RX8 39 "HeapWorks$Shape" "twin" "[I") (by decide +kernel)) (fun _ h9 => h9) rfl hin rfl (by decide +kernel) rfl rfl (by rw [o_s208.2.1]; decide) dX8_init_78 (fun H locs hP hD hS => ?_)
  have hP : va_P (dC, dI) vwCl [(a0, .inr (11, (s208.set 10 (.ref q209)))), (q204, .inl (k205, 400, .inl f206)), (q209, .inl (k210, 400, .inl f211))] H := hP
  have hD : va_D A [(a0, .inr (11, (s208.set 10 (.ref q209)))), (q204, .inl (k205, 400, .inl f206)), (q209, .inl (k210, 400, .inl f211))] := hD
  have o_s213 := ow_set o_s208 10 (.ref q209) (by decide) (l' := [(10, .ref q209), (8, .ref q204), (7, .ref q199), (6, .ref q194), (5, .ref q189), (4, .ref q184), (3, .ref q179), (2, .ref q174), (0, .ref b0), (1, .int 0), (9, .int 0), (11, .int 0), (12, .null), (13, .null), (14, .null), (15, .null), (16, .null), (17, .null)]) (w' := [10, 8, 7, 6, 5, 4, 3, 2, 0]) rfl rfl
  generalize (s208.set 10 (.ref q209)) = s213 at hP hD o_s213
  refine lv_aload_n hx hb dX8_init_81 rfl (lv_at hl 0 rfl) ?_
  refine lv_sipush (v := 400) hx hb dX8_init_82 (by decide) ?_
  refine va_newa (atype := .int) (ty := .int) (a0 := (400, .inl (fun _ : Nat => (0 : Int32)))) (N' := 400) hx hb (hts (.arrayClass .int) (by decide +kernel)) rfl hK hP hD hS hA (na_I 400) (by decide) (by decide) (by decide) (Nat.le_of_ble_eq_true rfl) (Nat.le_of_ble_eq_true rfl) dX8_init_85 (fun q214 k215 H hK hP hD hS => ?_)
  have hK : va_K (dC, dI) vwCl [(k205, .int), (k210, .int), (k215, .int)] s := hK
  have hP : va_P (dC, dI) vwCl [(a0, .inr (11, s213)), (q204, .inl (k205, 400, .inl f206)), (q209, .inl (k210, 400, .inl f211)), (q214, .inl (k215, 400, .inl ((fun _ : Nat => (0 : Int32)))))] H := hP
  have hD : va_D A [(a0, .inr (11, s213)), (q204, .inl (k205, 400, .inl f206)), (q209, .inl (k210, 400, .inl f211)), (q214, .inl (k215, 400, .inl ((fun _ : Nat => (0 : Int32)))))] := hD
  have z217 : ∀ j, (fun _ : Nat => (0 : Int32)) j = 0 := fun _ => rfl
  generalize (fun _ : Nat => (0 : Int32)) = f216 at hP hD z217
  refine W.widen (k := 9) (n := 11017) (by omega) (by omega) ?_
  refine va_putF (D := (dC, dI)) (ci := 11) (v := .ref q214) (ty := .array .int) (C := RX8) (T := TX8) (N := 18) hx hb hts (in_k_X8_X8) tyX8 tyX8_ok nmX8 hown hK hP hD hS 0 rfl rfl 12 (by decide) (hts (.fieldLink RX8 42 "HeapWorks$Shape" "order" "[I") (by decide +kernel)) (fun _ h9 => h9) rfl hin rfl (by decide +kernel) rfl rfl (by rw [o_s213.2.1]; decide) dX8_init_87 (fun H locs hP hD hS => ?_)
  have hP : va_P (dC, dI) vwCl [(a0, .inr (11, (s213.set 12 (.ref q214)))), (q204, .inl (k205, 400, .inl f206)), (q209, .inl (k210, 400, .inl f211)), (q214, .inl (k215, 400, .inl f216))] H := hP
  have hD : va_D A [(a0, .inr (11, (s213.set 12 (.ref q214)))), (q204, .inl (k205, 400, .inl f206)), (q209, .inl (k210, 400, .inl f211)), (q214, .inl (k215, 400, .inl f216))] := hD
  have o_s218 := ow_set o_s213 12 (.ref q214) (by decide) (l' := [(12, .ref q214), (10, .ref q209), (8, .ref q204), (7, .ref q199), (6, .ref q194), (5, .ref q189), (4, .ref q184), (3, .ref q179), (2, .ref q174), (0, .ref b0), (1, .int 0), (9, .int 0), (11, .int 0), (13, .null), (14, .null), (15, .null), (16, .null), (17, .null)]) (w' := [12, 10, 8, 7, 6, 5, 4, 3, 2, 0]) rfl rfl
  generalize (s213.set 12 (.ref q214)) = s218 at hP hD o_s218
  have hP := hP.sub (ws' := [(a0, .inr (11, s218)), (q204, .inl (k205, 400, .inl f206)), (q209, .inl (k210, 400, .inl f211))]) [0, 1, 2] rfl
  have hD := hD.sub (ws' := [(a0, .inr (11, s218)), (q204, .inl (k205, 400, .inl f206)), (q209, .inl (k210, 400, .inl f211))]) [0, 1, 2] (by decide) rfl
  have hK := hK.sub (tys' := [(k205, .int), (k210, .int)]) [0, 1] rfl
  refine lv_aload_n hx hb dX8_init_90 rfl (lv_at hl 0 rfl) ?_
  refine lv_sipush (v := 400) hx hb dX8_init_91 (by decide) ?_
  refine va_newa (atype := .int) (ty := .int) (a0 := (400, .inl (fun _ : Nat => (0 : Int32)))) (N' := 400) hx hb (hts (.arrayClass .int) (by decide +kernel)) rfl hK hP hD hS hA (na_I 400) (by decide) (by decide) (by decide) (Nat.le_of_ble_eq_true rfl) (Nat.le_of_ble_eq_true rfl) dX8_init_94 (fun q219 k220 H hK hP hD hS => ?_)
  have hK : va_K (dC, dI) vwCl [(k205, .int), (k210, .int), (k220, .int)] s := hK
  have hP : va_P (dC, dI) vwCl [(a0, .inr (11, s218)), (q204, .inl (k205, 400, .inl f206)), (q209, .inl (k210, 400, .inl f211)), (q219, .inl (k220, 400, .inl ((fun _ : Nat => (0 : Int32)))))] H := hP
  have hD : va_D A [(a0, .inr (11, s218)), (q204, .inl (k205, 400, .inl f206)), (q209, .inl (k210, 400, .inl f211)), (q219, .inl (k220, 400, .inl ((fun _ : Nat => (0 : Int32)))))] := hD
  have z222 : ∀ j, (fun _ : Nat => (0 : Int32)) j = 0 := fun _ => rfl
  generalize (fun _ : Nat => (0 : Int32)) = f221 at hP hD z222
  refine W.widen (k := 10) (n := 11417) (by omega) (by omega) ?_
  refine va_putF (D := (dC, dI)) (ci := 11) (v := .ref q219) (ty := .array .int) (C := RX8) (T := TX8) (N := 18) hx hb hts (in_k_X8_X8) tyX8 tyX8_ok nmX8 hown hK hP hD hS 0 rfl rfl 13 (by decide) (hts (.fieldLink RX8 45 "HeapWorks$Shape" "low" "[I") (by decide +kernel)) (fun _ h9 => h9) rfl hin rfl (by decide +kernel) rfl rfl (by rw [o_s218.2.1]; decide) dX8_init_96 (fun H locs hP hD hS => ?_)
  have hP : va_P (dC, dI) vwCl [(a0, .inr (11, (s218.set 13 (.ref q219)))), (q204, .inl (k205, 400, .inl f206)), (q209, .inl (k210, 400, .inl f211)), (q219, .inl (k220, 400, .inl f221))] H := hP
  have hD : va_D A [(a0, .inr (11, (s218.set 13 (.ref q219)))), (q204, .inl (k205, 400, .inl f206)), (q209, .inl (k210, 400, .inl f211)), (q219, .inl (k220, 400, .inl f221))] := hD
  have o_s223 := ow_set o_s218 13 (.ref q219) (by decide) (l' := [(13, .ref q219), (12, .ref q214), (10, .ref q209), (8, .ref q204), (7, .ref q199), (6, .ref q194), (5, .ref q189), (4, .ref q184), (3, .ref q179), (2, .ref q174), (0, .ref b0), (1, .int 0), (9, .int 0), (11, .int 0), (14, .null), (15, .null), (16, .null), (17, .null)]) (w' := [13, 12, 10, 8, 7, 6, 5, 4, 3, 2, 0]) rfl rfl
  generalize (s218.set 13 (.ref q219)) = s223 at hP hD o_s223
  refine lv_aload_n hx hb dX8_init_99 rfl (lv_at hl 0 rfl) ?_
  refine lv_sipush (v := 400) hx hb dX8_init_100 (by decide) ?_
  refine va_newa (atype := .int) (ty := .int) (a0 := (400, .inl (fun _ : Nat => (0 : Int32)))) (N' := 400) hx hb (hts (.arrayClass .int) (by decide +kernel)) rfl hK hP hD hS hA (na_I 400) (by decide) (by decide) (by decide) (Nat.le_of_ble_eq_true rfl) (Nat.le_of_ble_eq_true rfl) dX8_init_103 (fun q224 k225 H hK hP hD hS => ?_)
  have hK : va_K (dC, dI) vwCl [(k205, .int), (k210, .int), (k220, .int), (k225, .int)] s := hK
  have hP : va_P (dC, dI) vwCl [(a0, .inr (11, s223)), (q204, .inl (k205, 400, .inl f206)), (q209, .inl (k210, 400, .inl f211)), (q219, .inl (k220, 400, .inl f221)), (q224, .inl (k225, 400, .inl ((fun _ : Nat => (0 : Int32)))))] H := hP
  have hD : va_D A [(a0, .inr (11, s223)), (q204, .inl (k205, 400, .inl f206)), (q209, .inl (k210, 400, .inl f211)), (q219, .inl (k220, 400, .inl f221)), (q224, .inl (k225, 400, .inl ((fun _ : Nat => (0 : Int32)))))] := hD
  have z227 : ∀ j, (fun _ : Nat => (0 : Int32)) j = 0 := fun _ => rfl
  generalize (fun _ : Nat => (0 : Int32)) = f226 at hP hD z227
  refine W.widen (k := 11) (n := 11817) (by omega) (by omega) ?_
  refine va_putF (D := (dC, dI)) (ci := 11) (v := .ref q224) (ty := .array .int) (C := RX8) (T := TX8) (N := 18) hx hb hts (in_k_X8_X8) tyX8 tyX8_ok nmX8 hown hK hP hD hS 0 rfl rfl 14 (by decide) (hts (.fieldLink RX8 48 "HeapWorks$Shape" "stack" "[I") (by decide +kernel)) (fun _ h9 => h9) rfl hin rfl (by decide +kernel) rfl rfl (by rw [o_s223.2.1]; decide) dX8_init_105 (fun H locs hP hD hS => ?_)
  have hP : va_P (dC, dI) vwCl [(a0, .inr (11, (s223.set 14 (.ref q224)))), (q204, .inl (k205, 400, .inl f206)), (q209, .inl (k210, 400, .inl f211)), (q219, .inl (k220, 400, .inl f221)), (q224, .inl (k225, 400, .inl f226))] H := hP
  have hD : va_D A [(a0, .inr (11, (s223.set 14 (.ref q224)))), (q204, .inl (k205, 400, .inl f206)), (q209, .inl (k210, 400, .inl f211)), (q219, .inl (k220, 400, .inl f221)), (q224, .inl (k225, 400, .inl f226))] := hD
  have o_s228 := ow_set o_s223 14 (.ref q224) (by decide) (l' := [(14, .ref q224), (13, .ref q219), (12, .ref q214), (10, .ref q209), (8, .ref q204), (7, .ref q199), (6, .ref q194), (5, .ref q189), (4, .ref q184), (3, .ref q179), (2, .ref q174), (0, .ref b0), (1, .int 0), (9, .int 0), (11, .int 0), (15, .null), (16, .null), (17, .null)]) (w' := [14, 13, 12, 10, 8, 7, 6, 5, 4, 3, 2, 0]) rfl rfl
  generalize (s223.set 14 (.ref q224)) = s228 at hP hD o_s228
  have hP := hP.sub (ws' := [(a0, .inr (11, s228)), (q204, .inl (k205, 400, .inl f206)), (q209, .inl (k210, 400, .inl f211)), (q219, .inl (k220, 400, .inl f221))]) [0, 1, 2, 3] rfl
  have hD := hD.sub (ws' := [(a0, .inr (11, s228)), (q204, .inl (k205, 400, .inl f206)), (q209, .inl (k210, 400, .inl f211)), (q219, .inl (k220, 400, .inl f221))]) [0, 1, 2, 3] (by decide) rfl
  have hK := hK.sub (tys' := [(k205, .int), (k210, .int), (k220, .int)]) [0, 1, 2] rfl
  refine lv_aload_n hx hb dX8_init_108 rfl (lv_at hl 0 rfl) ?_
  refine lv_sipush (v := 400) hx hb dX8_init_109 (by decide) ?_
  refine va_newa (atype := .int) (ty := .int) (a0 := (400, .inl (fun _ : Nat => (0 : Int32)))) (N' := 400) hx hb (hts (.arrayClass .int) (by decide +kernel)) rfl hK hP hD hS hA (na_I 400) (by decide) (by decide) (by decide) (Nat.le_of_ble_eq_true rfl) (Nat.le_of_ble_eq_true rfl) dX8_init_112 (fun q229 k230 H hK hP hD hS => ?_)
  have hK : va_K (dC, dI) vwCl [(k205, .int), (k210, .int), (k220, .int), (k230, .int)] s := hK
  have hP : va_P (dC, dI) vwCl [(a0, .inr (11, s228)), (q204, .inl (k205, 400, .inl f206)), (q209, .inl (k210, 400, .inl f211)), (q219, .inl (k220, 400, .inl f221)), (q229, .inl (k230, 400, .inl ((fun _ : Nat => (0 : Int32)))))] H := hP
  have hD : va_D A [(a0, .inr (11, s228)), (q204, .inl (k205, 400, .inl f206)), (q209, .inl (k210, 400, .inl f211)), (q219, .inl (k220, 400, .inl f221)), (q229, .inl (k230, 400, .inl ((fun _ : Nat => (0 : Int32)))))] := hD
  have z232 : ∀ j, (fun _ : Nat => (0 : Int32)) j = 0 := fun _ => rfl
  generalize (fun _ : Nat => (0 : Int32)) = f231 at hP hD z232
  refine W.widen (k := 12) (n := 12217) (by omega) (by omega) ?_
  refine va_putF (D := (dC, dI)) (ci := 11) (v := .ref q229) (ty := .array .int) (C := RX8) (T := TX8) (N := 18) hx hb hts (in_k_X8_X8) tyX8 tyX8_ok nmX8 hown hK hP hD hS 0 rfl rfl 15 (by decide) (hts (.fieldLink RX8 51 "HeapWorks$Shape" "path" "[I") (by decide +kernel)) (fun _ h9 => h9) rfl hin rfl (by decide +kernel) rfl rfl (by rw [o_s228.2.1]; decide) dX8_init_114 (fun H locs hP hD hS => ?_)
  have hP : va_P (dC, dI) vwCl [(a0, .inr (11, (s228.set 15 (.ref q229)))), (q204, .inl (k205, 400, .inl f206)), (q209, .inl (k210, 400, .inl f211)), (q219, .inl (k220, 400, .inl f221)), (q229, .inl (k230, 400, .inl f231))] H := hP
  have hD : va_D A [(a0, .inr (11, (s228.set 15 (.ref q229)))), (q204, .inl (k205, 400, .inl f206)), (q209, .inl (k210, 400, .inl f211)), (q219, .inl (k220, 400, .inl f221)), (q229, .inl (k230, 400, .inl f231))] := hD
  have o_s233 := ow_set o_s228 15 (.ref q229) (by decide) (l' := [(15, .ref q229), (14, .ref q224), (13, .ref q219), (12, .ref q214), (10, .ref q209), (8, .ref q204), (7, .ref q199), (6, .ref q194), (5, .ref q189), (4, .ref q184), (3, .ref q179), (2, .ref q174), (0, .ref b0), (1, .int 0), (9, .int 0), (11, .int 0), (16, .null), (17, .null)]) (w' := [15, 14, 13, 12, 10, 8, 7, 6, 5, 4, 3, 2, 0]) rfl rfl
  generalize (s228.set 15 (.ref q229)) = s233 at hP hD o_s233
  refine lv_aload_n hx hb dX8_init_117 rfl (lv_at hl 0 rfl) ?_
  refine lv_sipush (v := 400) hx hb dX8_init_118 (by decide) ?_
  refine va_newa (atype := .int) (ty := .int) (a0 := (400, .inl (fun _ : Nat => (0 : Int32)))) (N' := 400) hx hb (hts (.arrayClass .int) (by decide +kernel)) rfl hK hP hD hS hA (na_I 400) (by decide) (by decide) (by decide) (Nat.le_of_ble_eq_true rfl) (Nat.le_of_ble_eq_true rfl) dX8_init_121 (fun q234 k235 H hK hP hD hS => ?_)
  have hK : va_K (dC, dI) vwCl [(k205, .int), (k210, .int), (k220, .int), (k230, .int), (k235, .int)] s := hK
  have hP : va_P (dC, dI) vwCl [(a0, .inr (11, s233)), (q204, .inl (k205, 400, .inl f206)), (q209, .inl (k210, 400, .inl f211)), (q219, .inl (k220, 400, .inl f221)), (q229, .inl (k230, 400, .inl f231)), (q234, .inl (k235, 400, .inl ((fun _ : Nat => (0 : Int32)))))] H := hP
  have hD : va_D A [(a0, .inr (11, s233)), (q204, .inl (k205, 400, .inl f206)), (q209, .inl (k210, 400, .inl f211)), (q219, .inl (k220, 400, .inl f221)), (q229, .inl (k230, 400, .inl f231)), (q234, .inl (k235, 400, .inl ((fun _ : Nat => (0 : Int32)))))] := hD
  have z237 : ∀ j, (fun _ : Nat => (0 : Int32)) j = 0 := fun _ => rfl
  generalize (fun _ : Nat => (0 : Int32)) = f236 at hP hD z237
  refine W.widen (k := 13) (n := 12617) (by omega) (by omega) ?_
  refine va_putF (D := (dC, dI)) (ci := 11) (v := .ref q234) (ty := .array .int) (C := RX8) (T := TX8) (N := 18) hx hb hts (in_k_X8_X8) tyX8 tyX8_ok nmX8 hown hK hP hD hS 0 rfl rfl 16 (by decide) (hts (.fieldLink RX8 54 "HeapWorks$Shape" "cursor" "[I") (by decide +kernel)) (fun _ h9 => h9) rfl hin rfl (by decide +kernel) rfl rfl (by rw [o_s233.2.1]; decide) dX8_init_123 (fun H locs hP hD hS => ?_)
  have hP : va_P (dC, dI) vwCl [(a0, .inr (11, (s233.set 16 (.ref q234)))), (q204, .inl (k205, 400, .inl f206)), (q209, .inl (k210, 400, .inl f211)), (q219, .inl (k220, 400, .inl f221)), (q229, .inl (k230, 400, .inl f231)), (q234, .inl (k235, 400, .inl f236))] H := hP
  have hD : va_D A [(a0, .inr (11, (s233.set 16 (.ref q234)))), (q204, .inl (k205, 400, .inl f206)), (q209, .inl (k210, 400, .inl f211)), (q219, .inl (k220, 400, .inl f221)), (q229, .inl (k230, 400, .inl f231)), (q234, .inl (k235, 400, .inl f236))] := hD
  have o_s238 := ow_set o_s233 16 (.ref q234) (by decide) (l' := [(16, .ref q234), (15, .ref q229), (14, .ref q224), (13, .ref q219), (12, .ref q214), (10, .ref q209), (8, .ref q204), (7, .ref q199), (6, .ref q194), (5, .ref q189), (4, .ref q184), (3, .ref q179), (2, .ref q174), (0, .ref b0), (1, .int 0), (9, .int 0), (11, .int 0), (17, .null)]) (w' := [16, 15, 14, 13, 12, 10, 8, 7, 6, 5, 4, 3, 2, 0]) rfl rfl
  generalize (s233.set 16 (.ref q234)) = s238 at hP hD o_s238
  have hP := hP.sub (ws' := [(a0, .inr (11, s238)), (q204, .inl (k205, 400, .inl f206)), (q209, .inl (k210, 400, .inl f211)), (q219, .inl (k220, 400, .inl f221)), (q229, .inl (k230, 400, .inl f231))]) [0, 1, 2, 3, 4] rfl
  have hD := hD.sub (ws' := [(a0, .inr (11, s238)), (q204, .inl (k205, 400, .inl f206)), (q209, .inl (k210, 400, .inl f211)), (q219, .inl (k220, 400, .inl f221)), (q229, .inl (k230, 400, .inl f231))]) [0, 1, 2, 3, 4] (by decide) rfl
  have hK := hK.sub (tys' := [(k205, .int), (k210, .int), (k220, .int), (k230, .int)]) [0, 1, 2, 3] rfl
  refine lv_aload_n hx hb dX8_init_126 rfl (lv_at hl 0 rfl) ?_
  refine lv_sipush (v := 512) hx hb dX8_init_127 (by decide) ?_
  refine va_newa (atype := .int) (ty := .int) (a0 := (512, .inl (fun _ : Nat => (0 : Int32)))) (N' := 512) hx hb (hts (.arrayClass .int) (by decide +kernel)) rfl hK hP hD hS hA (na_I 512) (by decide) (by decide) (by decide) (Nat.le_of_ble_eq_true rfl) (Nat.le_of_ble_eq_true rfl) dX8_init_130 (fun q239 k240 H hK hP hD hS => ?_)
  have hK : va_K (dC, dI) vwCl [(k205, .int), (k210, .int), (k220, .int), (k230, .int), (k240, .int)] s := hK
  have hP : va_P (dC, dI) vwCl [(a0, .inr (11, s238)), (q204, .inl (k205, 400, .inl f206)), (q209, .inl (k210, 400, .inl f211)), (q219, .inl (k220, 400, .inl f221)), (q229, .inl (k230, 400, .inl f231)), (q239, .inl (k240, 512, .inl ((fun _ : Nat => (0 : Int32)))))] H := hP
  have hD : va_D A [(a0, .inr (11, s238)), (q204, .inl (k205, 400, .inl f206)), (q209, .inl (k210, 400, .inl f211)), (q219, .inl (k220, 400, .inl f221)), (q229, .inl (k230, 400, .inl f231)), (q239, .inl (k240, 512, .inl ((fun _ : Nat => (0 : Int32)))))] := hD
  have z242 : ∀ j, (fun _ : Nat => (0 : Int32)) j = 0 := fun _ => rfl
  generalize (fun _ : Nat => (0 : Int32)) = f241 at hP hD z242
  refine W.widen (k := 14) (n := 13129) (by omega) (by omega) ?_
  refine va_putF (D := (dC, dI)) (ci := 11) (v := .ref q239) (ty := .array .int) (C := RX8) (T := TX8) (N := 18) hx hb hts (in_k_X8_X8) tyX8 tyX8_ok nmX8 hown hK hP hD hS 0 rfl rfl 17 (by decide) (hts (.fieldLink RX8 57 "HeapWorks$Shape" "bucket" "[I") (by decide +kernel)) (fun _ h9 => h9) rfl hin rfl (by decide +kernel) rfl rfl (by rw [o_s238.2.1]; decide) dX8_init_132 (fun H locs hP hD hS => ?_)
  have hP : va_P (dC, dI) vwCl [(a0, .inr (11, (s238.set 17 (.ref q239)))), (q204, .inl (k205, 400, .inl f206)), (q209, .inl (k210, 400, .inl f211)), (q219, .inl (k220, 400, .inl f221)), (q229, .inl (k230, 400, .inl f231)), (q239, .inl (k240, 512, .inl f241))] H := hP
  have hD : va_D A [(a0, .inr (11, (s238.set 17 (.ref q239)))), (q204, .inl (k205, 400, .inl f206)), (q209, .inl (k210, 400, .inl f211)), (q219, .inl (k220, 400, .inl f221)), (q229, .inl (k230, 400, .inl f231)), (q239, .inl (k240, 512, .inl f241))] := hD
  have o_s243 := ow_set o_s238 17 (.ref q239) (by decide) (l' := [(17, .ref q239), (16, .ref q234), (15, .ref q229), (14, .ref q224), (13, .ref q219), (12, .ref q214), (10, .ref q209), (8, .ref q204), (7, .ref q199), (6, .ref q194), (5, .ref q189), (4, .ref q184), (3, .ref q179), (2, .ref q174), (0, .ref b0), (1, .int 0), (9, .int 0), (11, .int 0)]) (w' := [17, 16, 15, 14, 13, 12, 10, 8, 7, 6, 5, 4, 3, 2, 0]) rfl rfl
  generalize (s238.set 17 (.ref q239)) = s243 at hP hD o_s243
  have hP9 := hP.sub (ws' := [(a0, .inr (11, s243)), (q239, .inl (k240, 512, .inl f241)), (q229, .inl (k230, 400, .inl f231)), (q219, .inl (k220, 400, .inl f221)), (q209, .inl (k210, 400, .inl f211)), (q204, .inl (k205, 400, .inl f206))]) [0, 5, 4, 3, 2, 1] rfl
  have hD9 := hD.sub (ws' := [(a0, .inr (11, s243)), (q239, .inl (k240, 512, .inl f241)), (q229, .inl (k230, 400, .inl f231)), (q219, .inl (k220, 400, .inl f221)), (q209, .inl (k210, 400, .inl f211)), (q204, .inl (k205, 400, .inl f206))]) [0, 5, 4, 3, 2, 1] (by decide) rfl
  have hK9 := hK.sub (tys' := [(k240, .int), (k230, .int), (k220, .int), (k210, .int), (k205, .int)]) [4, 3, 2, 1, 0] rfl
  refine W.widen (k := 14) (n := 13129) (by decide) (by decide) ?_
  exact W.vret hx hb hr (fun t ht hW => ⟨⟨(s243, q239, f241, k240, q229, f231, k230, q219, f221, k220, q209, f211, k210, q204, f206, k205), rfl, ⟨(ow_sub o_s243 [0, 2, 4, 6, 7, 14, 15, 16, 17] rfl), z242, z232, z222, z212, z207⟩, by rw [ht]; exact hP9, va_K.moved hW.alike hK9, hD9⟩, hS.F ht⟩) hS.2.2 dX8_init_135

def l_zk_J7_fill_53178 : List Cond := []
def w_zk_J7_fill_53178 : List Cond := .code yJ7_fill_53178 cJ7_fill_53178 4 none :: (l_zk_J7_fill_53178)
set_option maxHeartbeats 4000000 in
set_option maxRecDepth 100000 in
theorem zk_J7_fill_53178 (l : Launch) (dC : Nat → ClassId) (dI : Nat → Nat → Nat) (sz : Nat) (Ad0 : Nat) (Fa0 : Nat → Int32) (Ka0 : ClassId)   : Met l yJ7_fill_53178 w_zk_J7_fill_53178 ({ frames := 0, cells := 0, slots := 0, locals := 0 }) (va_Pc [.ref Ad0, .int (-1)] (fun U => U.heap.size = sz ∧ Wd dC dI [(Ka0, .int)] (fun _ => True) [(Ad0, .inl (Ka0, 400, .inl Fa0))] U)) (va_Qv (fun (u : (Nat → Int32)) => True) (fun (u : (Nat → Int32)) t => Wd dC dI [(Ka0, .int)] (va_A [(Ad0, .inl (Ka0, 400, .inl Fa0))] sz) [(Ad0, .inl (Ka0, 400, .inl ((u))))] t) (va_A [(Ad0, .inl (Ka0, 400, .inl Fa0))] sz))  0 0 (va_A [(Ad0, .inl (Ka0, 400, .inl Fa0))] sz) := by
  refine Met.ofW (cc := cJ7_fill_53178) (maxL := 4) (ret := none) (by decide) rfl ?_
  intro p e s m args below meth c s₁ B hml hv
  obtain ⟨rfl, hsz, hP, hK, hD0⟩ := hv
  have hx := B.exec
  have hb := B.bytes
  have hr := B.returns
  have hts := atoms_spec (ws := w_zk_J7_fill_53178) B.pre
  have hown : s.vm.findClass RJ7 = some m.cls := findClass_of_methodNamed B.named
  have hlocks := B.notSynchronized
  subst hsz
  have hD := hD0.self (sz := s.heap.size)
  generalize hAe : va_A [(Ad0, .inl (Ka0, 400, .inl Fa0))] s.heap.size = A at hD ⊢
  have hA : ∀ q : Nat, s.heap.size ≤ q → A q := fun q h => by rw [← hAe]; exact Or.inr h
  have hS : va_S A s.heap s.heap [] := va_S.rf
  have hl := lv_entry ([.ref Ad0, .int (-1)]) (n := 4) (Nat.le_of_ble_eq_true rfl)
  rw [lg_entry_eq]
  generalize (lg_sl ([.ref Ad0, .int (-1)]) ++ List.replicate (4 - (lg_sl ([.ref Ad0, .int (-1)])).length) Slot.unset).toArray = ls at hl ⊢
  have hl : lv_has ls 4 [(0, .ref Ad0), (1, .int (-1))] := hl
  refine lv_iconst (v := 0) hx hb dJ7_fill_53178_0 (by decide) ?_
  refine lv_istore_n (lv' := [(2, .int 0), (0, .ref Ad0), (1, .int (-1))]) hx hb dJ7_fill_53178_1 rfl hl (by decide) rfl (fun ls hl => ?_)
  refine lv_aload_n hx hb dJ7_fill_53178_2 rfl (lv_at hl 1 rfl) ?_
  refine va_alen (v := 400) hx hb hK hP 0 0 rfl rfl (show Int32.ofNat 400 = 400 from by decide) dJ7_fill_53178_3 ?_
  refine lv_istore_n (lv' := [(3, .int 400), (2, .int 0), (0, .ref Ad0), (1, .int (-1))]) hx hb dJ7_fill_53178_4 rfl hl (by decide) rfl (fun ls hl => ?_)
  have HL1 : ∀ (n j342 : Nat) (x343 : Int32) (f344 : Nat → Int32), x343 = nI j342 → 0 ≤ j342 → j342 ≤ 400 → 401 ≤ j342 + n → ∀ (H : Heap) (locs : List Loc) (ls : Array Slot), va_P (dC, dI) vwCl [(Ad0, .inl (Ka0, 400, .inl f344))] H → va_D A [(Ad0, .inl (Ka0, 400, .inl f344))] → va_S A s.heap H locs → lv_has ls 4 [(3, .int 400), (2, .int x343), (0, .ref Ad0), (1, .int (-1))] → W p l e (headSpec w_zk_J7_fill_53178 ({ frames := 0, cells := 0, slots := 0, locals := 0 })).room s m ([.ref Ad0, .int (-1)]).toArray below meth c H locs 0 0 (MQ below (va_Qv (fun (u : (Nat → Int32)) => True) (fun (u : (Nat → Int32)) t => Wd dC dI [(Ka0, .int)] A [(Ad0, .inl (Ka0, 400, .inl ((u))))] t) A) ([.ref Ad0, .int (-1)]).toArray s 0 0 A) (F0 m 5 ls []) := by
    intro n
    induction n with
    | zero =>
      intro j342 x343 f344 e345 h347 h348 h349
      exact absurd h349 (by omega)
    | succ n ih =>
      intro j342 x343 f344 e345 h347 h348 h349 H locs ls hP hD hS hl
      have t346 : x343.toInt = (j342 : Int) := by rw [e345]; exact nI_toInt (by omega)
      refine lv_iload_n hx hb dJ7_fill_53178_5 rfl (lv_at hl 1 rfl) ?_
      refine lv_iload_n hx hb dJ7_fill_53178_6 rfl (lv_at hl 0 rfl) ?_
      refine lv_icmp_ge (tgt := 20) hx hb dJ7_fill_53178_7 (by decide) (fun c350 => ?_) (fun c350 => ?_)
      · skip
        have hP9 := hP.sub (ws' := [(Ad0, .inl (Ka0, 400, .inl f344))]) [0] rfl
        have hD9 := hD.sub (ws' := [(Ad0, .inl (Ka0, 400, .inl f344))]) [0] (by decide) rfl
        have hK9 := hK.sub (tys' := [(Ka0, .int)]) [0] rfl
        exact W.vret hx hb hr (fun t ht hW => ⟨⟨f344, rfl, trivial, by rw [ht]; exact hP9, va_K.moved hW.alike hK9, hD9⟩, hS.F ht⟩) hS.2.2 dJ7_fill_53178_20
      · skip
        refine lv_aload_n hx hb dJ7_fill_53178_10 rfl (lv_at hl 2 rfl) ?_
        refine lv_iload_n hx hb dJ7_fill_53178_11 rfl (lv_at hl 1 rfl) ?_
        refine lv_iload_n hx hb dJ7_fill_53178_12 rfl (lv_at hl 3 rfl) ?_
        refine va_iast hx hb hK hP hD hS 0 0 rfl rfl (by rw [vp_in_iff]; (try simp only [i_lt, i_le, i_eq, kc_400] at t346 h348 h347 c350); omega) dJ7_fill_53178_13 (fun H locs hP hD hS => ?_)
        have hP : va_P (dC, dI) vwCl [(Ad0, .inl (Ka0, 400, .inl (upd f344 (x343 : Int32).toNatClampNeg (-1))))] H := hP
        have hD : va_D A [(Ad0, .inl (Ka0, 400, .inl (upd f344 (x343 : Int32).toNatClampNeg (-1))))] := hD
        have q352 : (upd f344 (x343 : Int32).toNatClampNeg (-1)) (x343 : Int32).toNatClampNeg = (-1) := pk_us
        generalize upd f344 (x343 : Int32).toNatClampNeg (-1) = f351 at hP hD q352
        obtain ⟨x353, ex353⟩ : ∃ y : Int32, y = x343 + 1 := ⟨_, rfl⟩
        refine lv_iinc (v := x353) (lv' := [(2, .int x353), (3, .int 400), (0, .ref Ad0), (1, .int (-1))]) hx hb dJ7_fill_53178_14 hl (k := 1) rfl (by rw [ex353]; rfl) (by decide) rfl (fun ls hl => ?_)
        have tx353 : x353.toInt = x343.toInt + (1 : Int32).toInt := by rw [ex353]; exact i_add (by have bd_x343 := i_bd x343; (try simp only [i_lt, i_le, i_eq, kc_400, kc_1] at t346 h348 h347 c350 ⊢); omega) (by have bd_x343 := i_bd x343; (try simp only [i_lt, i_le, i_eq, kc_400, kc_1] at t346 h348 h347 c350 ⊢); omega)
        refine lv_goto (tgt := 5) hx hb dJ7_fill_53178_17 (by decide) ?_
        exact ih (j342 + 1) x353 f351 (by rw [ex353, e345]; exact nI_1 _) (by omega) (by (try simp only [i_lt, i_le, i_eq, kc_400, kc_1] at t346 h348 h347 c350 tx353); omega) (by omega)  _ _ _ (hP.sub [0] rfl) (hD.sub [0] (by decide) rfl) hS  (lv_sub hl [1, 0, 2, 3] rfl)
  exact HL1 401 0 (0) Fa0 (by decide) (by omega) (by omega) (by omega)  _ _ _ hP hD hS  hl

def l_zk_X8_init : List Cond := [.methodLink RX8 3 objectInit, .instanceMethod objectInit, .code objectInit ⟨#[0xb1]⟩ 1 none, .fieldLink RX8 9 "HeapWorks$Shape" "types" "LHeapWorks$Types;", .arrayClass .int, .fieldLink RX8 17 "HeapWorks$Shape" "holderFirst" "[I", .fieldLink RX8 21 "HeapWorks$Shape" "holderThing" "[I", .fieldLink RX8 24 "HeapWorks$Shape" "holderSlot" "[I", .fieldLink RX8 27 "HeapWorks$Shape" "dominator" "[I", .fieldLink RX8 30 "HeapWorks$Shape" "kept" "[I", .fieldLink RX8 33 "HeapWorks$Shape" "dominated" "[I", .fieldLink RX8 36 "HeapWorks$Shape" "ring" "[I", .fieldLink RX8 39 "HeapWorks$Shape" "twin" "[I", .fieldLink RX8 42 "HeapWorks$Shape" "order" "[I", .fieldLink RX8 45 "HeapWorks$Shape" "low" "[I", .fieldLink RX8 48 "HeapWorks$Shape" "stack" "[I", .fieldLink RX8 51 "HeapWorks$Shape" "path" "[I", .fieldLink RX8 54 "HeapWorks$Shape" "cursor" "[I", .fieldLink RX8 57 "HeapWorks$Shape" "bucket" "[I"]
def w_zk_X8_init : List Cond := .code yX8_init cX8_init 2 none :: (l_zk_X8_init ++ (wsX80))
theorem in_zk_X8_init_X8 : ∀ w ∈ wsX80, w ∈ w_zk_X8_init := fun w h => List.mem_cons_of_mem _ (List.mem_append_right _ (h))
set_option maxHeartbeats 4000000 in
set_option maxRecDepth 100000 in
theorem zk_X8_init (l : Launch) (dC : Nat → ClassId) (dI : Nat → Nat → Nat) (sz : Nat) (Ad0 : Nat) (Fs0 : List Value) (Br0 : Nat) (k_Fs0 : fh Fs0 18 [])  : Met l yX8_init w_zk_X8_init ({ frames := 1, cells := 14, slots := 13129, locals := 24 }) (va_Pc [.ref Ad0, .ref Br0] (fun U => U.heap.size = sz ∧ Wd dC dI [] (fun _ => True) [(Ad0, .inr (11, Fs0))] U)) (va_Qv (fun (u : List Value × Nat × (Nat → Int32) × ClassId × Nat × (Nat → Int32) × ClassId × Nat × (Nat → Int32) × ClassId × Nat × (Nat → Int32) × ClassId × Nat × (Nat → Int32) × ClassId) => match u with | (s543, q539, f541, k540, q529, f531, k530, q519, f521, k520, q509, f511, k510, q504, f506, k505) => (ow Fs0 (s543) 18 [17, 16, 15, 14, 13, 12, 10, 8, 7, 6, 5, 4, 3, 2, 0] [(17, .ref q539), (15, .ref q529), (13, .ref q519), (10, .ref q509), (8, .ref q504), (0, .ref Br0)] ∧ (∀ j, f541 j = 0) ∧ (∀ j, f531 j = 0) ∧ (∀ j, f521 j = 0) ∧ (∀ j, f511 j = 0) ∧ (∀ j, f506 j = 0))) (fun (u : List Value × Nat × (Nat → Int32) × ClassId × Nat × (Nat → Int32) × ClassId × Nat × (Nat → Int32) × ClassId × Nat × (Nat → Int32) × ClassId × Nat × (Nat → Int32) × ClassId) t => match u with | (s543, q539, f541, k540, q529, f531, k530, q519, f521, k520, q509, f511, k510, q504, f506, k505) => Wd dC dI [(k540, .int), (k530, .int), (k520, .int), (k510, .int), (k505, .int)] (va_A [(Ad0, .inr (11, Fs0))] sz) [(Ad0, .inr (11, s543)), (q539, .inl (k540, 512, .inl f541)), (q529, .inl (k530, 400, .inl f531)), (q519, .inl (k520, 400, .inl f521)), (q509, .inl (k510, 400, .inl f511)), (q504, .inl (k505, 400, .inl f506))] t) (va_A [(Ad0, .inr (11, Fs0))] sz))  14 13129 (va_A [(Ad0, .inr (11, Fs0))] sz) := by
  refine Met.ofW (cc := cX8_init) (maxL := 2) (ret := none) (by decide) rfl ?_
  intro p e s m args below meth c s₁ B hml hv
  obtain ⟨rfl, hsz, hP, hK, hD0⟩ := hv
  have hx := B.exec
  have hb := B.bytes
  have hr := B.returns
  have hts := atoms_spec (ws := w_zk_X8_init) B.pre
  have hown : s.vm.findClass RX8 = some m.cls := findClass_of_methodNamed B.named
  have hlocks := B.notSynchronized
  have hin : meth.name = "<init>" := (name_of_methodNamed B.named B.method).1
  subst hsz
  have hD := hD0.self (sz := s.heap.size)
  generalize hAe : va_A [(Ad0, .inr (11, Fs0))] s.heap.size = A at hD ⊢
  have hA : ∀ q : Nat, s.heap.size ≤ q → A q := fun q h => by rw [← hAe]; exact Or.inr h
  have hS : va_S A s.heap s.heap [] := va_S.rf
  have hl := lv_entry ([.ref Ad0, .ref Br0]) (n := 2) (Nat.le_of_ble_eq_true rfl)
  rw [lg_entry_eq]
  generalize (lg_sl ([.ref Ad0, .ref Br0]) ++ List.replicate (2 - (lg_sl ([.ref Ad0, .ref Br0])).length) Slot.unset).toArray = ls at hl ⊢
  have hl : lv_has ls 2 [(0, .ref Ad0), (1, .ref Br0)] := hl
  have o_Fs0 := ow_0 k_Fs0
  refine lv_aload_n hx hb dX8_init_0 rfl (lv_at hl 0 rfl) ?_
  refine W.objInit hx hb hown (hts (.methodLink RX8 3 objectInit) (by decide +kernel)) (hts (.instanceMethod objectInit) (by decide +kernel)) (hts (.code objectInit ⟨#[0xb1]⟩ 1 none) (by decide +kernel)) rfl (by rw [hml]; exact hl.1) rfl dX8_init_1 (Nat.le_of_ble_eq_true rfl) (Nat.le_of_ble_eq_true rfl) ?_
  refine W.eq (g2 := F0 m 4 ls []) rfl ?_
  refine lv_aload_n hx hb dX8_init_4 rfl (lv_at hl 0 rfl) ?_
  refine lv_aload_n hx hb dX8_init_5 rfl (lv_at hl 1 rfl) ?_
  refine va_putF (D := (dC, dI)) (ci := 11) (v := .ref Br0) (ty := .object "HeapWorks$Types") (C := RX8) (T := TX8) (N := 18) hx hb hts (in_zk_X8_init_X8) tyX8 tyX8_ok nmX8 hown hK hP hD hS 0 rfl rfl 0 (by decide) (hts (.fieldLink RX8 9 "HeapWorks$Shape" "types" "LHeapWorks$Types;") (by decide +kernel)) (fun _ h9 => h9) rfl hin rfl (by decide +kernel) rfl rfl (by rw [o_Fs0.2.1]; decide) dX8_init_6 (fun H locs hP hD hS => ?_)
  have hP : va_P (dC, dI) vwCl [(Ad0, .inr (11, (Fs0.set 0 (.ref Br0))))] H := hP
  have hD : va_D A [(Ad0, .inr (11, (Fs0.set 0 (.ref Br0))))] := hD
  have o_s473 := ow_set o_Fs0 0 (.ref Br0) (by decide) (l' := [(0, .ref Br0)]) (w' := [0]) rfl rfl
  generalize (Fs0.set 0 (.ref Br0)) = s473 at hP hD o_s473
  refine lv_aload_n hx hb dX8_init_9 rfl (lv_at hl 0 rfl) ?_
  refine lv_sipush (v := 401) hx hb dX8_init_10 (by decide) ?_
  refine va_newa (atype := .int) (ty := .int) (a0 := (401, .inl (fun _ : Nat => (0 : Int32)))) (N' := 401) hx hb (hts (.arrayClass .int) (by decide +kernel)) rfl hK hP hD hS hA (na_I 401) (by decide) (by decide) (by decide) (Nat.le_of_ble_eq_true rfl) (Nat.le_of_ble_eq_true rfl) dX8_init_13 (fun q474 k475 H hK hP hD hS => ?_)
  have hK : va_K (dC, dI) vwCl [(k475, .int)] s := hK
  have hP : va_P (dC, dI) vwCl [(Ad0, .inr (11, s473)), (q474, .inl (k475, 401, .inl ((fun _ : Nat => (0 : Int32)))))] H := hP
  have hD : va_D A [(Ad0, .inr (11, s473)), (q474, .inl (k475, 401, .inl ((fun _ : Nat => (0 : Int32)))))] := hD
  have z477 : ∀ j, (fun _ : Nat => (0 : Int32)) j = 0 := fun _ => rfl
  generalize (fun _ : Nat => (0 : Int32)) = f476 at hP hD z477
  refine W.widen (k := 1) (n := 401) (by omega) (by omega) ?_
  refine va_putF (D := (dC, dI)) (ci := 11) (v := .ref q474) (ty := .array .int) (C := RX8) (T := TX8) (N := 18) hx hb hts (in_zk_X8_init_X8) tyX8 tyX8_ok nmX8 hown hK hP hD hS 0 rfl rfl 2 (by decide) (hts (.fieldLink RX8 17 "HeapWorks$Shape" "holderFirst" "[I") (by decide +kernel)) (fun _ h9 => h9) rfl hin rfl (by decide +kernel) rfl rfl (by rw [o_s473.2.1]; decide) dX8_init_15 (fun H locs hP hD hS => ?_)
  have hP : va_P (dC, dI) vwCl [(Ad0, .inr (11, (s473.set 2 (.ref q474)))), (q474, .inl (k475, 401, .inl f476))] H := hP
  have hD : va_D A [(Ad0, .inr (11, (s473.set 2 (.ref q474)))), (q474, .inl (k475, 401, .inl f476))] := hD
  have o_s478 := ow_set o_s473 2 (.ref q474) (by decide) (l' := [(2, .ref q474), (0, .ref Br0)]) (w' := [2, 0]) rfl rfl
  generalize (s473.set 2 (.ref q474)) = s478 at hP hD o_s478
  have hP := hP.sub (ws' := [(Ad0, .inr (11, s478))]) [0] rfl
  have hD := hD.sub (ws' := [(Ad0, .inr (11, s478))]) [0] (by decide) rfl
  have hK := hK.sub (tys' := []) [] rfl
  refine lv_aload_n hx hb dX8_init_18 rfl (lv_at hl 0 rfl) ?_
  refine lv_sipush (v := 4108) hx hb dX8_init_19 (by decide) ?_
  refine va_newa (atype := .int) (ty := .int) (a0 := (4108, .inl (fun _ : Nat => (0 : Int32)))) (N' := 4108) hx hb (hts (.arrayClass .int) (by decide +kernel)) rfl hK hP hD hS hA (na_I 4108) (by decide) (by decide) (by decide) (Nat.le_of_ble_eq_true rfl) (Nat.le_of_ble_eq_true rfl) dX8_init_22 (fun q479 k480 H hK hP hD hS => ?_)
  have hK : va_K (dC, dI) vwCl [(k480, .int)] s := hK
  have hP : va_P (dC, dI) vwCl [(Ad0, .inr (11, s478)), (q479, .inl (k480, 4108, .inl ((fun _ : Nat => (0 : Int32)))))] H := hP
  have hD : va_D A [(Ad0, .inr (11, s478)), (q479, .inl (k480, 4108, .inl ((fun _ : Nat => (0 : Int32)))))] := hD
  have z482 : ∀ j, (fun _ : Nat => (0 : Int32)) j = 0 := fun _ => rfl
  generalize (fun _ : Nat => (0 : Int32)) = f481 at hP hD z482
  refine W.widen (k := 2) (n := 4509) (by omega) (by omega) ?_
  refine va_putF (D := (dC, dI)) (ci := 11) (v := .ref q479) (ty := .array .int) (C := RX8) (T := TX8) (N := 18) hx hb hts (in_zk_X8_init_X8) tyX8 tyX8_ok nmX8 hown hK hP hD hS 0 rfl rfl 3 (by decide) (hts (.fieldLink RX8 21 "HeapWorks$Shape" "holderThing" "[I") (by decide +kernel)) (fun _ h9 => h9) rfl hin rfl (by decide +kernel) rfl rfl (by rw [o_s478.2.1]; decide) dX8_init_24 (fun H locs hP hD hS => ?_)
  have hP : va_P (dC, dI) vwCl [(Ad0, .inr (11, (s478.set 3 (.ref q479)))), (q479, .inl (k480, 4108, .inl f481))] H := hP
  have hD : va_D A [(Ad0, .inr (11, (s478.set 3 (.ref q479)))), (q479, .inl (k480, 4108, .inl f481))] := hD
  have o_s483 := ow_set o_s478 3 (.ref q479) (by decide) (l' := [(3, .ref q479), (2, .ref q474), (0, .ref Br0)]) (w' := [3, 2, 0]) rfl rfl
  generalize (s478.set 3 (.ref q479)) = s483 at hP hD o_s483
  have hP := hP.sub (ws' := [(Ad0, .inr (11, s483))]) [0] rfl
  have hD := hD.sub (ws' := [(Ad0, .inr (11, s483))]) [0] (by decide) rfl
  have hK := hK.sub (tys' := []) [] rfl
  refine lv_aload_n hx hb dX8_init_27 rfl (lv_at hl 0 rfl) ?_
  refine lv_sipush (v := 4108) hx hb dX8_init_28 (by decide) ?_
  refine va_newa (atype := .int) (ty := .int) (a0 := (4108, .inl (fun _ : Nat => (0 : Int32)))) (N' := 4108) hx hb (hts (.arrayClass .int) (by decide +kernel)) rfl hK hP hD hS hA (na_I 4108) (by decide) (by decide) (by decide) (Nat.le_of_ble_eq_true rfl) (Nat.le_of_ble_eq_true rfl) dX8_init_31 (fun q484 k485 H hK hP hD hS => ?_)
  have hK : va_K (dC, dI) vwCl [(k485, .int)] s := hK
  have hP : va_P (dC, dI) vwCl [(Ad0, .inr (11, s483)), (q484, .inl (k485, 4108, .inl ((fun _ : Nat => (0 : Int32)))))] H := hP
  have hD : va_D A [(Ad0, .inr (11, s483)), (q484, .inl (k485, 4108, .inl ((fun _ : Nat => (0 : Int32)))))] := hD
  have z487 : ∀ j, (fun _ : Nat => (0 : Int32)) j = 0 := fun _ => rfl
  generalize (fun _ : Nat => (0 : Int32)) = f486 at hP hD z487
  refine W.widen (k := 3) (n := 8617) (by omega) (by omega) ?_
  refine va_putF (D := (dC, dI)) (ci := 11) (v := .ref q484) (ty := .array .int) (C := RX8) (T := TX8) (N := 18) hx hb hts (in_zk_X8_init_X8) tyX8 tyX8_ok nmX8 hown hK hP hD hS 0 rfl rfl 4 (by decide) (hts (.fieldLink RX8 24 "HeapWorks$Shape" "holderSlot" "[I") (by decide +kernel)) (fun _ h9 => h9) rfl hin rfl (by decide +kernel) rfl rfl (by rw [o_s483.2.1]; decide) dX8_init_33 (fun H locs hP hD hS => ?_)
  have hP : va_P (dC, dI) vwCl [(Ad0, .inr (11, (s483.set 4 (.ref q484)))), (q484, .inl (k485, 4108, .inl f486))] H := hP
  have hD : va_D A [(Ad0, .inr (11, (s483.set 4 (.ref q484)))), (q484, .inl (k485, 4108, .inl f486))] := hD
  have o_s488 := ow_set o_s483 4 (.ref q484) (by decide) (l' := [(4, .ref q484), (3, .ref q479), (2, .ref q474), (0, .ref Br0)]) (w' := [4, 3, 2, 0]) rfl rfl
  generalize (s483.set 4 (.ref q484)) = s488 at hP hD o_s488
  have hP := hP.sub (ws' := [(Ad0, .inr (11, s488))]) [0] rfl
  have hD := hD.sub (ws' := [(Ad0, .inr (11, s488))]) [0] (by decide) rfl
  have hK := hK.sub (tys' := []) [] rfl
  refine lv_aload_n hx hb dX8_init_36 rfl (lv_at hl 0 rfl) ?_
  refine lv_sipush (v := 400) hx hb dX8_init_37 (by decide) ?_
  refine va_newa (atype := .int) (ty := .int) (a0 := (400, .inl (fun _ : Nat => (0 : Int32)))) (N' := 400) hx hb (hts (.arrayClass .int) (by decide +kernel)) rfl hK hP hD hS hA (na_I 400) (by decide) (by decide) (by decide) (Nat.le_of_ble_eq_true rfl) (Nat.le_of_ble_eq_true rfl) dX8_init_40 (fun q489 k490 H hK hP hD hS => ?_)
  have hK : va_K (dC, dI) vwCl [(k490, .int)] s := hK
  have hP : va_P (dC, dI) vwCl [(Ad0, .inr (11, s488)), (q489, .inl (k490, 400, .inl ((fun _ : Nat => (0 : Int32)))))] H := hP
  have hD : va_D A [(Ad0, .inr (11, s488)), (q489, .inl (k490, 400, .inl ((fun _ : Nat => (0 : Int32)))))] := hD
  have z492 : ∀ j, (fun _ : Nat => (0 : Int32)) j = 0 := fun _ => rfl
  generalize (fun _ : Nat => (0 : Int32)) = f491 at hP hD z492
  refine W.widen (k := 4) (n := 9017) (by omega) (by omega) ?_
  refine va_putF (D := (dC, dI)) (ci := 11) (v := .ref q489) (ty := .array .int) (C := RX8) (T := TX8) (N := 18) hx hb hts (in_zk_X8_init_X8) tyX8 tyX8_ok nmX8 hown hK hP hD hS 0 rfl rfl 5 (by decide) (hts (.fieldLink RX8 27 "HeapWorks$Shape" "dominator" "[I") (by decide +kernel)) (fun _ h9 => h9) rfl hin rfl (by decide +kernel) rfl rfl (by rw [o_s488.2.1]; decide) dX8_init_42 (fun H locs hP hD hS => ?_)
  have hP : va_P (dC, dI) vwCl [(Ad0, .inr (11, (s488.set 5 (.ref q489)))), (q489, .inl (k490, 400, .inl f491))] H := hP
  have hD : va_D A [(Ad0, .inr (11, (s488.set 5 (.ref q489)))), (q489, .inl (k490, 400, .inl f491))] := hD
  have o_s493 := ow_set o_s488 5 (.ref q489) (by decide) (l' := [(5, .ref q489), (4, .ref q484), (3, .ref q479), (2, .ref q474), (0, .ref Br0)]) (w' := [5, 4, 3, 2, 0]) rfl rfl
  generalize (s488.set 5 (.ref q489)) = s493 at hP hD o_s493
  have hP := hP.sub (ws' := [(Ad0, .inr (11, s493))]) [0] rfl
  have hD := hD.sub (ws' := [(Ad0, .inr (11, s493))]) [0] (by decide) rfl
  have hK := hK.sub (tys' := []) [] rfl
  refine lv_aload_n hx hb dX8_init_45 rfl (lv_at hl 0 rfl) ?_
  refine lv_sipush (v := 400) hx hb dX8_init_46 (by decide) ?_
  refine va_newa (atype := .int) (ty := .int) (a0 := (400, .inl (fun _ : Nat => (0 : Int32)))) (N' := 400) hx hb (hts (.arrayClass .int) (by decide +kernel)) rfl hK hP hD hS hA (na_I 400) (by decide) (by decide) (by decide) (Nat.le_of_ble_eq_true rfl) (Nat.le_of_ble_eq_true rfl) dX8_init_49 (fun q494 k495 H hK hP hD hS => ?_)
  have hK : va_K (dC, dI) vwCl [(k495, .int)] s := hK
  have hP : va_P (dC, dI) vwCl [(Ad0, .inr (11, s493)), (q494, .inl (k495, 400, .inl ((fun _ : Nat => (0 : Int32)))))] H := hP
  have hD : va_D A [(Ad0, .inr (11, s493)), (q494, .inl (k495, 400, .inl ((fun _ : Nat => (0 : Int32)))))] := hD
  have z497 : ∀ j, (fun _ : Nat => (0 : Int32)) j = 0 := fun _ => rfl
  generalize (fun _ : Nat => (0 : Int32)) = f496 at hP hD z497
  refine W.widen (k := 5) (n := 9417) (by omega) (by omega) ?_
  refine va_putF (D := (dC, dI)) (ci := 11) (v := .ref q494) (ty := .array .int) (C := RX8) (T := TX8) (N := 18) hx hb hts (in_zk_X8_init_X8) tyX8 tyX8_ok nmX8 hown hK hP hD hS 0 rfl rfl 6 (by decide) (hts (.fieldLink RX8 30 "HeapWorks$Shape" "kept" "[I") (by decide +kernel)) (fun _ h9 => h9) rfl hin rfl (by decide +kernel) rfl rfl (by rw [o_s493.2.1]; decide) dX8_init_51 (fun H locs hP hD hS => ?_)
  have hP : va_P (dC, dI) vwCl [(Ad0, .inr (11, (s493.set 6 (.ref q494)))), (q494, .inl (k495, 400, .inl f496))] H := hP
  have hD : va_D A [(Ad0, .inr (11, (s493.set 6 (.ref q494)))), (q494, .inl (k495, 400, .inl f496))] := hD
  have o_s498 := ow_set o_s493 6 (.ref q494) (by decide) (l' := [(6, .ref q494), (5, .ref q489), (4, .ref q484), (3, .ref q479), (2, .ref q474), (0, .ref Br0)]) (w' := [6, 5, 4, 3, 2, 0]) rfl rfl
  generalize (s493.set 6 (.ref q494)) = s498 at hP hD o_s498
  have hP := hP.sub (ws' := [(Ad0, .inr (11, s498))]) [0] rfl
  have hD := hD.sub (ws' := [(Ad0, .inr (11, s498))]) [0] (by decide) rfl
  have hK := hK.sub (tys' := []) [] rfl
  refine lv_aload_n hx hb dX8_init_54 rfl (lv_at hl 0 rfl) ?_
  refine lv_sipush (v := 400) hx hb dX8_init_55 (by decide) ?_
  refine va_newa (atype := .int) (ty := .int) (a0 := (400, .inl (fun _ : Nat => (0 : Int32)))) (N' := 400) hx hb (hts (.arrayClass .int) (by decide +kernel)) rfl hK hP hD hS hA (na_I 400) (by decide) (by decide) (by decide) (Nat.le_of_ble_eq_true rfl) (Nat.le_of_ble_eq_true rfl) dX8_init_58 (fun q499 k500 H hK hP hD hS => ?_)
  have hK : va_K (dC, dI) vwCl [(k500, .int)] s := hK
  have hP : va_P (dC, dI) vwCl [(Ad0, .inr (11, s498)), (q499, .inl (k500, 400, .inl ((fun _ : Nat => (0 : Int32)))))] H := hP
  have hD : va_D A [(Ad0, .inr (11, s498)), (q499, .inl (k500, 400, .inl ((fun _ : Nat => (0 : Int32)))))] := hD
  have z502 : ∀ j, (fun _ : Nat => (0 : Int32)) j = 0 := fun _ => rfl
  generalize (fun _ : Nat => (0 : Int32)) = f501 at hP hD z502
  refine W.widen (k := 6) (n := 9817) (by omega) (by omega) ?_
  refine va_putF (D := (dC, dI)) (ci := 11) (v := .ref q499) (ty := .array .int) (C := RX8) (T := TX8) (N := 18) hx hb hts (in_zk_X8_init_X8) tyX8 tyX8_ok nmX8 hown hK hP hD hS 0 rfl rfl 7 (by decide) (hts (.fieldLink RX8 33 "HeapWorks$Shape" "dominated" "[I") (by decide +kernel)) (fun _ h9 => h9) rfl hin rfl (by decide +kernel) rfl rfl (by rw [o_s498.2.1]; decide) dX8_init_60 (fun H locs hP hD hS => ?_)
  have hP : va_P (dC, dI) vwCl [(Ad0, .inr (11, (s498.set 7 (.ref q499)))), (q499, .inl (k500, 400, .inl f501))] H := hP
  have hD : va_D A [(Ad0, .inr (11, (s498.set 7 (.ref q499)))), (q499, .inl (k500, 400, .inl f501))] := hD
  have o_s503 := ow_set o_s498 7 (.ref q499) (by decide) (l' := [(7, .ref q499), (6, .ref q494), (5, .ref q489), (4, .ref q484), (3, .ref q479), (2, .ref q474), (0, .ref Br0)]) (w' := [7, 6, 5, 4, 3, 2, 0]) rfl rfl
  generalize (s498.set 7 (.ref q499)) = s503 at hP hD o_s503
  have hP := hP.sub (ws' := [(Ad0, .inr (11, s503))]) [0] rfl
  have hD := hD.sub (ws' := [(Ad0, .inr (11, s503))]) [0] (by decide) rfl
  have hK := hK.sub (tys' := []) [] rfl
  refine lv_aload_n hx hb dX8_init_63 rfl (lv_at hl 0 rfl) ?_
  refine lv_sipush (v := 400) hx hb dX8_init_64 (by decide) ?_
  refine va_newa (atype := .int) (ty := .int) (a0 := (400, .inl (fun _ : Nat => (0 : Int32)))) (N' := 400) hx hb (hts (.arrayClass .int) (by decide +kernel)) rfl hK hP hD hS hA (na_I 400) (by decide) (by decide) (by decide) (Nat.le_of_ble_eq_true rfl) (Nat.le_of_ble_eq_true rfl) dX8_init_67 (fun q504 k505 H hK hP hD hS => ?_)
  have hK : va_K (dC, dI) vwCl [(k505, .int)] s := hK
  have hP : va_P (dC, dI) vwCl [(Ad0, .inr (11, s503)), (q504, .inl (k505, 400, .inl ((fun _ : Nat => (0 : Int32)))))] H := hP
  have hD : va_D A [(Ad0, .inr (11, s503)), (q504, .inl (k505, 400, .inl ((fun _ : Nat => (0 : Int32)))))] := hD
  have z507 : ∀ j, (fun _ : Nat => (0 : Int32)) j = 0 := fun _ => rfl
  generalize (fun _ : Nat => (0 : Int32)) = f506 at hP hD z507
  refine W.widen (k := 7) (n := 10217) (by omega) (by omega) ?_
  refine va_putF (D := (dC, dI)) (ci := 11) (v := .ref q504) (ty := .array .int) (C := RX8) (T := TX8) (N := 18) hx hb hts (in_zk_X8_init_X8) tyX8 tyX8_ok nmX8 hown hK hP hD hS 0 rfl rfl 8 (by decide) (hts (.fieldLink RX8 36 "HeapWorks$Shape" "ring" "[I") (by decide +kernel)) (fun _ h9 => h9) rfl hin rfl (by decide +kernel) rfl rfl (by rw [o_s503.2.1]; decide) dX8_init_69 (fun H locs hP hD hS => ?_)
  have hP : va_P (dC, dI) vwCl [(Ad0, .inr (11, (s503.set 8 (.ref q504)))), (q504, .inl (k505, 400, .inl f506))] H := hP
  have hD : va_D A [(Ad0, .inr (11, (s503.set 8 (.ref q504)))), (q504, .inl (k505, 400, .inl f506))] := hD
  have o_s508 := ow_set o_s503 8 (.ref q504) (by decide) (l' := [(8, .ref q504), (7, .ref q499), (6, .ref q494), (5, .ref q489), (4, .ref q484), (3, .ref q479), (2, .ref q474), (0, .ref Br0)]) (w' := [8, 7, 6, 5, 4, 3, 2, 0]) rfl rfl
  generalize (s503.set 8 (.ref q504)) = s508 at hP hD o_s508
  refine lv_aload_n hx hb dX8_init_72 rfl (lv_at hl 0 rfl) ?_
  refine lv_sipush (v := 400) hx hb dX8_init_73 (by decide) ?_
  refine va_newa (atype := .int) (ty := .int) (a0 := (400, .inl (fun _ : Nat => (0 : Int32)))) (N' := 400) hx hb (hts (.arrayClass .int) (by decide +kernel)) rfl hK hP hD hS hA (na_I 400) (by decide) (by decide) (by decide) (Nat.le_of_ble_eq_true rfl) (Nat.le_of_ble_eq_true rfl) dX8_init_76 (fun q509 k510 H hK hP hD hS => ?_)
  have hK : va_K (dC, dI) vwCl [(k505, .int), (k510, .int)] s := hK
  have hP : va_P (dC, dI) vwCl [(Ad0, .inr (11, s508)), (q504, .inl (k505, 400, .inl f506)), (q509, .inl (k510, 400, .inl ((fun _ : Nat => (0 : Int32)))))] H := hP
  have hD : va_D A [(Ad0, .inr (11, s508)), (q504, .inl (k505, 400, .inl f506)), (q509, .inl (k510, 400, .inl ((fun _ : Nat => (0 : Int32)))))] := hD
  have z512 : ∀ j, (fun _ : Nat => (0 : Int32)) j = 0 := fun _ => rfl
  generalize (fun _ : Nat => (0 : Int32)) = f511 at hP hD z512
  refine W.widen (k := 8) (n := 10617) (by omega) (by omega) ?_
  refine va_putF (D := (dC, dI)) (ci := 11) (v := .ref q509) (ty := .array .int) (C := RX8) (T := TX8) (N := 18) hx hb hts (in_zk_X8_init_X8) tyX8 tyX8_ok nmX8 hown hK hP hD hS 0 rfl rfl 10 (by decide) (hts (.fieldLink RX8 39 "HeapWorks$Shape" "twin" "[I") (by decide +kernel)) (fun _ h9 => h9) rfl hin rfl (by decide +kernel) rfl rfl (by rw [o_s508.2.1]; decide) dX8_init_78 (fun H locs hP hD hS => ?_)
  have hP : va_P (dC, dI) vwCl [(Ad0, .inr (11, (s508.set 10 (.ref q509)))), (q504, .inl (k505, 400, .inl f506)), (q509, .inl (k510, 400, .inl f511))] H := hP
  have hD : va_D A [(Ad0, .inr (11, (s508.set 10 (.ref q509)))), (q504, .inl (k505, 400, .inl f506)), (q509, .inl (k510, 400, .inl f511))] := hD
  have o_s513 := ow_set o_s508 10 (.ref q509) (by decide) (l' := [(10, .ref q509), (8, .ref q504), (7, .ref q499), (6, .ref q494), (5, .ref q489), (4, .ref q484), (3, .ref q479), (2, .ref q474), (0, .ref Br0)]) (w' := [10, 8, 7, 6, 5, 4, 3, 2, 0]) rfl rfl
  generalize (s508.set 10 (.ref q509)) = s513 at hP hD o_s513
  refine lv_aload_n hx hb dX8_init_81 rfl (lv_at hl 0 rfl) ?_
  refine lv_sipush (v := 400) hx hb dX8_init_82 (by decide) ?_
  refine va_newa (atype := .int) (ty := .int) (a0 := (400, .inl (fun _ : Nat => (0 : Int32)))) (N' := 400) hx hb (hts (.arrayClass .int) (by decide +kernel)) rfl hK hP hD hS hA (na_I 400) (by decide) (by decide) (by decide) (Nat.le_of_ble_eq_true rfl) (Nat.le_of_ble_eq_true rfl) dX8_init_85 (fun q514 k515 H hK hP hD hS => ?_)
  have hK : va_K (dC, dI) vwCl [(k505, .int), (k510, .int), (k515, .int)] s := hK
  have hP : va_P (dC, dI) vwCl [(Ad0, .inr (11, s513)), (q504, .inl (k505, 400, .inl f506)), (q509, .inl (k510, 400, .inl f511)), (q514, .inl (k515, 400, .inl ((fun _ : Nat => (0 : Int32)))))] H := hP
  have hD : va_D A [(Ad0, .inr (11, s513)), (q504, .inl (k505, 400, .inl f506)), (q509, .inl (k510, 400, .inl f511)), (q514, .inl (k515, 400, .inl ((fun _ : Nat => (0 : Int32)))))] := hD
  have z517 : ∀ j, (fun _ : Nat => (0 : Int32)) j = 0 := fun _ => rfl
  generalize (fun _ : Nat => (0 : Int32)) = f516 at hP hD z517
  refine W.widen (k := 9) (n := 11017) (by omega) (by omega) ?_
  refine va_putF (D := (dC, dI)) (ci := 11) (v := .ref q514) (ty := .array .int) (C := RX8) (T := TX8) (N := 18) hx hb hts (in_zk_X8_init_X8) tyX8 tyX8_ok nmX8 hown hK hP hD hS 0 rfl rfl 12 (by decide) (hts (.fieldLink RX8 42 "HeapWorks$Shape" "order" "[I") (by decide +kernel)) (fun _ h9 => h9) rfl hin rfl (by decide +kernel) rfl rfl (by rw [o_s513.2.1]; decide) dX8_init_87 (fun H locs hP hD hS => ?_)
  have hP : va_P (dC, dI) vwCl [(Ad0, .inr (11, (s513.set 12 (.ref q514)))), (q504, .inl (k505, 400, .inl f506)), (q509, .inl (k510, 400, .inl f511)), (q514, .inl (k515, 400, .inl f516))] H := hP
  have hD : va_D A [(Ad0, .inr (11, (s513.set 12 (.ref q514)))), (q504, .inl (k505, 400, .inl f506)), (q509, .inl (k510, 400, .inl f511)), (q514, .inl (k515, 400, .inl f516))] := hD
  have o_s518 := ow_set o_s513 12 (.ref q514) (by decide) (l' := [(12, .ref q514), (10, .ref q509), (8, .ref q504), (7, .ref q499), (6, .ref q494), (5, .ref q489), (4, .ref q484), (3, .ref q479), (2, .ref q474), (0, .ref Br0)]) (w' := [12, 10, 8, 7, 6, 5, 4, 3, 2, 0]) rfl rfl
  generalize (s513.set 12 (.ref q514)) = s518 at hP hD o_s518
  have hP := hP.sub (ws' := [(Ad0, .inr (11, s518)), (q504, .inl (k505, 400, .inl f506)), (q509, .inl (k510, 400, .inl f511))]) [0, 1, 2] rfl
  have hD := hD.sub (ws' := [(Ad0, .inr (11, s518)), (q504, .inl (k505, 400, .inl f506)), (q509, .inl (k510, 400, .inl f511))]) [0, 1, 2] (by decide) rfl
  have hK := hK.sub (tys' := [(k505, .int), (k510, .int)]) [0, 1] rfl
  refine lv_aload_n hx hb dX8_init_90 rfl (lv_at hl 0 rfl) ?_
  refine lv_sipush (v := 400) hx hb dX8_init_91 (by decide) ?_
  refine va_newa (atype := .int) (ty := .int) (a0 := (400, .inl (fun _ : Nat => (0 : Int32)))) (N' := 400) hx hb (hts (.arrayClass .int) (by decide +kernel)) rfl hK hP hD hS hA (na_I 400) (by decide) (by decide) (by decide) (Nat.le_of_ble_eq_true rfl) (Nat.le_of_ble_eq_true rfl) dX8_init_94 (fun q519 k520 H hK hP hD hS => ?_)
  have hK : va_K (dC, dI) vwCl [(k505, .int), (k510, .int), (k520, .int)] s := hK
  have hP : va_P (dC, dI) vwCl [(Ad0, .inr (11, s518)), (q504, .inl (k505, 400, .inl f506)), (q509, .inl (k510, 400, .inl f511)), (q519, .inl (k520, 400, .inl ((fun _ : Nat => (0 : Int32)))))] H := hP
  have hD : va_D A [(Ad0, .inr (11, s518)), (q504, .inl (k505, 400, .inl f506)), (q509, .inl (k510, 400, .inl f511)), (q519, .inl (k520, 400, .inl ((fun _ : Nat => (0 : Int32)))))] := hD
  have z522 : ∀ j, (fun _ : Nat => (0 : Int32)) j = 0 := fun _ => rfl
  generalize (fun _ : Nat => (0 : Int32)) = f521 at hP hD z522
  refine W.widen (k := 10) (n := 11417) (by omega) (by omega) ?_
  refine va_putF (D := (dC, dI)) (ci := 11) (v := .ref q519) (ty := .array .int) (C := RX8) (T := TX8) (N := 18) hx hb hts (in_zk_X8_init_X8) tyX8 tyX8_ok nmX8 hown hK hP hD hS 0 rfl rfl 13 (by decide) (hts (.fieldLink RX8 45 "HeapWorks$Shape" "low" "[I") (by decide +kernel)) (fun _ h9 => h9) rfl hin rfl (by decide +kernel) rfl rfl (by rw [o_s518.2.1]; decide) dX8_init_96 (fun H locs hP hD hS => ?_)
  have hP : va_P (dC, dI) vwCl [(Ad0, .inr (11, (s518.set 13 (.ref q519)))), (q504, .inl (k505, 400, .inl f506)), (q509, .inl (k510, 400, .inl f511)), (q519, .inl (k520, 400, .inl f521))] H := hP
  have hD : va_D A [(Ad0, .inr (11, (s518.set 13 (.ref q519)))), (q504, .inl (k505, 400, .inl f506)), (q509, .inl (k510, 400, .inl f511)), (q519, .inl (k520, 400, .inl f521))] := hD
  have o_s523 := ow_set o_s518 13 (.ref q519) (by decide) (l' := [(13, .ref q519), (12, .ref q514), (10, .ref q509), (8, .ref q504), (7, .ref q499), (6, .ref q494), (5, .ref q489), (4, .ref q484), (3, .ref q479), (2, .ref q474), (0, .ref Br0)]) (w' := [13, 12, 10, 8, 7, 6, 5, 4, 3, 2, 0]) rfl rfl
  generalize (s518.set 13 (.ref q519)) = s523 at hP hD o_s523
  refine lv_aload_n hx hb dX8_init_99 rfl (lv_at hl 0 rfl) ?_
  refine lv_sipush (v := 400) hx hb dX8_init_100 (by decide) ?_
  refine va_newa (atype := .int) (ty := .int) (a0 := (400, .inl (fun _ : Nat => (0 : Int32)))) (N' := 400) hx hb (hts (.arrayClass .int) (by decide +kernel)) rfl hK hP hD hS hA (na_I 400) (by decide) (by decide) (by decide) (Nat.le_of_ble_eq_true rfl) (Nat.le_of_ble_eq_true rfl) dX8_init_103 (fun q524 k525 H hK hP hD hS => ?_)
  have hK : va_K (dC, dI) vwCl [(k505, .int), (k510, .int), (k520, .int), (k525, .int)] s := hK
  have hP : va_P (dC, dI) vwCl [(Ad0, .inr (11, s523)), (q504, .inl (k505, 400, .inl f506)), (q509, .inl (k510, 400, .inl f511)), (q519, .inl (k520, 400, .inl f521)), (q524, .inl (k525, 400, .inl ((fun _ : Nat => (0 : Int32)))))] H := hP
  have hD : va_D A [(Ad0, .inr (11, s523)), (q504, .inl (k505, 400, .inl f506)), (q509, .inl (k510, 400, .inl f511)), (q519, .inl (k520, 400, .inl f521)), (q524, .inl (k525, 400, .inl ((fun _ : Nat => (0 : Int32)))))] := hD
  have z527 : ∀ j, (fun _ : Nat => (0 : Int32)) j = 0 := fun _ => rfl
  generalize (fun _ : Nat => (0 : Int32)) = f526 at hP hD z527
  refine W.widen (k := 11) (n := 11817) (by omega) (by omega) ?_
  refine va_putF (D := (dC, dI)) (ci := 11) (v := .ref q524) (ty := .array .int) (C := RX8) (T := TX8) (N := 18) hx hb hts (in_zk_X8_init_X8) tyX8 tyX8_ok nmX8 hown hK hP hD hS 0 rfl rfl 14 (by decide) (hts (.fieldLink RX8 48 "HeapWorks$Shape" "stack" "[I") (by decide +kernel)) (fun _ h9 => h9) rfl hin rfl (by decide +kernel) rfl rfl (by rw [o_s523.2.1]; decide) dX8_init_105 (fun H locs hP hD hS => ?_)
  have hP : va_P (dC, dI) vwCl [(Ad0, .inr (11, (s523.set 14 (.ref q524)))), (q504, .inl (k505, 400, .inl f506)), (q509, .inl (k510, 400, .inl f511)), (q519, .inl (k520, 400, .inl f521)), (q524, .inl (k525, 400, .inl f526))] H := hP
  have hD : va_D A [(Ad0, .inr (11, (s523.set 14 (.ref q524)))), (q504, .inl (k505, 400, .inl f506)), (q509, .inl (k510, 400, .inl f511)), (q519, .inl (k520, 400, .inl f521)), (q524, .inl (k525, 400, .inl f526))] := hD
  have o_s528 := ow_set o_s523 14 (.ref q524) (by decide) (l' := [(14, .ref q524), (13, .ref q519), (12, .ref q514), (10, .ref q509), (8, .ref q504), (7, .ref q499), (6, .ref q494), (5, .ref q489), (4, .ref q484), (3, .ref q479), (2, .ref q474), (0, .ref Br0)]) (w' := [14, 13, 12, 10, 8, 7, 6, 5, 4, 3, 2, 0]) rfl rfl
  generalize (s523.set 14 (.ref q524)) = s528 at hP hD o_s528
  have hP := hP.sub (ws' := [(Ad0, .inr (11, s528)), (q504, .inl (k505, 400, .inl f506)), (q509, .inl (k510, 400, .inl f511)), (q519, .inl (k520, 400, .inl f521))]) [0, 1, 2, 3] rfl
  have hD := hD.sub (ws' := [(Ad0, .inr (11, s528)), (q504, .inl (k505, 400, .inl f506)), (q509, .inl (k510, 400, .inl f511)), (q519, .inl (k520, 400, .inl f521))]) [0, 1, 2, 3] (by decide) rfl
  have hK := hK.sub (tys' := [(k505, .int), (k510, .int), (k520, .int)]) [0, 1, 2] rfl
  refine lv_aload_n hx hb dX8_init_108 rfl (lv_at hl 0 rfl) ?_
  refine lv_sipush (v := 400) hx hb dX8_init_109 (by decide) ?_
  refine va_newa (atype := .int) (ty := .int) (a0 := (400, .inl (fun _ : Nat => (0 : Int32)))) (N' := 400) hx hb (hts (.arrayClass .int) (by decide +kernel)) rfl hK hP hD hS hA (na_I 400) (by decide) (by decide) (by decide) (Nat.le_of_ble_eq_true rfl) (Nat.le_of_ble_eq_true rfl) dX8_init_112 (fun q529 k530 H hK hP hD hS => ?_)
  have hK : va_K (dC, dI) vwCl [(k505, .int), (k510, .int), (k520, .int), (k530, .int)] s := hK
  have hP : va_P (dC, dI) vwCl [(Ad0, .inr (11, s528)), (q504, .inl (k505, 400, .inl f506)), (q509, .inl (k510, 400, .inl f511)), (q519, .inl (k520, 400, .inl f521)), (q529, .inl (k530, 400, .inl ((fun _ : Nat => (0 : Int32)))))] H := hP
  have hD : va_D A [(Ad0, .inr (11, s528)), (q504, .inl (k505, 400, .inl f506)), (q509, .inl (k510, 400, .inl f511)), (q519, .inl (k520, 400, .inl f521)), (q529, .inl (k530, 400, .inl ((fun _ : Nat => (0 : Int32)))))] := hD
  have z532 : ∀ j, (fun _ : Nat => (0 : Int32)) j = 0 := fun _ => rfl
  generalize (fun _ : Nat => (0 : Int32)) = f531 at hP hD z532
  refine W.widen (k := 12) (n := 12217) (by omega) (by omega) ?_
  refine va_putF (D := (dC, dI)) (ci := 11) (v := .ref q529) (ty := .array .int) (C := RX8) (T := TX8) (N := 18) hx hb hts (in_zk_X8_init_X8) tyX8 tyX8_ok nmX8 hown hK hP hD hS 0 rfl rfl 15 (by decide) (hts (.fieldLink RX8 51 "HeapWorks$Shape" "path" "[I") (by decide +kernel)) (fun _ h9 => h9) rfl hin rfl (by decide +kernel) rfl rfl (by rw [o_s528.2.1]; decide) dX8_init_114 (fun H locs hP hD hS => ?_)
  have hP : va_P (dC, dI) vwCl [(Ad0, .inr (11, (s528.set 15 (.ref q529)))), (q504, .inl (k505, 400, .inl f506)), (q509, .inl (k510, 400, .inl f511)), (q519, .inl (k520, 400, .inl f521)), (q529, .inl (k530, 400, .inl f531))] H := hP
  have hD : va_D A [(Ad0, .inr (11, (s528.set 15 (.ref q529)))), (q504, .inl (k505, 400, .inl f506)), (q509, .inl (k510, 400, .inl f511)), (q519, .inl (k520, 400, .inl f521)), (q529, .inl (k530, 400, .inl f531))] := hD
  have o_s533 := ow_set o_s528 15 (.ref q529) (by decide) (l' := [(15, .ref q529), (14, .ref q524), (13, .ref q519), (12, .ref q514), (10, .ref q509), (8, .ref q504), (7, .ref q499), (6, .ref q494), (5, .ref q489), (4, .ref q484), (3, .ref q479), (2, .ref q474), (0, .ref Br0)]) (w' := [15, 14, 13, 12, 10, 8, 7, 6, 5, 4, 3, 2, 0]) rfl rfl
  generalize (s528.set 15 (.ref q529)) = s533 at hP hD o_s533
  refine lv_aload_n hx hb dX8_init_117 rfl (lv_at hl 0 rfl) ?_
  refine lv_sipush (v := 400) hx hb dX8_init_118 (by decide) ?_
  refine va_newa (atype := .int) (ty := .int) (a0 := (400, .inl (fun _ : Nat => (0 : Int32)))) (N' := 400) hx hb (hts (.arrayClass .int) (by decide +kernel)) rfl hK hP hD hS hA (na_I 400) (by decide) (by decide) (by decide) (Nat.le_of_ble_eq_true rfl) (Nat.le_of_ble_eq_true rfl) dX8_init_121 (fun q534 k535 H hK hP hD hS => ?_)
  have hK : va_K (dC, dI) vwCl [(k505, .int), (k510, .int), (k520, .int), (k530, .int), (k535, .int)] s := hK
  have hP : va_P (dC, dI) vwCl [(Ad0, .inr (11, s533)), (q504, .inl (k505, 400, .inl f506)), (q509, .inl (k510, 400, .inl f511)), (q519, .inl (k520, 400, .inl f521)), (q529, .inl (k530, 400, .inl f531)), (q534, .inl (k535, 400, .inl ((fun _ : Nat => (0 : Int32)))))] H := hP
  have hD : va_D A [(Ad0, .inr (11, s533)), (q504, .inl (k505, 400, .inl f506)), (q509, .inl (k510, 400, .inl f511)), (q519, .inl (k520, 400, .inl f521)), (q529, .inl (k530, 400, .inl f531)), (q534, .inl (k535, 400, .inl ((fun _ : Nat => (0 : Int32)))))] := hD
  have z537 : ∀ j, (fun _ : Nat => (0 : Int32)) j = 0 := fun _ => rfl
  generalize (fun _ : Nat => (0 : Int32)) = f536 at hP hD z537
  refine W.widen (k := 13) (n := 12617) (by omega) (by omega) ?_
  refine va_putF (D := (dC, dI)) (ci := 11) (v := .ref q534) (ty := .array .int) (C := RX8) (T := TX8) (N := 18) hx hb hts (in_zk_X8_init_X8) tyX8 tyX8_ok nmX8 hown hK hP hD hS 0 rfl rfl 16 (by decide) (hts (.fieldLink RX8 54 "HeapWorks$Shape" "cursor" "[I") (by decide +kernel)) (fun _ h9 => h9) rfl hin rfl (by decide +kernel) rfl rfl (by rw [o_s533.2.1]; decide) dX8_init_123 (fun H locs hP hD hS => ?_)
  have hP : va_P (dC, dI) vwCl [(Ad0, .inr (11, (s533.set 16 (.ref q534)))), (q504, .inl (k505, 400, .inl f506)), (q509, .inl (k510, 400, .inl f511)), (q519, .inl (k520, 400, .inl f521)), (q529, .inl (k530, 400, .inl f531)), (q534, .inl (k535, 400, .inl f536))] H := hP
  have hD : va_D A [(Ad0, .inr (11, (s533.set 16 (.ref q534)))), (q504, .inl (k505, 400, .inl f506)), (q509, .inl (k510, 400, .inl f511)), (q519, .inl (k520, 400, .inl f521)), (q529, .inl (k530, 400, .inl f531)), (q534, .inl (k535, 400, .inl f536))] := hD
  have o_s538 := ow_set o_s533 16 (.ref q534) (by decide) (l' := [(16, .ref q534), (15, .ref q529), (14, .ref q524), (13, .ref q519), (12, .ref q514), (10, .ref q509), (8, .ref q504), (7, .ref q499), (6, .ref q494), (5, .ref q489), (4, .ref q484), (3, .ref q479), (2, .ref q474), (0, .ref Br0)]) (w' := [16, 15, 14, 13, 12, 10, 8, 7, 6, 5, 4, 3, 2, 0]) rfl rfl
  generalize (s533.set 16 (.ref q534)) = s538 at hP hD o_s538
  have hP := hP.sub (ws' := [(Ad0, .inr (11, s538)), (q504, .inl (k505, 400, .inl f506)), (q509, .inl (k510, 400, .inl f511)), (q519, .inl (k520, 400, .inl f521)), (q529, .inl (k530, 400, .inl f531))]) [0, 1, 2, 3, 4] rfl
  have hD := hD.sub (ws' := [(Ad0, .inr (11, s538)), (q504, .inl (k505, 400, .inl f506)), (q509, .inl (k510, 400, .inl f511)), (q519, .inl (k520, 400, .inl f521)), (q529, .inl (k530, 400, .inl f531))]) [0, 1, 2, 3, 4] (by decide) rfl
  have hK := hK.sub (tys' := [(k505, .int), (k510, .int), (k520, .int), (k530, .int)]) [0, 1, 2, 3] rfl
  refine lv_aload_n hx hb dX8_init_126 rfl (lv_at hl 0 rfl) ?_
  refine lv_sipush (v := 512) hx hb dX8_init_127 (by decide) ?_
  refine va_newa (atype := .int) (ty := .int) (a0 := (512, .inl (fun _ : Nat => (0 : Int32)))) (N' := 512) hx hb (hts (.arrayClass .int) (by decide +kernel)) rfl hK hP hD hS hA (na_I 512) (by decide) (by decide) (by decide) (Nat.le_of_ble_eq_true rfl) (Nat.le_of_ble_eq_true rfl) dX8_init_130 (fun q539 k540 H hK hP hD hS => ?_)
  have hK : va_K (dC, dI) vwCl [(k505, .int), (k510, .int), (k520, .int), (k530, .int), (k540, .int)] s := hK
  have hP : va_P (dC, dI) vwCl [(Ad0, .inr (11, s538)), (q504, .inl (k505, 400, .inl f506)), (q509, .inl (k510, 400, .inl f511)), (q519, .inl (k520, 400, .inl f521)), (q529, .inl (k530, 400, .inl f531)), (q539, .inl (k540, 512, .inl ((fun _ : Nat => (0 : Int32)))))] H := hP
  have hD : va_D A [(Ad0, .inr (11, s538)), (q504, .inl (k505, 400, .inl f506)), (q509, .inl (k510, 400, .inl f511)), (q519, .inl (k520, 400, .inl f521)), (q529, .inl (k530, 400, .inl f531)), (q539, .inl (k540, 512, .inl ((fun _ : Nat => (0 : Int32)))))] := hD
  have z542 : ∀ j, (fun _ : Nat => (0 : Int32)) j = 0 := fun _ => rfl
  generalize (fun _ : Nat => (0 : Int32)) = f541 at hP hD z542
  refine W.widen (k := 14) (n := 13129) (by omega) (by omega) ?_
  refine va_putF (D := (dC, dI)) (ci := 11) (v := .ref q539) (ty := .array .int) (C := RX8) (T := TX8) (N := 18) hx hb hts (in_zk_X8_init_X8) tyX8 tyX8_ok nmX8 hown hK hP hD hS 0 rfl rfl 17 (by decide) (hts (.fieldLink RX8 57 "HeapWorks$Shape" "bucket" "[I") (by decide +kernel)) (fun _ h9 => h9) rfl hin rfl (by decide +kernel) rfl rfl (by rw [o_s538.2.1]; decide) dX8_init_132 (fun H locs hP hD hS => ?_)
  have hP : va_P (dC, dI) vwCl [(Ad0, .inr (11, (s538.set 17 (.ref q539)))), (q504, .inl (k505, 400, .inl f506)), (q509, .inl (k510, 400, .inl f511)), (q519, .inl (k520, 400, .inl f521)), (q529, .inl (k530, 400, .inl f531)), (q539, .inl (k540, 512, .inl f541))] H := hP
  have hD : va_D A [(Ad0, .inr (11, (s538.set 17 (.ref q539)))), (q504, .inl (k505, 400, .inl f506)), (q509, .inl (k510, 400, .inl f511)), (q519, .inl (k520, 400, .inl f521)), (q529, .inl (k530, 400, .inl f531)), (q539, .inl (k540, 512, .inl f541))] := hD
  have o_s543 := ow_set o_s538 17 (.ref q539) (by decide) (l' := [(17, .ref q539), (16, .ref q534), (15, .ref q529), (14, .ref q524), (13, .ref q519), (12, .ref q514), (10, .ref q509), (8, .ref q504), (7, .ref q499), (6, .ref q494), (5, .ref q489), (4, .ref q484), (3, .ref q479), (2, .ref q474), (0, .ref Br0)]) (w' := [17, 16, 15, 14, 13, 12, 10, 8, 7, 6, 5, 4, 3, 2, 0]) rfl rfl
  generalize (s538.set 17 (.ref q539)) = s543 at hP hD o_s543
  have hP9 := hP.sub (ws' := [(Ad0, .inr (11, s543)), (q539, .inl (k540, 512, .inl f541)), (q529, .inl (k530, 400, .inl f531)), (q519, .inl (k520, 400, .inl f521)), (q509, .inl (k510, 400, .inl f511)), (q504, .inl (k505, 400, .inl f506))]) [0, 5, 4, 3, 2, 1] rfl
  have hD9 := hD.sub (ws' := [(Ad0, .inr (11, s543)), (q539, .inl (k540, 512, .inl f541)), (q529, .inl (k530, 400, .inl f531)), (q519, .inl (k520, 400, .inl f521)), (q509, .inl (k510, 400, .inl f511)), (q504, .inl (k505, 400, .inl f506))]) [0, 5, 4, 3, 2, 1] (by decide) rfl
  have hK9 := hK.sub (tys' := [(k540, .int), (k530, .int), (k520, .int), (k510, .int), (k505, .int)]) [4, 3, 2, 1, 0] rfl
  refine W.widen (k := 14) (n := 13129) (by decide) (by decide) ?_
  exact W.vret hx hb hr (fun t ht hW => ⟨⟨(s543, q539, f541, k540, q529, f531, k530, q519, f521, k520, q509, f511, k510, q504, f506, k505), rfl, ⟨(ow_sub o_s543 [0, 2, 4, 6, 7, 14] rfl), z542, z532, z522, z512, z507⟩, by rw [ht]; exact hP9, va_K.moved hW.alike hK9, hD9⟩, hS.F ht⟩) hS.2.2 dX8_init_135

def l_k_X5 : List Cond := [.methodLink RX5 3 objectInit, .instanceMethod objectInit, .code objectInit ⟨#[0xb1]⟩ 1 none, .arrayClass .int, .fieldLink RX5 11 "HeapWorks$Picture" "object" "[I", .fieldLink RX5 15 "HeapWorks$Picture" "type" "[I", .fieldLink RX5 18 "HeapWorks$Picture" "length" "[I", .fieldLink RX5 21 "HeapWorks$Picture" "first" "[I", .fieldLink RX5 24 "HeapWorks$Picture" "depth" "[I", .fieldLink RX5 27 "HeapWorks$Picture" "wayThing" "[I", .fieldLink RX5 30 "HeapWorks$Picture" "waySlot" "[I", .fieldLink RX5 35 "HeapWorks$Picture" "thingOf" "[I", .methodLink RX5 38 yJ7_fill_53178, .static yJ7_fill_53178, .initialized RJ7, .arrayClass .long, .fieldLink RX5 44 "HeapWorks$Picture" "value" "[J", .arrayClass .boolean, .fieldLink RX5 48 "HeapWorks$Picture" "link" "[Z", .fieldLink RX5 52 "HeapWorks$Picture" "rootNumber" "[I", .fieldLink RX5 55 "HeapWorks$Picture" "rootThing" "[I", .fieldLink RX5 58 "HeapWorks$Picture" "chosen" "[Z", .fieldLink RX5 61 "HeapWorks$Picture" "lostThings" "[I", .fieldLink RX5 64 "HeapWorks$Picture" "mark" "[I", .fieldLink RX5 67 "HeapWorks$Picture" "mate" "[I", .fieldLink RX5 70 "HeapWorks$Picture" "queue" "[I", .classLink RX5 73 RX8, .instantiable RX8 18, .initialized RX8, .methodLink RX5 75 yX8_init, .instanceMethod yX8_init, .fieldLink RX5 78 "HeapWorks$Picture" "shape" "LHeapWorks$Shape;", .code yJ7_fill_53178 cJ7_fill_53178 4 none, .code yX8_init cX8_init 2 none, .methodLink RX8 3 objectInit, .fieldLink RX8 9 "HeapWorks$Shape" "types" "LHeapWorks$Types;", .fieldLink RX8 17 "HeapWorks$Shape" "holderFirst" "[I", .fieldLink RX8 21 "HeapWorks$Shape" "holderThing" "[I", .fieldLink RX8 24 "HeapWorks$Shape" "holderSlot" "[I", .fieldLink RX8 27 "HeapWorks$Shape" "dominator" "[I", .fieldLink RX8 30 "HeapWorks$Shape" "kept" "[I", .fieldLink RX8 33 "HeapWorks$Shape" "dominated" "[I", .fieldLink RX8 36 "HeapWorks$Shape" "ring" "[I", .fieldLink RX8 39 "HeapWorks$Shape" "twin" "[I", .fieldLink RX8 42 "HeapWorks$Shape" "order" "[I", .fieldLink RX8 45 "HeapWorks$Shape" "low" "[I", .fieldLink RX8 48 "HeapWorks$Shape" "stack" "[I", .fieldLink RX8 51 "HeapWorks$Shape" "path" "[I", .fieldLink RX8 54 "HeapWorks$Shape" "cursor" "[I", .fieldLink RX8 57 "HeapWorks$Shape" "bucket" "[I"]
def w_k_X5 : List Cond := .code yX5_init cX5_init 2 none :: (l_k_X5 ++ ((wsX50 ++ wsX80)))
theorem in_k_X5_X5 : ∀ w ∈ wsX50, w ∈ w_k_X5 := fun w h => List.mem_cons_of_mem _ (List.mem_append_right _ (List.mem_append_left _ h))
theorem in_k_X5_X8 : ∀ w ∈ wsX80, w ∈ w_k_X5 := fun w h => List.mem_cons_of_mem _ (List.mem_append_right _ (List.mem_append_right _ (h)))
theorem g_k_X5_zk_J7_fill_53178_38 : GoodIn w_k_X5 (va_wsS RX5 38 yJ7_fill_53178 w_zk_J7_fill_53178) := goodIn_app (goodIn_sub (by decide +kernel) (by decide +kernel)) (goodIn_sub (by decide +kernel) (by decide +kernel))
theorem g_k_X5_zk_X8_init_75 : GoodIn w_k_X5 w_zk_X8_init := (goodIn_ca (goodIn_sub (by decide +kernel) (by decide +kernel)) (goodIn_in in_k_X5_X8 gd_X8))
set_option maxHeartbeats 4000000 in
set_option maxRecDepth 100000 in
theorem k_X5 (l : Launch) (dC : Nat → ClassId) (dI : Nat → Nat → Nat) (sz : Nat) (a0 : Nat) (fs0 : List Value) (b0 : Nat) (k_fs0 : fh fs0 21 [(0, .int 0), (1, .null), (2, .null), (3, .null), (4, .null), (5, .null), (6, .null), (7, .null), (8, .null), (9, .null), (10, .null), (11, .int 0), (12, .null), (13, .null), (14, .null), (15, .null), (16, .int 0), (17, .null), (18, .null), (19, .null), (20, .null)])  : Met l yX5_init w_k_X5 ({ frames := 2, cells := 32, slots := 26564, locals := 45 }) (va_Pc [.ref a0, .ref b0] (fun U => U.heap.size = sz ∧ Wd dC dI [] (fun _ => True) [(a0, .inr (8, fs0))] U)) (va_Qv (fun (u : List Value × Nat × List Value × Nat × (Nat → Int32) × ClassId × Nat × (Nat → Int32) × ClassId × Nat × (Nat → Int32) × ClassId × Nat × (Nat → Int32) × ClassId × Nat × (Nat → Int32) × ClassId × Nat × (Nat → Int32) × ClassId × Nat × (Nat → Int32) × ClassId) => match u with | (s565, q400, s544, q385, f387, k386, q279, f354, k280, q545, f546, k547, q548, f549, k550, q551, f552, k553, q554, f555, k556, q557, f558, k559) => (ow fs0 (s565) 21 [20, 19, 18, 17, 15, 14, 13, 12, 10, 9, 8, 7, 6, 5, 4, 3, 2, 1] [(20, .ref q400), (17, .ref q385), (8, .ref q279), (0, .int 0), (11, .int 0), (16, .int 0)] ∧ fh s544 18 [(17, .ref q545), (15, .ref q548), (13, .ref q551), (10, .ref q554), (8, .ref q557), (0, .ref b0), (1, .int 0), (9, .int 0), (11, .int 0)] ∧ (∀ j, f387 j = 0) ∧ (∀ j, f546 j = 0) ∧ (∀ j, f549 j = 0) ∧ (∀ j, f552 j = 0) ∧ (∀ j, f555 j = 0) ∧ (∀ j, f558 j = 0))) (fun (u : List Value × Nat × List Value × Nat × (Nat → Int32) × ClassId × Nat × (Nat → Int32) × ClassId × Nat × (Nat → Int32) × ClassId × Nat × (Nat → Int32) × ClassId × Nat × (Nat → Int32) × ClassId × Nat × (Nat → Int32) × ClassId × Nat × (Nat → Int32) × ClassId) t => match u with | (s565, q400, s544, q385, f387, k386, q279, f354, k280, q545, f546, k547, q548, f549, k550, q551, f552, k553, q554, f555, k556, q557, f558, k559) => Wd dC dI [(k386, .int), (k280, .int), (k547, .int), (k550, .int), (k553, .int), (k556, .int), (k559, .int)] (va_A [(a0, .inr (8, fs0))] sz) [(a0, .inr (8, s565)), (q400, .inr (11, s544)), (q385, .inl (k386, 400, .inl f387)), (q279, .inl (k280, 400, .inl f354)), (q545, .inl (k547, 512, .inl f546)), (q548, .inl (k550, 400, .inl f549)), (q551, .inl (k553, 400, .inl f552)), (q554, .inl (k556, 400, .inl f555)), (q557, .inl (k559, 400, .inl f558))] t) (va_A [(a0, .inr (8, fs0))] sz))  32 26564 (va_A [(a0, .inr (8, fs0))] sz) := by
  refine Met.ofW (cc := cX5_init) (maxL := 2) (ret := none) (by decide) rfl ?_
  intro p e s m args below meth c s₁ B hml hv
  obtain ⟨rfl, hsz, hP, hK, hD0⟩ := hv
  have hx := B.exec
  have hb := B.bytes
  have hr := B.returns
  have hts := atoms_spec (ws := w_k_X5) B.pre
  have hown : s.vm.findClass RX5 = some m.cls := findClass_of_methodNamed B.named
  have hlocks := B.notSynchronized
  have hin : meth.name = "<init>" := (name_of_methodNamed B.named B.method).1
  subst hsz
  have hD := hD0.self (sz := s.heap.size)
  generalize hAe : va_A [(a0, .inr (8, fs0))] s.heap.size = A at hD ⊢
  have hA : ∀ q : Nat, s.heap.size ≤ q → A q := fun q h => by rw [← hAe]; exact Or.inr h
  have hS : va_S A s.heap s.heap [] := va_S.rf
  have hl := lv_entry ([.ref a0, .ref b0]) (n := 2) (Nat.le_of_ble_eq_true rfl)
  rw [lg_entry_eq]
  generalize (lg_sl ([.ref a0, .ref b0]) ++ List.replicate (2 - (lg_sl ([.ref a0, .ref b0])).length) Slot.unset).toArray = ls at hl ⊢
  have hl : lv_has ls 2 [(0, .ref a0), (1, .ref b0)] := hl
  have o_fs0 := ow_0 k_fs0
  refine lv_aload_n hx hb dX5_init_0 rfl (lv_at hl 0 rfl) ?_
  refine W.objInit hx hb hown (hts (.methodLink RX5 3 objectInit) (by decide +kernel)) (hts (.instanceMethod objectInit) (by decide +kernel)) (hts (.code objectInit ⟨#[0xb1]⟩ 1 none) (by decide +kernel)) rfl (by rw [hml]; exact hl.1) rfl dX5_init_1 (Nat.le_of_ble_eq_true rfl) (Nat.le_of_ble_eq_true rfl) ?_
  refine W.eq (g2 := F0 m 4 ls []) rfl ?_
  refine lv_aload_n hx hb dX5_init_4 rfl (lv_at hl 0 rfl) ?_
  refine lv_sipush (v := 400) hx hb dX5_init_5 (by decide) ?_
  refine va_newa (atype := .int) (ty := .int) (a0 := (400, .inl (fun _ : Nat => (0 : Int32)))) (N' := 400) hx hb (hts (.arrayClass .int) (by decide +kernel)) rfl hK hP hD hS hA (na_I 400) (by decide) (by decide) (by decide) (Nat.le_of_ble_eq_true rfl) (Nat.le_of_ble_eq_true rfl) dX5_init_8 (fun q244 k245 H hK hP hD hS => ?_)
  have hK : va_K (dC, dI) vwCl [(k245, .int)] s := hK
  have hP : va_P (dC, dI) vwCl [(a0, .inr (8, fs0)), (q244, .inl (k245, 400, .inl ((fun _ : Nat => (0 : Int32)))))] H := hP
  have hD : va_D A [(a0, .inr (8, fs0)), (q244, .inl (k245, 400, .inl ((fun _ : Nat => (0 : Int32)))))] := hD
  have z247 : ∀ j, (fun _ : Nat => (0 : Int32)) j = 0 := fun _ => rfl
  generalize (fun _ : Nat => (0 : Int32)) = f246 at hP hD z247
  refine W.widen (k := 1) (n := 400) (by omega) (by omega) ?_
  refine va_putF (D := (dC, dI)) (ci := 8) (v := .ref q244) (ty := .array .int) (C := RX5) (T := TX5) (N := 21) hx hb hts (in_k_X5_X5) tyX5 tyX5_ok nmX5 hown hK hP hD hS 0 rfl rfl 1 (by decide) (hts (.fieldLink RX5 11 "HeapWorks$Picture" "object" "[I") (by decide +kernel)) (fun _ h9 => h9) rfl hin rfl (by decide +kernel) rfl rfl (by rw [o_fs0.2.1]; decide) dX5_init_10 (fun H locs hP hD hS => ?_)
  have hP : va_P (dC, dI) vwCl [(a0, .inr (8, (fs0.set 1 (.ref q244)))), (q244, .inl (k245, 400, .inl f246))] H := hP
  have hD : va_D A [(a0, .inr (8, (fs0.set 1 (.ref q244)))), (q244, .inl (k245, 400, .inl f246))] := hD
  have o_s248 := ow_set o_fs0 1 (.ref q244) (by decide) (l' := [(1, .ref q244), (0, .int 0), (2, .null), (3, .null), (4, .null), (5, .null), (6, .null), (7, .null), (8, .null), (9, .null), (10, .null), (11, .int 0), (12, .null), (13, .null), (14, .null), (15, .null), (16, .int 0), (17, .null), (18, .null), (19, .null), (20, .null)]) (w' := [1]) rfl rfl
  generalize (fs0.set 1 (.ref q244)) = s248 at hP hD o_s248
  have hP := hP.sub (ws' := [(a0, .inr (8, s248))]) [0] rfl
  have hD := hD.sub (ws' := [(a0, .inr (8, s248))]) [0] (by decide) rfl
  have hK := hK.sub (tys' := []) [] rfl
  refine lv_aload_n hx hb dX5_init_13 rfl (lv_at hl 0 rfl) ?_
  refine lv_sipush (v := 400) hx hb dX5_init_14 (by decide) ?_
  refine va_newa (atype := .int) (ty := .int) (a0 := (400, .inl (fun _ : Nat => (0 : Int32)))) (N' := 400) hx hb (hts (.arrayClass .int) (by decide +kernel)) rfl hK hP hD hS hA (na_I 400) (by decide) (by decide) (by decide) (Nat.le_of_ble_eq_true rfl) (Nat.le_of_ble_eq_true rfl) dX5_init_17 (fun q249 k250 H hK hP hD hS => ?_)
  have hK : va_K (dC, dI) vwCl [(k250, .int)] s := hK
  have hP : va_P (dC, dI) vwCl [(a0, .inr (8, s248)), (q249, .inl (k250, 400, .inl ((fun _ : Nat => (0 : Int32)))))] H := hP
  have hD : va_D A [(a0, .inr (8, s248)), (q249, .inl (k250, 400, .inl ((fun _ : Nat => (0 : Int32)))))] := hD
  have z252 : ∀ j, (fun _ : Nat => (0 : Int32)) j = 0 := fun _ => rfl
  generalize (fun _ : Nat => (0 : Int32)) = f251 at hP hD z252
  refine W.widen (k := 2) (n := 800) (by omega) (by omega) ?_
  refine va_putF (D := (dC, dI)) (ci := 8) (v := .ref q249) (ty := .array .int) (C := RX5) (T := TX5) (N := 21) hx hb hts (in_k_X5_X5) tyX5 tyX5_ok nmX5 hown hK hP hD hS 0 rfl rfl 2 (by decide) (hts (.fieldLink RX5 15 "HeapWorks$Picture" "type" "[I") (by decide +kernel)) (fun _ h9 => h9) rfl hin rfl (by decide +kernel) rfl rfl (by rw [o_s248.2.1]; decide) dX5_init_19 (fun H locs hP hD hS => ?_)
  have hP : va_P (dC, dI) vwCl [(a0, .inr (8, (s248.set 2 (.ref q249)))), (q249, .inl (k250, 400, .inl f251))] H := hP
  have hD : va_D A [(a0, .inr (8, (s248.set 2 (.ref q249)))), (q249, .inl (k250, 400, .inl f251))] := hD
  have o_s253 := ow_set o_s248 2 (.ref q249) (by decide) (l' := [(2, .ref q249), (1, .ref q244), (0, .int 0), (3, .null), (4, .null), (5, .null), (6, .null), (7, .null), (8, .null), (9, .null), (10, .null), (11, .int 0), (12, .null), (13, .null), (14, .null), (15, .null), (16, .int 0), (17, .null), (18, .null), (19, .null), (20, .null)]) (w' := [2, 1]) rfl rfl
  generalize (s248.set 2 (.ref q249)) = s253 at hP hD o_s253
  have hP := hP.sub (ws' := [(a0, .inr (8, s253))]) [0] rfl
  have hD := hD.sub (ws' := [(a0, .inr (8, s253))]) [0] (by decide) rfl
  have hK := hK.sub (tys' := []) [] rfl
  refine lv_aload_n hx hb dX5_init_22 rfl (lv_at hl 0 rfl) ?_
  refine lv_sipush (v := 400) hx hb dX5_init_23 (by decide) ?_
  refine va_newa (atype := .int) (ty := .int) (a0 := (400, .inl (fun _ : Nat => (0 : Int32)))) (N' := 400) hx hb (hts (.arrayClass .int) (by decide +kernel)) rfl hK hP hD hS hA (na_I 400) (by decide) (by decide) (by decide) (Nat.le_of_ble_eq_true rfl) (Nat.le_of_ble_eq_true rfl) dX5_init_26 (fun q254 k255 H hK hP hD hS => ?_)
  have hK : va_K (dC, dI) vwCl [(k255, .int)] s := hK
  have hP : va_P (dC, dI) vwCl [(a0, .inr (8, s253)), (q254, .inl (k255, 400, .inl ((fun _ : Nat => (0 : Int32)))))] H := hP
  have hD : va_D A [(a0, .inr (8, s253)), (q254, .inl (k255, 400, .inl ((fun _ : Nat => (0 : Int32)))))] := hD
  have z257 : ∀ j, (fun _ : Nat => (0 : Int32)) j = 0 := fun _ => rfl
  generalize (fun _ : Nat => (0 : Int32)) = f256 at hP hD z257
  refine W.widen (k := 3) (n := 1200) (by omega) (by omega) ?_
  refine va_putF (D := (dC, dI)) (ci := 8) (v := .ref q254) (ty := .array .int) (C := RX5) (T := TX5) (N := 21) hx hb hts (in_k_X5_X5) tyX5 tyX5_ok nmX5 hown hK hP hD hS 0 rfl rfl 3 (by decide) (hts (.fieldLink RX5 18 "HeapWorks$Picture" "length" "[I") (by decide +kernel)) (fun _ h9 => h9) rfl hin rfl (by decide +kernel) rfl rfl (by rw [o_s253.2.1]; decide) dX5_init_28 (fun H locs hP hD hS => ?_)
  have hP : va_P (dC, dI) vwCl [(a0, .inr (8, (s253.set 3 (.ref q254)))), (q254, .inl (k255, 400, .inl f256))] H := hP
  have hD : va_D A [(a0, .inr (8, (s253.set 3 (.ref q254)))), (q254, .inl (k255, 400, .inl f256))] := hD
  have o_s258 := ow_set o_s253 3 (.ref q254) (by decide) (l' := [(3, .ref q254), (2, .ref q249), (1, .ref q244), (0, .int 0), (4, .null), (5, .null), (6, .null), (7, .null), (8, .null), (9, .null), (10, .null), (11, .int 0), (12, .null), (13, .null), (14, .null), (15, .null), (16, .int 0), (17, .null), (18, .null), (19, .null), (20, .null)]) (w' := [3, 2, 1]) rfl rfl
  generalize (s253.set 3 (.ref q254)) = s258 at hP hD o_s258
  have hP := hP.sub (ws' := [(a0, .inr (8, s258))]) [0] rfl
  have hD := hD.sub (ws' := [(a0, .inr (8, s258))]) [0] (by decide) rfl
  have hK := hK.sub (tys' := []) [] rfl
  refine lv_aload_n hx hb dX5_init_31 rfl (lv_at hl 0 rfl) ?_
  refine lv_sipush (v := 401) hx hb dX5_init_32 (by decide) ?_
  refine va_newa (atype := .int) (ty := .int) (a0 := (401, .inl (fun _ : Nat => (0 : Int32)))) (N' := 401) hx hb (hts (.arrayClass .int) (by decide +kernel)) rfl hK hP hD hS hA (na_I 401) (by decide) (by decide) (by decide) (Nat.le_of_ble_eq_true rfl) (Nat.le_of_ble_eq_true rfl) dX5_init_35 (fun q259 k260 H hK hP hD hS => ?_)
  have hK : va_K (dC, dI) vwCl [(k260, .int)] s := hK
  have hP : va_P (dC, dI) vwCl [(a0, .inr (8, s258)), (q259, .inl (k260, 401, .inl ((fun _ : Nat => (0 : Int32)))))] H := hP
  have hD : va_D A [(a0, .inr (8, s258)), (q259, .inl (k260, 401, .inl ((fun _ : Nat => (0 : Int32)))))] := hD
  have z262 : ∀ j, (fun _ : Nat => (0 : Int32)) j = 0 := fun _ => rfl
  generalize (fun _ : Nat => (0 : Int32)) = f261 at hP hD z262
  refine W.widen (k := 4) (n := 1601) (by omega) (by omega) ?_
  refine va_putF (D := (dC, dI)) (ci := 8) (v := .ref q259) (ty := .array .int) (C := RX5) (T := TX5) (N := 21) hx hb hts (in_k_X5_X5) tyX5 tyX5_ok nmX5 hown hK hP hD hS 0 rfl rfl 4 (by decide) (hts (.fieldLink RX5 21 "HeapWorks$Picture" "first" "[I") (by decide +kernel)) (fun _ h9 => h9) rfl hin rfl (by decide +kernel) rfl rfl (by rw [o_s258.2.1]; decide) dX5_init_37 (fun H locs hP hD hS => ?_)
  have hP : va_P (dC, dI) vwCl [(a0, .inr (8, (s258.set 4 (.ref q259)))), (q259, .inl (k260, 401, .inl f261))] H := hP
  have hD : va_D A [(a0, .inr (8, (s258.set 4 (.ref q259)))), (q259, .inl (k260, 401, .inl f261))] := hD
  have o_s263 := ow_set o_s258 4 (.ref q259) (by decide) (l' := [(4, .ref q259), (3, .ref q254), (2, .ref q249), (1, .ref q244), (0, .int 0), (5, .null), (6, .null), (7, .null), (8, .null), (9, .null), (10, .null), (11, .int 0), (12, .null), (13, .null), (14, .null), (15, .null), (16, .int 0), (17, .null), (18, .null), (19, .null), (20, .null)]) (w' := [4, 3, 2, 1]) rfl rfl
  generalize (s258.set 4 (.ref q259)) = s263 at hP hD o_s263
  have hP := hP.sub (ws' := [(a0, .inr (8, s263))]) [0] rfl
  have hD := hD.sub (ws' := [(a0, .inr (8, s263))]) [0] (by decide) rfl
  have hK := hK.sub (tys' := []) [] rfl
  refine lv_aload_n hx hb dX5_init_40 rfl (lv_at hl 0 rfl) ?_
  refine lv_sipush (v := 400) hx hb dX5_init_41 (by decide) ?_
  refine va_newa (atype := .int) (ty := .int) (a0 := (400, .inl (fun _ : Nat => (0 : Int32)))) (N' := 400) hx hb (hts (.arrayClass .int) (by decide +kernel)) rfl hK hP hD hS hA (na_I 400) (by decide) (by decide) (by decide) (Nat.le_of_ble_eq_true rfl) (Nat.le_of_ble_eq_true rfl) dX5_init_44 (fun q264 k265 H hK hP hD hS => ?_)
  have hK : va_K (dC, dI) vwCl [(k265, .int)] s := hK
  have hP : va_P (dC, dI) vwCl [(a0, .inr (8, s263)), (q264, .inl (k265, 400, .inl ((fun _ : Nat => (0 : Int32)))))] H := hP
  have hD : va_D A [(a0, .inr (8, s263)), (q264, .inl (k265, 400, .inl ((fun _ : Nat => (0 : Int32)))))] := hD
  have z267 : ∀ j, (fun _ : Nat => (0 : Int32)) j = 0 := fun _ => rfl
  generalize (fun _ : Nat => (0 : Int32)) = f266 at hP hD z267
  refine W.widen (k := 5) (n := 2001) (by omega) (by omega) ?_
  refine va_putF (D := (dC, dI)) (ci := 8) (v := .ref q264) (ty := .array .int) (C := RX5) (T := TX5) (N := 21) hx hb hts (in_k_X5_X5) tyX5 tyX5_ok nmX5 hown hK hP hD hS 0 rfl rfl 5 (by decide) (hts (.fieldLink RX5 24 "HeapWorks$Picture" "depth" "[I") (by decide +kernel)) (fun _ h9 => h9) rfl hin rfl (by decide +kernel) rfl rfl (by rw [o_s263.2.1]; decide) dX5_init_46 (fun H locs hP hD hS => ?_)
  have hP : va_P (dC, dI) vwCl [(a0, .inr (8, (s263.set 5 (.ref q264)))), (q264, .inl (k265, 400, .inl f266))] H := hP
  have hD : va_D A [(a0, .inr (8, (s263.set 5 (.ref q264)))), (q264, .inl (k265, 400, .inl f266))] := hD
  have o_s268 := ow_set o_s263 5 (.ref q264) (by decide) (l' := [(5, .ref q264), (4, .ref q259), (3, .ref q254), (2, .ref q249), (1, .ref q244), (0, .int 0), (6, .null), (7, .null), (8, .null), (9, .null), (10, .null), (11, .int 0), (12, .null), (13, .null), (14, .null), (15, .null), (16, .int 0), (17, .null), (18, .null), (19, .null), (20, .null)]) (w' := [5, 4, 3, 2, 1]) rfl rfl
  generalize (s263.set 5 (.ref q264)) = s268 at hP hD o_s268
  have hP := hP.sub (ws' := [(a0, .inr (8, s268))]) [0] rfl
  have hD := hD.sub (ws' := [(a0, .inr (8, s268))]) [0] (by decide) rfl
  have hK := hK.sub (tys' := []) [] rfl
  refine lv_aload_n hx hb dX5_init_49 rfl (lv_at hl 0 rfl) ?_
  refine lv_sipush (v := 400) hx hb dX5_init_50 (by decide) ?_
  refine va_newa (atype := .int) (ty := .int) (a0 := (400, .inl (fun _ : Nat => (0 : Int32)))) (N' := 400) hx hb (hts (.arrayClass .int) (by decide +kernel)) rfl hK hP hD hS hA (na_I 400) (by decide) (by decide) (by decide) (Nat.le_of_ble_eq_true rfl) (Nat.le_of_ble_eq_true rfl) dX5_init_53 (fun q269 k270 H hK hP hD hS => ?_)
  have hK : va_K (dC, dI) vwCl [(k270, .int)] s := hK
  have hP : va_P (dC, dI) vwCl [(a0, .inr (8, s268)), (q269, .inl (k270, 400, .inl ((fun _ : Nat => (0 : Int32)))))] H := hP
  have hD : va_D A [(a0, .inr (8, s268)), (q269, .inl (k270, 400, .inl ((fun _ : Nat => (0 : Int32)))))] := hD
  have z272 : ∀ j, (fun _ : Nat => (0 : Int32)) j = 0 := fun _ => rfl
  generalize (fun _ : Nat => (0 : Int32)) = f271 at hP hD z272
  refine W.widen (k := 6) (n := 2401) (by omega) (by omega) ?_
  refine va_putF (D := (dC, dI)) (ci := 8) (v := .ref q269) (ty := .array .int) (C := RX5) (T := TX5) (N := 21) hx hb hts (in_k_X5_X5) tyX5 tyX5_ok nmX5 hown hK hP hD hS 0 rfl rfl 6 (by decide) (hts (.fieldLink RX5 27 "HeapWorks$Picture" "wayThing" "[I") (by decide +kernel)) (fun _ h9 => h9) rfl hin rfl (by decide +kernel) rfl rfl (by rw [o_s268.2.1]; decide) dX5_init_55 (fun H locs hP hD hS => ?_)
  have hP : va_P (dC, dI) vwCl [(a0, .inr (8, (s268.set 6 (.ref q269)))), (q269, .inl (k270, 400, .inl f271))] H := hP
  have hD : va_D A [(a0, .inr (8, (s268.set 6 (.ref q269)))), (q269, .inl (k270, 400, .inl f271))] := hD
  have o_s273 := ow_set o_s268 6 (.ref q269) (by decide) (l' := [(6, .ref q269), (5, .ref q264), (4, .ref q259), (3, .ref q254), (2, .ref q249), (1, .ref q244), (0, .int 0), (7, .null), (8, .null), (9, .null), (10, .null), (11, .int 0), (12, .null), (13, .null), (14, .null), (15, .null), (16, .int 0), (17, .null), (18, .null), (19, .null), (20, .null)]) (w' := [6, 5, 4, 3, 2, 1]) rfl rfl
  generalize (s268.set 6 (.ref q269)) = s273 at hP hD o_s273
  have hP := hP.sub (ws' := [(a0, .inr (8, s273))]) [0] rfl
  have hD := hD.sub (ws' := [(a0, .inr (8, s273))]) [0] (by decide) rfl
  have hK := hK.sub (tys' := []) [] rfl
  refine lv_aload_n hx hb dX5_init_58 rfl (lv_at hl 0 rfl) ?_
  refine lv_sipush (v := 400) hx hb dX5_init_59 (by decide) ?_
  refine va_newa (atype := .int) (ty := .int) (a0 := (400, .inl (fun _ : Nat => (0 : Int32)))) (N' := 400) hx hb (hts (.arrayClass .int) (by decide +kernel)) rfl hK hP hD hS hA (na_I 400) (by decide) (by decide) (by decide) (Nat.le_of_ble_eq_true rfl) (Nat.le_of_ble_eq_true rfl) dX5_init_62 (fun q274 k275 H hK hP hD hS => ?_)
  have hK : va_K (dC, dI) vwCl [(k275, .int)] s := hK
  have hP : va_P (dC, dI) vwCl [(a0, .inr (8, s273)), (q274, .inl (k275, 400, .inl ((fun _ : Nat => (0 : Int32)))))] H := hP
  have hD : va_D A [(a0, .inr (8, s273)), (q274, .inl (k275, 400, .inl ((fun _ : Nat => (0 : Int32)))))] := hD
  have z277 : ∀ j, (fun _ : Nat => (0 : Int32)) j = 0 := fun _ => rfl
  generalize (fun _ : Nat => (0 : Int32)) = f276 at hP hD z277
  refine W.widen (k := 7) (n := 2801) (by omega) (by omega) ?_
  refine va_putF (D := (dC, dI)) (ci := 8) (v := .ref q274) (ty := .array .int) (C := RX5) (T := TX5) (N := 21) hx hb hts (in_k_X5_X5) tyX5 tyX5_ok nmX5 hown hK hP hD hS 0 rfl rfl 7 (by decide) (hts (.fieldLink RX5 30 "HeapWorks$Picture" "waySlot" "[I") (by decide +kernel)) (fun _ h9 => h9) rfl hin rfl (by decide +kernel) rfl rfl (by rw [o_s273.2.1]; decide) dX5_init_64 (fun H locs hP hD hS => ?_)
  have hP : va_P (dC, dI) vwCl [(a0, .inr (8, (s273.set 7 (.ref q274)))), (q274, .inl (k275, 400, .inl f276))] H := hP
  have hD : va_D A [(a0, .inr (8, (s273.set 7 (.ref q274)))), (q274, .inl (k275, 400, .inl f276))] := hD
  have o_s278 := ow_set o_s273 7 (.ref q274) (by decide) (l' := [(7, .ref q274), (6, .ref q269), (5, .ref q264), (4, .ref q259), (3, .ref q254), (2, .ref q249), (1, .ref q244), (0, .int 0), (8, .null), (9, .null), (10, .null), (11, .int 0), (12, .null), (13, .null), (14, .null), (15, .null), (16, .int 0), (17, .null), (18, .null), (19, .null), (20, .null)]) (w' := [7, 6, 5, 4, 3, 2, 1]) rfl rfl
  generalize (s273.set 7 (.ref q274)) = s278 at hP hD o_s278
  have hP := hP.sub (ws' := [(a0, .inr (8, s278))]) [0] rfl
  have hD := hD.sub (ws' := [(a0, .inr (8, s278))]) [0] (by decide) rfl
  have hK := hK.sub (tys' := []) [] rfl
  refine lv_aload_n hx hb dX5_init_67 rfl (lv_at hl 0 rfl) ?_
  refine lv_sipush (v := 400) hx hb dX5_init_68 (by decide) ?_
  refine va_newa (atype := .int) (ty := .int) (a0 := (400, .inl (fun _ : Nat => (0 : Int32)))) (N' := 400) hx hb (hts (.arrayClass .int) (by decide +kernel)) rfl hK hP hD hS hA (na_I 400) (by decide) (by decide) (by decide) (Nat.le_of_ble_eq_true rfl) (Nat.le_of_ble_eq_true rfl) dX5_init_71 (fun q279 k280 H hK hP hD hS => ?_)
  have hK : va_K (dC, dI) vwCl [(k280, .int)] s := hK
  have hP : va_P (dC, dI) vwCl [(a0, .inr (8, s278)), (q279, .inl (k280, 400, .inl ((fun _ : Nat => (0 : Int32)))))] H := hP
  have hD : va_D A [(a0, .inr (8, s278)), (q279, .inl (k280, 400, .inl ((fun _ : Nat => (0 : Int32)))))] := hD
  have z282 : ∀ j, (fun _ : Nat => (0 : Int32)) j = 0 := fun _ => rfl
  generalize (fun _ : Nat => (0 : Int32)) = f281 at hP hD z282
  refine W.widen (k := 8) (n := 3201) (by omega) (by omega) ?_
  refine va_putF (D := (dC, dI)) (ci := 8) (v := .ref q279) (ty := .array .int) (C := RX5) (T := TX5) (N := 21) hx hb hts (in_k_X5_X5) tyX5 tyX5_ok nmX5 hown hK hP hD hS 0 rfl rfl 8 (by decide) (hts (.fieldLink RX5 35 "HeapWorks$Picture" "thingOf" "[I") (by decide +kernel)) (fun _ h9 => h9) rfl hin rfl (by decide +kernel) rfl rfl (by rw [o_s278.2.1]; decide) dX5_init_73 (fun H locs hP hD hS => ?_)
  have hP : va_P (dC, dI) vwCl [(a0, .inr (8, (s278.set 8 (.ref q279)))), (q279, .inl (k280, 400, .inl f281))] H := hP
  have hD : va_D A [(a0, .inr (8, (s278.set 8 (.ref q279)))), (q279, .inl (k280, 400, .inl f281))] := hD
  have o_s283 := ow_set o_s278 8 (.ref q279) (by decide) (l' := [(8, .ref q279), (7, .ref q274), (6, .ref q269), (5, .ref q264), (4, .ref q259), (3, .ref q254), (2, .ref q249), (1, .ref q244), (0, .int 0), (9, .null), (10, .null), (11, .int 0), (12, .null), (13, .null), (14, .null), (15, .null), (16, .int 0), (17, .null), (18, .null), (19, .null), (20, .null)]) (w' := [8, 7, 6, 5, 4, 3, 2, 1]) rfl rfl
  generalize (s278.set 8 (.ref q279)) = s283 at hP hD o_s283
  refine lv_aload_n hx hb dX5_init_76 rfl (lv_at hl 0 rfl) ?_
  refine va_get (D := (dC, dI)) (ci := 8) (v := .ref q279) (C := RX5) (T := TX5) (N := 21) hx hb hts (in_k_X5_X5) hown hK hP 0 rfl rfl 8 (by decide) (hts (.fieldLink RX5 35 "HeapWorks$Picture" "thingOf" "[I") (by decide +kernel)) (fun _ h9 => h9) (ow_at o_s283 0 rfl) dX5_init_77 ?_
  refine lv_iconst (v := (-1)) hx hb dX5_init_80 (by decide) ?_
  have hPc := hP.sub (ws' := [(q279, .inl (k280, 400, .inl f281))]) [1] rfl
  have hDc := hD.sub (ws' := [(q279, .inl (k280, 400, .inl f281))]) [1] (by decide) rfl
  have hKc := hK.sub (tys' := [(k280, .int)]) [0] rfl
  have hFc := va_free (wc := [(q279, .inl (k280, 400, .inl f281))]) hD hS hA [1] rfl
  refine va_callv (va_runS (As := [.ref q279, .int (-1)]) (rest := []) ⟨hx, hb, hml, hown, hts⟩ (zk_J7_fill_53178 l dC dI H.size q279 f281 k280  ) (va_cwS 2 hts g_k_X5_zk_J7_fill_53178_38 rfl rfl rfl (by decide +kernel) ⟨Nat.le_of_ble_eq_true rfl, Nat.le_of_ble_eq_true rfl⟩) ⟨fun a U g mk q => by obtain ⟨q0, q1, qP, qK, qD⟩ := q; exact ⟨q0, q1, qP, va_K.moved (u := U) (U := U.calling g mk a) (Vm.Alike.refl U.vm) qK, qD⟩, fun U hU hW => ⟨rfl, by rw [hU], by rw [hU]; exact hPc, va_K.moved hW.alike hKc, hDc.weaken (fun _ _ _ _ => trivial)⟩⟩ rfl rfl hl.1 rfl (lv_room (Nat.le_of_ble_eq_true rfl)) dX5_init_81 ⟨Nat.le_of_ble_eq_true rfl, Nat.le_of_ble_eq_true rfl⟩) hS (fun q _ h => hFc q h) hFc (fun u t H1 locs ht hvm hw hB hz1 hk1 hS => ?_)
  obtain ⟨f354, rfl⟩ : ∃ z, z = u := ⟨_, rfl⟩
  obtain ⟨hP1, hK1, hD1⟩ := hB
  rw [ht] at hP1
  try dsimp only at hw
  obtain ⟨hP, hD⟩ := va_join (wr := [(a0, .inr (8, s283))]) (w1 := [(q279, .inl (k280, 400, .inl f354))]) hP hD [1] [0] rfl rfl (by decide) (by decide) hk1 hFc hP1 hD1
  have hK := hK.sub (tys' := [(k280, .int)]) [0] rfl
  generalize H1 = H at hP hS ⊢
  have hP : va_P (dC, dI) vwCl [(a0, .inr (8, s283)), (q279, .inl (k280, 400, .inl f354))] H := hP
  have hD : va_D A [(a0, .inr (8, s283)), (q279, .inl (k280, 400, .inl f354))] := hD
  refine lv_aload_n hx hb dX5_init_84 rfl (lv_at hl 0 rfl) ?_
  refine lv_sipush (v := 4000) hx hb dX5_init_85 (by decide) ?_
  refine va_newa (atype := .long) (ty := .long) (a0 := (4000, .inr (.inl (fun _ : Nat => (0 : Int64))))) (N' := 4000) hx hb (hts (.arrayClass .long) (by decide +kernel)) rfl hK hP hD hS hA (na_J 4000) (by decide) (by decide) (by decide) (Nat.le_of_ble_eq_true rfl) (Nat.le_of_ble_eq_true rfl) dX5_init_88 (fun q355 k356 H hK hP hD hS => ?_)
  have hK : va_K (dC, dI) vwCl [(k280, .int), (k356, .long)] s := hK
  have hP : va_P (dC, dI) vwCl [(a0, .inr (8, s283)), (q279, .inl (k280, 400, .inl f354)), (q355, .inl (k356, 4000, .inr (.inl ((fun _ : Nat => (0 : Int64))))))] H := hP
  have hD : va_D A [(a0, .inr (8, s283)), (q279, .inl (k280, 400, .inl f354)), (q355, .inl (k356, 4000, .inr (.inl ((fun _ : Nat => (0 : Int64))))))] := hD
  have z358 : ∀ j, (fun _ : Nat => (0 : Int64)) j = 0 := fun _ => rfl
  generalize (fun _ : Nat => (0 : Int64)) = f357 at hP hD z358
  refine W.widen (k := 9) (n := 7201) (by omega) (by omega) ?_
  refine va_putF (D := (dC, dI)) (ci := 8) (v := .ref q355) (ty := .array .long) (C := RX5) (T := TX5) (N := 21) hx hb hts (in_k_X5_X5) tyX5 tyX5_ok nmX5 hown hK hP hD hS 0 rfl rfl 9 (by decide) (hts (.fieldLink RX5 44 "HeapWorks$Picture" "value" "[J") (by decide +kernel)) (fun _ h9 => h9) rfl hin rfl (by decide +kernel) rfl rfl (by rw [o_s283.2.1]; decide) dX5_init_90 (fun H locs hP hD hS => ?_)
  have hP : va_P (dC, dI) vwCl [(a0, .inr (8, (s283.set 9 (.ref q355)))), (q279, .inl (k280, 400, .inl f354)), (q355, .inl (k356, 4000, .inr (.inl f357)))] H := hP
  have hD : va_D A [(a0, .inr (8, (s283.set 9 (.ref q355)))), (q279, .inl (k280, 400, .inl f354)), (q355, .inl (k356, 4000, .inr (.inl f357)))] := hD
  have o_s359 := ow_set o_s283 9 (.ref q355) (by decide) (l' := [(9, .ref q355), (8, .ref q279), (7, .ref q274), (6, .ref q269), (5, .ref q264), (4, .ref q259), (3, .ref q254), (2, .ref q249), (1, .ref q244), (0, .int 0), (10, .null), (11, .int 0), (12, .null), (13, .null), (14, .null), (15, .null), (16, .int 0), (17, .null), (18, .null), (19, .null), (20, .null)]) (w' := [9, 8, 7, 6, 5, 4, 3, 2, 1]) rfl rfl
  generalize (s283.set 9 (.ref q355)) = s359 at hP hD o_s359
  have hP := hP.sub (ws' := [(a0, .inr (8, s359)), (q279, .inl (k280, 400, .inl f354))]) [0, 1] rfl
  have hD := hD.sub (ws' := [(a0, .inr (8, s359)), (q279, .inl (k280, 400, .inl f354))]) [0, 1] (by decide) rfl
  have hK := hK.sub (tys' := [(k280, .int)]) [0] rfl
  refine lv_aload_n hx hb dX5_init_93 rfl (lv_at hl 0 rfl) ?_
  refine lv_sipush (v := 4000) hx hb dX5_init_94 (by decide) ?_
  refine va_newa (atype := .boolean) (ty := .boolean) (a0 := (4000, .inl (fun _ : Nat => (0 : Int32)))) (N' := 4000) hx hb (hts (.arrayClass .boolean) (by decide +kernel)) rfl hK hP hD hS hA (na_Z 4000) (by decide) (by decide) (by decide) (Nat.le_of_ble_eq_true rfl) (Nat.le_of_ble_eq_true rfl) dX5_init_97 (fun q360 k361 H hK hP hD hS => ?_)
  have hK : va_K (dC, dI) vwCl [(k280, .int), (k361, .boolean)] s := hK
  have hP : va_P (dC, dI) vwCl [(a0, .inr (8, s359)), (q279, .inl (k280, 400, .inl f354)), (q360, .inl (k361, 4000, .inl ((fun _ : Nat => (0 : Int32)))))] H := hP
  have hD : va_D A [(a0, .inr (8, s359)), (q279, .inl (k280, 400, .inl f354)), (q360, .inl (k361, 4000, .inl ((fun _ : Nat => (0 : Int32)))))] := hD
  have z363 : ∀ j, (fun _ : Nat => (0 : Int32)) j = 0 := fun _ => rfl
  generalize (fun _ : Nat => (0 : Int32)) = f362 at hP hD z363
  refine W.widen (k := 10) (n := 11201) (by omega) (by omega) ?_
  refine va_putF (D := (dC, dI)) (ci := 8) (v := .ref q360) (ty := .array .boolean) (C := RX5) (T := TX5) (N := 21) hx hb hts (in_k_X5_X5) tyX5 tyX5_ok nmX5 hown hK hP hD hS 0 rfl rfl 10 (by decide) (hts (.fieldLink RX5 48 "HeapWorks$Picture" "link" "[Z") (by decide +kernel)) (fun _ h9 => h9) rfl hin rfl (by decide +kernel) rfl rfl (by rw [o_s359.2.1]; decide) dX5_init_99 (fun H locs hP hD hS => ?_)
  have hP : va_P (dC, dI) vwCl [(a0, .inr (8, (s359.set 10 (.ref q360)))), (q279, .inl (k280, 400, .inl f354)), (q360, .inl (k361, 4000, .inl f362))] H := hP
  have hD : va_D A [(a0, .inr (8, (s359.set 10 (.ref q360)))), (q279, .inl (k280, 400, .inl f354)), (q360, .inl (k361, 4000, .inl f362))] := hD
  have o_s364 := ow_set o_s359 10 (.ref q360) (by decide) (l' := [(10, .ref q360), (9, .ref q355), (8, .ref q279), (7, .ref q274), (6, .ref q269), (5, .ref q264), (4, .ref q259), (3, .ref q254), (2, .ref q249), (1, .ref q244), (0, .int 0), (11, .int 0), (12, .null), (13, .null), (14, .null), (15, .null), (16, .int 0), (17, .null), (18, .null), (19, .null), (20, .null)]) (w' := [10, 9, 8, 7, 6, 5, 4, 3, 2, 1]) rfl rfl
  generalize (s359.set 10 (.ref q360)) = s364 at hP hD o_s364
  have hP := hP.sub (ws' := [(a0, .inr (8, s364)), (q279, .inl (k280, 400, .inl f354))]) [0, 1] rfl
  have hD := hD.sub (ws' := [(a0, .inr (8, s364)), (q279, .inl (k280, 400, .inl f354))]) [0, 1] (by decide) rfl
  have hK := hK.sub (tys' := [(k280, .int)]) [0] rfl
  refine lv_aload_n hx hb dX5_init_102 rfl (lv_at hl 0 rfl) ?_
  refine lv_bipush (v := 108) hx hb dX5_init_103 (by decide) ?_
  refine va_newa (atype := .int) (ty := .int) (a0 := (108, .inl (fun _ : Nat => (0 : Int32)))) (N' := 108) hx hb (hts (.arrayClass .int) (by decide +kernel)) rfl hK hP hD hS hA (na_I 108) (by decide) (by decide) (by decide) (Nat.le_of_ble_eq_true rfl) (Nat.le_of_ble_eq_true rfl) dX5_init_105 (fun q365 k366 H hK hP hD hS => ?_)
  have hK : va_K (dC, dI) vwCl [(k280, .int), (k366, .int)] s := hK
  have hP : va_P (dC, dI) vwCl [(a0, .inr (8, s364)), (q279, .inl (k280, 400, .inl f354)), (q365, .inl (k366, 108, .inl ((fun _ : Nat => (0 : Int32)))))] H := hP
  have hD : va_D A [(a0, .inr (8, s364)), (q279, .inl (k280, 400, .inl f354)), (q365, .inl (k366, 108, .inl ((fun _ : Nat => (0 : Int32)))))] := hD
  have z368 : ∀ j, (fun _ : Nat => (0 : Int32)) j = 0 := fun _ => rfl
  generalize (fun _ : Nat => (0 : Int32)) = f367 at hP hD z368
  refine W.widen (k := 11) (n := 11309) (by omega) (by omega) ?_
  refine va_putF (D := (dC, dI)) (ci := 8) (v := .ref q365) (ty := .array .int) (C := RX5) (T := TX5) (N := 21) hx hb hts (in_k_X5_X5) tyX5 tyX5_ok nmX5 hown hK hP hD hS 0 rfl rfl 12 (by decide) (hts (.fieldLink RX5 52 "HeapWorks$Picture" "rootNumber" "[I") (by decide +kernel)) (fun _ h9 => h9) rfl hin rfl (by decide +kernel) rfl rfl (by rw [o_s364.2.1]; decide) dX5_init_107 (fun H locs hP hD hS => ?_)
  have hP : va_P (dC, dI) vwCl [(a0, .inr (8, (s364.set 12 (.ref q365)))), (q279, .inl (k280, 400, .inl f354)), (q365, .inl (k366, 108, .inl f367))] H := hP
  have hD : va_D A [(a0, .inr (8, (s364.set 12 (.ref q365)))), (q279, .inl (k280, 400, .inl f354)), (q365, .inl (k366, 108, .inl f367))] := hD
  have o_s369 := ow_set o_s364 12 (.ref q365) (by decide) (l' := [(12, .ref q365), (10, .ref q360), (9, .ref q355), (8, .ref q279), (7, .ref q274), (6, .ref q269), (5, .ref q264), (4, .ref q259), (3, .ref q254), (2, .ref q249), (1, .ref q244), (0, .int 0), (11, .int 0), (13, .null), (14, .null), (15, .null), (16, .int 0), (17, .null), (18, .null), (19, .null), (20, .null)]) (w' := [12, 10, 9, 8, 7, 6, 5, 4, 3, 2, 1]) rfl rfl
  generalize (s364.set 12 (.ref q365)) = s369 at hP hD o_s369
  have hP := hP.sub (ws' := [(a0, .inr (8, s369)), (q279, .inl (k280, 400, .inl f354))]) [0, 1] rfl
  have hD := hD.sub (ws' := [(a0, .inr (8, s369)), (q279, .inl (k280, 400, .inl f354))]) [0, 1] (by decide) rfl
  have hK := hK.sub (tys' := [(k280, .int)]) [0] rfl
  refine lv_aload_n hx hb dX5_init_110 rfl (lv_at hl 0 rfl) ?_
  refine lv_bipush (v := 108) hx hb dX5_init_111 (by decide) ?_
  refine va_newa (atype := .int) (ty := .int) (a0 := (108, .inl (fun _ : Nat => (0 : Int32)))) (N' := 108) hx hb (hts (.arrayClass .int) (by decide +kernel)) rfl hK hP hD hS hA (na_I 108) (by decide) (by decide) (by decide) (Nat.le_of_ble_eq_true rfl) (Nat.le_of_ble_eq_true rfl) dX5_init_113 (fun q370 k371 H hK hP hD hS => ?_)
  have hK : va_K (dC, dI) vwCl [(k280, .int), (k371, .int)] s := hK
  have hP : va_P (dC, dI) vwCl [(a0, .inr (8, s369)), (q279, .inl (k280, 400, .inl f354)), (q370, .inl (k371, 108, .inl ((fun _ : Nat => (0 : Int32)))))] H := hP
  have hD : va_D A [(a0, .inr (8, s369)), (q279, .inl (k280, 400, .inl f354)), (q370, .inl (k371, 108, .inl ((fun _ : Nat => (0 : Int32)))))] := hD
  have z373 : ∀ j, (fun _ : Nat => (0 : Int32)) j = 0 := fun _ => rfl
  generalize (fun _ : Nat => (0 : Int32)) = f372 at hP hD z373
  refine W.widen (k := 12) (n := 11417) (by omega) (by omega) ?_
  refine va_putF (D := (dC, dI)) (ci := 8) (v := .ref q370) (ty := .array .int) (C := RX5) (T := TX5) (N := 21) hx hb hts (in_k_X5_X5) tyX5 tyX5_ok nmX5 hown hK hP hD hS 0 rfl rfl 13 (by decide) (hts (.fieldLink RX5 55 "HeapWorks$Picture" "rootThing" "[I") (by decide +kernel)) (fun _ h9 => h9) rfl hin rfl (by decide +kernel) rfl rfl (by rw [o_s369.2.1]; decide) dX5_init_115 (fun H locs hP hD hS => ?_)
  have hP : va_P (dC, dI) vwCl [(a0, .inr (8, (s369.set 13 (.ref q370)))), (q279, .inl (k280, 400, .inl f354)), (q370, .inl (k371, 108, .inl f372))] H := hP
  have hD : va_D A [(a0, .inr (8, (s369.set 13 (.ref q370)))), (q279, .inl (k280, 400, .inl f354)), (q370, .inl (k371, 108, .inl f372))] := hD
  have o_s374 := ow_set o_s369 13 (.ref q370) (by decide) (l' := [(13, .ref q370), (12, .ref q365), (10, .ref q360), (9, .ref q355), (8, .ref q279), (7, .ref q274), (6, .ref q269), (5, .ref q264), (4, .ref q259), (3, .ref q254), (2, .ref q249), (1, .ref q244), (0, .int 0), (11, .int 0), (14, .null), (15, .null), (16, .int 0), (17, .null), (18, .null), (19, .null), (20, .null)]) (w' := [13, 12, 10, 9, 8, 7, 6, 5, 4, 3, 2, 1]) rfl rfl
  generalize (s369.set 13 (.ref q370)) = s374 at hP hD o_s374
  have hP := hP.sub (ws' := [(a0, .inr (8, s374)), (q279, .inl (k280, 400, .inl f354))]) [0, 1] rfl
  have hD := hD.sub (ws' := [(a0, .inr (8, s374)), (q279, .inl (k280, 400, .inl f354))]) [0, 1] (by decide) rfl
  have hK := hK.sub (tys' := [(k280, .int)]) [0] rfl
  refine lv_aload_n hx hb dX5_init_118 rfl (lv_at hl 0 rfl) ?_
  refine lv_sipush (v := 400) hx hb dX5_init_119 (by decide) ?_
  refine va_newa (atype := .boolean) (ty := .boolean) (a0 := (400, .inl (fun _ : Nat => (0 : Int32)))) (N' := 400) hx hb (hts (.arrayClass .boolean) (by decide +kernel)) rfl hK hP hD hS hA (na_Z 400) (by decide) (by decide) (by decide) (Nat.le_of_ble_eq_true rfl) (Nat.le_of_ble_eq_true rfl) dX5_init_122 (fun q375 k376 H hK hP hD hS => ?_)
  have hK : va_K (dC, dI) vwCl [(k280, .int), (k376, .boolean)] s := hK
  have hP : va_P (dC, dI) vwCl [(a0, .inr (8, s374)), (q279, .inl (k280, 400, .inl f354)), (q375, .inl (k376, 400, .inl ((fun _ : Nat => (0 : Int32)))))] H := hP
  have hD : va_D A [(a0, .inr (8, s374)), (q279, .inl (k280, 400, .inl f354)), (q375, .inl (k376, 400, .inl ((fun _ : Nat => (0 : Int32)))))] := hD
  have z378 : ∀ j, (fun _ : Nat => (0 : Int32)) j = 0 := fun _ => rfl
  generalize (fun _ : Nat => (0 : Int32)) = f377 at hP hD z378
  refine W.widen (k := 13) (n := 11817) (by omega) (by omega) ?_
  refine va_putF (D := (dC, dI)) (ci := 8) (v := .ref q375) (ty := .array .boolean) (C := RX5) (T := TX5) (N := 21) hx hb hts (in_k_X5_X5) tyX5 tyX5_ok nmX5 hown hK hP hD hS 0 rfl rfl 14 (by decide) (hts (.fieldLink RX5 58 "HeapWorks$Picture" "chosen" "[Z") (by decide +kernel)) (fun _ h9 => h9) rfl hin rfl (by decide +kernel) rfl rfl (by rw [o_s374.2.1]; decide) dX5_init_124 (fun H locs hP hD hS => ?_)
  have hP : va_P (dC, dI) vwCl [(a0, .inr (8, (s374.set 14 (.ref q375)))), (q279, .inl (k280, 400, .inl f354)), (q375, .inl (k376, 400, .inl f377))] H := hP
  have hD : va_D A [(a0, .inr (8, (s374.set 14 (.ref q375)))), (q279, .inl (k280, 400, .inl f354)), (q375, .inl (k376, 400, .inl f377))] := hD
  have o_s379 := ow_set o_s374 14 (.ref q375) (by decide) (l' := [(14, .ref q375), (13, .ref q370), (12, .ref q365), (10, .ref q360), (9, .ref q355), (8, .ref q279), (7, .ref q274), (6, .ref q269), (5, .ref q264), (4, .ref q259), (3, .ref q254), (2, .ref q249), (1, .ref q244), (0, .int 0), (11, .int 0), (15, .null), (16, .int 0), (17, .null), (18, .null), (19, .null), (20, .null)]) (w' := [14, 13, 12, 10, 9, 8, 7, 6, 5, 4, 3, 2, 1]) rfl rfl
  generalize (s374.set 14 (.ref q375)) = s379 at hP hD o_s379
  have hP := hP.sub (ws' := [(a0, .inr (8, s379)), (q279, .inl (k280, 400, .inl f354))]) [0, 1] rfl
  have hD := hD.sub (ws' := [(a0, .inr (8, s379)), (q279, .inl (k280, 400, .inl f354))]) [0, 1] (by decide) rfl
  have hK := hK.sub (tys' := [(k280, .int)]) [0] rfl
  refine lv_aload_n hx hb dX5_init_127 rfl (lv_at hl 0 rfl) ?_
  refine lv_sipush (v := 400) hx hb dX5_init_128 (by decide) ?_
  refine va_newa (atype := .int) (ty := .int) (a0 := (400, .inl (fun _ : Nat => (0 : Int32)))) (N' := 400) hx hb (hts (.arrayClass .int) (by decide +kernel)) rfl hK hP hD hS hA (na_I 400) (by decide) (by decide) (by decide) (Nat.le_of_ble_eq_true rfl) (Nat.le_of_ble_eq_true rfl) dX5_init_131 (fun q380 k381 H hK hP hD hS => ?_)
  have hK : va_K (dC, dI) vwCl [(k280, .int), (k381, .int)] s := hK
  have hP : va_P (dC, dI) vwCl [(a0, .inr (8, s379)), (q279, .inl (k280, 400, .inl f354)), (q380, .inl (k381, 400, .inl ((fun _ : Nat => (0 : Int32)))))] H := hP
  have hD : va_D A [(a0, .inr (8, s379)), (q279, .inl (k280, 400, .inl f354)), (q380, .inl (k381, 400, .inl ((fun _ : Nat => (0 : Int32)))))] := hD
  have z383 : ∀ j, (fun _ : Nat => (0 : Int32)) j = 0 := fun _ => rfl
  generalize (fun _ : Nat => (0 : Int32)) = f382 at hP hD z383
  refine W.widen (k := 14) (n := 12217) (by omega) (by omega) ?_
  refine va_putF (D := (dC, dI)) (ci := 8) (v := .ref q380) (ty := .array .int) (C := RX5) (T := TX5) (N := 21) hx hb hts (in_k_X5_X5) tyX5 tyX5_ok nmX5 hown hK hP hD hS 0 rfl rfl 15 (by decide) (hts (.fieldLink RX5 61 "HeapWorks$Picture" "lostThings" "[I") (by decide +kernel)) (fun _ h9 => h9) rfl hin rfl (by decide +kernel) rfl rfl (by rw [o_s379.2.1]; decide) dX5_init_133 (fun H locs hP hD hS => ?_)
  have hP : va_P (dC, dI) vwCl [(a0, .inr (8, (s379.set 15 (.ref q380)))), (q279, .inl (k280, 400, .inl f354)), (q380, .inl (k381, 400, .inl f382))] H := hP
  have hD : va_D A [(a0, .inr (8, (s379.set 15 (.ref q380)))), (q279, .inl (k280, 400, .inl f354)), (q380, .inl (k381, 400, .inl f382))] := hD
  have o_s384 := ow_set o_s379 15 (.ref q380) (by decide) (l' := [(15, .ref q380), (14, .ref q375), (13, .ref q370), (12, .ref q365), (10, .ref q360), (9, .ref q355), (8, .ref q279), (7, .ref q274), (6, .ref q269), (5, .ref q264), (4, .ref q259), (3, .ref q254), (2, .ref q249), (1, .ref q244), (0, .int 0), (11, .int 0), (16, .int 0), (17, .null), (18, .null), (19, .null), (20, .null)]) (w' := [15, 14, 13, 12, 10, 9, 8, 7, 6, 5, 4, 3, 2, 1]) rfl rfl
  generalize (s379.set 15 (.ref q380)) = s384 at hP hD o_s384
  have hP := hP.sub (ws' := [(a0, .inr (8, s384)), (q279, .inl (k280, 400, .inl f354))]) [0, 1] rfl
  have hD := hD.sub (ws' := [(a0, .inr (8, s384)), (q279, .inl (k280, 400, .inl f354))]) [0, 1] (by decide) rfl
  have hK := hK.sub (tys' := [(k280, .int)]) [0] rfl
  refine lv_aload_n hx hb dX5_init_136 rfl (lv_at hl 0 rfl) ?_
  refine lv_sipush (v := 400) hx hb dX5_init_137 (by decide) ?_
  refine va_newa (atype := .int) (ty := .int) (a0 := (400, .inl (fun _ : Nat => (0 : Int32)))) (N' := 400) hx hb (hts (.arrayClass .int) (by decide +kernel)) rfl hK hP hD hS hA (na_I 400) (by decide) (by decide) (by decide) (Nat.le_of_ble_eq_true rfl) (Nat.le_of_ble_eq_true rfl) dX5_init_140 (fun q385 k386 H hK hP hD hS => ?_)
  have hK : va_K (dC, dI) vwCl [(k280, .int), (k386, .int)] s := hK
  have hP : va_P (dC, dI) vwCl [(a0, .inr (8, s384)), (q279, .inl (k280, 400, .inl f354)), (q385, .inl (k386, 400, .inl ((fun _ : Nat => (0 : Int32)))))] H := hP
  have hD : va_D A [(a0, .inr (8, s384)), (q279, .inl (k280, 400, .inl f354)), (q385, .inl (k386, 400, .inl ((fun _ : Nat => (0 : Int32)))))] := hD
  have z388 : ∀ j, (fun _ : Nat => (0 : Int32)) j = 0 := fun _ => rfl
  generalize (fun _ : Nat => (0 : Int32)) = f387 at hP hD z388
  refine W.widen (k := 15) (n := 12617) (by omega) (by omega) ?_
  refine va_putF (D := (dC, dI)) (ci := 8) (v := .ref q385) (ty := .array .int) (C := RX5) (T := TX5) (N := 21) hx hb hts (in_k_X5_X5) tyX5 tyX5_ok nmX5 hown hK hP hD hS 0 rfl rfl 17 (by decide) (hts (.fieldLink RX5 64 "HeapWorks$Picture" "mark" "[I") (by decide +kernel)) (fun _ h9 => h9) rfl hin rfl (by decide +kernel) rfl rfl (by rw [o_s384.2.1]; decide) dX5_init_142 (fun H locs hP hD hS => ?_)
  have hP : va_P (dC, dI) vwCl [(a0, .inr (8, (s384.set 17 (.ref q385)))), (q279, .inl (k280, 400, .inl f354)), (q385, .inl (k386, 400, .inl f387))] H := hP
  have hD : va_D A [(a0, .inr (8, (s384.set 17 (.ref q385)))), (q279, .inl (k280, 400, .inl f354)), (q385, .inl (k386, 400, .inl f387))] := hD
  have o_s389 := ow_set o_s384 17 (.ref q385) (by decide) (l' := [(17, .ref q385), (15, .ref q380), (14, .ref q375), (13, .ref q370), (12, .ref q365), (10, .ref q360), (9, .ref q355), (8, .ref q279), (7, .ref q274), (6, .ref q269), (5, .ref q264), (4, .ref q259), (3, .ref q254), (2, .ref q249), (1, .ref q244), (0, .int 0), (11, .int 0), (16, .int 0), (18, .null), (19, .null), (20, .null)]) (w' := [17, 15, 14, 13, 12, 10, 9, 8, 7, 6, 5, 4, 3, 2, 1]) rfl rfl
  generalize (s384.set 17 (.ref q385)) = s389 at hP hD o_s389
  refine lv_aload_n hx hb dX5_init_145 rfl (lv_at hl 0 rfl) ?_
  refine lv_sipush (v := 400) hx hb dX5_init_146 (by decide) ?_
  refine va_newa (atype := .int) (ty := .int) (a0 := (400, .inl (fun _ : Nat => (0 : Int32)))) (N' := 400) hx hb (hts (.arrayClass .int) (by decide +kernel)) rfl hK hP hD hS hA (na_I 400) (by decide) (by decide) (by decide) (Nat.le_of_ble_eq_true rfl) (Nat.le_of_ble_eq_true rfl) dX5_init_149 (fun q390 k391 H hK hP hD hS => ?_)
  have hK : va_K (dC, dI) vwCl [(k280, .int), (k386, .int), (k391, .int)] s := hK
  have hP : va_P (dC, dI) vwCl [(a0, .inr (8, s389)), (q279, .inl (k280, 400, .inl f354)), (q385, .inl (k386, 400, .inl f387)), (q390, .inl (k391, 400, .inl ((fun _ : Nat => (0 : Int32)))))] H := hP
  have hD : va_D A [(a0, .inr (8, s389)), (q279, .inl (k280, 400, .inl f354)), (q385, .inl (k386, 400, .inl f387)), (q390, .inl (k391, 400, .inl ((fun _ : Nat => (0 : Int32)))))] := hD
  have z393 : ∀ j, (fun _ : Nat => (0 : Int32)) j = 0 := fun _ => rfl
  generalize (fun _ : Nat => (0 : Int32)) = f392 at hP hD z393
  refine W.widen (k := 16) (n := 13017) (by omega) (by omega) ?_
  refine va_putF (D := (dC, dI)) (ci := 8) (v := .ref q390) (ty := .array .int) (C := RX5) (T := TX5) (N := 21) hx hb hts (in_k_X5_X5) tyX5 tyX5_ok nmX5 hown hK hP hD hS 0 rfl rfl 18 (by decide) (hts (.fieldLink RX5 67 "HeapWorks$Picture" "mate" "[I") (by decide +kernel)) (fun _ h9 => h9) rfl hin rfl (by decide +kernel) rfl rfl (by rw [o_s389.2.1]; decide) dX5_init_151 (fun H locs hP hD hS => ?_)
  have hP : va_P (dC, dI) vwCl [(a0, .inr (8, (s389.set 18 (.ref q390)))), (q279, .inl (k280, 400, .inl f354)), (q385, .inl (k386, 400, .inl f387)), (q390, .inl (k391, 400, .inl f392))] H := hP
  have hD : va_D A [(a0, .inr (8, (s389.set 18 (.ref q390)))), (q279, .inl (k280, 400, .inl f354)), (q385, .inl (k386, 400, .inl f387)), (q390, .inl (k391, 400, .inl f392))] := hD
  have o_s394 := ow_set o_s389 18 (.ref q390) (by decide) (l' := [(18, .ref q390), (17, .ref q385), (15, .ref q380), (14, .ref q375), (13, .ref q370), (12, .ref q365), (10, .ref q360), (9, .ref q355), (8, .ref q279), (7, .ref q274), (6, .ref q269), (5, .ref q264), (4, .ref q259), (3, .ref q254), (2, .ref q249), (1, .ref q244), (0, .int 0), (11, .int 0), (16, .int 0), (19, .null), (20, .null)]) (w' := [18, 17, 15, 14, 13, 12, 10, 9, 8, 7, 6, 5, 4, 3, 2, 1]) rfl rfl
  generalize (s389.set 18 (.ref q390)) = s394 at hP hD o_s394
  have hP := hP.sub (ws' := [(a0, .inr (8, s394)), (q279, .inl (k280, 400, .inl f354)), (q385, .inl (k386, 400, .inl f387))]) [0, 1, 2] rfl
  have hD := hD.sub (ws' := [(a0, .inr (8, s394)), (q279, .inl (k280, 400, .inl f354)), (q385, .inl (k386, 400, .inl f387))]) [0, 1, 2] (by decide) rfl
  have hK := hK.sub (tys' := [(k280, .int), (k386, .int)]) [0, 1] rfl
  refine lv_aload_n hx hb dX5_init_154 rfl (lv_at hl 0 rfl) ?_
  refine lv_sipush (v := 400) hx hb dX5_init_155 (by decide) ?_
  refine va_newa (atype := .int) (ty := .int) (a0 := (400, .inl (fun _ : Nat => (0 : Int32)))) (N' := 400) hx hb (hts (.arrayClass .int) (by decide +kernel)) rfl hK hP hD hS hA (na_I 400) (by decide) (by decide) (by decide) (Nat.le_of_ble_eq_true rfl) (Nat.le_of_ble_eq_true rfl) dX5_init_158 (fun q395 k396 H hK hP hD hS => ?_)
  have hK : va_K (dC, dI) vwCl [(k280, .int), (k386, .int), (k396, .int)] s := hK
  have hP : va_P (dC, dI) vwCl [(a0, .inr (8, s394)), (q279, .inl (k280, 400, .inl f354)), (q385, .inl (k386, 400, .inl f387)), (q395, .inl (k396, 400, .inl ((fun _ : Nat => (0 : Int32)))))] H := hP
  have hD : va_D A [(a0, .inr (8, s394)), (q279, .inl (k280, 400, .inl f354)), (q385, .inl (k386, 400, .inl f387)), (q395, .inl (k396, 400, .inl ((fun _ : Nat => (0 : Int32)))))] := hD
  have z398 : ∀ j, (fun _ : Nat => (0 : Int32)) j = 0 := fun _ => rfl
  generalize (fun _ : Nat => (0 : Int32)) = f397 at hP hD z398
  refine W.widen (k := 17) (n := 13417) (by omega) (by omega) ?_
  refine va_putF (D := (dC, dI)) (ci := 8) (v := .ref q395) (ty := .array .int) (C := RX5) (T := TX5) (N := 21) hx hb hts (in_k_X5_X5) tyX5 tyX5_ok nmX5 hown hK hP hD hS 0 rfl rfl 19 (by decide) (hts (.fieldLink RX5 70 "HeapWorks$Picture" "queue" "[I") (by decide +kernel)) (fun _ h9 => h9) rfl hin rfl (by decide +kernel) rfl rfl (by rw [o_s394.2.1]; decide) dX5_init_160 (fun H locs hP hD hS => ?_)
  have hP : va_P (dC, dI) vwCl [(a0, .inr (8, (s394.set 19 (.ref q395)))), (q279, .inl (k280, 400, .inl f354)), (q385, .inl (k386, 400, .inl f387)), (q395, .inl (k396, 400, .inl f397))] H := hP
  have hD : va_D A [(a0, .inr (8, (s394.set 19 (.ref q395)))), (q279, .inl (k280, 400, .inl f354)), (q385, .inl (k386, 400, .inl f387)), (q395, .inl (k396, 400, .inl f397))] := hD
  have o_s399 := ow_set o_s394 19 (.ref q395) (by decide) (l' := [(19, .ref q395), (18, .ref q390), (17, .ref q385), (15, .ref q380), (14, .ref q375), (13, .ref q370), (12, .ref q365), (10, .ref q360), (9, .ref q355), (8, .ref q279), (7, .ref q274), (6, .ref q269), (5, .ref q264), (4, .ref q259), (3, .ref q254), (2, .ref q249), (1, .ref q244), (0, .int 0), (11, .int 0), (16, .int 0), (20, .null)]) (w' := [19, 18, 17, 15, 14, 13, 12, 10, 9, 8, 7, 6, 5, 4, 3, 2, 1]) rfl rfl
  generalize (s394.set 19 (.ref q395)) = s399 at hP hD o_s399
  have hP := hP.sub (ws' := [(a0, .inr (8, s399)), (q279, .inl (k280, 400, .inl f354)), (q385, .inl (k386, 400, .inl f387))]) [0, 1, 2] rfl
  have hD := hD.sub (ws' := [(a0, .inr (8, s399)), (q279, .inl (k280, 400, .inl f354)), (q385, .inl (k386, 400, .inl f387))]) [0, 1, 2] (by decide) rfl
  have hK := hK.sub (tys' := [(k280, .int), (k386, .int)]) [0, 1] rfl
  refine lv_aload_n hx hb dX5_init_163 rfl (lv_at hl 0 rfl) ?_
  refine va_new (ci := 11) (fs := [.null, .int 0, .null, .null, .null, .null, .null, .null, .null, .int 0, .null, .int 0, .null, .null, .null, .null, .null, .null]) (C := RX8) (T := TX8) (N := 18) hx hb hts (in_k_X5_X8) tyX8 tyX8_ok hown (hts (.classLink RX5 73 RX8) (by decide +kernel)) (hts (.instantiable RX8 18) (by decide +kernel)) (hts (.initialized RX8) (by decide +kernel)) hK hP hD hS hA rfl (by decide) (Nat.le_of_ble_eq_true rfl) (Nat.le_of_ble_eq_true rfl) dX5_init_164 (fun q400 H hP hD hS => ?_)
  have hP : va_P (dC, dI) vwCl [(a0, .inr (8, s399)), (q279, .inl (k280, 400, .inl f354)), (q385, .inl (k386, 400, .inl f387)), (q400, .inr (11, [.null, .int 0, .null, .null, .null, .null, .null, .null, .null, .int 0, .null, .int 0, .null, .null, .null, .null, .null, .null]))] H := hP
  have hD : va_D A [(a0, .inr (8, s399)), (q279, .inl (k280, 400, .inl f354)), (q385, .inl (k386, 400, .inl f387)), (q400, .inr (11, [.null, .int 0, .null, .null, .null, .null, .null, .null, .null, .int 0, .null, .int 0, .null, .null, .null, .null, .null, .null]))] := hD
  have k_s401 : fh [.null, .int 0, .null, .null, .null, .null, .null, .null, .null, .int 0, .null, .int 0, .null, .null, .null, .null, .null, .null] 18 [(0, .null), (1, .int 0), (2, .null), (3, .null), (4, .null), (5, .null), (6, .null), (7, .null), (8, .null), (9, .int 0), (10, .null), (11, .int 0), (12, .null), (13, .null), (14, .null), (15, .null), (16, .null), (17, .null)] := ⟨rfl, by decide⟩
  generalize ([.null, .int 0, .null, .null, .null, .null, .null, .null, .null, .int 0, .null, .int 0, .null, .null, .null, .null, .null, .null] : List Value) = s401 at hP hD k_s401
  have o_s401 := ow_0 k_s401
  refine W.widen (k := 18) (n := 13435) (by omega) (by omega) ?_
  refine lv_dup hx hb dX5_init_167 rfl ?_
  refine lv_aload_n hx hb dX5_init_168 rfl (lv_at hl 1 rfl) ?_
  have hPc := hP.sub (ws' := [(q400, .inr (11, s401))]) [3] rfl
  have hDc := hD.sub (ws' := [(q400, .inr (11, s401))]) [3] (by decide) rfl
  have hKc := hK.sub (tys' := []) [] rfl
  have hFc := va_free (wc := [(q400, .inr (11, s401))]) hD hS hA [3] rfl
  refine va_callv (va_runI (As := [.ref b0]) (rest := [.ref q400, .ref a0]) ⟨hx, hb, hml, hown, hts⟩ (zk_X8_init l dC dI H.size q400 s401 b0 (fh_sub o_s401.2 [] rfl) ) (cwI 1 hts g_k_X5_zk_X8_init_75 rfl rfl rfl (hts (.initialized RX8) (by decide +kernel)) (hts (.methodLink RX5 75 yX8_init) (by decide +kernel)) (hts (.instanceMethod yX8_init) (by decide +kernel)) rfl (by decide +kernel) ⟨Nat.le_of_ble_eq_true rfl, Nat.le_of_ble_eq_true rfl⟩) ⟨fun a U g mk q => by obtain ⟨q0, q1, qP, qK, qD⟩ := q; exact ⟨q0, q1, qP, va_K.moved (u := U) (U := U.calling g mk a) (Vm.Alike.refl U.vm) qK, qD⟩, fun U hU hW => ⟨rfl, by rw [hU], by rw [hU]; exact hPc, va_K.moved hW.alike hKc, hDc.weaken (fun _ _ _ _ => trivial)⟩⟩ rfl rfl hl.1 rfl (lv_room (Nat.le_of_ble_eq_true rfl)) dX5_init_169 ⟨Nat.le_of_ble_eq_true rfl, Nat.le_of_ble_eq_true rfl⟩) hS (fun q _ h => hFc q h) hFc (fun u t H1 locs ht hvm hw hB hz1 hk1 hS => ?_)
  obtain ⟨s544, q545, f546, k547, q548, f549, k550, q551, f552, k553, q554, f555, k556, q557, f558, k559⟩ := u
  dsimp only at hB
  obtain ⟨hP1, hK1, hD1⟩ := hB
  rw [ht] at hP1
  try dsimp only at hw
  obtain ⟨hP, hD⟩ := va_join (wr := [(a0, .inr (8, s399)), (q279, .inl (k280, 400, .inl f354)), (q385, .inl (k386, 400, .inl f387))]) (w1 := [(q400, .inr (11, s544)), (q545, .inl (k547, 512, .inl f546)), (q548, .inl (k550, 400, .inl f549)), (q551, .inl (k553, 400, .inl f552)), (q554, .inl (k556, 400, .inl f555)), (q557, .inl (k559, 400, .inl f558))]) hP hD [3] [0, 1, 2] rfl rfl (by decide) (by decide) hk1 hFc hP1 hD1
  have hK1 := va_K.moved hvm.symm hK1
  have hKr : va_K (dC, dI) vwCl [(k280, .int), (k386, .int)] s := hK.sub [0, 1] rfl
  have hK : va_K (dC, dI) vwCl [(k280, .int), (k386, .int), (k547, .int), (k550, .int), (k553, .int), (k556, .int), (k559, .int)] s := hKr.app hK1
  generalize H1 = H at hP hS ⊢
  refine W.widen (k := 32) (n := 26564) (by omega) (by omega) ?_
  have hP : va_P (dC, dI) vwCl [(a0, .inr (8, s399)), (q279, .inl (k280, 400, .inl f354)), (q385, .inl (k386, 400, .inl f387)), (q400, .inr (11, s544)), (q545, .inl (k547, 512, .inl f546)), (q548, .inl (k550, 400, .inl f549)), (q551, .inl (k553, 400, .inl f552)), (q554, .inl (k556, 400, .inl f555)), (q557, .inl (k559, 400, .inl f558))] H := hP
  have hD : va_D A [(a0, .inr (8, s399)), (q279, .inl (k280, 400, .inl f354)), (q385, .inl (k386, 400, .inl f387)), (q400, .inr (11, s544)), (q545, .inl (k547, 512, .inl f546)), (q548, .inl (k550, 400, .inl f549)), (q551, .inl (k553, 400, .inl f552)), (q554, .inl (k556, 400, .inl f555)), (q557, .inl (k559, 400, .inl f558))] := hD
  obtain ⟨o_s544, b560, b561, b562, b563, b564⟩ := hw
  have o_s544 := ow_on o_s401 o_s544 (l' := [(17, .ref q545), (15, .ref q548), (13, .ref q551), (10, .ref q554), (8, .ref q557), (0, .ref b0), (1, .int 0), (9, .int 0), (11, .int 0)]) (w' := [17, 16, 15, 14, 13, 12, 10, 8, 7, 6, 5, 4, 3, 2, 0]) rfl rfl
  refine va_putF (D := (dC, dI)) (ci := 8) (v := .ref q400) (ty := .object "HeapWorks$Shape") (C := RX5) (T := TX5) (N := 21) hx hb hts (in_k_X5_X5) tyX5 tyX5_ok nmX5 hown hK hP hD hS 0 rfl rfl 20 (by decide) (hts (.fieldLink RX5 78 "HeapWorks$Picture" "shape" "LHeapWorks$Shape;") (by decide +kernel)) (fun _ h9 => h9) rfl hin rfl (by decide +kernel) rfl rfl (by rw [o_s399.2.1]; decide) dX5_init_172 (fun H locs hP hD hS => ?_)
  have hP : va_P (dC, dI) vwCl [(a0, .inr (8, (s399.set 20 (.ref q400)))), (q279, .inl (k280, 400, .inl f354)), (q385, .inl (k386, 400, .inl f387)), (q400, .inr (11, s544)), (q545, .inl (k547, 512, .inl f546)), (q548, .inl (k550, 400, .inl f549)), (q551, .inl (k553, 400, .inl f552)), (q554, .inl (k556, 400, .inl f555)), (q557, .inl (k559, 400, .inl f558))] H := hP
  have hD : va_D A [(a0, .inr (8, (s399.set 20 (.ref q400)))), (q279, .inl (k280, 400, .inl f354)), (q385, .inl (k386, 400, .inl f387)), (q400, .inr (11, s544)), (q545, .inl (k547, 512, .inl f546)), (q548, .inl (k550, 400, .inl f549)), (q551, .inl (k553, 400, .inl f552)), (q554, .inl (k556, 400, .inl f555)), (q557, .inl (k559, 400, .inl f558))] := hD
  have o_s565 := ow_set o_s399 20 (.ref q400) (by decide) (l' := [(20, .ref q400), (19, .ref q395), (18, .ref q390), (17, .ref q385), (15, .ref q380), (14, .ref q375), (13, .ref q370), (12, .ref q365), (10, .ref q360), (9, .ref q355), (8, .ref q279), (7, .ref q274), (6, .ref q269), (5, .ref q264), (4, .ref q259), (3, .ref q254), (2, .ref q249), (1, .ref q244), (0, .int 0), (11, .int 0), (16, .int 0)]) (w' := [20, 19, 18, 17, 15, 14, 13, 12, 10, 9, 8, 7, 6, 5, 4, 3, 2, 1]) rfl rfl
  generalize (s399.set 20 (.ref q400)) = s565 at hP hD o_s565
  have hP9 := hP.sub (ws' := [(a0, .inr (8, s565)), (q400, .inr (11, s544)), (q385, .inl (k386, 400, .inl f387)), (q279, .inl (k280, 400, .inl f354)), (q545, .inl (k547, 512, .inl f546)), (q548, .inl (k550, 400, .inl f549)), (q551, .inl (k553, 400, .inl f552)), (q554, .inl (k556, 400, .inl f555)), (q557, .inl (k559, 400, .inl f558))]) [0, 3, 2, 1, 4, 5, 6, 7, 8] rfl
  have hD9 := hD.sub (ws' := [(a0, .inr (8, s565)), (q400, .inr (11, s544)), (q385, .inl (k386, 400, .inl f387)), (q279, .inl (k280, 400, .inl f354)), (q545, .inl (k547, 512, .inl f546)), (q548, .inl (k550, 400, .inl f549)), (q551, .inl (k553, 400, .inl f552)), (q554, .inl (k556, 400, .inl f555)), (q557, .inl (k559, 400, .inl f558))]) [0, 3, 2, 1, 4, 5, 6, 7, 8] (by decide) rfl
  have hK9 := hK.sub (tys' := [(k386, .int), (k280, .int), (k547, .int), (k550, .int), (k553, .int), (k556, .int), (k559, .int)]) [1, 0, 2, 3, 4, 5, 6] rfl
  refine W.widen (k := 32) (n := 26564) (by decide) (by decide) ?_
  exact W.vret hx hb hr (fun t ht hW => ⟨⟨(s565, q400, s544, q385, f387, k386, q279, f354, k280, q545, f546, k547, q548, f549, k550, q551, f552, k553, q554, f555, k556, q557, f558, k559), rfl, ⟨(ow_sub o_s565 [0, 3, 10, 18, 19, 20] rfl), (fh_sub o_s544.2 [0, 1, 2, 3, 4, 5, 6, 7, 8] rfl), z388, b560, b561, b562, b563, b564⟩, by rw [ht]; exact hP9, va_K.moved hW.alike hK9, hD9⟩, hS.F ht⟩) hS.2.2 dX5_init_175

def l_k_X6 : List Cond := [.methodLink RX6 3 objectInit, .instanceMethod objectInit, .code objectInit ⟨#[0xb1]⟩ 1 none, .fieldLink RX6 9 "HeapWorks$Program" "tape" "LHeapWorks$Tape;", .arrayClass .int, .fieldLink RX6 15 "HeapWorks$Program" "op" "[I", .fieldLink RX6 19 "HeapWorks$Program" "frame" "[I", .fieldLink RX6 22 "HeapWorks$Program" "target" "[I", .arrayClass .long, .fieldLink RX6 25 "HeapWorks$Program" "detail" "[J", .fieldLink RX6 29 "HeapWorks$Program" "scopeName" "[J", .fieldLink RX6 32 "HeapWorks$Program" "scopeFrame" "[I", .fieldLink RX6 35 "HeapWorks$Program" "waiting" "[I"]
def w_k_X6 : List Cond := .code yX6_init cX6_init 2 none :: (l_k_X6 ++ (wsX60))
theorem in_k_X6_X6 : ∀ w ∈ wsX60, w ∈ w_k_X6 := fun w h => List.mem_cons_of_mem _ (List.mem_append_right _ (h))
set_option maxHeartbeats 4000000 in
set_option maxRecDepth 100000 in
theorem k_X6 (l : Launch) (dC : Nat → ClassId) (dI : Nat → Nat → Nat) (sz : Nat) (a0 : Nat) (fs0 : List Value) (b0 : Nat) (k_fs0 : fh fs0 19 [(0, .null), (1, .null), (2, .null), (3, .null), (4, .null), (5, .int 0), (6, .int 0), (7, .int 0), (8, .int 0), (9, .int 0), (10, .int 0), (11, .int 0), (12, .int 0), (13, .int 0), (14, .null), (15, .null), (16, .int 0), (17, .null), (18, .int 0)])  : Met l yX6_init w_k_X6 ({ frames := 1, cells := 7, slots := 2140, locals := 24 }) (va_Pc [.ref a0, .ref b0] (fun U => U.heap.size = sz ∧ Wd dC dI [] (fun _ => True) [(a0, .inr (9, fs0))] U)) (va_Qv (fun (u : List Value) => ow fs0 (u) 19 [17, 15, 14, 4, 3, 2, 1, 0] [(0, .ref b0)]) (fun (u : List Value) t => Wd dC dI [] (va_A [(a0, .inr (9, fs0))] sz) [(a0, .inr (9, (u)))] t) (va_A [(a0, .inr (9, fs0))] sz))  7 2140 (va_A [(a0, .inr (9, fs0))] sz) := by
  refine Met.ofW (cc := cX6_init) (maxL := 2) (ret := none) (by decide) rfl ?_
  intro p e s m args below meth c s₁ B hml hv
  obtain ⟨rfl, hsz, hP, hK, hD0⟩ := hv
  have hx := B.exec
  have hb := B.bytes
  have hr := B.returns
  have hts := atoms_spec (ws := w_k_X6) B.pre
  have hown : s.vm.findClass RX6 = some m.cls := findClass_of_methodNamed B.named
  have hlocks := B.notSynchronized
  have hin : meth.name = "<init>" := (name_of_methodNamed B.named B.method).1
  subst hsz
  have hD := hD0.self (sz := s.heap.size)
  generalize hAe : va_A [(a0, .inr (9, fs0))] s.heap.size = A at hD ⊢
  have hA : ∀ q : Nat, s.heap.size ≤ q → A q := fun q h => by rw [← hAe]; exact Or.inr h
  have hS : va_S A s.heap s.heap [] := va_S.rf
  have hl := lv_entry ([.ref a0, .ref b0]) (n := 2) (Nat.le_of_ble_eq_true rfl)
  rw [lg_entry_eq]
  generalize (lg_sl ([.ref a0, .ref b0]) ++ List.replicate (2 - (lg_sl ([.ref a0, .ref b0])).length) Slot.unset).toArray = ls at hl ⊢
  have hl : lv_has ls 2 [(0, .ref a0), (1, .ref b0)] := hl
  have o_fs0 := ow_0 k_fs0
  refine lv_aload_n hx hb dX6_init_0 rfl (lv_at hl 0 rfl) ?_
  refine W.objInit hx hb hown (hts (.methodLink RX6 3 objectInit) (by decide +kernel)) (hts (.instanceMethod objectInit) (by decide +kernel)) (hts (.code objectInit ⟨#[0xb1]⟩ 1 none) (by decide +kernel)) rfl (by rw [hml]; exact hl.1) rfl dX6_init_1 (Nat.le_of_ble_eq_true rfl) (Nat.le_of_ble_eq_true rfl) ?_
  refine W.eq (g2 := F0 m 4 ls []) rfl ?_
  refine lv_aload_n hx hb dX6_init_4 rfl (lv_at hl 0 rfl) ?_
  refine lv_aload_n hx hb dX6_init_5 rfl (lv_at hl 1 rfl) ?_
  refine va_putF (D := (dC, dI)) (ci := 9) (v := .ref b0) (ty := .object "HeapWorks$Tape") (C := RX6) (T := TX6) (N := 19) hx hb hts (in_k_X6_X6) tyX6 tyX6_ok nmX6 hown hK hP hD hS 0 rfl rfl 0 (by decide) (hts (.fieldLink RX6 9 "HeapWorks$Program" "tape" "LHeapWorks$Tape;") (by decide +kernel)) (fun _ h9 => h9) rfl hin rfl (by decide +kernel) rfl rfl (by rw [o_fs0.2.1]; decide) dX6_init_6 (fun H locs hP hD hS => ?_)
  have hP : va_P (dC, dI) vwCl [(a0, .inr (9, (fs0.set 0 (.ref b0))))] H := hP
  have hD : va_D A [(a0, .inr (9, (fs0.set 0 (.ref b0))))] := hD
  have o_s566 := ow_set o_fs0 0 (.ref b0) (by decide) (l' := [(0, .ref b0), (1, .null), (2, .null), (3, .null), (4, .null), (5, .int 0), (6, .int 0), (7, .int 0), (8, .int 0), (9, .int 0), (10, .int 0), (11, .int 0), (12, .int 0), (13, .int 0), (14, .null), (15, .null), (16, .int 0), (17, .null), (18, .int 0)]) (w' := [0]) rfl rfl
  generalize (fs0.set 0 (.ref b0)) = s566 at hP hD o_s566
  refine lv_aload_n hx hb dX6_init_9 rfl (lv_at hl 0 rfl) ?_
  refine lv_sipush (v := 500) hx hb dX6_init_10 (by decide) ?_
  refine va_newa (atype := .int) (ty := .int) (a0 := (500, .inl (fun _ : Nat => (0 : Int32)))) (N' := 500) hx hb (hts (.arrayClass .int) (by decide +kernel)) rfl hK hP hD hS hA (na_I 500) (by decide) (by decide) (by decide) (Nat.le_of_ble_eq_true rfl) (Nat.le_of_ble_eq_true rfl) dX6_init_13 (fun q567 k568 H hK hP hD hS => ?_)
  have hK : va_K (dC, dI) vwCl [(k568, .int)] s := hK
  have hP : va_P (dC, dI) vwCl [(a0, .inr (9, s566)), (q567, .inl (k568, 500, .inl ((fun _ : Nat => (0 : Int32)))))] H := hP
  have hD : va_D A [(a0, .inr (9, s566)), (q567, .inl (k568, 500, .inl ((fun _ : Nat => (0 : Int32)))))] := hD
  have z570 : ∀ j, (fun _ : Nat => (0 : Int32)) j = 0 := fun _ => rfl
  generalize (fun _ : Nat => (0 : Int32)) = f569 at hP hD z570
  refine W.widen (k := 1) (n := 500) (by omega) (by omega) ?_
  refine va_putF (D := (dC, dI)) (ci := 9) (v := .ref q567) (ty := .array .int) (C := RX6) (T := TX6) (N := 19) hx hb hts (in_k_X6_X6) tyX6 tyX6_ok nmX6 hown hK hP hD hS 0 rfl rfl 1 (by decide) (hts (.fieldLink RX6 15 "HeapWorks$Program" "op" "[I") (by decide +kernel)) (fun _ h9 => h9) rfl hin rfl (by decide +kernel) rfl rfl (by rw [o_s566.2.1]; decide) dX6_init_15 (fun H locs hP hD hS => ?_)
  have hP : va_P (dC, dI) vwCl [(a0, .inr (9, (s566.set 1 (.ref q567)))), (q567, .inl (k568, 500, .inl f569))] H := hP
  have hD : va_D A [(a0, .inr (9, (s566.set 1 (.ref q567)))), (q567, .inl (k568, 500, .inl f569))] := hD
  have o_s571 := ow_set o_s566 1 (.ref q567) (by decide) (l' := [(1, .ref q567), (0, .ref b0), (2, .null), (3, .null), (4, .null), (5, .int 0), (6, .int 0), (7, .int 0), (8, .int 0), (9, .int 0), (10, .int 0), (11, .int 0), (12, .int 0), (13, .int 0), (14, .null), (15, .null), (16, .int 0), (17, .null), (18, .int 0)]) (w' := [1, 0]) rfl rfl
  generalize (s566.set 1 (.ref q567)) = s571 at hP hD o_s571
  have hP := hP.sub (ws' := [(a0, .inr (9, s571))]) [0] rfl
  have hD := hD.sub (ws' := [(a0, .inr (9, s571))]) [0] (by decide) rfl
  have hK := hK.sub (tys' := []) [] rfl
  refine lv_aload_n hx hb dX6_init_18 rfl (lv_at hl 0 rfl) ?_
  refine lv_sipush (v := 500) hx hb dX6_init_19 (by decide) ?_
  refine va_newa (atype := .int) (ty := .int) (a0 := (500, .inl (fun _ : Nat => (0 : Int32)))) (N' := 500) hx hb (hts (.arrayClass .int) (by decide +kernel)) rfl hK hP hD hS hA (na_I 500) (by decide) (by decide) (by decide) (Nat.le_of_ble_eq_true rfl) (Nat.le_of_ble_eq_true rfl) dX6_init_22 (fun q572 k573 H hK hP hD hS => ?_)
  have hK : va_K (dC, dI) vwCl [(k573, .int)] s := hK
  have hP : va_P (dC, dI) vwCl [(a0, .inr (9, s571)), (q572, .inl (k573, 500, .inl ((fun _ : Nat => (0 : Int32)))))] H := hP
  have hD : va_D A [(a0, .inr (9, s571)), (q572, .inl (k573, 500, .inl ((fun _ : Nat => (0 : Int32)))))] := hD
  have z575 : ∀ j, (fun _ : Nat => (0 : Int32)) j = 0 := fun _ => rfl
  generalize (fun _ : Nat => (0 : Int32)) = f574 at hP hD z575
  refine W.widen (k := 2) (n := 1000) (by omega) (by omega) ?_
  refine va_putF (D := (dC, dI)) (ci := 9) (v := .ref q572) (ty := .array .int) (C := RX6) (T := TX6) (N := 19) hx hb hts (in_k_X6_X6) tyX6 tyX6_ok nmX6 hown hK hP hD hS 0 rfl rfl 2 (by decide) (hts (.fieldLink RX6 19 "HeapWorks$Program" "frame" "[I") (by decide +kernel)) (fun _ h9 => h9) rfl hin rfl (by decide +kernel) rfl rfl (by rw [o_s571.2.1]; decide) dX6_init_24 (fun H locs hP hD hS => ?_)
  have hP : va_P (dC, dI) vwCl [(a0, .inr (9, (s571.set 2 (.ref q572)))), (q572, .inl (k573, 500, .inl f574))] H := hP
  have hD : va_D A [(a0, .inr (9, (s571.set 2 (.ref q572)))), (q572, .inl (k573, 500, .inl f574))] := hD
  have o_s576 := ow_set o_s571 2 (.ref q572) (by decide) (l' := [(2, .ref q572), (1, .ref q567), (0, .ref b0), (3, .null), (4, .null), (5, .int 0), (6, .int 0), (7, .int 0), (8, .int 0), (9, .int 0), (10, .int 0), (11, .int 0), (12, .int 0), (13, .int 0), (14, .null), (15, .null), (16, .int 0), (17, .null), (18, .int 0)]) (w' := [2, 1, 0]) rfl rfl
  generalize (s571.set 2 (.ref q572)) = s576 at hP hD o_s576
  have hP := hP.sub (ws' := [(a0, .inr (9, s576))]) [0] rfl
  have hD := hD.sub (ws' := [(a0, .inr (9, s576))]) [0] (by decide) rfl
  have hK := hK.sub (tys' := []) [] rfl
  refine lv_aload_n hx hb dX6_init_27 rfl (lv_at hl 0 rfl) ?_
  refine lv_sipush (v := 500) hx hb dX6_init_28 (by decide) ?_
  refine va_newa (atype := .int) (ty := .int) (a0 := (500, .inl (fun _ : Nat => (0 : Int32)))) (N' := 500) hx hb (hts (.arrayClass .int) (by decide +kernel)) rfl hK hP hD hS hA (na_I 500) (by decide) (by decide) (by decide) (Nat.le_of_ble_eq_true rfl) (Nat.le_of_ble_eq_true rfl) dX6_init_31 (fun q577 k578 H hK hP hD hS => ?_)
  have hK : va_K (dC, dI) vwCl [(k578, .int)] s := hK
  have hP : va_P (dC, dI) vwCl [(a0, .inr (9, s576)), (q577, .inl (k578, 500, .inl ((fun _ : Nat => (0 : Int32)))))] H := hP
  have hD : va_D A [(a0, .inr (9, s576)), (q577, .inl (k578, 500, .inl ((fun _ : Nat => (0 : Int32)))))] := hD
  have z580 : ∀ j, (fun _ : Nat => (0 : Int32)) j = 0 := fun _ => rfl
  generalize (fun _ : Nat => (0 : Int32)) = f579 at hP hD z580
  refine W.widen (k := 3) (n := 1500) (by omega) (by omega) ?_
  refine va_putF (D := (dC, dI)) (ci := 9) (v := .ref q577) (ty := .array .int) (C := RX6) (T := TX6) (N := 19) hx hb hts (in_k_X6_X6) tyX6 tyX6_ok nmX6 hown hK hP hD hS 0 rfl rfl 3 (by decide) (hts (.fieldLink RX6 22 "HeapWorks$Program" "target" "[I") (by decide +kernel)) (fun _ h9 => h9) rfl hin rfl (by decide +kernel) rfl rfl (by rw [o_s576.2.1]; decide) dX6_init_33 (fun H locs hP hD hS => ?_)
  have hP : va_P (dC, dI) vwCl [(a0, .inr (9, (s576.set 3 (.ref q577)))), (q577, .inl (k578, 500, .inl f579))] H := hP
  have hD : va_D A [(a0, .inr (9, (s576.set 3 (.ref q577)))), (q577, .inl (k578, 500, .inl f579))] := hD
  have o_s581 := ow_set o_s576 3 (.ref q577) (by decide) (l' := [(3, .ref q577), (2, .ref q572), (1, .ref q567), (0, .ref b0), (4, .null), (5, .int 0), (6, .int 0), (7, .int 0), (8, .int 0), (9, .int 0), (10, .int 0), (11, .int 0), (12, .int 0), (13, .int 0), (14, .null), (15, .null), (16, .int 0), (17, .null), (18, .int 0)]) (w' := [3, 2, 1, 0]) rfl rfl
  generalize (s576.set 3 (.ref q577)) = s581 at hP hD o_s581
  have hP := hP.sub (ws' := [(a0, .inr (9, s581))]) [0] rfl
  have hD := hD.sub (ws' := [(a0, .inr (9, s581))]) [0] (by decide) rfl
  have hK := hK.sub (tys' := []) [] rfl
  refine lv_aload_n hx hb dX6_init_36 rfl (lv_at hl 0 rfl) ?_
  refine lv_sipush (v := 500) hx hb dX6_init_37 (by decide) ?_
  refine va_newa (atype := .long) (ty := .long) (a0 := (500, .inr (.inl (fun _ : Nat => (0 : Int64))))) (N' := 500) hx hb (hts (.arrayClass .long) (by decide +kernel)) rfl hK hP hD hS hA (na_J 500) (by decide) (by decide) (by decide) (Nat.le_of_ble_eq_true rfl) (Nat.le_of_ble_eq_true rfl) dX6_init_40 (fun q582 k583 H hK hP hD hS => ?_)
  have hK : va_K (dC, dI) vwCl [(k583, .long)] s := hK
  have hP : va_P (dC, dI) vwCl [(a0, .inr (9, s581)), (q582, .inl (k583, 500, .inr (.inl ((fun _ : Nat => (0 : Int64))))))] H := hP
  have hD : va_D A [(a0, .inr (9, s581)), (q582, .inl (k583, 500, .inr (.inl ((fun _ : Nat => (0 : Int64))))))] := hD
  have z585 : ∀ j, (fun _ : Nat => (0 : Int64)) j = 0 := fun _ => rfl
  generalize (fun _ : Nat => (0 : Int64)) = f584 at hP hD z585
  refine W.widen (k := 4) (n := 2000) (by omega) (by omega) ?_
  refine va_putF (D := (dC, dI)) (ci := 9) (v := .ref q582) (ty := .array .long) (C := RX6) (T := TX6) (N := 19) hx hb hts (in_k_X6_X6) tyX6 tyX6_ok nmX6 hown hK hP hD hS 0 rfl rfl 4 (by decide) (hts (.fieldLink RX6 25 "HeapWorks$Program" "detail" "[J") (by decide +kernel)) (fun _ h9 => h9) rfl hin rfl (by decide +kernel) rfl rfl (by rw [o_s581.2.1]; decide) dX6_init_42 (fun H locs hP hD hS => ?_)
  have hP : va_P (dC, dI) vwCl [(a0, .inr (9, (s581.set 4 (.ref q582)))), (q582, .inl (k583, 500, .inr (.inl f584)))] H := hP
  have hD : va_D A [(a0, .inr (9, (s581.set 4 (.ref q582)))), (q582, .inl (k583, 500, .inr (.inl f584)))] := hD
  have o_s586 := ow_set o_s581 4 (.ref q582) (by decide) (l' := [(4, .ref q582), (3, .ref q577), (2, .ref q572), (1, .ref q567), (0, .ref b0), (5, .int 0), (6, .int 0), (7, .int 0), (8, .int 0), (9, .int 0), (10, .int 0), (11, .int 0), (12, .int 0), (13, .int 0), (14, .null), (15, .null), (16, .int 0), (17, .null), (18, .int 0)]) (w' := [4, 3, 2, 1, 0]) rfl rfl
  generalize (s581.set 4 (.ref q582)) = s586 at hP hD o_s586
  have hP := hP.sub (ws' := [(a0, .inr (9, s586))]) [0] rfl
  have hD := hD.sub (ws' := [(a0, .inr (9, s586))]) [0] (by decide) rfl
  have hK := hK.sub (tys' := []) [] rfl
  refine lv_aload_n hx hb dX6_init_45 rfl (lv_at hl 0 rfl) ?_
  refine lv_bipush (v := 10) hx hb dX6_init_46 (by decide) ?_
  refine va_newa (atype := .long) (ty := .long) (a0 := (10, .inr (.inl (fun _ : Nat => (0 : Int64))))) (N' := 10) hx hb (hts (.arrayClass .long) (by decide +kernel)) rfl hK hP hD hS hA (na_J 10) (by decide) (by decide) (by decide) (Nat.le_of_ble_eq_true rfl) (Nat.le_of_ble_eq_true rfl) dX6_init_48 (fun q587 k588 H hK hP hD hS => ?_)
  have hK : va_K (dC, dI) vwCl [(k588, .long)] s := hK
  have hP : va_P (dC, dI) vwCl [(a0, .inr (9, s586)), (q587, .inl (k588, 10, .inr (.inl ((fun _ : Nat => (0 : Int64))))))] H := hP
  have hD : va_D A [(a0, .inr (9, s586)), (q587, .inl (k588, 10, .inr (.inl ((fun _ : Nat => (0 : Int64))))))] := hD
  have z590 : ∀ j, (fun _ : Nat => (0 : Int64)) j = 0 := fun _ => rfl
  generalize (fun _ : Nat => (0 : Int64)) = f589 at hP hD z590
  refine W.widen (k := 5) (n := 2010) (by omega) (by omega) ?_
  refine va_putF (D := (dC, dI)) (ci := 9) (v := .ref q587) (ty := .array .long) (C := RX6) (T := TX6) (N := 19) hx hb hts (in_k_X6_X6) tyX6 tyX6_ok nmX6 hown hK hP hD hS 0 rfl rfl 14 (by decide) (hts (.fieldLink RX6 29 "HeapWorks$Program" "scopeName" "[J") (by decide +kernel)) (fun _ h9 => h9) rfl hin rfl (by decide +kernel) rfl rfl (by rw [o_s586.2.1]; decide) dX6_init_50 (fun H locs hP hD hS => ?_)
  have hP : va_P (dC, dI) vwCl [(a0, .inr (9, (s586.set 14 (.ref q587)))), (q587, .inl (k588, 10, .inr (.inl f589)))] H := hP
  have hD : va_D A [(a0, .inr (9, (s586.set 14 (.ref q587)))), (q587, .inl (k588, 10, .inr (.inl f589)))] := hD
  have o_s591 := ow_set o_s586 14 (.ref q587) (by decide) (l' := [(14, .ref q587), (4, .ref q582), (3, .ref q577), (2, .ref q572), (1, .ref q567), (0, .ref b0), (5, .int 0), (6, .int 0), (7, .int 0), (8, .int 0), (9, .int 0), (10, .int 0), (11, .int 0), (12, .int 0), (13, .int 0), (15, .null), (16, .int 0), (17, .null), (18, .int 0)]) (w' := [14, 4, 3, 2, 1, 0]) rfl rfl
  generalize (s586.set 14 (.ref q587)) = s591 at hP hD o_s591
  have hP := hP.sub (ws' := [(a0, .inr (9, s591))]) [0] rfl
  have hD := hD.sub (ws' := [(a0, .inr (9, s591))]) [0] (by decide) rfl
  have hK := hK.sub (tys' := []) [] rfl
  refine lv_aload_n hx hb dX6_init_53 rfl (lv_at hl 0 rfl) ?_
  refine lv_bipush (v := 10) hx hb dX6_init_54 (by decide) ?_
  refine va_newa (atype := .int) (ty := .int) (a0 := (10, .inl (fun _ : Nat => (0 : Int32)))) (N' := 10) hx hb (hts (.arrayClass .int) (by decide +kernel)) rfl hK hP hD hS hA (na_I 10) (by decide) (by decide) (by decide) (Nat.le_of_ble_eq_true rfl) (Nat.le_of_ble_eq_true rfl) dX6_init_56 (fun q592 k593 H hK hP hD hS => ?_)
  have hK : va_K (dC, dI) vwCl [(k593, .int)] s := hK
  have hP : va_P (dC, dI) vwCl [(a0, .inr (9, s591)), (q592, .inl (k593, 10, .inl ((fun _ : Nat => (0 : Int32)))))] H := hP
  have hD : va_D A [(a0, .inr (9, s591)), (q592, .inl (k593, 10, .inl ((fun _ : Nat => (0 : Int32)))))] := hD
  have z595 : ∀ j, (fun _ : Nat => (0 : Int32)) j = 0 := fun _ => rfl
  generalize (fun _ : Nat => (0 : Int32)) = f594 at hP hD z595
  refine W.widen (k := 6) (n := 2020) (by omega) (by omega) ?_
  refine va_putF (D := (dC, dI)) (ci := 9) (v := .ref q592) (ty := .array .int) (C := RX6) (T := TX6) (N := 19) hx hb hts (in_k_X6_X6) tyX6 tyX6_ok nmX6 hown hK hP hD hS 0 rfl rfl 15 (by decide) (hts (.fieldLink RX6 32 "HeapWorks$Program" "scopeFrame" "[I") (by decide +kernel)) (fun _ h9 => h9) rfl hin rfl (by decide +kernel) rfl rfl (by rw [o_s591.2.1]; decide) dX6_init_58 (fun H locs hP hD hS => ?_)
  have hP : va_P (dC, dI) vwCl [(a0, .inr (9, (s591.set 15 (.ref q592)))), (q592, .inl (k593, 10, .inl f594))] H := hP
  have hD : va_D A [(a0, .inr (9, (s591.set 15 (.ref q592)))), (q592, .inl (k593, 10, .inl f594))] := hD
  have o_s596 := ow_set o_s591 15 (.ref q592) (by decide) (l' := [(15, .ref q592), (14, .ref q587), (4, .ref q582), (3, .ref q577), (2, .ref q572), (1, .ref q567), (0, .ref b0), (5, .int 0), (6, .int 0), (7, .int 0), (8, .int 0), (9, .int 0), (10, .int 0), (11, .int 0), (12, .int 0), (13, .int 0), (16, .int 0), (17, .null), (18, .int 0)]) (w' := [15, 14, 4, 3, 2, 1, 0]) rfl rfl
  generalize (s591.set 15 (.ref q592)) = s596 at hP hD o_s596
  have hP := hP.sub (ws' := [(a0, .inr (9, s596))]) [0] rfl
  have hD := hD.sub (ws' := [(a0, .inr (9, s596))]) [0] (by decide) rfl
  have hK := hK.sub (tys' := []) [] rfl
  refine lv_aload_n hx hb dX6_init_61 rfl (lv_at hl 0 rfl) ?_
  refine lv_bipush (v := 120) hx hb dX6_init_62 (by decide) ?_
  refine va_newa (atype := .int) (ty := .int) (a0 := (120, .inl (fun _ : Nat => (0 : Int32)))) (N' := 120) hx hb (hts (.arrayClass .int) (by decide +kernel)) rfl hK hP hD hS hA (na_I 120) (by decide) (by decide) (by decide) (Nat.le_of_ble_eq_true rfl) (Nat.le_of_ble_eq_true rfl) dX6_init_64 (fun q597 k598 H hK hP hD hS => ?_)
  have hK : va_K (dC, dI) vwCl [(k598, .int)] s := hK
  have hP : va_P (dC, dI) vwCl [(a0, .inr (9, s596)), (q597, .inl (k598, 120, .inl ((fun _ : Nat => (0 : Int32)))))] H := hP
  have hD : va_D A [(a0, .inr (9, s596)), (q597, .inl (k598, 120, .inl ((fun _ : Nat => (0 : Int32)))))] := hD
  have z600 : ∀ j, (fun _ : Nat => (0 : Int32)) j = 0 := fun _ => rfl
  generalize (fun _ : Nat => (0 : Int32)) = f599 at hP hD z600
  refine W.widen (k := 7) (n := 2140) (by omega) (by omega) ?_
  refine va_putF (D := (dC, dI)) (ci := 9) (v := .ref q597) (ty := .array .int) (C := RX6) (T := TX6) (N := 19) hx hb hts (in_k_X6_X6) tyX6 tyX6_ok nmX6 hown hK hP hD hS 0 rfl rfl 17 (by decide) (hts (.fieldLink RX6 35 "HeapWorks$Program" "waiting" "[I") (by decide +kernel)) (fun _ h9 => h9) rfl hin rfl (by decide +kernel) rfl rfl (by rw [o_s596.2.1]; decide) dX6_init_66 (fun H locs hP hD hS => ?_)
  have hP : va_P (dC, dI) vwCl [(a0, .inr (9, (s596.set 17 (.ref q597)))), (q597, .inl (k598, 120, .inl f599))] H := hP
  have hD : va_D A [(a0, .inr (9, (s596.set 17 (.ref q597)))), (q597, .inl (k598, 120, .inl f599))] := hD
  have o_s601 := ow_set o_s596 17 (.ref q597) (by decide) (l' := [(17, .ref q597), (15, .ref q592), (14, .ref q587), (4, .ref q582), (3, .ref q577), (2, .ref q572), (1, .ref q567), (0, .ref b0), (5, .int 0), (6, .int 0), (7, .int 0), (8, .int 0), (9, .int 0), (10, .int 0), (11, .int 0), (12, .int 0), (13, .int 0), (16, .int 0), (18, .int 0)]) (w' := [17, 15, 14, 4, 3, 2, 1, 0]) rfl rfl
  generalize (s596.set 17 (.ref q597)) = s601 at hP hD o_s601
  have hP := hP.sub (ws' := [(a0, .inr (9, s601))]) [0] rfl
  have hD := hD.sub (ws' := [(a0, .inr (9, s601))]) [0] (by decide) rfl
  have hK := hK.sub (tys' := []) [] rfl
  have hP9 := hP.sub (ws' := [(a0, .inr (9, s601))]) [0] rfl
  have hD9 := hD.sub (ws' := [(a0, .inr (9, s601))]) [0] (by decide) rfl
  have hK9 := hK.sub (tys' := []) [] rfl
  refine W.widen (k := 7) (n := 2140) (by decide) (by decide) ?_
  exact W.vret hx hb hr (fun t ht hW => ⟨⟨s601, rfl, (ow_sub o_s601 [7] rfl), by rw [ht]; exact hP9, va_K.moved hW.alike hK9, hD9⟩, hS.F ht⟩) hS.2.2 dX6_init_69

def l_k_X4 : List Cond := [.methodLink RX4 5 objectInit, .instanceMethod objectInit, .code objectInit ⟨#[0xb1]⟩ 1 none, .fieldLink RX4 11 "HeapWorks$Machine" "types" "LHeapWorks$Types;", .arrayClass .int, .fieldLink RX4 19 "HeapWorks$Machine" "sort" "[I", .arrayClass .long, .fieldLink RX4 23 "HeapWorks$Machine" "value" "[J", .fieldLink RX4 27 "HeapWorks$Machine" "setKind" "[I", .fieldLink RX4 30 "HeapWorks$Machine" "source" "[I", .fieldLink RX4 33 "HeapWorks$Machine" "cursor" "[I", .fieldLink RX4 36 "HeapWorks$Machine" "bound" "[I", .fieldLink RX4 39 "HeapWorks$Machine" "current" "[I", .fieldLink RX4 42 "HeapWorks$Machine" "total" "[J", .arrayClass .boolean, .fieldLink RX4 45 "HeapWorks$Machine" "found" "[Z", .fieldLink RX4 49 "HeapWorks$Machine" "queue" "[I", .fieldLink RX4 52 "HeapWorks$Machine" "seen" "[I", .fieldLink RX4 55 "HeapWorks$Machine" "stamp" "[I", .fieldLink RX4 58 "HeapWorks$Machine" "rowThing" "[I", .fieldLink RX4 61 "HeapWorks$Machine" "rowSort" "[I", .fieldLink RX4 64 "HeapWorks$Machine" "rowValue" "[J"]
def w_k_X4 : List Cond := .code yX4_init cX4_init 2 none :: (l_k_X4 ++ (wsX40))
theorem in_k_X4_X4 : ∀ w ∈ wsX40, w ∈ w_k_X4 := fun w h => List.mem_cons_of_mem _ (List.mem_append_right _ (h))
set_option maxHeartbeats 4000000 in
set_option maxRecDepth 100000 in
theorem k_X4 (l : Launch) (dC : Nat → ClassId) (dI : Nat → Nat → Nat) (sz : Nat) (a0 : Nat) (fs0 : List Value) (b0 : Nat) (k_fs0 : fh fs0 21 [(0, .null), (1, .null), (2, .null), (3, .int 0), (4, .null), (5, .null), (6, .int 0), (7, .null), (8, .null), (9, .null), (10, .null), (11, .null), (12, .null), (13, .null), (14, .null), (15, .null), (16, .null), (17, .null), (18, .null), (19, .null), (20, .int 0)])  : Met l yX4_init w_k_X4 ({ frames := 1, cells := 15, slots := 21130, locals := 24 }) (va_Pc [.ref a0, .ref b0] (fun U => U.heap.size = sz ∧ Wd dC dI [] (fun _ => True) [(a0, .inr (7, fs0))] U)) (va_Qv (fun (u : List Value) => ow fs0 (u) 21 [19, 18, 17, 16, 15, 14, 13, 12, 11, 10, 9, 8, 7, 5, 4, 0] [(0, .ref b0), (20, .int 0)]) (fun (u : List Value) t => Wd dC dI [] (va_A [(a0, .inr (7, fs0))] sz) [(a0, .inr (7, (u)))] t) (va_A [(a0, .inr (7, fs0))] sz))  15 21130 (va_A [(a0, .inr (7, fs0))] sz) := by
  refine Met.ofW (cc := cX4_init) (maxL := 2) (ret := none) (by decide) rfl ?_
  intro p e s m args below meth c s₁ B hml hv
  obtain ⟨rfl, hsz, hP, hK, hD0⟩ := hv
  have hx := B.exec
  have hb := B.bytes
  have hr := B.returns
  have hts := atoms_spec (ws := w_k_X4) B.pre
  have hown : s.vm.findClass RX4 = some m.cls := findClass_of_methodNamed B.named
  have hlocks := B.notSynchronized
  have hin : meth.name = "<init>" := (name_of_methodNamed B.named B.method).1
  subst hsz
  have hD := hD0.self (sz := s.heap.size)
  generalize hAe : va_A [(a0, .inr (7, fs0))] s.heap.size = A at hD ⊢
  have hA : ∀ q : Nat, s.heap.size ≤ q → A q := fun q h => by rw [← hAe]; exact Or.inr h
  have hS : va_S A s.heap s.heap [] := va_S.rf
  have hl := lv_entry ([.ref a0, .ref b0]) (n := 2) (Nat.le_of_ble_eq_true rfl)
  rw [lg_entry_eq]
  generalize (lg_sl ([.ref a0, .ref b0]) ++ List.replicate (2 - (lg_sl ([.ref a0, .ref b0])).length) Slot.unset).toArray = ls at hl ⊢
  have hl : lv_has ls 2 [(0, .ref a0), (1, .ref b0)] := hl
  have o_fs0 := ow_0 k_fs0
  refine lv_aload_n hx hb dX4_init_0 rfl (lv_at hl 0 rfl) ?_
  refine W.objInit hx hb hown (hts (.methodLink RX4 5 objectInit) (by decide +kernel)) (hts (.instanceMethod objectInit) (by decide +kernel)) (hts (.code objectInit ⟨#[0xb1]⟩ 1 none) (by decide +kernel)) rfl (by rw [hml]; exact hl.1) rfl dX4_init_1 (Nat.le_of_ble_eq_true rfl) (Nat.le_of_ble_eq_true rfl) ?_
  refine W.eq (g2 := F0 m 4 ls []) rfl ?_
  refine lv_aload_n hx hb dX4_init_4 rfl (lv_at hl 0 rfl) ?_
  refine lv_aload_n hx hb dX4_init_5 rfl (lv_at hl 1 rfl) ?_
  refine va_putF (D := (dC, dI)) (ci := 7) (v := .ref b0) (ty := .object "HeapWorks$Types") (C := RX4) (T := TX4) (N := 21) hx hb hts (in_k_X4_X4) tyX4 tyX4_ok nmX4 hown hK hP hD hS 0 rfl rfl 0 (by decide) (hts (.fieldLink RX4 11 "HeapWorks$Machine" "types" "LHeapWorks$Types;") (by decide +kernel)) (fun _ h9 => h9) rfl hin rfl (by decide +kernel) rfl rfl (by rw [o_fs0.2.1]; decide) dX4_init_6 (fun H locs hP hD hS => ?_)
  have hP : va_P (dC, dI) vwCl [(a0, .inr (7, (fs0.set 0 (.ref b0))))] H := hP
  have hD : va_D A [(a0, .inr (7, (fs0.set 0 (.ref b0))))] := hD
  have o_s602 := ow_set o_fs0 0 (.ref b0) (by decide) (l' := [(0, .ref b0), (1, .null), (2, .null), (3, .int 0), (4, .null), (5, .null), (6, .int 0), (7, .null), (8, .null), (9, .null), (10, .null), (11, .null), (12, .null), (13, .null), (14, .null), (15, .null), (16, .null), (17, .null), (18, .null), (19, .null), (20, .int 0)]) (w' := [0]) rfl rfl
  generalize (fs0.set 0 (.ref b0)) = s602 at hP hD o_s602
  refine lv_aload_n hx hb dX4_init_9 rfl (lv_at hl 0 rfl) ?_
  refine lv_bipush (v := 121) hx hb dX4_init_10 (by decide) ?_
  refine va_newa (atype := .int) (ty := .int) (a0 := (121, .inl (fun _ : Nat => (0 : Int32)))) (N' := 121) hx hb (hts (.arrayClass .int) (by decide +kernel)) rfl hK hP hD hS hA (na_I 121) (by decide) (by decide) (by decide) (Nat.le_of_ble_eq_true rfl) (Nat.le_of_ble_eq_true rfl) dX4_init_12 (fun q603 k604 H hK hP hD hS => ?_)
  have hK : va_K (dC, dI) vwCl [(k604, .int)] s := hK
  have hP : va_P (dC, dI) vwCl [(a0, .inr (7, s602)), (q603, .inl (k604, 121, .inl ((fun _ : Nat => (0 : Int32)))))] H := hP
  have hD : va_D A [(a0, .inr (7, s602)), (q603, .inl (k604, 121, .inl ((fun _ : Nat => (0 : Int32)))))] := hD
  have z606 : ∀ j, (fun _ : Nat => (0 : Int32)) j = 0 := fun _ => rfl
  generalize (fun _ : Nat => (0 : Int32)) = f605 at hP hD z606
  refine W.widen (k := 1) (n := 121) (by omega) (by omega) ?_
  refine va_putF (D := (dC, dI)) (ci := 7) (v := .ref q603) (ty := .array .int) (C := RX4) (T := TX4) (N := 21) hx hb hts (in_k_X4_X4) tyX4 tyX4_ok nmX4 hown hK hP hD hS 0 rfl rfl 4 (by decide) (hts (.fieldLink RX4 19 "HeapWorks$Machine" "sort" "[I") (by decide +kernel)) (fun _ h9 => h9) rfl hin rfl (by decide +kernel) rfl rfl (by rw [o_s602.2.1]; decide) dX4_init_14 (fun H locs hP hD hS => ?_)
  have hP : va_P (dC, dI) vwCl [(a0, .inr (7, (s602.set 4 (.ref q603)))), (q603, .inl (k604, 121, .inl f605))] H := hP
  have hD : va_D A [(a0, .inr (7, (s602.set 4 (.ref q603)))), (q603, .inl (k604, 121, .inl f605))] := hD
  have o_s607 := ow_set o_s602 4 (.ref q603) (by decide) (l' := [(4, .ref q603), (0, .ref b0), (1, .null), (2, .null), (3, .int 0), (5, .null), (6, .int 0), (7, .null), (8, .null), (9, .null), (10, .null), (11, .null), (12, .null), (13, .null), (14, .null), (15, .null), (16, .null), (17, .null), (18, .null), (19, .null), (20, .int 0)]) (w' := [4, 0]) rfl rfl
  generalize (s602.set 4 (.ref q603)) = s607 at hP hD o_s607
  have hP := hP.sub (ws' := [(a0, .inr (7, s607))]) [0] rfl
  have hD := hD.sub (ws' := [(a0, .inr (7, s607))]) [0] (by decide) rfl
  have hK := hK.sub (tys' := []) [] rfl
  refine lv_aload_n hx hb dX4_init_17 rfl (lv_at hl 0 rfl) ?_
  refine lv_bipush (v := 121) hx hb dX4_init_18 (by decide) ?_
  refine va_newa (atype := .long) (ty := .long) (a0 := (121, .inr (.inl (fun _ : Nat => (0 : Int64))))) (N' := 121) hx hb (hts (.arrayClass .long) (by decide +kernel)) rfl hK hP hD hS hA (na_J 121) (by decide) (by decide) (by decide) (Nat.le_of_ble_eq_true rfl) (Nat.le_of_ble_eq_true rfl) dX4_init_20 (fun q608 k609 H hK hP hD hS => ?_)
  have hK : va_K (dC, dI) vwCl [(k609, .long)] s := hK
  have hP : va_P (dC, dI) vwCl [(a0, .inr (7, s607)), (q608, .inl (k609, 121, .inr (.inl ((fun _ : Nat => (0 : Int64))))))] H := hP
  have hD : va_D A [(a0, .inr (7, s607)), (q608, .inl (k609, 121, .inr (.inl ((fun _ : Nat => (0 : Int64))))))] := hD
  have z611 : ∀ j, (fun _ : Nat => (0 : Int64)) j = 0 := fun _ => rfl
  generalize (fun _ : Nat => (0 : Int64)) = f610 at hP hD z611
  refine W.widen (k := 2) (n := 242) (by omega) (by omega) ?_
  refine va_putF (D := (dC, dI)) (ci := 7) (v := .ref q608) (ty := .array .long) (C := RX4) (T := TX4) (N := 21) hx hb hts (in_k_X4_X4) tyX4 tyX4_ok nmX4 hown hK hP hD hS 0 rfl rfl 5 (by decide) (hts (.fieldLink RX4 23 "HeapWorks$Machine" "value" "[J") (by decide +kernel)) (fun _ h9 => h9) rfl hin rfl (by decide +kernel) rfl rfl (by rw [o_s607.2.1]; decide) dX4_init_22 (fun H locs hP hD hS => ?_)
  have hP : va_P (dC, dI) vwCl [(a0, .inr (7, (s607.set 5 (.ref q608)))), (q608, .inl (k609, 121, .inr (.inl f610)))] H := hP
  have hD : va_D A [(a0, .inr (7, (s607.set 5 (.ref q608)))), (q608, .inl (k609, 121, .inr (.inl f610)))] := hD
  have o_s612 := ow_set o_s607 5 (.ref q608) (by decide) (l' := [(5, .ref q608), (4, .ref q603), (0, .ref b0), (1, .null), (2, .null), (3, .int 0), (6, .int 0), (7, .null), (8, .null), (9, .null), (10, .null), (11, .null), (12, .null), (13, .null), (14, .null), (15, .null), (16, .null), (17, .null), (18, .null), (19, .null), (20, .int 0)]) (w' := [5, 4, 0]) rfl rfl
  generalize (s607.set 5 (.ref q608)) = s612 at hP hD o_s612
  have hP := hP.sub (ws' := [(a0, .inr (7, s612))]) [0] rfl
  have hD := hD.sub (ws' := [(a0, .inr (7, s612))]) [0] (by decide) rfl
  have hK := hK.sub (tys' := []) [] rfl
  refine lv_aload_n hx hb dX4_init_25 rfl (lv_at hl 0 rfl) ?_
  refine lv_bipush (v := 11) hx hb dX4_init_26 (by decide) ?_
  refine va_newa (atype := .int) (ty := .int) (a0 := (11, .inl (fun _ : Nat => (0 : Int32)))) (N' := 11) hx hb (hts (.arrayClass .int) (by decide +kernel)) rfl hK hP hD hS hA (na_I 11) (by decide) (by decide) (by decide) (Nat.le_of_ble_eq_true rfl) (Nat.le_of_ble_eq_true rfl) dX4_init_28 (fun q613 k614 H hK hP hD hS => ?_)
  have hK : va_K (dC, dI) vwCl [(k614, .int)] s := hK
  have hP : va_P (dC, dI) vwCl [(a0, .inr (7, s612)), (q613, .inl (k614, 11, .inl ((fun _ : Nat => (0 : Int32)))))] H := hP
  have hD : va_D A [(a0, .inr (7, s612)), (q613, .inl (k614, 11, .inl ((fun _ : Nat => (0 : Int32)))))] := hD
  have z616 : ∀ j, (fun _ : Nat => (0 : Int32)) j = 0 := fun _ => rfl
  generalize (fun _ : Nat => (0 : Int32)) = f615 at hP hD z616
  refine W.widen (k := 3) (n := 253) (by omega) (by omega) ?_
  refine va_putF (D := (dC, dI)) (ci := 7) (v := .ref q613) (ty := .array .int) (C := RX4) (T := TX4) (N := 21) hx hb hts (in_k_X4_X4) tyX4 tyX4_ok nmX4 hown hK hP hD hS 0 rfl rfl 7 (by decide) (hts (.fieldLink RX4 27 "HeapWorks$Machine" "setKind" "[I") (by decide +kernel)) (fun _ h9 => h9) rfl hin rfl (by decide +kernel) rfl rfl (by rw [o_s612.2.1]; decide) dX4_init_30 (fun H locs hP hD hS => ?_)
  have hP : va_P (dC, dI) vwCl [(a0, .inr (7, (s612.set 7 (.ref q613)))), (q613, .inl (k614, 11, .inl f615))] H := hP
  have hD : va_D A [(a0, .inr (7, (s612.set 7 (.ref q613)))), (q613, .inl (k614, 11, .inl f615))] := hD
  have o_s617 := ow_set o_s612 7 (.ref q613) (by decide) (l' := [(7, .ref q613), (5, .ref q608), (4, .ref q603), (0, .ref b0), (1, .null), (2, .null), (3, .int 0), (6, .int 0), (8, .null), (9, .null), (10, .null), (11, .null), (12, .null), (13, .null), (14, .null), (15, .null), (16, .null), (17, .null), (18, .null), (19, .null), (20, .int 0)]) (w' := [7, 5, 4, 0]) rfl rfl
  generalize (s612.set 7 (.ref q613)) = s617 at hP hD o_s617
  have hP := hP.sub (ws' := [(a0, .inr (7, s617))]) [0] rfl
  have hD := hD.sub (ws' := [(a0, .inr (7, s617))]) [0] (by decide) rfl
  have hK := hK.sub (tys' := []) [] rfl
  refine lv_aload_n hx hb dX4_init_33 rfl (lv_at hl 0 rfl) ?_
  refine lv_bipush (v := 11) hx hb dX4_init_34 (by decide) ?_
  refine va_newa (atype := .int) (ty := .int) (a0 := (11, .inl (fun _ : Nat => (0 : Int32)))) (N' := 11) hx hb (hts (.arrayClass .int) (by decide +kernel)) rfl hK hP hD hS hA (na_I 11) (by decide) (by decide) (by decide) (Nat.le_of_ble_eq_true rfl) (Nat.le_of_ble_eq_true rfl) dX4_init_36 (fun q618 k619 H hK hP hD hS => ?_)
  have hK : va_K (dC, dI) vwCl [(k619, .int)] s := hK
  have hP : va_P (dC, dI) vwCl [(a0, .inr (7, s617)), (q618, .inl (k619, 11, .inl ((fun _ : Nat => (0 : Int32)))))] H := hP
  have hD : va_D A [(a0, .inr (7, s617)), (q618, .inl (k619, 11, .inl ((fun _ : Nat => (0 : Int32)))))] := hD
  have z621 : ∀ j, (fun _ : Nat => (0 : Int32)) j = 0 := fun _ => rfl
  generalize (fun _ : Nat => (0 : Int32)) = f620 at hP hD z621
  refine W.widen (k := 4) (n := 264) (by omega) (by omega) ?_
  refine va_putF (D := (dC, dI)) (ci := 7) (v := .ref q618) (ty := .array .int) (C := RX4) (T := TX4) (N := 21) hx hb hts (in_k_X4_X4) tyX4 tyX4_ok nmX4 hown hK hP hD hS 0 rfl rfl 8 (by decide) (hts (.fieldLink RX4 30 "HeapWorks$Machine" "source" "[I") (by decide +kernel)) (fun _ h9 => h9) rfl hin rfl (by decide +kernel) rfl rfl (by rw [o_s617.2.1]; decide) dX4_init_38 (fun H locs hP hD hS => ?_)
  have hP : va_P (dC, dI) vwCl [(a0, .inr (7, (s617.set 8 (.ref q618)))), (q618, .inl (k619, 11, .inl f620))] H := hP
  have hD : va_D A [(a0, .inr (7, (s617.set 8 (.ref q618)))), (q618, .inl (k619, 11, .inl f620))] := hD
  have o_s622 := ow_set o_s617 8 (.ref q618) (by decide) (l' := [(8, .ref q618), (7, .ref q613), (5, .ref q608), (4, .ref q603), (0, .ref b0), (1, .null), (2, .null), (3, .int 0), (6, .int 0), (9, .null), (10, .null), (11, .null), (12, .null), (13, .null), (14, .null), (15, .null), (16, .null), (17, .null), (18, .null), (19, .null), (20, .int 0)]) (w' := [8, 7, 5, 4, 0]) rfl rfl
  generalize (s617.set 8 (.ref q618)) = s622 at hP hD o_s622
  have hP := hP.sub (ws' := [(a0, .inr (7, s622))]) [0] rfl
  have hD := hD.sub (ws' := [(a0, .inr (7, s622))]) [0] (by decide) rfl
  have hK := hK.sub (tys' := []) [] rfl
  refine lv_aload_n hx hb dX4_init_41 rfl (lv_at hl 0 rfl) ?_
  refine lv_bipush (v := 11) hx hb dX4_init_42 (by decide) ?_
  refine va_newa (atype := .int) (ty := .int) (a0 := (11, .inl (fun _ : Nat => (0 : Int32)))) (N' := 11) hx hb (hts (.arrayClass .int) (by decide +kernel)) rfl hK hP hD hS hA (na_I 11) (by decide) (by decide) (by decide) (Nat.le_of_ble_eq_true rfl) (Nat.le_of_ble_eq_true rfl) dX4_init_44 (fun q623 k624 H hK hP hD hS => ?_)
  have hK : va_K (dC, dI) vwCl [(k624, .int)] s := hK
  have hP : va_P (dC, dI) vwCl [(a0, .inr (7, s622)), (q623, .inl (k624, 11, .inl ((fun _ : Nat => (0 : Int32)))))] H := hP
  have hD : va_D A [(a0, .inr (7, s622)), (q623, .inl (k624, 11, .inl ((fun _ : Nat => (0 : Int32)))))] := hD
  have z626 : ∀ j, (fun _ : Nat => (0 : Int32)) j = 0 := fun _ => rfl
  generalize (fun _ : Nat => (0 : Int32)) = f625 at hP hD z626
  refine W.widen (k := 5) (n := 275) (by omega) (by omega) ?_
  refine va_putF (D := (dC, dI)) (ci := 7) (v := .ref q623) (ty := .array .int) (C := RX4) (T := TX4) (N := 21) hx hb hts (in_k_X4_X4) tyX4 tyX4_ok nmX4 hown hK hP hD hS 0 rfl rfl 9 (by decide) (hts (.fieldLink RX4 33 "HeapWorks$Machine" "cursor" "[I") (by decide +kernel)) (fun _ h9 => h9) rfl hin rfl (by decide +kernel) rfl rfl (by rw [o_s622.2.1]; decide) dX4_init_46 (fun H locs hP hD hS => ?_)
  have hP : va_P (dC, dI) vwCl [(a0, .inr (7, (s622.set 9 (.ref q623)))), (q623, .inl (k624, 11, .inl f625))] H := hP
  have hD : va_D A [(a0, .inr (7, (s622.set 9 (.ref q623)))), (q623, .inl (k624, 11, .inl f625))] := hD
  have o_s627 := ow_set o_s622 9 (.ref q623) (by decide) (l' := [(9, .ref q623), (8, .ref q618), (7, .ref q613), (5, .ref q608), (4, .ref q603), (0, .ref b0), (1, .null), (2, .null), (3, .int 0), (6, .int 0), (10, .null), (11, .null), (12, .null), (13, .null), (14, .null), (15, .null), (16, .null), (17, .null), (18, .null), (19, .null), (20, .int 0)]) (w' := [9, 8, 7, 5, 4, 0]) rfl rfl
  generalize (s622.set 9 (.ref q623)) = s627 at hP hD o_s627
  have hP := hP.sub (ws' := [(a0, .inr (7, s627))]) [0] rfl
  have hD := hD.sub (ws' := [(a0, .inr (7, s627))]) [0] (by decide) rfl
  have hK := hK.sub (tys' := []) [] rfl
  refine lv_aload_n hx hb dX4_init_49 rfl (lv_at hl 0 rfl) ?_
  refine lv_bipush (v := 11) hx hb dX4_init_50 (by decide) ?_
  refine va_newa (atype := .int) (ty := .int) (a0 := (11, .inl (fun _ : Nat => (0 : Int32)))) (N' := 11) hx hb (hts (.arrayClass .int) (by decide +kernel)) rfl hK hP hD hS hA (na_I 11) (by decide) (by decide) (by decide) (Nat.le_of_ble_eq_true rfl) (Nat.le_of_ble_eq_true rfl) dX4_init_52 (fun q628 k629 H hK hP hD hS => ?_)
  have hK : va_K (dC, dI) vwCl [(k629, .int)] s := hK
  have hP : va_P (dC, dI) vwCl [(a0, .inr (7, s627)), (q628, .inl (k629, 11, .inl ((fun _ : Nat => (0 : Int32)))))] H := hP
  have hD : va_D A [(a0, .inr (7, s627)), (q628, .inl (k629, 11, .inl ((fun _ : Nat => (0 : Int32)))))] := hD
  have z631 : ∀ j, (fun _ : Nat => (0 : Int32)) j = 0 := fun _ => rfl
  generalize (fun _ : Nat => (0 : Int32)) = f630 at hP hD z631
  refine W.widen (k := 6) (n := 286) (by omega) (by omega) ?_
  refine va_putF (D := (dC, dI)) (ci := 7) (v := .ref q628) (ty := .array .int) (C := RX4) (T := TX4) (N := 21) hx hb hts (in_k_X4_X4) tyX4 tyX4_ok nmX4 hown hK hP hD hS 0 rfl rfl 10 (by decide) (hts (.fieldLink RX4 36 "HeapWorks$Machine" "bound" "[I") (by decide +kernel)) (fun _ h9 => h9) rfl hin rfl (by decide +kernel) rfl rfl (by rw [o_s627.2.1]; decide) dX4_init_54 (fun H locs hP hD hS => ?_)
  have hP : va_P (dC, dI) vwCl [(a0, .inr (7, (s627.set 10 (.ref q628)))), (q628, .inl (k629, 11, .inl f630))] H := hP
  have hD : va_D A [(a0, .inr (7, (s627.set 10 (.ref q628)))), (q628, .inl (k629, 11, .inl f630))] := hD
  have o_s632 := ow_set o_s627 10 (.ref q628) (by decide) (l' := [(10, .ref q628), (9, .ref q623), (8, .ref q618), (7, .ref q613), (5, .ref q608), (4, .ref q603), (0, .ref b0), (1, .null), (2, .null), (3, .int 0), (6, .int 0), (11, .null), (12, .null), (13, .null), (14, .null), (15, .null), (16, .null), (17, .null), (18, .null), (19, .null), (20, .int 0)]) (w' := [10, 9, 8, 7, 5, 4, 0]) rfl rfl
  generalize (s627.set 10 (.ref q628)) = s632 at hP hD o_s632
  have hP := hP.sub (ws' := [(a0, .inr (7, s632))]) [0] rfl
  have hD := hD.sub (ws' := [(a0, .inr (7, s632))]) [0] (by decide) rfl
  have hK := hK.sub (tys' := []) [] rfl
  refine lv_aload_n hx hb dX4_init_57 rfl (lv_at hl 0 rfl) ?_
  refine lv_bipush (v := 11) hx hb dX4_init_58 (by decide) ?_
  refine va_newa (atype := .int) (ty := .int) (a0 := (11, .inl (fun _ : Nat => (0 : Int32)))) (N' := 11) hx hb (hts (.arrayClass .int) (by decide +kernel)) rfl hK hP hD hS hA (na_I 11) (by decide) (by decide) (by decide) (Nat.le_of_ble_eq_true rfl) (Nat.le_of_ble_eq_true rfl) dX4_init_60 (fun q633 k634 H hK hP hD hS => ?_)
  have hK : va_K (dC, dI) vwCl [(k634, .int)] s := hK
  have hP : va_P (dC, dI) vwCl [(a0, .inr (7, s632)), (q633, .inl (k634, 11, .inl ((fun _ : Nat => (0 : Int32)))))] H := hP
  have hD : va_D A [(a0, .inr (7, s632)), (q633, .inl (k634, 11, .inl ((fun _ : Nat => (0 : Int32)))))] := hD
  have z636 : ∀ j, (fun _ : Nat => (0 : Int32)) j = 0 := fun _ => rfl
  generalize (fun _ : Nat => (0 : Int32)) = f635 at hP hD z636
  refine W.widen (k := 7) (n := 297) (by omega) (by omega) ?_
  refine va_putF (D := (dC, dI)) (ci := 7) (v := .ref q633) (ty := .array .int) (C := RX4) (T := TX4) (N := 21) hx hb hts (in_k_X4_X4) tyX4 tyX4_ok nmX4 hown hK hP hD hS 0 rfl rfl 11 (by decide) (hts (.fieldLink RX4 39 "HeapWorks$Machine" "current" "[I") (by decide +kernel)) (fun _ h9 => h9) rfl hin rfl (by decide +kernel) rfl rfl (by rw [o_s632.2.1]; decide) dX4_init_62 (fun H locs hP hD hS => ?_)
  have hP : va_P (dC, dI) vwCl [(a0, .inr (7, (s632.set 11 (.ref q633)))), (q633, .inl (k634, 11, .inl f635))] H := hP
  have hD : va_D A [(a0, .inr (7, (s632.set 11 (.ref q633)))), (q633, .inl (k634, 11, .inl f635))] := hD
  have o_s637 := ow_set o_s632 11 (.ref q633) (by decide) (l' := [(11, .ref q633), (10, .ref q628), (9, .ref q623), (8, .ref q618), (7, .ref q613), (5, .ref q608), (4, .ref q603), (0, .ref b0), (1, .null), (2, .null), (3, .int 0), (6, .int 0), (12, .null), (13, .null), (14, .null), (15, .null), (16, .null), (17, .null), (18, .null), (19, .null), (20, .int 0)]) (w' := [11, 10, 9, 8, 7, 5, 4, 0]) rfl rfl
  generalize (s632.set 11 (.ref q633)) = s637 at hP hD o_s637
  have hP := hP.sub (ws' := [(a0, .inr (7, s637))]) [0] rfl
  have hD := hD.sub (ws' := [(a0, .inr (7, s637))]) [0] (by decide) rfl
  have hK := hK.sub (tys' := []) [] rfl
  refine lv_aload_n hx hb dX4_init_65 rfl (lv_at hl 0 rfl) ?_
  refine lv_bipush (v := 11) hx hb dX4_init_66 (by decide) ?_
  refine va_newa (atype := .long) (ty := .long) (a0 := (11, .inr (.inl (fun _ : Nat => (0 : Int64))))) (N' := 11) hx hb (hts (.arrayClass .long) (by decide +kernel)) rfl hK hP hD hS hA (na_J 11) (by decide) (by decide) (by decide) (Nat.le_of_ble_eq_true rfl) (Nat.le_of_ble_eq_true rfl) dX4_init_68 (fun q638 k639 H hK hP hD hS => ?_)
  have hK : va_K (dC, dI) vwCl [(k639, .long)] s := hK
  have hP : va_P (dC, dI) vwCl [(a0, .inr (7, s637)), (q638, .inl (k639, 11, .inr (.inl ((fun _ : Nat => (0 : Int64))))))] H := hP
  have hD : va_D A [(a0, .inr (7, s637)), (q638, .inl (k639, 11, .inr (.inl ((fun _ : Nat => (0 : Int64))))))] := hD
  have z641 : ∀ j, (fun _ : Nat => (0 : Int64)) j = 0 := fun _ => rfl
  generalize (fun _ : Nat => (0 : Int64)) = f640 at hP hD z641
  refine W.widen (k := 8) (n := 308) (by omega) (by omega) ?_
  refine va_putF (D := (dC, dI)) (ci := 7) (v := .ref q638) (ty := .array .long) (C := RX4) (T := TX4) (N := 21) hx hb hts (in_k_X4_X4) tyX4 tyX4_ok nmX4 hown hK hP hD hS 0 rfl rfl 12 (by decide) (hts (.fieldLink RX4 42 "HeapWorks$Machine" "total" "[J") (by decide +kernel)) (fun _ h9 => h9) rfl hin rfl (by decide +kernel) rfl rfl (by rw [o_s637.2.1]; decide) dX4_init_70 (fun H locs hP hD hS => ?_)
  have hP : va_P (dC, dI) vwCl [(a0, .inr (7, (s637.set 12 (.ref q638)))), (q638, .inl (k639, 11, .inr (.inl f640)))] H := hP
  have hD : va_D A [(a0, .inr (7, (s637.set 12 (.ref q638)))), (q638, .inl (k639, 11, .inr (.inl f640)))] := hD
  have o_s642 := ow_set o_s637 12 (.ref q638) (by decide) (l' := [(12, .ref q638), (11, .ref q633), (10, .ref q628), (9, .ref q623), (8, .ref q618), (7, .ref q613), (5, .ref q608), (4, .ref q603), (0, .ref b0), (1, .null), (2, .null), (3, .int 0), (6, .int 0), (13, .null), (14, .null), (15, .null), (16, .null), (17, .null), (18, .null), (19, .null), (20, .int 0)]) (w' := [12, 11, 10, 9, 8, 7, 5, 4, 0]) rfl rfl
  generalize (s637.set 12 (.ref q638)) = s642 at hP hD o_s642
  have hP := hP.sub (ws' := [(a0, .inr (7, s642))]) [0] rfl
  have hD := hD.sub (ws' := [(a0, .inr (7, s642))]) [0] (by decide) rfl
  have hK := hK.sub (tys' := []) [] rfl
  refine lv_aload_n hx hb dX4_init_73 rfl (lv_at hl 0 rfl) ?_
  refine lv_bipush (v := 11) hx hb dX4_init_74 (by decide) ?_
  refine va_newa (atype := .boolean) (ty := .boolean) (a0 := (11, .inl (fun _ : Nat => (0 : Int32)))) (N' := 11) hx hb (hts (.arrayClass .boolean) (by decide +kernel)) rfl hK hP hD hS hA (na_Z 11) (by decide) (by decide) (by decide) (Nat.le_of_ble_eq_true rfl) (Nat.le_of_ble_eq_true rfl) dX4_init_76 (fun q643 k644 H hK hP hD hS => ?_)
  have hK : va_K (dC, dI) vwCl [(k644, .boolean)] s := hK
  have hP : va_P (dC, dI) vwCl [(a0, .inr (7, s642)), (q643, .inl (k644, 11, .inl ((fun _ : Nat => (0 : Int32)))))] H := hP
  have hD : va_D A [(a0, .inr (7, s642)), (q643, .inl (k644, 11, .inl ((fun _ : Nat => (0 : Int32)))))] := hD
  have z646 : ∀ j, (fun _ : Nat => (0 : Int32)) j = 0 := fun _ => rfl
  generalize (fun _ : Nat => (0 : Int32)) = f645 at hP hD z646
  refine W.widen (k := 9) (n := 319) (by omega) (by omega) ?_
  refine va_putF (D := (dC, dI)) (ci := 7) (v := .ref q643) (ty := .array .boolean) (C := RX4) (T := TX4) (N := 21) hx hb hts (in_k_X4_X4) tyX4 tyX4_ok nmX4 hown hK hP hD hS 0 rfl rfl 13 (by decide) (hts (.fieldLink RX4 45 "HeapWorks$Machine" "found" "[Z") (by decide +kernel)) (fun _ h9 => h9) rfl hin rfl (by decide +kernel) rfl rfl (by rw [o_s642.2.1]; decide) dX4_init_78 (fun H locs hP hD hS => ?_)
  have hP : va_P (dC, dI) vwCl [(a0, .inr (7, (s642.set 13 (.ref q643)))), (q643, .inl (k644, 11, .inl f645))] H := hP
  have hD : va_D A [(a0, .inr (7, (s642.set 13 (.ref q643)))), (q643, .inl (k644, 11, .inl f645))] := hD
  have o_s647 := ow_set o_s642 13 (.ref q643) (by decide) (l' := [(13, .ref q643), (12, .ref q638), (11, .ref q633), (10, .ref q628), (9, .ref q623), (8, .ref q618), (7, .ref q613), (5, .ref q608), (4, .ref q603), (0, .ref b0), (1, .null), (2, .null), (3, .int 0), (6, .int 0), (14, .null), (15, .null), (16, .null), (17, .null), (18, .null), (19, .null), (20, .int 0)]) (w' := [13, 12, 11, 10, 9, 8, 7, 5, 4, 0]) rfl rfl
  generalize (s642.set 13 (.ref q643)) = s647 at hP hD o_s647
  have hP := hP.sub (ws' := [(a0, .inr (7, s647))]) [0] rfl
  have hD := hD.sub (ws' := [(a0, .inr (7, s647))]) [0] (by decide) rfl
  have hK := hK.sub (tys' := []) [] rfl
  refine lv_aload_n hx hb dX4_init_81 rfl (lv_at hl 0 rfl) ?_
  refine lv_sipush (v := 4400) hx hb dX4_init_82 (by decide) ?_
  refine va_newa (atype := .int) (ty := .int) (a0 := (4400, .inl (fun _ : Nat => (0 : Int32)))) (N' := 4400) hx hb (hts (.arrayClass .int) (by decide +kernel)) rfl hK hP hD hS hA (na_I 4400) (by decide) (by decide) (by decide) (Nat.le_of_ble_eq_true rfl) (Nat.le_of_ble_eq_true rfl) dX4_init_85 (fun q648 k649 H hK hP hD hS => ?_)
  have hK : va_K (dC, dI) vwCl [(k649, .int)] s := hK
  have hP : va_P (dC, dI) vwCl [(a0, .inr (7, s647)), (q648, .inl (k649, 4400, .inl ((fun _ : Nat => (0 : Int32)))))] H := hP
  have hD : va_D A [(a0, .inr (7, s647)), (q648, .inl (k649, 4400, .inl ((fun _ : Nat => (0 : Int32)))))] := hD
  have z651 : ∀ j, (fun _ : Nat => (0 : Int32)) j = 0 := fun _ => rfl
  generalize (fun _ : Nat => (0 : Int32)) = f650 at hP hD z651
  refine W.widen (k := 10) (n := 4719) (by omega) (by omega) ?_
  refine va_putF (D := (dC, dI)) (ci := 7) (v := .ref q648) (ty := .array .int) (C := RX4) (T := TX4) (N := 21) hx hb hts (in_k_X4_X4) tyX4 tyX4_ok nmX4 hown hK hP hD hS 0 rfl rfl 14 (by decide) (hts (.fieldLink RX4 49 "HeapWorks$Machine" "queue" "[I") (by decide +kernel)) (fun _ h9 => h9) rfl hin rfl (by decide +kernel) rfl rfl (by rw [o_s647.2.1]; decide) dX4_init_87 (fun H locs hP hD hS => ?_)
  have hP : va_P (dC, dI) vwCl [(a0, .inr (7, (s647.set 14 (.ref q648)))), (q648, .inl (k649, 4400, .inl f650))] H := hP
  have hD : va_D A [(a0, .inr (7, (s647.set 14 (.ref q648)))), (q648, .inl (k649, 4400, .inl f650))] := hD
  have o_s652 := ow_set o_s647 14 (.ref q648) (by decide) (l' := [(14, .ref q648), (13, .ref q643), (12, .ref q638), (11, .ref q633), (10, .ref q628), (9, .ref q623), (8, .ref q618), (7, .ref q613), (5, .ref q608), (4, .ref q603), (0, .ref b0), (1, .null), (2, .null), (3, .int 0), (6, .int 0), (15, .null), (16, .null), (17, .null), (18, .null), (19, .null), (20, .int 0)]) (w' := [14, 13, 12, 11, 10, 9, 8, 7, 5, 4, 0]) rfl rfl
  generalize (s647.set 14 (.ref q648)) = s652 at hP hD o_s652
  have hP := hP.sub (ws' := [(a0, .inr (7, s652))]) [0] rfl
  have hD := hD.sub (ws' := [(a0, .inr (7, s652))]) [0] (by decide) rfl
  have hK := hK.sub (tys' := []) [] rfl
  refine lv_aload_n hx hb dX4_init_90 rfl (lv_at hl 0 rfl) ?_
  refine lv_sipush (v := 4400) hx hb dX4_init_91 (by decide) ?_
  refine va_newa (atype := .int) (ty := .int) (a0 := (4400, .inl (fun _ : Nat => (0 : Int32)))) (N' := 4400) hx hb (hts (.arrayClass .int) (by decide +kernel)) rfl hK hP hD hS hA (na_I 4400) (by decide) (by decide) (by decide) (Nat.le_of_ble_eq_true rfl) (Nat.le_of_ble_eq_true rfl) dX4_init_94 (fun q653 k654 H hK hP hD hS => ?_)
  have hK : va_K (dC, dI) vwCl [(k654, .int)] s := hK
  have hP : va_P (dC, dI) vwCl [(a0, .inr (7, s652)), (q653, .inl (k654, 4400, .inl ((fun _ : Nat => (0 : Int32)))))] H := hP
  have hD : va_D A [(a0, .inr (7, s652)), (q653, .inl (k654, 4400, .inl ((fun _ : Nat => (0 : Int32)))))] := hD
  have z656 : ∀ j, (fun _ : Nat => (0 : Int32)) j = 0 := fun _ => rfl
  generalize (fun _ : Nat => (0 : Int32)) = f655 at hP hD z656
  refine W.widen (k := 11) (n := 9119) (by omega) (by omega) ?_
  refine va_putF (D := (dC, dI)) (ci := 7) (v := .ref q653) (ty := .array .int) (C := RX4) (T := TX4) (N := 21) hx hb hts (in_k_X4_X4) tyX4 tyX4_ok nmX4 hown hK hP hD hS 0 rfl rfl 15 (by decide) (hts (.fieldLink RX4 52 "HeapWorks$Machine" "seen" "[I") (by decide +kernel)) (fun _ h9 => h9) rfl hin rfl (by decide +kernel) rfl rfl (by rw [o_s652.2.1]; decide) dX4_init_96 (fun H locs hP hD hS => ?_)
  have hP : va_P (dC, dI) vwCl [(a0, .inr (7, (s652.set 15 (.ref q653)))), (q653, .inl (k654, 4400, .inl f655))] H := hP
  have hD : va_D A [(a0, .inr (7, (s652.set 15 (.ref q653)))), (q653, .inl (k654, 4400, .inl f655))] := hD
  have o_s657 := ow_set o_s652 15 (.ref q653) (by decide) (l' := [(15, .ref q653), (14, .ref q648), (13, .ref q643), (12, .ref q638), (11, .ref q633), (10, .ref q628), (9, .ref q623), (8, .ref q618), (7, .ref q613), (5, .ref q608), (4, .ref q603), (0, .ref b0), (1, .null), (2, .null), (3, .int 0), (6, .int 0), (16, .null), (17, .null), (18, .null), (19, .null), (20, .int 0)]) (w' := [15, 14, 13, 12, 11, 10, 9, 8, 7, 5, 4, 0]) rfl rfl
  generalize (s652.set 15 (.ref q653)) = s657 at hP hD o_s657
  have hP := hP.sub (ws' := [(a0, .inr (7, s657))]) [0] rfl
  have hD := hD.sub (ws' := [(a0, .inr (7, s657))]) [0] (by decide) rfl
  have hK := hK.sub (tys' := []) [] rfl
  refine lv_aload_n hx hb dX4_init_99 rfl (lv_at hl 0 rfl) ?_
  refine lv_bipush (v := 11) hx hb dX4_init_100 (by decide) ?_
  refine va_newa (atype := .int) (ty := .int) (a0 := (11, .inl (fun _ : Nat => (0 : Int32)))) (N' := 11) hx hb (hts (.arrayClass .int) (by decide +kernel)) rfl hK hP hD hS hA (na_I 11) (by decide) (by decide) (by decide) (Nat.le_of_ble_eq_true rfl) (Nat.le_of_ble_eq_true rfl) dX4_init_102 (fun q658 k659 H hK hP hD hS => ?_)
  have hK : va_K (dC, dI) vwCl [(k659, .int)] s := hK
  have hP : va_P (dC, dI) vwCl [(a0, .inr (7, s657)), (q658, .inl (k659, 11, .inl ((fun _ : Nat => (0 : Int32)))))] H := hP
  have hD : va_D A [(a0, .inr (7, s657)), (q658, .inl (k659, 11, .inl ((fun _ : Nat => (0 : Int32)))))] := hD
  have z661 : ∀ j, (fun _ : Nat => (0 : Int32)) j = 0 := fun _ => rfl
  generalize (fun _ : Nat => (0 : Int32)) = f660 at hP hD z661
  refine W.widen (k := 12) (n := 9130) (by omega) (by omega) ?_
  refine va_putF (D := (dC, dI)) (ci := 7) (v := .ref q658) (ty := .array .int) (C := RX4) (T := TX4) (N := 21) hx hb hts (in_k_X4_X4) tyX4 tyX4_ok nmX4 hown hK hP hD hS 0 rfl rfl 16 (by decide) (hts (.fieldLink RX4 55 "HeapWorks$Machine" "stamp" "[I") (by decide +kernel)) (fun _ h9 => h9) rfl hin rfl (by decide +kernel) rfl rfl (by rw [o_s657.2.1]; decide) dX4_init_104 (fun H locs hP hD hS => ?_)
  have hP : va_P (dC, dI) vwCl [(a0, .inr (7, (s657.set 16 (.ref q658)))), (q658, .inl (k659, 11, .inl f660))] H := hP
  have hD : va_D A [(a0, .inr (7, (s657.set 16 (.ref q658)))), (q658, .inl (k659, 11, .inl f660))] := hD
  have o_s662 := ow_set o_s657 16 (.ref q658) (by decide) (l' := [(16, .ref q658), (15, .ref q653), (14, .ref q648), (13, .ref q643), (12, .ref q638), (11, .ref q633), (10, .ref q628), (9, .ref q623), (8, .ref q618), (7, .ref q613), (5, .ref q608), (4, .ref q603), (0, .ref b0), (1, .null), (2, .null), (3, .int 0), (6, .int 0), (17, .null), (18, .null), (19, .null), (20, .int 0)]) (w' := [16, 15, 14, 13, 12, 11, 10, 9, 8, 7, 5, 4, 0]) rfl rfl
  generalize (s657.set 16 (.ref q658)) = s662 at hP hD o_s662
  have hP := hP.sub (ws' := [(a0, .inr (7, s662))]) [0] rfl
  have hD := hD.sub (ws' := [(a0, .inr (7, s662))]) [0] (by decide) rfl
  have hK := hK.sub (tys' := []) [] rfl
  refine lv_aload_n hx hb dX4_init_107 rfl (lv_at hl 0 rfl) ?_
  refine lv_sipush (v := 4000) hx hb dX4_init_108 (by decide) ?_
  refine va_newa (atype := .int) (ty := .int) (a0 := (4000, .inl (fun _ : Nat => (0 : Int32)))) (N' := 4000) hx hb (hts (.arrayClass .int) (by decide +kernel)) rfl hK hP hD hS hA (na_I 4000) (by decide) (by decide) (by decide) (Nat.le_of_ble_eq_true rfl) (Nat.le_of_ble_eq_true rfl) dX4_init_111 (fun q663 k664 H hK hP hD hS => ?_)
  have hK : va_K (dC, dI) vwCl [(k664, .int)] s := hK
  have hP : va_P (dC, dI) vwCl [(a0, .inr (7, s662)), (q663, .inl (k664, 4000, .inl ((fun _ : Nat => (0 : Int32)))))] H := hP
  have hD : va_D A [(a0, .inr (7, s662)), (q663, .inl (k664, 4000, .inl ((fun _ : Nat => (0 : Int32)))))] := hD
  have z666 : ∀ j, (fun _ : Nat => (0 : Int32)) j = 0 := fun _ => rfl
  generalize (fun _ : Nat => (0 : Int32)) = f665 at hP hD z666
  refine W.widen (k := 13) (n := 13130) (by omega) (by omega) ?_
  refine va_putF (D := (dC, dI)) (ci := 7) (v := .ref q663) (ty := .array .int) (C := RX4) (T := TX4) (N := 21) hx hb hts (in_k_X4_X4) tyX4 tyX4_ok nmX4 hown hK hP hD hS 0 rfl rfl 17 (by decide) (hts (.fieldLink RX4 58 "HeapWorks$Machine" "rowThing" "[I") (by decide +kernel)) (fun _ h9 => h9) rfl hin rfl (by decide +kernel) rfl rfl (by rw [o_s662.2.1]; decide) dX4_init_113 (fun H locs hP hD hS => ?_)
  have hP : va_P (dC, dI) vwCl [(a0, .inr (7, (s662.set 17 (.ref q663)))), (q663, .inl (k664, 4000, .inl f665))] H := hP
  have hD : va_D A [(a0, .inr (7, (s662.set 17 (.ref q663)))), (q663, .inl (k664, 4000, .inl f665))] := hD
  have o_s667 := ow_set o_s662 17 (.ref q663) (by decide) (l' := [(17, .ref q663), (16, .ref q658), (15, .ref q653), (14, .ref q648), (13, .ref q643), (12, .ref q638), (11, .ref q633), (10, .ref q628), (9, .ref q623), (8, .ref q618), (7, .ref q613), (5, .ref q608), (4, .ref q603), (0, .ref b0), (1, .null), (2, .null), (3, .int 0), (6, .int 0), (18, .null), (19, .null), (20, .int 0)]) (w' := [17, 16, 15, 14, 13, 12, 11, 10, 9, 8, 7, 5, 4, 0]) rfl rfl
  generalize (s662.set 17 (.ref q663)) = s667 at hP hD o_s667
  have hP := hP.sub (ws' := [(a0, .inr (7, s667))]) [0] rfl
  have hD := hD.sub (ws' := [(a0, .inr (7, s667))]) [0] (by decide) rfl
  have hK := hK.sub (tys' := []) [] rfl
  refine lv_aload_n hx hb dX4_init_116 rfl (lv_at hl 0 rfl) ?_
  refine lv_sipush (v := 4000) hx hb dX4_init_117 (by decide) ?_
  refine va_newa (atype := .int) (ty := .int) (a0 := (4000, .inl (fun _ : Nat => (0 : Int32)))) (N' := 4000) hx hb (hts (.arrayClass .int) (by decide +kernel)) rfl hK hP hD hS hA (na_I 4000) (by decide) (by decide) (by decide) (Nat.le_of_ble_eq_true rfl) (Nat.le_of_ble_eq_true rfl) dX4_init_120 (fun q668 k669 H hK hP hD hS => ?_)
  have hK : va_K (dC, dI) vwCl [(k669, .int)] s := hK
  have hP : va_P (dC, dI) vwCl [(a0, .inr (7, s667)), (q668, .inl (k669, 4000, .inl ((fun _ : Nat => (0 : Int32)))))] H := hP
  have hD : va_D A [(a0, .inr (7, s667)), (q668, .inl (k669, 4000, .inl ((fun _ : Nat => (0 : Int32)))))] := hD
  have z671 : ∀ j, (fun _ : Nat => (0 : Int32)) j = 0 := fun _ => rfl
  generalize (fun _ : Nat => (0 : Int32)) = f670 at hP hD z671
  refine W.widen (k := 14) (n := 17130) (by omega) (by omega) ?_
  refine va_putF (D := (dC, dI)) (ci := 7) (v := .ref q668) (ty := .array .int) (C := RX4) (T := TX4) (N := 21) hx hb hts (in_k_X4_X4) tyX4 tyX4_ok nmX4 hown hK hP hD hS 0 rfl rfl 18 (by decide) (hts (.fieldLink RX4 61 "HeapWorks$Machine" "rowSort" "[I") (by decide +kernel)) (fun _ h9 => h9) rfl hin rfl (by decide +kernel) rfl rfl (by rw [o_s667.2.1]; decide) dX4_init_122 (fun H locs hP hD hS => ?_)
  have hP : va_P (dC, dI) vwCl [(a0, .inr (7, (s667.set 18 (.ref q668)))), (q668, .inl (k669, 4000, .inl f670))] H := hP
  have hD : va_D A [(a0, .inr (7, (s667.set 18 (.ref q668)))), (q668, .inl (k669, 4000, .inl f670))] := hD
  have o_s672 := ow_set o_s667 18 (.ref q668) (by decide) (l' := [(18, .ref q668), (17, .ref q663), (16, .ref q658), (15, .ref q653), (14, .ref q648), (13, .ref q643), (12, .ref q638), (11, .ref q633), (10, .ref q628), (9, .ref q623), (8, .ref q618), (7, .ref q613), (5, .ref q608), (4, .ref q603), (0, .ref b0), (1, .null), (2, .null), (3, .int 0), (6, .int 0), (19, .null), (20, .int 0)]) (w' := [18, 17, 16, 15, 14, 13, 12, 11, 10, 9, 8, 7, 5, 4, 0]) rfl rfl
  generalize (s667.set 18 (.ref q668)) = s672 at hP hD o_s672
  have hP := hP.sub (ws' := [(a0, .inr (7, s672))]) [0] rfl
  have hD := hD.sub (ws' := [(a0, .inr (7, s672))]) [0] (by decide) rfl
  have hK := hK.sub (tys' := []) [] rfl
  refine lv_aload_n hx hb dX4_init_125 rfl (lv_at hl 0 rfl) ?_
  refine lv_sipush (v := 4000) hx hb dX4_init_126 (by decide) ?_
  refine va_newa (atype := .long) (ty := .long) (a0 := (4000, .inr (.inl (fun _ : Nat => (0 : Int64))))) (N' := 4000) hx hb (hts (.arrayClass .long) (by decide +kernel)) rfl hK hP hD hS hA (na_J 4000) (by decide) (by decide) (by decide) (Nat.le_of_ble_eq_true rfl) (Nat.le_of_ble_eq_true rfl) dX4_init_129 (fun q673 k674 H hK hP hD hS => ?_)
  have hK : va_K (dC, dI) vwCl [(k674, .long)] s := hK
  have hP : va_P (dC, dI) vwCl [(a0, .inr (7, s672)), (q673, .inl (k674, 4000, .inr (.inl ((fun _ : Nat => (0 : Int64))))))] H := hP
  have hD : va_D A [(a0, .inr (7, s672)), (q673, .inl (k674, 4000, .inr (.inl ((fun _ : Nat => (0 : Int64))))))] := hD
  have z676 : ∀ j, (fun _ : Nat => (0 : Int64)) j = 0 := fun _ => rfl
  generalize (fun _ : Nat => (0 : Int64)) = f675 at hP hD z676
  refine W.widen (k := 15) (n := 21130) (by omega) (by omega) ?_
  refine va_putF (D := (dC, dI)) (ci := 7) (v := .ref q673) (ty := .array .long) (C := RX4) (T := TX4) (N := 21) hx hb hts (in_k_X4_X4) tyX4 tyX4_ok nmX4 hown hK hP hD hS 0 rfl rfl 19 (by decide) (hts (.fieldLink RX4 64 "HeapWorks$Machine" "rowValue" "[J") (by decide +kernel)) (fun _ h9 => h9) rfl hin rfl (by decide +kernel) rfl rfl (by rw [o_s672.2.1]; decide) dX4_init_131 (fun H locs hP hD hS => ?_)
  have hP : va_P (dC, dI) vwCl [(a0, .inr (7, (s672.set 19 (.ref q673)))), (q673, .inl (k674, 4000, .inr (.inl f675)))] H := hP
  have hD : va_D A [(a0, .inr (7, (s672.set 19 (.ref q673)))), (q673, .inl (k674, 4000, .inr (.inl f675)))] := hD
  have o_s677 := ow_set o_s672 19 (.ref q673) (by decide) (l' := [(19, .ref q673), (18, .ref q668), (17, .ref q663), (16, .ref q658), (15, .ref q653), (14, .ref q648), (13, .ref q643), (12, .ref q638), (11, .ref q633), (10, .ref q628), (9, .ref q623), (8, .ref q618), (7, .ref q613), (5, .ref q608), (4, .ref q603), (0, .ref b0), (1, .null), (2, .null), (3, .int 0), (6, .int 0), (20, .int 0)]) (w' := [19, 18, 17, 16, 15, 14, 13, 12, 11, 10, 9, 8, 7, 5, 4, 0]) rfl rfl
  generalize (s672.set 19 (.ref q673)) = s677 at hP hD o_s677
  have hP := hP.sub (ws' := [(a0, .inr (7, s677))]) [0] rfl
  have hD := hD.sub (ws' := [(a0, .inr (7, s677))]) [0] (by decide) rfl
  have hK := hK.sub (tys' := []) [] rfl
  have hP9 := hP.sub (ws' := [(a0, .inr (7, s677))]) [0] rfl
  have hD9 := hD.sub (ws' := [(a0, .inr (7, s677))]) [0] (by decide) rfl
  have hK9 := hK.sub (tys' := []) [] rfl
  refine W.widen (k := 15) (n := 21130) (by decide) (by decide) ?_
  exact W.vret hx hb hr (fun t ht hW => ⟨⟨s677, rfl, (ow_sub o_s677 [15, 20] rfl), by rw [ht]; exact hP9, va_K.moved hW.alike hK9, hD9⟩, hS.F ht⟩) hS.2.2 dX4_init_134

def l_k_X1 : List Cond := [.methodLink RX1 3 objectInit, .instanceMethod objectInit, .code objectInit ⟨#[0xb1]⟩ 1 none, .fieldLink RX1 9 "HeapWorks$FactBook" "types" "LHeapWorks$Types;", .arrayClass .long, .fieldLink RX1 15 "HeapWorks$FactBook" "row" "[J", .fieldLink RX1 19 "HeapWorks$FactBook" "column" "[J", .fieldLink RX1 22 "HeapWorks$FactBook" "diagonal" "[J", .fieldLink RX1 27 "HeapWorks$FactBook" "classBits" "[J", .arrayClass .int, .fieldLink RX1 30 "HeapWorks$FactBook" "chosen" "[I"]
def w_k_X1 : List Cond := .code yX1_init cX1_init 2 none :: (l_k_X1 ++ (wsX10))
theorem in_k_X1_X1 : ∀ w ∈ wsX10, w ∈ w_k_X1 := fun w h => List.mem_cons_of_mem _ (List.mem_append_right _ (h))
set_option maxHeartbeats 4000000 in
set_option maxRecDepth 100000 in
theorem k_X1 (l : Launch) (dC : Nat → ClassId) (dI : Nat → Nat → Nat) (sz : Nat) (a0 : Nat) (fs0 : List Value) (b0 : Nat) (k_fs0 : fh fs0 10 [(0, .null), (1, .int 0), (2, .long 0), (3, .null), (4, .null), (5, .null), (6, .null), (7, .null), (8, .null), (9, .int 0)])  : Met l yX1_init w_k_X1 ({ frames := 1, cells := 5, slots := 780, locals := 24 }) (va_Pc [.ref a0, .ref b0] (fun U => U.heap.size = sz ∧ Wd dC dI [] (fun _ => True) [(a0, .inr (4, fs0))] U)) (va_Qv (fun (u : List Value × Nat × (Nat → Int64) × ClassId × Nat × (Nat → Int64) × ClassId × Nat × (Nat → Int64) × ClassId) => match u with | (s703, q689, f691, k690, q684, f686, k685, q679, f681, k680) => (ow fs0 (s703) 10 [7, 6, 5, 4, 3, 0] [(5, .ref q689), (4, .ref q684), (3, .ref q679), (0, .ref b0)] ∧ (∀ j, f691 j = 0) ∧ (∀ j, f686 j = 0) ∧ (∀ j, f681 j = 0))) (fun (u : List Value × Nat × (Nat → Int64) × ClassId × Nat × (Nat → Int64) × ClassId × Nat × (Nat → Int64) × ClassId) t => match u with | (s703, q689, f691, k690, q684, f686, k685, q679, f681, k680) => Wd dC dI [(k690, .long), (k685, .long), (k680, .long)] (va_A [(a0, .inr (4, fs0))] sz) [(a0, .inr (4, s703)), (q689, .inl (k690, 9, .inr (.inl f691))), (q684, .inl (k685, 360, .inr (.inl f686))), (q679, .inl (k680, 360, .inr (.inl f681)))] t) (va_A [(a0, .inr (4, fs0))] sz))  5 780 (va_A [(a0, .inr (4, fs0))] sz) := by
  refine Met.ofW (cc := cX1_init) (maxL := 2) (ret := none) (by decide) rfl ?_
  intro p e s m args below meth c s₁ B hml hv
  obtain ⟨rfl, hsz, hP, hK, hD0⟩ := hv
  have hx := B.exec
  have hb := B.bytes
  have hr := B.returns
  have hts := atoms_spec (ws := w_k_X1) B.pre
  have hown : s.vm.findClass RX1 = some m.cls := findClass_of_methodNamed B.named
  have hlocks := B.notSynchronized
  have hin : meth.name = "<init>" := (name_of_methodNamed B.named B.method).1
  subst hsz
  have hD := hD0.self (sz := s.heap.size)
  generalize hAe : va_A [(a0, .inr (4, fs0))] s.heap.size = A at hD ⊢
  have hA : ∀ q : Nat, s.heap.size ≤ q → A q := fun q h => by rw [← hAe]; exact Or.inr h
  have hS : va_S A s.heap s.heap [] := va_S.rf
  have hl := lv_entry ([.ref a0, .ref b0]) (n := 2) (Nat.le_of_ble_eq_true rfl)
  rw [lg_entry_eq]
  generalize (lg_sl ([.ref a0, .ref b0]) ++ List.replicate (2 - (lg_sl ([.ref a0, .ref b0])).length) Slot.unset).toArray = ls at hl ⊢
  have hl : lv_has ls 2 [(0, .ref a0), (1, .ref b0)] := hl
  have o_fs0 := ow_0 k_fs0
  refine lv_aload_n hx hb dX1_init_0 rfl (lv_at hl 0 rfl) ?_
  refine W.objInit hx hb hown (hts (.methodLink RX1 3 objectInit) (by decide +kernel)) (hts (.instanceMethod objectInit) (by decide +kernel)) (hts (.code objectInit ⟨#[0xb1]⟩ 1 none) (by decide +kernel)) rfl (by rw [hml]; exact hl.1) rfl dX1_init_1 (Nat.le_of_ble_eq_true rfl) (Nat.le_of_ble_eq_true rfl) ?_
  refine W.eq (g2 := F0 m 4 ls []) rfl ?_
  refine lv_aload_n hx hb dX1_init_4 rfl (lv_at hl 0 rfl) ?_
  refine lv_aload_n hx hb dX1_init_5 rfl (lv_at hl 1 rfl) ?_
  refine va_putF (D := (dC, dI)) (ci := 4) (v := .ref b0) (ty := .object "HeapWorks$Types") (C := RX1) (T := TX1) (N := 10) hx hb hts (in_k_X1_X1) tyX1 tyX1_ok nmX1 hown hK hP hD hS 0 rfl rfl 0 (by decide) (hts (.fieldLink RX1 9 "HeapWorks$FactBook" "types" "LHeapWorks$Types;") (by decide +kernel)) (fun _ h9 => h9) rfl hin rfl (by decide +kernel) rfl rfl (by rw [o_fs0.2.1]; decide) dX1_init_6 (fun H locs hP hD hS => ?_)
  have hP : va_P (dC, dI) vwCl [(a0, .inr (4, (fs0.set 0 (.ref b0))))] H := hP
  have hD : va_D A [(a0, .inr (4, (fs0.set 0 (.ref b0))))] := hD
  have o_s678 := ow_set o_fs0 0 (.ref b0) (by decide) (l' := [(0, .ref b0), (1, .int 0), (2, .long 0), (3, .null), (4, .null), (5, .null), (6, .null), (7, .null), (8, .null), (9, .int 0)]) (w' := [0]) rfl rfl
  generalize (fs0.set 0 (.ref b0)) = s678 at hP hD o_s678
  refine lv_aload_n hx hb dX1_init_9 rfl (lv_at hl 0 rfl) ?_
  refine lv_sipush (v := 360) hx hb dX1_init_10 (by decide) ?_
  refine va_newa (atype := .long) (ty := .long) (a0 := (360, .inr (.inl (fun _ : Nat => (0 : Int64))))) (N' := 360) hx hb (hts (.arrayClass .long) (by decide +kernel)) rfl hK hP hD hS hA (na_J 360) (by decide) (by decide) (by decide) (Nat.le_of_ble_eq_true rfl) (Nat.le_of_ble_eq_true rfl) dX1_init_13 (fun q679 k680 H hK hP hD hS => ?_)
  have hK : va_K (dC, dI) vwCl [(k680, .long)] s := hK
  have hP : va_P (dC, dI) vwCl [(a0, .inr (4, s678)), (q679, .inl (k680, 360, .inr (.inl ((fun _ : Nat => (0 : Int64))))))] H := hP
  have hD : va_D A [(a0, .inr (4, s678)), (q679, .inl (k680, 360, .inr (.inl ((fun _ : Nat => (0 : Int64))))))] := hD
  have z682 : ∀ j, (fun _ : Nat => (0 : Int64)) j = 0 := fun _ => rfl
  generalize (fun _ : Nat => (0 : Int64)) = f681 at hP hD z682
  refine W.widen (k := 1) (n := 360) (by omega) (by omega) ?_
  refine va_putF (D := (dC, dI)) (ci := 4) (v := .ref q679) (ty := .array .long) (C := RX1) (T := TX1) (N := 10) hx hb hts (in_k_X1_X1) tyX1 tyX1_ok nmX1 hown hK hP hD hS 0 rfl rfl 3 (by decide) (hts (.fieldLink RX1 15 "HeapWorks$FactBook" "row" "[J") (by decide +kernel)) (fun _ h9 => h9) rfl hin rfl (by decide +kernel) rfl rfl (by rw [o_s678.2.1]; decide) dX1_init_15 (fun H locs hP hD hS => ?_)
  have hP : va_P (dC, dI) vwCl [(a0, .inr (4, (s678.set 3 (.ref q679)))), (q679, .inl (k680, 360, .inr (.inl f681)))] H := hP
  have hD : va_D A [(a0, .inr (4, (s678.set 3 (.ref q679)))), (q679, .inl (k680, 360, .inr (.inl f681)))] := hD
  have o_s683 := ow_set o_s678 3 (.ref q679) (by decide) (l' := [(3, .ref q679), (0, .ref b0), (1, .int 0), (2, .long 0), (4, .null), (5, .null), (6, .null), (7, .null), (8, .null), (9, .int 0)]) (w' := [3, 0]) rfl rfl
  generalize (s678.set 3 (.ref q679)) = s683 at hP hD o_s683
  refine lv_aload_n hx hb dX1_init_18 rfl (lv_at hl 0 rfl) ?_
  refine lv_sipush (v := 360) hx hb dX1_init_19 (by decide) ?_
  refine va_newa (atype := .long) (ty := .long) (a0 := (360, .inr (.inl (fun _ : Nat => (0 : Int64))))) (N' := 360) hx hb (hts (.arrayClass .long) (by decide +kernel)) rfl hK hP hD hS hA (na_J 360) (by decide) (by decide) (by decide) (Nat.le_of_ble_eq_true rfl) (Nat.le_of_ble_eq_true rfl) dX1_init_22 (fun q684 k685 H hK hP hD hS => ?_)
  have hK : va_K (dC, dI) vwCl [(k680, .long), (k685, .long)] s := hK
  have hP : va_P (dC, dI) vwCl [(a0, .inr (4, s683)), (q679, .inl (k680, 360, .inr (.inl f681))), (q684, .inl (k685, 360, .inr (.inl ((fun _ : Nat => (0 : Int64))))))] H := hP
  have hD : va_D A [(a0, .inr (4, s683)), (q679, .inl (k680, 360, .inr (.inl f681))), (q684, .inl (k685, 360, .inr (.inl ((fun _ : Nat => (0 : Int64))))))] := hD
  have z687 : ∀ j, (fun _ : Nat => (0 : Int64)) j = 0 := fun _ => rfl
  generalize (fun _ : Nat => (0 : Int64)) = f686 at hP hD z687
  refine W.widen (k := 2) (n := 720) (by omega) (by omega) ?_
  refine va_putF (D := (dC, dI)) (ci := 4) (v := .ref q684) (ty := .array .long) (C := RX1) (T := TX1) (N := 10) hx hb hts (in_k_X1_X1) tyX1 tyX1_ok nmX1 hown hK hP hD hS 0 rfl rfl 4 (by decide) (hts (.fieldLink RX1 19 "HeapWorks$FactBook" "column" "[J") (by decide +kernel)) (fun _ h9 => h9) rfl hin rfl (by decide +kernel) rfl rfl (by rw [o_s683.2.1]; decide) dX1_init_24 (fun H locs hP hD hS => ?_)
  have hP : va_P (dC, dI) vwCl [(a0, .inr (4, (s683.set 4 (.ref q684)))), (q679, .inl (k680, 360, .inr (.inl f681))), (q684, .inl (k685, 360, .inr (.inl f686)))] H := hP
  have hD : va_D A [(a0, .inr (4, (s683.set 4 (.ref q684)))), (q679, .inl (k680, 360, .inr (.inl f681))), (q684, .inl (k685, 360, .inr (.inl f686)))] := hD
  have o_s688 := ow_set o_s683 4 (.ref q684) (by decide) (l' := [(4, .ref q684), (3, .ref q679), (0, .ref b0), (1, .int 0), (2, .long 0), (5, .null), (6, .null), (7, .null), (8, .null), (9, .int 0)]) (w' := [4, 3, 0]) rfl rfl
  generalize (s683.set 4 (.ref q684)) = s688 at hP hD o_s688
  refine lv_aload_n hx hb dX1_init_27 rfl (lv_at hl 0 rfl) ?_
  refine lv_bipush (v := 9) hx hb dX1_init_28 (by decide) ?_
  refine va_newa (atype := .long) (ty := .long) (a0 := (9, .inr (.inl (fun _ : Nat => (0 : Int64))))) (N' := 9) hx hb (hts (.arrayClass .long) (by decide +kernel)) rfl hK hP hD hS hA (na_J 9) (by decide) (by decide) (by decide) (Nat.le_of_ble_eq_true rfl) (Nat.le_of_ble_eq_true rfl) dX1_init_30 (fun q689 k690 H hK hP hD hS => ?_)
  have hK : va_K (dC, dI) vwCl [(k680, .long), (k685, .long), (k690, .long)] s := hK
  have hP : va_P (dC, dI) vwCl [(a0, .inr (4, s688)), (q679, .inl (k680, 360, .inr (.inl f681))), (q684, .inl (k685, 360, .inr (.inl f686))), (q689, .inl (k690, 9, .inr (.inl ((fun _ : Nat => (0 : Int64))))))] H := hP
  have hD : va_D A [(a0, .inr (4, s688)), (q679, .inl (k680, 360, .inr (.inl f681))), (q684, .inl (k685, 360, .inr (.inl f686))), (q689, .inl (k690, 9, .inr (.inl ((fun _ : Nat => (0 : Int64))))))] := hD
  have z692 : ∀ j, (fun _ : Nat => (0 : Int64)) j = 0 := fun _ => rfl
  generalize (fun _ : Nat => (0 : Int64)) = f691 at hP hD z692
  refine W.widen (k := 3) (n := 729) (by omega) (by omega) ?_
  refine va_putF (D := (dC, dI)) (ci := 4) (v := .ref q689) (ty := .array .long) (C := RX1) (T := TX1) (N := 10) hx hb hts (in_k_X1_X1) tyX1 tyX1_ok nmX1 hown hK hP hD hS 0 rfl rfl 5 (by decide) (hts (.fieldLink RX1 22 "HeapWorks$FactBook" "diagonal" "[J") (by decide +kernel)) (fun _ h9 => h9) rfl hin rfl (by decide +kernel) rfl rfl (by rw [o_s688.2.1]; decide) dX1_init_32 (fun H locs hP hD hS => ?_)
  have hP : va_P (dC, dI) vwCl [(a0, .inr (4, (s688.set 5 (.ref q689)))), (q679, .inl (k680, 360, .inr (.inl f681))), (q684, .inl (k685, 360, .inr (.inl f686))), (q689, .inl (k690, 9, .inr (.inl f691)))] H := hP
  have hD : va_D A [(a0, .inr (4, (s688.set 5 (.ref q689)))), (q679, .inl (k680, 360, .inr (.inl f681))), (q684, .inl (k685, 360, .inr (.inl f686))), (q689, .inl (k690, 9, .inr (.inl f691)))] := hD
  have o_s693 := ow_set o_s688 5 (.ref q689) (by decide) (l' := [(5, .ref q689), (4, .ref q684), (3, .ref q679), (0, .ref b0), (1, .int 0), (2, .long 0), (6, .null), (7, .null), (8, .null), (9, .int 0)]) (w' := [5, 4, 3, 0]) rfl rfl
  generalize (s688.set 5 (.ref q689)) = s693 at hP hD o_s693
  refine lv_aload_n hx hb dX1_init_35 rfl (lv_at hl 0 rfl) ?_
  refine lv_bipush (v := 48) hx hb dX1_init_36 (by decide) ?_
  refine va_newa (atype := .long) (ty := .long) (a0 := (48, .inr (.inl (fun _ : Nat => (0 : Int64))))) (N' := 48) hx hb (hts (.arrayClass .long) (by decide +kernel)) rfl hK hP hD hS hA (na_J 48) (by decide) (by decide) (by decide) (Nat.le_of_ble_eq_true rfl) (Nat.le_of_ble_eq_true rfl) dX1_init_38 (fun q694 k695 H hK hP hD hS => ?_)
  have hK : va_K (dC, dI) vwCl [(k680, .long), (k685, .long), (k690, .long), (k695, .long)] s := hK
  have hP : va_P (dC, dI) vwCl [(a0, .inr (4, s693)), (q679, .inl (k680, 360, .inr (.inl f681))), (q684, .inl (k685, 360, .inr (.inl f686))), (q689, .inl (k690, 9, .inr (.inl f691))), (q694, .inl (k695, 48, .inr (.inl ((fun _ : Nat => (0 : Int64))))))] H := hP
  have hD : va_D A [(a0, .inr (4, s693)), (q679, .inl (k680, 360, .inr (.inl f681))), (q684, .inl (k685, 360, .inr (.inl f686))), (q689, .inl (k690, 9, .inr (.inl f691))), (q694, .inl (k695, 48, .inr (.inl ((fun _ : Nat => (0 : Int64))))))] := hD
  have z697 : ∀ j, (fun _ : Nat => (0 : Int64)) j = 0 := fun _ => rfl
  generalize (fun _ : Nat => (0 : Int64)) = f696 at hP hD z697
  refine W.widen (k := 4) (n := 777) (by omega) (by omega) ?_
  refine va_putF (D := (dC, dI)) (ci := 4) (v := .ref q694) (ty := .array .long) (C := RX1) (T := TX1) (N := 10) hx hb hts (in_k_X1_X1) tyX1 tyX1_ok nmX1 hown hK hP hD hS 0 rfl rfl 6 (by decide) (hts (.fieldLink RX1 27 "HeapWorks$FactBook" "classBits" "[J") (by decide +kernel)) (fun _ h9 => h9) rfl hin rfl (by decide +kernel) rfl rfl (by rw [o_s693.2.1]; decide) dX1_init_40 (fun H locs hP hD hS => ?_)
  have hP : va_P (dC, dI) vwCl [(a0, .inr (4, (s693.set 6 (.ref q694)))), (q679, .inl (k680, 360, .inr (.inl f681))), (q684, .inl (k685, 360, .inr (.inl f686))), (q689, .inl (k690, 9, .inr (.inl f691))), (q694, .inl (k695, 48, .inr (.inl f696)))] H := hP
  have hD : va_D A [(a0, .inr (4, (s693.set 6 (.ref q694)))), (q679, .inl (k680, 360, .inr (.inl f681))), (q684, .inl (k685, 360, .inr (.inl f686))), (q689, .inl (k690, 9, .inr (.inl f691))), (q694, .inl (k695, 48, .inr (.inl f696)))] := hD
  have o_s698 := ow_set o_s693 6 (.ref q694) (by decide) (l' := [(6, .ref q694), (5, .ref q689), (4, .ref q684), (3, .ref q679), (0, .ref b0), (1, .int 0), (2, .long 0), (7, .null), (8, .null), (9, .int 0)]) (w' := [6, 5, 4, 3, 0]) rfl rfl
  generalize (s693.set 6 (.ref q694)) = s698 at hP hD o_s698
  have hP := hP.sub (ws' := [(a0, .inr (4, s698)), (q679, .inl (k680, 360, .inr (.inl f681))), (q684, .inl (k685, 360, .inr (.inl f686))), (q689, .inl (k690, 9, .inr (.inl f691)))]) [0, 1, 2, 3] rfl
  have hD := hD.sub (ws' := [(a0, .inr (4, s698)), (q679, .inl (k680, 360, .inr (.inl f681))), (q684, .inl (k685, 360, .inr (.inl f686))), (q689, .inl (k690, 9, .inr (.inl f691)))]) [0, 1, 2, 3] (by decide) rfl
  have hK := hK.sub (tys' := [(k680, .long), (k685, .long), (k690, .long)]) [0, 1, 2] rfl
  refine lv_aload_n hx hb dX1_init_43 rfl (lv_at hl 0 rfl) ?_
  refine lv_iconst (v := 3) hx hb dX1_init_44 (by decide) ?_
  refine va_newa (atype := .int) (ty := .int) (a0 := (3, .inl (fun _ : Nat => (0 : Int32)))) (N' := 3) hx hb (hts (.arrayClass .int) (by decide +kernel)) rfl hK hP hD hS hA (na_I 3) (by decide) (by decide) (by decide) (Nat.le_of_ble_eq_true rfl) (Nat.le_of_ble_eq_true rfl) dX1_init_45 (fun q699 k700 H hK hP hD hS => ?_)
  have hK : va_K (dC, dI) vwCl [(k680, .long), (k685, .long), (k690, .long), (k700, .int)] s := hK
  have hP : va_P (dC, dI) vwCl [(a0, .inr (4, s698)), (q679, .inl (k680, 360, .inr (.inl f681))), (q684, .inl (k685, 360, .inr (.inl f686))), (q689, .inl (k690, 9, .inr (.inl f691))), (q699, .inl (k700, 3, .inl ((fun _ : Nat => (0 : Int32)))))] H := hP
  have hD : va_D A [(a0, .inr (4, s698)), (q679, .inl (k680, 360, .inr (.inl f681))), (q684, .inl (k685, 360, .inr (.inl f686))), (q689, .inl (k690, 9, .inr (.inl f691))), (q699, .inl (k700, 3, .inl ((fun _ : Nat => (0 : Int32)))))] := hD
  have z702 : ∀ j, (fun _ : Nat => (0 : Int32)) j = 0 := fun _ => rfl
  generalize (fun _ : Nat => (0 : Int32)) = f701 at hP hD z702
  refine W.widen (k := 5) (n := 780) (by omega) (by omega) ?_
  refine va_putF (D := (dC, dI)) (ci := 4) (v := .ref q699) (ty := .array .int) (C := RX1) (T := TX1) (N := 10) hx hb hts (in_k_X1_X1) tyX1 tyX1_ok nmX1 hown hK hP hD hS 0 rfl rfl 7 (by decide) (hts (.fieldLink RX1 30 "HeapWorks$FactBook" "chosen" "[I") (by decide +kernel)) (fun _ h9 => h9) rfl hin rfl (by decide +kernel) rfl rfl (by rw [o_s698.2.1]; decide) dX1_init_47 (fun H locs hP hD hS => ?_)
  have hP : va_P (dC, dI) vwCl [(a0, .inr (4, (s698.set 7 (.ref q699)))), (q679, .inl (k680, 360, .inr (.inl f681))), (q684, .inl (k685, 360, .inr (.inl f686))), (q689, .inl (k690, 9, .inr (.inl f691))), (q699, .inl (k700, 3, .inl f701))] H := hP
  have hD : va_D A [(a0, .inr (4, (s698.set 7 (.ref q699)))), (q679, .inl (k680, 360, .inr (.inl f681))), (q684, .inl (k685, 360, .inr (.inl f686))), (q689, .inl (k690, 9, .inr (.inl f691))), (q699, .inl (k700, 3, .inl f701))] := hD
  have o_s703 := ow_set o_s698 7 (.ref q699) (by decide) (l' := [(7, .ref q699), (6, .ref q694), (5, .ref q689), (4, .ref q684), (3, .ref q679), (0, .ref b0), (1, .int 0), (2, .long 0), (8, .null), (9, .int 0)]) (w' := [7, 6, 5, 4, 3, 0]) rfl rfl
  generalize (s698.set 7 (.ref q699)) = s703 at hP hD o_s703
  have hP := hP.sub (ws' := [(a0, .inr (4, s703)), (q679, .inl (k680, 360, .inr (.inl f681))), (q684, .inl (k685, 360, .inr (.inl f686))), (q689, .inl (k690, 9, .inr (.inl f691)))]) [0, 1, 2, 3] rfl
  have hD := hD.sub (ws' := [(a0, .inr (4, s703)), (q679, .inl (k680, 360, .inr (.inl f681))), (q684, .inl (k685, 360, .inr (.inl f686))), (q689, .inl (k690, 9, .inr (.inl f691)))]) [0, 1, 2, 3] (by decide) rfl
  have hK := hK.sub (tys' := [(k680, .long), (k685, .long), (k690, .long)]) [0, 1, 2] rfl
  have hP9 := hP.sub (ws' := [(a0, .inr (4, s703)), (q689, .inl (k690, 9, .inr (.inl f691))), (q684, .inl (k685, 360, .inr (.inl f686))), (q679, .inl (k680, 360, .inr (.inl f681)))]) [0, 3, 2, 1] rfl
  have hD9 := hD.sub (ws' := [(a0, .inr (4, s703)), (q689, .inl (k690, 9, .inr (.inl f691))), (q684, .inl (k685, 360, .inr (.inl f686))), (q679, .inl (k680, 360, .inr (.inl f681)))]) [0, 3, 2, 1] (by decide) rfl
  have hK9 := hK.sub (tys' := [(k690, .long), (k685, .long), (k680, .long)]) [2, 1, 0] rfl
  refine W.widen (k := 5) (n := 780) (by decide) (by decide) ?_
  exact W.vret hx hb hr (fun t ht hW => ⟨⟨(s703, q689, f691, k690, q684, f686, k685, q679, f681, k680), rfl, ⟨(ow_sub o_s703 [2, 3, 4, 5] rfl), z692, z687, z682⟩, by rw [ht]; exact hP9, va_K.moved hW.alike hK9, hD9⟩, hS.F ht⟩) hS.2.2 dX1_init_50

def l_k_X0 : List Cond := [.methodLink RX0 5 objectInit, .instanceMethod objectInit, .code objectInit ⟨#[0xb1]⟩ 1 none, .fieldLink RX0 11 "HeapWorks$Archive" "types" "LHeapWorks$Types;", .arrayClass .int, .fieldLink RX0 19 "HeapWorks$Archive" "buffer" "[I", .fieldLink RX0 23 "HeapWorks$Archive" "log" "[I", .fieldLink RX0 26 "HeapWorks$Archive" "source" "[I", .fieldLink RX0 29 "HeapWorks$Archive" "objectPlace" "[I", .fieldLink RX0 32 "HeapWorks$Archive" "slotPlace" "[I"]
def w_k_X0 : List Cond := .code yX0_init cX0_init 2 none :: (l_k_X0 ++ (wsX00))
theorem in_k_X0_X0 : ∀ w ∈ wsX00, w ∈ w_k_X0 := fun w h => List.mem_cons_of_mem _ (List.mem_append_right _ (h))
set_option maxHeartbeats 4000000 in
set_option maxRecDepth 100000 in
theorem k_X0 (l : Launch) (dC : Nat → ClassId) (dI : Nat → Nat → Nat) (sz : Nat) (a0 : Nat) (fs0 : List Value) (b0 : Nat) (k_fs0 : fh fs0 15 [(0, .null), (1, .null), (2, .int 0), (3, .null), (4, .int 0), (5, .int 0), (6, .null), (7, .int 0), (8, .int 0), (9, .int 0), (10, .int 0), (11, .null), (12, .null), (13, .int 0), (14, .int 0)])  : Met l yX0_init w_k_X0 ({ frames := 1, cells := 4, slots := 16400, locals := 24 }) (va_Pc [.ref a0, .ref b0] (fun U => U.heap.size = sz ∧ Wd dC dI [] (fun _ => True) [(a0, .inr (3, fs0))] U)) (va_Qv (fun (u : List Value × Nat × (Nat → Int32) × ClassId) => match u with | (s725, q710, f712, k711) => (ow fs0 (s725) 15 [12, 11, 6, 3, 1, 0] [(3, .ref q710), (0, .ref b0), (4, .int 0), (5, .int 0)] ∧ (∀ j, f712 j = 0))) (fun (u : List Value × Nat × (Nat → Int32) × ClassId) t => match u with | (s725, q710, f712, k711) => Wd dC dI [(k711, .int)] (va_A [(a0, .inr (3, fs0))] sz) [(a0, .inr (3, s725)), (q710, .inl (k711, 8000, .inl f712))] t) (va_A [(a0, .inr (3, fs0))] sz))  4 16400 (va_A [(a0, .inr (3, fs0))] sz) := by
  refine Met.ofW (cc := cX0_init) (maxL := 2) (ret := none) (by decide) rfl ?_
  intro p e s m args below meth c s₁ B hml hv
  obtain ⟨rfl, hsz, hP, hK, hD0⟩ := hv
  have hx := B.exec
  have hb := B.bytes
  have hr := B.returns
  have hts := atoms_spec (ws := w_k_X0) B.pre
  have hown : s.vm.findClass RX0 = some m.cls := findClass_of_methodNamed B.named
  have hlocks := B.notSynchronized
  have hin : meth.name = "<init>" := (name_of_methodNamed B.named B.method).1
  subst hsz
  have hD := hD0.self (sz := s.heap.size)
  generalize hAe : va_A [(a0, .inr (3, fs0))] s.heap.size = A at hD ⊢
  have hA : ∀ q : Nat, s.heap.size ≤ q → A q := fun q h => by rw [← hAe]; exact Or.inr h
  have hS : va_S A s.heap s.heap [] := va_S.rf
  have hl := lv_entry ([.ref a0, .ref b0]) (n := 2) (Nat.le_of_ble_eq_true rfl)
  rw [lg_entry_eq]
  generalize (lg_sl ([.ref a0, .ref b0]) ++ List.replicate (2 - (lg_sl ([.ref a0, .ref b0])).length) Slot.unset).toArray = ls at hl ⊢
  have hl : lv_has ls 2 [(0, .ref a0), (1, .ref b0)] := hl
  have o_fs0 := ow_0 k_fs0
  refine lv_aload_n hx hb dX0_init_0 rfl (lv_at hl 0 rfl) ?_
  refine W.objInit hx hb hown (hts (.methodLink RX0 5 objectInit) (by decide +kernel)) (hts (.instanceMethod objectInit) (by decide +kernel)) (hts (.code objectInit ⟨#[0xb1]⟩ 1 none) (by decide +kernel)) rfl (by rw [hml]; exact hl.1) rfl dX0_init_1 (Nat.le_of_ble_eq_true rfl) (Nat.le_of_ble_eq_true rfl) ?_
  refine W.eq (g2 := F0 m 4 ls []) rfl ?_
  refine lv_aload_n hx hb dX0_init_4 rfl (lv_at hl 0 rfl) ?_
  refine lv_aload_n hx hb dX0_init_5 rfl (lv_at hl 1 rfl) ?_
  refine va_putF (D := (dC, dI)) (ci := 3) (v := .ref b0) (ty := .object "HeapWorks$Types") (C := RX0) (T := TX0) (N := 15) hx hb hts (in_k_X0_X0) tyX0 tyX0_ok nmX0 hown hK hP hD hS 0 rfl rfl 0 (by decide) (hts (.fieldLink RX0 11 "HeapWorks$Archive" "types" "LHeapWorks$Types;") (by decide +kernel)) (fun _ h9 => h9) rfl hin rfl (by decide +kernel) rfl rfl (by rw [o_fs0.2.1]; decide) dX0_init_6 (fun H locs hP hD hS => ?_)
  have hP : va_P (dC, dI) vwCl [(a0, .inr (3, (fs0.set 0 (.ref b0))))] H := hP
  have hD : va_D A [(a0, .inr (3, (fs0.set 0 (.ref b0))))] := hD
  have o_s704 := ow_set o_fs0 0 (.ref b0) (by decide) (l' := [(0, .ref b0), (1, .null), (2, .int 0), (3, .null), (4, .int 0), (5, .int 0), (6, .null), (7, .int 0), (8, .int 0), (9, .int 0), (10, .int 0), (11, .null), (12, .null), (13, .int 0), (14, .int 0)]) (w' := [0]) rfl rfl
  generalize (fs0.set 0 (.ref b0)) = s704 at hP hD o_s704
  refine lv_aload_n hx hb dX0_init_9 rfl (lv_at hl 0 rfl) ?_
  refine lv_sipush (v := 4000) hx hb dX0_init_10 (by decide) ?_
  refine va_newa (atype := .int) (ty := .int) (a0 := (4000, .inl (fun _ : Nat => (0 : Int32)))) (N' := 4000) hx hb (hts (.arrayClass .int) (by decide +kernel)) rfl hK hP hD hS hA (na_I 4000) (by decide) (by decide) (by decide) (Nat.le_of_ble_eq_true rfl) (Nat.le_of_ble_eq_true rfl) dX0_init_13 (fun q705 k706 H hK hP hD hS => ?_)
  have hK : va_K (dC, dI) vwCl [(k706, .int)] s := hK
  have hP : va_P (dC, dI) vwCl [(a0, .inr (3, s704)), (q705, .inl (k706, 4000, .inl ((fun _ : Nat => (0 : Int32)))))] H := hP
  have hD : va_D A [(a0, .inr (3, s704)), (q705, .inl (k706, 4000, .inl ((fun _ : Nat => (0 : Int32)))))] := hD
  have z708 : ∀ j, (fun _ : Nat => (0 : Int32)) j = 0 := fun _ => rfl
  generalize (fun _ : Nat => (0 : Int32)) = f707 at hP hD z708
  refine W.widen (k := 1) (n := 4000) (by omega) (by omega) ?_
  refine va_putF (D := (dC, dI)) (ci := 3) (v := .ref q705) (ty := .array .int) (C := RX0) (T := TX0) (N := 15) hx hb hts (in_k_X0_X0) tyX0 tyX0_ok nmX0 hown hK hP hD hS 0 rfl rfl 1 (by decide) (hts (.fieldLink RX0 19 "HeapWorks$Archive" "buffer" "[I") (by decide +kernel)) (fun _ h9 => h9) rfl hin rfl (by decide +kernel) rfl rfl (by rw [o_s704.2.1]; decide) dX0_init_15 (fun H locs hP hD hS => ?_)
  have hP : va_P (dC, dI) vwCl [(a0, .inr (3, (s704.set 1 (.ref q705)))), (q705, .inl (k706, 4000, .inl f707))] H := hP
  have hD : va_D A [(a0, .inr (3, (s704.set 1 (.ref q705)))), (q705, .inl (k706, 4000, .inl f707))] := hD
  have o_s709 := ow_set o_s704 1 (.ref q705) (by decide) (l' := [(1, .ref q705), (0, .ref b0), (2, .int 0), (3, .null), (4, .int 0), (5, .int 0), (6, .null), (7, .int 0), (8, .int 0), (9, .int 0), (10, .int 0), (11, .null), (12, .null), (13, .int 0), (14, .int 0)]) (w' := [1, 0]) rfl rfl
  generalize (s704.set 1 (.ref q705)) = s709 at hP hD o_s709
  refine lv_aload_n hx hb dX0_init_18 rfl (lv_at hl 0 rfl) ?_
  refine lv_sipush (v := 8000) hx hb dX0_init_19 (by decide) ?_
  refine va_newa (atype := .int) (ty := .int) (a0 := (8000, .inl (fun _ : Nat => (0 : Int32)))) (N' := 8000) hx hb (hts (.arrayClass .int) (by decide +kernel)) rfl hK hP hD hS hA (na_I 8000) (by decide) (by decide) (by decide) (Nat.le_of_ble_eq_true rfl) (Nat.le_of_ble_eq_true rfl) dX0_init_22 (fun q710 k711 H hK hP hD hS => ?_)
  have hK : va_K (dC, dI) vwCl [(k706, .int), (k711, .int)] s := hK
  have hP : va_P (dC, dI) vwCl [(a0, .inr (3, s709)), (q705, .inl (k706, 4000, .inl f707)), (q710, .inl (k711, 8000, .inl ((fun _ : Nat => (0 : Int32)))))] H := hP
  have hD : va_D A [(a0, .inr (3, s709)), (q705, .inl (k706, 4000, .inl f707)), (q710, .inl (k711, 8000, .inl ((fun _ : Nat => (0 : Int32)))))] := hD
  have z713 : ∀ j, (fun _ : Nat => (0 : Int32)) j = 0 := fun _ => rfl
  generalize (fun _ : Nat => (0 : Int32)) = f712 at hP hD z713
  refine W.widen (k := 2) (n := 12000) (by omega) (by omega) ?_
  refine va_putF (D := (dC, dI)) (ci := 3) (v := .ref q710) (ty := .array .int) (C := RX0) (T := TX0) (N := 15) hx hb hts (in_k_X0_X0) tyX0 tyX0_ok nmX0 hown hK hP hD hS 0 rfl rfl 3 (by decide) (hts (.fieldLink RX0 23 "HeapWorks$Archive" "log" "[I") (by decide +kernel)) (fun _ h9 => h9) rfl hin rfl (by decide +kernel) rfl rfl (by rw [o_s709.2.1]; decide) dX0_init_24 (fun H locs hP hD hS => ?_)
  have hP : va_P (dC, dI) vwCl [(a0, .inr (3, (s709.set 3 (.ref q710)))), (q705, .inl (k706, 4000, .inl f707)), (q710, .inl (k711, 8000, .inl f712))] H := hP
  have hD : va_D A [(a0, .inr (3, (s709.set 3 (.ref q710)))), (q705, .inl (k706, 4000, .inl f707)), (q710, .inl (k711, 8000, .inl f712))] := hD
  have o_s714 := ow_set o_s709 3 (.ref q710) (by decide) (l' := [(3, .ref q710), (1, .ref q705), (0, .ref b0), (2, .int 0), (4, .int 0), (5, .int 0), (6, .null), (7, .int 0), (8, .int 0), (9, .int 0), (10, .int 0), (11, .null), (12, .null), (13, .int 0), (14, .int 0)]) (w' := [3, 1, 0]) rfl rfl
  generalize (s709.set 3 (.ref q710)) = s714 at hP hD o_s714
  refine lv_aload_n hx hb dX0_init_27 rfl (lv_at hl 0 rfl) ?_
  refine lv_aload_n hx hb dX0_init_28 rfl (lv_at hl 0 rfl) ?_
  refine va_get (D := (dC, dI)) (ci := 3) (v := .ref q705) (C := RX0) (T := TX0) (N := 15) hx hb hts (in_k_X0_X0) hown hK hP 0 rfl rfl 1 (by decide) (hts (.fieldLink RX0 19 "HeapWorks$Archive" "buffer" "[I") (by decide +kernel)) (fun _ h9 => h9) (ow_at o_s714 1 rfl) dX0_init_29 ?_
  refine va_put (D := (dC, dI)) (ci := 3) (v := .ref q705) (ty := .array .int) (C := RX0) (T := TX0) (N := 15) hx hb hts (in_k_X0_X0) tyX0 tyX0_ok nmX0 hown hK hP hD hS 0 rfl rfl 6 (by decide) (hts (.fieldLink RX0 26 "HeapWorks$Archive" "source" "[I") (by decide +kernel)) (fun _ h9 => h9) rfl (by decide +kernel) rfl rfl (by rw [o_s714.2.1]; decide) dX0_init_32 (fun H locs hP hD hS => ?_)
  have hP : va_P (dC, dI) vwCl [(a0, .inr (3, (s714.set 6 (.ref q705)))), (q705, .inl (k706, 4000, .inl f707)), (q710, .inl (k711, 8000, .inl f712))] H := hP
  have hD : va_D A [(a0, .inr (3, (s714.set 6 (.ref q705)))), (q705, .inl (k706, 4000, .inl f707)), (q710, .inl (k711, 8000, .inl f712))] := hD
  have o_s715 := ow_set o_s714 6 (.ref q705) (by decide) (l' := [(6, .ref q705), (3, .ref q710), (1, .ref q705), (0, .ref b0), (2, .int 0), (4, .int 0), (5, .int 0), (7, .int 0), (8, .int 0), (9, .int 0), (10, .int 0), (11, .null), (12, .null), (13, .int 0), (14, .int 0)]) (w' := [6, 3, 1, 0]) rfl rfl
  generalize (s714.set 6 (.ref q705)) = s715 at hP hD o_s715
  have hP := hP.sub (ws' := [(a0, .inr (3, s715)), (q710, .inl (k711, 8000, .inl f712))]) [0, 2] rfl
  have hD := hD.sub (ws' := [(a0, .inr (3, s715)), (q710, .inl (k711, 8000, .inl f712))]) [0, 2] (by decide) rfl
  have hK := hK.sub (tys' := [(k711, .int)]) [1] rfl
  refine lv_aload_n hx hb dX0_init_35 rfl (lv_at hl 0 rfl) ?_
  refine lv_sipush (v := 400) hx hb dX0_init_36 (by decide) ?_
  refine va_newa (atype := .int) (ty := .int) (a0 := (400, .inl (fun _ : Nat => (0 : Int32)))) (N' := 400) hx hb (hts (.arrayClass .int) (by decide +kernel)) rfl hK hP hD hS hA (na_I 400) (by decide) (by decide) (by decide) (Nat.le_of_ble_eq_true rfl) (Nat.le_of_ble_eq_true rfl) dX0_init_39 (fun q716 k717 H hK hP hD hS => ?_)
  have hK : va_K (dC, dI) vwCl [(k711, .int), (k717, .int)] s := hK
  have hP : va_P (dC, dI) vwCl [(a0, .inr (3, s715)), (q710, .inl (k711, 8000, .inl f712)), (q716, .inl (k717, 400, .inl ((fun _ : Nat => (0 : Int32)))))] H := hP
  have hD : va_D A [(a0, .inr (3, s715)), (q710, .inl (k711, 8000, .inl f712)), (q716, .inl (k717, 400, .inl ((fun _ : Nat => (0 : Int32)))))] := hD
  have z719 : ∀ j, (fun _ : Nat => (0 : Int32)) j = 0 := fun _ => rfl
  generalize (fun _ : Nat => (0 : Int32)) = f718 at hP hD z719
  refine W.widen (k := 3) (n := 12400) (by omega) (by omega) ?_
  refine va_putF (D := (dC, dI)) (ci := 3) (v := .ref q716) (ty := .array .int) (C := RX0) (T := TX0) (N := 15) hx hb hts (in_k_X0_X0) tyX0 tyX0_ok nmX0 hown hK hP hD hS 0 rfl rfl 11 (by decide) (hts (.fieldLink RX0 29 "HeapWorks$Archive" "objectPlace" "[I") (by decide +kernel)) (fun _ h9 => h9) rfl hin rfl (by decide +kernel) rfl rfl (by rw [o_s715.2.1]; decide) dX0_init_41 (fun H locs hP hD hS => ?_)
  have hP : va_P (dC, dI) vwCl [(a0, .inr (3, (s715.set 11 (.ref q716)))), (q710, .inl (k711, 8000, .inl f712)), (q716, .inl (k717, 400, .inl f718))] H := hP
  have hD : va_D A [(a0, .inr (3, (s715.set 11 (.ref q716)))), (q710, .inl (k711, 8000, .inl f712)), (q716, .inl (k717, 400, .inl f718))] := hD
  have o_s720 := ow_set o_s715 11 (.ref q716) (by decide) (l' := [(11, .ref q716), (6, .ref q705), (3, .ref q710), (1, .ref q705), (0, .ref b0), (2, .int 0), (4, .int 0), (5, .int 0), (7, .int 0), (8, .int 0), (9, .int 0), (10, .int 0), (12, .null), (13, .int 0), (14, .int 0)]) (w' := [11, 6, 3, 1, 0]) rfl rfl
  generalize (s715.set 11 (.ref q716)) = s720 at hP hD o_s720
  have hP := hP.sub (ws' := [(a0, .inr (3, s720)), (q710, .inl (k711, 8000, .inl f712))]) [0, 1] rfl
  have hD := hD.sub (ws' := [(a0, .inr (3, s720)), (q710, .inl (k711, 8000, .inl f712))]) [0, 1] (by decide) rfl
  have hK := hK.sub (tys' := [(k711, .int)]) [0] rfl
  refine lv_aload_n hx hb dX0_init_44 rfl (lv_at hl 0 rfl) ?_
  refine lv_sipush (v := 4000) hx hb dX0_init_45 (by decide) ?_
  refine va_newa (atype := .int) (ty := .int) (a0 := (4000, .inl (fun _ : Nat => (0 : Int32)))) (N' := 4000) hx hb (hts (.arrayClass .int) (by decide +kernel)) rfl hK hP hD hS hA (na_I 4000) (by decide) (by decide) (by decide) (Nat.le_of_ble_eq_true rfl) (Nat.le_of_ble_eq_true rfl) dX0_init_48 (fun q721 k722 H hK hP hD hS => ?_)
  have hK : va_K (dC, dI) vwCl [(k711, .int), (k722, .int)] s := hK
  have hP : va_P (dC, dI) vwCl [(a0, .inr (3, s720)), (q710, .inl (k711, 8000, .inl f712)), (q721, .inl (k722, 4000, .inl ((fun _ : Nat => (0 : Int32)))))] H := hP
  have hD : va_D A [(a0, .inr (3, s720)), (q710, .inl (k711, 8000, .inl f712)), (q721, .inl (k722, 4000, .inl ((fun _ : Nat => (0 : Int32)))))] := hD
  have z724 : ∀ j, (fun _ : Nat => (0 : Int32)) j = 0 := fun _ => rfl
  generalize (fun _ : Nat => (0 : Int32)) = f723 at hP hD z724
  refine W.widen (k := 4) (n := 16400) (by omega) (by omega) ?_
  refine va_putF (D := (dC, dI)) (ci := 3) (v := .ref q721) (ty := .array .int) (C := RX0) (T := TX0) (N := 15) hx hb hts (in_k_X0_X0) tyX0 tyX0_ok nmX0 hown hK hP hD hS 0 rfl rfl 12 (by decide) (hts (.fieldLink RX0 32 "HeapWorks$Archive" "slotPlace" "[I") (by decide +kernel)) (fun _ h9 => h9) rfl hin rfl (by decide +kernel) rfl rfl (by rw [o_s720.2.1]; decide) dX0_init_50 (fun H locs hP hD hS => ?_)
  have hP : va_P (dC, dI) vwCl [(a0, .inr (3, (s720.set 12 (.ref q721)))), (q710, .inl (k711, 8000, .inl f712)), (q721, .inl (k722, 4000, .inl f723))] H := hP
  have hD : va_D A [(a0, .inr (3, (s720.set 12 (.ref q721)))), (q710, .inl (k711, 8000, .inl f712)), (q721, .inl (k722, 4000, .inl f723))] := hD
  have o_s725 := ow_set o_s720 12 (.ref q721) (by decide) (l' := [(12, .ref q721), (11, .ref q716), (6, .ref q705), (3, .ref q710), (1, .ref q705), (0, .ref b0), (2, .int 0), (4, .int 0), (5, .int 0), (7, .int 0), (8, .int 0), (9, .int 0), (10, .int 0), (13, .int 0), (14, .int 0)]) (w' := [12, 11, 6, 3, 1, 0]) rfl rfl
  generalize (s720.set 12 (.ref q721)) = s725 at hP hD o_s725
  have hP := hP.sub (ws' := [(a0, .inr (3, s725)), (q710, .inl (k711, 8000, .inl f712))]) [0, 1] rfl
  have hD := hD.sub (ws' := [(a0, .inr (3, s725)), (q710, .inl (k711, 8000, .inl f712))]) [0, 1] (by decide) rfl
  have hK := hK.sub (tys' := [(k711, .int)]) [0] rfl
  have hP9 := hP.sub (ws' := [(a0, .inr (3, s725)), (q710, .inl (k711, 8000, .inl f712))]) [0, 1] rfl
  have hD9 := hD.sub (ws' := [(a0, .inr (3, s725)), (q710, .inl (k711, 8000, .inl f712))]) [0, 1] (by decide) rfl
  have hK9 := hK.sub (tys' := [(k711, .int)]) [0] rfl
  refine W.widen (k := 4) (n := 16400) (by decide) (by decide) ?_
  exact W.vret hx hb hr (fun t ht hW => ⟨⟨(s725, q710, f712, k711), rfl, ⟨(ow_sub o_s725 [3, 5, 7, 8] rfl), z713⟩, by rw [ht]; exact hP9, va_K.moved hW.alike hK9, hD9⟩, hS.F ht⟩) hS.2.2 dX0_init_53

def l_zk_J0_coder_7d493 : List Cond := [.fieldLink RJ0 38 "java/lang/String" "COMPACT_STRINGS" "Z", .fieldLink RJ0 15 "java/lang/String" "coder" "B"]
def w_zk_J0_coder_7d493 : List Cond := .code yJ0_coder_7d493 cJ0_coder_7d493 1 (some .byte) :: (l_zk_J0_coder_7d493)
set_option maxHeartbeats 4000000 in
set_option maxRecDepth 100000 in
theorem zk_J0_coder_7d493 (l : Launch) (dC : Nat → ClassId) (dI : Nat → Nat → Nat) (sz : Nat) (adK adV : Nat → Nat)    : Met l yJ0_coder_7d493 w_zk_J0_coder_7d493 ({ frames := 0, cells := 0, slots := 0, locals := 0 }) (va_Pc [.ref (adK 0)] (fun U => U.heap.size = sz ∧ Kc adK adV (va_A [] sz) U ∧ Wd dC dI [] (fun _ => True) [] U)) (va_Qi (fun (r : Int32) (u : Unit) => r = 0) (fun (u : Unit) t => Wd dC dI [] (va_A [] sz) [] t) (va_A [] sz))  0 0 (va_A [] sz) := by
  refine Met.ofW (cc := cJ0_coder_7d493) (maxL := 1) (ret := (some .byte)) (by decide) rfl ?_
  intro p e s m args below meth c s₁ B hml hv
  obtain ⟨rfl, hsz, hC, hP, hK, hD0⟩ := hv
  have hx := B.exec
  have hb := B.bytes
  have hr := B.returns
  have hts := atoms_spec (ws := w_zk_J0_coder_7d493) B.pre
  have hown : s.vm.findClass RJ0 = some m.cls := findClass_of_methodNamed B.named
  have hlocks := B.notSynchronized
  subst hsz
  have hD := hD0.self (sz := s.heap.size)
  generalize hAe : va_A [] s.heap.size = A at hD hC ⊢
  have hA : ∀ q : Nat, s.heap.size ≤ q → A q := fun q h => by rw [← hAe]; exact Or.inr h
  have hS : va_S A s.heap s.heap [] := va_S.rf
  have hl := lv_entry ([.ref (adK 0)]) (n := 1) (Nat.le_of_ble_eq_true rfl)
  rw [lg_entry_eq]
  generalize (lg_sl ([.ref (adK 0)]) ++ List.replicate (1 - (lg_sl ([.ref (adK 0)])).length) Slot.unset).toArray = ls at hl ⊢
  have hl : lv_has ls 1 [(0, .ref (adK 0))] := hl
  refine va_gets (v := .int 1) hx hb hC.2.2.2.2.1 hS hown (hts (.fieldLink RJ0 38 "java/lang/String" "COMPACT_STRINGS" "Z") (by decide +kernel)) (fun _ h9 => h9) dJ0_coder_7d493_0 ?_
  refine lv_if_eq (tgt := 13) hx hb dJ0_coder_7d493_3 (by decide) (fun c764 => absurd c764 (by decide)) (fun c764 => ?_)
  refine lv_aload_n hx hb dJ0_coder_7d493_6 rfl (lv_at hl 0 rfl) ?_
  refine vk_getf (v := .int 0) hx hb (hC.1.1 0 (by decide)).2.1 hS hown (hts (.fieldLink RJ0 15 "java/lang/String" "coder" "B") (by decide +kernel)) (fun _ h9 => h9) dJ0_coder_7d493_7 ?_
  refine lv_goto (tgt := 14) hx hb dJ0_coder_7d493_10 (by decide) ?_
  have hP9 := hP.sub (ws' := []) [] rfl
  have hD9 := hD.sub (ws' := []) [] (by decide) rfl
  have hK9 := hK.sub (tys' := []) [] rfl
  exact W.zret (v := 0) hx hb hr rfl (fun t ht hW => ⟨⟨0, (), rfl, rfl, by rw [ht]; exact hP9, va_K.moved hW.alike hK9, hD9⟩, hS.F ht⟩) hS.2.2 dJ0_coder_7d493_14

def l_zk_J0_length_8abf5 : List Cond := [.fieldLink RJ0 9 "java/lang/String" "value" "[B", .methodLink RJ0 335 yJ0_coder_7d493, .instanceMethod yJ0_coder_7d493, .selects RJ0 yJ0_coder_7d493 yJ0_coder_7d493, .initialized RJ0, .code yJ0_coder_7d493 cJ0_coder_7d493 1 (some .byte), .fieldLink RJ0 38 "java/lang/String" "COMPACT_STRINGS" "Z", .fieldLink RJ0 15 "java/lang/String" "coder" "B"]
def w_zk_J0_length_8abf5 : List Cond := .code yJ0_length_8abf5 cJ0_length_8abf5 1 (some .int) :: (l_zk_J0_length_8abf5)
theorem g_zk_J0_length_8abf5_zk_J0_coder_7d493_335 : GoodIn w_zk_J0_length_8abf5 (wsV RJ0 335 RJ0 yJ0_coder_7d493 w_zk_J0_coder_7d493) := goodIn_app (goodIn_sub (by decide +kernel) (by decide +kernel)) (goodIn_sub (by decide +kernel) (by decide +kernel))
set_option maxHeartbeats 4000000 in
set_option maxRecDepth 100000 in
theorem zk_J0_length_8abf5 (l : Launch) (dC : Nat → ClassId) (dI : Nat → Nat → Nat) (sz : Nat) (adK adV : Nat → Nat)    : Met l yJ0_length_8abf5 w_zk_J0_length_8abf5 ({ frames := 1, cells := 0, slots := 0, locals := 20 }) (va_Pc [.ref (adK 0)] (fun U => U.heap.size = sz ∧ Kc adK adV (va_A [] sz) U ∧ Wd dC dI [] (fun _ => True) [] U)) (va_Qi (fun (r : Int32) (u : Unit) => r = 143) (fun (u : Unit) t => Wd dC dI [] (va_A [] sz) [] t) (va_A [] sz))  0 0 (va_A [] sz) := by
  refine Met.ofW (cc := cJ0_length_8abf5) (maxL := 1) (ret := (some .int)) (by decide) rfl ?_
  intro p e s m args below meth c s₁ B hml hv
  obtain ⟨rfl, hsz, hC, hP, hK, hD0⟩ := hv
  have hx := B.exec
  have hb := B.bytes
  have hr := B.returns
  have hts := atoms_spec (ws := w_zk_J0_length_8abf5) B.pre
  have hown : s.vm.findClass RJ0 = some m.cls := findClass_of_methodNamed B.named
  have hlocks := B.notSynchronized
  subst hsz
  have hD := hD0.self (sz := s.heap.size)
  generalize hAe : va_A [] s.heap.size = A at hD hC ⊢
  have hA : ∀ q : Nat, s.heap.size ≤ q → A q := fun q h => by rw [← hAe]; exact Or.inr h
  have hS : va_S A s.heap s.heap [] := va_S.rf
  have hl := lv_entry ([.ref (adK 0)]) (n := 1) (Nat.le_of_ble_eq_true rfl)
  rw [lg_entry_eq]
  generalize (lg_sl ([.ref (adK 0)]) ++ List.replicate (1 - (lg_sl ([.ref (adK 0)])).length) Slot.unset).toArray = ls at hl ⊢
  have hl : lv_has ls 1 [(0, .ref (adK 0))] := hl
  refine lv_aload_n hx hb dJ0_length_8abf5_0 rfl (lv_at hl 0 rfl) ?_
  refine vk_getf (v := .ref (adV 0)) hx hb (hC.1.1 0 (by decide)).2.2.1 hS hown (hts (.fieldLink RJ0 9 "java/lang/String" "value" "[B") (by decide +kernel)) (fun _ h9 => h9) dJ0_length_8abf5_1 ?_
  refine va_tlen (v := 143) hx hb (hC.1.1 0 (by decide)).2.2.2 hS (by decide) dJ0_length_8abf5_4 ?_
  refine lv_aload_n hx hb dJ0_length_8abf5_5 rfl (lv_at hl 0 rfl) ?_
  have hPc := hP.sub (ws' := []) [] rfl
  have hDc := hD.sub (ws' := []) [] (by decide) rfl
  have hKc := hK.sub (tys' := []) [] rfl
  have hFc := va_free (wc := []) hD hS hA [] rfl
  refine va_calli (va_runV (As := []) (rest := [.int 143]) ⟨hx, hb, hml, hown, hts⟩ (zk_J0_coder_7d493 l dC dI s.heap.size adK adV   ) (cwV 0 hts g_zk_J0_length_8abf5_zk_J0_coder_7d493_335 rfl rfl rfl (by decide +kernel) ⟨Nat.le_of_ble_eq_true rfl, Nat.le_of_ble_eq_true rfl⟩) ⟨fun a U g mk q => by obtain ⟨q0, q1, qC, qP, qK, qD⟩ := q; exact ⟨q0, q1, Kc_call qC, qP, va_K.moved (u := U) (U := U.calling g mk a) (Vm.Alike.refl U.vm) qK, qD⟩, vk_recv hC.1 (i := 0) (by decide) hS, fun U hU hW => ⟨rfl, by rw [hU], Kc_go hC hS hFc hU hW, by rw [hU]; exact hPc, va_K.moved hW.alike hKc, hDc.weaken (fun _ _ _ _ => trivial)⟩⟩ rfl rfl hl.1 rfl (lv_room (Nat.le_of_ble_eq_true rfl)) dJ0_length_8abf5_6 ⟨Nat.le_of_ble_eq_true rfl, Nat.le_of_ble_eq_true rfl⟩) hS (fun q _ h => hFc q h) hFc (fun r769 u t H1 locs ht hvm hw hB hz1 hk1 hS => ?_)
  obtain ⟨hP1, hK1, hD1⟩ := hB
  rw [ht] at hP1
  try dsimp only at hw
  obtain ⟨hP, hD⟩ := va_join (wr := []) (w1 := []) hP hD [] [] rfl rfl (by decide) (by decide) hk1 hFc hP1 hD1
  have hK := hK.sub (tys' := []) [] rfl
  generalize H1 = H at hP hS ⊢
  have hP : va_P (dC, dI) vwCl [] H := hP
  have hD : va_D A [] := hD
  have er770 := hw
  subst er770
  refine lv_ishr hx hb dJ0_length_8abf5_9  ?_
  refine lv_topi (fun x771 ex771 => ?_)
  obtain rfl : x771 = 143 := ex771.trans (by decide)
  have hP9 := hP.sub (ws' := []) [] rfl
  have hD9 := hD.sub (ws' := []) [] (by decide) rfl
  have hK9 := hK.sub (tys' := []) [] rfl
  exact W.iret (v := 143) hx hb hr (fun t ht hW => ⟨⟨143, (), rfl, rfl, by rw [ht]; exact hP9, va_K.moved hW.alike hK9, hD9⟩, hS.F ht⟩) hS.2.2 dJ0_length_8abf5_10

def l_zk_J0_isLatin1_aae02 : List Cond := [.fieldLink RJ0 38 "java/lang/String" "COMPACT_STRINGS" "Z", .fieldLink RJ0 15 "java/lang/String" "coder" "B"]
def w_zk_J0_isLatin1_aae02 : List Cond := .code yJ0_isLatin1_aae02 cJ0_isLatin1_aae02 1 (some .boolean) :: (l_zk_J0_isLatin1_aae02)
set_option maxHeartbeats 4000000 in
set_option maxRecDepth 100000 in
theorem zk_J0_isLatin1_aae02 (l : Launch) (dC : Nat → ClassId) (dI : Nat → Nat → Nat) (sz : Nat) (adK adV : Nat → Nat)    : Met l yJ0_isLatin1_aae02 w_zk_J0_isLatin1_aae02 ({ frames := 0, cells := 0, slots := 0, locals := 0 }) (va_Pc [.ref (adK 0)] (fun U => U.heap.size = sz ∧ Kc adK adV (va_A [] sz) U ∧ Wd dC dI [] (fun _ => True) [] U)) (va_Qi (fun (r : Int32) (u : Unit) => r = 1) (fun (u : Unit) t => Wd dC dI [] (va_A [] sz) [] t) (va_A [] sz))  0 0 (va_A [] sz) := by
  refine Met.ofW (cc := cJ0_isLatin1_aae02) (maxL := 1) (ret := (some .boolean)) (by decide) rfl ?_
  intro p e s m args below meth c s₁ B hml hv
  obtain ⟨rfl, hsz, hC, hP, hK, hD0⟩ := hv
  have hx := B.exec
  have hb := B.bytes
  have hr := B.returns
  have hts := atoms_spec (ws := w_zk_J0_isLatin1_aae02) B.pre
  have hown : s.vm.findClass RJ0 = some m.cls := findClass_of_methodNamed B.named
  have hlocks := B.notSynchronized
  subst hsz
  have hD := hD0.self (sz := s.heap.size)
  generalize hAe : va_A [] s.heap.size = A at hD hC ⊢
  have hA : ∀ q : Nat, s.heap.size ≤ q → A q := fun q h => by rw [← hAe]; exact Or.inr h
  have hS : va_S A s.heap s.heap [] := va_S.rf
  have hl := lv_entry ([.ref (adK 0)]) (n := 1) (Nat.le_of_ble_eq_true rfl)
  rw [lg_entry_eq]
  generalize (lg_sl ([.ref (adK 0)]) ++ List.replicate (1 - (lg_sl ([.ref (adK 0)])).length) Slot.unset).toArray = ls at hl ⊢
  have hl : lv_has ls 1 [(0, .ref (adK 0))] := hl
  refine va_gets (v := .int 1) hx hb hC.2.2.2.2.1 hS hown (hts (.fieldLink RJ0 38 "java/lang/String" "COMPACT_STRINGS" "Z") (by decide +kernel)) (fun _ h9 => h9) dJ0_isLatin1_aae02_0 ?_
  refine lv_if_eq (tgt := 17) hx hb dJ0_isLatin1_aae02_3 (by decide) (fun c777 => absurd c777 (by decide)) (fun c777 => ?_)
  refine lv_aload_n hx hb dJ0_isLatin1_aae02_6 rfl (lv_at hl 0 rfl) ?_
  refine vk_getf (v := .int 0) hx hb (hC.1.1 0 (by decide)).2.1 hS hown (hts (.fieldLink RJ0 15 "java/lang/String" "coder" "B") (by decide +kernel)) (fun _ h9 => h9) dJ0_isLatin1_aae02_7 ?_
  refine lv_if_ne (tgt := 17) hx hb dJ0_isLatin1_aae02_10 (by decide) (fun c778 => absurd c778 (by decide)) (fun c778 => ?_)
  refine lv_iconst (v := 1) hx hb dJ0_isLatin1_aae02_13 (by decide) ?_
  refine lv_goto (tgt := 18) hx hb dJ0_isLatin1_aae02_14 (by decide) ?_
  have hP9 := hP.sub (ws' := []) [] rfl
  have hD9 := hD.sub (ws' := []) [] (by decide) rfl
  have hK9 := hK.sub (tys' := []) [] rfl
  exact W.zret (v := 1) hx hb hr rfl (fun t ht hW => ⟨⟨1, (), rfl, rfl, by rw [ht]; exact hP9, va_K.moved hW.alike hK9, hD9⟩, hS.F ht⟩) hS.2.2 dJ0_isLatin1_aae02_18

def l_zk_J3_checkIndex_8e157 : List Cond := []
def w_zk_J3_checkIndex_8e157 : List Cond := .code yJ3_checkIndex_8e157 cJ3_checkIndex_8e157 3 (some .int) :: (l_zk_J3_checkIndex_8e157)
set_option maxHeartbeats 4000000 in
set_option maxRecDepth 100000 in
theorem zk_J3_checkIndex_8e157 (l : Launch) (dC : Nat → ClassId) (dI : Nat → Nat → Nat) (sz : Nat) (Va0 : Int32)  (gv_Va0 : (0 : Int) ≤ Va0.toInt ∧ Va0.toInt ≤ 142) : Met l yJ3_checkIndex_8e157 w_zk_J3_checkIndex_8e157 ({ frames := 0, cells := 0, slots := 0, locals := 0 }) (va_Pc [.int Va0, .int 143, .null] (fun U => U.heap.size = sz ∧ Wd dC dI [] (fun _ => True) [] U)) (va_Qi (fun (r : Int32) (u : Unit) => (¬ Va0 < 0 ∧ Va0 < 143 ∧ r = Va0)) (fun (u : Unit) t => Wd dC dI [] (va_A [] sz) [] t) (va_A [] sz))  0 0 (va_A [] sz) := by
  refine Met.ofW (cc := cJ3_checkIndex_8e157) (maxL := 3) (ret := (some .int)) (by decide) rfl ?_
  intro p e s m args below meth c s₁ B hml hv
  obtain ⟨rfl, hsz, hP, hK, hD0⟩ := hv
  have hx := B.exec
  have hb := B.bytes
  have hr := B.returns
  have hts := atoms_spec (ws := w_zk_J3_checkIndex_8e157) B.pre
  have hown : s.vm.findClass RJ3 = some m.cls := findClass_of_methodNamed B.named
  have hlocks := B.notSynchronized
  subst hsz
  have hD := hD0.self (sz := s.heap.size)
  generalize hAe : va_A [] s.heap.size = A at hD ⊢
  have hA : ∀ q : Nat, s.heap.size ≤ q → A q := fun q h => by rw [← hAe]; exact Or.inr h
  have hS : va_S A s.heap s.heap [] := va_S.rf
  have hl := lv_entry ([.int Va0, .int 143, .null]) (n := 3) (Nat.le_of_ble_eq_true rfl)
  rw [lg_entry_eq]
  generalize (lg_sl ([.int Va0, .int 143, .null]) ++ List.replicate (3 - (lg_sl ([.int Va0, .int 143, .null])).length) Slot.unset).toArray = ls at hl ⊢
  have hl : lv_has ls 3 [(0, .int Va0), (1, .int 143), (2, .null)] := hl
  refine lv_iload_n hx hb dJ3_checkIndex_8e157_0 rfl (lv_at hl 0 rfl) ?_
  refine lv_if_lt (tgt := 9) hx hb dJ3_checkIndex_8e157_1 (by decide) (fun c801 => (by exfalso; have bd_Va0 := i_bd Va0; (try simp only [i_lt, i_le, i_eq, kc_0] at gv_Va0 c801); omega)) (fun c801 => ?_)
  refine lv_iload_n hx hb dJ3_checkIndex_8e157_4 rfl (lv_at hl 0 rfl) ?_
  refine lv_iload_n hx hb dJ3_checkIndex_8e157_5 rfl (lv_at hl 1 rfl) ?_
  refine lv_icmp_lt (tgt := 16) hx hb dJ3_checkIndex_8e157_6 (by decide) (fun c802 => ?_) (fun c802 => (by exfalso; have bd_Va0 := i_bd Va0; (try simp only [i_lt, i_le, i_eq, kc_0, kc_143] at gv_Va0 c801 c802); omega))
  refine lv_iload_n hx hb dJ3_checkIndex_8e157_16 rfl (lv_at hl 0 rfl) ?_
  have hP9 := hP.sub (ws' := []) [] rfl
  have hD9 := hD.sub (ws' := []) [] (by decide) rfl
  have hK9 := hK.sub (tys' := []) [] rfl
  exact W.iret (v := Va0) hx hb hr (fun t ht hW => ⟨⟨Va0, (), rfl, ⟨c801, c802, rfl⟩, by rw [ht]; exact hP9, va_K.moved hW.alike hK9, hD9⟩, hS.F ht⟩) hS.2.2 dJ3_checkIndex_8e157_17

def l_zk_J3_checkIndex_8e157_1 : List Cond := []
def w_zk_J3_checkIndex_8e157_1 : List Cond := .code yJ3_checkIndex_8e157 cJ3_checkIndex_8e157 3 (some .int) :: (l_zk_J3_checkIndex_8e157_1)
set_option maxHeartbeats 4000000 in
set_option maxRecDepth 100000 in
theorem zk_J3_checkIndex_8e157_1 (l : Launch) (dC : Nat → ClassId) (dI : Nat → Nat → Nat) (sz : Nat) (Va0 : Int32) (Br0 : Nat)  (gv_Va0 : (0 : Int) ≤ Va0.toInt ∧ Va0.toInt ≤ 142) : Met l yJ3_checkIndex_8e157 w_zk_J3_checkIndex_8e157_1 ({ frames := 0, cells := 0, slots := 0, locals := 0 }) (va_Pc [.int Va0, .int 143, .ref Br0] (fun U => U.heap.size = sz ∧ Wd dC dI [] (fun _ => True) [] U)) (va_Qi (fun (r : Int32) (u : Unit) => (¬ Va0 < 0 ∧ Va0 < 143 ∧ r = Va0)) (fun (u : Unit) t => Wd dC dI [] (va_A [] sz) [] t) (va_A [] sz))  0 0 (va_A [] sz) := by
  refine Met.ofW (cc := cJ3_checkIndex_8e157) (maxL := 3) (ret := (some .int)) (by decide) rfl ?_
  intro p e s m args below meth c s₁ B hml hv
  obtain ⟨rfl, hsz, hP, hK, hD0⟩ := hv
  have hx := B.exec
  have hb := B.bytes
  have hr := B.returns
  have hts := atoms_spec (ws := w_zk_J3_checkIndex_8e157_1) B.pre
  have hown : s.vm.findClass RJ3 = some m.cls := findClass_of_methodNamed B.named
  have hlocks := B.notSynchronized
  subst hsz
  have hD := hD0.self (sz := s.heap.size)
  generalize hAe : va_A [] s.heap.size = A at hD ⊢
  have hA : ∀ q : Nat, s.heap.size ≤ q → A q := fun q h => by rw [← hAe]; exact Or.inr h
  have hS : va_S A s.heap s.heap [] := va_S.rf
  have hl := lv_entry ([.int Va0, .int 143, .ref Br0]) (n := 3) (Nat.le_of_ble_eq_true rfl)
  rw [lg_entry_eq]
  generalize (lg_sl ([.int Va0, .int 143, .ref Br0]) ++ List.replicate (3 - (lg_sl ([.int Va0, .int 143, .ref Br0])).length) Slot.unset).toArray = ls at hl ⊢
  have hl : lv_has ls 3 [(0, .int Va0), (1, .int 143), (2, .ref Br0)] := hl
  refine lv_iload_n hx hb dJ3_checkIndex_8e157_0 rfl (lv_at hl 0 rfl) ?_
  refine lv_if_lt (tgt := 9) hx hb dJ3_checkIndex_8e157_1 (by decide) (fun c810 => (by exfalso; have bd_Va0 := i_bd Va0; (try simp only [i_lt, i_le, i_eq, kc_0] at gv_Va0 c810); omega)) (fun c810 => ?_)
  refine lv_iload_n hx hb dJ3_checkIndex_8e157_4 rfl (lv_at hl 0 rfl) ?_
  refine lv_iload_n hx hb dJ3_checkIndex_8e157_5 rfl (lv_at hl 1 rfl) ?_
  refine lv_icmp_lt (tgt := 16) hx hb dJ3_checkIndex_8e157_6 (by decide) (fun c811 => ?_) (fun c811 => (by exfalso; have bd_Va0 := i_bd Va0; (try simp only [i_lt, i_le, i_eq, kc_0, kc_143] at gv_Va0 c810 c811); omega))
  refine lv_iload_n hx hb dJ3_checkIndex_8e157_16 rfl (lv_at hl 0 rfl) ?_
  have hP9 := hP.sub (ws' := []) [] rfl
  have hD9 := hD.sub (ws' := []) [] (by decide) rfl
  have hK9 := hK.sub (tys' := []) [] rfl
  exact W.iret (v := Va0) hx hb hr (fun t ht hW => ⟨⟨Va0, (), rfl, ⟨c810, c811, rfl⟩, by rw [ht]; exact hP9, va_K.moved hW.alike hK9, hD9⟩, hS.F ht⟩) hS.2.2 dJ3_checkIndex_8e157_17

def l_zk_J0_checkIndex_df160 : List Cond := [.fieldLink RJ0 1053 "jdk/internal/util/Preconditions" "SIOOBE_FORMATTER" "Ljava/util/function/BiFunction;", .methodLink RJ0 1059 yJ3_checkIndex_8e157, .static yJ3_checkIndex_8e157, .initialized RJ3, .code yJ3_checkIndex_8e157 cJ3_checkIndex_8e157 3 (some .int)]
def w_zk_J0_checkIndex_df160 : List Cond := .code yJ0_checkIndex_df160 cJ0_checkIndex_df160 2 none :: (l_zk_J0_checkIndex_df160)
theorem g_zk_J0_checkIndex_df160_zk_J3_checkIndex_8e157_1059 : GoodIn w_zk_J0_checkIndex_df160 (va_wsS RJ0 1059 yJ3_checkIndex_8e157 w_zk_J3_checkIndex_8e157) := goodIn_app (goodIn_sub (by decide +kernel) (by decide +kernel)) (goodIn_sub (by decide +kernel) (by decide +kernel))
theorem g_zk_J0_checkIndex_df160_zk_J3_checkIndex_8e157_1_1059 : GoodIn w_zk_J0_checkIndex_df160 (va_wsS RJ0 1059 yJ3_checkIndex_8e157 w_zk_J3_checkIndex_8e157_1) := goodIn_app (goodIn_sub (by decide +kernel) (by decide +kernel)) (goodIn_sub (by decide +kernel) (by decide +kernel))
set_option maxHeartbeats 4000000 in
set_option maxRecDepth 100000 in
theorem zk_J0_checkIndex_df160 (l : Launch) (dC : Nat → ClassId) (dI : Nat → Nat → Nat) (sz : Nat) (adK adV : Nat → Nat) (Va0 : Int32)  (gv_Va0 : (0 : Int) ≤ Va0.toInt ∧ Va0.toInt ≤ 142) : Met l yJ0_checkIndex_df160 w_zk_J0_checkIndex_df160 ({ frames := 1, cells := 0, slots := 0, locals := 22 }) (va_Pc [.int Va0, .int 143] (fun U => U.heap.size = sz ∧ Kc adK adV (va_A [] sz) U ∧ Wd dC dI [] (fun _ => True) [] U)) (va_Qv (fun (u : Unit) => (¬ Va0 < 0 ∧ Va0 < 143)) (fun (u : Unit) t => Wd dC dI [] (va_A [] sz) [] t) (va_A [] sz))  0 0 (va_A [] sz) := by
  refine Met.ofW (cc := cJ0_checkIndex_df160) (maxL := 2) (ret := none) (by decide) rfl ?_
  intro p e s m args below meth c s₁ B hml hv
  obtain ⟨rfl, hsz, hC, hP, hK, hD0⟩ := hv
  have hx := B.exec
  have hb := B.bytes
  have hr := B.returns
  have hts := atoms_spec (ws := w_zk_J0_checkIndex_df160) B.pre
  have hown : s.vm.findClass RJ0 = some m.cls := findClass_of_methodNamed B.named
  have hlocks := B.notSynchronized
  subst hsz
  have hD := hD0.self (sz := s.heap.size)
  generalize hAe : va_A [] s.heap.size = A at hD hC ⊢
  have hA : ∀ q : Nat, s.heap.size ≤ q → A q := fun q h => by rw [← hAe]; exact Or.inr h
  have hS : va_S A s.heap s.heap [] := va_S.rf
  have hl := lv_entry ([.int Va0, .int 143]) (n := 2) (Nat.le_of_ble_eq_true rfl)
  rw [lg_entry_eq]
  generalize (lg_sl ([.int Va0, .int 143]) ++ List.replicate (2 - (lg_sl ([.int Va0, .int 143])).length) Slot.unset).toArray = ls at hl ⊢
  have hl : lv_has ls 2 [(0, .int Va0), (1, .int 143)] := hl
  refine lv_iload_n hx hb dJ0_checkIndex_df160_0 rfl (lv_at hl 0 rfl) ?_
  refine lv_iload_n hx hb dJ0_checkIndex_df160_1 rfl (lv_at hl 1 rfl) ?_
  rcases hC.2.2.2.2.2.1 with z816 | ⟨q817, z816⟩
  · refine va_gets (v := .null) hx hb z816 hS hown (hts (.fieldLink RJ0 1053 "jdk/internal/util/Preconditions" "SIOOBE_FORMATTER" "Ljava/util/function/BiFunction;") (by decide +kernel)) (fun _ h9 => h9) dJ0_checkIndex_df160_2 ?_
    have hPc := hP.sub (ws' := []) [] rfl
    have hDc := hD.sub (ws' := []) [] (by decide) rfl
    have hKc := hK.sub (tys' := []) [] rfl
    have hFc := va_free (wc := []) hD hS hA [] rfl
    refine va_calli (va_runS (As := [.int Va0, .int 143, .null]) (rest := []) ⟨hx, hb, hml, hown, hts⟩ (zk_J3_checkIndex_8e157 l dC dI s.heap.size Va0  (by (try simp only [i_lt, i_le, i_eq] at gv_Va0); omega)) (va_cwS 3 hts g_zk_J0_checkIndex_df160_zk_J3_checkIndex_8e157_1059 rfl rfl rfl (by decide +kernel) ⟨Nat.le_of_ble_eq_true rfl, Nat.le_of_ble_eq_true rfl⟩) ⟨fun a U g mk q => by obtain ⟨q0, q1, qP, qK, qD⟩ := q; exact ⟨q0, q1, qP, va_K.moved (u := U) (U := U.calling g mk a) (Vm.Alike.refl U.vm) qK, qD⟩, fun U hU hW => ⟨rfl, by rw [hU], by rw [hU]; exact hPc, va_K.moved hW.alike hKc, hDc.weaken (fun _ _ _ _ => trivial)⟩⟩ rfl rfl hl.1 rfl (lv_room (Nat.le_of_ble_eq_true rfl)) dJ0_checkIndex_df160_5 ⟨Nat.le_of_ble_eq_true rfl, Nat.le_of_ble_eq_true rfl⟩) hS (fun q _ h => hFc q h) hFc (fun r821 u t H1 locs ht hvm hw hB hz1 hk1 hS => ?_)
    obtain ⟨hP1, hK1, hD1⟩ := hB
    rw [ht] at hP1
    try dsimp only at hw
    obtain ⟨hP, hD⟩ := va_join (wr := []) (w1 := []) hP hD [] [] rfl rfl (by decide) (by decide) hk1 hFc hP1 hD1
    have hK := hK.sub (tys' := []) [] rfl
    generalize H1 = H at hP hS ⊢
    have hP : va_P (dC, dI) vwCl [] H := hP
    have hD : va_D A [] := hD
    obtain ⟨c822, c823, er824⟩ := hw
    have qer824 := er824.symm
    subst qer824
    refine lv_pop hx hb dJ0_checkIndex_df160_8 rfl ?_
    have hP9 := hP.sub (ws' := []) [] rfl
    have hD9 := hD.sub (ws' := []) [] (by decide) rfl
    have hK9 := hK.sub (tys' := []) [] rfl
    exact W.vret hx hb hr (fun t ht hW => ⟨⟨(), rfl, ⟨c822, c823⟩, by rw [ht]; exact hP9, va_K.moved hW.alike hK9, hD9⟩, hS.F ht⟩) hS.2.2 dJ0_checkIndex_df160_9
  · refine va_gets (v := .ref q817) hx hb z816 hS hown (hts (.fieldLink RJ0 1053 "jdk/internal/util/Preconditions" "SIOOBE_FORMATTER" "Ljava/util/function/BiFunction;") (by decide +kernel)) (fun _ h9 => h9) dJ0_checkIndex_df160_2 ?_
    have hPc := hP.sub (ws' := []) [] rfl
    have hDc := hD.sub (ws' := []) [] (by decide) rfl
    have hKc := hK.sub (tys' := []) [] rfl
    have hFc := va_free (wc := []) hD hS hA [] rfl
    refine va_calli (va_runS (As := [.int Va0, .int 143, .ref q817]) (rest := []) ⟨hx, hb, hml, hown, hts⟩ (zk_J3_checkIndex_8e157_1 l dC dI s.heap.size Va0 q817  (by (try simp only [i_lt, i_le, i_eq] at gv_Va0); omega)) (va_cwS 3 hts g_zk_J0_checkIndex_df160_zk_J3_checkIndex_8e157_1_1059 rfl rfl rfl (by decide +kernel) ⟨Nat.le_of_ble_eq_true rfl, Nat.le_of_ble_eq_true rfl⟩) ⟨fun a U g mk q => by obtain ⟨q0, q1, qP, qK, qD⟩ := q; exact ⟨q0, q1, qP, va_K.moved (u := U) (U := U.calling g mk a) (Vm.Alike.refl U.vm) qK, qD⟩, fun U hU hW => ⟨rfl, by rw [hU], by rw [hU]; exact hPc, va_K.moved hW.alike hKc, hDc.weaken (fun _ _ _ _ => trivial)⟩⟩ rfl rfl hl.1 rfl (lv_room (Nat.le_of_ble_eq_true rfl)) dJ0_checkIndex_df160_5 ⟨Nat.le_of_ble_eq_true rfl, Nat.le_of_ble_eq_true rfl⟩) hS (fun q _ h => hFc q h) hFc (fun r828 u t H1 locs ht hvm hw hB hz1 hk1 hS => ?_)
    obtain ⟨hP1, hK1, hD1⟩ := hB
    rw [ht] at hP1
    try dsimp only at hw
    obtain ⟨hP, hD⟩ := va_join (wr := []) (w1 := []) hP hD [] [] rfl rfl (by decide) (by decide) hk1 hFc hP1 hD1
    have hK := hK.sub (tys' := []) [] rfl
    generalize H1 = H at hP hS ⊢
    have hP : va_P (dC, dI) vwCl [] H := hP
    have hD : va_D A [] := hD
    obtain ⟨c829, c830, er831⟩ := hw
    have qer831 := er831.symm
    subst qer831
    refine lv_pop hx hb dJ0_checkIndex_df160_8 rfl ?_
    have hP9 := hP.sub (ws' := []) [] rfl
    have hD9 := hD.sub (ws' := []) [] (by decide) rfl
    have hK9 := hK.sub (tys' := []) [] rfl
    exact W.vret hx hb hr (fun t ht hW => ⟨⟨(), rfl, ⟨c829, c830⟩, by rw [ht]; exact hP9, va_K.moved hW.alike hK9, hD9⟩, hS.F ht⟩) hS.2.2 dJ0_checkIndex_df160_9

def l_zk_J1_charAt_3b067 : List Cond := [.methodLink RJ1 9 yJ0_checkIndex_df160, .static yJ0_checkIndex_df160, .initialized RJ0, .code yJ0_checkIndex_df160 cJ0_checkIndex_df160 2 none, .fieldLink RJ0 1053 "jdk/internal/util/Preconditions" "SIOOBE_FORMATTER" "Ljava/util/function/BiFunction;", .methodLink RJ0 1059 yJ3_checkIndex_8e157, .static yJ3_checkIndex_8e157, .initialized RJ3, .code yJ3_checkIndex_8e157 cJ3_checkIndex_8e157 3 (some .int)]
def w_zk_J1_charAt_3b067 : List Cond := .code yJ1_charAt_3b067 cJ1_charAt_3b067 2 (some .char) :: (l_zk_J1_charAt_3b067)
theorem g_zk_J1_charAt_3b067_zk_J0_checkIndex_df160_9 : GoodIn w_zk_J1_charAt_3b067 (va_wsS RJ1 9 yJ0_checkIndex_df160 w_zk_J0_checkIndex_df160) := goodIn_app (goodIn_sub (by decide +kernel) (by decide +kernel)) (goodIn_sub (by decide +kernel) (by decide +kernel))
set_option maxHeartbeats 4000000 in
set_option maxRecDepth 100000 in
theorem zk_J1_charAt_3b067 (l : Launch) (dC : Nat → ClassId) (dI : Nat → Nat → Nat) (sz : Nat) (adK adV : Nat → Nat) (Va0 : Int32)  (gv_Va0 : (0 : Int) ≤ Va0.toInt ∧ Va0.toInt ≤ 142) : Met l yJ1_charAt_3b067 w_zk_J1_charAt_3b067 ({ frames := 2, cells := 0, slots := 0, locals := 43 }) (va_Pc [.ref (adV 0), .int Va0] (fun U => U.heap.size = sz ∧ Kc adK adV (va_A [] sz) U ∧ Wd dC dI [] (fun _ => True) [] U)) (va_Qi (fun (r : Int32) (u : Unit) => (¬ Va0 < 0 ∧ Va0 < 143 ∧ narrow .char (.int r) = .int r)) (fun (u : Unit) t => Wd dC dI [] (va_A [] sz) [] t) (va_A [] sz))  0 0 (va_A [] sz) := by
  refine Met.ofW (cc := cJ1_charAt_3b067) (maxL := 2) (ret := (some .char)) (by decide) rfl ?_
  intro p e s m args below meth c s₁ B hml hv
  obtain ⟨rfl, hsz, hC, hP, hK, hD0⟩ := hv
  have hx := B.exec
  have hb := B.bytes
  have hr := B.returns
  have hts := atoms_spec (ws := w_zk_J1_charAt_3b067) B.pre
  have hown : s.vm.findClass RJ1 = some m.cls := findClass_of_methodNamed B.named
  have hlocks := B.notSynchronized
  subst hsz
  have hD := hD0.self (sz := s.heap.size)
  generalize hAe : va_A [] s.heap.size = A at hD hC ⊢
  have hA : ∀ q : Nat, s.heap.size ≤ q → A q := fun q h => by rw [← hAe]; exact Or.inr h
  have hS : va_S A s.heap s.heap [] := va_S.rf
  have hl := lv_entry ([.ref (adV 0), .int Va0]) (n := 2) (Nat.le_of_ble_eq_true rfl)
  rw [lg_entry_eq]
  generalize (lg_sl ([.ref (adV 0), .int Va0]) ++ List.replicate (2 - (lg_sl ([.ref (adV 0), .int Va0])).length) Slot.unset).toArray = ls at hl ⊢
  have hl : lv_has ls 2 [(0, .ref (adV 0)), (1, .int Va0)] := hl
  refine lv_iload_n hx hb dJ1_charAt_3b067_0 rfl (lv_at hl 1 rfl) ?_
  refine lv_aload_n hx hb dJ1_charAt_3b067_1 rfl (lv_at hl 0 rfl) ?_
  refine va_tlen (v := 143) hx hb (hC.1.1 0 (by decide)).2.2.2 hS (by decide) dJ1_charAt_3b067_2 ?_
  have hPc := hP.sub (ws' := []) [] rfl
  have hDc := hD.sub (ws' := []) [] (by decide) rfl
  have hKc := hK.sub (tys' := []) [] rfl
  have hFc := va_free (wc := []) hD hS hA [] rfl
  refine va_callv (va_runS (As := [.int Va0, .int 143]) (rest := []) ⟨hx, hb, hml, hown, hts⟩ (zk_J0_checkIndex_df160 l dC dI s.heap.size adK adV Va0  (by (try simp only [i_lt, i_le, i_eq] at gv_Va0); omega)) (va_cwS 2 hts g_zk_J1_charAt_3b067_zk_J0_checkIndex_df160_9 rfl rfl rfl (by decide +kernel) ⟨Nat.le_of_ble_eq_true rfl, Nat.le_of_ble_eq_true rfl⟩) ⟨fun a U g mk q => by obtain ⟨q0, q1, qC, qP, qK, qD⟩ := q; exact ⟨q0, q1, Kc_call qC, qP, va_K.moved (u := U) (U := U.calling g mk a) (Vm.Alike.refl U.vm) qK, qD⟩, fun U hU hW => ⟨rfl, by rw [hU], Kc_go hC hS hFc hU hW, by rw [hU]; exact hPc, va_K.moved hW.alike hKc, hDc.weaken (fun _ _ _ _ => trivial)⟩⟩ rfl rfl hl.1 rfl (lv_room (Nat.le_of_ble_eq_true rfl)) dJ1_charAt_3b067_3 ⟨Nat.le_of_ble_eq_true rfl, Nat.le_of_ble_eq_true rfl⟩) hS (fun q _ h => hFc q h) hFc (fun u t H1 locs ht hvm hw hB hz1 hk1 hS => ?_)
  obtain ⟨hP1, hK1, hD1⟩ := hB
  rw [ht] at hP1
  try dsimp only at hw
  obtain ⟨hP, hD⟩ := va_join (wr := []) (w1 := []) hP hD [] [] rfl rfl (by decide) (by decide) hk1 hFc hP1 hD1
  have hK := hK.sub (tys' := []) [] rfl
  generalize H1 = H at hP hS ⊢
  have hP : va_P (dC, dI) vwCl [] H := hP
  have hD : va_D A [] := hD
  obtain ⟨c856, c857⟩ := hw
  refine lv_aload_n hx hb dJ1_charAt_3b067_6 rfl (lv_at hl 0 rfl) ?_
  refine lv_iload_n hx hb dJ1_charAt_3b067_7 rfl (lv_at hl 1 rfl) ?_
  refine va_tb hx hb (hC.1.1 0 (by decide)).2.2.2 hS (show vp_in Va0 143 from (by rw [vp_in_iff]; (try simp only [i_lt, i_le, i_eq, kc_0, kc_143] at gv_Va0 c856 c857); omega)) rfl dJ1_charAt_3b067_8 ?_
  refine lv_topi (fun x858 ex858 => ?_)
  refine lv_sipush (v := 255) hx hb dJ1_charAt_3b067_9 (by decide) ?_
  refine lv_iand hx hb dJ1_charAt_3b067_12  ?_
  refine lv_topi (fun x859 ex859 => ?_)
  refine lv_i2c hx hb dJ1_charAt_3b067_13 rfl ?_
  refine lv_topi (fun x860 ex860 => ?_)
  have hP9 := hP.sub (ws' := []) [] rfl
  have hD9 := hD.sub (ws' := []) [] (by decide) rfl
  have hK9 := hK.sub (tys' := []) [] rfl
  exact W.zret (v := x860) hx hb hr (by rw [ex860]; exact pk_nc _) (fun t ht hW => ⟨⟨x860, (), rfl, ⟨c856, c857, (by rw [ex860]; exact pk_nc _)⟩, by rw [ht]; exact hP9, va_K.moved hW.alike hK9, hD9⟩, hS.F ht⟩) hS.2.2 dJ1_charAt_3b067_14

def l_zk_J0_charAt_5068e : List Cond := [.methodLink RJ0 492 yJ0_isLatin1_aae02, .instanceMethod yJ0_isLatin1_aae02, .selects RJ0 yJ0_isLatin1_aae02 yJ0_isLatin1_aae02, .initialized RJ0, .fieldLink RJ0 9 "java/lang/String" "value" "[B", .methodLink RJ0 495 yJ1_charAt_3b067, .static yJ1_charAt_3b067, .initialized RJ1, .code yJ0_isLatin1_aae02 cJ0_isLatin1_aae02 1 (some .boolean), .fieldLink RJ0 38 "java/lang/String" "COMPACT_STRINGS" "Z", .fieldLink RJ0 15 "java/lang/String" "coder" "B", .code yJ1_charAt_3b067 cJ1_charAt_3b067 2 (some .char), .methodLink RJ1 9 yJ0_checkIndex_df160, .static yJ0_checkIndex_df160, .code yJ0_checkIndex_df160 cJ0_checkIndex_df160 2 none, .fieldLink RJ0 1053 "jdk/internal/util/Preconditions" "SIOOBE_FORMATTER" "Ljava/util/function/BiFunction;", .methodLink RJ0 1059 yJ3_checkIndex_8e157, .static yJ3_checkIndex_8e157, .initialized RJ3, .code yJ3_checkIndex_8e157 cJ3_checkIndex_8e157 3 (some .int)]
def w_zk_J0_charAt_5068e : List Cond := .code yJ0_charAt_5068e cJ0_charAt_5068e 2 (some .char) :: (l_zk_J0_charAt_5068e)
theorem g_zk_J0_charAt_5068e_zk_J0_isLatin1_aae02_492 : GoodIn w_zk_J0_charAt_5068e (wsV RJ0 492 RJ0 yJ0_isLatin1_aae02 w_zk_J0_isLatin1_aae02) := goodIn_app (goodIn_sub (by decide +kernel) (by decide +kernel)) (goodIn_sub (by decide +kernel) (by decide +kernel))
theorem g_zk_J0_charAt_5068e_zk_J1_charAt_3b067_495 : GoodIn w_zk_J0_charAt_5068e (va_wsS RJ0 495 yJ1_charAt_3b067 w_zk_J1_charAt_3b067) := goodIn_app (goodIn_sub (by decide +kernel) (by decide +kernel)) (goodIn_sub (by decide +kernel) (by decide +kernel))
set_option maxHeartbeats 4000000 in
set_option maxRecDepth 100000 in
theorem zk_J0_charAt_5068e (l : Launch) (dC : Nat → ClassId) (dI : Nat → Nat → Nat) (sz : Nat) (adK adV : Nat → Nat) (Va0 : Int32)  (gv_Va0 : (0 : Int) ≤ Va0.toInt ∧ Va0.toInt ≤ 142) : Met l yJ0_charAt_5068e w_zk_J0_charAt_5068e ({ frames := 3, cells := 0, slots := 0, locals := 64 }) (va_Pc [.ref (adK 0), .int Va0] (fun U => U.heap.size = sz ∧ Kc adK adV (va_A [] sz) U ∧ Wd dC dI [] (fun _ => True) [] U)) (va_Qi (fun (r : Int32) (u : Unit) => (¬ Va0 < 0 ∧ Va0 < 143 ∧ narrow .char (.int r) = .int r)) (fun (u : Unit) t => Wd dC dI [] (va_A [] sz) [] t) (va_A [] sz))  0 0 (va_A [] sz) := by
  refine Met.ofW (cc := cJ0_charAt_5068e) (maxL := 2) (ret := (some .char)) (by decide) rfl ?_
  intro p e s m args below meth c s₁ B hml hv
  obtain ⟨rfl, hsz, hC, hP, hK, hD0⟩ := hv
  have hx := B.exec
  have hb := B.bytes
  have hr := B.returns
  have hts := atoms_spec (ws := w_zk_J0_charAt_5068e) B.pre
  have hown : s.vm.findClass RJ0 = some m.cls := findClass_of_methodNamed B.named
  have hlocks := B.notSynchronized
  subst hsz
  have hD := hD0.self (sz := s.heap.size)
  generalize hAe : va_A [] s.heap.size = A at hD hC ⊢
  have hA : ∀ q : Nat, s.heap.size ≤ q → A q := fun q h => by rw [← hAe]; exact Or.inr h
  have hS : va_S A s.heap s.heap [] := va_S.rf
  have hl := lv_entry ([.ref (adK 0), .int Va0]) (n := 2) (Nat.le_of_ble_eq_true rfl)
  rw [lg_entry_eq]
  generalize (lg_sl ([.ref (adK 0), .int Va0]) ++ List.replicate (2 - (lg_sl ([.ref (adK 0), .int Va0])).length) Slot.unset).toArray = ls at hl ⊢
  have hl : lv_has ls 2 [(0, .ref (adK 0)), (1, .int Va0)] := hl
  refine lv_aload_n hx hb dJ0_charAt_5068e_0 rfl (lv_at hl 0 rfl) ?_
  have hPc := hP.sub (ws' := []) [] rfl
  have hDc := hD.sub (ws' := []) [] (by decide) rfl
  have hKc := hK.sub (tys' := []) [] rfl
  have hFc := va_free (wc := []) hD hS hA [] rfl
  refine va_calli (va_runV (As := []) (rest := []) ⟨hx, hb, hml, hown, hts⟩ (zk_J0_isLatin1_aae02 l dC dI s.heap.size adK adV   ) (cwV 0 hts g_zk_J0_charAt_5068e_zk_J0_isLatin1_aae02_492 rfl rfl rfl (by decide +kernel) ⟨Nat.le_of_ble_eq_true rfl, Nat.le_of_ble_eq_true rfl⟩) ⟨fun a U g mk q => by obtain ⟨q0, q1, qC, qP, qK, qD⟩ := q; exact ⟨q0, q1, Kc_call qC, qP, va_K.moved (u := U) (U := U.calling g mk a) (Vm.Alike.refl U.vm) qK, qD⟩, vk_recv hC.1 (i := 0) (by decide) hS, fun U hU hW => ⟨rfl, by rw [hU], Kc_go hC hS hFc hU hW, by rw [hU]; exact hPc, va_K.moved hW.alike hKc, hDc.weaken (fun _ _ _ _ => trivial)⟩⟩ rfl rfl hl.1 rfl (lv_room (Nat.le_of_ble_eq_true rfl)) dJ0_charAt_5068e_1 ⟨Nat.le_of_ble_eq_true rfl, Nat.le_of_ble_eq_true rfl⟩) hS (fun q _ h => hFc q h) hFc (fun r867 u t H1 locs ht hvm hw hB hz1 hk1 hS => ?_)
  obtain ⟨hP1, hK1, hD1⟩ := hB
  rw [ht] at hP1
  try dsimp only at hw
  obtain ⟨hP, hD⟩ := va_join (wr := []) (w1 := []) hP hD [] [] rfl rfl (by decide) (by decide) hk1 hFc hP1 hD1
  have hK := hK.sub (tys' := []) [] rfl
  generalize H1 = H at hP hS ⊢
  have hP : va_P (dC, dI) vwCl [] H := hP
  have hD : va_D A [] := hD
  have er868 := hw
  subst er868
  refine lv_if_eq (tgt := 16) hx hb dJ0_charAt_5068e_4 (by decide) (fun c869 => absurd c869 (by decide)) (fun c869 => ?_)
  refine lv_aload_n hx hb dJ0_charAt_5068e_7 rfl (lv_at hl 0 rfl) ?_
  refine vk_getf (v := .ref (adV 0)) hx hb (hC.1.1 0 (by decide)).2.2.1 hS hown (hts (.fieldLink RJ0 9 "java/lang/String" "value" "[B") (by decide +kernel)) (fun _ h9 => h9) dJ0_charAt_5068e_8 ?_
  refine lv_iload_n hx hb dJ0_charAt_5068e_11 rfl (lv_at hl 1 rfl) ?_
  have hPc := hP.sub (ws' := []) [] rfl
  have hDc := hD.sub (ws' := []) [] (by decide) rfl
  have hKc := hK.sub (tys' := []) [] rfl
  have hFc := va_free (wc := []) hD hS hA [] rfl
  refine va_calli (va_runS (As := [.ref (adV 0), .int Va0]) (rest := []) ⟨hx, hb, hml, hown, hts⟩ (zk_J1_charAt_3b067 l dC dI H.size adK adV Va0  (by (try simp only [i_lt, i_le, i_eq] at gv_Va0); omega)) (va_cwS 2 hts g_zk_J0_charAt_5068e_zk_J1_charAt_3b067_495 rfl rfl rfl (by decide +kernel) ⟨Nat.le_of_ble_eq_true rfl, Nat.le_of_ble_eq_true rfl⟩) ⟨fun a U g mk q => by obtain ⟨q0, q1, qC, qP, qK, qD⟩ := q; exact ⟨q0, q1, Kc_call qC, qP, va_K.moved (u := U) (U := U.calling g mk a) (Vm.Alike.refl U.vm) qK, qD⟩, fun U hU hW => ⟨rfl, by rw [hU], Kc_go hC hS hFc hU hW, by rw [hU]; exact hPc, va_K.moved hW.alike hKc, hDc.weaken (fun _ _ _ _ => trivial)⟩⟩ rfl rfl hl.1 rfl (lv_room (Nat.le_of_ble_eq_true rfl)) dJ0_charAt_5068e_12 ⟨Nat.le_of_ble_eq_true rfl, Nat.le_of_ble_eq_true rfl⟩) hS (fun q _ h => hFc q h) hFc (fun r897 u t H1 locs ht hvm hw hB hz1 hk1 hS => ?_)
  obtain ⟨hP1, hK1, hD1⟩ := hB
  rw [ht] at hP1
  try dsimp only at hw
  obtain ⟨hP, hD⟩ := va_join (wr := []) (w1 := []) hP hD [] [] rfl rfl (by decide) (by decide) hk1 hFc hP1 hD1
  have hK := hK.sub (tys' := []) [] rfl
  generalize H1 = H at hP hS ⊢
  have hP : va_P (dC, dI) vwCl [] H := hP
  have hD : va_D A [] := hD
  obtain ⟨c898, c899, nc900⟩ := hw
  have hP9 := hP.sub (ws' := []) [] rfl
  have hD9 := hD.sub (ws' := []) [] (by decide) rfl
  have hK9 := hK.sub (tys' := []) [] rfl
  exact W.zret (v := r897) hx hb hr (nc900) (fun t ht hW => ⟨⟨r897, (), rfl, ⟨c898, c899, (nc900)⟩, by rw [ht]; exact hP9, va_K.moved hW.alike hK9, hD9⟩, hS.F ht⟩) hS.2.2 dJ0_charAt_5068e_15

def l_zk_X9_isDigit : List Cond := []
def w_zk_X9_isDigit : List Cond := .code yX9_isDigit cX9_isDigit 1 (some .boolean) :: (l_zk_X9_isDigit)
set_option maxHeartbeats 4000000 in
set_option maxRecDepth 100000 in
theorem zk_X9_isDigit (l : Launch) (dC : Nat → ClassId) (dI : Nat → Nat → Nat) (sz : Nat) (Va0 : Int32)   : Met l yX9_isDigit w_zk_X9_isDigit ({ frames := 0, cells := 0, slots := 0, locals := 0 }) (va_Pc [.int Va0] (fun U => U.heap.size = sz ∧ Wd dC dI [] (fun _ => True) [] U)) (va_Qi (fun (r : Int32) (u : Unit) => (Va0 < 48 ∧ r = 0) ∨ (¬ Va0 < 48 ∧ 57 < Va0 ∧ r = 0) ∨ (¬ Va0 < 48 ∧ ¬ 57 < Va0 ∧ r = 1)) (fun (u : Unit) t => Wd dC dI [] (va_A [] sz) [] t) (va_A [] sz))  0 0 (va_A [] sz) := by
  refine Met.ofW (cc := cX9_isDigit) (maxL := 1) (ret := (some .boolean)) (by decide) rfl ?_
  intro p e s m args below meth c s₁ B hml hv
  obtain ⟨rfl, hsz, hP, hK, hD0⟩ := hv
  have hx := B.exec
  have hb := B.bytes
  have hr := B.returns
  have hts := atoms_spec (ws := w_zk_X9_isDigit) B.pre
  have hown : s.vm.findClass RX9 = some m.cls := findClass_of_methodNamed B.named
  have hlocks := B.notSynchronized
  subst hsz
  have hD := hD0.self (sz := s.heap.size)
  generalize hAe : va_A [] s.heap.size = A at hD ⊢
  have hA : ∀ q : Nat, s.heap.size ≤ q → A q := fun q h => by rw [← hAe]; exact Or.inr h
  have hS : va_S A s.heap s.heap [] := va_S.rf
  have hl := lv_entry ([.int Va0]) (n := 1) (Nat.le_of_ble_eq_true rfl)
  rw [lg_entry_eq]
  generalize (lg_sl ([.int Va0]) ++ List.replicate (1 - (lg_sl ([.int Va0])).length) Slot.unset).toArray = ls at hl ⊢
  have hl : lv_has ls 1 [(0, .int Va0)] := hl
  refine lv_iload_n hx hb dX9_isDigit_0 rfl (lv_at hl 0 rfl) ?_
  refine lv_bipush (v := 48) hx hb dX9_isDigit_1 (by decide) ?_
  refine lv_icmp_lt (tgt := 16) hx hb dX9_isDigit_3 (by decide) (fun c964 => ?_) (fun c964 => ?_)
  · skip
    refine lv_iconst (v := 0) hx hb dX9_isDigit_16 (by decide) ?_
    have hP9 := hP.sub (ws' := []) [] rfl
    have hD9 := hD.sub (ws' := []) [] (by decide) rfl
    have hK9 := hK.sub (tys' := []) [] rfl
    exact W.zret (v := 0) hx hb hr rfl (fun t ht hW => ⟨⟨0, (), rfl, (Or.inl ⟨c964, rfl⟩), by rw [ht]; exact hP9, va_K.moved hW.alike hK9, hD9⟩, hS.F ht⟩) hS.2.2 dX9_isDigit_17
  · skip
    refine lv_iload_n hx hb dX9_isDigit_6 rfl (lv_at hl 0 rfl) ?_
    refine lv_bipush (v := 57) hx hb dX9_isDigit_7 (by decide) ?_
    refine lv_icmp_gt (tgt := 16) hx hb dX9_isDigit_9 (by decide) (fun c965 => ?_) (fun c965 => ?_)
    · skip
      refine lv_iconst (v := 0) hx hb dX9_isDigit_16 (by decide) ?_
      have hP9 := hP.sub (ws' := []) [] rfl
      have hD9 := hD.sub (ws' := []) [] (by decide) rfl
      have hK9 := hK.sub (tys' := []) [] rfl
      exact W.zret (v := 0) hx hb hr rfl (fun t ht hW => ⟨⟨0, (), rfl, (Or.inr (Or.inl ⟨c964, c965, rfl⟩)), by rw [ht]; exact hP9, va_K.moved hW.alike hK9, hD9⟩, hS.F ht⟩) hS.2.2 dX9_isDigit_17
    · skip
      refine lv_iconst (v := 1) hx hb dX9_isDigit_12 (by decide) ?_
      refine lv_goto (tgt := 17) hx hb dX9_isDigit_13 (by decide) ?_
      have hP9 := hP.sub (ws' := []) [] rfl
      have hD9 := hD.sub (ws' := []) [] (by decide) rfl
      have hK9 := hK.sub (tys' := []) [] rfl
      exact W.zret (v := 1) hx hb hr rfl (fun t ht hW => ⟨⟨1, (), rfl, (Or.inr (Or.inr (⟨c964, c965, rfl⟩))), by rw [ht]; exact hP9, va_K.moved hW.alike hK9, hD9⟩, hS.F ht⟩) hS.2.2 dX9_isDigit_17

def l_zk_X9_symbolOf : List Cond := [.methodLink RX9 65 yX9_isDigit, .static yX9_isDigit, .initialized RX9, .code yX9_isDigit cX9_isDigit 1 (some .boolean)]
def w_zk_X9_symbolOf : List Cond := .code yX9_symbolOf cX9_symbolOf 1 (some .int) :: (l_zk_X9_symbolOf)
theorem g_zk_X9_symbolOf_zk_X9_isDigit_65 : GoodIn w_zk_X9_symbolOf (wsS RX9 65 yX9_isDigit w_zk_X9_isDigit) := goodIn_app (goodIn_sub (by decide +kernel) (by decide +kernel)) (goodIn_sub (by decide +kernel) (by decide +kernel))
set_option maxHeartbeats 4000000 in
set_option maxRecDepth 100000 in
theorem zk_X9_symbolOf (l : Launch) (dC : Nat → ClassId) (dI : Nat → Nat → Nat) (sz : Nat) (Va0 : Int32)   : Met l yX9_symbolOf w_zk_X9_symbolOf ({ frames := 1, cells := 0, slots := 0, locals := 20 }) (va_Pc [.int Va0] (fun U => U.heap.size = sz ∧ Wd dC dI [] (fun _ => True) [] U)) (va_Qi (fun (r : Int32) (u : Unit) => (Va0 < 65 ∧ Va0 < 97 ∧ Va0 < 48 ∧ r = 0) ∨ (Va0 < 65 ∧ Va0 < 97 ∧ ¬ Va0 < 48 ∧ 57 < Va0 ∧ r = 0) ∨ (Va0 < 65 ∧ Va0 < 97 ∧ ¬ Va0 < 48 ∧ ¬ 57 < Va0 ∧ r = ((Va0 - 48) + 53)) ∨ (¬ Va0 < 65 ∧ 90 < Va0 ∧ Va0 < 97 ∧ ¬ Va0 < 48 ∧ 57 < Va0 ∧ r = 0) ∨ (¬ Va0 < 65 ∧ 90 < Va0 ∧ ¬ Va0 < 97 ∧ 122 < Va0 ∧ ¬ Va0 < 48 ∧ 57 < Va0 ∧ r = 0) ∨ (¬ Va0 < 65 ∧ 90 < Va0 ∧ ¬ Va0 < 97 ∧ ¬ 122 < Va0 ∧ r = ((Va0 - 97) + 27)) ∨ (¬ Va0 < 65 ∧ ¬ 90 < Va0 ∧ r = ((Va0 - 65) + 1))) (fun (u : Unit) t => Wd dC dI [] (va_A [] sz) [] t) (va_A [] sz))  0 0 (va_A [] sz) := by
  refine Met.ofW (cc := cX9_symbolOf) (maxL := 1) (ret := (some .int)) (by decide) rfl ?_
  intro p e s m args below meth c s₁ B hml hv
  obtain ⟨rfl, hsz, hP, hK, hD0⟩ := hv
  have hx := B.exec
  have hb := B.bytes
  have hr := B.returns
  have hts := atoms_spec (ws := w_zk_X9_symbolOf) B.pre
  have hown : s.vm.findClass RX9 = some m.cls := findClass_of_methodNamed B.named
  have hlocks := B.notSynchronized
  subst hsz
  have hD := hD0.self (sz := s.heap.size)
  generalize hAe : va_A [] s.heap.size = A at hD ⊢
  have hA : ∀ q : Nat, s.heap.size ≤ q → A q := fun q h => by rw [← hAe]; exact Or.inr h
  have hS : va_S A s.heap s.heap [] := va_S.rf
  have hl := lv_entry ([.int Va0]) (n := 1) (Nat.le_of_ble_eq_true rfl)
  rw [lg_entry_eq]
  generalize (lg_sl ([.int Va0]) ++ List.replicate (1 - (lg_sl ([.int Va0])).length) Slot.unset).toArray = ls at hl ⊢
  have hl : lv_has ls 1 [(0, .int Va0)] := hl
  refine lv_iload_n hx hb dX9_symbolOf_0 rfl (lv_at hl 0 rfl) ?_
  refine lv_bipush (v := 65) hx hb dX9_symbolOf_1 (by decide) ?_
  refine lv_icmp_lt (tgt := 19) hx hb dX9_symbolOf_3 (by decide) (fun c1011 => ?_) (fun c1011 => ?_)
  · skip
    refine lv_iload_n hx hb dX9_symbolOf_19 rfl (lv_at hl 0 rfl) ?_
    refine lv_bipush (v := 97) hx hb dX9_symbolOf_20 (by decide) ?_
    refine lv_icmp_lt (tgt := 39) hx hb dX9_symbolOf_22 (by decide) (fun c1012 => ?_) (fun c1012 => (by exfalso; have bd_Va0 := i_bd Va0; (try simp only [i_lt, i_le, i_eq, kc_65, kc_97] at c1011 c1012); omega))
    refine lv_iload_n hx hb dX9_symbolOf_39 rfl (lv_at hl 0 rfl) ?_
    have hPc := hP.sub (ws' := []) [] rfl
    have hDc := hD.sub (ws' := []) [] (by decide) rfl
    have hKc := hK.sub (tys' := []) [] rfl
    have hFc := va_free (wc := []) hD hS hA [] rfl
    refine va_calli (va_runS (As := [.int Va0]) (rest := []) ⟨hx, hb, hml, hown, hts⟩ (zk_X9_isDigit l dC dI s.heap.size Va0  ) (cwS 1 hts g_zk_X9_symbolOf_zk_X9_isDigit_65 rfl rfl rfl (by decide +kernel) ⟨Nat.le_of_ble_eq_true rfl, Nat.le_of_ble_eq_true rfl⟩) ⟨fun a U g mk q => by obtain ⟨q0, q1, qP, qK, qD⟩ := q; exact ⟨q0, q1, qP, va_K.moved (u := U) (U := U.calling g mk a) (Vm.Alike.refl U.vm) qK, qD⟩, fun U hU hW => ⟨rfl, by rw [hU], by rw [hU]; exact hPc, va_K.moved hW.alike hKc, hDc.weaken (fun _ _ _ _ => trivial)⟩⟩ rfl rfl hl.1 rfl (lv_room (Nat.le_of_ble_eq_true rfl)) dX9_symbolOf_40 ⟨Nat.le_of_ble_eq_true rfl, Nat.le_of_ble_eq_true rfl⟩) hS (fun q _ h => hFc q h) hFc (fun r1015 u t H1 locs ht hvm hw hB hz1 hk1 hS => ?_)
    obtain ⟨hP1, hK1, hD1⟩ := hB
    rw [ht] at hP1
    try dsimp only at hw
    obtain ⟨hP, hD⟩ := va_join (wr := []) (w1 := []) hP hD [] [] rfl rfl (by decide) (by decide) hk1 hFc hP1 hD1
    have hK := hK.sub (tys' := []) [] rfl
    generalize H1 = H at hP hS ⊢
    have hP : va_P (dC, dI) vwCl [] H := hP
    have hD : va_D A [] := hD
    rcases hw with ⟨c1016, er1017⟩ | ⟨c1018, c1019, er1020⟩ | ⟨c1021, c1022, er1023⟩
    · skip
      subst er1017
      refine lv_if_eq (tgt := 56) hx hb dX9_symbolOf_43 (by decide) (fun c1024 => ?_) (fun c1024 => absurd c1024 (by decide))
      refine lv_iconst (v := 0) hx hb dX9_symbolOf_56 (by decide) ?_
      have hP9 := hP.sub (ws' := []) [] rfl
      have hD9 := hD.sub (ws' := []) [] (by decide) rfl
      have hK9 := hK.sub (tys' := []) [] rfl
      exact W.iret (v := 0) hx hb hr (fun t ht hW => ⟨⟨0, (), rfl, (Or.inl ⟨c1011, c1012, c1016, rfl⟩), by rw [ht]; exact hP9, va_K.moved hW.alike hK9, hD9⟩, hS.F ht⟩) hS.2.2 dX9_symbolOf_57
    · skip
      subst er1020
      refine lv_if_eq (tgt := 56) hx hb dX9_symbolOf_43 (by decide) (fun c1025 => ?_) (fun c1025 => absurd c1025 (by decide))
      refine lv_iconst (v := 0) hx hb dX9_symbolOf_56 (by decide) ?_
      have hP9 := hP.sub (ws' := []) [] rfl
      have hD9 := hD.sub (ws' := []) [] (by decide) rfl
      have hK9 := hK.sub (tys' := []) [] rfl
      exact W.iret (v := 0) hx hb hr (fun t ht hW => ⟨⟨0, (), rfl, (Or.inr (Or.inl ⟨c1011, c1012, c1018, c1019, rfl⟩)), by rw [ht]; exact hP9, va_K.moved hW.alike hK9, hD9⟩, hS.F ht⟩) hS.2.2 dX9_symbolOf_57
    · skip
      subst er1023
      refine lv_if_eq (tgt := 56) hx hb dX9_symbolOf_43 (by decide) (fun c1026 => absurd c1026 (by decide)) (fun c1026 => ?_)
      refine lv_iload_n hx hb dX9_symbolOf_46 rfl (lv_at hl 0 rfl) ?_
      refine lv_bipush (v := 48) hx hb dX9_symbolOf_47 (by decide) ?_
      refine lv_isub hx hb dX9_symbolOf_49  ?_
      refine lv_topi (fun x1027 ex1027 => ?_)
      have tx1027 : x1027.toInt = (Va0 : Int32).toInt - (48 : Int32).toInt := by rw [ex1027]; exact i_sub (by have bd_Va0 := i_bd Va0; (try simp only [i_lt, i_le, i_eq, kc_65, kc_97, kc_48, kc_57] at c1011 c1012 c1021 c1022 ⊢); omega) (by have bd_Va0 := i_bd Va0; (try simp only [i_lt, i_le, i_eq, kc_65, kc_97, kc_48, kc_57] at c1011 c1012 c1021 c1022 ⊢); omega)
      refine lv_bipush (v := 53) hx hb dX9_symbolOf_50 (by decide) ?_
      refine lv_iadd hx hb dX9_symbolOf_52  ?_
      refine lv_topi (fun x1028 ex1028 => ?_)
      have tx1028 : x1028.toInt = (x1027 : Int32).toInt + (53 : Int32).toInt := by rw [ex1028]; exact i_add (by have bd_x1027 := i_bd x1027; (try simp only [i_lt, i_le, i_eq, kc_48, kc_65, kc_97, kc_57, kc_53] at tx1027 c1011 c1012 c1021 c1022 ⊢); omega) (by have bd_x1027 := i_bd x1027; (try simp only [i_lt, i_le, i_eq, kc_48, kc_65, kc_97, kc_57, kc_53] at tx1027 c1011 c1012 c1021 c1022 ⊢); omega)
      refine lv_goto (tgt := 57) hx hb dX9_symbolOf_53 (by decide) ?_
      have hP9 := hP.sub (ws' := []) [] rfl
      have hD9 := hD.sub (ws' := []) [] (by decide) rfl
      have hK9 := hK.sub (tys' := []) [] rfl
      exact W.iret (v := x1028) hx hb hr (fun t ht hW => ⟨⟨x1028, (), rfl, (Or.inr (Or.inr (Or.inl ⟨c1011, c1012, c1021, c1022, (by subst_vars; rfl)⟩))), by rw [ht]; exact hP9, va_K.moved hW.alike hK9, hD9⟩, hS.F ht⟩) hS.2.2 dX9_symbolOf_57
  · skip
    refine lv_iload_n hx hb dX9_symbolOf_6 rfl (lv_at hl 0 rfl) ?_
    refine lv_bipush (v := 90) hx hb dX9_symbolOf_7 (by decide) ?_
    refine lv_icmp_gt (tgt := 19) hx hb dX9_symbolOf_9 (by decide) (fun c1029 => ?_) (fun c1029 => ?_)
    · skip
      refine lv_iload_n hx hb dX9_symbolOf_19 rfl (lv_at hl 0 rfl) ?_
      refine lv_bipush (v := 97) hx hb dX9_symbolOf_20 (by decide) ?_
      refine lv_icmp_lt (tgt := 39) hx hb dX9_symbolOf_22 (by decide) (fun c1030 => ?_) (fun c1030 => ?_)
      · skip
        refine lv_iload_n hx hb dX9_symbolOf_39 rfl (lv_at hl 0 rfl) ?_
        have hPc := hP.sub (ws' := []) [] rfl
        have hDc := hD.sub (ws' := []) [] (by decide) rfl
        have hKc := hK.sub (tys' := []) [] rfl
        have hFc := va_free (wc := []) hD hS hA [] rfl
        refine va_calli (va_runS (As := [.int Va0]) (rest := []) ⟨hx, hb, hml, hown, hts⟩ (zk_X9_isDigit l dC dI s.heap.size Va0  ) (cwS 1 hts g_zk_X9_symbolOf_zk_X9_isDigit_65 rfl rfl rfl (by decide +kernel) ⟨Nat.le_of_ble_eq_true rfl, Nat.le_of_ble_eq_true rfl⟩) ⟨fun a U g mk q => by obtain ⟨q0, q1, qP, qK, qD⟩ := q; exact ⟨q0, q1, qP, va_K.moved (u := U) (U := U.calling g mk a) (Vm.Alike.refl U.vm) qK, qD⟩, fun U hU hW => ⟨rfl, by rw [hU], by rw [hU]; exact hPc, va_K.moved hW.alike hKc, hDc.weaken (fun _ _ _ _ => trivial)⟩⟩ rfl rfl hl.1 rfl (lv_room (Nat.le_of_ble_eq_true rfl)) dX9_symbolOf_40 ⟨Nat.le_of_ble_eq_true rfl, Nat.le_of_ble_eq_true rfl⟩) hS (fun q _ h => hFc q h) hFc (fun r1033 u t H1 locs ht hvm hw hB hz1 hk1 hS => ?_)
        obtain ⟨hP1, hK1, hD1⟩ := hB
        rw [ht] at hP1
        try dsimp only at hw
        obtain ⟨hP, hD⟩ := va_join (wr := []) (w1 := []) hP hD [] [] rfl rfl (by decide) (by decide) hk1 hFc hP1 hD1
        have hK := hK.sub (tys' := []) [] rfl
        generalize H1 = H at hP hS ⊢
        have hP : va_P (dC, dI) vwCl [] H := hP
        have hD : va_D A [] := hD
        rcases hw with ⟨c1034, er1035⟩ | ⟨c1036, c1037, er1038⟩ | ⟨c1039, c1040, er1041⟩
        · exact (by exfalso; (try simp only [i_lt, i_le, i_eq, kc_65, kc_90, kc_97, kc_48] at c1011 c1029 c1030 c1034); omega)
        · skip
          subst er1038
          refine lv_if_eq (tgt := 56) hx hb dX9_symbolOf_43 (by decide) (fun c1042 => ?_) (fun c1042 => absurd c1042 (by decide))
          refine lv_iconst (v := 0) hx hb dX9_symbolOf_56 (by decide) ?_
          have hP9 := hP.sub (ws' := []) [] rfl
          have hD9 := hD.sub (ws' := []) [] (by decide) rfl
          have hK9 := hK.sub (tys' := []) [] rfl
          exact W.iret (v := 0) hx hb hr (fun t ht hW => ⟨⟨0, (), rfl, (Or.inr (Or.inr (Or.inr (Or.inl ⟨c1011, c1029, c1030, c1036, c1037, rfl⟩)))), by rw [ht]; exact hP9, va_K.moved hW.alike hK9, hD9⟩, hS.F ht⟩) hS.2.2 dX9_symbolOf_57
        · exact (by exfalso; (try simp only [i_lt, i_le, i_eq, kc_65, kc_90, kc_97, kc_48, kc_57] at c1011 c1029 c1030 c1039 c1040); omega)
      · skip
        refine lv_iload_n hx hb dX9_symbolOf_25 rfl (lv_at hl 0 rfl) ?_
        refine lv_bipush (v := 122) hx hb dX9_symbolOf_26 (by decide) ?_
        refine lv_icmp_gt (tgt := 39) hx hb dX9_symbolOf_28 (by decide) (fun c1043 => ?_) (fun c1043 => ?_)
        · skip
          refine lv_iload_n hx hb dX9_symbolOf_39 rfl (lv_at hl 0 rfl) ?_
          have hPc := hP.sub (ws' := []) [] rfl
          have hDc := hD.sub (ws' := []) [] (by decide) rfl
          have hKc := hK.sub (tys' := []) [] rfl
          have hFc := va_free (wc := []) hD hS hA [] rfl
          refine va_calli (va_runS (As := [.int Va0]) (rest := []) ⟨hx, hb, hml, hown, hts⟩ (zk_X9_isDigit l dC dI s.heap.size Va0  ) (cwS 1 hts g_zk_X9_symbolOf_zk_X9_isDigit_65 rfl rfl rfl (by decide +kernel) ⟨Nat.le_of_ble_eq_true rfl, Nat.le_of_ble_eq_true rfl⟩) ⟨fun a U g mk q => by obtain ⟨q0, q1, qP, qK, qD⟩ := q; exact ⟨q0, q1, qP, va_K.moved (u := U) (U := U.calling g mk a) (Vm.Alike.refl U.vm) qK, qD⟩, fun U hU hW => ⟨rfl, by rw [hU], by rw [hU]; exact hPc, va_K.moved hW.alike hKc, hDc.weaken (fun _ _ _ _ => trivial)⟩⟩ rfl rfl hl.1 rfl (lv_room (Nat.le_of_ble_eq_true rfl)) dX9_symbolOf_40 ⟨Nat.le_of_ble_eq_true rfl, Nat.le_of_ble_eq_true rfl⟩) hS (fun q _ h => hFc q h) hFc (fun r1046 u t H1 locs ht hvm hw hB hz1 hk1 hS => ?_)
          obtain ⟨hP1, hK1, hD1⟩ := hB
          rw [ht] at hP1
          try dsimp only at hw
          obtain ⟨hP, hD⟩ := va_join (wr := []) (w1 := []) hP hD [] [] rfl rfl (by decide) (by decide) hk1 hFc hP1 hD1
          have hK := hK.sub (tys' := []) [] rfl
          generalize H1 = H at hP hS ⊢
          have hP : va_P (dC, dI) vwCl [] H := hP
          have hD : va_D A [] := hD
          rcases hw with ⟨c1047, er1048⟩ | ⟨c1049, c1050, er1051⟩ | ⟨c1052, c1053, er1054⟩
          · exact (by exfalso; (try simp only [i_lt, i_le, i_eq, kc_65, kc_90, kc_97, kc_122, kc_48] at c1011 c1029 c1030 c1043 c1047); omega)
          · skip
            subst er1051
            refine lv_if_eq (tgt := 56) hx hb dX9_symbolOf_43 (by decide) (fun c1055 => ?_) (fun c1055 => absurd c1055 (by decide))
            refine lv_iconst (v := 0) hx hb dX9_symbolOf_56 (by decide) ?_
            have hP9 := hP.sub (ws' := []) [] rfl
            have hD9 := hD.sub (ws' := []) [] (by decide) rfl
            have hK9 := hK.sub (tys' := []) [] rfl
            exact W.iret (v := 0) hx hb hr (fun t ht hW => ⟨⟨0, (), rfl, (Or.inr (Or.inr (Or.inr (Or.inr (Or.inl ⟨c1011, c1029, c1030, c1043, c1049, c1050, rfl⟩))))), by rw [ht]; exact hP9, va_K.moved hW.alike hK9, hD9⟩, hS.F ht⟩) hS.2.2 dX9_symbolOf_57
          · exact (by exfalso; (try simp only [i_lt, i_le, i_eq, kc_65, kc_90, kc_97, kc_122, kc_48, kc_57] at c1011 c1029 c1030 c1043 c1052 c1053); omega)
        · skip
          refine lv_iload_n hx hb dX9_symbolOf_31 rfl (lv_at hl 0 rfl) ?_
          refine lv_bipush (v := 97) hx hb dX9_symbolOf_32 (by decide) ?_
          refine lv_isub hx hb dX9_symbolOf_34  ?_
          refine lv_topi (fun x1056 ex1056 => ?_)
          have tx1056 : x1056.toInt = (Va0 : Int32).toInt - (97 : Int32).toInt := by rw [ex1056]; exact i_sub (by have bd_Va0 := i_bd Va0; (try simp only [i_lt, i_le, i_eq, kc_65, kc_90, kc_97, kc_122] at c1011 c1029 c1030 c1043 ⊢); omega) (by have bd_Va0 := i_bd Va0; (try simp only [i_lt, i_le, i_eq, kc_65, kc_90, kc_97, kc_122] at c1011 c1029 c1030 c1043 ⊢); omega)
          refine lv_bipush (v := 27) hx hb dX9_symbolOf_35 (by decide) ?_
          refine lv_iadd hx hb dX9_symbolOf_37  ?_
          refine lv_topi (fun x1057 ex1057 => ?_)
          have tx1057 : x1057.toInt = (x1056 : Int32).toInt + (27 : Int32).toInt := by rw [ex1057]; exact i_add (by have bd_x1056 := i_bd x1056; (try simp only [i_lt, i_le, i_eq, kc_97, kc_65, kc_90, kc_122, kc_27] at tx1056 c1011 c1029 c1030 c1043 ⊢); omega) (by have bd_x1056 := i_bd x1056; (try simp only [i_lt, i_le, i_eq, kc_97, kc_65, kc_90, kc_122, kc_27] at tx1056 c1011 c1029 c1030 c1043 ⊢); omega)
          have hP9 := hP.sub (ws' := []) [] rfl
          have hD9 := hD.sub (ws' := []) [] (by decide) rfl
          have hK9 := hK.sub (tys' := []) [] rfl
          exact W.iret (v := x1057) hx hb hr (fun t ht hW => ⟨⟨x1057, (), rfl, (Or.inr (Or.inr (Or.inr (Or.inr (Or.inr (Or.inl ⟨c1011, c1029, c1030, c1043, (by subst_vars; rfl)⟩)))))), by rw [ht]; exact hP9, va_K.moved hW.alike hK9, hD9⟩, hS.F ht⟩) hS.2.2 dX9_symbolOf_38
    · skip
      refine lv_iload_n hx hb dX9_symbolOf_12 rfl (lv_at hl 0 rfl) ?_
      refine lv_bipush (v := 65) hx hb dX9_symbolOf_13 (by decide) ?_
      refine lv_isub hx hb dX9_symbolOf_15  ?_
      refine lv_topi (fun x1058 ex1058 => ?_)
      have tx1058 : x1058.toInt = (Va0 : Int32).toInt - (65 : Int32).toInt := by rw [ex1058]; exact i_sub (by have bd_Va0 := i_bd Va0; (try simp only [i_lt, i_le, i_eq, kc_65, kc_90] at c1011 c1029 ⊢); omega) (by have bd_Va0 := i_bd Va0; (try simp only [i_lt, i_le, i_eq, kc_65, kc_90] at c1011 c1029 ⊢); omega)
      refine lv_iconst (v := 1) hx hb dX9_symbolOf_16 (by decide) ?_
      refine lv_iadd hx hb dX9_symbolOf_17  ?_
      refine lv_topi (fun x1059 ex1059 => ?_)
      have tx1059 : x1059.toInt = (x1058 : Int32).toInt + (1 : Int32).toInt := by rw [ex1059]; exact i_add (by have bd_x1058 := i_bd x1058; (try simp only [i_lt, i_le, i_eq, kc_65, kc_90, kc_1] at tx1058 c1011 c1029 ⊢); omega) (by have bd_x1058 := i_bd x1058; (try simp only [i_lt, i_le, i_eq, kc_65, kc_90, kc_1] at tx1058 c1011 c1029 ⊢); omega)
      have hP9 := hP.sub (ws' := []) [] rfl
      have hD9 := hD.sub (ws' := []) [] (by decide) rfl
      have hK9 := hK.sub (tys' := []) [] rfl
      exact W.iret (v := x1059) hx hb hr (fun t ht hW => ⟨⟨x1059, (), rfl, (Or.inr (Or.inr (Or.inr (Or.inr (Or.inr (Or.inr (⟨c1011, c1029, (by subst_vars; rfl)⟩))))))), by rw [ht]; exact hP9, va_K.moved hW.alike hK9, hD9⟩, hS.F ht⟩) hS.2.2 dX9_symbolOf_18
