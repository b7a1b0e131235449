def l_z_X4_init : List Cond := [.methodLink RX4 5 objectInit, .instanceMethod objectInit, .code objectInit ⟨#[0xb1]⟩ 1 none, .fieldLink RX4 11 "HeapWorks$Machine" "types" "LHeapWorks$Types;", .arrayClass .int, .fieldLink RX4 19 "HeapWorks$Machine" "sort" "[I", .arrayClass .long, .fieldLink RX4 23 "HeapWorks$Machine" "value" "[J", .fieldLink RX4 27 "HeapWorks$Machine" "setKind" "[I", .fieldLink RX4 30 "HeapWorks$Machine" "source" "[I", .fieldLink RX4 33 "HeapWorks$Machine" "cursor" "[I", .fieldLink RX4 36 "HeapWorks$Machine" "bound" "[I", .fieldLink RX4 39 "HeapWorks$Machine" "current" "[I", .fieldLink RX4 42 "HeapWorks$Machine" "total" "[J", .arrayClass .boolean, .fieldLink RX4 45 "HeapWorks$Machine" "found" "[Z", .fieldLink RX4 49 "HeapWorks$Machine" "queue" "[I", .fieldLink RX4 52 "HeapWorks$Machine" "seen" "[I", .fieldLink RX4 55 "HeapWorks$Machine" "stamp" "[I", .fieldLink RX4 58 "HeapWorks$Machine" "rowThing" "[I", .fieldLink RX4 61 "HeapWorks$Machine" "rowSort" "[I", .fieldLink RX4 64 "HeapWorks$Machine" "rowValue" "[J"]
def w_z_X4_init : List Cond := .code yX4_init cX4_init 2 none :: (l_z_X4_init ++ (wsX40))
theorem in_z_X4_init_X4 : ∀ w ∈ wsX40, w ∈ w_z_X4_init := fun w h => List.mem_cons_of_mem _ (List.mem_append_right _ (h))
set_option maxHeartbeats 4000000 in
set_option maxRecDepth 100000 in
theorem z_X4_init (l : Launch) (dC : Nat → ClassId) (dI : Nat → Nat → Nat) (sz : Nat) (Ad0 : Nat) (Fs0 : List Value) (Br0 : Nat) (k_Fs0 : fh Fs0 21 [])  : Met l yX4_init w_z_X4_init ({ frames := 1, cells := 15, slots := 21130, locals := 24 }) (va_Pc [.ref Ad0, .ref Br0] (fun U => U.heap.size = sz ∧ Wd dC dI [] (fun _ => True) [(Ad0, .inr (7, Fs0))] U)) (va_Qv (fun (u : List Value) => ow Fs0 (u) 21 [19, 18, 17, 16, 15, 14, 13, 12, 11, 10, 9, 8, 7, 5, 4, 0] [(0, .ref Br0)]) (fun (u : List Value) t => Wd dC dI [] (va_A [(Ad0, .inr (7, Fs0))] sz) [(Ad0, .inr (7, (u)))] t) (va_A [(Ad0, .inr (7, Fs0))] sz))  15 21130 (va_A [(Ad0, .inr (7, Fs0))] sz) := by
  refine Met.ofW (cc := cX4_init) (maxL := 2) (ret := none) (by decide) rfl ?_
  intro p e s m args below meth c s₁ B hml hv
  obtain ⟨rfl, hsz, hP, hK, hD0⟩ := hv
  have hx := B.exec
  have hb := B.bytes
  have hr := B.returns
  have hts := atoms_spec (ws := w_z_X4_init) B.pre
  have hown : s.vm.findClass RX4 = some m.cls := findClass_of_methodNamed B.named
  have hlocks := B.notSynchronized
  have hin : meth.name = "<init>" := (name_of_methodNamed B.named B.method).1
  subst hsz
  have hD := hD0.self (sz := s.heap.size)
  generalize hAe : va_A [(Ad0, .inr (7, Fs0))] s.heap.size = A at hD ⊢
  have hA : ∀ q : Nat, s.heap.size ≤ q → A q := fun q h => by rw [← hAe]; exact Or.inr h
  have hS : va_S A s.heap s.heap [] := va_S.rf
  have hl := lv_entry ([.ref Ad0, .ref Br0]) (n := 2) (Nat.le_of_ble_eq_true rfl)
  rw [lg_entry_eq]
  generalize (lg_sl ([.ref Ad0, .ref Br0]) ++ List.replicate (2 - (lg_sl ([.ref Ad0, .ref Br0])).length) Slot.unset).toArray = ls at hl ⊢
  have hl : lv_has ls 2 [(0, .ref Ad0), (1, .ref Br0)] := hl
  have o_Fs0 := ow_0 k_Fs0
  refine lv_aload_n hx hb dX4_init_0 rfl (lv_at hl 0 rfl) ?_
  refine W.objInit hx hb hown (hts (.methodLink RX4 5 objectInit) (by decide +kernel)) (hts (.instanceMethod objectInit) (by decide +kernel)) (hts (.code objectInit ⟨#[0xb1]⟩ 1 none) (by decide +kernel)) rfl (by rw [hml]; exact hl.1) rfl dX4_init_1 (Nat.le_of_ble_eq_true rfl) (Nat.le_of_ble_eq_true rfl) ?_
  refine W.eq (g2 := F0 m 4 ls []) rfl ?_
  refine lv_aload_n hx hb dX4_init_4 rfl (lv_at hl 0 rfl) ?_
  refine lv_aload_n hx hb dX4_init_5 rfl (lv_at hl 1 rfl) ?_
  refine va_putF (D := (dC, dI)) (ci := 7) (v := .ref Br0) (ty := .object "HeapWorks$Types") (C := RX4) (T := TX4) (N := 21) hx hb hts (in_z_X4_init_X4) tyX4 tyX4_ok nmX4 hown hK hP hD hS 0 rfl rfl 0 (by decide) (hts (.fieldLink RX4 11 "HeapWorks$Machine" "types" "LHeapWorks$Types;") (by decide +kernel)) (fun _ h9 => h9) rfl hin rfl (by decide +kernel) rfl rfl (by rw [o_Fs0.2.1]; decide) dX4_init_6 (fun H locs hP hD hS => ?_)
  have hP : va_P (dC, dI) vwCl [(Ad0, .inr (7, (Fs0.set 0 (.ref Br0))))] H := hP
  have hD : va_D A [(Ad0, .inr (7, (Fs0.set 0 (.ref Br0))))] := hD
  have o_s101 := ow_set o_Fs0 0 (.ref Br0) (by decide) (l' := [(0, .ref Br0)]) (w' := [0]) rfl rfl
  generalize (Fs0.set 0 (.ref Br0)) = s101 at hP hD o_s101
  refine lv_aload_n hx hb dX4_init_9 rfl (lv_at hl 0 rfl) ?_
  refine lv_bipush (v := 121) hx hb dX4_init_10 (by decide) ?_
  refine va_newa (atype := .int) (ty := .int) (a0 := (121, .inl (fun _ : Nat => (0 : Int32)))) (N' := 121) hx hb (hts (.arrayClass .int) (by decide +kernel)) rfl hK hP hD hS hA (na_I 121) (by decide) (by decide) (by decide) (Nat.le_of_ble_eq_true rfl) (Nat.le_of_ble_eq_true rfl) dX4_init_12 (fun q102 k103 H hK hP hD hS => ?_)
  have hK : va_K (dC, dI) vwCl [(k103, .int)] s := hK
  have hP : va_P (dC, dI) vwCl [(Ad0, .inr (7, s101)), (q102, .inl (k103, 121, .inl ((fun _ : Nat => (0 : Int32)))))] H := hP
  have hD : va_D A [(Ad0, .inr (7, s101)), (q102, .inl (k103, 121, .inl ((fun _ : Nat => (0 : Int32)))))] := hD
  have z105 : ∀ j, (fun _ : Nat => (0 : Int32)) j = 0 := fun _ => rfl
  generalize (fun _ : Nat => (0 : Int32)) = f104 at hP hD z105
  refine W.widen (k := 1) (n := 121) (by omega) (by omega) ?_
  refine va_putF (D := (dC, dI)) (ci := 7) (v := .ref q102) (ty := .array .int) (C := RX4) (T := TX4) (N := 21) hx hb hts (in_z_X4_init_X4) tyX4 tyX4_ok nmX4 hown hK hP hD hS 0 rfl rfl 4 (by decide) (hts (.fieldLink RX4 19 "HeapWorks$Machine" "sort" "[I") (by decide +kernel)) (fun _ h9 => h9) rfl hin rfl (by decide +kernel) rfl rfl (by rw [o_s101.2.1]; decide) dX4_init_14 (fun H locs hP hD hS => ?_)
  have hP : va_P (dC, dI) vwCl [(Ad0, .inr (7, (s101.set 4 (.ref q102)))), (q102, .inl (k103, 121, .inl f104))] H := hP
  have hD : va_D A [(Ad0, .inr (7, (s101.set 4 (.ref q102)))), (q102, .inl (k103, 121, .inl f104))] := hD
  have o_s106 := ow_set o_s101 4 (.ref q102) (by decide) (l' := [(4, .ref q102), (0, .ref Br0)]) (w' := [4, 0]) rfl rfl
  generalize (s101.set 4 (.ref q102)) = s106 at hP hD o_s106
  have hP := hP.sub (ws' := [(Ad0, .inr (7, s106))]) [0] rfl
  have hD := hD.sub (ws' := [(Ad0, .inr (7, s106))]) [0] (by decide) rfl
  have hK := hK.sub (tys' := []) [] rfl
  refine lv_aload_n hx hb dX4_init_17 rfl (lv_at hl 0 rfl) ?_
  refine lv_bipush (v := 121) hx hb dX4_init_18 (by decide) ?_
  refine va_newa (atype := .long) (ty := .long) (a0 := (121, .inr (.inl (fun _ : Nat => (0 : Int64))))) (N' := 121) hx hb (hts (.arrayClass .long) (by decide +kernel)) rfl hK hP hD hS hA (na_J 121) (by decide) (by decide) (by decide) (Nat.le_of_ble_eq_true rfl) (Nat.le_of_ble_eq_true rfl) dX4_init_20 (fun q107 k108 H hK hP hD hS => ?_)
  have hK : va_K (dC, dI) vwCl [(k108, .long)] s := hK
  have hP : va_P (dC, dI) vwCl [(Ad0, .inr (7, s106)), (q107, .inl (k108, 121, .inr (.inl ((fun _ : Nat => (0 : Int64))))))] H := hP
  have hD : va_D A [(Ad0, .inr (7, s106)), (q107, .inl (k108, 121, .inr (.inl ((fun _ : Nat => (0 : Int64))))))] := hD
  have z110 : ∀ j, (fun _ : Nat => (0 : Int64)) j = 0 := fun _ => rfl
  generalize (fun _ : Nat => (0 : Int64)) = f109 at hP hD z110
  refine W.widen (k := 2) (n := 242) (by omega) (by omega) ?_
  refine va_putF (D := (dC, dI)) (ci := 7) (v := .ref q107) (ty := .array .long) (C := RX4) (T := TX4) (N := 21) hx hb hts (in_z_X4_init_X4) tyX4 tyX4_ok nmX4 hown hK hP hD hS 0 rfl rfl 5 (by decide) (hts (.fieldLink RX4 23 "HeapWorks$Machine" "value" "[J") (by decide +kernel)) (fun _ h9 => h9) rfl hin rfl (by decide +kernel) rfl rfl (by rw [o_s106.2.1]; decide) dX4_init_22 (fun H locs hP hD hS => ?_)
  have hP : va_P (dC, dI) vwCl [(Ad0, .inr (7, (s106.set 5 (.ref q107)))), (q107, .inl (k108, 121, .inr (.inl f109)))] H := hP
  have hD : va_D A [(Ad0, .inr (7, (s106.set 5 (.ref q107)))), (q107, .inl (k108, 121, .inr (.inl f109)))] := hD
  have o_s111 := ow_set o_s106 5 (.ref q107) (by decide) (l' := [(5, .ref q107), (4, .ref q102), (0, .ref Br0)]) (w' := [5, 4, 0]) rfl rfl
  generalize (s106.set 5 (.ref q107)) = s111 at hP hD o_s111
  have hP := hP.sub (ws' := [(Ad0, .inr (7, s111))]) [0] rfl
  have hD := hD.sub (ws' := [(Ad0, .inr (7, s111))]) [0] (by decide) rfl
  have hK := hK.sub (tys' := []) [] rfl
  refine lv_aload_n hx hb dX4_init_25 rfl (lv_at hl 0 rfl) ?_
  refine lv_bipush (v := 11) hx hb dX4_init_26 (by decide) ?_
  refine va_newa (atype := .int) (ty := .int) (a0 := (11, .inl (fun _ : Nat => (0 : Int32)))) (N' := 11) hx hb (hts (.arrayClass .int) (by decide +kernel)) rfl hK hP hD hS hA (na_I 11) (by decide) (by decide) (by decide) (Nat.le_of_ble_eq_true rfl) (Nat.le_of_ble_eq_true rfl) dX4_init_28 (fun q112 k113 H hK hP hD hS => ?_)
  have hK : va_K (dC, dI) vwCl [(k113, .int)] s := hK
  have hP : va_P (dC, dI) vwCl [(Ad0, .inr (7, s111)), (q112, .inl (k113, 11, .inl ((fun _ : Nat => (0 : Int32)))))] H := hP
  have hD : va_D A [(Ad0, .inr (7, s111)), (q112, .inl (k113, 11, .inl ((fun _ : Nat => (0 : Int32)))))] := hD
  have z115 : ∀ j, (fun _ : Nat => (0 : Int32)) j = 0 := fun _ => rfl
  generalize (fun _ : Nat => (0 : Int32)) = f114 at hP hD z115
  refine W.widen (k := 3) (n := 253) (by omega) (by omega) ?_
  refine va_putF (D := (dC, dI)) (ci := 7) (v := .ref q112) (ty := .array .int) (C := RX4) (T := TX4) (N := 21) hx hb hts (in_z_X4_init_X4) tyX4 tyX4_ok nmX4 hown hK hP hD hS 0 rfl rfl 7 (by decide) (hts (.fieldLink RX4 27 "HeapWorks$Machine" "setKind" "[I") (by decide +kernel)) (fun _ h9 => h9) rfl hin rfl (by decide +kernel) rfl rfl (by rw [o_s111.2.1]; decide) dX4_init_30 (fun H locs hP hD hS => ?_)
  have hP : va_P (dC, dI) vwCl [(Ad0, .inr (7, (s111.set 7 (.ref q112)))), (q112, .inl (k113, 11, .inl f114))] H := hP
  have hD : va_D A [(Ad0, .inr (7, (s111.set 7 (.ref q112)))), (q112, .inl (k113, 11, .inl f114))] := hD
  have o_s116 := ow_set o_s111 7 (.ref q112) (by decide) (l' := [(7, .ref q112), (5, .ref q107), (4, .ref q102), (0, .ref Br0)]) (w' := [7, 5, 4, 0]) rfl rfl
  generalize (s111.set 7 (.ref q112)) = s116 at hP hD o_s116
  have hP := hP.sub (ws' := [(Ad0, .inr (7, s116))]) [0] rfl
  have hD := hD.sub (ws' := [(Ad0, .inr (7, s116))]) [0] (by decide) rfl
  have hK := hK.sub (tys' := []) [] rfl
  refine lv_aload_n hx hb dX4_init_33 rfl (lv_at hl 0 rfl) ?_
  refine lv_bipush (v := 11) hx hb dX4_init_34 (by decide) ?_
  refine va_newa (atype := .int) (ty := .int) (a0 := (11, .inl (fun _ : Nat => (0 : Int32)))) (N' := 11) hx hb (hts (.arrayClass .int) (by decide +kernel)) rfl hK hP hD hS hA (na_I 11) (by decide) (by decide) (by decide) (Nat.le_of_ble_eq_true rfl) (Nat.le_of_ble_eq_true rfl) dX4_init_36 (fun q117 k118 H hK hP hD hS => ?_)
  have hK : va_K (dC, dI) vwCl [(k118, .int)] s := hK
  have hP : va_P (dC, dI) vwCl [(Ad0, .inr (7, s116)), (q117, .inl (k118, 11, .inl ((fun _ : Nat => (0 : Int32)))))] H := hP
  have hD : va_D A [(Ad0, .inr (7, s116)), (q117, .inl (k118, 11, .inl ((fun _ : Nat => (0 : Int32)))))] := hD
  have z120 : ∀ j, (fun _ : Nat => (0 : Int32)) j = 0 := fun _ => rfl
  generalize (fun _ : Nat => (0 : Int32)) = f119 at hP hD z120
  refine W.widen (k := 4) (n := 264) (by omega) (by omega) ?_
  refine va_putF (D := (dC, dI)) (ci := 7) (v := .ref q117) (ty := .array .int) (C := RX4) (T := TX4) (N := 21) hx hb hts (in_z_X4_init_X4) tyX4 tyX4_ok nmX4 hown hK hP hD hS 0 rfl rfl 8 (by decide) (hts (.fieldLink RX4 30 "HeapWorks$Machine" "source" "[I") (by decide +kernel)) (fun _ h9 => h9) rfl hin rfl (by decide +kernel) rfl rfl (by rw [o_s116.2.1]; decide) dX4_init_38 (fun H locs hP hD hS => ?_)
  have hP : va_P (dC, dI) vwCl [(Ad0, .inr (7, (s116.set 8 (.ref q117)))), (q117, .inl (k118, 11, .inl f119))] H := hP
  have hD : va_D A [(Ad0, .inr (7, (s116.set 8 (.ref q117)))), (q117, .inl (k118, 11, .inl f119))] := hD
  have o_s121 := ow_set o_s116 8 (.ref q117) (by decide) (l' := [(8, .ref q117), (7, .ref q112), (5, .ref q107), (4, .ref q102), (0, .ref Br0)]) (w' := [8, 7, 5, 4, 0]) rfl rfl
  generalize (s116.set 8 (.ref q117)) = s121 at hP hD o_s121
  have hP := hP.sub (ws' := [(Ad0, .inr (7, s121))]) [0] rfl
  have hD := hD.sub (ws' := [(Ad0, .inr (7, s121))]) [0] (by decide) rfl
  have hK := hK.sub (tys' := []) [] rfl
  refine lv_aload_n hx hb dX4_init_41 rfl (lv_at hl 0 rfl) ?_
  refine lv_bipush (v := 11) hx hb dX4_init_42 (by decide) ?_
  refine va_newa (atype := .int) (ty := .int) (a0 := (11, .inl (fun _ : Nat => (0 : Int32)))) (N' := 11) hx hb (hts (.arrayClass .int) (by decide +kernel)) rfl hK hP hD hS hA (na_I 11) (by decide) (by decide) (by decide) (Nat.le_of_ble_eq_true rfl) (Nat.le_of_ble_eq_true rfl) dX4_init_44 (fun q122 k123 H hK hP hD hS => ?_)
  have hK : va_K (dC, dI) vwCl [(k123, .int)] s := hK
  have hP : va_P (dC, dI) vwCl [(Ad0, .inr (7, s121)), (q122, .inl (k123, 11, .inl ((fun _ : Nat => (0 : Int32)))))] H := hP
  have hD : va_D A [(Ad0, .inr (7, s121)), (q122, .inl (k123, 11, .inl ((fun _ : Nat => (0 : Int32)))))] := hD
  have z125 : ∀ j, (fun _ : Nat => (0 : Int32)) j = 0 := fun _ => rfl
  generalize (fun _ : Nat => (0 : Int32)) = f124 at hP hD z125
  refine W.widen (k := 5) (n := 275) (by omega) (by omega) ?_
  refine va_putF (D := (dC, dI)) (ci := 7) (v := .ref q122) (ty := .array .int) (C := RX4) (T := TX4) (N := 21) hx hb hts (in_z_X4_init_X4) tyX4 tyX4_ok nmX4 hown hK hP hD hS 0 rfl rfl 9 (by decide) (hts (.fieldLink RX4 33 "HeapWorks$Machine" "cursor" "[I") (by decide +kernel)) (fun _ h9 => h9) rfl hin rfl (by decide +kernel) rfl rfl (by rw [o_s121.2.1]; decide) dX4_init_46 (fun H locs hP hD hS => ?_)
  have hP : va_P (dC, dI) vwCl [(Ad0, .inr (7, (s121.set 9 (.ref q122)))), (q122, .inl (k123, 11, .inl f124))] H := hP
  have hD : va_D A [(Ad0, .inr (7, (s121.set 9 (.ref q122)))), (q122, .inl (k123, 11, .inl f124))] := hD
  have o_s126 := ow_set o_s121 9 (.ref q122) (by decide) (l' := [(9, .ref q122), (8, .ref q117), (7, .ref q112), (5, .ref q107), (4, .ref q102), (0, .ref Br0)]) (w' := [9, 8, 7, 5, 4, 0]) rfl rfl
  generalize (s121.set 9 (.ref q122)) = s126 at hP hD o_s126
  have hP := hP.sub (ws' := [(Ad0, .inr (7, s126))]) [0] rfl
  have hD := hD.sub (ws' := [(Ad0, .inr (7, s126))]) [0] (by decide) rfl
  have hK := hK.sub (tys' := []) [] rfl
  refine lv_aload_n hx hb dX4_init_49 rfl (lv_at hl 0 rfl) ?_
  refine lv_bipush (v := 11) hx hb dX4_init_50 (by decide) ?_
  refine va_newa (atype := .int) (ty := .int) (a0 := (11, .inl (fun _ : Nat => (0 : Int32)))) (N' := 11) hx hb (hts (.arrayClass .int) (by decide +kernel)) rfl hK hP hD hS hA (na_I 11) (by decide) (by decide) (by decide) (Nat.le_of_ble_eq_true rfl) (Nat.le_of_ble_eq_true rfl) dX4_init_52 (fun q127 k128 H hK hP hD hS => ?_)
  have hK : va_K (dC, dI) vwCl [(k128, .int)] s := hK
  have hP : va_P (dC, dI) vwCl [(Ad0, .inr (7, s126)), (q127, .inl (k128, 11, .inl ((fun _ : Nat => (0 : Int32)))))] H := hP
  have hD : va_D A [(Ad0, .inr (7, s126)), (q127, .inl (k128, 11, .inl ((fun _ : Nat => (0 : Int32)))))] := hD
  have z130 : ∀ j, (fun _ : Nat => (0 : Int32)) j = 0 := fun _ => rfl
  generalize (fun _ : Nat => (0 : Int32)) = f129 at hP hD z130
  refine W.widen (k := 6) (n := 286) (by omega) (by omega) ?_
  refine va_putF (D := (dC, dI)) (ci := 7) (v := .ref q127) (ty := .array .int) (C := RX4) (T := TX4) (N := 21) hx hb hts (in_z_X4_init_X4) tyX4 tyX4_ok nmX4 hown hK hP hD hS 0 rfl rfl 10 (by decide) (hts (.fieldLink RX4 36 "HeapWorks$Machine" "bound" "[I") (by decide +kernel)) (fun _ h9 => h9) rfl hin rfl (by decide +kernel) rfl rfl (by rw [o_s126.2.1]; decide) dX4_init_54 (fun H locs hP hD hS => ?_)
  have hP : va_P (dC, dI) vwCl [(Ad0, .inr (7, (s126.set 10 (.ref q127)))), (q127, .inl (k128, 11, .inl f129))] H := hP
  have hD : va_D A [(Ad0, .inr (7, (s126.set 10 (.ref q127)))), (q127, .inl (k128, 11, .inl f129))] := hD
  have o_s131 := ow_set o_s126 10 (.ref q127) (by decide) (l' := [(10, .ref q127), (9, .ref q122), (8, .ref q117), (7, .ref q112), (5, .ref q107), (4, .ref q102), (0, .ref Br0)]) (w' := [10, 9, 8, 7, 5, 4, 0]) rfl rfl
  generalize (s126.set 10 (.ref q127)) = s131 at hP hD o_s131
  have hP := hP.sub (ws' := [(Ad0, .inr (7, s131))]) [0] rfl
  have hD := hD.sub (ws' := [(Ad0, .inr (7, s131))]) [0] (by decide) rfl
  have hK := hK.sub (tys' := []) [] rfl
  refine lv_aload_n hx hb dX4_init_57 rfl (lv_at hl 0 rfl) ?_
  refine lv_bipush (v := 11) hx hb dX4_init_58 (by decide) ?_
  refine va_newa (atype := .int) (ty := .int) (a0 := (11, .inl (fun _ : Nat => (0 : Int32)))) (N' := 11) hx hb (hts (.arrayClass .int) (by decide +kernel)) rfl hK hP hD hS hA (na_I 11) (by decide) (by decide) (by decide) (Nat.le_of_ble_eq_true rfl) (Nat.le_of_ble_eq_true rfl) dX4_init_60 (fun q132 k133 H hK hP hD hS => ?_)
  have hK : va_K (dC, dI) vwCl [(k133, .int)] s := hK
  have hP : va_P (dC, dI) vwCl [(Ad0, .inr (7, s131)), (q132, .inl (k133, 11, .inl ((fun _ : Nat => (0 : Int32)))))] H := hP
  have hD : va_D A [(Ad0, .inr (7, s131)), (q132, .inl (k133, 11, .inl ((fun _ : Nat => (0 : Int32)))))] := hD
  have z135 : ∀ j, (fun _ : Nat => (0 : Int32)) j = 0 := fun _ => rfl
  generalize (fun _ : Nat => (0 : Int32)) = f134 at hP hD z135
  refine W.widen (k := 7) (n := 297) (by omega) (by omega) ?_
  refine va_putF (D := (dC, dI)) (ci := 7) (v := .ref q132) (ty := .array .int) (C := RX4) (T := TX4) (N := 21) hx hb hts (in_z_X4_init_X4) tyX4 tyX4_ok nmX4 hown hK hP hD hS 0 rfl rfl 11 (by decide) (hts (.fieldLink RX4 39 "HeapWorks$Machine" "current" "[I") (by decide +kernel)) (fun _ h9 => h9) rfl hin rfl (by decide +kernel) rfl rfl (by rw [o_s131.2.1]; decide) dX4_init_62 (fun H locs hP hD hS => ?_)
  have hP : va_P (dC, dI) vwCl [(Ad0, .inr (7, (s131.set 11 (.ref q132)))), (q132, .inl (k133, 11, .inl f134))] H := hP
  have hD : va_D A [(Ad0, .inr (7, (s131.set 11 (.ref q132)))), (q132, .inl (k133, 11, .inl f134))] := hD
  have o_s136 := ow_set o_s131 11 (.ref q132) (by decide) (l' := [(11, .ref q132), (10, .ref q127), (9, .ref q122), (8, .ref q117), (7, .ref q112), (5, .ref q107), (4, .ref q102), (0, .ref Br0)]) (w' := [11, 10, 9, 8, 7, 5, 4, 0]) rfl rfl
  generalize (s131.set 11 (.ref q132)) = s136 at hP hD o_s136
  have hP := hP.sub (ws' := [(Ad0, .inr (7, s136))]) [0] rfl
  have hD := hD.sub (ws' := [(Ad0, .inr (7, s136))]) [0] (by decide) rfl
  have hK := hK.sub (tys' := []) [] rfl
  refine lv_aload_n hx hb dX4_init_65 rfl (lv_at hl 0 rfl) ?_
  refine lv_bipush (v := 11) hx hb dX4_init_66 (by decide) ?_
  refine va_newa (atype := .long) (ty := .long) (a0 := (11, .inr (.inl (fun _ : Nat => (0 : Int64))))) (N' := 11) hx hb (hts (.arrayClass .long) (by decide +kernel)) rfl hK hP hD hS hA (na_J 11) (by decide) (by decide) (by decide) (Nat.le_of_ble_eq_true rfl) (Nat.le_of_ble_eq_true rfl) dX4_init_68 (fun q137 k138 H hK hP hD hS => ?_)
  have hK : va_K (dC, dI) vwCl [(k138, .long)] s := hK
  have hP : va_P (dC, dI) vwCl [(Ad0, .inr (7, s136)), (q137, .inl (k138, 11, .inr (.inl ((fun _ : Nat => (0 : Int64))))))] H := hP
  have hD : va_D A [(Ad0, .inr (7, s136)), (q137, .inl (k138, 11, .inr (.inl ((fun _ : Nat => (0 : Int64))))))] := hD
  have z140 : ∀ j, (fun _ : Nat => (0 : Int64)) j = 0 := fun _ => rfl
  generalize (fun _ : Nat => (0 : Int64)) = f139 at hP hD z140
  refine W.widen (k := 8) (n := 308) (by omega) (by omega) ?_
  refine va_putF (D := (dC, dI)) (ci := 7) (v := .ref q137) (ty := .array .long) (C := RX4) (T := TX4) (N := 21) hx hb hts (in_z_X4_init_X4) tyX4 tyX4_ok nmX4 hown hK hP hD hS 0 rfl rfl 12 (by decide) (hts (.fieldLink RX4 42 "HeapWorks$Machine" "total" "[J") (by decide +kernel)) (fun _ h9 => h9) rfl hin rfl (by decide +kernel) rfl rfl (by rw [o_s136.2.1]; decide) dX4_init_70 (fun H locs hP hD hS => ?_)
  have hP : va_P (dC, dI) vwCl [(Ad0, .inr (7, (s136.set 12 (.ref q137)))), (q137, .inl (k138, 11, .inr (.inl f139)))] H := hP
  have hD : va_D A [(Ad0, .inr (7, (s136.set 12 (.ref q137)))), (q137, .inl (k138, 11, .inr (.inl f139)))] := hD
  have o_s141 := ow_set o_s136 12 (.ref q137) (by decide) (l' := [(12, .ref q137), (11, .ref q132), (10, .ref q127), (9, .ref q122), (8, .ref q117), (7, .ref q112), (5, .ref q107), (4, .ref q102), (0, .ref Br0)]) (w' := [12, 11, 10, 9, 8, 7, 5, 4, 0]) rfl rfl
  generalize (s136.set 12 (.ref q137)) = s141 at hP hD o_s141
  have hP := hP.sub (ws' := [(Ad0, .inr (7, s141))]) [0] rfl
  have hD := hD.sub (ws' := [(Ad0, .inr (7, s141))]) [0] (by decide) rfl
  have hK := hK.sub (tys' := []) [] rfl
  refine lv_aload_n hx hb dX4_init_73 rfl (lv_at hl 0 rfl) ?_
  refine lv_bipush (v := 11) hx hb dX4_init_74 (by decide) ?_
  refine va_newa (atype := .boolean) (ty := .boolean) (a0 := (11, .inl (fun _ : Nat => (0 : Int32)))) (N' := 11) hx hb (hts (.arrayClass .boolean) (by decide +kernel)) rfl hK hP hD hS hA (na_Z 11) (by decide) (by decide) (by decide) (Nat.le_of_ble_eq_true rfl) (Nat.le_of_ble_eq_true rfl) dX4_init_76 (fun q142 k143 H hK hP hD hS => ?_)
  have hK : va_K (dC, dI) vwCl [(k143, .boolean)] s := hK
  have hP : va_P (dC, dI) vwCl [(Ad0, .inr (7, s141)), (q142, .inl (k143, 11, .inl ((fun _ : Nat => (0 : Int32)))))] H := hP
  have hD : va_D A [(Ad0, .inr (7, s141)), (q142, .inl (k143, 11, .inl ((fun _ : Nat => (0 : Int32)))))] := hD
  have z145 : ∀ j, (fun _ : Nat => (0 : Int32)) j = 0 := fun _ => rfl
  generalize (fun _ : Nat => (0 : Int32)) = f144 at hP hD z145
  refine W.widen (k := 9) (n := 319) (by omega) (by omega) ?_
  refine va_putF (D := (dC, dI)) (ci := 7) (v := .ref q142) (ty := .array .boolean) (C := RX4) (T := TX4) (N := 21) hx hb hts (in_z_X4_init_X4) tyX4 tyX4_ok nmX4 hown hK hP hD hS 0 rfl rfl 13 (by decide) (hts (.fieldLink RX4 45 "HeapWorks$Machine" "found" "[Z") (by decide +kernel)) (fun _ h9 => h9) rfl hin rfl (by decide +kernel) rfl rfl (by rw [o_s141.2.1]; decide) dX4_init_78 (fun H locs hP hD hS => ?_)
  have hP : va_P (dC, dI) vwCl [(Ad0, .inr (7, (s141.set 13 (.ref q142)))), (q142, .inl (k143, 11, .inl f144))] H := hP
  have hD : va_D A [(Ad0, .inr (7, (s141.set 13 (.ref q142)))), (q142, .inl (k143, 11, .inl f144))] := hD
  have o_s146 := ow_set o_s141 13 (.ref q142) (by decide) (l' := [(13, .ref q142), (12, .ref q137), (11, .ref q132), (10, .ref q127), (9, .ref q122), (8, .ref q117), (7, .ref q112), (5, .ref q107), (4, .ref q102), (0, .ref Br0)]) (w' := [13, 12, 11, 10, 9, 8, 7, 5, 4, 0]) rfl rfl
  generalize (s141.set 13 (.ref q142)) = s146 at hP hD o_s146
  have hP := hP.sub (ws' := [(Ad0, .inr (7, s146))]) [0] rfl
  have hD := hD.sub (ws' := [(Ad0, .inr (7, s146))]) [0] (by decide) rfl
  have hK := hK.sub (tys' := []) [] rfl
  refine lv_aload_n hx hb dX4_init_81 rfl (lv_at hl 0 rfl) ?_
  refine lv_sipush (v := 4400) hx hb dX4_init_82 (by decide) ?_
  refine va_newa (atype := .int) (ty := .int) (a0 := (4400, .inl (fun _ : Nat => (0 : Int32)))) (N' := 4400) hx hb (hts (.arrayClass .int) (by decide +kernel)) rfl hK hP hD hS hA (na_I 4400) (by decide) (by decide) (by decide) (Nat.le_of_ble_eq_true rfl) (Nat.le_of_ble_eq_true rfl) dX4_init_85 (fun q147 k148 H hK hP hD hS => ?_)
  have hK : va_K (dC, dI) vwCl [(k148, .int)] s := hK
  have hP : va_P (dC, dI) vwCl [(Ad0, .inr (7, s146)), (q147, .inl (k148, 4400, .inl ((fun _ : Nat => (0 : Int32)))))] H := hP
  have hD : va_D A [(Ad0, .inr (7, s146)), (q147, .inl (k148, 4400, .inl ((fun _ : Nat => (0 : Int32)))))] := hD
  have z150 : ∀ j, (fun _ : Nat => (0 : Int32)) j = 0 := fun _ => rfl
  generalize (fun _ : Nat => (0 : Int32)) = f149 at hP hD z150
  refine W.widen (k := 10) (n := 4719) (by omega) (by omega) ?_
  refine va_putF (D := (dC, dI)) (ci := 7) (v := .ref q147) (ty := .array .int) (C := RX4) (T := TX4) (N := 21) hx hb hts (in_z_X4_init_X4) tyX4 tyX4_ok nmX4 hown hK hP hD hS 0 rfl rfl 14 (by decide) (hts (.fieldLink RX4 49 "HeapWorks$Machine" "queue" "[I") (by decide +kernel)) (fun _ h9 => h9) rfl hin rfl (by decide +kernel) rfl rfl (by rw [o_s146.2.1]; decide) dX4_init_87 (fun H locs hP hD hS => ?_)
  have hP : va_P (dC, dI) vwCl [(Ad0, .inr (7, (s146.set 14 (.ref q147)))), (q147, .inl (k148, 4400, .inl f149))] H := hP
  have hD : va_D A [(Ad0, .inr (7, (s146.set 14 (.ref q147)))), (q147, .inl (k148, 4400, .inl f149))] := hD
  have o_s151 := ow_set o_s146 14 (.ref q147) (by decide) (l' := [(14, .ref q147), (13, .ref q142), (12, .ref q137), (11, .ref q132), (10, .ref q127), (9, .ref q122), (8, .ref q117), (7, .ref q112), (5, .ref q107), (4, .ref q102), (0, .ref Br0)]) (w' := [14, 13, 12, 11, 10, 9, 8, 7, 5, 4, 0]) rfl rfl
  generalize (s146.set 14 (.ref q147)) = s151 at hP hD o_s151
  have hP := hP.sub (ws' := [(Ad0, .inr (7, s151))]) [0] rfl
  have hD := hD.sub (ws' := [(Ad0, .inr (7, s151))]) [0] (by decide) rfl
  have hK := hK.sub (tys' := []) [] rfl
  refine lv_aload_n hx hb dX4_init_90 rfl (lv_at hl 0 rfl) ?_
  refine lv_sipush (v := 4400) hx hb dX4_init_91 (by decide) ?_
  refine va_newa (atype := .int) (ty := .int) (a0 := (4400, .inl (fun _ : Nat => (0 : Int32)))) (N' := 4400) hx hb (hts (.arrayClass .int) (by decide +kernel)) rfl hK hP hD hS hA (na_I 4400) (by decide) (by decide) (by decide) (Nat.le_of_ble_eq_true rfl) (Nat.le_of_ble_eq_true rfl) dX4_init_94 (fun q152 k153 H hK hP hD hS => ?_)
  have hK : va_K (dC, dI) vwCl [(k153, .int)] s := hK
  have hP : va_P (dC, dI) vwCl [(Ad0, .inr (7, s151)), (q152, .inl (k153, 4400, .inl ((fun _ : Nat => (0 : Int32)))))] H := hP
  have hD : va_D A [(Ad0, .inr (7, s151)), (q152, .inl (k153, 4400, .inl ((fun _ : Nat => (0 : Int32)))))] := hD
  have z155 : ∀ j, (fun _ : Nat => (0 : Int32)) j = 0 := fun _ => rfl
  generalize (fun _ : Nat => (0 : Int32)) = f154 at hP hD z155
  refine W.widen (k := 11) (n := 9119) (by omega) (by omega) ?_
  refine va_putF (D := (dC, dI)) (ci := 7) (v := .ref q152) (ty := .array .int) (C := RX4) (T := TX4) (N := 21) hx hb hts (in_z_X4_init_X4) tyX4 tyX4_ok nmX4 hown hK hP hD hS 0 rfl rfl 15 (by decide) (hts (.fieldLink RX4 52 "HeapWorks$Machine" "seen" "[I") (by decide +kernel)) (fun _ h9 => h9) rfl hin rfl (by decide +kernel) rfl rfl (by rw [o_s151.2.1]; decide) dX4_init_96 (fun H locs hP hD hS => ?_)
  have hP : va_P (dC, dI) vwCl [(Ad0, .inr (7, (s151.set 15 (.ref q152)))), (q152, .inl (k153, 4400, .inl f154))] H := hP
  have hD : va_D A [(Ad0, .inr (7, (s151.set 15 (.ref q152)))), (q152, .inl (k153, 4400, .inl f154))] := hD
  have o_s156 := ow_set o_s151 15 (.ref q152) (by decide) (l' := [(15, .ref q152), (14, .ref q147), (13, .ref q142), (12, .ref q137), (11, .ref q132), (10, .ref q127), (9, .ref q122), (8, .ref q117), (7, .ref q112), (5, .ref q107), (4, .ref q102), (0, .ref Br0)]) (w' := [15, 14, 13, 12, 11, 10, 9, 8, 7, 5, 4, 0]) rfl rfl
  generalize (s151.set 15 (.ref q152)) = s156 at hP hD o_s156
  have hP := hP.sub (ws' := [(Ad0, .inr (7, s156))]) [0] rfl
  have hD := hD.sub (ws' := [(Ad0, .inr (7, s156))]) [0] (by decide) rfl
  have hK := hK.sub (tys' := []) [] rfl
  refine lv_aload_n hx hb dX4_init_99 rfl (lv_at hl 0 rfl) ?_
  refine lv_bipush (v := 11) hx hb dX4_init_100 (by decide) ?_
  refine va_newa (atype := .int) (ty := .int) (a0 := (11, .inl (fun _ : Nat => (0 : Int32)))) (N' := 11) hx hb (hts (.arrayClass .int) (by decide +kernel)) rfl hK hP hD hS hA (na_I 11) (by decide) (by decide) (by decide) (Nat.le_of_ble_eq_true rfl) (Nat.le_of_ble_eq_true rfl) dX4_init_102 (fun q157 k158 H hK hP hD hS => ?_)
  have hK : va_K (dC, dI) vwCl [(k158, .int)] s := hK
  have hP : va_P (dC, dI) vwCl [(Ad0, .inr (7, s156)), (q157, .inl (k158, 11, .inl ((fun _ : Nat => (0 : Int32)))))] H := hP
  have hD : va_D A [(Ad0, .inr (7, s156)), (q157, .inl (k158, 11, .inl ((fun _ : Nat => (0 : Int32)))))] := hD
  have z160 : ∀ j, (fun _ : Nat => (0 : Int32)) j = 0 := fun _ => rfl
  generalize (fun _ : Nat => (0 : Int32)) = f159 at hP hD z160
  refine W.widen (k := 12) (n := 9130) (by omega) (by omega) ?_
  refine va_putF (D := (dC, dI)) (ci := 7) (v := .ref q157) (ty := .array .int) (C := RX4) (T := TX4) (N := 21) hx hb hts (in_z_X4_init_X4) tyX4 tyX4_ok nmX4 hown hK hP hD hS 0 rfl rfl 16 (by decide) (hts (.fieldLink RX4 55 "HeapWorks$Machine" "stamp" "[I") (by decide +kernel)) (fun _ h9 => h9) rfl hin rfl (by decide +kernel) rfl rfl (by rw [o_s156.2.1]; decide) dX4_init_104 (fun H locs hP hD hS => ?_)
  have hP : va_P (dC, dI) vwCl [(Ad0, .inr (7, (s156.set 16 (.ref q157)))), (q157, .inl (k158, 11, .inl f159))] H := hP
  have hD : va_D A [(Ad0, .inr (7, (s156.set 16 (.ref q157)))), (q157, .inl (k158, 11, .inl f159))] := hD
  have o_s161 := ow_set o_s156 16 (.ref q157) (by decide) (l' := [(16, .ref q157), (15, .ref q152), (14, .ref q147), (13, .ref q142), (12, .ref q137), (11, .ref q132), (10, .ref q127), (9, .ref q122), (8, .ref q117), (7, .ref q112), (5, .ref q107), (4, .ref q102), (0, .ref Br0)]) (w' := [16, 15, 14, 13, 12, 11, 10, 9, 8, 7, 5, 4, 0]) rfl rfl
  generalize (s156.set 16 (.ref q157)) = s161 at hP hD o_s161
  have hP := hP.sub (ws' := [(Ad0, .inr (7, s161))]) [0] rfl
  have hD := hD.sub (ws' := [(Ad0, .inr (7, s161))]) [0] (by decide) rfl
  have hK := hK.sub (tys' := []) [] rfl
  refine lv_aload_n hx hb dX4_init_107 rfl (lv_at hl 0 rfl) ?_
  refine lv_sipush (v := 4000) hx hb dX4_init_108 (by decide) ?_
  refine va_newa (atype := .int) (ty := .int) (a0 := (4000, .inl (fun _ : Nat => (0 : Int32)))) (N' := 4000) hx hb (hts (.arrayClass .int) (by decide +kernel)) rfl hK hP hD hS hA (na_I 4000) (by decide) (by decide) (by decide) (Nat.le_of_ble_eq_true rfl) (Nat.le_of_ble_eq_true rfl) dX4_init_111 (fun q162 k163 H hK hP hD hS => ?_)
  have hK : va_K (dC, dI) vwCl [(k163, .int)] s := hK
  have hP : va_P (dC, dI) vwCl [(Ad0, .inr (7, s161)), (q162, .inl (k163, 4000, .inl ((fun _ : Nat => (0 : Int32)))))] H := hP
  have hD : va_D A [(Ad0, .inr (7, s161)), (q162, .inl (k163, 4000, .inl ((fun _ : Nat => (0 : Int32)))))] := hD
  have z165 : ∀ j, (fun _ : Nat => (0 : Int32)) j = 0 := fun _ => rfl
  generalize (fun _ : Nat => (0 : Int32)) = f164 at hP hD z165
  refine W.widen (k := 13) (n := 13130) (by omega) (by omega) ?_
  refine va_putF (D := (dC, dI)) (ci := 7) (v := .ref q162) (ty := .array .int) (C := RX4) (T := TX4) (N := 21) hx hb hts (in_z_X4_init_X4) tyX4 tyX4_ok nmX4 hown hK hP hD hS 0 rfl rfl 17 (by decide) (hts (.fieldLink RX4 58 "HeapWorks$Machine" "rowThing" "[I") (by decide +kernel)) (fun _ h9 => h9) rfl hin rfl (by decide +kernel) rfl rfl (by rw [o_s161.2.1]; decide) dX4_init_113 (fun H locs hP hD hS => ?_)
  have hP : va_P (dC, dI) vwCl [(Ad0, .inr (7, (s161.set 17 (.ref q162)))), (q162, .inl (k163, 4000, .inl f164))] H := hP
  have hD : va_D A [(Ad0, .inr (7, (s161.set 17 (.ref q162)))), (q162, .inl (k163, 4000, .inl f164))] := hD
  have o_s166 := ow_set o_s161 17 (.ref q162) (by decide) (l' := [(17, .ref q162), (16, .ref q157), (15, .ref q152), (14, .ref q147), (13, .ref q142), (12, .ref q137), (11, .ref q132), (10, .ref q127), (9, .ref q122), (8, .ref q117), (7, .ref q112), (5, .ref q107), (4, .ref q102), (0, .ref Br0)]) (w' := [17, 16, 15, 14, 13, 12, 11, 10, 9, 8, 7, 5, 4, 0]) rfl rfl
  generalize (s161.set 17 (.ref q162)) = s166 at hP hD o_s166
  have hP := hP.sub (ws' := [(Ad0, .inr (7, s166))]) [0] rfl
  have hD := hD.sub (ws' := [(Ad0, .inr (7, s166))]) [0] (by decide) rfl
  have hK := hK.sub (tys' := []) [] rfl
  refine lv_aload_n hx hb dX4_init_116 rfl (lv_at hl 0 rfl) ?_
  refine lv_sipush (v := 4000) hx hb dX4_init_117 (by decide) ?_
  refine va_newa (atype := .int) (ty := .int) (a0 := (4000, .inl (fun _ : Nat => (0 : Int32)))) (N' := 4000) hx hb (hts (.arrayClass .int) (by decide +kernel)) rfl hK hP hD hS hA (na_I 4000) (by decide) (by decide) (by decide) (Nat.le_of_ble_eq_true rfl) (Nat.le_of_ble_eq_true rfl) dX4_init_120 (fun q167 k168 H hK hP hD hS => ?_)
  have hK : va_K (dC, dI) vwCl [(k168, .int)] s := hK
  have hP : va_P (dC, dI) vwCl [(Ad0, .inr (7, s166)), (q167, .inl (k168, 4000, .inl ((fun _ : Nat => (0 : Int32)))))] H := hP
  have hD : va_D A [(Ad0, .inr (7, s166)), (q167, .inl (k168, 4000, .inl ((fun _ : Nat => (0 : Int32)))))] := hD
  have z170 : ∀ j, (fun _ : Nat => (0 : Int32)) j = 0 := fun _ => rfl
  generalize (fun _ : Nat => (0 : Int32)) = f169 at hP hD z170
  refine W.widen (k := 14) (n := 17130) (by omega) (by omega) ?_
  refine va_putF (D := (dC, dI)) (ci := 7) (v := .ref q167) (ty := .array .int) (C := RX4) (T := TX4) (N := 21) hx hb hts (in_z_X4_init_X4) tyX4 tyX4_ok nmX4 hown hK hP hD hS 0 rfl rfl 18 (by decide) (hts (.fieldLink RX4 61 "HeapWorks$Machine" "rowSort" "[I") (by decide +kernel)) (fun _ h9 => h9) rfl hin rfl (by decide +kernel) rfl rfl (by rw [o_s166.2.1]; decide) dX4_init_122 (fun H locs hP hD hS => ?_)
  have hP : va_P (dC, dI) vwCl [(Ad0, .inr (7, (s166.set 18 (.ref q167)))), (q167, .inl (k168, 4000, .inl f169))] H := hP
  have hD : va_D A [(Ad0, .inr (7, (s166.set 18 (.ref q167)))), (q167, .inl (k168, 4000, .inl f169))] := hD
  have o_s171 := ow_set o_s166 18 (.ref q167) (by decide) (l' := [(18, .ref q167), (17, .ref q162), (16, .ref q157), (15, .ref q152), (14, .ref q147), (13, .ref q142), (12, .ref q137), (11, .ref q132), (10, .ref q127), (9, .ref q122), (8, .ref q117), (7, .ref q112), (5, .ref q107), (4, .ref q102), (0, .ref Br0)]) (w' := [18, 17, 16, 15, 14, 13, 12, 11, 10, 9, 8, 7, 5, 4, 0]) rfl rfl
  generalize (s166.set 18 (.ref q167)) = s171 at hP hD o_s171
  have hP := hP.sub (ws' := [(Ad0, .inr (7, s171))]) [0] rfl
  have hD := hD.sub (ws' := [(Ad0, .inr (7, s171))]) [0] (by decide) rfl
  have hK := hK.sub (tys' := []) [] rfl
  refine lv_aload_n hx hb dX4_init_125 rfl (lv_at hl 0 rfl) ?_
  refine lv_sipush (v := 4000) hx hb dX4_init_126 (by decide) ?_
  refine va_newa (atype := .long) (ty := .long) (a0 := (4000, .inr (.inl (fun _ : Nat => (0 : Int64))))) (N' := 4000) hx hb (hts (.arrayClass .long) (by decide +kernel)) rfl hK hP hD hS hA (na_J 4000) (by decide) (by decide) (by decide) (Nat.le_of_ble_eq_true rfl) (Nat.le_of_ble_eq_true rfl) dX4_init_129 (fun q172 k173 H hK hP hD hS => ?_)
  have hK : va_K (dC, dI) vwCl [(k173, .long)] s := hK
  have hP : va_P (dC, dI) vwCl [(Ad0, .inr (7, s171)), (q172, .inl (k173, 4000, .inr (.inl ((fun _ : Nat => (0 : Int64))))))] H := hP
  have hD : va_D A [(Ad0, .inr (7, s171)), (q172, .inl (k173, 4000, .inr (.inl ((fun _ : Nat => (0 : Int64))))))] := hD
  have z175 : ∀ j, (fun _ : Nat => (0 : Int64)) j = 0 := fun _ => rfl
  generalize (fun _ : Nat => (0 : Int64)) = f174 at hP hD z175
  refine W.widen (k := 15) (n := 21130) (by omega) (by omega) ?_
  refine va_putF (D := (dC, dI)) (ci := 7) (v := .ref q172) (ty := .array .long) (C := RX4) (T := TX4) (N := 21) hx hb hts (in_z_X4_init_X4) tyX4 tyX4_ok nmX4 hown hK hP hD hS 0 rfl rfl 19 (by decide) (hts (.fieldLink RX4 64 "HeapWorks$Machine" "rowValue" "[J") (by decide +kernel)) (fun _ h9 => h9) rfl hin rfl (by decide +kernel) rfl rfl (by rw [o_s171.2.1]; decide) dX4_init_131 (fun H locs hP hD hS => ?_)
  have hP : va_P (dC, dI) vwCl [(Ad0, .inr (7, (s171.set 19 (.ref q172)))), (q172, .inl (k173, 4000, .inr (.inl f174)))] H := hP
  have hD : va_D A [(Ad0, .inr (7, (s171.set 19 (.ref q172)))), (q172, .inl (k173, 4000, .inr (.inl f174)))] := hD
  have o_s176 := ow_set o_s171 19 (.ref q172) (by decide) (l' := [(19, .ref q172), (18, .ref q167), (17, .ref q162), (16, .ref q157), (15, .ref q152), (14, .ref q147), (13, .ref q142), (12, .ref q137), (11, .ref q132), (10, .ref q127), (9, .ref q122), (8, .ref q117), (7, .ref q112), (5, .ref q107), (4, .ref q102), (0, .ref Br0)]) (w' := [19, 18, 17, 16, 15, 14, 13, 12, 11, 10, 9, 8, 7, 5, 4, 0]) rfl rfl
  generalize (s171.set 19 (.ref q172)) = s176 at hP hD o_s176
  have hP := hP.sub (ws' := [(Ad0, .inr (7, s176))]) [0] rfl
  have hD := hD.sub (ws' := [(Ad0, .inr (7, s176))]) [0] (by decide) rfl
  have hK := hK.sub (tys' := []) [] rfl
  have hP9 := hP.sub (ws' := [(Ad0, .inr (7, s176))]) [0] rfl
  have hD9 := hD.sub (ws' := [(Ad0, .inr (7, s176))]) [0] (by decide) rfl
  have hK9 := hK.sub (tys' := []) [] rfl
  refine W.widen (k := 15) (n := 21130) (by decide) (by decide) ?_
  exact W.vret hx hb hr (fun t ht hW => ⟨⟨s176, rfl, (ow_sub o_s176 [15] rfl), by rw [ht]; exact hP9, va_K.moved hW.alike hK9, hD9⟩, hS.F ht⟩) hS.2.2 dX4_init_134

def l_z_X9_codeOf : List Cond := [.methodLink RX9 33 yJ0_length_8abf5, .instanceMethod yJ0_length_8abf5, .selects RJ0 yJ0_length_8abf5 yJ0_length_8abf5, .initialized RJ0, .constantLong RX9 43 (64), .methodLink RX9 39 yJ0_charAt_5068e, .instanceMethod yJ0_charAt_5068e, .selects RJ0 yJ0_charAt_5068e yJ0_charAt_5068e, .methodLink RX9 45 yX9_symbolOf, .static yX9_symbolOf, .initialized RX9, .code yJ0_length_8abf5 cJ0_length_8abf5 1 (some .int), .fieldLink RJ0 9 "java/lang/String" "value" "[B", .methodLink RJ0 335 yJ0_coder_7d493, .instanceMethod yJ0_coder_7d493, .selects RJ0 yJ0_coder_7d493 yJ0_coder_7d493, .code yJ0_coder_7d493 cJ0_coder_7d493 1 (some .byte), .fieldLink RJ0 38 "java/lang/String" "COMPACT_STRINGS" "Z", .fieldLink RJ0 15 "java/lang/String" "coder" "B", .code yJ0_charAt_5068e cJ0_charAt_5068e 2 (some .char), .methodLink RJ0 492 yJ0_isLatin1_aae02, .instanceMethod yJ0_isLatin1_aae02, .selects RJ0 yJ0_isLatin1_aae02 yJ0_isLatin1_aae02, .methodLink RJ0 495 yJ1_charAt_3b067, .static yJ1_charAt_3b067, .initialized RJ1, .code yJ0_isLatin1_aae02 cJ0_isLatin1_aae02 1 (some .boolean), .code yJ1_charAt_3b067 cJ1_charAt_3b067 2 (some .char), .methodLink RJ1 9 yJ0_checkIndex_df160, .static yJ0_checkIndex_df160, .code yJ0_checkIndex_df160 cJ0_checkIndex_df160 2 none, .fieldLink RJ0 1053 "jdk/internal/util/Preconditions" "SIOOBE_FORMATTER" "Ljava/util/function/BiFunction;", .methodLink RJ0 1059 yJ3_checkIndex_8e157, .static yJ3_checkIndex_8e157, .initialized RJ3, .code yJ3_checkIndex_8e157 cJ3_checkIndex_8e157 3 (some .int), .code yX9_symbolOf cX9_symbolOf 1 (some .int), .methodLink RX9 65 yX9_isDigit, .static yX9_isDigit, .code yX9_isDigit cX9_isDigit 1 (some .boolean)]
def w_z_X9_codeOf : List Cond := .code yX9_codeOf cX9_codeOf 4 (some .long) :: (l_z_X9_codeOf)
theorem g_z_X9_codeOf_z_J0_length_8abf5_1_33 : GoodIn w_z_X9_codeOf (wsV RX9 33 RJ0 yJ0_length_8abf5 w_z_J0_length_8abf5_1) := goodIn_app (goodIn_r (([.methodLink RX9 33 yJ0_length_8abf5, .instanceMethod yJ0_length_8abf5, .selects RJ0 yJ0_length_8abf5 yJ0_length_8abf5, .initialized RJ0] : List Cond)) [1, 2, 3, 4] rfl (by decide +kernel)) (goodIn_r (.code yJ0_length_8abf5 cJ0_length_8abf5 1 (some .int) :: l_z_J0_length_8abf5_1) [12, 13, 14, 15, 16, 4, 17, 18, 19] rfl (by decide +kernel))
theorem g_z_X9_codeOf_z_J0_charAt_5068e_1_39 : GoodIn w_z_X9_codeOf (wsV RX9 39 RJ0 yJ0_charAt_5068e w_z_J0_charAt_5068e_1) := goodIn_app (goodIn_r (([.methodLink RX9 39 yJ0_charAt_5068e, .instanceMethod yJ0_charAt_5068e, .selects RJ0 yJ0_charAt_5068e yJ0_charAt_5068e, .initialized RJ0] : List Cond)) [6, 7, 8, 4] rfl (by decide +kernel)) (goodIn_r (.code yJ0_charAt_5068e cJ0_charAt_5068e 2 (some .char) :: l_z_J0_charAt_5068e_1) [20, 21, 22, 23, 4, 13, 24, 25, 26, 27, 18, 19, 28, 29, 30, 31, 32, 33, 34, 35, 36] rfl (by decide +kernel))
theorem g_z_X9_codeOf_z_X9_symbolOf_45 : GoodIn w_z_X9_codeOf (wsS RX9 45 yX9_symbolOf w_z_X9_symbolOf) := goodIn_app (goodIn_r (([.methodLink RX9 45 yX9_symbolOf, .static yX9_symbolOf, .initialized RX9] : List Cond)) [9, 10, 11] rfl (by decide +kernel)) (goodIn_r (.code yX9_symbolOf cX9_symbolOf 1 (some .int) :: l_z_X9_symbolOf) [37, 38, 39, 11, 40] rfl (by decide +kernel))
set_option maxHeartbeats 4000000 in
set_option maxRecDepth 100000 in
theorem z_X9_codeOf (l : Launch) (dC : Nat → ClassId) (dI : Nat → Nat → Nat) (sz : Nat) (adK adV : Nat → Nat)    : Met l yX9_codeOf w_z_X9_codeOf ({ frames := 4, cells := 0, slots := 0, locals := 85 }) (va_Pc [.ref (adK 1)] (fun U => U.heap.size = sz ∧ Kc adK adV (va_A [] sz) U ∧ Wd dC dI [] (fun _ => True) [] U)) (va_Ql (fun (r : Int64) (u : Unit) => True) (fun (u : Unit) t => Wd dC dI [] (va_A [] sz) [] t) (va_A [] sz))  0 0 (va_A [] sz) := by
  refine Met.ofW (cc := cX9_codeOf) (maxL := 4) (ret := (some .long)) (by decide) rfl ?_
  intro p e s m args below meth c s₁ B hml hv
  obtain ⟨rfl, hsz, hC, hP, hK, hD0⟩ := hv
  have hx := B.exec
  have hb := B.bytes
  have hr := B.returns
  have hts := atoms_spec (ws := w_z_X9_codeOf) B.pre
  have hown : s.vm.findClass RX9 = some m.cls := findClass_of_methodNamed B.named
  have hlocks := B.notSynchronized
  subst hsz
  have hD := hD0.self (sz := s.heap.size)
  generalize hAe : va_A [] s.heap.size = A at hD hC ⊢
  have hA : ∀ q : Nat, s.heap.size ≤ q → A q := fun q h => by rw [← hAe]; exact Or.inr h
  have hS : va_S A s.heap s.heap [] := va_S.rf
  have hl := lv_entry ([.ref (adK 1)]) (n := 4) (Nat.le_of_ble_eq_true rfl)
  rw [lg_entry_eq]
  generalize (lg_sl ([.ref (adK 1)]) ++ List.replicate (4 - (lg_sl ([.ref (adK 1)])).length) Slot.unset).toArray = ls at hl ⊢
  have hl : lv_has ls 4 [(0, .ref (adK 1))] := hl
  refine lv_lconst (v := 0) hx hb dX9_codeOf_0 (by decide) ?_
  refine lv_lstore_n (lv' := [(1, .long 0), (0, .ref (adK 1))]) hx hb dX9_codeOf_1 rfl hl (by decide) rfl (fun ls hl => ?_)
  refine lv_iconst (v := 0) hx hb dX9_codeOf_2 (by decide) ?_
  refine lv_istore_n (lv' := [(3, .int 0), (1, .long 0), (0, .ref (adK 1))]) hx hb dX9_codeOf_3 rfl hl (by decide) rfl (fun ls hl => ?_)
  have HL1 : ∀ (n j246 : Nat) (x247 : Int32) (y248 : Int64), x247 = nI j246 → 0 ≤ j246 → j246 ≤ 4 → 5 ≤ j246 + n → ∀ (H : Heap) (locs : List Loc) (ls : Array Slot), va_P (dC, dI) vwCl [] H → va_D A [] → va_S A s.heap H locs → lv_has ls 4 [(3, .int x247), (1, .long y248), (0, .ref (adK 1))] → W p l e (headSpec w_z_X9_codeOf ({ frames := 4, cells := 0, slots := 0, locals := 85 })).room s m ([.ref (adK 1)]).toArray below meth c H locs 0 0 (MQ below (va_Ql (fun (r : Int64) (u : Unit) => True) (fun (u : Unit) t => Wd dC dI [] A [] t) A) ([.ref (adK 1)]).toArray s 0 0 A) (F0 m 4 ls []) := by
    intro n
    induction n with
    | zero =>
      intro j246 x247 y248 e249 h251 h252 h253
      exact absurd h253 (by omega)
    | succ n ih =>
      intro j246 x247 y248 e249 h251 h252 h253 H locs ls hP hD hS hl
      have t250 : x247.toInt = (j246 : Int) := by rw [e249]; exact nI_toInt (by omega)
      refine lv_iload_n hx hb dX9_codeOf_4 rfl (lv_at hl 0 rfl) ?_
      refine lv_aload_n hx hb dX9_codeOf_5 rfl (lv_at hl 2 rfl) ?_
      have hPc := hP.sub (ws' := []) [] rfl
      have hDc := hD.sub (ws' := []) [] (by decide) rfl
      have hKc := hK.sub (tys' := []) [] rfl
      have hFc := va_free (wc := []) hD hS hA [] rfl
      refine va_calli (va_runV (As := []) (rest := [.int x247]) ⟨hx, hb, hml, hown, hts⟩ (z_J0_length_8abf5_1 l dC dI H.size adK adV   ) (cwV 0 hts g_z_X9_codeOf_z_J0_length_8abf5_1_33 rfl rfl rfl (by decide +kernel) ⟨Nat.le_of_ble_eq_true rfl, Nat.le_of_ble_eq_true rfl⟩) ⟨fun a U g mk q => by obtain ⟨q0, q1, qC, qP, qK, qD⟩ := q; exact ⟨q0, q1, Kc_call qC, qP, va_K.moved (u := U) (U := U.calling g mk a) (Vm.Alike.refl U.vm) qK, qD⟩, vk_recv hC.1 (i := 1) (by decide) hS, fun U hU hW => ⟨rfl, by rw [hU], Kc_go hC hS hFc hU hW, by rw [hU]; exact hPc, va_K.moved hW.alike hKc, hDc.weaken (fun _ _ _ _ => trivial)⟩⟩ rfl rfl hl.1 rfl (lv_room (Nat.le_of_ble_eq_true rfl)) dX9_codeOf_6 ⟨Nat.le_of_ble_eq_true rfl, Nat.le_of_ble_eq_true rfl⟩) hS (fun q _ h => hFc q h) hFc (fun r254 u t H1 locs ht hvm hw hB hz1 hk1 hS => ?_)
      obtain ⟨hP1, hK1, hD1⟩ := hB
      rw [ht] at hP1
      try dsimp only at hw
      obtain ⟨hP, hD⟩ := va_join (wr := []) (w1 := []) hP hD [] [] rfl rfl (by decide) (by decide) hk1 hFc hP1 hD1
      have hK := hK.sub (tys' := []) [] rfl
      generalize H1 = H at hP hS ⊢
      have hP : va_P (dC, dI) vwCl [] H := hP
      have hD : va_D A [] := hD
      have er255 := hw
      subst er255
      refine lv_icmp_ge (tgt := 34) hx hb dX9_codeOf_9 (by decide) (fun c256 => ?_) (fun c256 => ?_)
      · skip
        refine lv_lload_n hx hb dX9_codeOf_34 rfl (lv_at hl 1 rfl) ?_
        have hP9 := hP.sub (ws' := []) [] rfl
        have hD9 := hD.sub (ws' := []) [] (by decide) rfl
        have hK9 := hK.sub (tys' := []) [] rfl
        exact W.lret (v := y248) hx hb hr (fun t ht hW => ⟨⟨y248, (), rfl, trivial, by rw [ht]; exact hP9, va_K.moved hW.alike hK9, hD9⟩, hS.F ht⟩) hS.2.2 dX9_codeOf_35
      · skip
        refine lv_lload_n hx hb dX9_codeOf_12 rfl (lv_at hl 1 rfl) ?_
        refine lv_ldc2 (v := 64) hx hb hown (hts (.constantLong RX9 43 (64)) (by decide +kernel)) dX9_codeOf_13 ?_
        refine lv_lmul hx hb dX9_codeOf_16  ?_
        refine lv_topl (fun x257 ex257 => ?_)
        refine lv_aload_n hx hb dX9_codeOf_17 rfl (lv_at hl 2 rfl) ?_
        refine lv_iload_n hx hb dX9_codeOf_18 rfl (lv_at hl 0 rfl) ?_
        have hPc := hP.sub (ws' := []) [] rfl
        have hDc := hD.sub (ws' := []) [] (by decide) rfl
        have hKc := hK.sub (tys' := []) [] rfl
        have hFc := va_free (wc := []) hD hS hA [] rfl
        refine va_calli (va_runV (As := [.int x247]) (rest := [.long x257]) ⟨hx, hb, hml, hown, hts⟩ (z_J0_charAt_5068e_1 l dC dI H.size adK adV x247  (by (try simp only [i_lt, i_le, i_eq, kc_2] at t250 h252 h251 c256); omega)) (cwV 1 hts g_z_X9_codeOf_z_J0_charAt_5068e_1_39 rfl rfl rfl (by decide +kernel) ⟨Nat.le_of_ble_eq_true rfl, Nat.le_of_ble_eq_true rfl⟩) ⟨fun a U g mk q => by obtain ⟨q0, q1, qC, qP, qK, qD⟩ := q; exact ⟨q0, q1, Kc_call qC, qP, va_K.moved (u := U) (U := U.calling g mk a) (Vm.Alike.refl U.vm) qK, qD⟩, vk_recv hC.1 (i := 1) (by decide) hS, fun U hU hW => ⟨rfl, by rw [hU], Kc_go hC hS hFc hU hW, by rw [hU]; exact hPc, va_K.moved hW.alike hKc, hDc.weaken (fun _ _ _ _ => trivial)⟩⟩ rfl rfl hl.1 rfl (lv_room (Nat.le_of_ble_eq_true rfl)) dX9_codeOf_19 ⟨Nat.le_of_ble_eq_true rfl, Nat.le_of_ble_eq_true rfl⟩) hS (fun q _ h => hFc q h) hFc (fun r258 u t H1 locs ht hvm hw hB hz1 hk1 hS => ?_)
        obtain ⟨hP1, hK1, hD1⟩ := hB
        rw [ht] at hP1
        try dsimp only at hw
        obtain ⟨hP, hD⟩ := va_join (wr := []) (w1 := []) hP hD [] [] rfl rfl (by decide) (by decide) hk1 hFc hP1 hD1
        have hK := hK.sub (tys' := []) [] rfl
        generalize H1 = H at hP hS ⊢
        have hP : va_P (dC, dI) vwCl [] H := hP
        have hD : va_D A [] := hD
        obtain ⟨c259, c260, nc261⟩ := hw
        have hPc := hP.sub (ws' := []) [] rfl
        have hDc := hD.sub (ws' := []) [] (by decide) rfl
        have hKc := hK.sub (tys' := []) [] rfl
        have hFc := va_free (wc := []) hD hS hA [] rfl
        refine va_calli (va_runS (As := [.int r258]) (rest := [.long x257]) ⟨hx, hb, hml, hown, hts⟩ (z_X9_symbolOf l dC dI H.size r258  ) (cwS 1 hts g_z_X9_codeOf_z_X9_symbolOf_45 rfl rfl rfl (by decide +kernel) ⟨Nat.le_of_ble_eq_true rfl, Nat.le_of_ble_eq_true rfl⟩) ⟨fun a U g mk q => by obtain ⟨q0, q1, qP, qK, qD⟩ := q; exact ⟨q0, q1, qP, va_K.moved (u := U) (U := U.calling g mk a) (Vm.Alike.refl U.vm) qK, qD⟩, fun U hU hW => ⟨rfl, by rw [hU], by rw [hU]; exact hPc, va_K.moved hW.alike hKc, hDc.weaken (fun _ _ _ _ => trivial)⟩⟩ rfl rfl hl.1 rfl (lv_room (Nat.le_of_ble_eq_true rfl)) dX9_codeOf_22 ⟨Nat.le_of_ble_eq_true rfl, Nat.le_of_ble_eq_true rfl⟩) hS (fun q _ h => hFc q h) hFc (fun r262 u t H1 locs ht hvm hw hB hz1 hk1 hS => ?_)
        obtain ⟨hP1, hK1, hD1⟩ := hB
        rw [ht] at hP1
        try dsimp only at hw
        obtain ⟨hP, hD⟩ := va_join (wr := []) (w1 := []) hP hD [] [] rfl rfl (by decide) (by decide) hk1 hFc hP1 hD1
        have hK := hK.sub (tys' := []) [] rfl
        generalize H1 = H at hP hS ⊢
        have hP : va_P (dC, dI) vwCl [] H := hP
        have hD : va_D A [] := hD
        rcases hw with ⟨c263, c264, c265, er266⟩ | ⟨c267, c268, c269, c270, er271⟩ | ⟨c272, c273, c274, c275, er276⟩ | ⟨c277, c278, c279, c280, c281, er282⟩ | ⟨c283, c284, c285, c286, c287, c288, er289⟩ | ⟨c290, c291, c292, c293, er294⟩ | ⟨c295, c296, er297⟩
        · skip
          subst er266
          refine lv_i2l hx hb dX9_codeOf_25 rfl ?_
          refine lv_topl (fun x298 ex298 => ?_)
          obtain rfl : x298 = 0 := ex298.trans (by decide)
          refine lv_ladd hx hb dX9_codeOf_26  ?_
          refine lv_topl (fun x299 ex299 => ?_)
          refine lv_lstore_n (lv' := [(1, .long x299), (3, .int x247), (0, .ref (adK 1))]) hx hb dX9_codeOf_27 rfl hl (by decide) rfl (fun ls hl => ?_)
          obtain ⟨x300, ex300⟩ : ∃ y : Int32, y = x247 + 1 := ⟨_, rfl⟩
          refine lv_iinc (v := x300) (lv' := [(3, .int x300), (1, .long x299), (0, .ref (adK 1))]) hx hb dX9_codeOf_28 hl (k := 1) rfl (by rw [ex300]; rfl) (by decide) rfl (fun ls hl => ?_)
          have tx300 : x300.toInt = x247.toInt + (1 : Int32).toInt := by rw [ex300]; exact i_add (by have bd_x247 := i_bd x247; (try simp only [i_lt, i_le, i_eq, kc_2, kc_0, kc_1] at t250 h252 h251 c256 c259 c260 ⊢); omega) (by have bd_x247 := i_bd x247; (try simp only [i_lt, i_le, i_eq, kc_2, kc_0, kc_1] at t250 h252 h251 c256 c259 c260 ⊢); omega)
          refine lv_goto (tgt := 4) hx hb dX9_codeOf_31 (by decide) ?_
          exact ih (j246 + 1) x300 x299 (by rw [ex300, e249]; exact nI_1 _) (by omega) (by (try simp only [i_lt, i_le, i_eq, kc_2, kc_0, kc_1] at t250 h252 h251 c256 c259 c260 tx300); omega) (by omega)  _ _ _ (hP.sub [] rfl) (hD.sub [] (by decide) rfl) hS  (lv_sub hl [0, 1, 2] rfl)
        · skip
          subst er271
          refine lv_i2l hx hb dX9_codeOf_25 rfl ?_
          refine lv_topl (fun x301 ex301 => ?_)
          obtain rfl : x301 = 0 := ex301.trans (by decide)
          refine lv_ladd hx hb dX9_codeOf_26  ?_
          refine lv_topl (fun x302 ex302 => ?_)
          refine lv_lstore_n (lv' := [(1, .long x302), (3, .int x247), (0, .ref (adK 1))]) hx hb dX9_codeOf_27 rfl hl (by decide) rfl (fun ls hl => ?_)
          obtain ⟨x303, ex303⟩ : ∃ y : Int32, y = x247 + 1 := ⟨_, rfl⟩
          refine lv_iinc (v := x303) (lv' := [(3, .int x303), (1, .long x302), (0, .ref (adK 1))]) hx hb dX9_codeOf_28 hl (k := 1) rfl (by rw [ex303]; rfl) (by decide) rfl (fun ls hl => ?_)
          have tx303 : x303.toInt = x247.toInt + (1 : Int32).toInt := by rw [ex303]; exact i_add (by have bd_x247 := i_bd x247; (try simp only [i_lt, i_le, i_eq, kc_2, kc_0, kc_1] at t250 h252 h251 c256 c259 c260 ⊢); omega) (by have bd_x247 := i_bd x247; (try simp only [i_lt, i_le, i_eq, kc_2, kc_0, kc_1] at t250 h252 h251 c256 c259 c260 ⊢); omega)
          refine lv_goto (tgt := 4) hx hb dX9_codeOf_31 (by decide) ?_
          exact ih (j246 + 1) x303 x302 (by rw [ex303, e249]; exact nI_1 _) (by omega) (by (try simp only [i_lt, i_le, i_eq, kc_2, kc_0, kc_1] at t250 h252 h251 c256 c259 c260 tx303); omega) (by omega)  _ _ _ (hP.sub [] rfl) (hD.sub [] (by decide) rfl) hS  (lv_sub hl [0, 1, 2] rfl)
        · skip
          have er262 := er276
          refine lv_i2l hx hb dX9_codeOf_25 rfl ?_
          refine lv_topl (fun x304 ex304 => ?_)
          refine lv_ladd hx hb dX9_codeOf_26  ?_
          refine lv_topl (fun x305 ex305 => ?_)
          refine lv_lstore_n (lv' := [(1, .long x305), (3, .int x247), (0, .ref (adK 1))]) hx hb dX9_codeOf_27 rfl hl (by decide) rfl (fun ls hl => ?_)
          obtain ⟨x306, ex306⟩ : ∃ y : Int32, y = x247 + 1 := ⟨_, rfl⟩
          refine lv_iinc (v := x306) (lv' := [(3, .int x306), (1, .long x305), (0, .ref (adK 1))]) hx hb dX9_codeOf_28 hl (k := 1) rfl (by rw [ex306]; rfl) (by decide) rfl (fun ls hl => ?_)
          have tx306 : x306.toInt = x247.toInt + (1 : Int32).toInt := by rw [ex306]; exact i_add (by have bd_x247 := i_bd x247; (try simp only [i_lt, i_le, i_eq, kc_2, kc_0, kc_1] at t250 h252 h251 c256 c259 c260 ⊢); omega) (by have bd_x247 := i_bd x247; (try simp only [i_lt, i_le, i_eq, kc_2, kc_0, kc_1] at t250 h252 h251 c256 c259 c260 ⊢); omega)
          refine lv_goto (tgt := 4) hx hb dX9_codeOf_31 (by decide) ?_
          exact ih (j246 + 1) x306 x305 (by rw [ex306, e249]; exact nI_1 _) (by omega) (by (try simp only [i_lt, i_le, i_eq, kc_2, kc_0, kc_1] at t250 h252 h251 c256 c259 c260 tx306); omega) (by omega)  _ _ _ (hP.sub [] rfl) (hD.sub [] (by decide) rfl) hS  (lv_sub hl [0, 1, 2] rfl)
        · skip
          subst er282
          refine lv_i2l hx hb dX9_codeOf_25 rfl ?_
          refine lv_topl (fun x307 ex307 => ?_)
          obtain rfl : x307 = 0 := ex307.trans (by decide)
          refine lv_ladd hx hb dX9_codeOf_26  ?_
          refine lv_topl (fun x308 ex308 => ?_)
          refine lv_lstore_n (lv' := [(1, .long x308), (3, .int x247), (0, .ref (adK 1))]) hx hb dX9_codeOf_27 rfl hl (by decide) rfl (fun ls hl => ?_)
          obtain ⟨x309, ex309⟩ : ∃ y : Int32, y = x247 + 1 := ⟨_, rfl⟩
          refine lv_iinc (v := x309) (lv' := [(3, .int x309), (1, .long x308), (0, .ref (adK 1))]) hx hb dX9_codeOf_28 hl (k := 1) rfl (by rw [ex309]; rfl) (by decide) rfl (fun ls hl => ?_)
          have tx309 : x309.toInt = x247.toInt + (1 : Int32).toInt := by rw [ex309]; exact i_add (by have bd_x247 := i_bd x247; (try simp only [i_lt, i_le, i_eq, kc_2, kc_0, kc_1] at t250 h252 h251 c256 c259 c260 ⊢); omega) (by have bd_x247 := i_bd x247; (try simp only [i_lt, i_le, i_eq, kc_2, kc_0, kc_1] at t250 h252 h251 c256 c259 c260 ⊢); omega)
          refine lv_goto (tgt := 4) hx hb dX9_codeOf_31 (by decide) ?_
          exact ih (j246 + 1) x309 x308 (by rw [ex309, e249]; exact nI_1 _) (by omega) (by (try simp only [i_lt, i_le, i_eq, kc_2, kc_0, kc_1] at t250 h252 h251 c256 c259 c260 tx309); omega) (by omega)  _ _ _ (hP.sub [] rfl) (hD.sub [] (by decide) rfl) hS  (lv_sub hl [0, 1, 2] rfl)
        · skip
          subst er289
          refine lv_i2l hx hb dX9_codeOf_25 rfl ?_
          refine lv_topl (fun x310 ex310 => ?_)
          obtain rfl : x310 = 0 := ex310.trans (by decide)
          refine lv_ladd hx hb dX9_codeOf_26  ?_
          refine lv_topl (fun x311 ex311 => ?_)
          refine lv_lstore_n (lv' := [(1, .long x311), (3, .int x247), (0, .ref (adK 1))]) hx hb dX9_codeOf_27 rfl hl (by decide) rfl (fun ls hl => ?_)
          obtain ⟨x312, ex312⟩ : ∃ y : Int32, y = x247 + 1 := ⟨_, rfl⟩
          refine lv_iinc (v := x312) (lv' := [(3, .int x312), (1, .long x311), (0, .ref (adK 1))]) hx hb dX9_codeOf_28 hl (k := 1) rfl (by rw [ex312]; rfl) (by decide) rfl (fun ls hl => ?_)
          have tx312 : x312.toInt = x247.toInt + (1 : Int32).toInt := by rw [ex312]; exact i_add (by have bd_x247 := i_bd x247; (try simp only [i_lt, i_le, i_eq, kc_2, kc_0, kc_1] at t250 h252 h251 c256 c259 c260 ⊢); omega) (by have bd_x247 := i_bd x247; (try simp only [i_lt, i_le, i_eq, kc_2, kc_0, kc_1] at t250 h252 h251 c256 c259 c260 ⊢); omega)
          refine lv_goto (tgt := 4) hx hb dX9_codeOf_31 (by decide) ?_
          exact ih (j246 + 1) x312 x311 (by rw [ex312, e249]; exact nI_1 _) (by omega) (by (try simp only [i_lt, i_le, i_eq, kc_2, kc_0, kc_1] at t250 h252 h251 c256 c259 c260 tx312); omega) (by omega)  _ _ _ (hP.sub [] rfl) (hD.sub [] (by decide) rfl) hS  (lv_sub hl [0, 1, 2] rfl)
        · skip
          have er262 := er294
          refine lv_i2l hx hb dX9_codeOf_25 rfl ?_
          refine lv_topl (fun x313 ex313 => ?_)
          refine lv_ladd hx hb dX9_codeOf_26  ?_
          refine lv_topl (fun x314 ex314 => ?_)
          refine lv_lstore_n (lv' := [(1, .long x314), (3, .int x247), (0, .ref (adK 1))]) hx hb dX9_codeOf_27 rfl hl (by decide) rfl (fun ls hl => ?_)
          obtain ⟨x315, ex315⟩ : ∃ y : Int32, y = x247 + 1 := ⟨_, rfl⟩
          refine lv_iinc (v := x315) (lv' := [(3, .int x315), (1, .long x314), (0, .ref (adK 1))]) hx hb dX9_codeOf_28 hl (k := 1) rfl (by rw [ex315]; rfl) (by decide) rfl (fun ls hl => ?_)
          have tx315 : x315.toInt = x247.toInt + (1 : Int32).toInt := by rw [ex315]; exact i_add (by have bd_x247 := i_bd x247; (try simp only [i_lt, i_le, i_eq, kc_2, kc_0, kc_1] at t250 h252 h251 c256 c259 c260 ⊢); omega) (by have bd_x247 := i_bd x247; (try simp only [i_lt, i_le, i_eq, kc_2, kc_0, kc_1] at t250 h252 h251 c256 c259 c260 ⊢); omega)
          refine lv_goto (tgt := 4) hx hb dX9_codeOf_31 (by decide) ?_
          exact ih (j246 + 1) x315 x314 (by rw [ex315, e249]; exact nI_1 _) (by omega) (by (try simp only [i_lt, i_le, i_eq, kc_2, kc_0, kc_1] at t250 h252 h251 c256 c259 c260 tx315); omega) (by omega)  _ _ _ (hP.sub [] rfl) (hD.sub [] (by decide) rfl) hS  (lv_sub hl [0, 1, 2] rfl)
        · skip
          have er262 := er297
          refine lv_i2l hx hb dX9_codeOf_25 rfl ?_
          refine lv_topl (fun x316 ex316 => ?_)
          refine lv_ladd hx hb dX9_codeOf_26  ?_
          refine lv_topl (fun x317 ex317 => ?_)
          refine lv_lstore_n (lv' := [(1, .long x317), (3, .int x247), (0, .ref (adK 1))]) hx hb dX9_codeOf_27 rfl hl (by decide) rfl (fun ls hl => ?_)
          obtain ⟨x318, ex318⟩ : ∃ y : Int32, y = x247 + 1 := ⟨_, rfl⟩
          refine lv_iinc (v := x318) (lv' := [(3, .int x318), (1, .long x317), (0, .ref (adK 1))]) hx hb dX9_codeOf_28 hl (k := 1) rfl (by rw [ex318]; rfl) (by decide) rfl (fun ls hl => ?_)
          have tx318 : x318.toInt = x247.toInt + (1 : Int32).toInt := by rw [ex318]; exact i_add (by have bd_x247 := i_bd x247; (try simp only [i_lt, i_le, i_eq, kc_2, kc_0, kc_1] at t250 h252 h251 c256 c259 c260 ⊢); omega) (by have bd_x247 := i_bd x247; (try simp only [i_lt, i_le, i_eq, kc_2, kc_0, kc_1] at t250 h252 h251 c256 c259 c260 ⊢); omega)
          refine lv_goto (tgt := 4) hx hb dX9_codeOf_31 (by decide) ?_
          exact ih (j246 + 1) x318 x317 (by rw [ex318, e249]; exact nI_1 _) (by omega) (by (try simp only [i_lt, i_le, i_eq, kc_2, kc_0, kc_1] at t250 h252 h251 c256 c259 c260 tx318); omega) (by omega)  _ _ _ (hP.sub [] rfl) (hD.sub [] (by decide) rfl) hS  (lv_sub hl [0, 1, 2] rfl)
  exact HL1 5 0 (0) (0) (by decide) (by omega) (by omega) (by omega)  _ _ _ hP hD hS  hl

def l_z_X9_codeOf_1 : List Cond := [.methodLink RX9 33 yJ0_length_8abf5, .instanceMethod yJ0_length_8abf5, .selects RJ0 yJ0_length_8abf5 yJ0_length_8abf5, .initialized RJ0, .constantLong RX9 43 (64), .methodLink RX9 39 yJ0_charAt_5068e, .instanceMethod yJ0_charAt_5068e, .selects RJ0 yJ0_charAt_5068e yJ0_charAt_5068e, .methodLink RX9 45 yX9_symbolOf, .static yX9_symbolOf, .initialized RX9, .code yJ0_length_8abf5 cJ0_length_8abf5 1 (some .int), .fieldLink RJ0 9 "java/lang/String" "value" "[B", .methodLink RJ0 335 yJ0_coder_7d493, .instanceMethod yJ0_coder_7d493, .selects RJ0 yJ0_coder_7d493 yJ0_coder_7d493, .code yJ0_coder_7d493 cJ0_coder_7d493 1 (some .byte), .fieldLink RJ0 38 "java/lang/String" "COMPACT_STRINGS" "Z", .fieldLink RJ0 15 "java/lang/String" "coder" "B", .code yJ0_charAt_5068e cJ0_charAt_5068e 2 (some .char), .methodLink RJ0 492 yJ0_isLatin1_aae02, .instanceMethod yJ0_isLatin1_aae02, .selects RJ0 yJ0_isLatin1_aae02 yJ0_isLatin1_aae02, .methodLink RJ0 495 yJ1_charAt_3b067, .static yJ1_charAt_3b067, .initialized RJ1, .code yJ0_isLatin1_aae02 cJ0_isLatin1_aae02 1 (some .boolean), .code yJ1_charAt_3b067 cJ1_charAt_3b067 2 (some .char), .methodLink RJ1 9 yJ0_checkIndex_df160, .static yJ0_checkIndex_df160, .code yJ0_checkIndex_df160 cJ0_checkIndex_df160 2 none, .fieldLink RJ0 1053 "jdk/internal/util/Preconditions" "SIOOBE_FORMATTER" "Ljava/util/function/BiFunction;", .methodLink RJ0 1059 yJ3_checkIndex_8e157, .static yJ3_checkIndex_8e157, .initialized RJ3, .code yJ3_checkIndex_8e157 cJ3_checkIndex_8e157 3 (some .int), .code yX9_symbolOf cX9_symbolOf 1 (some .int), .methodLink RX9 65 yX9_isDigit, .static yX9_isDigit, .code yX9_isDigit cX9_isDigit 1 (some .boolean)]
def w_z_X9_codeOf_1 : List Cond := .code yX9_codeOf cX9_codeOf 4 (some .long) :: (l_z_X9_codeOf_1)
theorem g_z_X9_codeOf_1_z_J0_length_8abf5_2_33 : GoodIn w_z_X9_codeOf_1 (wsV RX9 33 RJ0 yJ0_length_8abf5 w_z_J0_length_8abf5_2) := goodIn_app (goodIn_r (([.methodLink RX9 33 yJ0_length_8abf5, .instanceMethod yJ0_length_8abf5, .selects RJ0 yJ0_length_8abf5 yJ0_length_8abf5, .initialized RJ0] : List Cond)) [1, 2, 3, 4] rfl (by decide +kernel)) (goodIn_r (.code yJ0_length_8abf5 cJ0_length_8abf5 1 (some .int) :: l_z_J0_length_8abf5_2) [12, 13, 14, 15, 16, 4, 17, 18, 19] rfl (by decide +kernel))
theorem g_z_X9_codeOf_1_z_J0_charAt_5068e_2_39 : GoodIn w_z_X9_codeOf_1 (wsV RX9 39 RJ0 yJ0_charAt_5068e w_z_J0_charAt_5068e_2) := goodIn_app (goodIn_r (([.methodLink RX9 39 yJ0_charAt_5068e, .instanceMethod yJ0_charAt_5068e, .selects RJ0 yJ0_charAt_5068e yJ0_charAt_5068e, .initialized RJ0] : List Cond)) [6, 7, 8, 4] rfl (by decide +kernel)) (goodIn_r (.code yJ0_charAt_5068e cJ0_charAt_5068e 2 (some .char) :: l_z_J0_charAt_5068e_2) [20, 21, 22, 23, 4, 13, 24, 25, 26, 27, 18, 19, 28, 29, 30, 31, 32, 33, 34, 35, 36] rfl (by decide +kernel))
theorem g_z_X9_codeOf_1_z_X9_symbolOf_45 : GoodIn w_z_X9_codeOf_1 (wsS RX9 45 yX9_symbolOf w_z_X9_symbolOf) := goodIn_app (goodIn_r (([.methodLink RX9 45 yX9_symbolOf, .static yX9_symbolOf, .initialized RX9] : List Cond)) [9, 10, 11] rfl (by decide +kernel)) (goodIn_r (.code yX9_symbolOf cX9_symbolOf 1 (some .int) :: l_z_X9_symbolOf) [37, 38, 39, 11, 40] rfl (by decide +kernel))
set_option maxHeartbeats 4000000 in
set_option maxRecDepth 100000 in
theorem z_X9_codeOf_1 (l : Launch) (dC : Nat → ClassId) (dI : Nat → Nat → Nat) (sz : Nat) (adK adV : Nat → Nat)    : Met l yX9_codeOf w_z_X9_codeOf_1 ({ frames := 4, cells := 0, slots := 0, locals := 85 }) (va_Pc [.ref (adK 2)] (fun U => U.heap.size = sz ∧ Kc adK adV (va_A [] sz) U ∧ Wd dC dI [] (fun _ => True) [] U)) (va_Ql (fun (r : Int64) (u : Unit) => True) (fun (u : Unit) t => Wd dC dI [] (va_A [] sz) [] t) (va_A [] sz))  0 0 (va_A [] sz) := by
  refine Met.ofW (cc := cX9_codeOf) (maxL := 4) (ret := (some .long)) (by decide) rfl ?_
  intro p e s m args below meth c s₁ B hml hv
  obtain ⟨rfl, hsz, hC, hP, hK, hD0⟩ := hv
  have hx := B.exec
  have hb := B.bytes
  have hr := B.returns
  have hts := atoms_spec (ws := w_z_X9_codeOf_1) B.pre
  have hown : s.vm.findClass RX9 = some m.cls := findClass_of_methodNamed B.named
  have hlocks := B.notSynchronized
  subst hsz
  have hD := hD0.self (sz := s.heap.size)
  generalize hAe : va_A [] s.heap.size = A at hD hC ⊢
  have hA : ∀ q : Nat, s.heap.size ≤ q → A q := fun q h => by rw [← hAe]; exact Or.inr h
  have hS : va_S A s.heap s.heap [] := va_S.rf
  have hl := lv_entry ([.ref (adK 2)]) (n := 4) (Nat.le_of_ble_eq_true rfl)
  rw [lg_entry_eq]
  generalize (lg_sl ([.ref (adK 2)]) ++ List.replicate (4 - (lg_sl ([.ref (adK 2)])).length) Slot.unset).toArray = ls at hl ⊢
  have hl : lv_has ls 4 [(0, .ref (adK 2))] := hl
  refine lv_lconst (v := 0) hx hb dX9_codeOf_0 (by decide) ?_
  refine lv_lstore_n (lv' := [(1, .long 0), (0, .ref (adK 2))]) hx hb dX9_codeOf_1 rfl hl (by decide) rfl (fun ls hl => ?_)
  refine lv_iconst (v := 0) hx hb dX9_codeOf_2 (by decide) ?_
  refine lv_istore_n (lv' := [(3, .int 0), (1, .long 0), (0, .ref (adK 2))]) hx hb dX9_codeOf_3 rfl hl (by decide) rfl (fun ls hl => ?_)
  have HL1 : ∀ (n j246 : Nat) (x247 : Int32) (y248 : Int64), x247 = nI j246 → 0 ≤ j246 → j246 ≤ 4 → 5 ≤ j246 + n → ∀ (H : Heap) (locs : List Loc) (ls : Array Slot), va_P (dC, dI) vwCl [] H → va_D A [] → va_S A s.heap H locs → lv_has ls 4 [(3, .int x247), (1, .long y248), (0, .ref (adK 2))] → W p l e (headSpec w_z_X9_codeOf_1 ({ frames := 4, cells := 0, slots := 0, locals := 85 })).room s m ([.ref (adK 2)]).toArray below meth c H locs 0 0 (MQ below (va_Ql (fun (r : Int64) (u : Unit) => True) (fun (u : Unit) t => Wd dC dI [] A [] t) A) ([.ref (adK 2)]).toArray s 0 0 A) (F0 m 4 ls []) := by
    intro n
    induction n with
    | zero =>
      intro j246 x247 y248 e249 h251 h252 h253
      exact absurd h253 (by omega)
    | succ n ih =>
      intro j246 x247 y248 e249 h251 h252 h253 H locs ls hP hD hS hl
      have t250 : x247.toInt = (j246 : Int) := by rw [e249]; exact nI_toInt (by omega)
      refine lv_iload_n hx hb dX9_codeOf_4 rfl (lv_at hl 0 rfl) ?_
      refine lv_aload_n hx hb dX9_codeOf_5 rfl (lv_at hl 2 rfl) ?_
      have hPc := hP.sub (ws' := []) [] rfl
      have hDc := hD.sub (ws' := []) [] (by decide) rfl
      have hKc := hK.sub (tys' := []) [] rfl
      have hFc := va_free (wc := []) hD hS hA [] rfl
      refine va_calli (va_runV (As := []) (rest := [.int x247]) ⟨hx, hb, hml, hown, hts⟩ (z_J0_length_8abf5_2 l dC dI H.size adK adV   ) (cwV 0 hts g_z_X9_codeOf_1_z_J0_length_8abf5_2_33 rfl rfl rfl (by decide +kernel) ⟨Nat.le_of_ble_eq_true rfl, Nat.le_of_ble_eq_true rfl⟩) ⟨fun a U g mk q => by obtain ⟨q0, q1, qC, qP, qK, qD⟩ := q; exact ⟨q0, q1, Kc_call qC, qP, va_K.moved (u := U) (U := U.calling g mk a) (Vm.Alike.refl U.vm) qK, qD⟩, vk_recv hC.1 (i := 2) (by decide) hS, fun U hU hW => ⟨rfl, by rw [hU], Kc_go hC hS hFc hU hW, by rw [hU]; exact hPc, va_K.moved hW.alike hKc, hDc.weaken (fun _ _ _ _ => trivial)⟩⟩ rfl rfl hl.1 rfl (lv_room (Nat.le_of_ble_eq_true rfl)) dX9_codeOf_6 ⟨Nat.le_of_ble_eq_true rfl, Nat.le_of_ble_eq_true rfl⟩) hS (fun q _ h => hFc q h) hFc (fun r254 u t H1 locs ht hvm hw hB hz1 hk1 hS => ?_)
      obtain ⟨hP1, hK1, hD1⟩ := hB
      rw [ht] at hP1
      try dsimp only at hw
      obtain ⟨hP, hD⟩ := va_join (wr := []) (w1 := []) hP hD [] [] rfl rfl (by decide) (by decide) hk1 hFc hP1 hD1
      have hK := hK.sub (tys' := []) [] rfl
      generalize H1 = H at hP hS ⊢
      have hP : va_P (dC, dI) vwCl [] H := hP
      have hD : va_D A [] := hD
      have er255 := hw
      subst er255
      refine lv_icmp_ge (tgt := 34) hx hb dX9_codeOf_9 (by decide) (fun c256 => ?_) (fun c256 => ?_)
      · skip
        refine lv_lload_n hx hb dX9_codeOf_34 rfl (lv_at hl 1 rfl) ?_
        have hP9 := hP.sub (ws' := []) [] rfl
        have hD9 := hD.sub (ws' := []) [] (by decide) rfl
        have hK9 := hK.sub (tys' := []) [] rfl
        exact W.lret (v := y248) hx hb hr (fun t ht hW => ⟨⟨y248, (), rfl, trivial, by rw [ht]; exact hP9, va_K.moved hW.alike hK9, hD9⟩, hS.F ht⟩) hS.2.2 dX9_codeOf_35
      · skip
        refine lv_lload_n hx hb dX9_codeOf_12 rfl (lv_at hl 1 rfl) ?_
        refine lv_ldc2 (v := 64) hx hb hown (hts (.constantLong RX9 43 (64)) (by decide +kernel)) dX9_codeOf_13 ?_
        refine lv_lmul hx hb dX9_codeOf_16  ?_
        refine lv_topl (fun x257 ex257 => ?_)
        refine lv_aload_n hx hb dX9_codeOf_17 rfl (lv_at hl 2 rfl) ?_
        refine lv_iload_n hx hb dX9_codeOf_18 rfl (lv_at hl 0 rfl) ?_
        have hPc := hP.sub (ws' := []) [] rfl
        have hDc := hD.sub (ws' := []) [] (by decide) rfl
        have hKc := hK.sub (tys' := []) [] rfl
        have hFc := va_free (wc := []) hD hS hA [] rfl
        refine va_calli (va_runV (As := [.int x247]) (rest := [.long x257]) ⟨hx, hb, hml, hown, hts⟩ (z_J0_charAt_5068e_2 l dC dI H.size adK adV x247  (by (try simp only [i_lt, i_le, i_eq, kc_4] at t250 h252 h251 c256); omega)) (cwV 1 hts g_z_X9_codeOf_1_z_J0_charAt_5068e_2_39 rfl rfl rfl (by decide +kernel) ⟨Nat.le_of_ble_eq_true rfl, Nat.le_of_ble_eq_true rfl⟩) ⟨fun a U g mk q => by obtain ⟨q0, q1, qC, qP, qK, qD⟩ := q; exact ⟨q0, q1, Kc_call qC, qP, va_K.moved (u := U) (U := U.calling g mk a) (Vm.Alike.refl U.vm) qK, qD⟩, vk_recv hC.1 (i := 2) (by decide) hS, fun U hU hW => ⟨rfl, by rw [hU], Kc_go hC hS hFc hU hW, by rw [hU]; exact hPc, va_K.moved hW.alike hKc, hDc.weaken (fun _ _ _ _ => trivial)⟩⟩ rfl rfl hl.1 rfl (lv_room (Nat.le_of_ble_eq_true rfl)) dX9_codeOf_19 ⟨Nat.le_of_ble_eq_true rfl, Nat.le_of_ble_eq_true rfl⟩) hS (fun q _ h => hFc q h) hFc (fun r258 u t H1 locs ht hvm hw hB hz1 hk1 hS => ?_)
        obtain ⟨hP1, hK1, hD1⟩ := hB
        rw [ht] at hP1
        try dsimp only at hw
        obtain ⟨hP, hD⟩ := va_join (wr := []) (w1 := []) hP hD [] [] rfl rfl (by decide) (by decide) hk1 hFc hP1 hD1
        have hK := hK.sub (tys' := []) [] rfl
        generalize H1 = H at hP hS ⊢
        have hP : va_P (dC, dI) vwCl [] H := hP
        have hD : va_D A [] := hD
        obtain ⟨c259, c260, nc261⟩ := hw
        have hPc := hP.sub (ws' := []) [] rfl
        have hDc := hD.sub (ws' := []) [] (by decide) rfl
        have hKc := hK.sub (tys' := []) [] rfl
        have hFc := va_free (wc := []) hD hS hA [] rfl
        refine va_calli (va_runS (As := [.int r258]) (rest := [.long x257]) ⟨hx, hb, hml, hown, hts⟩ (z_X9_symbolOf l dC dI H.size r258  ) (cwS 1 hts g_z_X9_codeOf_1_z_X9_symbolOf_45 rfl rfl rfl (by decide +kernel) ⟨Nat.le_of_ble_eq_true rfl, Nat.le_of_ble_eq_true rfl⟩) ⟨fun a U g mk q => by obtain ⟨q0, q1, qP, qK, qD⟩ := q; exact ⟨q0, q1, qP, va_K.moved (u := U) (U := U.calling g mk a) (Vm.Alike.refl U.vm) qK, qD⟩, fun U hU hW => ⟨rfl, by rw [hU], by rw [hU]; exact hPc, va_K.moved hW.alike hKc, hDc.weaken (fun _ _ _ _ => trivial)⟩⟩ rfl rfl hl.1 rfl (lv_room (Nat.le_of_ble_eq_true rfl)) dX9_codeOf_22 ⟨Nat.le_of_ble_eq_true rfl, Nat.le_of_ble_eq_true rfl⟩) hS (fun q _ h => hFc q h) hFc (fun r262 u t H1 locs ht hvm hw hB hz1 hk1 hS => ?_)
        obtain ⟨hP1, hK1, hD1⟩ := hB
        rw [ht] at hP1
        try dsimp only at hw
        obtain ⟨hP, hD⟩ := va_join (wr := []) (w1 := []) hP hD [] [] rfl rfl (by decide) (by decide) hk1 hFc hP1 hD1
        have hK := hK.sub (tys' := []) [] rfl
        generalize H1 = H at hP hS ⊢
        have hP : va_P (dC, dI) vwCl [] H := hP
        have hD : va_D A [] := hD
        rcases hw with ⟨c263, c264, c265, er266⟩ | ⟨c267, c268, c269, c270, er271⟩ | ⟨c272, c273, c274, c275, er276⟩ | ⟨c277, c278, c279, c280, c281, er282⟩ | ⟨c283, c284, c285, c286, c287, c288, er289⟩ | ⟨c290, c291, c292, c293, er294⟩ | ⟨c295, c296, er297⟩
        · skip
          subst er266
          refine lv_i2l hx hb dX9_codeOf_25 rfl ?_
          refine lv_topl (fun x298 ex298 => ?_)
          obtain rfl : x298 = 0 := ex298.trans (by decide)
          refine lv_ladd hx hb dX9_codeOf_26  ?_
          refine lv_topl (fun x299 ex299 => ?_)
          refine lv_lstore_n (lv' := [(1, .long x299), (3, .int x247), (0, .ref (adK 2))]) hx hb dX9_codeOf_27 rfl hl (by decide) rfl (fun ls hl => ?_)
          obtain ⟨x300, ex300⟩ : ∃ y : Int32, y = x247 + 1 := ⟨_, rfl⟩
          refine lv_iinc (v := x300) (lv' := [(3, .int x300), (1, .long x299), (0, .ref (adK 2))]) hx hb dX9_codeOf_28 hl (k := 1) rfl (by rw [ex300]; rfl) (by decide) rfl (fun ls hl => ?_)
          have tx300 : x300.toInt = x247.toInt + (1 : Int32).toInt := by rw [ex300]; exact i_add (by have bd_x247 := i_bd x247; (try simp only [i_lt, i_le, i_eq, kc_4, kc_0, kc_1] at t250 h252 h251 c256 c259 c260 ⊢); omega) (by have bd_x247 := i_bd x247; (try simp only [i_lt, i_le, i_eq, kc_4, kc_0, kc_1] at t250 h252 h251 c256 c259 c260 ⊢); omega)
          refine lv_goto (tgt := 4) hx hb dX9_codeOf_31 (by decide) ?_
          exact ih (j246 + 1) x300 x299 (by rw [ex300, e249]; exact nI_1 _) (by omega) (by (try simp only [i_lt, i_le, i_eq, kc_4, kc_0, kc_1] at t250 h252 h251 c256 c259 c260 tx300); omega) (by omega)  _ _ _ (hP.sub [] rfl) (hD.sub [] (by decide) rfl) hS  (lv_sub hl [0, 1, 2] rfl)
        · skip
          subst er271
          refine lv_i2l hx hb dX9_codeOf_25 rfl ?_
          refine lv_topl (fun x301 ex301 => ?_)
          obtain rfl : x301 = 0 := ex301.trans (by decide)
          refine lv_ladd hx hb dX9_codeOf_26  ?_
          refine lv_topl (fun x302 ex302 => ?_)
          refine lv_lstore_n (lv' := [(1, .long x302), (3, .int x247), (0, .ref (adK 2))]) hx hb dX9_codeOf_27 rfl hl (by decide) rfl (fun ls hl => ?_)
          obtain ⟨x303, ex303⟩ : ∃ y : Int32, y = x247 + 1 := ⟨_, rfl⟩
          refine lv_iinc (v := x303) (lv' := [(3, .int x303), (1, .long x302), (0, .ref (adK 2))]) hx hb dX9_codeOf_28 hl (k := 1) rfl (by rw [ex303]; rfl) (by decide) rfl (fun ls hl => ?_)
          have tx303 : x303.toInt = x247.toInt + (1 : Int32).toInt := by rw [ex303]; exact i_add (by have bd_x247 := i_bd x247; (try simp only [i_lt, i_le, i_eq, kc_4, kc_0, kc_1] at t250 h252 h251 c256 c259 c260 ⊢); omega) (by have bd_x247 := i_bd x247; (try simp only [i_lt, i_le, i_eq, kc_4, kc_0, kc_1] at t250 h252 h251 c256 c259 c260 ⊢); omega)
          refine lv_goto (tgt := 4) hx hb dX9_codeOf_31 (by decide) ?_
          exact ih (j246 + 1) x303 x302 (by rw [ex303, e249]; exact nI_1 _) (by omega) (by (try simp only [i_lt, i_le, i_eq, kc_4, kc_0, kc_1] at t250 h252 h251 c256 c259 c260 tx303); omega) (by omega)  _ _ _ (hP.sub [] rfl) (hD.sub [] (by decide) rfl) hS  (lv_sub hl [0, 1, 2] rfl)
        · skip
          have er262 := er276
          refine lv_i2l hx hb dX9_codeOf_25 rfl ?_
          refine lv_topl (fun x304 ex304 => ?_)
          refine lv_ladd hx hb dX9_codeOf_26  ?_
          refine lv_topl (fun x305 ex305 => ?_)
          refine lv_lstore_n (lv' := [(1, .long x305), (3, .int x247), (0, .ref (adK 2))]) hx hb dX9_codeOf_27 rfl hl (by decide) rfl (fun ls hl => ?_)
          obtain ⟨x306, ex306⟩ : ∃ y : Int32, y = x247 + 1 := ⟨_, rfl⟩
          refine lv_iinc (v := x306) (lv' := [(3, .int x306), (1, .long x305), (0, .ref (adK 2))]) hx hb dX9_codeOf_28 hl (k := 1) rfl (by rw [ex306]; rfl) (by decide) rfl (fun ls hl => ?_)
          have tx306 : x306.toInt = x247.toInt + (1 : Int32).toInt := by rw [ex306]; exact i_add (by have bd_x247 := i_bd x247; (try simp only [i_lt, i_le, i_eq, kc_4, kc_0, kc_1] at t250 h252 h251 c256 c259 c260 ⊢); omega) (by have bd_x247 := i_bd x247; (try simp only [i_lt, i_le, i_eq, kc_4, kc_0, kc_1] at t250 h252 h251 c256 c259 c260 ⊢); omega)
          refine lv_goto (tgt := 4) hx hb dX9_codeOf_31 (by decide) ?_
          exact ih (j246 + 1) x306 x305 (by rw [ex306, e249]; exact nI_1 _) (by omega) (by (try simp only [i_lt, i_le, i_eq, kc_4, kc_0, kc_1] at t250 h252 h251 c256 c259 c260 tx306); omega) (by omega)  _ _ _ (hP.sub [] rfl) (hD.sub [] (by decide) rfl) hS  (lv_sub hl [0, 1, 2] rfl)
        · skip
          subst er282
          refine lv_i2l hx hb dX9_codeOf_25 rfl ?_
          refine lv_topl (fun x307 ex307 => ?_)
          obtain rfl : x307 = 0 := ex307.trans (by decide)
          refine lv_ladd hx hb dX9_codeOf_26  ?_
          refine lv_topl (fun x308 ex308 => ?_)
          refine lv_lstore_n (lv' := [(1, .long x308), (3, .int x247), (0, .ref (adK 2))]) hx hb dX9_codeOf_27 rfl hl (by decide) rfl (fun ls hl => ?_)
          obtain ⟨x309, ex309⟩ : ∃ y : Int32, y = x247 + 1 := ⟨_, rfl⟩
          refine lv_iinc (v := x309) (lv' := [(3, .int x309), (1, .long x308), (0, .ref (adK 2))]) hx hb dX9_codeOf_28 hl (k := 1) rfl (by rw [ex309]; rfl) (by decide) rfl (fun ls hl => ?_)
          have tx309 : x309.toInt = x247.toInt + (1 : Int32).toInt := by rw [ex309]; exact i_add (by have bd_x247 := i_bd x247; (try simp only [i_lt, i_le, i_eq, kc_4, kc_0, kc_1] at t250 h252 h251 c256 c259 c260 ⊢); omega) (by have bd_x247 := i_bd x247; (try simp only [i_lt, i_le, i_eq, kc_4, kc_0, kc_1] at t250 h252 h251 c256 c259 c260 ⊢); omega)
          refine lv_goto (tgt := 4) hx hb dX9_codeOf_31 (by decide) ?_
          exact ih (j246 + 1) x309 x308 (by rw [ex309, e249]; exact nI_1 _) (by omega) (by (try simp only [i_lt, i_le, i_eq, kc_4, kc_0, kc_1] at t250 h252 h251 c256 c259 c260 tx309); omega) (by omega)  _ _ _ (hP.sub [] rfl) (hD.sub [] (by decide) rfl) hS  (lv_sub hl [0, 1, 2] rfl)
        · skip
          subst er289
          refine lv_i2l hx hb dX9_codeOf_25 rfl ?_
          refine lv_topl (fun x310 ex310 => ?_)
          obtain rfl : x310 = 0 := ex310.trans (by decide)
          refine lv_ladd hx hb dX9_codeOf_26  ?_
          refine lv_topl (fun x311 ex311 => ?_)
          refine lv_lstore_n (lv' := [(1, .long x311), (3, .int x247), (0, .ref (adK 2))]) hx hb dX9_codeOf_27 rfl hl (by decide) rfl (fun ls hl => ?_)
          obtain ⟨x312, ex312⟩ : ∃ y : Int32, y = x247 + 1 := ⟨_, rfl⟩
          refine lv_iinc (v := x312) (lv' := [(3, .int x312), (1, .long x311), (0, .ref (adK 2))]) hx hb dX9_codeOf_28 hl (k := 1) rfl (by rw [ex312]; rfl) (by decide) rfl (fun ls hl => ?_)
          have tx312 : x312.toInt = x247.toInt + (1 : Int32).toInt := by rw [ex312]; exact i_add (by have bd_x247 := i_bd x247; (try simp only [i_lt, i_le, i_eq, kc_4, kc_0, kc_1] at t250 h252 h251 c256 c259 c260 ⊢); omega) (by have bd_x247 := i_bd x247; (try simp only [i_lt, i_le, i_eq, kc_4, kc_0, kc_1] at t250 h252 h251 c256 c259 c260 ⊢); omega)
          refine lv_goto (tgt := 4) hx hb dX9_codeOf_31 (by decide) ?_
          exact ih (j246 + 1) x312 x311 (by rw [ex312, e249]; exact nI_1 _) (by omega) (by (try simp only [i_lt, i_le, i_eq, kc_4, kc_0, kc_1] at t250 h252 h251 c256 c259 c260 tx312); omega) (by omega)  _ _ _ (hP.sub [] rfl) (hD.sub [] (by decide) rfl) hS  (lv_sub hl [0, 1, 2] rfl)
        · skip
          have er262 := er294
          refine lv_i2l hx hb dX9_codeOf_25 rfl ?_
          refine lv_topl (fun x313 ex313 => ?_)
          refine lv_ladd hx hb dX9_codeOf_26  ?_
          refine lv_topl (fun x314 ex314 => ?_)
          refine lv_lstore_n (lv' := [(1, .long x314), (3, .int x247), (0, .ref (adK 2))]) hx hb dX9_codeOf_27 rfl hl (by decide) rfl (fun ls hl => ?_)
          obtain ⟨x315, ex315⟩ : ∃ y : Int32, y = x247 + 1 := ⟨_, rfl⟩
          refine lv_iinc (v := x315) (lv' := [(3, .int x315), (1, .long x314), (0, .ref (adK 2))]) hx hb dX9_codeOf_28 hl (k := 1) rfl (by rw [ex315]; rfl) (by decide) rfl (fun ls hl => ?_)
          have tx315 : x315.toInt = x247.toInt + (1 : Int32).toInt := by rw [ex315]; exact i_add (by have bd_x247 := i_bd x247; (try simp only [i_lt, i_le, i_eq, kc_4, kc_0, kc_1] at t250 h252 h251 c256 c259 c260 ⊢); omega) (by have bd_x247 := i_bd x247; (try simp only [i_lt, i_le, i_eq, kc_4, kc_0, kc_1] at t250 h252 h251 c256 c259 c260 ⊢); omega)
          refine lv_goto (tgt := 4) hx hb dX9_codeOf_31 (by decide) ?_
          exact ih (j246 + 1) x315 x314 (by rw [ex315, e249]; exact nI_1 _) (by omega) (by (try simp only [i_lt, i_le, i_eq, kc_4, kc_0, kc_1] at t250 h252 h251 c256 c259 c260 tx315); omega) (by omega)  _ _ _ (hP.sub [] rfl) (hD.sub [] (by decide) rfl) hS  (lv_sub hl [0, 1, 2] rfl)
        · skip
          have er262 := er297
          refine lv_i2l hx hb dX9_codeOf_25 rfl ?_
          refine lv_topl (fun x316 ex316 => ?_)
          refine lv_ladd hx hb dX9_codeOf_26  ?_
          refine lv_topl (fun x317 ex317 => ?_)
          refine lv_lstore_n (lv' := [(1, .long x317), (3, .int x247), (0, .ref (adK 2))]) hx hb dX9_codeOf_27 rfl hl (by decide) rfl (fun ls hl => ?_)
          obtain ⟨x318, ex318⟩ : ∃ y : Int32, y = x247 + 1 := ⟨_, rfl⟩
          refine lv_iinc (v := x318) (lv' := [(3, .int x318), (1, .long x317), (0, .ref (adK 2))]) hx hb dX9_codeOf_28 hl (k := 1) rfl (by rw [ex318]; rfl) (by decide) rfl (fun ls hl => ?_)
          have tx318 : x318.toInt = x247.toInt + (1 : Int32).toInt := by rw [ex318]; exact i_add (by have bd_x247 := i_bd x247; (try simp only [i_lt, i_le, i_eq, kc_4, kc_0, kc_1] at t250 h252 h251 c256 c259 c260 ⊢); omega) (by have bd_x247 := i_bd x247; (try simp only [i_lt, i_le, i_eq, kc_4, kc_0, kc_1] at t250 h252 h251 c256 c259 c260 ⊢); omega)
          refine lv_goto (tgt := 4) hx hb dX9_codeOf_31 (by decide) ?_
          exact ih (j246 + 1) x318 x317 (by rw [ex318, e249]; exact nI_1 _) (by omega) (by (try simp only [i_lt, i_le, i_eq, kc_4, kc_0, kc_1] at t250 h252 h251 c256 c259 c260 tx318); omega) (by omega)  _ _ _ (hP.sub [] rfl) (hD.sub [] (by decide) rfl) hS  (lv_sub hl [0, 1, 2] rfl)
  exact HL1 5 0 (0) (0) (by decide) (by omega) (by omega) (by omega)  _ _ _ hP hD hS  hl

def l_z_X7_init : List Cond := [.methodLink RX7 3 objectInit, .instanceMethod objectInit, .code objectInit ⟨#[0xb1]⟩ 1 none, .fieldLink RX7 9 "HeapWorks$RuleText" "tape" "LHeapWorks$Tape;", .methodLink RX7 17 yX9_codeOf, .static yX9_codeOf, .initialized RX9, .fieldLink RX7 23 "HeapWorks$RuleText" "ifCode" "J", .fieldLink RX7 29 "HeapWorks$RuleText" "linkCode" "J", .arrayClass .int, .fieldLink RX7 32 "HeapWorks$RuleText" "headRelation" "[I", .fieldLink RX7 36 "HeapWorks$RuleText" "headA" "[I", .fieldLink RX7 39 "HeapWorks$RuleText" "headB" "[I", .fieldLink RX7 42 "HeapWorks$RuleText" "variableCount" "[I", .fieldLink RX7 45 "HeapWorks$RuleText" "bodyCount" "[I", .fieldLink RX7 48 "HeapWorks$RuleText" "bodyRelation" "[I", .fieldLink RX7 51 "HeapWorks$RuleText" "bodyA" "[I", .fieldLink RX7 54 "HeapWorks$RuleText" "bodyB" "[I", .arrayClass .long, .fieldLink RX7 57 "HeapWorks$RuleText" "bodyName" "[J", .fieldLink RX7 61 "HeapWorks$RuleText" "variableName" "[J", .fieldLink RX7 64 "HeapWorks$RuleText" "relationName" "[J", .fieldLink RX7 67 "HeapWorks$RuleText" "arity" "[I", .code yX9_codeOf cX9_codeOf 4 (some .long), .methodLink RX9 33 yJ0_length_8abf5, .instanceMethod yJ0_length_8abf5, .selects RJ0 yJ0_length_8abf5 yJ0_length_8abf5, .initialized RJ0, .constantLong RX9 43 (64), .methodLink RX9 39 yJ0_charAt_5068e, .instanceMethod yJ0_charAt_5068e, .selects RJ0 yJ0_charAt_5068e yJ0_charAt_5068e, .methodLink RX9 45 yX9_symbolOf, .static yX9_symbolOf, .code yJ0_length_8abf5 cJ0_length_8abf5 1 (some .int), .fieldLink RJ0 9 "java/lang/String" "value" "[B", .methodLink RJ0 335 yJ0_coder_7d493, .instanceMethod yJ0_coder_7d493, .selects RJ0 yJ0_coder_7d493 yJ0_coder_7d493, .code yJ0_coder_7d493 cJ0_coder_7d493 1 (some .byte), .fieldLink RJ0 38 "java/lang/String" "COMPACT_STRINGS" "Z", .fieldLink RJ0 15 "java/lang/String" "coder" "B", .code yJ0_charAt_5068e cJ0_charAt_5068e 2 (some .char), .methodLink RJ0 492 yJ0_isLatin1_aae02, .instanceMethod yJ0_isLatin1_aae02, .selects RJ0 yJ0_isLatin1_aae02 yJ0_isLatin1_aae02, .methodLink RJ0 495 yJ1_charAt_3b067, .static yJ1_charAt_3b067, .initialized RJ1, .code yJ0_isLatin1_aae02 cJ0_isLatin1_aae02 1 (some .boolean), .code yJ1_charAt_3b067 cJ1_charAt_3b067 2 (some .char), .methodLink RJ1 9 yJ0_checkIndex_df160, .static yJ0_checkIndex_df160, .code yJ0_checkIndex_df160 cJ0_checkIndex_df160 2 none, .fieldLink RJ0 1053 "jdk/internal/util/Preconditions" "SIOOBE_FORMATTER" "Ljava/util/function/BiFunction;", .methodLink RJ0 1059 yJ3_checkIndex_8e157, .static yJ3_checkIndex_8e157, .initialized RJ3, .code yJ3_checkIndex_8e157 cJ3_checkIndex_8e157 3 (some .int), .code yX9_symbolOf cX9_symbolOf 1 (some .int), .methodLink RX9 65 yX9_isDigit, .static yX9_isDigit, .code yX9_isDigit cX9_isDigit 1 (some .boolean)]
def w_z_X7_init : List Cond := .code yX7_init cX7_init 2 none :: (l_z_X7_init ++ (wsX70))
theorem in_z_X7_init_X7 : ∀ w ∈ wsX70, w ∈ w_z_X7_init := fun w h => List.mem_cons_of_mem _ (List.mem_append_right _ (h))
theorem g_z_X7_init_z_X9_codeOf_17 : GoodIn w_z_X7_init (va_wsS RX7 17 yX9_codeOf w_z_X9_codeOf) := goodIn_app (goodIn_r (([.methodLink RX7 17 yX9_codeOf, .static yX9_codeOf, .initialized RX9] : List Cond)) [5, 6, 7] rfl (by decide +kernel)) (goodIn_r (.code yX9_codeOf cX9_codeOf 4 (some .long) :: l_z_X9_codeOf) [24, 25, 26, 27, 28, 29, 30, 31, 32, 33, 34, 7, 35, 36, 37, 38, 39, 40, 41, 42, 43, 44, 45, 46, 47, 48, 49, 50, 51, 52, 53, 54, 55, 56, 57, 58, 59, 60, 61, 62, 63] rfl (by decide +kernel))
theorem g_z_X7_init_z_X9_codeOf_1_17 : GoodIn w_z_X7_init (va_wsS RX7 17 yX9_codeOf w_z_X9_codeOf_1) := goodIn_app (goodIn_r (([.methodLink RX7 17 yX9_codeOf, .static yX9_codeOf, .initialized RX9] : List Cond)) [5, 6, 7] rfl (by decide +kernel)) (goodIn_r (.code yX9_codeOf cX9_codeOf 4 (some .long) :: l_z_X9_codeOf_1) [24, 25, 26, 27, 28, 29, 30, 31, 32, 33, 34, 7, 35, 36, 37, 38, 39, 40, 41, 42, 43, 44, 45, 46, 47, 48, 49, 50, 51, 52, 53, 54, 55, 56, 57, 58, 59, 60, 61, 62, 63] rfl (by decide +kernel))
set_option maxHeartbeats 4000000 in
set_option maxRecDepth 100000 in
theorem z_X7_init (l : Launch) (dC : Nat → ClassId) (dI : Nat → Nat → Nat) (sz : Nat) (adK adV : Nat → Nat) (Ad0 : Nat) (Fs0 : List Value) (Br0 : Nat) (k_Fs0 : fh Fs0 21 [])  : Met l yX7_init w_z_X7_init ({ frames := 5, cells := 12, slots := 267, locals := 108 }) (va_Pc [.ref Ad0, .ref Br0] (fun U => U.heap.size = sz ∧ Kc adK adV (va_A [(Ad0, .inr (10, Fs0))] sz) U ∧ Wd dC dI [] (fun _ => True) [(Ad0, .inr (10, Fs0))] U)) (va_Qv (fun (u : List Value) => ow Fs0 (u) 21 [18, 17, 13, 12, 11, 10, 9, 8, 7, 6, 5, 4, 2, 1, 0] [(0, .ref Br0)]) (fun (u : List Value) t => Wd dC dI [] (va_A [(Ad0, .inr (10, Fs0))] sz) [(Ad0, .inr (10, (u)))] t) (va_A [(Ad0, .inr (10, Fs0))] sz))  12 267 (va_A [(Ad0, .inr (10, Fs0))] sz) := by
  refine Met.ofW (cc := cX7_init) (maxL := 2) (ret := none) (by decide) rfl ?_
  intro p e s m args below meth c s₁ B hml hv
  obtain ⟨rfl, hsz, hC, hP, hK, hD0⟩ := hv
  have hx := B.exec
  have hb := B.bytes
  have hr := B.returns
  have hts := atoms_spec (ws := w_z_X7_init) B.pre
  have hown : s.vm.findClass RX7 = some m.cls := findClass_of_methodNamed B.named
  have hlocks := B.notSynchronized
  have hin : meth.name = "<init>" := (name_of_methodNamed B.named B.method).1
  subst hsz
  have hD := hD0.self (sz := s.heap.size)
  generalize hAe : va_A [(Ad0, .inr (10, Fs0))] s.heap.size = A at hD hC ⊢
  have hA : ∀ q : Nat, s.heap.size ≤ q → A q := fun q h => by rw [← hAe]; exact Or.inr h
  have hS : va_S A s.heap s.heap [] := va_S.rf
  have hl := lv_entry ([.ref Ad0, .ref Br0]) (n := 2) (Nat.le_of_ble_eq_true rfl)
  rw [lg_entry_eq]
  generalize (lg_sl ([.ref Ad0, .ref Br0]) ++ List.replicate (2 - (lg_sl ([.ref Ad0, .ref Br0])).length) Slot.unset).toArray = ls at hl ⊢
  have hl : lv_has ls 2 [(0, .ref Ad0), (1, .ref Br0)] := hl
  have o_Fs0 := ow_0 k_Fs0
  refine lv_aload_n hx hb dX7_init_0 rfl (lv_at hl 0 rfl) ?_
  refine W.objInit hx hb hown (hts (.methodLink RX7 3 objectInit) (by decide +kernel)) (hts (.instanceMethod objectInit) (by decide +kernel)) (hts (.code objectInit ⟨#[0xb1]⟩ 1 none) (by decide +kernel)) rfl (by rw [hml]; exact hl.1) rfl dX7_init_1 (Nat.le_of_ble_eq_true rfl) (Nat.le_of_ble_eq_true rfl) ?_
  refine W.eq (g2 := F0 m 4 ls []) rfl ?_
  refine lv_aload_n hx hb dX7_init_4 rfl (lv_at hl 0 rfl) ?_
  refine lv_aload_n hx hb dX7_init_5 rfl (lv_at hl 1 rfl) ?_
  refine va_putF (D := (dC, dI)) (ci := 10) (v := .ref Br0) (ty := .object "HeapWorks$Tape") (C := RX7) (T := TX7) (N := 21) hx hb hts (in_z_X7_init_X7) tyX7 tyX7_ok nmX7 hown hK hP hD hS 0 rfl rfl 0 (by decide) (hts (.fieldLink RX7 9 "HeapWorks$RuleText" "tape" "LHeapWorks$Tape;") (by decide +kernel)) (fun _ h9 => h9) rfl hin rfl (by decide +kernel) rfl rfl (by rw [o_Fs0.2.1]; decide) dX7_init_6 (fun H locs hP hD hS => ?_)
  have hP : va_P (dC, dI) vwCl [(Ad0, .inr (10, (Fs0.set 0 (.ref Br0))))] H := hP
  have hD : va_D A [(Ad0, .inr (10, (Fs0.set 0 (.ref Br0))))] := hD
  have o_s101 := ow_set o_Fs0 0 (.ref Br0) (by decide) (l' := [(0, .ref Br0)]) (w' := [0]) rfl rfl
  generalize (Fs0.set 0 (.ref Br0)) = s101 at hP hD o_s101
  refine lv_aload_n hx hb dX7_init_9 rfl (lv_at hl 0 rfl) ?_
  refine va_ldcS hx hb hown hC.2.2.1 dX7_init_10 ?_
  have hPc := hP.sub (ws' := []) [] rfl
  have hDc := hD.sub (ws' := []) [] (by decide) rfl
  have hKc := hK.sub (tys' := []) [] rfl
  have hFc := va_free (wc := []) hD hS hA [] rfl
  refine va_calll (va_runS (As := [.ref (adK 1)]) (rest := [.ref Ad0]) ⟨hx, hb, hml, hown, hts⟩ (z_X9_codeOf l dC dI H.size adK adV   ) (va_cwS 1 hts g_z_X7_init_z_X9_codeOf_17 rfl rfl rfl (by decide +kernel) ⟨Nat.le_of_ble_eq_true rfl, Nat.le_of_ble_eq_true rfl⟩) ⟨fun a U g mk q => by obtain ⟨q0, q1, qC, qP, qK, qD⟩ := q; exact ⟨q0, q1, Kc_call qC, qP, va_K.moved (u := U) (U := U.calling g mk a) (Vm.Alike.refl U.vm) qK, qD⟩, fun U hU hW => ⟨rfl, by rw [hU], Kc_go hC hS hFc hU hW, by rw [hU]; exact hPc, va_K.moved hW.alike hKc, hDc.weaken (fun _ _ _ _ => trivial)⟩⟩ rfl rfl hl.1 rfl (lv_room (Nat.le_of_ble_eq_true rfl)) dX7_init_12 ⟨Nat.le_of_ble_eq_true rfl, Nat.le_of_ble_eq_true rfl⟩) hS (fun q _ h => hFc q h) hFc (fun r102 u t H1 locs ht hvm hw hB hz1 hk1 hS => ?_)
  obtain ⟨hP1, hK1, hD1⟩ := hB
  rw [ht] at hP1
  try dsimp only at hw
  obtain ⟨hP, hD⟩ := va_join (wr := [(Ad0, .inr (10, s101))]) (w1 := []) hP hD [] [0] rfl rfl (by decide) (by decide) hk1 hFc hP1 hD1
  have hK := hK.sub (tys' := []) [] rfl
  generalize H1 = H at hP hS ⊢
  have hP : va_P (dC, dI) vwCl [(Ad0, .inr (10, s101))] H := hP
  have hD : va_D A [(Ad0, .inr (10, s101))] := hD
  refine va_putF (D := (dC, dI)) (ci := 10) (v := .long r102) (ty := .long) (C := RX7) (T := TX7) (N := 21) hx hb hts (in_z_X7_init_X7) tyX7 tyX7_ok nmX7 hown hK hP hD hS 0 rfl rfl 1 (by decide) (hts (.fieldLink RX7 23 "HeapWorks$RuleText" "ifCode" "J") (by decide +kernel)) (fun _ h9 => h9) rfl hin rfl (by decide +kernel) rfl rfl (by rw [o_s101.2.1]; decide) dX7_init_15 (fun H locs hP hD hS => ?_)
  have hP : va_P (dC, dI) vwCl [(Ad0, .inr (10, (s101.set 1 (.long r102))))] H := hP
  have hD : va_D A [(Ad0, .inr (10, (s101.set 1 (.long r102))))] := hD
  have o_s103 := ow_set o_s101 1 (.long r102) (by decide) (l' := [(1, .long r102), (0, .ref Br0)]) (w' := [1, 0]) rfl rfl
  generalize (s101.set 1 (.long r102)) = s103 at hP hD o_s103
  refine lv_aload_n hx hb dX7_init_18 rfl (lv_at hl 0 rfl) ?_
  refine va_ldcS hx hb hown hC.2.2.2.1 dX7_init_19 ?_
  have hPc := hP.sub (ws' := []) [] rfl
  have hDc := hD.sub (ws' := []) [] (by decide) rfl
  have hKc := hK.sub (tys' := []) [] rfl
  have hFc := va_free (wc := []) hD hS hA [] rfl
  refine va_calll (va_runS (As := [.ref (adK 2)]) (rest := [.ref Ad0]) ⟨hx, hb, hml, hown, hts⟩ (z_X9_codeOf_1 l dC dI H.size adK adV   ) (va_cwS 1 hts g_z_X7_init_z_X9_codeOf_1_17 rfl rfl rfl (by decide +kernel) ⟨Nat.le_of_ble_eq_true rfl, Nat.le_of_ble_eq_true rfl⟩) ⟨fun a U g mk q => by obtain ⟨q0, q1, qC, qP, qK, qD⟩ := q; exact ⟨q0, q1, Kc_call qC, qP, va_K.moved (u := U) (U := U.calling g mk a) (Vm.Alike.refl U.vm) qK, qD⟩, fun U hU hW => ⟨rfl, by rw [hU], Kc_go hC hS hFc hU hW, by rw [hU]; exact hPc, va_K.moved hW.alike hKc, hDc.weaken (fun _ _ _ _ => trivial)⟩⟩ rfl rfl hl.1 rfl (lv_room (Nat.le_of_ble_eq_true rfl)) dX7_init_21 ⟨Nat.le_of_ble_eq_true rfl, Nat.le_of_ble_eq_true rfl⟩) hS (fun q _ h => hFc q h) hFc (fun r104 u t H1 locs ht hvm hw hB hz1 hk1 hS => ?_)
  obtain ⟨hP1, hK1, hD1⟩ := hB
  rw [ht] at hP1
  try dsimp only at hw
  obtain ⟨hP, hD⟩ := va_join (wr := [(Ad0, .inr (10, s103))]) (w1 := []) hP hD [] [0] rfl rfl (by decide) (by decide) hk1 hFc hP1 hD1
  have hK := hK.sub (tys' := []) [] rfl
  generalize H1 = H at hP hS ⊢
  have hP : va_P (dC, dI) vwCl [(Ad0, .inr (10, s103))] H := hP
  have hD : va_D A [(Ad0, .inr (10, s103))] := hD
  refine va_putF (D := (dC, dI)) (ci := 10) (v := .long r104) (ty := .long) (C := RX7) (T := TX7) (N := 21) hx hb hts (in_z_X7_init_X7) tyX7 tyX7_ok nmX7 hown hK hP hD hS 0 rfl rfl 2 (by decide) (hts (.fieldLink RX7 29 "HeapWorks$RuleText" "linkCode" "J") (by decide +kernel)) (fun _ h9 => h9) rfl hin rfl (by decide +kernel) rfl rfl (by rw [o_s103.2.1]; decide) dX7_init_24 (fun H locs hP hD hS => ?_)
  have hP : va_P (dC, dI) vwCl [(Ad0, .inr (10, (s103.set 2 (.long r104))))] H := hP
  have hD : va_D A [(Ad0, .inr (10, (s103.set 2 (.long r104))))] := hD
  have o_s105 := ow_set o_s103 2 (.long r104) (by decide) (l' := [(2, .long r104), (1, .long r102), (0, .ref Br0)]) (w' := [2, 1, 0]) rfl rfl
  generalize (s103.set 2 (.long r104)) = s105 at hP hD o_s105
  refine lv_aload_n hx hb dX7_init_27 rfl (lv_at hl 0 rfl) ?_
  refine lv_bipush (v := 12) hx hb dX7_init_28 (by decide) ?_
  refine va_newa (atype := .int) (ty := .int) (a0 := (12, .inl (fun _ : Nat => (0 : Int32)))) (N' := 12) hx hb (hts (.arrayClass .int) (by decide +kernel)) rfl hK hP hD hS hA (na_I 12) (by decide) (by decide) (by decide) (Nat.le_of_ble_eq_true rfl) (Nat.le_of_ble_eq_true rfl) dX7_init_30 (fun q106 k107 H hK hP hD hS => ?_)
  have hK : va_K (dC, dI) vwCl [(k107, .int)] s := hK
  have hP : va_P (dC, dI) vwCl [(Ad0, .inr (10, s105)), (q106, .inl (k107, 12, .inl ((fun _ : Nat => (0 : Int32)))))] H := hP
  have hD : va_D A [(Ad0, .inr (10, s105)), (q106, .inl (k107, 12, .inl ((fun _ : Nat => (0 : Int32)))))] := hD
  have z109 : ∀ j, (fun _ : Nat => (0 : Int32)) j = 0 := fun _ => rfl
  generalize (fun _ : Nat => (0 : Int32)) = f108 at hP hD z109
  refine W.widen (k := 1) (n := 12) (by omega) (by omega) ?_
  refine va_putF (D := (dC, dI)) (ci := 10) (v := .ref q106) (ty := .array .int) (C := RX7) (T := TX7) (N := 21) hx hb hts (in_z_X7_init_X7) tyX7 tyX7_ok nmX7 hown hK hP hD hS 0 rfl rfl 4 (by decide) (hts (.fieldLink RX7 32 "HeapWorks$RuleText" "headRelation" "[I") (by decide +kernel)) (fun _ h9 => h9) rfl hin rfl (by decide +kernel) rfl rfl (by rw [o_s105.2.1]; decide) dX7_init_32 (fun H locs hP hD hS => ?_)
  have hP : va_P (dC, dI) vwCl [(Ad0, .inr (10, (s105.set 4 (.ref q106)))), (q106, .inl (k107, 12, .inl f108))] H := hP
  have hD : va_D A [(Ad0, .inr (10, (s105.set 4 (.ref q106)))), (q106, .inl (k107, 12, .inl f108))] := hD
  have o_s110 := ow_set o_s105 4 (.ref q106) (by decide) (l' := [(4, .ref q106), (2, .long r104), (1, .long r102), (0, .ref Br0)]) (w' := [4, 2, 1, 0]) rfl rfl
  generalize (s105.set 4 (.ref q106)) = s110 at hP hD o_s110
  have hP := hP.sub (ws' := [(Ad0, .inr (10, s110))]) [0] rfl
  have hD := hD.sub (ws' := [(Ad0, .inr (10, s110))]) [0] (by decide) rfl
  have hK := hK.sub (tys' := []) [] rfl
  refine lv_aload_n hx hb dX7_init_35 rfl (lv_at hl 0 rfl) ?_
  refine lv_bipush (v := 12) hx hb dX7_init_36 (by decide) ?_
  refine va_newa (atype := .int) (ty := .int) (a0 := (12, .inl (fun _ : Nat => (0 : Int32)))) (N' := 12) hx hb (hts (.arrayClass .int) (by decide +kernel)) rfl hK hP hD hS hA (na_I 12) (by decide) (by decide) (by decide) (Nat.le_of_ble_eq_true rfl) (Nat.le_of_ble_eq_true rfl) dX7_init_38 (fun q111 k112 H hK hP hD hS => ?_)
  have hK : va_K (dC, dI) vwCl [(k112, .int)] s := hK
  have hP : va_P (dC, dI) vwCl [(Ad0, .inr (10, s110)), (q111, .inl (k112, 12, .inl ((fun _ : Nat => (0 : Int32)))))] H := hP
  have hD : va_D A [(Ad0, .inr (10, s110)), (q111, .inl (k112, 12, .inl ((fun _ : Nat => (0 : Int32)))))] := hD
  have z114 : ∀ j, (fun _ : Nat => (0 : Int32)) j = 0 := fun _ => rfl
  generalize (fun _ : Nat => (0 : Int32)) = f113 at hP hD z114
  refine W.widen (k := 2) (n := 24) (by omega) (by omega) ?_
  refine va_putF (D := (dC, dI)) (ci := 10) (v := .ref q111) (ty := .array .int) (C := RX7) (T := TX7) (N := 21) hx hb hts (in_z_X7_init_X7) tyX7 tyX7_ok nmX7 hown hK hP hD hS 0 rfl rfl 5 (by decide) (hts (.fieldLink RX7 36 "HeapWorks$RuleText" "headA" "[I") (by decide +kernel)) (fun _ h9 => h9) rfl hin rfl (by decide +kernel) rfl rfl (by rw [o_s110.2.1]; decide) dX7_init_40 (fun H locs hP hD hS => ?_)
  have hP : va_P (dC, dI) vwCl [(Ad0, .inr (10, (s110.set 5 (.ref q111)))), (q111, .inl (k112, 12, .inl f113))] H := hP
  have hD : va_D A [(Ad0, .inr (10, (s110.set 5 (.ref q111)))), (q111, .inl (k112, 12, .inl f113))] := hD
  have o_s115 := ow_set o_s110 5 (.ref q111) (by decide) (l' := [(5, .ref q111), (4, .ref q106), (2, .long r104), (1, .long r102), (0, .ref Br0)]) (w' := [5, 4, 2, 1, 0]) rfl rfl
  generalize (s110.set 5 (.ref q111)) = s115 at hP hD o_s115
  have hP := hP.sub (ws' := [(Ad0, .inr (10, s115))]) [0] rfl
  have hD := hD.sub (ws' := [(Ad0, .inr (10, s115))]) [0] (by decide) rfl
  have hK := hK.sub (tys' := []) [] rfl
  refine lv_aload_n hx hb dX7_init_43 rfl (lv_at hl 0 rfl) ?_
  refine lv_bipush (v := 12) hx hb dX7_init_44 (by decide) ?_
  refine va_newa (atype := .int) (ty := .int) (a0 := (12, .inl (fun _ : Nat => (0 : Int32)))) (N' := 12) hx hb (hts (.arrayClass .int) (by decide +kernel)) rfl hK hP hD hS hA (na_I 12) (by decide) (by decide) (by decide) (Nat.le_of_ble_eq_true rfl) (Nat.le_of_ble_eq_true rfl) dX7_init_46 (fun q116 k117 H hK hP hD hS => ?_)
  have hK : va_K (dC, dI) vwCl [(k117, .int)] s := hK
  have hP : va_P (dC, dI) vwCl [(Ad0, .inr (10, s115)), (q116, .inl (k117, 12, .inl ((fun _ : Nat => (0 : Int32)))))] H := hP
  have hD : va_D A [(Ad0, .inr (10, s115)), (q116, .inl (k117, 12, .inl ((fun _ : Nat => (0 : Int32)))))] := hD
  have z119 : ∀ j, (fun _ : Nat => (0 : Int32)) j = 0 := fun _ => rfl
  generalize (fun _ : Nat => (0 : Int32)) = f118 at hP hD z119
  refine W.widen (k := 3) (n := 36) (by omega) (by omega) ?_
  refine va_putF (D := (dC, dI)) (ci := 10) (v := .ref q116) (ty := .array .int) (C := RX7) (T := TX7) (N := 21) hx hb hts (in_z_X7_init_X7) tyX7 tyX7_ok nmX7 hown hK hP hD hS 0 rfl rfl 6 (by decide) (hts (.fieldLink RX7 39 "HeapWorks$RuleText" "headB" "[I") (by decide +kernel)) (fun _ h9 => h9) rfl hin rfl (by decide +kernel) rfl rfl (by rw [o_s115.2.1]; decide) dX7_init_48 (fun H locs hP hD hS => ?_)
  have hP : va_P (dC, dI) vwCl [(Ad0, .inr (10, (s115.set 6 (.ref q116)))), (q116, .inl (k117, 12, .inl f118))] H := hP
  have hD : va_D A [(Ad0, .inr (10, (s115.set 6 (.ref q116)))), (q116, .inl (k117, 12, .inl f118))] := hD
  have o_s120 := ow_set o_s115 6 (.ref q116) (by decide) (l' := [(6, .ref q116), (5, .ref q111), (4, .ref q106), (2, .long r104), (1, .long r102), (0, .ref Br0)]) (w' := [6, 5, 4, 2, 1, 0]) rfl rfl
  generalize (s115.set 6 (.ref q116)) = s120 at hP hD o_s120
  have hP := hP.sub (ws' := [(Ad0, .inr (10, s120))]) [0] rfl
  have hD := hD.sub (ws' := [(Ad0, .inr (10, s120))]) [0] (by decide) rfl
  have hK := hK.sub (tys' := []) [] rfl
  refine lv_aload_n hx hb dX7_init_51 rfl (lv_at hl 0 rfl) ?_
  refine lv_bipush (v := 12) hx hb dX7_init_52 (by decide) ?_
  refine va_newa (atype := .int) (ty := .int) (a0 := (12, .inl (fun _ : Nat => (0 : Int32)))) (N' := 12) hx hb (hts (.arrayClass .int) (by decide +kernel)) rfl hK hP hD hS hA (na_I 12) (by decide) (by decide) (by decide) (Nat.le_of_ble_eq_true rfl) (Nat.le_of_ble_eq_true rfl) dX7_init_54 (fun q121 k122 H hK hP hD hS => ?_)
  have hK : va_K (dC, dI) vwCl [(k122, .int)] s := hK
  have hP : va_P (dC, dI) vwCl [(Ad0, .inr (10, s120)), (q121, .inl (k122, 12, .inl ((fun _ : Nat => (0 : Int32)))))] H := hP
  have hD : va_D A [(Ad0, .inr (10, s120)), (q121, .inl (k122, 12, .inl ((fun _ : Nat => (0 : Int32)))))] := hD
  have z124 : ∀ j, (fun _ : Nat => (0 : Int32)) j = 0 := fun _ => rfl
  generalize (fun _ : Nat => (0 : Int32)) = f123 at hP hD z124
  refine W.widen (k := 4) (n := 48) (by omega) (by omega) ?_
  refine va_putF (D := (dC, dI)) (ci := 10) (v := .ref q121) (ty := .array .int) (C := RX7) (T := TX7) (N := 21) hx hb hts (in_z_X7_init_X7) tyX7 tyX7_ok nmX7 hown hK hP hD hS 0 rfl rfl 7 (by decide) (hts (.fieldLink RX7 42 "HeapWorks$RuleText" "variableCount" "[I") (by decide +kernel)) (fun _ h9 => h9) rfl hin rfl (by decide +kernel) rfl rfl (by rw [o_s120.2.1]; decide) dX7_init_56 (fun H locs hP hD hS => ?_)
  have hP : va_P (dC, dI) vwCl [(Ad0, .inr (10, (s120.set 7 (.ref q121)))), (q121, .inl (k122, 12, .inl f123))] H := hP
  have hD : va_D A [(Ad0, .inr (10, (s120.set 7 (.ref q121)))), (q121, .inl (k122, 12, .inl f123))] := hD
  have o_s125 := ow_set o_s120 7 (.ref q121) (by decide) (l' := [(7, .ref q121), (6, .ref q116), (5, .ref q111), (4, .ref q106), (2, .long r104), (1, .long r102), (0, .ref Br0)]) (w' := [7, 6, 5, 4, 2, 1, 0]) rfl rfl
  generalize (s120.set 7 (.ref q121)) = s125 at hP hD o_s125
  have hP := hP.sub (ws' := [(Ad0, .inr (10, s125))]) [0] rfl
  have hD := hD.sub (ws' := [(Ad0, .inr (10, s125))]) [0] (by decide) rfl
  have hK := hK.sub (tys' := []) [] rfl
  refine lv_aload_n hx hb dX7_init_59 rfl (lv_at hl 0 rfl) ?_
  refine lv_bipush (v := 12) hx hb dX7_init_60 (by decide) ?_
  refine va_newa (atype := .int) (ty := .int) (a0 := (12, .inl (fun _ : Nat => (0 : Int32)))) (N' := 12) hx hb (hts (.arrayClass .int) (by decide +kernel)) rfl hK hP hD hS hA (na_I 12) (by decide) (by decide) (by decide) (Nat.le_of_ble_eq_true rfl) (Nat.le_of_ble_eq_true rfl) dX7_init_62 (fun q126 k127 H hK hP hD hS => ?_)
  have hK : va_K (dC, dI) vwCl [(k127, .int)] s := hK
  have hP : va_P (dC, dI) vwCl [(Ad0, .inr (10, s125)), (q126, .inl (k127, 12, .inl ((fun _ : Nat => (0 : Int32)))))] H := hP
  have hD : va_D A [(Ad0, .inr (10, s125)), (q126, .inl (k127, 12, .inl ((fun _ : Nat => (0 : Int32)))))] := hD
  have z129 : ∀ j, (fun _ : Nat => (0 : Int32)) j = 0 := fun _ => rfl
  generalize (fun _ : Nat => (0 : Int32)) = f128 at hP hD z129
  refine W.widen (k := 5) (n := 60) (by omega) (by omega) ?_
  refine va_putF (D := (dC, dI)) (ci := 10) (v := .ref q126) (ty := .array .int) (C := RX7) (T := TX7) (N := 21) hx hb hts (in_z_X7_init_X7) tyX7 tyX7_ok nmX7 hown hK hP hD hS 0 rfl rfl 8 (by decide) (hts (.fieldLink RX7 45 "HeapWorks$RuleText" "bodyCount" "[I") (by decide +kernel)) (fun _ h9 => h9) rfl hin rfl (by decide +kernel) rfl rfl (by rw [o_s125.2.1]; decide) dX7_init_64 (fun H locs hP hD hS => ?_)
  have hP : va_P (dC, dI) vwCl [(Ad0, .inr (10, (s125.set 8 (.ref q126)))), (q126, .inl (k127, 12, .inl f128))] H := hP
  have hD : va_D A [(Ad0, .inr (10, (s125.set 8 (.ref q126)))), (q126, .inl (k127, 12, .inl f128))] := hD
  have o_s130 := ow_set o_s125 8 (.ref q126) (by decide) (l' := [(8, .ref q126), (7, .ref q121), (6, .ref q116), (5, .ref q111), (4, .ref q106), (2, .long r104), (1, .long r102), (0, .ref Br0)]) (w' := [8, 7, 6, 5, 4, 2, 1, 0]) rfl rfl
  generalize (s125.set 8 (.ref q126)) = s130 at hP hD o_s130
  have hP := hP.sub (ws' := [(Ad0, .inr (10, s130))]) [0] rfl
  have hD := hD.sub (ws' := [(Ad0, .inr (10, s130))]) [0] (by decide) rfl
  have hK := hK.sub (tys' := []) [] rfl
  refine lv_aload_n hx hb dX7_init_67 rfl (lv_at hl 0 rfl) ?_
  refine lv_bipush (v := 48) hx hb dX7_init_68 (by decide) ?_
  refine va_newa (atype := .int) (ty := .int) (a0 := (48, .inl (fun _ : Nat => (0 : Int32)))) (N' := 48) hx hb (hts (.arrayClass .int) (by decide +kernel)) rfl hK hP hD hS hA (na_I 48) (by decide) (by decide) (by decide) (Nat.le_of_ble_eq_true rfl) (Nat.le_of_ble_eq_true rfl) dX7_init_70 (fun q131 k132 H hK hP hD hS => ?_)
  have hK : va_K (dC, dI) vwCl [(k132, .int)] s := hK
  have hP : va_P (dC, dI) vwCl [(Ad0, .inr (10, s130)), (q131, .inl (k132, 48, .inl ((fun _ : Nat => (0 : Int32)))))] H := hP
  have hD : va_D A [(Ad0, .inr (10, s130)), (q131, .inl (k132, 48, .inl ((fun _ : Nat => (0 : Int32)))))] := hD
  have z134 : ∀ j, (fun _ : Nat => (0 : Int32)) j = 0 := fun _ => rfl
  generalize (fun _ : Nat => (0 : Int32)) = f133 at hP hD z134
  refine W.widen (k := 6) (n := 108) (by omega) (by omega) ?_
  refine va_putF (D := (dC, dI)) (ci := 10) (v := .ref q131) (ty := .array .int) (C := RX7) (T := TX7) (N := 21) hx hb hts (in_z_X7_init_X7) tyX7 tyX7_ok nmX7 hown hK hP hD hS 0 rfl rfl 9 (by decide) (hts (.fieldLink RX7 48 "HeapWorks$RuleText" "bodyRelation" "[I") (by decide +kernel)) (fun _ h9 => h9) rfl hin rfl (by decide +kernel) rfl rfl (by rw [o_s130.2.1]; decide) dX7_init_72 (fun H locs hP hD hS => ?_)
  have hP : va_P (dC, dI) vwCl [(Ad0, .inr (10, (s130.set 9 (.ref q131)))), (q131, .inl (k132, 48, .inl f133))] H := hP
  have hD : va_D A [(Ad0, .inr (10, (s130.set 9 (.ref q131)))), (q131, .inl (k132, 48, .inl f133))] := hD
  have o_s135 := ow_set o_s130 9 (.ref q131) (by decide) (l' := [(9, .ref q131), (8, .ref q126), (7, .ref q121), (6, .ref q116), (5, .ref q111), (4, .ref q106), (2, .long r104), (1, .long r102), (0, .ref Br0)]) (w' := [9, 8, 7, 6, 5, 4, 2, 1, 0]) rfl rfl
  generalize (s130.set 9 (.ref q131)) = s135 at hP hD o_s135
  have hP := hP.sub (ws' := [(Ad0, .inr (10, s135))]) [0] rfl
  have hD := hD.sub (ws' := [(Ad0, .inr (10, s135))]) [0] (by decide) rfl
  have hK := hK.sub (tys' := []) [] rfl
  refine lv_aload_n hx hb dX7_init_75 rfl (lv_at hl 0 rfl) ?_
  refine lv_bipush (v := 48) hx hb dX7_init_76 (by decide) ?_
  refine va_newa (atype := .int) (ty := .int) (a0 := (48, .inl (fun _ : Nat => (0 : Int32)))) (N' := 48) hx hb (hts (.arrayClass .int) (by decide +kernel)) rfl hK hP hD hS hA (na_I 48) (by decide) (by decide) (by decide) (Nat.le_of_ble_eq_true rfl) (Nat.le_of_ble_eq_true rfl) dX7_init_78 (fun q136 k137 H hK hP hD hS => ?_)
  have hK : va_K (dC, dI) vwCl [(k137, .int)] s := hK
  have hP : va_P (dC, dI) vwCl [(Ad0, .inr (10, s135)), (q136, .inl (k137, 48, .inl ((fun _ : Nat => (0 : Int32)))))] H := hP
  have hD : va_D A [(Ad0, .inr (10, s135)), (q136, .inl (k137, 48, .inl ((fun _ : Nat => (0 : Int32)))))] := hD
  have z139 : ∀ j, (fun _ : Nat => (0 : Int32)) j = 0 := fun _ => rfl
  generalize (fun _ : Nat => (0 : Int32)) = f138 at hP hD z139
  refine W.widen (k := 7) (n := 156) (by omega) (by omega) ?_
  refine va_putF (D := (dC, dI)) (ci := 10) (v := .ref q136) (ty := .array .int) (C := RX7) (T := TX7) (N := 21) hx hb hts (in_z_X7_init_X7) tyX7 tyX7_ok nmX7 hown hK hP hD hS 0 rfl rfl 10 (by decide) (hts (.fieldLink RX7 51 "HeapWorks$RuleText" "bodyA" "[I") (by decide +kernel)) (fun _ h9 => h9) rfl hin rfl (by decide +kernel) rfl rfl (by rw [o_s135.2.1]; decide) dX7_init_80 (fun H locs hP hD hS => ?_)
  have hP : va_P (dC, dI) vwCl [(Ad0, .inr (10, (s135.set 10 (.ref q136)))), (q136, .inl (k137, 48, .inl f138))] H := hP
  have hD : va_D A [(Ad0, .inr (10, (s135.set 10 (.ref q136)))), (q136, .inl (k137, 48, .inl f138))] := hD
  have o_s140 := ow_set o_s135 10 (.ref q136) (by decide) (l' := [(10, .ref q136), (9, .ref q131), (8, .ref q126), (7, .ref q121), (6, .ref q116), (5, .ref q111), (4, .ref q106), (2, .long r104), (1, .long r102), (0, .ref Br0)]) (w' := [10, 9, 8, 7, 6, 5, 4, 2, 1, 0]) rfl rfl
  generalize (s135.set 10 (.ref q136)) = s140 at hP hD o_s140
  have hP := hP.sub (ws' := [(Ad0, .inr (10, s140))]) [0] rfl
  have hD := hD.sub (ws' := [(Ad0, .inr (10, s140))]) [0] (by decide) rfl
  have hK := hK.sub (tys' := []) [] rfl
  refine lv_aload_n hx hb dX7_init_83 rfl (lv_at hl 0 rfl) ?_
  refine lv_bipush (v := 48) hx hb dX7_init_84 (by decide) ?_
  refine va_newa (atype := .int) (ty := .int) (a0 := (48, .inl (fun _ : Nat => (0 : Int32)))) (N' := 48) hx hb (hts (.arrayClass .int) (by decide +kernel)) rfl hK hP hD hS hA (na_I 48) (by decide) (by decide) (by decide) (Nat.le_of_ble_eq_true rfl) (Nat.le_of_ble_eq_true rfl) dX7_init_86 (fun q141 k142 H hK hP hD hS => ?_)
  have hK : va_K (dC, dI) vwCl [(k142, .int)] s := hK
  have hP : va_P (dC, dI) vwCl [(Ad0, .inr (10, s140)), (q141, .inl (k142, 48, .inl ((fun _ : Nat => (0 : Int32)))))] H := hP
  have hD : va_D A [(Ad0, .inr (10, s140)), (q141, .inl (k142, 48, .inl ((fun _ : Nat => (0 : Int32)))))] := hD
  have z144 : ∀ j, (fun _ : Nat => (0 : Int32)) j = 0 := fun _ => rfl
  generalize (fun _ : Nat => (0 : Int32)) = f143 at hP hD z144
  refine W.widen (k := 8) (n := 204) (by omega) (by omega) ?_
  refine va_putF (D := (dC, dI)) (ci := 10) (v := .ref q141) (ty := .array .int) (C := RX7) (T := TX7) (N := 21) hx hb hts (in_z_X7_init_X7) tyX7 tyX7_ok nmX7 hown hK hP hD hS 0 rfl rfl 11 (by decide) (hts (.fieldLink RX7 54 "HeapWorks$RuleText" "bodyB" "[I") (by decide +kernel)) (fun _ h9 => h9) rfl hin rfl (by decide +kernel) rfl rfl (by rw [o_s140.2.1]; decide) dX7_init_88 (fun H locs hP hD hS => ?_)
  have hP : va_P (dC, dI) vwCl [(Ad0, .inr (10, (s140.set 11 (.ref q141)))), (q141, .inl (k142, 48, .inl f143))] H := hP
  have hD : va_D A [(Ad0, .inr (10, (s140.set 11 (.ref q141)))), (q141, .inl (k142, 48, .inl f143))] := hD
  have o_s145 := ow_set o_s140 11 (.ref q141) (by decide) (l' := [(11, .ref q141), (10, .ref q136), (9, .ref q131), (8, .ref q126), (7, .ref q121), (6, .ref q116), (5, .ref q111), (4, .ref q106), (2, .long r104), (1, .long r102), (0, .ref Br0)]) (w' := [11, 10, 9, 8, 7, 6, 5, 4, 2, 1, 0]) rfl rfl
  generalize (s140.set 11 (.ref q141)) = s145 at hP hD o_s145
  have hP := hP.sub (ws' := [(Ad0, .inr (10, s145))]) [0] rfl
  have hD := hD.sub (ws' := [(Ad0, .inr (10, s145))]) [0] (by decide) rfl
  have hK := hK.sub (tys' := []) [] rfl
  refine lv_aload_n hx hb dX7_init_91 rfl (lv_at hl 0 rfl) ?_
  refine lv_bipush (v := 48) hx hb dX7_init_92 (by decide) ?_
  refine va_newa (atype := .long) (ty := .long) (a0 := (48, .inr (.inl (fun _ : Nat => (0 : Int64))))) (N' := 48) hx hb (hts (.arrayClass .long) (by decide +kernel)) rfl hK hP hD hS hA (na_J 48) (by decide) (by decide) (by decide) (Nat.le_of_ble_eq_true rfl) (Nat.le_of_ble_eq_true rfl) dX7_init_94 (fun q146 k147 H hK hP hD hS => ?_)
  have hK : va_K (dC, dI) vwCl [(k147, .long)] s := hK
  have hP : va_P (dC, dI) vwCl [(Ad0, .inr (10, s145)), (q146, .inl (k147, 48, .inr (.inl ((fun _ : Nat => (0 : Int64))))))] H := hP
  have hD : va_D A [(Ad0, .inr (10, s145)), (q146, .inl (k147, 48, .inr (.inl ((fun _ : Nat => (0 : Int64))))))] := hD
  have z149 : ∀ j, (fun _ : Nat => (0 : Int64)) j = 0 := fun _ => rfl
  generalize (fun _ : Nat => (0 : Int64)) = f148 at hP hD z149
  refine W.widen (k := 9) (n := 252) (by omega) (by omega) ?_
  refine va_putF (D := (dC, dI)) (ci := 10) (v := .ref q146) (ty := .array .long) (C := RX7) (T := TX7) (N := 21) hx hb hts (in_z_X7_init_X7) tyX7 tyX7_ok nmX7 hown hK hP hD hS 0 rfl rfl 12 (by decide) (hts (.fieldLink RX7 57 "HeapWorks$RuleText" "bodyName" "[J") (by decide +kernel)) (fun _ h9 => h9) rfl hin rfl (by decide +kernel) rfl rfl (by rw [o_s145.2.1]; decide) dX7_init_96 (fun H locs hP hD hS => ?_)
  have hP : va_P (dC, dI) vwCl [(Ad0, .inr (10, (s145.set 12 (.ref q146)))), (q146, .inl (k147, 48, .inr (.inl f148)))] H := hP
  have hD : va_D A [(Ad0, .inr (10, (s145.set 12 (.ref q146)))), (q146, .inl (k147, 48, .inr (.inl f148)))] := hD
  have o_s150 := ow_set o_s145 12 (.ref q146) (by decide) (l' := [(12, .ref q146), (11, .ref q141), (10, .ref q136), (9, .ref q131), (8, .ref q126), (7, .ref q121), (6, .ref q116), (5, .ref q111), (4, .ref q106), (2, .long r104), (1, .long r102), (0, .ref Br0)]) (w' := [12, 11, 10, 9, 8, 7, 6, 5, 4, 2, 1, 0]) rfl rfl
  generalize (s145.set 12 (.ref q146)) = s150 at hP hD o_s150
  have hP := hP.sub (ws' := [(Ad0, .inr (10, s150))]) [0] rfl
  have hD := hD.sub (ws' := [(Ad0, .inr (10, s150))]) [0] (by decide) rfl
  have hK := hK.sub (tys' := []) [] rfl
  refine lv_aload_n hx hb dX7_init_99 rfl (lv_at hl 0 rfl) ?_
  refine lv_iconst (v := 3) hx hb dX7_init_100 (by decide) ?_
  refine va_newa (atype := .long) (ty := .long) (a0 := (3, .inr (.inl (fun _ : Nat => (0 : Int64))))) (N' := 3) hx hb (hts (.arrayClass .long) (by decide +kernel)) rfl hK hP hD hS hA (na_J 3) (by decide) (by decide) (by decide) (Nat.le_of_ble_eq_true rfl) (Nat.le_of_ble_eq_true rfl) dX7_init_101 (fun q151 k152 H hK hP hD hS => ?_)
  have hK : va_K (dC, dI) vwCl [(k152, .long)] s := hK
  have hP : va_P (dC, dI) vwCl [(Ad0, .inr (10, s150)), (q151, .inl (k152, 3, .inr (.inl ((fun _ : Nat => (0 : Int64))))))] H := hP
  have hD : va_D A [(Ad0, .inr (10, s150)), (q151, .inl (k152, 3, .inr (.inl ((fun _ : Nat => (0 : Int64))))))] := hD
  have z154 : ∀ j, (fun _ : Nat => (0 : Int64)) j = 0 := fun _ => rfl
  generalize (fun _ : Nat => (0 : Int64)) = f153 at hP hD z154
  refine W.widen (k := 10) (n := 255) (by omega) (by omega) ?_
  refine va_putF (D := (dC, dI)) (ci := 10) (v := .ref q151) (ty := .array .long) (C := RX7) (T := TX7) (N := 21) hx hb hts (in_z_X7_init_X7) tyX7 tyX7_ok nmX7 hown hK hP hD hS 0 rfl rfl 13 (by decide) (hts (.fieldLink RX7 61 "HeapWorks$RuleText" "variableName" "[J") (by decide +kernel)) (fun _ h9 => h9) rfl hin rfl (by decide +kernel) rfl rfl (by rw [o_s150.2.1]; decide) dX7_init_103 (fun H locs hP hD hS => ?_)
  have hP : va_P (dC, dI) vwCl [(Ad0, .inr (10, (s150.set 13 (.ref q151)))), (q151, .inl (k152, 3, .inr (.inl f153)))] H := hP
  have hD : va_D A [(Ad0, .inr (10, (s150.set 13 (.ref q151)))), (q151, .inl (k152, 3, .inr (.inl f153)))] := hD
  have o_s155 := ow_set o_s150 13 (.ref q151) (by decide) (l' := [(13, .ref q151), (12, .ref q146), (11, .ref q141), (10, .ref q136), (9, .ref q131), (8, .ref q126), (7, .ref q121), (6, .ref q116), (5, .ref q111), (4, .ref q106), (2, .long r104), (1, .long r102), (0, .ref Br0)]) (w' := [13, 12, 11, 10, 9, 8, 7, 6, 5, 4, 2, 1, 0]) rfl rfl
  generalize (s150.set 13 (.ref q151)) = s155 at hP hD o_s155
  have hP := hP.sub (ws' := [(Ad0, .inr (10, s155))]) [0] rfl
  have hD := hD.sub (ws' := [(Ad0, .inr (10, s155))]) [0] (by decide) rfl
  have hK := hK.sub (tys' := []) [] rfl
  refine lv_aload_n hx hb dX7_init_106 rfl (lv_at hl 0 rfl) ?_
  refine lv_bipush (v := 6) hx hb dX7_init_107 (by decide) ?_
  refine va_newa (atype := .long) (ty := .long) (a0 := (6, .inr (.inl (fun _ : Nat => (0 : Int64))))) (N' := 6) hx hb (hts (.arrayClass .long) (by decide +kernel)) rfl hK hP hD hS hA (na_J 6) (by decide) (by decide) (by decide) (Nat.le_of_ble_eq_true rfl) (Nat.le_of_ble_eq_true rfl) dX7_init_109 (fun q156 k157 H hK hP hD hS => ?_)
  have hK : va_K (dC, dI) vwCl [(k157, .long)] s := hK
  have hP : va_P (dC, dI) vwCl [(Ad0, .inr (10, s155)), (q156, .inl (k157, 6, .inr (.inl ((fun _ : Nat => (0 : Int64))))))] H := hP
  have hD : va_D A [(Ad0, .inr (10, s155)), (q156, .inl (k157, 6, .inr (.inl ((fun _ : Nat => (0 : Int64))))))] := hD
  have z159 : ∀ j, (fun _ : Nat => (0 : Int64)) j = 0 := fun _ => rfl
  generalize (fun _ : Nat => (0 : Int64)) = f158 at hP hD z159
  refine W.widen (k := 11) (n := 261) (by omega) (by omega) ?_
  refine va_putF (D := (dC, dI)) (ci := 10) (v := .ref q156) (ty := .array .long) (C := RX7) (T := TX7) (N := 21) hx hb hts (in_z_X7_init_X7) tyX7 tyX7_ok nmX7 hown hK hP hD hS 0 rfl rfl 17 (by decide) (hts (.fieldLink RX7 64 "HeapWorks$RuleText" "relationName" "[J") (by decide +kernel)) (fun _ h9 => h9) rfl hin rfl (by decide +kernel) rfl rfl (by rw [o_s155.2.1]; decide) dX7_init_111 (fun H locs hP hD hS => ?_)
  have hP : va_P (dC, dI) vwCl [(Ad0, .inr (10, (s155.set 17 (.ref q156)))), (q156, .inl (k157, 6, .inr (.inl f158)))] H := hP
  have hD : va_D A [(Ad0, .inr (10, (s155.set 17 (.ref q156)))), (q156, .inl (k157, 6, .inr (.inl f158)))] := hD
  have o_s160 := ow_set o_s155 17 (.ref q156) (by decide) (l' := [(17, .ref q156), (13, .ref q151), (12, .ref q146), (11, .ref q141), (10, .ref q136), (9, .ref q131), (8, .ref q126), (7, .ref q121), (6, .ref q116), (5, .ref q111), (4, .ref q106), (2, .long r104), (1, .long r102), (0, .ref Br0)]) (w' := [17, 13, 12, 11, 10, 9, 8, 7, 6, 5, 4, 2, 1, 0]) rfl rfl
  generalize (s155.set 17 (.ref q156)) = s160 at hP hD o_s160
  have hP := hP.sub (ws' := [(Ad0, .inr (10, s160))]) [0] rfl
  have hD := hD.sub (ws' := [(Ad0, .inr (10, s160))]) [0] (by decide) rfl
  have hK := hK.sub (tys' := []) [] rfl
  refine lv_aload_n hx hb dX7_init_114 rfl (lv_at hl 0 rfl) ?_
  refine lv_bipush (v := 6) hx hb dX7_init_115 (by decide) ?_
  refine va_newa (atype := .int) (ty := .int) (a0 := (6, .inl (fun _ : Nat => (0 : Int32)))) (N' := 6) hx hb (hts (.arrayClass .int) (by decide +kernel)) rfl hK hP hD hS hA (na_I 6) (by decide) (by decide) (by decide) (Nat.le_of_ble_eq_true rfl) (Nat.le_of_ble_eq_true rfl) dX7_init_117 (fun q161 k162 H hK hP hD hS => ?_)
  have hK : va_K (dC, dI) vwCl [(k162, .int)] s := hK
  have hP : va_P (dC, dI) vwCl [(Ad0, .inr (10, s160)), (q161, .inl (k162, 6, .inl ((fun _ : Nat => (0 : Int32)))))] H := hP
  have hD : va_D A [(Ad0, .inr (10, s160)), (q161, .inl (k162, 6, .inl ((fun _ : Nat => (0 : Int32)))))] := hD
  have z164 : ∀ j, (fun _ : Nat => (0 : Int32)) j = 0 := fun _ => rfl
  generalize (fun _ : Nat => (0 : Int32)) = f163 at hP hD z164
  refine W.widen (k := 12) (n := 267) (by omega) (by omega) ?_
  refine va_putF (D := (dC, dI)) (ci := 10) (v := .ref q161) (ty := .array .int) (C := RX7) (T := TX7) (N := 21) hx hb hts (in_z_X7_init_X7) tyX7 tyX7_ok nmX7 hown hK hP hD hS 0 rfl rfl 18 (by decide) (hts (.fieldLink RX7 67 "HeapWorks$RuleText" "arity" "[I") (by decide +kernel)) (fun _ h9 => h9) rfl hin rfl (by decide +kernel) rfl rfl (by rw [o_s160.2.1]; decide) dX7_init_119 (fun H locs hP hD hS => ?_)
  have hP : va_P (dC, dI) vwCl [(Ad0, .inr (10, (s160.set 18 (.ref q161)))), (q161, .inl (k162, 6, .inl f163))] H := hP
  have hD : va_D A [(Ad0, .inr (10, (s160.set 18 (.ref q161)))), (q161, .inl (k162, 6, .inl f163))] := hD
  have o_s165 := ow_set o_s160 18 (.ref q161) (by decide) (l' := [(18, .ref q161), (17, .ref q156), (13, .ref q151), (12, .ref q146), (11, .ref q141), (10, .ref q136), (9, .ref q131), (8, .ref q126), (7, .ref q121), (6, .ref q116), (5, .ref q111), (4, .ref q106), (2, .long r104), (1, .long r102), (0, .ref Br0)]) (w' := [18, 17, 13, 12, 11, 10, 9, 8, 7, 6, 5, 4, 2, 1, 0]) rfl rfl
  generalize (s160.set 18 (.ref q161)) = s165 at hP hD o_s165
  have hP := hP.sub (ws' := [(Ad0, .inr (10, s165))]) [0] rfl
  have hD := hD.sub (ws' := [(Ad0, .inr (10, s165))]) [0] (by decide) rfl
  have hK := hK.sub (tys' := []) [] rfl
  have hP9 := hP.sub (ws' := [(Ad0, .inr (10, s165))]) [0] rfl
  have hD9 := hD.sub (ws' := [(Ad0, .inr (10, s165))]) [0] (by decide) rfl
  have hK9 := hK.sub (tys' := []) [] rfl
  refine W.widen (k := 12) (n := 267) (by decide) (by decide) ?_
  exact W.vret hx hb hr (fun t ht hW => ⟨⟨s165, rfl, (ow_sub o_s165 [14] rfl), by rw [ht]; exact hP9, va_K.moved hW.alike hK9, hD9⟩, hS.F ht⟩) hS.2.2 dX7_init_122

def l_z_X1_init : List Cond := [.methodLink RX1 3 objectInit, .instanceMethod objectInit, .code objectInit ⟨#[0xb1]⟩ 1 none, .fieldLink RX1 9 "HeapWorks$FactBook" "types" "LHeapWorks$Types;", .arrayClass .long, .fieldLink RX1 15 "HeapWorks$FactBook" "row" "[J", .fieldLink RX1 19 "HeapWorks$FactBook" "column" "[J", .fieldLink RX1 22 "HeapWorks$FactBook" "diagonal" "[J", .fieldLink RX1 27 "HeapWorks$FactBook" "classBits" "[J", .arrayClass .int, .fieldLink RX1 30 "HeapWorks$FactBook" "chosen" "[I"]
def w_z_X1_init : List Cond := .code yX1_init cX1_init 2 none :: (l_z_X1_init ++ (wsX10))
theorem in_z_X1_init_X1 : ∀ w ∈ wsX10, w ∈ w_z_X1_init := fun w h => List.mem_cons_of_mem _ (List.mem_append_right _ (h))
set_option maxHeartbeats 4000000 in
set_option maxRecDepth 100000 in
theorem z_X1_init (l : Launch) (dC : Nat → ClassId) (dI : Nat → Nat → Nat) (sz : Nat) (Ad0 : Nat) (Fs0 : List Value) (Br0 : Nat) (k_Fs0 : fh Fs0 10 [])  : Met l yX1_init w_z_X1_init ({ frames := 1, cells := 5, slots := 780, locals := 24 }) (va_Pc [.ref Ad0, .ref Br0] (fun U => U.heap.size = sz ∧ Wd dC dI [] (fun _ => True) [(Ad0, .inr (4, Fs0))] U)) (va_Qv (fun (u : List Value × Nat × (Nat → Int64) × ClassId × Nat × (Nat → Int64) × ClassId × Nat × (Nat → Int64) × ClassId) => match u with | (s126, q112, f114, k113, q107, f109, k108, q102, f104, k103) => (ow Fs0 (s126) 10 [7, 6, 5, 4, 3, 0] [(5, .ref q112), (4, .ref q107), (3, .ref q102), (0, .ref Br0)] ∧ (∀ j, f114 j = 0) ∧ (∀ j, f109 j = 0) ∧ (∀ j, f104 j = 0))) (fun (u : List Value × Nat × (Nat → Int64) × ClassId × Nat × (Nat → Int64) × ClassId × Nat × (Nat → Int64) × ClassId) t => match u with | (s126, q112, f114, k113, q107, f109, k108, q102, f104, k103) => Wd dC dI [(k113, .long), (k108, .long), (k103, .long)] (va_A [(Ad0, .inr (4, Fs0))] sz) [(Ad0, .inr (4, s126)), (q112, .inl (k113, 9, .inr (.inl f114))), (q107, .inl (k108, 360, .inr (.inl f109))), (q102, .inl (k103, 360, .inr (.inl f104)))] t) (va_A [(Ad0, .inr (4, Fs0))] sz))  5 780 (va_A [(Ad0, .inr (4, Fs0))] sz) := by
  refine Met.ofW (cc := cX1_init) (maxL := 2) (ret := none) (by decide) rfl ?_
  intro p e s m args below meth c s₁ B hml hv
  obtain ⟨rfl, hsz, hP, hK, hD0⟩ := hv
  have hx := B.exec
  have hb := B.bytes
  have hr := B.returns
  have hts := atoms_spec (ws := w_z_X1_init) B.pre
  have hown : s.vm.findClass RX1 = some m.cls := findClass_of_methodNamed B.named
  have hlocks := B.notSynchronized
  have hin : meth.name = "<init>" := (name_of_methodNamed B.named B.method).1
  subst hsz
  have hD := hD0.self (sz := s.heap.size)
  generalize hAe : va_A [(Ad0, .inr (4, Fs0))] s.heap.size = A at hD ⊢
  have hA : ∀ q : Nat, s.heap.size ≤ q → A q := fun q h => by rw [← hAe]; exact Or.inr h
  have hS : va_S A s.heap s.heap [] := va_S.rf
  have hl := lv_entry ([.ref Ad0, .ref Br0]) (n := 2) (Nat.le_of_ble_eq_true rfl)
  rw [lg_entry_eq]
  generalize (lg_sl ([.ref Ad0, .ref Br0]) ++ List.replicate (2 - (lg_sl ([.ref Ad0, .ref Br0])).length) Slot.unset).toArray = ls at hl ⊢
  have hl : lv_has ls 2 [(0, .ref Ad0), (1, .ref Br0)] := hl
  have o_Fs0 := ow_0 k_Fs0
  refine lv_aload_n hx hb dX1_init_0 rfl (lv_at hl 0 rfl) ?_
  refine W.objInit hx hb hown (hts (.methodLink RX1 3 objectInit) (by decide +kernel)) (hts (.instanceMethod objectInit) (by decide +kernel)) (hts (.code objectInit ⟨#[0xb1]⟩ 1 none) (by decide +kernel)) rfl (by rw [hml]; exact hl.1) rfl dX1_init_1 (Nat.le_of_ble_eq_true rfl) (Nat.le_of_ble_eq_true rfl) ?_
  refine W.eq (g2 := F0 m 4 ls []) rfl ?_
  refine lv_aload_n hx hb dX1_init_4 rfl (lv_at hl 0 rfl) ?_
  refine lv_aload_n hx hb dX1_init_5 rfl (lv_at hl 1 rfl) ?_
  refine va_putF (D := (dC, dI)) (ci := 4) (v := .ref Br0) (ty := .object "HeapWorks$Types") (C := RX1) (T := TX1) (N := 10) hx hb hts (in_z_X1_init_X1) tyX1 tyX1_ok nmX1 hown hK hP hD hS 0 rfl rfl 0 (by decide) (hts (.fieldLink RX1 9 "HeapWorks$FactBook" "types" "LHeapWorks$Types;") (by decide +kernel)) (fun _ h9 => h9) rfl hin rfl (by decide +kernel) rfl rfl (by rw [o_Fs0.2.1]; decide) dX1_init_6 (fun H locs hP hD hS => ?_)
  have hP : va_P (dC, dI) vwCl [(Ad0, .inr (4, (Fs0.set 0 (.ref Br0))))] H := hP
  have hD : va_D A [(Ad0, .inr (4, (Fs0.set 0 (.ref Br0))))] := hD
  have o_s101 := ow_set o_Fs0 0 (.ref Br0) (by decide) (l' := [(0, .ref Br0)]) (w' := [0]) rfl rfl
  generalize (Fs0.set 0 (.ref Br0)) = s101 at hP hD o_s101
  refine lv_aload_n hx hb dX1_init_9 rfl (lv_at hl 0 rfl) ?_
  refine lv_sipush (v := 360) hx hb dX1_init_10 (by decide) ?_
  refine va_newa (atype := .long) (ty := .long) (a0 := (360, .inr (.inl (fun _ : Nat => (0 : Int64))))) (N' := 360) hx hb (hts (.arrayClass .long) (by decide +kernel)) rfl hK hP hD hS hA (na_J 360) (by decide) (by decide) (by decide) (Nat.le_of_ble_eq_true rfl) (Nat.le_of_ble_eq_true rfl) dX1_init_13 (fun q102 k103 H hK hP hD hS => ?_)
  have hK : va_K (dC, dI) vwCl [(k103, .long)] s := hK
  have hP : va_P (dC, dI) vwCl [(Ad0, .inr (4, s101)), (q102, .inl (k103, 360, .inr (.inl ((fun _ : Nat => (0 : Int64))))))] H := hP
  have hD : va_D A [(Ad0, .inr (4, s101)), (q102, .inl (k103, 360, .inr (.inl ((fun _ : Nat => (0 : Int64))))))] := hD
  have z105 : ∀ j, (fun _ : Nat => (0 : Int64)) j = 0 := fun _ => rfl
  generalize (fun _ : Nat => (0 : Int64)) = f104 at hP hD z105
  refine W.widen (k := 1) (n := 360) (by omega) (by omega) ?_
  refine va_putF (D := (dC, dI)) (ci := 4) (v := .ref q102) (ty := .array .long) (C := RX1) (T := TX1) (N := 10) hx hb hts (in_z_X1_init_X1) tyX1 tyX1_ok nmX1 hown hK hP hD hS 0 rfl rfl 3 (by decide) (hts (.fieldLink RX1 15 "HeapWorks$FactBook" "row" "[J") (by decide +kernel)) (fun _ h9 => h9) rfl hin rfl (by decide +kernel) rfl rfl (by rw [o_s101.2.1]; decide) dX1_init_15 (fun H locs hP hD hS => ?_)
  have hP : va_P (dC, dI) vwCl [(Ad0, .inr (4, (s101.set 3 (.ref q102)))), (q102, .inl (k103, 360, .inr (.inl f104)))] H := hP
  have hD : va_D A [(Ad0, .inr (4, (s101.set 3 (.ref q102)))), (q102, .inl (k103, 360, .inr (.inl f104)))] := hD
  have o_s106 := ow_set o_s101 3 (.ref q102) (by decide) (l' := [(3, .ref q102), (0, .ref Br0)]) (w' := [3, 0]) rfl rfl
  generalize (s101.set 3 (.ref q102)) = s106 at hP hD o_s106
  refine lv_aload_n hx hb dX1_init_18 rfl (lv_at hl 0 rfl) ?_
  refine lv_sipush (v := 360) hx hb dX1_init_19 (by decide) ?_
  refine va_newa (atype := .long) (ty := .long) (a0 := (360, .inr (.inl (fun _ : Nat => (0 : Int64))))) (N' := 360) hx hb (hts (.arrayClass .long) (by decide +kernel)) rfl hK hP hD hS hA (na_J 360) (by decide) (by decide) (by decide) (Nat.le_of_ble_eq_true rfl) (Nat.le_of_ble_eq_true rfl) dX1_init_22 (fun q107 k108 H hK hP hD hS => ?_)
  have hK : va_K (dC, dI) vwCl [(k103, .long), (k108, .long)] s := hK
  have hP : va_P (dC, dI) vwCl [(Ad0, .inr (4, s106)), (q102, .inl (k103, 360, .inr (.inl f104))), (q107, .inl (k108, 360, .inr (.inl ((fun _ : Nat => (0 : Int64))))))] H := hP
  have hD : va_D A [(Ad0, .inr (4, s106)), (q102, .inl (k103, 360, .inr (.inl f104))), (q107, .inl (k108, 360, .inr (.inl ((fun _ : Nat => (0 : Int64))))))] := hD
  have z110 : ∀ j, (fun _ : Nat => (0 : Int64)) j = 0 := fun _ => rfl
  generalize (fun _ : Nat => (0 : Int64)) = f109 at hP hD z110
  refine W.widen (k := 2) (n := 720) (by omega) (by omega) ?_
  refine va_putF (D := (dC, dI)) (ci := 4) (v := .ref q107) (ty := .array .long) (C := RX1) (T := TX1) (N := 10) hx hb hts (in_z_X1_init_X1) tyX1 tyX1_ok nmX1 hown hK hP hD hS 0 rfl rfl 4 (by decide) (hts (.fieldLink RX1 19 "HeapWorks$FactBook" "column" "[J") (by decide +kernel)) (fun _ h9 => h9) rfl hin rfl (by decide +kernel) rfl rfl (by rw [o_s106.2.1]; decide) dX1_init_24 (fun H locs hP hD hS => ?_)
  have hP : va_P (dC, dI) vwCl [(Ad0, .inr (4, (s106.set 4 (.ref q107)))), (q102, .inl (k103, 360, .inr (.inl f104))), (q107, .inl (k108, 360, .inr (.inl f109)))] H := hP
  have hD : va_D A [(Ad0, .inr (4, (s106.set 4 (.ref q107)))), (q102, .inl (k103, 360, .inr (.inl f104))), (q107, .inl (k108, 360, .inr (.inl f109)))] := hD
  have o_s111 := ow_set o_s106 4 (.ref q107) (by decide) (l' := [(4, .ref q107), (3, .ref q102), (0, .ref Br0)]) (w' := [4, 3, 0]) rfl rfl
  generalize (s106.set 4 (.ref q107)) = s111 at hP hD o_s111
  refine lv_aload_n hx hb dX1_init_27 rfl (lv_at hl 0 rfl) ?_
  refine lv_bipush (v := 9) hx hb dX1_init_28 (by decide) ?_
  refine va_newa (atype := .long) (ty := .long) (a0 := (9, .inr (.inl (fun _ : Nat => (0 : Int64))))) (N' := 9) hx hb (hts (.arrayClass .long) (by decide +kernel)) rfl hK hP hD hS hA (na_J 9) (by decide) (by decide) (by decide) (Nat.le_of_ble_eq_true rfl) (Nat.le_of_ble_eq_true rfl) dX1_init_30 (fun q112 k113 H hK hP hD hS => ?_)
  have hK : va_K (dC, dI) vwCl [(k103, .long), (k108, .long), (k113, .long)] s := hK
  have hP : va_P (dC, dI) vwCl [(Ad0, .inr (4, s111)), (q102, .inl (k103, 360, .inr (.inl f104))), (q107, .inl (k108, 360, .inr (.inl f109))), (q112, .inl (k113, 9, .inr (.inl ((fun _ : Nat => (0 : Int64))))))] H := hP
  have hD : va_D A [(Ad0, .inr (4, s111)), (q102, .inl (k103, 360, .inr (.inl f104))), (q107, .inl (k108, 360, .inr (.inl f109))), (q112, .inl (k113, 9, .inr (.inl ((fun _ : Nat => (0 : Int64))))))] := hD
  have z115 : ∀ j, (fun _ : Nat => (0 : Int64)) j = 0 := fun _ => rfl
  generalize (fun _ : Nat => (0 : Int64)) = f114 at hP hD z115
  refine W.widen (k := 3) (n := 729) (by omega) (by omega) ?_
  refine va_putF (D := (dC, dI)) (ci := 4) (v := .ref q112) (ty := .array .long) (C := RX1) (T := TX1) (N := 10) hx hb hts (in_z_X1_init_X1) tyX1 tyX1_ok nmX1 hown hK hP hD hS 0 rfl rfl 5 (by decide) (hts (.fieldLink RX1 22 "HeapWorks$FactBook" "diagonal" "[J") (by decide +kernel)) (fun _ h9 => h9) rfl hin rfl (by decide +kernel) rfl rfl (by rw [o_s111.2.1]; decide) dX1_init_32 (fun H locs hP hD hS => ?_)
  have hP : va_P (dC, dI) vwCl [(Ad0, .inr (4, (s111.set 5 (.ref q112)))), (q102, .inl (k103, 360, .inr (.inl f104))), (q107, .inl (k108, 360, .inr (.inl f109))), (q112, .inl (k113, 9, .inr (.inl f114)))] H := hP
  have hD : va_D A [(Ad0, .inr (4, (s111.set 5 (.ref q112)))), (q102, .inl (k103, 360, .inr (.inl f104))), (q107, .inl (k108, 360, .inr (.inl f109))), (q112, .inl (k113, 9, .inr (.inl f114)))] := hD
  have o_s116 := ow_set o_s111 5 (.ref q112) (by decide) (l' := [(5, .ref q112), (4, .ref q107), (3, .ref q102), (0, .ref Br0)]) (w' := [5, 4, 3, 0]) rfl rfl
  generalize (s111.set 5 (.ref q112)) = s116 at hP hD o_s116
  refine lv_aload_n hx hb dX1_init_35 rfl (lv_at hl 0 rfl) ?_
  refine lv_bipush (v := 48) hx hb dX1_init_36 (by decide) ?_
  refine va_newa (atype := .long) (ty := .long) (a0 := (48, .inr (.inl (fun _ : Nat => (0 : Int64))))) (N' := 48) hx hb (hts (.arrayClass .long) (by decide +kernel)) rfl hK hP hD hS hA (na_J 48) (by decide) (by decide) (by decide) (Nat.le_of_ble_eq_true rfl) (Nat.le_of_ble_eq_true rfl) dX1_init_38 (fun q117 k118 H hK hP hD hS => ?_)
  have hK : va_K (dC, dI) vwCl [(k103, .long), (k108, .long), (k113, .long), (k118, .long)] s := hK
  have hP : va_P (dC, dI) vwCl [(Ad0, .inr (4, s116)), (q102, .inl (k103, 360, .inr (.inl f104))), (q107, .inl (k108, 360, .inr (.inl f109))), (q112, .inl (k113, 9, .inr (.inl f114))), (q117, .inl (k118, 48, .inr (.inl ((fun _ : Nat => (0 : Int64))))))] H := hP
  have hD : va_D A [(Ad0, .inr (4, s116)), (q102, .inl (k103, 360, .inr (.inl f104))), (q107, .inl (k108, 360, .inr (.inl f109))), (q112, .inl (k113, 9, .inr (.inl f114))), (q117, .inl (k118, 48, .inr (.inl ((fun _ : Nat => (0 : Int64))))))] := hD
  have z120 : ∀ j, (fun _ : Nat => (0 : Int64)) j = 0 := fun _ => rfl
  generalize (fun _ : Nat => (0 : Int64)) = f119 at hP hD z120
  refine W.widen (k := 4) (n := 777) (by omega) (by omega) ?_
  refine va_putF (D := (dC, dI)) (ci := 4) (v := .ref q117) (ty := .array .long) (C := RX1) (T := TX1) (N := 10) hx hb hts (in_z_X1_init_X1) tyX1 tyX1_ok nmX1 hown hK hP hD hS 0 rfl rfl 6 (by decide) (hts (.fieldLink RX1 27 "HeapWorks$FactBook" "classBits" "[J") (by decide +kernel)) (fun _ h9 => h9) rfl hin rfl (by decide +kernel) rfl rfl (by rw [o_s116.2.1]; decide) dX1_init_40 (fun H locs hP hD hS => ?_)
  have hP : va_P (dC, dI) vwCl [(Ad0, .inr (4, (s116.set 6 (.ref q117)))), (q102, .inl (k103, 360, .inr (.inl f104))), (q107, .inl (k108, 360, .inr (.inl f109))), (q112, .inl (k113, 9, .inr (.inl f114))), (q117, .inl (k118, 48, .inr (.inl f119)))] H := hP
  have hD : va_D A [(Ad0, .inr (4, (s116.set 6 (.ref q117)))), (q102, .inl (k103, 360, .inr (.inl f104))), (q107, .inl (k108, 360, .inr (.inl f109))), (q112, .inl (k113, 9, .inr (.inl f114))), (q117, .inl (k118, 48, .inr (.inl f119)))] := hD
  have o_s121 := ow_set o_s116 6 (.ref q117) (by decide) (l' := [(6, .ref q117), (5, .ref q112), (4, .ref q107), (3, .ref q102), (0, .ref Br0)]) (w' := [6, 5, 4, 3, 0]) rfl rfl
  generalize (s116.set 6 (.ref q117)) = s121 at hP hD o_s121
  have hP := hP.sub (ws' := [(Ad0, .inr (4, s121)), (q102, .inl (k103, 360, .inr (.inl f104))), (q107, .inl (k108, 360, .inr (.inl f109))), (q112, .inl (k113, 9, .inr (.inl f114)))]) [0, 1, 2, 3] rfl
  have hD := hD.sub (ws' := [(Ad0, .inr (4, s121)), (q102, .inl (k103, 360, .inr (.inl f104))), (q107, .inl (k108, 360, .inr (.inl f109))), (q112, .inl (k113, 9, .inr (.inl f114)))]) [0, 1, 2, 3] (by decide) rfl
  have hK := hK.sub (tys' := [(k103, .long), (k108, .long), (k113, .long)]) [0, 1, 2] rfl
  refine lv_aload_n hx hb dX1_init_43 rfl (lv_at hl 0 rfl) ?_
  refine lv_iconst (v := 3) hx hb dX1_init_44 (by decide) ?_
  refine va_newa (atype := .int) (ty := .int) (a0 := (3, .inl (fun _ : Nat => (0 : Int32)))) (N' := 3) hx hb (hts (.arrayClass .int) (by decide +kernel)) rfl hK hP hD hS hA (na_I 3) (by decide) (by decide) (by decide) (Nat.le_of_ble_eq_true rfl) (Nat.le_of_ble_eq_true rfl) dX1_init_45 (fun q122 k123 H hK hP hD hS => ?_)
  have hK : va_K (dC, dI) vwCl [(k103, .long), (k108, .long), (k113, .long), (k123, .int)] s := hK
  have hP : va_P (dC, dI) vwCl [(Ad0, .inr (4, s121)), (q102, .inl (k103, 360, .inr (.inl f104))), (q107, .inl (k108, 360, .inr (.inl f109))), (q112, .inl (k113, 9, .inr (.inl f114))), (q122, .inl (k123, 3, .inl ((fun _ : Nat => (0 : Int32)))))] H := hP
  have hD : va_D A [(Ad0, .inr (4, s121)), (q102, .inl (k103, 360, .inr (.inl f104))), (q107, .inl (k108, 360, .inr (.inl f109))), (q112, .inl (k113, 9, .inr (.inl f114))), (q122, .inl (k123, 3, .inl ((fun _ : Nat => (0 : Int32)))))] := hD
  have z125 : ∀ j, (fun _ : Nat => (0 : Int32)) j = 0 := fun _ => rfl
  generalize (fun _ : Nat => (0 : Int32)) = f124 at hP hD z125
  refine W.widen (k := 5) (n := 780) (by omega) (by omega) ?_
  refine va_putF (D := (dC, dI)) (ci := 4) (v := .ref q122) (ty := .array .int) (C := RX1) (T := TX1) (N := 10) hx hb hts (in_z_X1_init_X1) tyX1 tyX1_ok nmX1 hown hK hP hD hS 0 rfl rfl 7 (by decide) (hts (.fieldLink RX1 30 "HeapWorks$FactBook" "chosen" "[I") (by decide +kernel)) (fun _ h9 => h9) rfl hin rfl (by decide +kernel) rfl rfl (by rw [o_s121.2.1]; decide) dX1_init_47 (fun H locs hP hD hS => ?_)
  have hP : va_P (dC, dI) vwCl [(Ad0, .inr (4, (s121.set 7 (.ref q122)))), (q102, .inl (k103, 360, .inr (.inl f104))), (q107, .inl (k108, 360, .inr (.inl f109))), (q112, .inl (k113, 9, .inr (.inl f114))), (q122, .inl (k123, 3, .inl f124))] H := hP
  have hD : va_D A [(Ad0, .inr (4, (s121.set 7 (.ref q122)))), (q102, .inl (k103, 360, .inr (.inl f104))), (q107, .inl (k108, 360, .inr (.inl f109))), (q112, .inl (k113, 9, .inr (.inl f114))), (q122, .inl (k123, 3, .inl f124))] := hD
  have o_s126 := ow_set o_s121 7 (.ref q122) (by decide) (l' := [(7, .ref q122), (6, .ref q117), (5, .ref q112), (4, .ref q107), (3, .ref q102), (0, .ref Br0)]) (w' := [7, 6, 5, 4, 3, 0]) rfl rfl
  generalize (s121.set 7 (.ref q122)) = s126 at hP hD o_s126
  have hP := hP.sub (ws' := [(Ad0, .inr (4, s126)), (q102, .inl (k103, 360, .inr (.inl f104))), (q107, .inl (k108, 360, .inr (.inl f109))), (q112, .inl (k113, 9, .inr (.inl f114)))]) [0, 1, 2, 3] rfl
  have hD := hD.sub (ws' := [(Ad0, .inr (4, s126)), (q102, .inl (k103, 360, .inr (.inl f104))), (q107, .inl (k108, 360, .inr (.inl f109))), (q112, .inl (k113, 9, .inr (.inl f114)))]) [0, 1, 2, 3] (by decide) rfl
  have hK := hK.sub (tys' := [(k103, .long), (k108, .long), (k113, .long)]) [0, 1, 2] rfl
  have hP9 := hP.sub (ws' := [(Ad0, .inr (4, s126)), (q112, .inl (k113, 9, .inr (.inl f114))), (q107, .inl (k108, 360, .inr (.inl f109))), (q102, .inl (k103, 360, .inr (.inl f104)))]) [0, 3, 2, 1] rfl
  have hD9 := hD.sub (ws' := [(Ad0, .inr (4, s126)), (q112, .inl (k113, 9, .inr (.inl f114))), (q107, .inl (k108, 360, .inr (.inl f109))), (q102, .inl (k103, 360, .inr (.inl f104)))]) [0, 3, 2, 1] (by decide) rfl
  have hK9 := hK.sub (tys' := [(k113, .long), (k108, .long), (k103, .long)]) [2, 1, 0] rfl
  refine W.widen (k := 5) (n := 780) (by decide) (by decide) ?_
  exact W.vret hx hb hr (fun t ht hW => ⟨⟨(s126, q112, f114, k113, q107, f109, k108, q102, f104, k103), rfl, ⟨(ow_sub o_s126 [2, 3, 4, 5] rfl), z115, z110, z105⟩, by rw [ht]; exact hP9, va_K.moved hW.alike hK9, hD9⟩, hS.F ht⟩) hS.2.2 dX1_init_50

def l_z_X0_init : List Cond := [.methodLink RX0 5 objectInit, .instanceMethod objectInit, .code objectInit ⟨#[0xb1]⟩ 1 none, .fieldLink RX0 11 "HeapWorks$Archive" "types" "LHeapWorks$Types;", .arrayClass .int, .fieldLink RX0 19 "HeapWorks$Archive" "buffer" "[I", .fieldLink RX0 23 "HeapWorks$Archive" "log" "[I", .fieldLink RX0 26 "HeapWorks$Archive" "source" "[I", .fieldLink RX0 29 "HeapWorks$Archive" "objectPlace" "[I", .fieldLink RX0 32 "HeapWorks$Archive" "slotPlace" "[I"]
def w_z_X0_init : List Cond := .code yX0_init cX0_init 2 none :: (l_z_X0_init ++ (wsX00))
theorem in_z_X0_init_X0 : ∀ w ∈ wsX00, w ∈ w_z_X0_init := fun w h => List.mem_cons_of_mem _ (List.mem_append_right _ (h))
set_option maxHeartbeats 4000000 in
set_option maxRecDepth 100000 in
theorem z_X0_init (l : Launch) (dC : Nat → ClassId) (dI : Nat → Nat → Nat) (sz : Nat) (Ad0 : Nat) (Fs0 : List Value) (Br0 : Nat) (k_Fs0 : fh Fs0 15 [(1, .null)])  : Met l yX0_init w_z_X0_init ({ frames := 1, cells := 4, slots := 16400, locals := 24 }) (va_Pc [.ref Ad0, .ref Br0] (fun U => U.heap.size = sz ∧ Wd dC dI [] (fun _ => True) [(Ad0, .inr (3, Fs0))] U)) (va_Qv (fun (u : List Value × Nat × (Nat → Int32) × ClassId × Nat × (Nat → Int32) × ClassId) => match u with | (s122, q107, f109, k108, q102, f104, k103) => (ow Fs0 (s122) 15 [12, 11, 6, 3, 1, 0] [(3, .ref q107), (1, .ref q102), (0, .ref Br0)] ∧ (∀ j, f109 j = 0) ∧ (∀ j, f104 j = 0))) (fun (u : List Value × Nat × (Nat → Int32) × ClassId × Nat × (Nat → Int32) × ClassId) t => match u with | (s122, q107, f109, k108, q102, f104, k103) => Wd dC dI [(k108, .int), (k103, .int)] (va_A [(Ad0, .inr (3, Fs0))] sz) [(Ad0, .inr (3, s122)), (q107, .inl (k108, 8000, .inl f109)), (q102, .inl (k103, 4000, .inl f104))] t) (va_A [(Ad0, .inr (3, Fs0))] sz))  4 16400 (va_A [(Ad0, .inr (3, Fs0))] sz) := by
  refine Met.ofW (cc := cX0_init) (maxL := 2) (ret := none) (by decide) rfl ?_
  intro p e s m args below meth c s₁ B hml hv
  obtain ⟨rfl, hsz, hP, hK, hD0⟩ := hv
  have hx := B.exec
  have hb := B.bytes
  have hr := B.returns
  have hts := atoms_spec (ws := w_z_X0_init) B.pre
  have hown : s.vm.findClass RX0 = some m.cls := findClass_of_methodNamed B.named
  have hlocks := B.notSynchronized
  have hin : meth.name = "<init>" := (name_of_methodNamed B.named B.method).1
  subst hsz
  have hD := hD0.self (sz := s.heap.size)
  generalize hAe : va_A [(Ad0, .inr (3, Fs0))] s.heap.size = A at hD ⊢
  have hA : ∀ q : Nat, s.heap.size ≤ q → A q := fun q h => by rw [← hAe]; exact Or.inr h
  have hS : va_S A s.heap s.heap [] := va_S.rf
  have hl := lv_entry ([.ref Ad0, .ref Br0]) (n := 2) (Nat.le_of_ble_eq_true rfl)
  rw [lg_entry_eq]
  generalize (lg_sl ([.ref Ad0, .ref Br0]) ++ List.replicate (2 - (lg_sl ([.ref Ad0, .ref Br0])).length) Slot.unset).toArray = ls at hl ⊢
  have hl : lv_has ls 2 [(0, .ref Ad0), (1, .ref Br0)] := hl
  have o_Fs0 := ow_0 k_Fs0
  refine lv_aload_n hx hb dX0_init_0 rfl (lv_at hl 0 rfl) ?_
  refine W.objInit hx hb hown (hts (.methodLink RX0 5 objectInit) (by decide +kernel)) (hts (.instanceMethod objectInit) (by decide +kernel)) (hts (.code objectInit ⟨#[0xb1]⟩ 1 none) (by decide +kernel)) rfl (by rw [hml]; exact hl.1) rfl dX0_init_1 (Nat.le_of_ble_eq_true rfl) (Nat.le_of_ble_eq_true rfl) ?_
  refine W.eq (g2 := F0 m 4 ls []) rfl ?_
  refine lv_aload_n hx hb dX0_init_4 rfl (lv_at hl 0 rfl) ?_
  refine lv_aload_n hx hb dX0_init_5 rfl (lv_at hl 1 rfl) ?_
  refine va_putF (D := (dC, dI)) (ci := 3) (v := .ref Br0) (ty := .object "HeapWorks$Types") (C := RX0) (T := TX0) (N := 15) hx hb hts (in_z_X0_init_X0) tyX0 tyX0_ok nmX0 hown hK hP hD hS 0 rfl rfl 0 (by decide) (hts (.fieldLink RX0 11 "HeapWorks$Archive" "types" "LHeapWorks$Types;") (by decide +kernel)) (fun _ h9 => h9) rfl hin rfl (by decide +kernel) rfl rfl (by rw [o_Fs0.2.1]; decide) dX0_init_6 (fun H locs hP hD hS => ?_)
  have hP : va_P (dC, dI) vwCl [(Ad0, .inr (3, (Fs0.set 0 (.ref Br0))))] H := hP
  have hD : va_D A [(Ad0, .inr (3, (Fs0.set 0 (.ref Br0))))] := hD
  have o_s101 := ow_set o_Fs0 0 (.ref Br0) (by decide) (l' := [(0, .ref Br0), (1, .null)]) (w' := [0]) rfl rfl
  generalize (Fs0.set 0 (.ref Br0)) = s101 at hP hD o_s101
  refine lv_aload_n hx hb dX0_init_9 rfl (lv_at hl 0 rfl) ?_
  refine lv_sipush (v := 4000) hx hb dX0_init_10 (by decide) ?_
  refine va_newa (atype := .int) (ty := .int) (a0 := (4000, .inl (fun _ : Nat => (0 : Int32)))) (N' := 4000) hx hb (hts (.arrayClass .int) (by decide +kernel)) rfl hK hP hD hS hA (na_I 4000) (by decide) (by decide) (by decide) (Nat.le_of_ble_eq_true rfl) (Nat.le_of_ble_eq_true rfl) dX0_init_13 (fun q102 k103 H hK hP hD hS => ?_)
  have hK : va_K (dC, dI) vwCl [(k103, .int)] s := hK
  have hP : va_P (dC, dI) vwCl [(Ad0, .inr (3, s101)), (q102, .inl (k103, 4000, .inl ((fun _ : Nat => (0 : Int32)))))] H := hP
  have hD : va_D A [(Ad0, .inr (3, s101)), (q102, .inl (k103, 4000, .inl ((fun _ : Nat => (0 : Int32)))))] := hD
  have z105 : ∀ j, (fun _ : Nat => (0 : Int32)) j = 0 := fun _ => rfl
  generalize (fun _ : Nat => (0 : Int32)) = f104 at hP hD z105
  refine W.widen (k := 1) (n := 4000) (by omega) (by omega) ?_
  refine va_putF (D := (dC, dI)) (ci := 3) (v := .ref q102) (ty := .array .int) (C := RX0) (T := TX0) (N := 15) hx hb hts (in_z_X0_init_X0) tyX0 tyX0_ok nmX0 hown hK hP hD hS 0 rfl rfl 1 (by decide) (hts (.fieldLink RX0 19 "HeapWorks$Archive" "buffer" "[I") (by decide +kernel)) (fun _ h9 => h9) rfl hin rfl (by decide +kernel) rfl rfl (by rw [o_s101.2.1]; decide) dX0_init_15 (fun H locs hP hD hS => ?_)
  have hP : va_P (dC, dI) vwCl [(Ad0, .inr (3, (s101.set 1 (.ref q102)))), (q102, .inl (k103, 4000, .inl f104))] H := hP
  have hD : va_D A [(Ad0, .inr (3, (s101.set 1 (.ref q102)))), (q102, .inl (k103, 4000, .inl f104))] := hD
  have o_s106 := ow_set o_s101 1 (.ref q102) (by decide) (l' := [(1, .ref q102), (0, .ref Br0)]) (w' := [1, 0]) rfl rfl
  generalize (s101.set 1 (.ref q102)) = s106 at hP hD o_s106
  refine lv_aload_n hx hb dX0_init_18 rfl (lv_at hl 0 rfl) ?_
  refine lv_sipush (v := 8000) hx hb dX0_init_19 (by decide) ?_
  refine va_newa (atype := .int) (ty := .int) (a0 := (8000, .inl (fun _ : Nat => (0 : Int32)))) (N' := 8000) hx hb (hts (.arrayClass .int) (by decide +kernel)) rfl hK hP hD hS hA (na_I 8000) (by decide) (by decide) (by decide) (Nat.le_of_ble_eq_true rfl) (Nat.le_of_ble_eq_true rfl) dX0_init_22 (fun q107 k108 H hK hP hD hS => ?_)
  have hK : va_K (dC, dI) vwCl [(k103, .int), (k108, .int)] s := hK
  have hP : va_P (dC, dI) vwCl [(Ad0, .inr (3, s106)), (q102, .inl (k103, 4000, .inl f104)), (q107, .inl (k108, 8000, .inl ((fun _ : Nat => (0 : Int32)))))] H := hP
  have hD : va_D A [(Ad0, .inr (3, s106)), (q102, .inl (k103, 4000, .inl f104)), (q107, .inl (k108, 8000, .inl ((fun _ : Nat => (0 : Int32)))))] := hD
  have z110 : ∀ j, (fun _ : Nat => (0 : Int32)) j = 0 := fun _ => rfl
  generalize (fun _ : Nat => (0 : Int32)) = f109 at hP hD z110
  refine W.widen (k := 2) (n := 12000) (by omega) (by omega) ?_
  refine va_putF (D := (dC, dI)) (ci := 3) (v := .ref q107) (ty := .array .int) (C := RX0) (T := TX0) (N := 15) hx hb hts (in_z_X0_init_X0) tyX0 tyX0_ok nmX0 hown hK hP hD hS 0 rfl rfl 3 (by decide) (hts (.fieldLink RX0 23 "HeapWorks$Archive" "log" "[I") (by decide +kernel)) (fun _ h9 => h9) rfl hin rfl (by decide +kernel) rfl rfl (by rw [o_s106.2.1]; decide) dX0_init_24 (fun H locs hP hD hS => ?_)
  have hP : va_P (dC, dI) vwCl [(Ad0, .inr (3, (s106.set 3 (.ref q107)))), (q102, .inl (k103, 4000, .inl f104)), (q107, .inl (k108, 8000, .inl f109))] H := hP
  have hD : va_D A [(Ad0, .inr (3, (s106.set 3 (.ref q107)))), (q102, .inl (k103, 4000, .inl f104)), (q107, .inl (k108, 8000, .inl f109))] := hD
  have o_s111 := ow_set o_s106 3 (.ref q107) (by decide) (l' := [(3, .ref q107), (1, .ref q102), (0, .ref Br0)]) (w' := [3, 1, 0]) rfl rfl
  generalize (s106.set 3 (.ref q107)) = s111 at hP hD o_s111
  refine lv_aload_n hx hb dX0_init_27 rfl (lv_at hl 0 rfl) ?_
  refine lv_aload_n hx hb dX0_init_28 rfl (lv_at hl 0 rfl) ?_
  refine va_get (D := (dC, dI)) (ci := 3) (v := .ref q102) (C := RX0) (T := TX0) (N := 15) hx hb hts (in_z_X0_init_X0) hown hK hP 0 rfl rfl 1 (by decide) (hts (.fieldLink RX0 19 "HeapWorks$Archive" "buffer" "[I") (by decide +kernel)) (fun _ h9 => h9) (ow_at o_s111 1 rfl) dX0_init_29 ?_
  refine va_put (D := (dC, dI)) (ci := 3) (v := .ref q102) (ty := .array .int) (C := RX0) (T := TX0) (N := 15) hx hb hts (in_z_X0_init_X0) tyX0 tyX0_ok nmX0 hown hK hP hD hS 0 rfl rfl 6 (by decide) (hts (.fieldLink RX0 26 "HeapWorks$Archive" "source" "[I") (by decide +kernel)) (fun _ h9 => h9) rfl (by decide +kernel) rfl rfl (by rw [o_s111.2.1]; decide) dX0_init_32 (fun H locs hP hD hS => ?_)
  have hP : va_P (dC, dI) vwCl [(Ad0, .inr (3, (s111.set 6 (.ref q102)))), (q102, .inl (k103, 4000, .inl f104)), (q107, .inl (k108, 8000, .inl f109))] H := hP
  have hD : va_D A [(Ad0, .inr (3, (s111.set 6 (.ref q102)))), (q102, .inl (k103, 4000, .inl f104)), (q107, .inl (k108, 8000, .inl f109))] := hD
  have o_s112 := ow_set o_s111 6 (.ref q102) (by decide) (l' := [(6, .ref q102), (3, .ref q107), (1, .ref q102), (0, .ref Br0)]) (w' := [6, 3, 1, 0]) rfl rfl
  generalize (s111.set 6 (.ref q102)) = s112 at hP hD o_s112
  refine lv_aload_n hx hb dX0_init_35 rfl (lv_at hl 0 rfl) ?_
  refine lv_sipush (v := 400) hx hb dX0_init_36 (by decide) ?_
  refine va_newa (atype := .int) (ty := .int) (a0 := (400, .inl (fun _ : Nat => (0 : Int32)))) (N' := 400) hx hb (hts (.arrayClass .int) (by decide +kernel)) rfl hK hP hD hS hA (na_I 400) (by decide) (by decide) (by decide) (Nat.le_of_ble_eq_true rfl) (Nat.le_of_ble_eq_true rfl) dX0_init_39 (fun q113 k114 H hK hP hD hS => ?_)
  have hK : va_K (dC, dI) vwCl [(k103, .int), (k108, .int), (k114, .int)] s := hK
  have hP : va_P (dC, dI) vwCl [(Ad0, .inr (3, s112)), (q102, .inl (k103, 4000, .inl f104)), (q107, .inl (k108, 8000, .inl f109)), (q113, .inl (k114, 400, .inl ((fun _ : Nat => (0 : Int32)))))] H := hP
  have hD : va_D A [(Ad0, .inr (3, s112)), (q102, .inl (k103, 4000, .inl f104)), (q107, .inl (k108, 8000, .inl f109)), (q113, .inl (k114, 400, .inl ((fun _ : Nat => (0 : Int32)))))] := hD
  have z116 : ∀ j, (fun _ : Nat => (0 : Int32)) j = 0 := fun _ => rfl
  generalize (fun _ : Nat => (0 : Int32)) = f115 at hP hD z116
  refine W.widen (k := 3) (n := 12400) (by omega) (by omega) ?_
  refine va_putF (D := (dC, dI)) (ci := 3) (v := .ref q113) (ty := .array .int) (C := RX0) (T := TX0) (N := 15) hx hb hts (in_z_X0_init_X0) tyX0 tyX0_ok nmX0 hown hK hP hD hS 0 rfl rfl 11 (by decide) (hts (.fieldLink RX0 29 "HeapWorks$Archive" "objectPlace" "[I") (by decide +kernel)) (fun _ h9 => h9) rfl hin rfl (by decide +kernel) rfl rfl (by rw [o_s112.2.1]; decide) dX0_init_41 (fun H locs hP hD hS => ?_)
  have hP : va_P (dC, dI) vwCl [(Ad0, .inr (3, (s112.set 11 (.ref q113)))), (q102, .inl (k103, 4000, .inl f104)), (q107, .inl (k108, 8000, .inl f109)), (q113, .inl (k114, 400, .inl f115))] H := hP
  have hD : va_D A [(Ad0, .inr (3, (s112.set 11 (.ref q113)))), (q102, .inl (k103, 4000, .inl f104)), (q107, .inl (k108, 8000, .inl f109)), (q113, .inl (k114, 400, .inl f115))] := hD
  have o_s117 := ow_set o_s112 11 (.ref q113) (by decide) (l' := [(11, .ref q113), (6, .ref q102), (3, .ref q107), (1, .ref q102), (0, .ref Br0)]) (w' := [11, 6, 3, 1, 0]) rfl rfl
  generalize (s112.set 11 (.ref q113)) = s117 at hP hD o_s117
  have hP := hP.sub (ws' := [(Ad0, .inr (3, s117)), (q102, .inl (k103, 4000, .inl f104)), (q107, .inl (k108, 8000, .inl f109))]) [0, 1, 2] rfl
  have hD := hD.sub (ws' := [(Ad0, .inr (3, s117)), (q102, .inl (k103, 4000, .inl f104)), (q107, .inl (k108, 8000, .inl f109))]) [0, 1, 2] (by decide) rfl
  have hK := hK.sub (tys' := [(k103, .int), (k108, .int)]) [0, 1] rfl
  refine lv_aload_n hx hb dX0_init_44 rfl (lv_at hl 0 rfl) ?_
  refine lv_sipush (v := 4000) hx hb dX0_init_45 (by decide) ?_
  refine va_newa (atype := .int) (ty := .int) (a0 := (4000, .inl (fun _ : Nat => (0 : Int32)))) (N' := 4000) hx hb (hts (.arrayClass .int) (by decide +kernel)) rfl hK hP hD hS hA (na_I 4000) (by decide) (by decide) (by decide) (Nat.le_of_ble_eq_true rfl) (Nat.le_of_ble_eq_true rfl) dX0_init_48 (fun q118 k119 H hK hP hD hS => ?_)
  have hK : va_K (dC, dI) vwCl [(k103, .int), (k108, .int), (k119, .int)] s := hK
  have hP : va_P (dC, dI) vwCl [(Ad0, .inr (3, s117)), (q102, .inl (k103, 4000, .inl f104)), (q107, .inl (k108, 8000, .inl f109)), (q118, .inl (k119, 4000, .inl ((fun _ : Nat => (0 : Int32)))))] H := hP
  have hD : va_D A [(Ad0, .inr (3, s117)), (q102, .inl (k103, 4000, .inl f104)), (q107, .inl (k108, 8000, .inl f109)), (q118, .inl (k119, 4000, .inl ((fun _ : Nat => (0 : Int32)))))] := hD
  have z121 : ∀ j, (fun _ : Nat => (0 : Int32)) j = 0 := fun _ => rfl
  generalize (fun _ : Nat => (0 : Int32)) = f120 at hP hD z121
  refine W.widen (k := 4) (n := 16400) (by omega) (by omega) ?_
  refine va_putF (D := (dC, dI)) (ci := 3) (v := .ref q118) (ty := .array .int) (C := RX0) (T := TX0) (N := 15) hx hb hts (in_z_X0_init_X0) tyX0 tyX0_ok nmX0 hown hK hP hD hS 0 rfl rfl 12 (by decide) (hts (.fieldLink RX0 32 "HeapWorks$Archive" "slotPlace" "[I") (by decide +kernel)) (fun _ h9 => h9) rfl hin rfl (by decide +kernel) rfl rfl (by rw [o_s117.2.1]; decide) dX0_init_50 (fun H locs hP hD hS => ?_)
  have hP : va_P (dC, dI) vwCl [(Ad0, .inr (3, (s117.set 12 (.ref q118)))), (q102, .inl (k103, 4000, .inl f104)), (q107, .inl (k108, 8000, .inl f109)), (q118, .inl (k119, 4000, .inl f120))] H := hP
  have hD : va_D A [(Ad0, .inr (3, (s117.set 12 (.ref q118)))), (q102, .inl (k103, 4000, .inl f104)), (q107, .inl (k108, 8000, .inl f109)), (q118, .inl (k119, 4000, .inl f120))] := hD
  have o_s122 := ow_set o_s117 12 (.ref q118) (by decide) (l' := [(12, .ref q118), (11, .ref q113), (6, .ref q102), (3, .ref q107), (1, .ref q102), (0, .ref Br0)]) (w' := [12, 11, 6, 3, 1, 0]) rfl rfl
  generalize (s117.set 12 (.ref q118)) = s122 at hP hD o_s122
  have hP := hP.sub (ws' := [(Ad0, .inr (3, s122)), (q102, .inl (k103, 4000, .inl f104)), (q107, .inl (k108, 8000, .inl f109))]) [0, 1, 2] rfl
  have hD := hD.sub (ws' := [(Ad0, .inr (3, s122)), (q102, .inl (k103, 4000, .inl f104)), (q107, .inl (k108, 8000, .inl f109))]) [0, 1, 2] (by decide) rfl
  have hK := hK.sub (tys' := [(k103, .int), (k108, .int)]) [0, 1] rfl
  have hP9 := hP.sub (ws' := [(Ad0, .inr (3, s122)), (q107, .inl (k108, 8000, .inl f109)), (q102, .inl (k103, 4000, .inl f104))]) [0, 2, 1] rfl
  have hD9 := hD.sub (ws' := [(Ad0, .inr (3, s122)), (q107, .inl (k108, 8000, .inl f109)), (q102, .inl (k103, 4000, .inl f104))]) [0, 2, 1] (by decide) rfl
  have hK9 := hK.sub (tys' := [(k108, .int), (k103, .int)]) [1, 0] rfl
  refine W.widen (k := 4) (n := 16400) (by decide) (by decide) ?_
  exact W.vret hx hb hr (fun t ht hW => ⟨⟨(s122, q107, f109, k108, q102, f104, k103), rfl, ⟨(ow_sub o_s122 [3, 4, 5] rfl), z110, z105⟩, by rw [ht]; exact hP9, va_K.moved hW.alike hK9, hD9⟩, hS.F ht⟩) hS.2.2 dX0_init_53

