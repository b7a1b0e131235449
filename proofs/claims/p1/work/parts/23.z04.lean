set_option maxHeartbeats 4000000 in
set_option maxRecDepth 100000 in
theorem z_X12_init_s1 {p : Program} {e : Env} {s : State} {m : MethodId} {below : List Frame} {meth : Method} {c : Code} {A : Nat → Prop} (l : Launch) (dC : Nat → ClassId) (dI : Nat → Nat → Nat) (Ad0 : Nat) (Fs0 : List Value) (s579 : List Value) (q101 : Nat) (f103 : Nat → Int32) (k102 : ClassId) (q106 : Nat) (f108 : Nat → Int32) (k107 : ClassId) (q111 : Nat) (f549 : Nat → Int64) (k112 : ClassId) (hx : p.tables.exec = Jvm.exec) (hb : c.code = cX12_init) (hr : meth.sig.returnType = none) (hml : c.maxLocals = 2) (hts : ∀ w ∈ w_z_X12_init, w.before ([.ref Ad0]).toArray s = true) (hown : s.vm.findClass RX12 = some m.cls) (hlocks : meth.locks = false) (hin : meth.name = "<init>") (hA : ∀ q : Nat, s.heap.size ≤ q → A q) (o_s579 : ow Fs0 s579 150 [4, 2, 1] [(4, .ref q111), (2, .ref q106), (1, .ref q101)]) (z104 : ∀ j, f103 j = 0) (z109 : ∀ j, f108 j = 0) (q550 : f549 (0 : Int32).toNatClampNeg = 6384748) (q551 : f549 (1 : Int32).toNatClampNeg = 7305070) (q552 : f549 (2 : Int32).toNatClampNeg = 127991794263923) (q553 : f549 (3 : Int32).toNatClampNeg = 512852587109) (q554 : f549 (4 : Int32).toNatClampNeg = 6776180) (q555 : f549 (5 : Int32).toNatClampNeg = 6385252) (q556 : f549 (6 : Int32).toNatClampNeg = 28530) (q557 : f549 (7 : Int32).toNatClampNeg = 7237492) (q558 : f549 (8 : Int32).toNatClampNeg = 1853189228) (q559 : f549 (9 : Int32).toNatClampNeg = 1953658213) (q560 : f549 (10 : Int32).toNatClampNeg = 439721161573) (q561 : f549 (11 : Int32).toNatClampNeg = 26995) (q562 : f549 (12 : Int32).toNatClampNeg = 26990) (q563 : f549 (13 : Int32).toNatClampNeg = 427071729268) (q564 : f549 (14 : Int32).toNatClampNeg = 7566701) (q565 : f549 (15 : Int32).toNatClampNeg = 1836020596) (q566 : f549 (16 : Int32).toNatClampNeg = 465557353332) (q567 : f549 (17 : Int32).toNatClampNeg = 1936682341) (q568 : f549 (18 : Int32).toNatClampNeg = 1700881256) (q569 : f549 (19 : Int32).toNatClampNeg = 1936292453) (q570 : f549 (20 : Int32).toNatClampNeg = 1801810036) (q571 : f549 (21 : Int32).toNatClampNeg = 431198598248) (q572 : f549 (22 : Int32).toNatClampNeg = 119182899770472) (q573 : f549 (23 : Int32).toNatClampNeg = 427020088179) (q574 : f549 (24 : Int32).toNatClampNeg = 495740482675) (q575 : f549 (25 : Int32).toNatClampNeg = 1751477348) (q576 : f549 (26 : Int32).toNatClampNeg = 1718775661) (q577 : f549 (27 : Int32).toNatClampNeg = 26996) (q578 : f549 (28 : Int32).toNatClampNeg = 499967946343) {H : Heap} {locs : List Loc} (hK : va_K (dC, dI) vwCl [(k102, .byte), (k107, .byte), (k112, .long)] s) (hP : va_P (dC, dI) vwCl [(Ad0, .inr (15, s579)), (q101, .inl (k102, 4000, .inl f103)), (q106, .inl (k107, 20, .inl f108)), (q111, .inl (k112, 29, .inr (.inl f549)))] H) (hD : va_D A [(Ad0, .inr (15, s579)), (q101, .inl (k102, 4000, .inl f103)), (q106, .inl (k107, 20, .inl f108)), (q111, .inl (k112, 29, .inr (.inl f549)))]) (hS : va_S A s.heap H locs) (ls : Array Slot) (hl : lv_has ls 2 [(0, .ref Ad0)]) : W p l e (headSpec w_z_X12_init ({ frames := 3, cells := 102, slots := 358658, locals := 65 })).room s m ([.ref Ad0]).toArray below meth c H locs 3 4049 (MQ below (va_Qv (fun (u : List Value × Nat × (Nat → Int32) × ClassId × Nat × (Nat → Int32) × ClassId × Nat × (Nat → Int32) × ClassId × Nat × (Nat → Int32) × ClassId × Nat × (Nat → Int32) × ClassId × Nat × (Nat → Int32) × ClassId × Nat × (Nat → Int32) × ClassId × Nat × (Nat → Int32) × ClassId × Nat × (Nat → Int32) × ClassId × Nat × (Nat → Int32) × ClassId × Nat × (Nat → Int64) × ClassId × Nat × (Nat → Int32) × ClassId × Nat × (Nat → Int32) × ClassId × Nat × (Nat → Int32) × ClassId × Nat × (Nat → Int32) × ClassId × Nat × (Nat → Int64) × ClassId × Nat × (Nat → Int32) × ClassId × Nat × (Nat → Int32) × ClassId) => match u with | (s1075, q1071, f1073, k1072, q1056, f1058, k1057, q1051, f1053, k1052, q1031, f1033, k1032, q835, f837, k836, q830, f832, k831, q825, f827, k826, q820, f822, k821, q750, f752, k751, q745, f747, k746, q675, f677, k676, q670, f672, k671, q665, f667, k666, q660, f662, k661, q655, f657, k656, q111, f1105, k112, q106, f108, k107, q101, f103, k102) => (ow Fs0 (s1075) 150 (([147, 145, 144, 140, 139, 132, 131, 130, 129, 128, 127, 126, 125, 124, 123, 122] : List Nat) ++ (([121, 120, 119, 118, 117, 116, 115, 112, 111, 109, 108, 107, 106, 105, 104, 96] : List Nat) ++ (([90, 89, 88, 87, 86, 82, 77, 76, 74, 72, 71, 70, 69, 68, 67, 66] : List Nat) ++ (([65, 64, 63, 62, 61, 60, 59, 58, 57, 56, 55, 54, 53, 52, 51, 50] : List Nat) ++ (([49, 48, 46, 45, 43, 42, 41, 40, 39, 38, 37, 35, 34, 33, 32, 30] : List Nat) ++ (([25, 24, 23, 22, 21, 19, 18, 17, 16, 15, 14, 13, 12, 11, 10, 9] : List Nat) ++ (([8, 7, 6, 5, 4, 2, 1] : List Nat)))))))) [(147, .ref q1071), (140, .ref q1056), (139, .ref q1051), (129, .ref q1031), (82, .int (-1)), (65, .ref q835), (64, .ref q830), (63, .ref q825), (62, .ref q820), (48, .ref q750), (46, .ref q745), (25, .ref q675), (24, .ref q670), (23, .ref q665), (22, .ref q660), (21, .ref q655), (4, .ref q111), (2, .ref q106), (1, .ref q101)] ∧ (∀ j, f1073 j = 0) ∧ (∀ j, f1058 j = 0) ∧ (∀ j, f1053 j = 0) ∧ (∀ j, f1033 j = 0) ∧ (∀ j, f837 j = 0) ∧ (∀ j, f832 j = 0) ∧ (∀ j, f827 j = 0) ∧ (∀ j, f822 j = 0) ∧ (∀ j, f752 j = 0) ∧ (∀ j, f747 j = 0) ∧ (∀ j, f677 j = 0) ∧ (∀ j, f672 j = 0) ∧ (∀ j, f667 j = 0) ∧ (∀ j, f662 j = 0) ∧ (∀ j, f657 j = 0) ∧ (∀ j, f108 j = 0) ∧ (∀ j, f103 j = 0))) (fun (u : List Value × Nat × (Nat → Int32) × ClassId × Nat × (Nat → Int32) × ClassId × Nat × (Nat → Int32) × ClassId × Nat × (Nat → Int32) × ClassId × Nat × (Nat → Int32) × ClassId × Nat × (Nat → Int32) × ClassId × Nat × (Nat → Int32) × ClassId × Nat × (Nat → Int32) × ClassId × Nat × (Nat → Int32) × ClassId × Nat × (Nat → Int32) × ClassId × Nat × (Nat → Int64) × ClassId × Nat × (Nat → Int32) × ClassId × Nat × (Nat → Int32) × ClassId × Nat × (Nat → Int32) × ClassId × Nat × (Nat → Int32) × ClassId × Nat × (Nat → Int64) × ClassId × Nat × (Nat → Int32) × ClassId × Nat × (Nat → Int32) × ClassId) t => match u with | (s1075, q1071, f1073, k1072, q1056, f1058, k1057, q1051, f1053, k1052, q1031, f1033, k1032, q835, f837, k836, q830, f832, k831, q825, f827, k826, q820, f822, k821, q750, f752, k751, q745, f747, k746, q675, f677, k676, q670, f672, k671, q665, f667, k666, q660, f662, k661, q655, f657, k656, q111, f1105, k112, q106, f108, k107, q101, f103, k102) => Wd dC dI [(k1072, .int), (k1057, .byte), (k1052, .byte), (k1032, .boolean), (k836, .int), (k831, .int), (k826, .int), (k821, .int), (k751, .int), (k746, .int), (k676, .long), (k671, .boolean), (k666, .int), (k661, .int), (k656, .int), (k112, .long), (k107, .byte), (k102, .byte)] A [(Ad0, .inr (15, s1075)), (q1071, .inl (k1072, 1000, .inl f1073)), (q1056, .inl (k1057, 8000, .inl f1058)), (q1051, .inl (k1052, 9000, .inl f1053)), (q1031, .inl (k1032, 240, .inl f1033)), (q835, .inl (k836, 5, .inl f837)), (q830, .inl (k831, 5, .inl f832)), (q825, .inl (k826, 5, .inl f827)), (q820, .inl (k821, 5, .inl f822)), (q750, .inl (k751, 5, .inl f752)), (q745, .inl (k746, 400, .inl f747)), (q675, .inl (k676, 38500, .inr (.inl f677))), (q670, .inl (k671, 400, .inl f672)), (q665, .inl (k666, 400, .inl f667)), (q660, .inl (k661, 400, .inl f662)), (q655, .inl (k656, 400, .inl f657)), (q111, .inl (k112, 29, .inr (.inl f1105))), (q106, .inl (k107, 20, .inl f108)), (q101, .inl (k102, 4000, .inl f103))] t) A) ([.ref Ad0]).toArray s 102 358658 A) (F0 m 226 ls []) := by
  refine lv_aload_n hx hb dX12_init_226 rfl (lv_at hl 0 rfl) ?_
  refine lv_bipush (v := 16) hx hb dX12_init_227 (by decide) ?_
  refine va_newa (atype := .long) (ty := .long) (a0 := (16, .inr (.inl (fun _ : Nat => (0 : Int64))))) (N' := 16) hx hb (hts (.arrayClass .long) (by decide +kernel)) rfl hK hP hD hS hA (na_J 16) (by decide) (by decide) (by decide) (Nat.le_of_ble_eq_true rfl) (Nat.le_of_ble_eq_true rfl) dX12_init_229 (fun q580 k581 H hK hP hD hS => ?_)
  have hK : va_K (dC, dI) vwCl [(k102, .byte), (k107, .byte), (k112, .long), (k581, .long)] s := hK
  have hP : va_P (dC, dI) vwCl [(Ad0, .inr (15, s579)), (q101, .inl (k102, 4000, .inl f103)), (q106, .inl (k107, 20, .inl f108)), (q111, .inl (k112, 29, .inr (.inl f549))), (q580, .inl (k581, 16, .inr (.inl ((fun _ : Nat => (0 : Int64))))))] H := hP
  have hD : va_D A [(Ad0, .inr (15, s579)), (q101, .inl (k102, 4000, .inl f103)), (q106, .inl (k107, 20, .inl f108)), (q111, .inl (k112, 29, .inr (.inl f549))), (q580, .inl (k581, 16, .inr (.inl ((fun _ : Nat => (0 : Int64))))))] := hD
  have z583 : ∀ j, (fun _ : Nat => (0 : Int64)) j = 0 := fun _ => rfl
  generalize (fun _ : Nat => (0 : Int64)) = f582 at hP hD z583
  refine W.widen (k := 4) (n := 4065) (by omega) (by omega) ?_
  refine va_putF (D := (dC, dI)) (ci := 15) (v := .ref q580) (ty := .array .long) (C := RX12) (T := TX12) (N := 150) hx hb hts (in_z_X12_init_X12) tyX12 tyX12_ok nmX12 hown hK hP hD hS 0 rfl rfl 5 (by decide) (hts (.fieldLink RX12 78 "HeapWorksModel" "className" "[J") (by decide +kernel)) (fun _ h9 => h9) rfl hin rfl (by decide +kernel) rfl rfl (by rw [o_s579.2.1]; decide) dX12_init_231 (fun H locs hP hD hS => ?_)
  have hP : va_P (dC, dI) vwCl [(Ad0, .inr (15, (s579.set 5 (.ref q580)))), (q101, .inl (k102, 4000, .inl f103)), (q106, .inl (k107, 20, .inl f108)), (q111, .inl (k112, 29, .inr (.inl f549))), (q580, .inl (k581, 16, .inr (.inl f582)))] H := hP
  have hD : va_D A [(Ad0, .inr (15, (s579.set 5 (.ref q580)))), (q101, .inl (k102, 4000, .inl f103)), (q106, .inl (k107, 20, .inl f108)), (q111, .inl (k112, 29, .inr (.inl f549))), (q580, .inl (k581, 16, .inr (.inl f582)))] := hD
  have o_s584 := ow_set o_s579 5 (.ref q580) (by decide) (l' := [(5, .ref q580), (4, .ref q111), (2, .ref q106), (1, .ref q101)]) (w' := [5, 4, 2, 1]) rfl rfl
  generalize (s579.set 5 (.ref q580)) = s584 at hP hD o_s584
  have hP := hP.sub (ws' := [(Ad0, .inr (15, s584)), (q101, .inl (k102, 4000, .inl f103)), (q106, .inl (k107, 20, .inl f108)), (q111, .inl (k112, 29, .inr (.inl f549)))]) [0, 1, 2, 3] rfl
  have hD := hD.sub (ws' := [(Ad0, .inr (15, s584)), (q101, .inl (k102, 4000, .inl f103)), (q106, .inl (k107, 20, .inl f108)), (q111, .inl (k112, 29, .inr (.inl f549)))]) [0, 1, 2, 3] (by decide) rfl
  have hK := hK.sub (tys' := [(k102, .byte), (k107, .byte), (k112, .long)]) [0, 1, 2] rfl
  refine lv_aload_n hx hb dX12_init_234 rfl (lv_at hl 0 rfl) ?_
  refine lv_bipush (v := 96) hx hb dX12_init_235 (by decide) ?_
  refine va_newa (atype := .long) (ty := .long) (a0 := (96, .inr (.inl (fun _ : Nat => (0 : Int64))))) (N' := 96) hx hb (hts (.arrayClass .long) (by decide +kernel)) rfl hK hP hD hS hA (na_J 96) (by decide) (by decide) (by decide) (Nat.le_of_ble_eq_true rfl) (Nat.le_of_ble_eq_true rfl) dX12_init_237 (fun q585 k586 H hK hP hD hS => ?_)
  have hK : va_K (dC, dI) vwCl [(k102, .byte), (k107, .byte), (k112, .long), (k586, .long)] s := hK
  have hP : va_P (dC, dI) vwCl [(Ad0, .inr (15, s584)), (q101, .inl (k102, 4000, .inl f103)), (q106, .inl (k107, 20, .inl f108)), (q111, .inl (k112, 29, .inr (.inl f549))), (q585, .inl (k586, 96, .inr (.inl ((fun _ : Nat => (0 : Int64))))))] H := hP
  have hD : va_D A [(Ad0, .inr (15, s584)), (q101, .inl (k102, 4000, .inl f103)), (q106, .inl (k107, 20, .inl f108)), (q111, .inl (k112, 29, .inr (.inl f549))), (q585, .inl (k586, 96, .inr (.inl ((fun _ : Nat => (0 : Int64))))))] := hD
  have z588 : ∀ j, (fun _ : Nat => (0 : Int64)) j = 0 := fun _ => rfl
  generalize (fun _ : Nat => (0 : Int64)) = f587 at hP hD z588
  refine W.widen (k := 5) (n := 4161) (by omega) (by omega) ?_
  refine va_putF (D := (dC, dI)) (ci := 15) (v := .ref q585) (ty := .array .long) (C := RX12) (T := TX12) (N := 150) hx hb hts (in_z_X12_init_X12) tyX12 tyX12_ok nmX12 hown hK hP hD hS 0 rfl rfl 6 (by decide) (hts (.fieldLink RX12 81 "HeapWorksModel" "fieldName" "[J") (by decide +kernel)) (fun _ h9 => h9) rfl hin rfl (by decide +kernel) rfl rfl (by rw [o_s584.2.1]; decide) dX12_init_239 (fun H locs hP hD hS => ?_)
  have hP : va_P (dC, dI) vwCl [(Ad0, .inr (15, (s584.set 6 (.ref q585)))), (q101, .inl (k102, 4000, .inl f103)), (q106, .inl (k107, 20, .inl f108)), (q111, .inl (k112, 29, .inr (.inl f549))), (q585, .inl (k586, 96, .inr (.inl f587)))] H := hP
  have hD : va_D A [(Ad0, .inr (15, (s584.set 6 (.ref q585)))), (q101, .inl (k102, 4000, .inl f103)), (q106, .inl (k107, 20, .inl f108)), (q111, .inl (k112, 29, .inr (.inl f549))), (q585, .inl (k586, 96, .inr (.inl f587)))] := hD
  have o_s589 := ow_set o_s584 6 (.ref q585) (by decide) (l' := [(6, .ref q585), (5, .ref q580), (4, .ref q111), (2, .ref q106), (1, .ref q101)]) (w' := [6, 5, 4, 2, 1]) rfl rfl
  generalize (s584.set 6 (.ref q585)) = s589 at hP hD o_s589
  have hP := hP.sub (ws' := [(Ad0, .inr (15, s589)), (q101, .inl (k102, 4000, .inl f103)), (q106, .inl (k107, 20, .inl f108)), (q111, .inl (k112, 29, .inr (.inl f549)))]) [0, 1, 2, 3] rfl
  have hD := hD.sub (ws' := [(Ad0, .inr (15, s589)), (q101, .inl (k102, 4000, .inl f103)), (q106, .inl (k107, 20, .inl f108)), (q111, .inl (k112, 29, .inr (.inl f549)))]) [0, 1, 2, 3] (by decide) rfl
  have hK := hK.sub (tys' := [(k102, .byte), (k107, .byte), (k112, .long)]) [0, 1, 2] rfl
  refine lv_aload_n hx hb dX12_init_242 rfl (lv_at hl 0 rfl) ?_
  refine lv_bipush (v := 96) hx hb dX12_init_243 (by decide) ?_
  refine va_newa (atype := .long) (ty := .long) (a0 := (96, .inr (.inl (fun _ : Nat => (0 : Int64))))) (N' := 96) hx hb (hts (.arrayClass .long) (by decide +kernel)) rfl hK hP hD hS hA (na_J 96) (by decide) (by decide) (by decide) (Nat.le_of_ble_eq_true rfl) (Nat.le_of_ble_eq_true rfl) dX12_init_245 (fun q590 k591 H hK hP hD hS => ?_)
  have hK : va_K (dC, dI) vwCl [(k102, .byte), (k107, .byte), (k112, .long), (k591, .long)] s := hK
  have hP : va_P (dC, dI) vwCl [(Ad0, .inr (15, s589)), (q101, .inl (k102, 4000, .inl f103)), (q106, .inl (k107, 20, .inl f108)), (q111, .inl (k112, 29, .inr (.inl f549))), (q590, .inl (k591, 96, .inr (.inl ((fun _ : Nat => (0 : Int64))))))] H := hP
  have hD : va_D A [(Ad0, .inr (15, s589)), (q101, .inl (k102, 4000, .inl f103)), (q106, .inl (k107, 20, .inl f108)), (q111, .inl (k112, 29, .inr (.inl f549))), (q590, .inl (k591, 96, .inr (.inl ((fun _ : Nat => (0 : Int64))))))] := hD
  have z593 : ∀ j, (fun _ : Nat => (0 : Int64)) j = 0 := fun _ => rfl
  generalize (fun _ : Nat => (0 : Int64)) = f592 at hP hD z593
  refine W.widen (k := 6) (n := 4257) (by omega) (by omega) ?_
  refine va_putF (D := (dC, dI)) (ci := 15) (v := .ref q590) (ty := .array .long) (C := RX12) (T := TX12) (N := 150) hx hb hts (in_z_X12_init_X12) tyX12 tyX12_ok nmX12 hown hK hP hD hS 0 rfl rfl 7 (by decide) (hts (.fieldLink RX12 84 "HeapWorksModel" "statics" "[J") (by decide +kernel)) (fun _ h9 => h9) rfl hin rfl (by decide +kernel) rfl rfl (by rw [o_s589.2.1]; decide) dX12_init_247 (fun H locs hP hD hS => ?_)
  have hP : va_P (dC, dI) vwCl [(Ad0, .inr (15, (s589.set 7 (.ref q590)))), (q101, .inl (k102, 4000, .inl f103)), (q106, .inl (k107, 20, .inl f108)), (q111, .inl (k112, 29, .inr (.inl f549))), (q590, .inl (k591, 96, .inr (.inl f592)))] H := hP
  have hD : va_D A [(Ad0, .inr (15, (s589.set 7 (.ref q590)))), (q101, .inl (k102, 4000, .inl f103)), (q106, .inl (k107, 20, .inl f108)), (q111, .inl (k112, 29, .inr (.inl f549))), (q590, .inl (k591, 96, .inr (.inl f592)))] := hD
  have o_s594 := ow_set o_s589 7 (.ref q590) (by decide) (l' := [(7, .ref q590), (6, .ref q585), (5, .ref q580), (4, .ref q111), (2, .ref q106), (1, .ref q101)]) (w' := [7, 6, 5, 4, 2, 1]) rfl rfl
  generalize (s589.set 7 (.ref q590)) = s594 at hP hD o_s594
  have hP := hP.sub (ws' := [(Ad0, .inr (15, s594)), (q101, .inl (k102, 4000, .inl f103)), (q106, .inl (k107, 20, .inl f108)), (q111, .inl (k112, 29, .inr (.inl f549)))]) [0, 1, 2, 3] rfl
  have hD := hD.sub (ws' := [(Ad0, .inr (15, s594)), (q101, .inl (k102, 4000, .inl f103)), (q106, .inl (k107, 20, .inl f108)), (q111, .inl (k112, 29, .inr (.inl f549)))]) [0, 1, 2, 3] (by decide) rfl
  have hK := hK.sub (tys' := [(k102, .byte), (k107, .byte), (k112, .long)]) [0, 1, 2] rfl
  refine lv_aload_n hx hb dX12_init_250 rfl (lv_at hl 0 rfl) ?_
  refine lv_bipush (v := 16) hx hb dX12_init_251 (by decide) ?_
  refine va_newa (atype := .int) (ty := .int) (a0 := (16, .inl (fun _ : Nat => (0 : Int32)))) (N' := 16) hx hb (hts (.arrayClass .int) (by decide +kernel)) rfl hK hP hD hS hA (na_I 16) (by decide) (by decide) (by decide) (Nat.le_of_ble_eq_true rfl) (Nat.le_of_ble_eq_true rfl) dX12_init_253 (fun q595 k596 H hK hP hD hS => ?_)
  have hK : va_K (dC, dI) vwCl [(k102, .byte), (k107, .byte), (k112, .long), (k596, .int)] s := hK
  have hP : va_P (dC, dI) vwCl [(Ad0, .inr (15, s594)), (q101, .inl (k102, 4000, .inl f103)), (q106, .inl (k107, 20, .inl f108)), (q111, .inl (k112, 29, .inr (.inl f549))), (q595, .inl (k596, 16, .inl ((fun _ : Nat => (0 : Int32)))))] H := hP
  have hD : va_D A [(Ad0, .inr (15, s594)), (q101, .inl (k102, 4000, .inl f103)), (q106, .inl (k107, 20, .inl f108)), (q111, .inl (k112, 29, .inr (.inl f549))), (q595, .inl (k596, 16, .inl ((fun _ : Nat => (0 : Int32)))))] := hD
  have z598 : ∀ j, (fun _ : Nat => (0 : Int32)) j = 0 := fun _ => rfl
  generalize (fun _ : Nat => (0 : Int32)) = f597 at hP hD z598
  refine W.widen (k := 7) (n := 4273) (by omega) (by omega) ?_
  refine va_putF (D := (dC, dI)) (ci := 15) (v := .ref q595) (ty := .array .int) (C := RX12) (T := TX12) (N := 150) hx hb hts (in_z_X12_init_X12) tyX12 tyX12_ok nmX12 hown hK hP hD hS 0 rfl rfl 8 (by decide) (hts (.fieldLink RX12 87 "HeapWorksModel" "loader" "[I") (by decide +kernel)) (fun _ h9 => h9) rfl hin rfl (by decide +kernel) rfl rfl (by rw [o_s594.2.1]; decide) dX12_init_255 (fun H locs hP hD hS => ?_)
  have hP : va_P (dC, dI) vwCl [(Ad0, .inr (15, (s594.set 8 (.ref q595)))), (q101, .inl (k102, 4000, .inl f103)), (q106, .inl (k107, 20, .inl f108)), (q111, .inl (k112, 29, .inr (.inl f549))), (q595, .inl (k596, 16, .inl f597))] H := hP
  have hD : va_D A [(Ad0, .inr (15, (s594.set 8 (.ref q595)))), (q101, .inl (k102, 4000, .inl f103)), (q106, .inl (k107, 20, .inl f108)), (q111, .inl (k112, 29, .inr (.inl f549))), (q595, .inl (k596, 16, .inl f597))] := hD
  have o_s599 := ow_set o_s594 8 (.ref q595) (by decide) (l' := [(8, .ref q595), (7, .ref q590), (6, .ref q585), (5, .ref q580), (4, .ref q111), (2, .ref q106), (1, .ref q101)]) (w' := [8, 7, 6, 5, 4, 2, 1]) rfl rfl
  generalize (s594.set 8 (.ref q595)) = s599 at hP hD o_s599
  have hP := hP.sub (ws' := [(Ad0, .inr (15, s599)), (q101, .inl (k102, 4000, .inl f103)), (q106, .inl (k107, 20, .inl f108)), (q111, .inl (k112, 29, .inr (.inl f549)))]) [0, 1, 2, 3] rfl
  have hD := hD.sub (ws' := [(Ad0, .inr (15, s599)), (q101, .inl (k102, 4000, .inl f103)), (q106, .inl (k107, 20, .inl f108)), (q111, .inl (k112, 29, .inr (.inl f549)))]) [0, 1, 2, 3] (by decide) rfl
  have hK := hK.sub (tys' := [(k102, .byte), (k107, .byte), (k112, .long)]) [0, 1, 2] rfl
  refine lv_aload_n hx hb dX12_init_258 rfl (lv_at hl 0 rfl) ?_
  refine lv_bipush (v := 16) hx hb dX12_init_259 (by decide) ?_
  refine va_newa (atype := .int) (ty := .int) (a0 := (16, .inl (fun _ : Nat => (0 : Int32)))) (N' := 16) hx hb (hts (.arrayClass .int) (by decide +kernel)) rfl hK hP hD hS hA (na_I 16) (by decide) (by decide) (by decide) (Nat.le_of_ble_eq_true rfl) (Nat.le_of_ble_eq_true rfl) dX12_init_261 (fun q600 k601 H hK hP hD hS => ?_)
  have hK : va_K (dC, dI) vwCl [(k102, .byte), (k107, .byte), (k112, .long), (k601, .int)] s := hK
  have hP : va_P (dC, dI) vwCl [(Ad0, .inr (15, s599)), (q101, .inl (k102, 4000, .inl f103)), (q106, .inl (k107, 20, .inl f108)), (q111, .inl (k112, 29, .inr (.inl f549))), (q600, .inl (k601, 16, .inl ((fun _ : Nat => (0 : Int32)))))] H := hP
  have hD : va_D A [(Ad0, .inr (15, s599)), (q101, .inl (k102, 4000, .inl f103)), (q106, .inl (k107, 20, .inl f108)), (q111, .inl (k112, 29, .inr (.inl f549))), (q600, .inl (k601, 16, .inl ((fun _ : Nat => (0 : Int32)))))] := hD
  have z603 : ∀ j, (fun _ : Nat => (0 : Int32)) j = 0 := fun _ => rfl
  generalize (fun _ : Nat => (0 : Int32)) = f602 at hP hD z603
  refine W.widen (k := 8) (n := 4289) (by omega) (by omega) ?_
  refine va_putF (D := (dC, dI)) (ci := 15) (v := .ref q600) (ty := .array .int) (C := RX12) (T := TX12) (N := 150) hx hb hts (in_z_X12_init_X12) tyX12 tyX12_ok nmX12 hown hK hP hD hS 0 rfl rfl 9 (by decide) (hts (.fieldLink RX12 91 "HeapWorksModel" "parent" "[I") (by decide +kernel)) (fun _ h9 => h9) rfl hin rfl (by decide +kernel) rfl rfl (by rw [o_s599.2.1]; decide) dX12_init_263 (fun H locs hP hD hS => ?_)
  have hP : va_P (dC, dI) vwCl [(Ad0, .inr (15, (s599.set 9 (.ref q600)))), (q101, .inl (k102, 4000, .inl f103)), (q106, .inl (k107, 20, .inl f108)), (q111, .inl (k112, 29, .inr (.inl f549))), (q600, .inl (k601, 16, .inl f602))] H := hP
  have hD : va_D A [(Ad0, .inr (15, (s599.set 9 (.ref q600)))), (q101, .inl (k102, 4000, .inl f103)), (q106, .inl (k107, 20, .inl f108)), (q111, .inl (k112, 29, .inr (.inl f549))), (q600, .inl (k601, 16, .inl f602))] := hD
  have o_s604 := ow_set o_s599 9 (.ref q600) (by decide) (l' := [(9, .ref q600), (8, .ref q595), (7, .ref q590), (6, .ref q585), (5, .ref q580), (4, .ref q111), (2, .ref q106), (1, .ref q101)]) (w' := [9, 8, 7, 6, 5, 4, 2, 1]) rfl rfl
  generalize (s599.set 9 (.ref q600)) = s604 at hP hD o_s604
  have hP := hP.sub (ws' := [(Ad0, .inr (15, s604)), (q101, .inl (k102, 4000, .inl f103)), (q106, .inl (k107, 20, .inl f108)), (q111, .inl (k112, 29, .inr (.inl f549)))]) [0, 1, 2, 3] rfl
  have hD := hD.sub (ws' := [(Ad0, .inr (15, s604)), (q101, .inl (k102, 4000, .inl f103)), (q106, .inl (k107, 20, .inl f108)), (q111, .inl (k112, 29, .inr (.inl f549)))]) [0, 1, 2, 3] (by decide) rfl
  have hK := hK.sub (tys' := [(k102, .byte), (k107, .byte), (k112, .long)]) [0, 1, 2] rfl
  refine lv_aload_n hx hb dX12_init_266 rfl (lv_at hl 0 rfl) ?_
  refine lv_bipush (v := 16) hx hb dX12_init_267 (by decide) ?_
  refine va_newa (atype := .int) (ty := .int) (a0 := (16, .inl (fun _ : Nat => (0 : Int32)))) (N' := 16) hx hb (hts (.arrayClass .int) (by decide +kernel)) rfl hK hP hD hS hA (na_I 16) (by decide) (by decide) (by decide) (Nat.le_of_ble_eq_true rfl) (Nat.le_of_ble_eq_true rfl) dX12_init_269 (fun q605 k606 H hK hP hD hS => ?_)
  have hK : va_K (dC, dI) vwCl [(k102, .byte), (k107, .byte), (k112, .long), (k606, .int)] s := hK
  have hP : va_P (dC, dI) vwCl [(Ad0, .inr (15, s604)), (q101, .inl (k102, 4000, .inl f103)), (q106, .inl (k107, 20, .inl f108)), (q111, .inl (k112, 29, .inr (.inl f549))), (q605, .inl (k606, 16, .inl ((fun _ : Nat => (0 : Int32)))))] H := hP
  have hD : va_D A [(Ad0, .inr (15, s604)), (q101, .inl (k102, 4000, .inl f103)), (q106, .inl (k107, 20, .inl f108)), (q111, .inl (k112, 29, .inr (.inl f549))), (q605, .inl (k606, 16, .inl ((fun _ : Nat => (0 : Int32)))))] := hD
  have z608 : ∀ j, (fun _ : Nat => (0 : Int32)) j = 0 := fun _ => rfl
  generalize (fun _ : Nat => (0 : Int32)) = f607 at hP hD z608
  refine W.widen (k := 9) (n := 4305) (by omega) (by omega) ?_
  refine va_putF (D := (dC, dI)) (ci := 15) (v := .ref q605) (ty := .array .int) (C := RX12) (T := TX12) (N := 150) hx hb hts (in_z_X12_init_X12) tyX12 tyX12_ok nmX12 hown hK hP hD hS 0 rfl rfl 10 (by decide) (hts (.fieldLink RX12 94 "HeapWorksModel" "own" "[I") (by decide +kernel)) (fun _ h9 => h9) rfl hin rfl (by decide +kernel) rfl rfl (by rw [o_s604.2.1]; decide) dX12_init_271 (fun H locs hP hD hS => ?_)
  have hP : va_P (dC, dI) vwCl [(Ad0, .inr (15, (s604.set 10 (.ref q605)))), (q101, .inl (k102, 4000, .inl f103)), (q106, .inl (k107, 20, .inl f108)), (q111, .inl (k112, 29, .inr (.inl f549))), (q605, .inl (k606, 16, .inl f607))] H := hP
  have hD : va_D A [(Ad0, .inr (15, (s604.set 10 (.ref q605)))), (q101, .inl (k102, 4000, .inl f103)), (q106, .inl (k107, 20, .inl f108)), (q111, .inl (k112, 29, .inr (.inl f549))), (q605, .inl (k606, 16, .inl f607))] := hD
  have o_s609 := ow_set o_s604 10 (.ref q605) (by decide) (l' := [(10, .ref q605), (9, .ref q600), (8, .ref q595), (7, .ref q590), (6, .ref q585), (5, .ref q580), (4, .ref q111), (2, .ref q106), (1, .ref q101)]) (w' := [10, 9, 8, 7, 6, 5, 4, 2, 1]) rfl rfl
  generalize (s604.set 10 (.ref q605)) = s609 at hP hD o_s609
  have hP := hP.sub (ws' := [(Ad0, .inr (15, s609)), (q101, .inl (k102, 4000, .inl f103)), (q106, .inl (k107, 20, .inl f108)), (q111, .inl (k112, 29, .inr (.inl f549)))]) [0, 1, 2, 3] rfl
  have hD := hD.sub (ws' := [(Ad0, .inr (15, s609)), (q101, .inl (k102, 4000, .inl f103)), (q106, .inl (k107, 20, .inl f108)), (q111, .inl (k112, 29, .inr (.inl f549)))]) [0, 1, 2, 3] (by decide) rfl
  have hK := hK.sub (tys' := [(k102, .byte), (k107, .byte), (k112, .long)]) [0, 1, 2] rfl
  refine lv_aload_n hx hb dX12_init_274 rfl (lv_at hl 0 rfl) ?_
  refine lv_bipush (v := 16) hx hb dX12_init_275 (by decide) ?_
  refine va_newa (atype := .int) (ty := .int) (a0 := (16, .inl (fun _ : Nat => (0 : Int32)))) (N' := 16) hx hb (hts (.arrayClass .int) (by decide +kernel)) rfl hK hP hD hS hA (na_I 16) (by decide) (by decide) (by decide) (Nat.le_of_ble_eq_true rfl) (Nat.le_of_ble_eq_true rfl) dX12_init_277 (fun q610 k611 H hK hP hD hS => ?_)
  have hK : va_K (dC, dI) vwCl [(k102, .byte), (k107, .byte), (k112, .long), (k611, .int)] s := hK
  have hP : va_P (dC, dI) vwCl [(Ad0, .inr (15, s609)), (q101, .inl (k102, 4000, .inl f103)), (q106, .inl (k107, 20, .inl f108)), (q111, .inl (k112, 29, .inr (.inl f549))), (q610, .inl (k611, 16, .inl ((fun _ : Nat => (0 : Int32)))))] H := hP
  have hD : va_D A [(Ad0, .inr (15, s609)), (q101, .inl (k102, 4000, .inl f103)), (q106, .inl (k107, 20, .inl f108)), (q111, .inl (k112, 29, .inr (.inl f549))), (q610, .inl (k611, 16, .inl ((fun _ : Nat => (0 : Int32)))))] := hD
  have z613 : ∀ j, (fun _ : Nat => (0 : Int32)) j = 0 := fun _ => rfl
  generalize (fun _ : Nat => (0 : Int32)) = f612 at hP hD z613
  refine W.widen (k := 10) (n := 4321) (by omega) (by omega) ?_
  refine va_putF (D := (dC, dI)) (ci := 15) (v := .ref q610) (ty := .array .int) (C := RX12) (T := TX12) (N := 150) hx hb hts (in_z_X12_init_X12) tyX12 tyX12_ok nmX12 hown hK hP hD hS 0 rfl rfl 11 (by decide) (hts (.fieldLink RX12 97 "HeapWorksModel" "slotsOf" "[I") (by decide +kernel)) (fun _ h9 => h9) rfl hin rfl (by decide +kernel) rfl rfl (by rw [o_s609.2.1]; decide) dX12_init_279 (fun H locs hP hD hS => ?_)
  have hP : va_P (dC, dI) vwCl [(Ad0, .inr (15, (s609.set 11 (.ref q610)))), (q101, .inl (k102, 4000, .inl f103)), (q106, .inl (k107, 20, .inl f108)), (q111, .inl (k112, 29, .inr (.inl f549))), (q610, .inl (k611, 16, .inl f612))] H := hP
  have hD : va_D A [(Ad0, .inr (15, (s609.set 11 (.ref q610)))), (q101, .inl (k102, 4000, .inl f103)), (q106, .inl (k107, 20, .inl f108)), (q111, .inl (k112, 29, .inr (.inl f549))), (q610, .inl (k611, 16, .inl f612))] := hD
  have o_s614 := ow_set o_s609 11 (.ref q610) (by decide) (l' := [(11, .ref q610), (10, .ref q605), (9, .ref q600), (8, .ref q595), (7, .ref q590), (6, .ref q585), (5, .ref q580), (4, .ref q111), (2, .ref q106), (1, .ref q101)]) (w' := [11, 10, 9, 8, 7, 6, 5, 4, 2, 1]) rfl rfl
  generalize (s609.set 11 (.ref q610)) = s614 at hP hD o_s614
  have hP := hP.sub (ws' := [(Ad0, .inr (15, s614)), (q101, .inl (k102, 4000, .inl f103)), (q106, .inl (k107, 20, .inl f108)), (q111, .inl (k112, 29, .inr (.inl f549)))]) [0, 1, 2, 3] rfl
  have hD := hD.sub (ws' := [(Ad0, .inr (15, s614)), (q101, .inl (k102, 4000, .inl f103)), (q106, .inl (k107, 20, .inl f108)), (q111, .inl (k112, 29, .inr (.inl f549)))]) [0, 1, 2, 3] (by decide) rfl
  have hK := hK.sub (tys' := [(k102, .byte), (k107, .byte), (k112, .long)]) [0, 1, 2] rfl
  refine lv_aload_n hx hb dX12_init_282 rfl (lv_at hl 0 rfl) ?_
  refine lv_bipush (v := 16) hx hb dX12_init_283 (by decide) ?_
  refine va_newa (atype := .int) (ty := .int) (a0 := (16, .inl (fun _ : Nat => (0 : Int32)))) (N' := 16) hx hb (hts (.arrayClass .int) (by decide +kernel)) rfl hK hP hD hS hA (na_I 16) (by decide) (by decide) (by decide) (Nat.le_of_ble_eq_true rfl) (Nat.le_of_ble_eq_true rfl) dX12_init_285 (fun q615 k616 H hK hP hD hS => ?_)
  have hK : va_K (dC, dI) vwCl [(k102, .byte), (k107, .byte), (k112, .long), (k616, .int)] s := hK
  have hP : va_P (dC, dI) vwCl [(Ad0, .inr (15, s614)), (q101, .inl (k102, 4000, .inl f103)), (q106, .inl (k107, 20, .inl f108)), (q111, .inl (k112, 29, .inr (.inl f549))), (q615, .inl (k616, 16, .inl ((fun _ : Nat => (0 : Int32)))))] H := hP
  have hD : va_D A [(Ad0, .inr (15, s614)), (q101, .inl (k102, 4000, .inl f103)), (q106, .inl (k107, 20, .inl f108)), (q111, .inl (k112, 29, .inr (.inl f549))), (q615, .inl (k616, 16, .inl ((fun _ : Nat => (0 : Int32)))))] := hD
  have z618 : ∀ j, (fun _ : Nat => (0 : Int32)) j = 0 := fun _ => rfl
  generalize (fun _ : Nat => (0 : Int32)) = f617 at hP hD z618
  refine W.widen (k := 11) (n := 4337) (by omega) (by omega) ?_
  refine va_putF (D := (dC, dI)) (ci := 15) (v := .ref q615) (ty := .array .int) (C := RX12) (T := TX12) (N := 150) hx hb hts (in_z_X12_init_X12) tyX12 tyX12_ok nmX12 hown hK hP hD hS 0 rfl rfl 12 (by decide) (hts (.fieldLink RX12 100 "HeapWorksModel" "endOf" "[I") (by decide +kernel)) (fun _ h9 => h9) rfl hin rfl (by decide +kernel) rfl rfl (by rw [o_s614.2.1]; decide) dX12_init_287 (fun H locs hP hD hS => ?_)
  have hP : va_P (dC, dI) vwCl [(Ad0, .inr (15, (s614.set 12 (.ref q615)))), (q101, .inl (k102, 4000, .inl f103)), (q106, .inl (k107, 20, .inl f108)), (q111, .inl (k112, 29, .inr (.inl f549))), (q615, .inl (k616, 16, .inl f617))] H := hP
  have hD : va_D A [(Ad0, .inr (15, (s614.set 12 (.ref q615)))), (q101, .inl (k102, 4000, .inl f103)), (q106, .inl (k107, 20, .inl f108)), (q111, .inl (k112, 29, .inr (.inl f549))), (q615, .inl (k616, 16, .inl f617))] := hD
  have o_s619 := ow_set o_s614 12 (.ref q615) (by decide) (l' := [(12, .ref q615), (11, .ref q610), (10, .ref q605), (9, .ref q600), (8, .ref q595), (7, .ref q590), (6, .ref q585), (5, .ref q580), (4, .ref q111), (2, .ref q106), (1, .ref q101)]) (w' := [12, 11, 10, 9, 8, 7, 6, 5, 4, 2, 1]) rfl rfl
  generalize (s614.set 12 (.ref q615)) = s619 at hP hD o_s619
  have hP := hP.sub (ws' := [(Ad0, .inr (15, s619)), (q101, .inl (k102, 4000, .inl f103)), (q106, .inl (k107, 20, .inl f108)), (q111, .inl (k112, 29, .inr (.inl f549)))]) [0, 1, 2, 3] rfl
  have hD := hD.sub (ws' := [(Ad0, .inr (15, s619)), (q101, .inl (k102, 4000, .inl f103)), (q106, .inl (k107, 20, .inl f108)), (q111, .inl (k112, 29, .inr (.inl f549)))]) [0, 1, 2, 3] (by decide) rfl
  have hK := hK.sub (tys' := [(k102, .byte), (k107, .byte), (k112, .long)]) [0, 1, 2] rfl
  refine lv_aload_n hx hb dX12_init_290 rfl (lv_at hl 0 rfl) ?_
  refine lv_bipush (v := 96) hx hb dX12_init_291 (by decide) ?_
  refine va_newa (atype := .int) (ty := .int) (a0 := (96, .inl (fun _ : Nat => (0 : Int32)))) (N' := 96) hx hb (hts (.arrayClass .int) (by decide +kernel)) rfl hK hP hD hS hA (na_I 96) (by decide) (by decide) (by decide) (Nat.le_of_ble_eq_true rfl) (Nat.le_of_ble_eq_true rfl) dX12_init_293 (fun q620 k621 H hK hP hD hS => ?_)
  have hK : va_K (dC, dI) vwCl [(k102, .byte), (k107, .byte), (k112, .long), (k621, .int)] s := hK
  have hP : va_P (dC, dI) vwCl [(Ad0, .inr (15, s619)), (q101, .inl (k102, 4000, .inl f103)), (q106, .inl (k107, 20, .inl f108)), (q111, .inl (k112, 29, .inr (.inl f549))), (q620, .inl (k621, 96, .inl ((fun _ : Nat => (0 : Int32)))))] H := hP
  have hD : va_D A [(Ad0, .inr (15, s619)), (q101, .inl (k102, 4000, .inl f103)), (q106, .inl (k107, 20, .inl f108)), (q111, .inl (k112, 29, .inr (.inl f549))), (q620, .inl (k621, 96, .inl ((fun _ : Nat => (0 : Int32)))))] := hD
  have z623 : ∀ j, (fun _ : Nat => (0 : Int32)) j = 0 := fun _ => rfl
  generalize (fun _ : Nat => (0 : Int32)) = f622 at hP hD z623
  refine W.widen (k := 12) (n := 4433) (by omega) (by omega) ?_
  refine va_putF (D := (dC, dI)) (ci := 15) (v := .ref q620) (ty := .array .int) (C := RX12) (T := TX12) (N := 150) hx hb hts (in_z_X12_init_X12) tyX12 tyX12_ok nmX12 hown hK hP hD hS 0 rfl rfl 13 (by decide) (hts (.fieldLink RX12 103 "HeapWorksModel" "fieldKind" "[I") (by decide +kernel)) (fun _ h9 => h9) rfl hin rfl (by decide +kernel) rfl rfl (by rw [o_s619.2.1]; decide) dX12_init_295 (fun H locs hP hD hS => ?_)
  have hP : va_P (dC, dI) vwCl [(Ad0, .inr (15, (s619.set 13 (.ref q620)))), (q101, .inl (k102, 4000, .inl f103)), (q106, .inl (k107, 20, .inl f108)), (q111, .inl (k112, 29, .inr (.inl f549))), (q620, .inl (k621, 96, .inl f622))] H := hP
  have hD : va_D A [(Ad0, .inr (15, (s619.set 13 (.ref q620)))), (q101, .inl (k102, 4000, .inl f103)), (q106, .inl (k107, 20, .inl f108)), (q111, .inl (k112, 29, .inr (.inl f549))), (q620, .inl (k621, 96, .inl f622))] := hD
  have o_s624 := ow_set o_s619 13 (.ref q620) (by decide) (l' := [(13, .ref q620), (12, .ref q615), (11, .ref q610), (10, .ref q605), (9, .ref q600), (8, .ref q595), (7, .ref q590), (6, .ref q585), (5, .ref q580), (4, .ref q111), (2, .ref q106), (1, .ref q101)]) (w' := [13, 12, 11, 10, 9, 8, 7, 6, 5, 4, 2, 1]) rfl rfl
  generalize (s619.set 13 (.ref q620)) = s624 at hP hD o_s624
  have hP := hP.sub (ws' := [(Ad0, .inr (15, s624)), (q101, .inl (k102, 4000, .inl f103)), (q106, .inl (k107, 20, .inl f108)), (q111, .inl (k112, 29, .inr (.inl f549)))]) [0, 1, 2, 3] rfl
  have hD := hD.sub (ws' := [(Ad0, .inr (15, s624)), (q101, .inl (k102, 4000, .inl f103)), (q106, .inl (k107, 20, .inl f108)), (q111, .inl (k112, 29, .inr (.inl f549)))]) [0, 1, 2, 3] (by decide) rfl
  have hK := hK.sub (tys' := [(k102, .byte), (k107, .byte), (k112, .long)]) [0, 1, 2] rfl
  refine lv_aload_n hx hb dX12_init_298 rfl (lv_at hl 0 rfl) ?_
  refine lv_bipush (v := 96) hx hb dX12_init_299 (by decide) ?_
  refine va_newa (atype := .int) (ty := .int) (a0 := (96, .inl (fun _ : Nat => (0 : Int32)))) (N' := 96) hx hb (hts (.arrayClass .int) (by decide +kernel)) rfl hK hP hD hS hA (na_I 96) (by decide) (by decide) (by decide) (Nat.le_of_ble_eq_true rfl) (Nat.le_of_ble_eq_true rfl) dX12_init_301 (fun q625 k626 H hK hP hD hS => ?_)
  have hK : va_K (dC, dI) vwCl [(k102, .byte), (k107, .byte), (k112, .long), (k626, .int)] s := hK
  have hP : va_P (dC, dI) vwCl [(Ad0, .inr (15, s624)), (q101, .inl (k102, 4000, .inl f103)), (q106, .inl (k107, 20, .inl f108)), (q111, .inl (k112, 29, .inr (.inl f549))), (q625, .inl (k626, 96, .inl ((fun _ : Nat => (0 : Int32)))))] H := hP
  have hD : va_D A [(Ad0, .inr (15, s624)), (q101, .inl (k102, 4000, .inl f103)), (q106, .inl (k107, 20, .inl f108)), (q111, .inl (k112, 29, .inr (.inl f549))), (q625, .inl (k626, 96, .inl ((fun _ : Nat => (0 : Int32)))))] := hD
  have z628 : ∀ j, (fun _ : Nat => (0 : Int32)) j = 0 := fun _ => rfl
  generalize (fun _ : Nat => (0 : Int32)) = f627 at hP hD z628
  refine W.widen (k := 13) (n := 4529) (by omega) (by omega) ?_
  refine va_putF (D := (dC, dI)) (ci := 15) (v := .ref q625) (ty := .array .int) (C := RX12) (T := TX12) (N := 150) hx hb hts (in_z_X12_init_X12) tyX12 tyX12_ok nmX12 hown hK hP hD hS 0 rfl rfl 14 (by decide) (hts (.fieldLink RX12 106 "HeapWorksModel" "fieldLink" "[I") (by decide +kernel)) (fun _ h9 => h9) rfl hin rfl (by decide +kernel) rfl rfl (by rw [o_s624.2.1]; decide) dX12_init_303 (fun H locs hP hD hS => ?_)
  have hP : va_P (dC, dI) vwCl [(Ad0, .inr (15, (s624.set 14 (.ref q625)))), (q101, .inl (k102, 4000, .inl f103)), (q106, .inl (k107, 20, .inl f108)), (q111, .inl (k112, 29, .inr (.inl f549))), (q625, .inl (k626, 96, .inl f627))] H := hP
  have hD : va_D A [(Ad0, .inr (15, (s624.set 14 (.ref q625)))), (q101, .inl (k102, 4000, .inl f103)), (q106, .inl (k107, 20, .inl f108)), (q111, .inl (k112, 29, .inr (.inl f549))), (q625, .inl (k626, 96, .inl f627))] := hD
  have o_s629 := ow_set o_s624 14 (.ref q625) (by decide) (l' := [(14, .ref q625), (13, .ref q620), (12, .ref q615), (11, .ref q610), (10, .ref q605), (9, .ref q600), (8, .ref q595), (7, .ref q590), (6, .ref q585), (5, .ref q580), (4, .ref q111), (2, .ref q106), (1, .ref q101)]) (w' := [14, 13, 12, 11, 10, 9, 8, 7, 6, 5, 4, 2, 1]) rfl rfl
  generalize (s624.set 14 (.ref q625)) = s629 at hP hD o_s629
  have hP := hP.sub (ws' := [(Ad0, .inr (15, s629)), (q101, .inl (k102, 4000, .inl f103)), (q106, .inl (k107, 20, .inl f108)), (q111, .inl (k112, 29, .inr (.inl f549)))]) [0, 1, 2, 3] rfl
  have hD := hD.sub (ws' := [(Ad0, .inr (15, s629)), (q101, .inl (k102, 4000, .inl f103)), (q106, .inl (k107, 20, .inl f108)), (q111, .inl (k112, 29, .inr (.inl f549)))]) [0, 1, 2, 3] (by decide) rfl
  have hK := hK.sub (tys' := [(k102, .byte), (k107, .byte), (k112, .long)]) [0, 1, 2] rfl
  refine lv_aload_n hx hb dX12_init_306 rfl (lv_at hl 0 rfl) ?_
  refine lv_bipush (v := 96) hx hb dX12_init_307 (by decide) ?_
  refine va_newa (atype := .int) (ty := .int) (a0 := (96, .inl (fun _ : Nat => (0 : Int32)))) (N' := 96) hx hb (hts (.arrayClass .int) (by decide +kernel)) rfl hK hP hD hS hA (na_I 96) (by decide) (by decide) (by decide) (Nat.le_of_ble_eq_true rfl) (Nat.le_of_ble_eq_true rfl) dX12_init_309 (fun q630 k631 H hK hP hD hS => ?_)
  have hK : va_K (dC, dI) vwCl [(k102, .byte), (k107, .byte), (k112, .long), (k631, .int)] s := hK
  have hP : va_P (dC, dI) vwCl [(Ad0, .inr (15, s629)), (q101, .inl (k102, 4000, .inl f103)), (q106, .inl (k107, 20, .inl f108)), (q111, .inl (k112, 29, .inr (.inl f549))), (q630, .inl (k631, 96, .inl ((fun _ : Nat => (0 : Int32)))))] H := hP
  have hD : va_D A [(Ad0, .inr (15, s629)), (q101, .inl (k102, 4000, .inl f103)), (q106, .inl (k107, 20, .inl f108)), (q111, .inl (k112, 29, .inr (.inl f549))), (q630, .inl (k631, 96, .inl ((fun _ : Nat => (0 : Int32)))))] := hD
  have z633 : ∀ j, (fun _ : Nat => (0 : Int32)) j = 0 := fun _ => rfl
  generalize (fun _ : Nat => (0 : Int32)) = f632 at hP hD z633
  refine W.widen (k := 14) (n := 4625) (by omega) (by omega) ?_
  refine va_putF (D := (dC, dI)) (ci := 15) (v := .ref q630) (ty := .array .int) (C := RX12) (T := TX12) (N := 150) hx hb hts (in_z_X12_init_X12) tyX12 tyX12_ok nmX12 hown hK hP hD hS 0 rfl rfl 15 (by decide) (hts (.fieldLink RX12 109 "HeapWorksModel" "fieldSlot" "[I") (by decide +kernel)) (fun _ h9 => h9) rfl hin rfl (by decide +kernel) rfl rfl (by rw [o_s629.2.1]; decide) dX12_init_311 (fun H locs hP hD hS => ?_)
  have hP : va_P (dC, dI) vwCl [(Ad0, .inr (15, (s629.set 15 (.ref q630)))), (q101, .inl (k102, 4000, .inl f103)), (q106, .inl (k107, 20, .inl f108)), (q111, .inl (k112, 29, .inr (.inl f549))), (q630, .inl (k631, 96, .inl f632))] H := hP
  have hD : va_D A [(Ad0, .inr (15, (s629.set 15 (.ref q630)))), (q101, .inl (k102, 4000, .inl f103)), (q106, .inl (k107, 20, .inl f108)), (q111, .inl (k112, 29, .inr (.inl f549))), (q630, .inl (k631, 96, .inl f632))] := hD
  have o_s634 := ow_set o_s629 15 (.ref q630) (by decide) (l' := [(15, .ref q630), (14, .ref q625), (13, .ref q620), (12, .ref q615), (11, .ref q610), (10, .ref q605), (9, .ref q600), (8, .ref q595), (7, .ref q590), (6, .ref q585), (5, .ref q580), (4, .ref q111), (2, .ref q106), (1, .ref q101)]) (w' := [15, 14, 13, 12, 11, 10, 9, 8, 7, 6, 5, 4, 2, 1]) rfl rfl
  generalize (s629.set 15 (.ref q630)) = s634 at hP hD o_s634
  have hP := hP.sub (ws' := [(Ad0, .inr (15, s634)), (q101, .inl (k102, 4000, .inl f103)), (q106, .inl (k107, 20, .inl f108)), (q111, .inl (k112, 29, .inr (.inl f549)))]) [0, 1, 2, 3] rfl
  have hD := hD.sub (ws' := [(Ad0, .inr (15, s634)), (q101, .inl (k102, 4000, .inl f103)), (q106, .inl (k107, 20, .inl f108)), (q111, .inl (k112, 29, .inr (.inl f549)))]) [0, 1, 2, 3] (by decide) rfl
  have hK := hK.sub (tys' := [(k102, .byte), (k107, .byte), (k112, .long)]) [0, 1, 2] rfl
  refine lv_aload_n hx hb dX12_init_314 rfl (lv_at hl 0 rfl) ?_
  refine lv_bipush (v := 96) hx hb dX12_init_315 (by decide) ?_
  refine va_newa (atype := .int) (ty := .int) (a0 := (96, .inl (fun _ : Nat => (0 : Int32)))) (N' := 96) hx hb (hts (.arrayClass .int) (by decide +kernel)) rfl hK hP hD hS hA (na_I 96) (by decide) (by decide) (by decide) (Nat.le_of_ble_eq_true rfl) (Nat.le_of_ble_eq_true rfl) dX12_init_317 (fun q635 k636 H hK hP hD hS => ?_)
  have hK : va_K (dC, dI) vwCl [(k102, .byte), (k107, .byte), (k112, .long), (k636, .int)] s := hK
  have hP : va_P (dC, dI) vwCl [(Ad0, .inr (15, s634)), (q101, .inl (k102, 4000, .inl f103)), (q106, .inl (k107, 20, .inl f108)), (q111, .inl (k112, 29, .inr (.inl f549))), (q635, .inl (k636, 96, .inl ((fun _ : Nat => (0 : Int32)))))] H := hP
  have hD : va_D A [(Ad0, .inr (15, s634)), (q101, .inl (k102, 4000, .inl f103)), (q106, .inl (k107, 20, .inl f108)), (q111, .inl (k112, 29, .inr (.inl f549))), (q635, .inl (k636, 96, .inl ((fun _ : Nat => (0 : Int32)))))] := hD
  have z638 : ∀ j, (fun _ : Nat => (0 : Int32)) j = 0 := fun _ => rfl
  generalize (fun _ : Nat => (0 : Int32)) = f637 at hP hD z638
  refine W.widen (k := 15) (n := 4721) (by omega) (by omega) ?_
  refine va_putF (D := (dC, dI)) (ci := 15) (v := .ref q635) (ty := .array .int) (C := RX12) (T := TX12) (N := 150) hx hb hts (in_z_X12_init_X12) tyX12 tyX12_ok nmX12 hown hK hP hD hS 0 rfl rfl 16 (by decide) (hts (.fieldLink RX12 112 "HeapWorksModel" "fieldAt" "[I") (by decide +kernel)) (fun _ h9 => h9) rfl hin rfl (by decide +kernel) rfl rfl (by rw [o_s634.2.1]; decide) dX12_init_319 (fun H locs hP hD hS => ?_)
  have hP : va_P (dC, dI) vwCl [(Ad0, .inr (15, (s634.set 16 (.ref q635)))), (q101, .inl (k102, 4000, .inl f103)), (q106, .inl (k107, 20, .inl f108)), (q111, .inl (k112, 29, .inr (.inl f549))), (q635, .inl (k636, 96, .inl f637))] H := hP
  have hD : va_D A [(Ad0, .inr (15, (s634.set 16 (.ref q635)))), (q101, .inl (k102, 4000, .inl f103)), (q106, .inl (k107, 20, .inl f108)), (q111, .inl (k112, 29, .inr (.inl f549))), (q635, .inl (k636, 96, .inl f637))] := hD
  have o_s639 := ow_set o_s634 16 (.ref q635) (by decide) (l' := [(16, .ref q635), (15, .ref q630), (14, .ref q625), (13, .ref q620), (12, .ref q615), (11, .ref q610), (10, .ref q605), (9, .ref q600), (8, .ref q595), (7, .ref q590), (6, .ref q585), (5, .ref q580), (4, .ref q111), (2, .ref q106), (1, .ref q101)]) (w' := [16, 15, 14, 13, 12, 11, 10, 9, 8, 7, 6, 5, 4, 2, 1]) rfl rfl
  generalize (s634.set 16 (.ref q635)) = s639 at hP hD o_s639
  have hP := hP.sub (ws' := [(Ad0, .inr (15, s639)), (q101, .inl (k102, 4000, .inl f103)), (q106, .inl (k107, 20, .inl f108)), (q111, .inl (k112, 29, .inr (.inl f549)))]) [0, 1, 2, 3] rfl
  have hD := hD.sub (ws' := [(Ad0, .inr (15, s639)), (q101, .inl (k102, 4000, .inl f103)), (q106, .inl (k107, 20, .inl f108)), (q111, .inl (k112, 29, .inr (.inl f549)))]) [0, 1, 2, 3] (by decide) rfl
  have hK := hK.sub (tys' := [(k102, .byte), (k107, .byte), (k112, .long)]) [0, 1, 2] rfl
  refine lv_aload_n hx hb dX12_init_322 rfl (lv_at hl 0 rfl) ?_
  refine lv_bipush (v := 16) hx hb dX12_init_323 (by decide) ?_
  refine va_newa (atype := .boolean) (ty := .boolean) (a0 := (16, .inl (fun _ : Nat => (0 : Int32)))) (N' := 16) hx hb (hts (.arrayClass .boolean) (by decide +kernel)) rfl hK hP hD hS hA (na_Z 16) (by decide) (by decide) (by decide) (Nat.le_of_ble_eq_true rfl) (Nat.le_of_ble_eq_true rfl) dX12_init_325 (fun q640 k641 H hK hP hD hS => ?_)
  have hK : va_K (dC, dI) vwCl [(k102, .byte), (k107, .byte), (k112, .long), (k641, .boolean)] s := hK
  have hP : va_P (dC, dI) vwCl [(Ad0, .inr (15, s639)), (q101, .inl (k102, 4000, .inl f103)), (q106, .inl (k107, 20, .inl f108)), (q111, .inl (k112, 29, .inr (.inl f549))), (q640, .inl (k641, 16, .inl ((fun _ : Nat => (0 : Int32)))))] H := hP
  have hD : va_D A [(Ad0, .inr (15, s639)), (q101, .inl (k102, 4000, .inl f103)), (q106, .inl (k107, 20, .inl f108)), (q111, .inl (k112, 29, .inr (.inl f549))), (q640, .inl (k641, 16, .inl ((fun _ : Nat => (0 : Int32)))))] := hD
  have z643 : ∀ j, (fun _ : Nat => (0 : Int32)) j = 0 := fun _ => rfl
  generalize (fun _ : Nat => (0 : Int32)) = f642 at hP hD z643
  refine W.widen (k := 16) (n := 4737) (by omega) (by omega) ?_
  refine va_putF (D := (dC, dI)) (ci := 15) (v := .ref q640) (ty := .array .boolean) (C := RX12) (T := TX12) (N := 150) hx hb hts (in_z_X12_init_X12) tyX12 tyX12_ok nmX12 hown hK hP hD hS 0 rfl rfl 17 (by decide) (hts (.fieldLink RX12 115 "HeapWorksModel" "used" "[Z") (by decide +kernel)) (fun _ h9 => h9) rfl hin rfl (by decide +kernel) rfl rfl (by rw [o_s639.2.1]; decide) dX12_init_327 (fun H locs hP hD hS => ?_)
  have hP : va_P (dC, dI) vwCl [(Ad0, .inr (15, (s639.set 17 (.ref q640)))), (q101, .inl (k102, 4000, .inl f103)), (q106, .inl (k107, 20, .inl f108)), (q111, .inl (k112, 29, .inr (.inl f549))), (q640, .inl (k641, 16, .inl f642))] H := hP
  have hD : va_D A [(Ad0, .inr (15, (s639.set 17 (.ref q640)))), (q101, .inl (k102, 4000, .inl f103)), (q106, .inl (k107, 20, .inl f108)), (q111, .inl (k112, 29, .inr (.inl f549))), (q640, .inl (k641, 16, .inl f642))] := hD
  have o_s644 := ow_set o_s639 17 (.ref q640) (by decide) (l' := [(17, .ref q640), (16, .ref q635), (15, .ref q630), (14, .ref q625), (13, .ref q620), (12, .ref q615), (11, .ref q610), (10, .ref q605), (9, .ref q600), (8, .ref q595), (7, .ref q590), (6, .ref q585), (5, .ref q580), (4, .ref q111), (2, .ref q106), (1, .ref q101)]) (w' := [17, 16, 15, 14, 13, 12, 11, 10, 9, 8, 7, 6, 5, 4, 2, 1]) rfl rfl
  generalize (s639.set 17 (.ref q640)) = s644 at hP hD o_s644
  have hP := hP.sub (ws' := [(Ad0, .inr (15, s644)), (q101, .inl (k102, 4000, .inl f103)), (q106, .inl (k107, 20, .inl f108)), (q111, .inl (k112, 29, .inr (.inl f549)))]) [0, 1, 2, 3] rfl
  have hD := hD.sub (ws' := [(Ad0, .inr (15, s644)), (q101, .inl (k102, 4000, .inl f103)), (q106, .inl (k107, 20, .inl f108)), (q111, .inl (k112, 29, .inr (.inl f549)))]) [0, 1, 2, 3] (by decide) rfl
  have hK := hK.sub (tys' := [(k102, .byte), (k107, .byte), (k112, .long)]) [0, 1, 2] rfl
  refine lv_aload_n hx hb dX12_init_330 rfl (lv_at hl 0 rfl) ?_
  refine lv_bipush (v := 96) hx hb dX12_init_331 (by decide) ?_
  refine va_newa (atype := .boolean) (ty := .boolean) (a0 := (96, .inl (fun _ : Nat => (0 : Int32)))) (N' := 96) hx hb (hts (.arrayClass .boolean) (by decide +kernel)) rfl hK hP hD hS hA (na_Z 96) (by decide) (by decide) (by decide) (Nat.le_of_ble_eq_true rfl) (Nat.le_of_ble_eq_true rfl) dX12_init_333 (fun q645 k646 H hK hP hD hS => ?_)
  have hK : va_K (dC, dI) vwCl [(k102, .byte), (k107, .byte), (k112, .long), (k646, .boolean)] s := hK
  have hP : va_P (dC, dI) vwCl [(Ad0, .inr (15, s644)), (q101, .inl (k102, 4000, .inl f103)), (q106, .inl (k107, 20, .inl f108)), (q111, .inl (k112, 29, .inr (.inl f549))), (q645, .inl (k646, 96, .inl ((fun _ : Nat => (0 : Int32)))))] H := hP
  have hD : va_D A [(Ad0, .inr (15, s644)), (q101, .inl (k102, 4000, .inl f103)), (q106, .inl (k107, 20, .inl f108)), (q111, .inl (k112, 29, .inr (.inl f549))), (q645, .inl (k646, 96, .inl ((fun _ : Nat => (0 : Int32)))))] := hD
  have z648 : ∀ j, (fun _ : Nat => (0 : Int32)) j = 0 := fun _ => rfl
  generalize (fun _ : Nat => (0 : Int32)) = f647 at hP hD z648
  refine W.widen (k := 17) (n := 4833) (by omega) (by omega) ?_
  refine va_putF (D := (dC, dI)) (ci := 15) (v := .ref q645) (ty := .array .boolean) (C := RX12) (T := TX12) (N := 150) hx hb hts (in_z_X12_init_X12) tyX12 tyX12_ok nmX12 hown hK hP hD hS 0 rfl rfl 18 (by decide) (hts (.fieldLink RX12 119 "HeapWorksModel" "isStatic" "[Z") (by decide +kernel)) (fun _ h9 => h9) rfl hin rfl (by decide +kernel) rfl rfl (by rw [o_s644.2.1]; decide) dX12_init_335 (fun H locs hP hD hS => ?_)
  have hP : va_P (dC, dI) vwCl [(Ad0, .inr (15, (s644.set 18 (.ref q645)))), (q101, .inl (k102, 4000, .inl f103)), (q106, .inl (k107, 20, .inl f108)), (q111, .inl (k112, 29, .inr (.inl f549))), (q645, .inl (k646, 96, .inl f647))] H := hP
  have hD : va_D A [(Ad0, .inr (15, (s644.set 18 (.ref q645)))), (q101, .inl (k102, 4000, .inl f103)), (q106, .inl (k107, 20, .inl f108)), (q111, .inl (k112, 29, .inr (.inl f549))), (q645, .inl (k646, 96, .inl f647))] := hD
  have o_s649 := ow_set o_s644 18 (.ref q645) (by decide) (l' := [(18, .ref q645), (17, .ref q640), (16, .ref q635), (15, .ref q630), (14, .ref q625), (13, .ref q620), (12, .ref q615), (11, .ref q610), (10, .ref q605), (9, .ref q600), (8, .ref q595), (7, .ref q590), (6, .ref q585), (5, .ref q580), (4, .ref q111), (2, .ref q106), (1, .ref q101)]) (w' := [18, 17, 16, 15, 14, 13, 12, 11, 10, 9, 8, 7, 6, 5, 4, 2, 1]) rfl rfl
  generalize (s644.set 18 (.ref q645)) = s649 at hP hD o_s649
  have hP := hP.sub (ws' := [(Ad0, .inr (15, s649)), (q101, .inl (k102, 4000, .inl f103)), (q106, .inl (k107, 20, .inl f108)), (q111, .inl (k112, 29, .inr (.inl f549)))]) [0, 1, 2, 3] rfl
  have hD := hD.sub (ws' := [(Ad0, .inr (15, s649)), (q101, .inl (k102, 4000, .inl f103)), (q106, .inl (k107, 20, .inl f108)), (q111, .inl (k112, 29, .inr (.inl f549)))]) [0, 1, 2, 3] (by decide) rfl
  have hK := hK.sub (tys' := [(k102, .byte), (k107, .byte), (k112, .long)]) [0, 1, 2] rfl
  refine lv_aload_n hx hb dX12_init_338 rfl (lv_at hl 0 rfl) ?_
  refine lv_bipush (v := 16) hx hb dX12_init_339 (by decide) ?_
  refine va_newa (atype := .boolean) (ty := .boolean) (a0 := (16, .inl (fun _ : Nat => (0 : Int32)))) (N' := 16) hx hb (hts (.arrayClass .boolean) (by decide +kernel)) rfl hK hP hD hS hA (na_Z 16) (by decide) (by decide) (by decide) (Nat.le_of_ble_eq_true rfl) (Nat.le_of_ble_eq_true rfl) dX12_init_341 (fun q650 k651 H hK hP hD hS => ?_)
  have hK : va_K (dC, dI) vwCl [(k102, .byte), (k107, .byte), (k112, .long), (k651, .boolean)] s := hK
  have hP : va_P (dC, dI) vwCl [(Ad0, .inr (15, s649)), (q101, .inl (k102, 4000, .inl f103)), (q106, .inl (k107, 20, .inl f108)), (q111, .inl (k112, 29, .inr (.inl f549))), (q650, .inl (k651, 16, .inl ((fun _ : Nat => (0 : Int32)))))] H := hP
  have hD : va_D A [(Ad0, .inr (15, s649)), (q101, .inl (k102, 4000, .inl f103)), (q106, .inl (k107, 20, .inl f108)), (q111, .inl (k112, 29, .inr (.inl f549))), (q650, .inl (k651, 16, .inl ((fun _ : Nat => (0 : Int32)))))] := hD
  have z653 : ∀ j, (fun _ : Nat => (0 : Int32)) j = 0 := fun _ => rfl
  generalize (fun _ : Nat => (0 : Int32)) = f652 at hP hD z653
  refine W.widen (k := 18) (n := 4849) (by omega) (by omega) ?_
  refine va_putF (D := (dC, dI)) (ci := 15) (v := .ref q650) (ty := .array .boolean) (C := RX12) (T := TX12) (N := 150) hx hb hts (in_z_X12_init_X12) tyX12 tyX12_ok nmX12 hown hK hP hD hS 0 rfl rfl 19 (by decide) (hts (.fieldLink RX12 122 "HeapWorksModel" "apart" "[Z") (by decide +kernel)) (fun _ h9 => h9) rfl hin rfl (by decide +kernel) rfl rfl (by rw [o_s649.2.1]; decide) dX12_init_343 (fun H locs hP hD hS => ?_)
  have hP : va_P (dC, dI) vwCl [(Ad0, .inr (15, (s649.set 19 (.ref q650)))), (q101, .inl (k102, 4000, .inl f103)), (q106, .inl (k107, 20, .inl f108)), (q111, .inl (k112, 29, .inr (.inl f549))), (q650, .inl (k651, 16, .inl f652))] H := hP
  have hD : va_D A [(Ad0, .inr (15, (s649.set 19 (.ref q650)))), (q101, .inl (k102, 4000, .inl f103)), (q106, .inl (k107, 20, .inl f108)), (q111, .inl (k112, 29, .inr (.inl f549))), (q650, .inl (k651, 16, .inl f652))] := hD
  have o_s654 := ow_set o_s649 19 (.ref q650) (by decide) (l' := [(19, .ref q650), (18, .ref q645), (17, .ref q640), (16, .ref q635), (15, .ref q630), (14, .ref q625), (13, .ref q620), (12, .ref q615), (11, .ref q610), (10, .ref q605), (9, .ref q600), (8, .ref q595), (7, .ref q590), (6, .ref q585), (5, .ref q580), (4, .ref q111), (2, .ref q106), (1, .ref q101)]) (w' := [19, 18, 17, 16, 15, 14, 13, 12, 11, 10, 9, 8, 7, 6, 5, 4, 2, 1]) rfl rfl
  generalize (s649.set 19 (.ref q650)) = s654 at hP hD o_s654
  have hP := hP.sub (ws' := [(Ad0, .inr (15, s654)), (q101, .inl (k102, 4000, .inl f103)), (q106, .inl (k107, 20, .inl f108)), (q111, .inl (k112, 29, .inr (.inl f549)))]) [0, 1, 2, 3] rfl
  have hD := hD.sub (ws' := [(Ad0, .inr (15, s654)), (q101, .inl (k102, 4000, .inl f103)), (q106, .inl (k107, 20, .inl f108)), (q111, .inl (k112, 29, .inr (.inl f549)))]) [0, 1, 2, 3] (by decide) rfl
  have hK := hK.sub (tys' := [(k102, .byte), (k107, .byte), (k112, .long)]) [0, 1, 2] rfl
  refine lv_aload_n hx hb dX12_init_346 rfl (lv_at hl 0 rfl) ?_
  refine lv_sipush (v := 400) hx hb dX12_init_347 (by decide) ?_
  refine va_newa (atype := .int) (ty := .int) (a0 := (400, .inl (fun _ : Nat => (0 : Int32)))) (N' := 400) hx hb (hts (.arrayClass .int) (by decide +kernel)) rfl hK hP hD hS hA (na_I 400) (by decide) (by decide) (by decide) (Nat.le_of_ble_eq_true rfl) (Nat.le_of_ble_eq_true rfl) dX12_init_350 (fun q655 k656 H hK hP hD hS => ?_)
  have hK : va_K (dC, dI) vwCl [(k102, .byte), (k107, .byte), (k112, .long), (k656, .int)] s := hK
  have hP : va_P (dC, dI) vwCl [(Ad0, .inr (15, s654)), (q101, .inl (k102, 4000, .inl f103)), (q106, .inl (k107, 20, .inl f108)), (q111, .inl (k112, 29, .inr (.inl f549))), (q655, .inl (k656, 400, .inl ((fun _ : Nat => (0 : Int32)))))] H := hP
  have hD : va_D A [(Ad0, .inr (15, s654)), (q101, .inl (k102, 4000, .inl f103)), (q106, .inl (k107, 20, .inl f108)), (q111, .inl (k112, 29, .inr (.inl f549))), (q655, .inl (k656, 400, .inl ((fun _ : Nat => (0 : Int32)))))] := hD
  have z658 : ∀ j, (fun _ : Nat => (0 : Int32)) j = 0 := fun _ => rfl
  generalize (fun _ : Nat => (0 : Int32)) = f657 at hP hD z658
  refine W.widen (k := 19) (n := 5249) (by omega) (by omega) ?_
  refine va_putF (D := (dC, dI)) (ci := 15) (v := .ref q655) (ty := .array .int) (C := RX12) (T := TX12) (N := 150) hx hb hts (in_z_X12_init_X12) tyX12 tyX12_ok nmX12 hown hK hP hD hS 0 rfl rfl 21 (by decide) (hts (.fieldLink RX12 125 "HeapWorksModel" "type" "[I") (by decide +kernel)) (fun _ h9 => h9) rfl hin rfl (by decide +kernel) rfl rfl (by rw [o_s654.2.1]; decide) dX12_init_352 (fun H locs hP hD hS => ?_)
  have hP : va_P (dC, dI) vwCl [(Ad0, .inr (15, (s654.set 21 (.ref q655)))), (q101, .inl (k102, 4000, .inl f103)), (q106, .inl (k107, 20, .inl f108)), (q111, .inl (k112, 29, .inr (.inl f549))), (q655, .inl (k656, 400, .inl f657))] H := hP
  have hD : va_D A [(Ad0, .inr (15, (s654.set 21 (.ref q655)))), (q101, .inl (k102, 4000, .inl f103)), (q106, .inl (k107, 20, .inl f108)), (q111, .inl (k112, 29, .inr (.inl f549))), (q655, .inl (k656, 400, .inl f657))] := hD
  have o_s659 := ow_set o_s654 21 (.ref q655) (by decide) (l' := [(21, .ref q655), (19, .ref q650), (18, .ref q645), (17, .ref q640), (16, .ref q635), (15, .ref q630), (14, .ref q625), (13, .ref q620), (12, .ref q615), (11, .ref q610), (10, .ref q605), (9, .ref q600), (8, .ref q595), (7, .ref q590), (6, .ref q585), (5, .ref q580), (4, .ref q111), (2, .ref q106), (1, .ref q101)]) (w' := [21, 19, 18, 17, 16, 15, 14, 13, 12, 11, 10, 9, 8, 7, 6, 5, 4, 2, 1]) rfl rfl
  generalize (s654.set 21 (.ref q655)) = s659 at hP hD o_s659
  refine lv_aload_n hx hb dX12_init_355 rfl (lv_at hl 0 rfl) ?_
  refine lv_sipush (v := 400) hx hb dX12_init_356 (by decide) ?_
  refine va_newa (atype := .int) (ty := .int) (a0 := (400, .inl (fun _ : Nat => (0 : Int32)))) (N' := 400) hx hb (hts (.arrayClass .int) (by decide +kernel)) rfl hK hP hD hS hA (na_I 400) (by decide) (by decide) (by decide) (Nat.le_of_ble_eq_true rfl) (Nat.le_of_ble_eq_true rfl) dX12_init_359 (fun q660 k661 H hK hP hD hS => ?_)
  have hK : va_K (dC, dI) vwCl [(k102, .byte), (k107, .byte), (k112, .long), (k656, .int), (k661, .int)] s := hK
  have hP : va_P (dC, dI) vwCl [(Ad0, .inr (15, s659)), (q101, .inl (k102, 4000, .inl f103)), (q106, .inl (k107, 20, .inl f108)), (q111, .inl (k112, 29, .inr (.inl f549))), (q655, .inl (k656, 400, .inl f657)), (q660, .inl (k661, 400, .inl ((fun _ : Nat => (0 : Int32)))))] H := hP
  have hD : va_D A [(Ad0, .inr (15, s659)), (q101, .inl (k102, 4000, .inl f103)), (q106, .inl (k107, 20, .inl f108)), (q111, .inl (k112, 29, .inr (.inl f549))), (q655, .inl (k656, 400, .inl f657)), (q660, .inl (k661, 400, .inl ((fun _ : Nat => (0 : Int32)))))] := hD
  have z663 : ∀ j, (fun _ : Nat => (0 : Int32)) j = 0 := fun _ => rfl
  generalize (fun _ : Nat => (0 : Int32)) = f662 at hP hD z663
  refine W.widen (k := 20) (n := 5649) (by omega) (by omega) ?_
  refine va_putF (D := (dC, dI)) (ci := 15) (v := .ref q660) (ty := .array .int) (C := RX12) (T := TX12) (N := 150) hx hb hts (in_z_X12_init_X12) tyX12 tyX12_ok nmX12 hown hK hP hD hS 0 rfl rfl 22 (by decide) (hts (.fieldLink RX12 128 "HeapWorksModel" "length" "[I") (by decide +kernel)) (fun _ h9 => h9) rfl hin rfl (by decide +kernel) rfl rfl (by rw [o_s659.2.1]; decide) dX12_init_361 (fun H locs hP hD hS => ?_)
  have hP : va_P (dC, dI) vwCl [(Ad0, .inr (15, (s659.set 22 (.ref q660)))), (q101, .inl (k102, 4000, .inl f103)), (q106, .inl (k107, 20, .inl f108)), (q111, .inl (k112, 29, .inr (.inl f549))), (q655, .inl (k656, 400, .inl f657)), (q660, .inl (k661, 400, .inl f662))] H := hP
  have hD : va_D A [(Ad0, .inr (15, (s659.set 22 (.ref q660)))), (q101, .inl (k102, 4000, .inl f103)), (q106, .inl (k107, 20, .inl f108)), (q111, .inl (k112, 29, .inr (.inl f549))), (q655, .inl (k656, 400, .inl f657)), (q660, .inl (k661, 400, .inl f662))] := hD
  have o_s664 := ow_set o_s659 22 (.ref q660) (by decide) (l' := [(22, .ref q660), (21, .ref q655), (19, .ref q650), (18, .ref q645), (17, .ref q640), (16, .ref q635), (15, .ref q630), (14, .ref q625), (13, .ref q620), (12, .ref q615), (11, .ref q610), (10, .ref q605), (9, .ref q600), (8, .ref q595), (7, .ref q590), (6, .ref q585), (5, .ref q580), (4, .ref q111), (2, .ref q106), (1, .ref q101)]) (w' := [22, 21, 19, 18, 17, 16, 15, 14, 13, 12, 11, 10, 9, 8, 7, 6, 5, 4, 2, 1]) rfl rfl
  generalize (s659.set 22 (.ref q660)) = s664 at hP hD o_s664
  refine lv_aload_n hx hb dX12_init_364 rfl (lv_at hl 0 rfl) ?_
  refine lv_sipush (v := 400) hx hb dX12_init_365 (by decide) ?_
  refine va_newa (atype := .int) (ty := .int) (a0 := (400, .inl (fun _ : Nat => (0 : Int32)))) (N' := 400) hx hb (hts (.arrayClass .int) (by decide +kernel)) rfl hK hP hD hS hA (na_I 400) (by decide) (by decide) (by decide) (Nat.le_of_ble_eq_true rfl) (Nat.le_of_ble_eq_true rfl) dX12_init_368 (fun q665 k666 H hK hP hD hS => ?_)
  have hK : va_K (dC, dI) vwCl [(k102, .byte), (k107, .byte), (k112, .long), (k656, .int), (k661, .int), (k666, .int)] s := hK
  have hP : va_P (dC, dI) vwCl [(Ad0, .inr (15, s664)), (q101, .inl (k102, 4000, .inl f103)), (q106, .inl (k107, 20, .inl f108)), (q111, .inl (k112, 29, .inr (.inl f549))), (q655, .inl (k656, 400, .inl f657)), (q660, .inl (k661, 400, .inl f662)), (q665, .inl (k666, 400, .inl ((fun _ : Nat => (0 : Int32)))))] H := hP
  have hD : va_D A [(Ad0, .inr (15, s664)), (q101, .inl (k102, 4000, .inl f103)), (q106, .inl (k107, 20, .inl f108)), (q111, .inl (k112, 29, .inr (.inl f549))), (q655, .inl (k656, 400, .inl f657)), (q660, .inl (k661, 400, .inl f662)), (q665, .inl (k666, 400, .inl ((fun _ : Nat => (0 : Int32)))))] := hD
  have z668 : ∀ j, (fun _ : Nat => (0 : Int32)) j = 0 := fun _ => rfl
  generalize (fun _ : Nat => (0 : Int32)) = f667 at hP hD z668
  refine W.widen (k := 21) (n := 6049) (by omega) (by omega) ?_
  refine va_putF (D := (dC, dI)) (ci := 15) (v := .ref q665) (ty := .array .int) (C := RX12) (T := TX12) (N := 150) hx hb hts (in_z_X12_init_X12) tyX12 tyX12_ok nmX12 hown hK hP hD hS 0 rfl rfl 23 (by decide) (hts (.fieldLink RX12 131 "HeapWorksModel" "from" "[I") (by decide +kernel)) (fun _ h9 => h9) rfl hin rfl (by decide +kernel) rfl rfl (by rw [o_s664.2.1]; decide) dX12_init_370 (fun H locs hP hD hS => ?_)
  have hP : va_P (dC, dI) vwCl [(Ad0, .inr (15, (s664.set 23 (.ref q665)))), (q101, .inl (k102, 4000, .inl f103)), (q106, .inl (k107, 20, .inl f108)), (q111, .inl (k112, 29, .inr (.inl f549))), (q655, .inl (k656, 400, .inl f657)), (q660, .inl (k661, 400, .inl f662)), (q665, .inl (k666, 400, .inl f667))] H := hP
  have hD : va_D A [(Ad0, .inr (15, (s664.set 23 (.ref q665)))), (q101, .inl (k102, 4000, .inl f103)), (q106, .inl (k107, 20, .inl f108)), (q111, .inl (k112, 29, .inr (.inl f549))), (q655, .inl (k656, 400, .inl f657)), (q660, .inl (k661, 400, .inl f662)), (q665, .inl (k666, 400, .inl f667))] := hD
  have o_s669 := ow_set o_s664 23 (.ref q665) (by decide) (l' := [(23, .ref q665), (22, .ref q660), (21, .ref q655), (19, .ref q650), (18, .ref q645), (17, .ref q640), (16, .ref q635), (15, .ref q630), (14, .ref q625), (13, .ref q620), (12, .ref q615), (11, .ref q610), (10, .ref q605), (9, .ref q600), (8, .ref q595), (7, .ref q590), (6, .ref q585), (5, .ref q580), (4, .ref q111), (2, .ref q106), (1, .ref q101)]) (w' := [23, 22, 21, 19, 18, 17, 16, 15, 14, 13, 12, 11, 10, 9, 8, 7, 6, 5, 4, 2, 1]) rfl rfl
  generalize (s664.set 23 (.ref q665)) = s669 at hP hD o_s669
  refine lv_aload_n hx hb dX12_init_373 rfl (lv_at hl 0 rfl) ?_
  refine lv_sipush (v := 400) hx hb dX12_init_374 (by decide) ?_
  refine va_newa (atype := .boolean) (ty := .boolean) (a0 := (400, .inl (fun _ : Nat => (0 : Int32)))) (N' := 400) hx hb (hts (.arrayClass .boolean) (by decide +kernel)) rfl hK hP hD hS hA (na_Z 400) (by decide) (by decide) (by decide) (Nat.le_of_ble_eq_true rfl) (Nat.le_of_ble_eq_true rfl) dX12_init_377 (fun q670 k671 H hK hP hD hS => ?_)
  have hK : va_K (dC, dI) vwCl [(k102, .byte), (k107, .byte), (k112, .long), (k656, .int), (k661, .int), (k666, .int), (k671, .boolean)] s := hK
  have hP : va_P (dC, dI) vwCl [(Ad0, .inr (15, s669)), (q101, .inl (k102, 4000, .inl f103)), (q106, .inl (k107, 20, .inl f108)), (q111, .inl (k112, 29, .inr (.inl f549))), (q655, .inl (k656, 400, .inl f657)), (q660, .inl (k661, 400, .inl f662)), (q665, .inl (k666, 400, .inl f667)), (q670, .inl (k671, 400, .inl ((fun _ : Nat => (0 : Int32)))))] H := hP
  have hD : va_D A [(Ad0, .inr (15, s669)), (q101, .inl (k102, 4000, .inl f103)), (q106, .inl (k107, 20, .inl f108)), (q111, .inl (k112, 29, .inr (.inl f549))), (q655, .inl (k656, 400, .inl f657)), (q660, .inl (k661, 400, .inl f662)), (q665, .inl (k666, 400, .inl f667)), (q670, .inl (k671, 400, .inl ((fun _ : Nat => (0 : Int32)))))] := hD
  have z673 : ∀ j, (fun _ : Nat => (0 : Int32)) j = 0 := fun _ => rfl
  generalize (fun _ : Nat => (0 : Int32)) = f672 at hP hD z673
  refine W.widen (k := 22) (n := 6449) (by omega) (by omega) ?_
  refine va_putF (D := (dC, dI)) (ci := 15) (v := .ref q670) (ty := .array .boolean) (C := RX12) (T := TX12) (N := 150) hx hb hts (in_z_X12_init_X12) tyX12 tyX12_ok nmX12 hown hK hP hD hS 0 rfl rfl 24 (by decide) (hts (.fieldLink RX12 134 "HeapWorksModel" "there" "[Z") (by decide +kernel)) (fun _ h9 => h9) rfl hin rfl (by decide +kernel) rfl rfl (by rw [o_s669.2.1]; decide) dX12_init_379 (fun H locs hP hD hS => ?_)
  have hP : va_P (dC, dI) vwCl [(Ad0, .inr (15, (s669.set 24 (.ref q670)))), (q101, .inl (k102, 4000, .inl f103)), (q106, .inl (k107, 20, .inl f108)), (q111, .inl (k112, 29, .inr (.inl f549))), (q655, .inl (k656, 400, .inl f657)), (q660, .inl (k661, 400, .inl f662)), (q665, .inl (k666, 400, .inl f667)), (q670, .inl (k671, 400, .inl f672))] H := hP
  have hD : va_D A [(Ad0, .inr (15, (s669.set 24 (.ref q670)))), (q101, .inl (k102, 4000, .inl f103)), (q106, .inl (k107, 20, .inl f108)), (q111, .inl (k112, 29, .inr (.inl f549))), (q655, .inl (k656, 400, .inl f657)), (q660, .inl (k661, 400, .inl f662)), (q665, .inl (k666, 400, .inl f667)), (q670, .inl (k671, 400, .inl f672))] := hD
  have o_s674 := ow_set o_s669 24 (.ref q670) (by decide) (l' := [(24, .ref q670), (23, .ref q665), (22, .ref q660), (21, .ref q655), (19, .ref q650), (18, .ref q645), (17, .ref q640), (16, .ref q635), (15, .ref q630), (14, .ref q625), (13, .ref q620), (12, .ref q615), (11, .ref q610), (10, .ref q605), (9, .ref q600), (8, .ref q595), (7, .ref q590), (6, .ref q585), (5, .ref q580), (4, .ref q111), (2, .ref q106), (1, .ref q101)]) (w' := [24, 23, 22, 21, 19, 18, 17, 16, 15, 14, 13, 12, 11, 10, 9, 8, 7, 6, 5, 4, 2, 1]) rfl rfl
  generalize (s669.set 24 (.ref q670)) = s674 at hP hD o_s674
  exact z_X12_init_s2 l dC dI Ad0 Fs0 s674 q101 f103 k102 q106 f108 k107 q111 f549 k112 q655 f657 k656 q660 f662 k661 q665 f667 k666 q670 f672 k671 q650 q645 q640 q635 q630 q625 q620 q615 q610 q605 q600 q595 q590 q585 q580 hx hb hr hml hts hown hlocks hin hA o_s674 z104 z109 q550 q551 q552 q553 q554 q555 q556 q557 q558 q559 q560 q561 q562 q563 q564 q565 q566 q567 q568 q569 q570 q571 q572 q573 q574 q575 q576 q577 q578 z658 z663 z668 z673 hK hP hD hS ls hl

set_option maxHeartbeats 4000000 in
set_option maxRecDepth 100000 in
theorem z_X12_init (l : Launch) (dC : Nat → ClassId) (dI : Nat → Nat → Nat) (sz : Nat) (Ad0 : Nat) (Fs0 : List Value) (k_Fs0 : fh Fs0 150 [(4, .null)])  : Met l yX12_init w_z_X12_init ({ frames := 3, cells := 102, slots := 358658, locals := 65 }) (va_Pc [.ref Ad0] (fun U => U.heap.size = sz ∧ Wd dC dI [] (fun _ => True) [(Ad0, .inr (15, Fs0))] U)) (va_Qv (fun (u : List Value × Nat × (Nat → Int32) × ClassId × Nat × (Nat → Int32) × ClassId × Nat × (Nat → Int32) × ClassId × Nat × (Nat → Int32) × ClassId × Nat × (Nat → Int32) × ClassId × Nat × (Nat → Int32) × ClassId × Nat × (Nat → Int32) × ClassId × Nat × (Nat → Int32) × ClassId × Nat × (Nat → Int32) × ClassId × Nat × (Nat → Int32) × ClassId × Nat × (Nat → Int64) × ClassId × Nat × (Nat → Int32) × ClassId × Nat × (Nat → Int32) × ClassId × Nat × (Nat → Int32) × ClassId × Nat × (Nat → Int32) × ClassId × Nat × (Nat → Int64) × ClassId × Nat × (Nat → Int32) × ClassId × Nat × (Nat → Int32) × ClassId) => match u with | (s1075, q1071, f1073, k1072, q1056, f1058, k1057, q1051, f1053, k1052, q1031, f1033, k1032, q835, f837, k836, q830, f832, k831, q825, f827, k826, q820, f822, k821, q750, f752, k751, q745, f747, k746, q675, f677, k676, q670, f672, k671, q665, f667, k666, q660, f662, k661, q655, f657, k656, q111, f1105, k112, q106, f108, k107, q101, f103, k102) => (ow Fs0 (s1075) 150 (([147, 145, 144, 140, 139, 132, 131, 130, 129, 128, 127, 126, 125, 124, 123, 122] : List Nat) ++ (([121, 120, 119, 118, 117, 116, 115, 112, 111, 109, 108, 107, 106, 105, 104, 96] : List Nat) ++ (([90, 89, 88, 87, 86, 82, 77, 76, 74, 72, 71, 70, 69, 68, 67, 66] : List Nat) ++ (([65, 64, 63, 62, 61, 60, 59, 58, 57, 56, 55, 54, 53, 52, 51, 50] : List Nat) ++ (([49, 48, 46, 45, 43, 42, 41, 40, 39, 38, 37, 35, 34, 33, 32, 30] : List Nat) ++ (([25, 24, 23, 22, 21, 19, 18, 17, 16, 15, 14, 13, 12, 11, 10, 9] : List Nat) ++ (([8, 7, 6, 5, 4, 2, 1] : List Nat)))))))) [(147, .ref q1071), (140, .ref q1056), (139, .ref q1051), (129, .ref q1031), (82, .int (-1)), (65, .ref q835), (64, .ref q830), (63, .ref q825), (62, .ref q820), (48, .ref q750), (46, .ref q745), (25, .ref q675), (24, .ref q670), (23, .ref q665), (22, .ref q660), (21, .ref q655), (4, .ref q111), (2, .ref q106), (1, .ref q101)] ∧ (∀ j, f1073 j = 0) ∧ (∀ j, f1058 j = 0) ∧ (∀ j, f1053 j = 0) ∧ (∀ j, f1033 j = 0) ∧ (∀ j, f837 j = 0) ∧ (∀ j, f832 j = 0) ∧ (∀ j, f827 j = 0) ∧ (∀ j, f822 j = 0) ∧ (∀ j, f752 j = 0) ∧ (∀ j, f747 j = 0) ∧ (∀ j, f677 j = 0) ∧ (∀ j, f672 j = 0) ∧ (∀ j, f667 j = 0) ∧ (∀ j, f662 j = 0) ∧ (∀ j, f657 j = 0) ∧ (∀ j, f108 j = 0) ∧ (∀ j, f103 j = 0))) (fun (u : List Value × Nat × (Nat → Int32) × ClassId × Nat × (Nat → Int32) × ClassId × Nat × (Nat → Int32) × ClassId × Nat × (Nat → Int32) × ClassId × Nat × (Nat → Int32) × ClassId × Nat × (Nat → Int32) × ClassId × Nat × (Nat → Int32) × ClassId × Nat × (Nat → Int32) × ClassId × Nat × (Nat → Int32) × ClassId × Nat × (Nat → Int32) × ClassId × Nat × (Nat → Int64) × ClassId × Nat × (Nat → Int32) × ClassId × Nat × (Nat → Int32) × ClassId × Nat × (Nat → Int32) × ClassId × Nat × (Nat → Int32) × ClassId × Nat × (Nat → Int64) × ClassId × Nat × (Nat → Int32) × ClassId × Nat × (Nat → Int32) × ClassId) t => match u with | (s1075, q1071, f1073, k1072, q1056, f1058, k1057, q1051, f1053, k1052, q1031, f1033, k1032, q835, f837, k836, q830, f832, k831, q825, f827, k826, q820, f822, k821, q750, f752, k751, q745, f747, k746, q675, f677, k676, q670, f672, k671, q665, f667, k666, q660, f662, k661, q655, f657, k656, q111, f1105, k112, q106, f108, k107, q101, f103, k102) => Wd dC dI [(k1072, .int), (k1057, .byte), (k1052, .byte), (k1032, .boolean), (k836, .int), (k831, .int), (k826, .int), (k821, .int), (k751, .int), (k746, .int), (k676, .long), (k671, .boolean), (k666, .int), (k661, .int), (k656, .int), (k112, .long), (k107, .byte), (k102, .byte)] (va_A [(Ad0, .inr (15, Fs0))] sz) [(Ad0, .inr (15, s1075)), (q1071, .inl (k1072, 1000, .inl f1073)), (q1056, .inl (k1057, 8000, .inl f1058)), (q1051, .inl (k1052, 9000, .inl f1053)), (q1031, .inl (k1032, 240, .inl f1033)), (q835, .inl (k836, 5, .inl f837)), (q830, .inl (k831, 5, .inl f832)), (q825, .inl (k826, 5, .inl f827)), (q820, .inl (k821, 5, .inl f822)), (q750, .inl (k751, 5, .inl f752)), (q745, .inl (k746, 400, .inl f747)), (q675, .inl (k676, 38500, .inr (.inl f677))), (q670, .inl (k671, 400, .inl f672)), (q665, .inl (k666, 400, .inl f667)), (q660, .inl (k661, 400, .inl f662)), (q655, .inl (k656, 400, .inl f657)), (q111, .inl (k112, 29, .inr (.inl f1105))), (q106, .inl (k107, 20, .inl f108)), (q101, .inl (k102, 4000, .inl f103))] t) (va_A [(Ad0, .inr (15, Fs0))] sz))  102 358658 (va_A [(Ad0, .inr (15, Fs0))] sz) := by
  refine Met.ofW (cc := cX12_init) (maxL := 2) (ret := none) (by decide) rfl ?_
  intro p e s m args below meth c s₁ B hml hv
  obtain ⟨rfl, hsz, hP, hK, hD0⟩ := hv
  have hx := B.exec
  have hb := B.bytes
  have hr := B.returns
  have hts := atoms_spec (ws := w_z_X12_init) B.pre
  have hown : s.vm.findClass RX12 = some m.cls := findClass_of_methodNamed B.named
  have hlocks := B.notSynchronized
  have hin : meth.name = "<init>" := (name_of_methodNamed B.named B.method).1
  subst hsz
  have hD := hD0.self (sz := s.heap.size)
  generalize hAe : va_A [(Ad0, .inr (15, Fs0))] s.heap.size = A at hD ⊢
  have hA : ∀ q : Nat, s.heap.size ≤ q → A q := fun q h => by rw [← hAe]; exact Or.inr h
  have hS : va_S A s.heap s.heap [] := va_S.rf
  have hl := lv_entry ([.ref Ad0]) (n := 2) (Nat.le_of_ble_eq_true rfl)
  rw [lg_entry_eq]
  generalize (lg_sl ([.ref Ad0]) ++ List.replicate (2 - (lg_sl ([.ref Ad0])).length) Slot.unset).toArray = ls at hl ⊢
  have hl : lv_has ls 2 [(0, .ref Ad0)] := hl
  have o_Fs0 := ow_0 k_Fs0
  refine lv_aload_n hx hb dX12_init_0 rfl (lv_at hl 0 rfl) ?_
  refine W.objInit hx hb hown (hts (.methodLink RX12 1 objectInit) (by decide +kernel)) (hts (.instanceMethod objectInit) (by decide +kernel)) (hts (.code objectInit ⟨#[0xb1]⟩ 1 none) (by decide +kernel)) rfl (by rw [hml]; exact hl.1) rfl dX12_init_1 (Nat.le_of_ble_eq_true rfl) (Nat.le_of_ble_eq_true rfl) ?_
  refine W.eq (g2 := F0 m 4 ls []) rfl ?_
  refine lv_aload_n hx hb dX12_init_4 rfl (lv_at hl 0 rfl) ?_
  refine lv_sipush (v := 4000) hx hb dX12_init_5 (by decide) ?_
  refine va_newa (atype := .byte) (ty := .byte) (a0 := (4000, .inl (fun _ : Nat => (0 : Int32)))) (N' := 4000) hx hb (hts (.arrayClass .byte) (by decide +kernel)) rfl hK hP hD hS hA (na_B 4000) (by decide) (by decide) (by decide) (Nat.le_of_ble_eq_true rfl) (Nat.le_of_ble_eq_true rfl) dX12_init_8 (fun q101 k102 H hK hP hD hS => ?_)
  have hK : va_K (dC, dI) vwCl [(k102, .byte)] s := hK
  have hP : va_P (dC, dI) vwCl [(Ad0, .inr (15, Fs0)), (q101, .inl (k102, 4000, .inl ((fun _ : Nat => (0 : Int32)))))] H := hP
  have hD : va_D A [(Ad0, .inr (15, Fs0)), (q101, .inl (k102, 4000, .inl ((fun _ : Nat => (0 : Int32)))))] := hD
  have z104 : ∀ j, (fun _ : Nat => (0 : Int32)) j = 0 := fun _ => rfl
  generalize (fun _ : Nat => (0 : Int32)) = f103 at hP hD z104
  refine W.widen (k := 1) (n := 4000) (by omega) (by omega) ?_
  refine va_putF (D := (dC, dI)) (ci := 15) (v := .ref q101) (ty := .array .byte) (C := RX12) (T := TX12) (N := 150) hx hb hts (in_z_X12_init_X12) tyX12 tyX12_ok nmX12 hown hK hP hD hS 0 rfl rfl 1 (by decide) (hts (.fieldLink RX12 7 "HeapWorksModel" "tape" "[B") (by decide +kernel)) (fun _ h9 => h9) rfl hin rfl (by decide +kernel) rfl rfl (by rw [o_Fs0.2.1]; decide) dX12_init_10 (fun H locs hP hD hS => ?_)
  have hP : va_P (dC, dI) vwCl [(Ad0, .inr (15, (Fs0.set 1 (.ref q101)))), (q101, .inl (k102, 4000, .inl f103))] H := hP
  have hD : va_D A [(Ad0, .inr (15, (Fs0.set 1 (.ref q101)))), (q101, .inl (k102, 4000, .inl f103))] := hD
  have o_s105 := ow_set o_Fs0 1 (.ref q101) (by decide) (l' := [(1, .ref q101), (4, .null)]) (w' := [1]) rfl rfl
  generalize (Fs0.set 1 (.ref q101)) = s105 at hP hD o_s105
  refine lv_aload_n hx hb dX12_init_13 rfl (lv_at hl 0 rfl) ?_
  refine lv_bipush (v := 20) hx hb dX12_init_14 (by decide) ?_
  refine va_newa (atype := .byte) (ty := .byte) (a0 := (20, .inl (fun _ : Nat => (0 : Int32)))) (N' := 20) hx hb (hts (.arrayClass .byte) (by decide +kernel)) rfl hK hP hD hS hA (na_B 20) (by decide) (by decide) (by decide) (Nat.le_of_ble_eq_true rfl) (Nat.le_of_ble_eq_true rfl) dX12_init_16 (fun q106 k107 H hK hP hD hS => ?_)
  have hK : va_K (dC, dI) vwCl [(k102, .byte), (k107, .byte)] s := hK
  have hP : va_P (dC, dI) vwCl [(Ad0, .inr (15, s105)), (q101, .inl (k102, 4000, .inl f103)), (q106, .inl (k107, 20, .inl ((fun _ : Nat => (0 : Int32)))))] H := hP
  have hD : va_D A [(Ad0, .inr (15, s105)), (q101, .inl (k102, 4000, .inl f103)), (q106, .inl (k107, 20, .inl ((fun _ : Nat => (0 : Int32)))))] := hD
  have z109 : ∀ j, (fun _ : Nat => (0 : Int32)) j = 0 := fun _ => rfl
  generalize (fun _ : Nat => (0 : Int32)) = f108 at hP hD z109
  refine W.widen (k := 2) (n := 4020) (by omega) (by omega) ?_
  refine va_putF (D := (dC, dI)) (ci := 15) (v := .ref q106) (ty := .array .byte) (C := RX12) (T := TX12) (N := 150) hx hb hts (in_z_X12_init_X12) tyX12 tyX12_ok nmX12 hown hK hP hD hS 0 rfl rfl 2 (by decide) (hts (.fieldLink RX12 13 "HeapWorksModel" "ready" "[B") (by decide +kernel)) (fun _ h9 => h9) rfl hin rfl (by decide +kernel) rfl rfl (by rw [o_s105.2.1]; decide) dX12_init_18 (fun H locs hP hD hS => ?_)
  have hP : va_P (dC, dI) vwCl [(Ad0, .inr (15, (s105.set 2 (.ref q106)))), (q101, .inl (k102, 4000, .inl f103)), (q106, .inl (k107, 20, .inl f108))] H := hP
  have hD : va_D A [(Ad0, .inr (15, (s105.set 2 (.ref q106)))), (q101, .inl (k102, 4000, .inl f103)), (q106, .inl (k107, 20, .inl f108))] := hD
  have o_s110 := ow_set o_s105 2 (.ref q106) (by decide) (l' := [(2, .ref q106), (1, .ref q101), (4, .null)]) (w' := [2, 1]) rfl rfl
  generalize (s105.set 2 (.ref q106)) = s110 at hP hD o_s110
  refine lv_aload_n hx hb dX12_init_21 rfl (lv_at hl 0 rfl) ?_
  refine lv_bipush (v := 29) hx hb dX12_init_22 (by decide) ?_
  refine va_newa (atype := .long) (ty := .long) (a0 := (29, .inr (.inl (fun _ : Nat => (0 : Int64))))) (N' := 29) hx hb (hts (.arrayClass .long) (by decide +kernel)) rfl hK hP hD hS hA (na_J 29) (by decide) (by decide) (by decide) (Nat.le_of_ble_eq_true rfl) (Nat.le_of_ble_eq_true rfl) dX12_init_24 (fun q111 k112 H hK hP hD hS => ?_)
  have hK : va_K (dC, dI) vwCl [(k102, .byte), (k107, .byte), (k112, .long)] s := hK
  have hP : va_P (dC, dI) vwCl [(Ad0, .inr (15, s110)), (q101, .inl (k102, 4000, .inl f103)), (q106, .inl (k107, 20, .inl f108)), (q111, .inl (k112, 29, .inr (.inl ((fun _ : Nat => (0 : Int64))))))] H := hP
  have hD : va_D A [(Ad0, .inr (15, s110)), (q101, .inl (k102, 4000, .inl f103)), (q106, .inl (k107, 20, .inl f108)), (q111, .inl (k112, 29, .inr (.inl ((fun _ : Nat => (0 : Int64))))))] := hD
  have z114 : ∀ j, (fun _ : Nat => (0 : Int64)) j = 0 := fun _ => rfl
  generalize (fun _ : Nat => (0 : Int64)) = f113 at hP hD z114
  refine W.widen (k := 3) (n := 4049) (by omega) (by omega) ?_
  refine lv_dup hx hb dX12_init_26 rfl ?_
  refine lv_iconst (v := 0) hx hb dX12_init_27 (by decide) ?_
  refine lv_ldc2 (v := 6384748) hx hb hown (hts (.constantLong RX12 16 (6384748)) (by decide +kernel)) dX12_init_28 ?_
  refine va_last hx hb hK hP hD hS 3 2 rfl rfl (show vp_in 0 29 from by unfold vp_in; decide) dX12_init_31 (fun H locs hP hD hS => ?_)
  have hP : va_P (dC, dI) vwCl [(Ad0, .inr (15, s110)), (q101, .inl (k102, 4000, .inl f103)), (q106, .inl (k107, 20, .inl f108)), (q111, .inl (k112, 29, .inr (.inl (vp_updL f113 (0 : Int32).toNatClampNeg 6384748))))] H := hP
  have hD : va_D A [(Ad0, .inr (15, s110)), (q101, .inl (k102, 4000, .inl f103)), (q106, .inl (k107, 20, .inl f108)), (q111, .inl (k112, 29, .inr (.inl (vp_updL f113 (0 : Int32).toNatClampNeg 6384748))))] := hD
  have q116 : (vp_updL f113 (0 : Int32).toNatClampNeg 6384748) (0 : Int32).toNatClampNeg = 6384748 := pk_uLs
  generalize vp_updL f113 (0 : Int32).toNatClampNeg 6384748 = f115 at hP hD q116
  refine lv_dup hx hb dX12_init_32 rfl ?_
  refine lv_iconst (v := 1) hx hb dX12_init_33 (by decide) ?_
  refine lv_ldc2 (v := 7305070) hx hb hown (hts (.constantLong RX12 18 (7305070)) (by decide +kernel)) dX12_init_34 ?_
  refine va_last hx hb hK hP hD hS 3 2 rfl rfl (show vp_in 1 29 from by unfold vp_in; decide) dX12_init_37 (fun H locs hP hD hS => ?_)
  have hP : va_P (dC, dI) vwCl [(Ad0, .inr (15, s110)), (q101, .inl (k102, 4000, .inl f103)), (q106, .inl (k107, 20, .inl f108)), (q111, .inl (k112, 29, .inr (.inl (vp_updL f115 (1 : Int32).toNatClampNeg 7305070))))] H := hP
  have hD : va_D A [(Ad0, .inr (15, s110)), (q101, .inl (k102, 4000, .inl f103)), (q106, .inl (k107, 20, .inl f108)), (q111, .inl (k112, 29, .inr (.inl (vp_updL f115 (1 : Int32).toNatClampNeg 7305070))))] := hD
  have q118 : (vp_updL f115 (1 : Int32).toNatClampNeg 7305070) (0 : Int32).toNatClampNeg = 6384748 := (kn_neL (by decide)).trans q116
  have q119 : (vp_updL f115 (1 : Int32).toNatClampNeg 7305070) (1 : Int32).toNatClampNeg = 7305070 := pk_uLs
  generalize vp_updL f115 (1 : Int32).toNatClampNeg 7305070 = f117 at hP hD q118 q119
  refine lv_dup hx hb dX12_init_38 rfl ?_
  refine lv_iconst (v := 2) hx hb dX12_init_39 (by decide) ?_
  refine lv_ldc2 (v := 127991794263923) hx hb hown (hts (.constantLong RX12 20 (127991794263923)) (by decide +kernel)) dX12_init_40 ?_
  refine va_last hx hb hK hP hD hS 3 2 rfl rfl (show vp_in 2 29 from by unfold vp_in; decide) dX12_init_43 (fun H locs hP hD hS => ?_)
  have hP : va_P (dC, dI) vwCl [(Ad0, .inr (15, s110)), (q101, .inl (k102, 4000, .inl f103)), (q106, .inl (k107, 20, .inl f108)), (q111, .inl (k112, 29, .inr (.inl (vp_updL f117 (2 : Int32).toNatClampNeg 127991794263923))))] H := hP
  have hD : va_D A [(Ad0, .inr (15, s110)), (q101, .inl (k102, 4000, .inl f103)), (q106, .inl (k107, 20, .inl f108)), (q111, .inl (k112, 29, .inr (.inl (vp_updL f117 (2 : Int32).toNatClampNeg 127991794263923))))] := hD
  have q121 : (vp_updL f117 (2 : Int32).toNatClampNeg 127991794263923) (0 : Int32).toNatClampNeg = 6384748 := (kn_neL (by decide)).trans q118
  have q122 : (vp_updL f117 (2 : Int32).toNatClampNeg 127991794263923) (1 : Int32).toNatClampNeg = 7305070 := (kn_neL (by decide)).trans q119
  have q123 : (vp_updL f117 (2 : Int32).toNatClampNeg 127991794263923) (2 : Int32).toNatClampNeg = 127991794263923 := pk_uLs
  generalize vp_updL f117 (2 : Int32).toNatClampNeg 127991794263923 = f120 at hP hD q121 q122 q123
  refine lv_dup hx hb dX12_init_44 rfl ?_
  refine lv_iconst (v := 3) hx hb dX12_init_45 (by decide) ?_
  refine lv_ldc2 (v := 512852587109) hx hb hown (hts (.constantLong RX12 22 (512852587109)) (by decide +kernel)) dX12_init_46 ?_
  refine va_last hx hb hK hP hD hS 3 2 rfl rfl (show vp_in 3 29 from by unfold vp_in; decide) dX12_init_49 (fun H locs hP hD hS => ?_)
  have hP : va_P (dC, dI) vwCl [(Ad0, .inr (15, s110)), (q101, .inl (k102, 4000, .inl f103)), (q106, .inl (k107, 20, .inl f108)), (q111, .inl (k112, 29, .inr (.inl (vp_updL f120 (3 : Int32).toNatClampNeg 512852587109))))] H := hP
  have hD : va_D A [(Ad0, .inr (15, s110)), (q101, .inl (k102, 4000, .inl f103)), (q106, .inl (k107, 20, .inl f108)), (q111, .inl (k112, 29, .inr (.inl (vp_updL f120 (3 : Int32).toNatClampNeg 512852587109))))] := hD
  have q125 : (vp_updL f120 (3 : Int32).toNatClampNeg 512852587109) (0 : Int32).toNatClampNeg = 6384748 := (kn_neL (by decide)).trans q121
  have q126 : (vp_updL f120 (3 : Int32).toNatClampNeg 512852587109) (1 : Int32).toNatClampNeg = 7305070 := (kn_neL (by decide)).trans q122
  have q127 : (vp_updL f120 (3 : Int32).toNatClampNeg 512852587109) (2 : Int32).toNatClampNeg = 127991794263923 := (kn_neL (by decide)).trans q123
  have q128 : (vp_updL f120 (3 : Int32).toNatClampNeg 512852587109) (3 : Int32).toNatClampNeg = 512852587109 := pk_uLs
  generalize vp_updL f120 (3 : Int32).toNatClampNeg 512852587109 = f124 at hP hD q125 q126 q127 q128
  refine lv_dup hx hb dX12_init_50 rfl ?_
  refine lv_iconst (v := 4) hx hb dX12_init_51 (by decide) ?_
  refine lv_ldc2 (v := 6776180) hx hb hown (hts (.constantLong RX12 24 (6776180)) (by decide +kernel)) dX12_init_52 ?_
  refine va_last hx hb hK hP hD hS 3 2 rfl rfl (show vp_in 4 29 from by unfold vp_in; decide) dX12_init_55 (fun H locs hP hD hS => ?_)
  have hP : va_P (dC, dI) vwCl [(Ad0, .inr (15, s110)), (q101, .inl (k102, 4000, .inl f103)), (q106, .inl (k107, 20, .inl f108)), (q111, .inl (k112, 29, .inr (.inl (vp_updL f124 (4 : Int32).toNatClampNeg 6776180))))] H := hP
  have hD : va_D A [(Ad0, .inr (15, s110)), (q101, .inl (k102, 4000, .inl f103)), (q106, .inl (k107, 20, .inl f108)), (q111, .inl (k112, 29, .inr (.inl (vp_updL f124 (4 : Int32).toNatClampNeg 6776180))))] := hD
  have q130 : (vp_updL f124 (4 : Int32).toNatClampNeg 6776180) (0 : Int32).toNatClampNeg = 6384748 := (kn_neL (by decide)).trans q125
  have q131 : (vp_updL f124 (4 : Int32).toNatClampNeg 6776180) (1 : Int32).toNatClampNeg = 7305070 := (kn_neL (by decide)).trans q126
  have q132 : (vp_updL f124 (4 : Int32).toNatClampNeg 6776180) (2 : Int32).toNatClampNeg = 127991794263923 := (kn_neL (by decide)).trans q127
  have q133 : (vp_updL f124 (4 : Int32).toNatClampNeg 6776180) (3 : Int32).toNatClampNeg = 512852587109 := (kn_neL (by decide)).trans q128
  have q134 : (vp_updL f124 (4 : Int32).toNatClampNeg 6776180) (4 : Int32).toNatClampNeg = 6776180 := pk_uLs
  generalize vp_updL f124 (4 : Int32).toNatClampNeg 6776180 = f129 at hP hD q130 q131 q132 q133 q134
  refine lv_dup hx hb dX12_init_56 rfl ?_
  refine lv_iconst (v := 5) hx hb dX12_init_57 (by decide) ?_
  refine lv_ldc2 (v := 6385252) hx hb hown (hts (.constantLong RX12 26 (6385252)) (by decide +kernel)) dX12_init_58 ?_
  refine va_last hx hb hK hP hD hS 3 2 rfl rfl (show vp_in 5 29 from by unfold vp_in; decide) dX12_init_61 (fun H locs hP hD hS => ?_)
  have hP : va_P (dC, dI) vwCl [(Ad0, .inr (15, s110)), (q101, .inl (k102, 4000, .inl f103)), (q106, .inl (k107, 20, .inl f108)), (q111, .inl (k112, 29, .inr (.inl (vp_updL f129 (5 : Int32).toNatClampNeg 6385252))))] H := hP
  have hD : va_D A [(Ad0, .inr (15, s110)), (q101, .inl (k102, 4000, .inl f103)), (q106, .inl (k107, 20, .inl f108)), (q111, .inl (k112, 29, .inr (.inl (vp_updL f129 (5 : Int32).toNatClampNeg 6385252))))] := hD
  have q136 : (vp_updL f129 (5 : Int32).toNatClampNeg 6385252) (0 : Int32).toNatClampNeg = 6384748 := (kn_neL (by decide)).trans q130
  have q137 : (vp_updL f129 (5 : Int32).toNatClampNeg 6385252) (1 : Int32).toNatClampNeg = 7305070 := (kn_neL (by decide)).trans q131
  have q138 : (vp_updL f129 (5 : Int32).toNatClampNeg 6385252) (2 : Int32).toNatClampNeg = 127991794263923 := (kn_neL (by decide)).trans q132
  have q139 : (vp_updL f129 (5 : Int32).toNatClampNeg 6385252) (3 : Int32).toNatClampNeg = 512852587109 := (kn_neL (by decide)).trans q133
  have q140 : (vp_updL f129 (5 : Int32).toNatClampNeg 6385252) (4 : Int32).toNatClampNeg = 6776180 := (kn_neL (by decide)).trans q134
  have q141 : (vp_updL f129 (5 : Int32).toNatClampNeg 6385252) (5 : Int32).toNatClampNeg = 6385252 := pk_uLs
  generalize vp_updL f129 (5 : Int32).toNatClampNeg 6385252 = f135 at hP hD q136 q137 q138 q139 q140 q141
  refine lv_dup hx hb dX12_init_62 rfl ?_
  refine lv_bipush (v := 6) hx hb dX12_init_63 (by decide) ?_
  refine lv_ldc2 (v := 28530) hx hb hown (hts (.constantLong RX12 28 (28530)) (by decide +kernel)) dX12_init_65 ?_
  refine va_last hx hb hK hP hD hS 3 2 rfl rfl (show vp_in 6 29 from by unfold vp_in; decide) dX12_init_68 (fun H locs hP hD hS => ?_)
  have hP : va_P (dC, dI) vwCl [(Ad0, .inr (15, s110)), (q101, .inl (k102, 4000, .inl f103)), (q106, .inl (k107, 20, .inl f108)), (q111, .inl (k112, 29, .inr (.inl (vp_updL f135 (6 : Int32).toNatClampNeg 28530))))] H := hP
  have hD : va_D A [(Ad0, .inr (15, s110)), (q101, .inl (k102, 4000, .inl f103)), (q106, .inl (k107, 20, .inl f108)), (q111, .inl (k112, 29, .inr (.inl (vp_updL f135 (6 : Int32).toNatClampNeg 28530))))] := hD
  have q143 : (vp_updL f135 (6 : Int32).toNatClampNeg 28530) (0 : Int32).toNatClampNeg = 6384748 := (kn_neL (by decide)).trans q136
  have q144 : (vp_updL f135 (6 : Int32).toNatClampNeg 28530) (1 : Int32).toNatClampNeg = 7305070 := (kn_neL (by decide)).trans q137
  have q145 : (vp_updL f135 (6 : Int32).toNatClampNeg 28530) (2 : Int32).toNatClampNeg = 127991794263923 := (kn_neL (by decide)).trans q138
  have q146 : (vp_updL f135 (6 : Int32).toNatClampNeg 28530) (3 : Int32).toNatClampNeg = 512852587109 := (kn_neL (by decide)).trans q139
  have q147 : (vp_updL f135 (6 : Int32).toNatClampNeg 28530) (4 : Int32).toNatClampNeg = 6776180 := (kn_neL (by decide)).trans q140
  have q148 : (vp_updL f135 (6 : Int32).toNatClampNeg 28530) (5 : Int32).toNatClampNeg = 6385252 := (kn_neL (by decide)).trans q141
  have q149 : (vp_updL f135 (6 : Int32).toNatClampNeg 28530) (6 : Int32).toNatClampNeg = 28530 := pk_uLs
  generalize vp_updL f135 (6 : Int32).toNatClampNeg 28530 = f142 at hP hD q143 q144 q145 q146 q147 q148 q149
  refine lv_dup hx hb dX12_init_69 rfl ?_
  refine lv_bipush (v := 7) hx hb dX12_init_70 (by decide) ?_
  refine lv_ldc2 (v := 7237492) hx hb hown (hts (.constantLong RX12 30 (7237492)) (by decide +kernel)) dX12_init_72 ?_
  refine va_last hx hb hK hP hD hS 3 2 rfl rfl (show vp_in 7 29 from by unfold vp_in; decide) dX12_init_75 (fun H locs hP hD hS => ?_)
  have hP : va_P (dC, dI) vwCl [(Ad0, .inr (15, s110)), (q101, .inl (k102, 4000, .inl f103)), (q106, .inl (k107, 20, .inl f108)), (q111, .inl (k112, 29, .inr (.inl (vp_updL f142 (7 : Int32).toNatClampNeg 7237492))))] H := hP
  have hD : va_D A [(Ad0, .inr (15, s110)), (q101, .inl (k102, 4000, .inl f103)), (q106, .inl (k107, 20, .inl f108)), (q111, .inl (k112, 29, .inr (.inl (vp_updL f142 (7 : Int32).toNatClampNeg 7237492))))] := hD
  have q151 : (vp_updL f142 (7 : Int32).toNatClampNeg 7237492) (0 : Int32).toNatClampNeg = 6384748 := (kn_neL (by decide)).trans q143
  have q152 : (vp_updL f142 (7 : Int32).toNatClampNeg 7237492) (1 : Int32).toNatClampNeg = 7305070 := (kn_neL (by decide)).trans q144
  have q153 : (vp_updL f142 (7 : Int32).toNatClampNeg 7237492) (2 : Int32).toNatClampNeg = 127991794263923 := (kn_neL (by decide)).trans q145
  have q154 : (vp_updL f142 (7 : Int32).toNatClampNeg 7237492) (3 : Int32).toNatClampNeg = 512852587109 := (kn_neL (by decide)).trans q146
  have q155 : (vp_updL f142 (7 : Int32).toNatClampNeg 7237492) (4 : Int32).toNatClampNeg = 6776180 := (kn_neL (by decide)).trans q147
  have q156 : (vp_updL f142 (7 : Int32).toNatClampNeg 7237492) (5 : Int32).toNatClampNeg = 6385252 := (kn_neL (by decide)).trans q148
  have q157 : (vp_updL f142 (7 : Int32).toNatClampNeg 7237492) (6 : Int32).toNatClampNeg = 28530 := (kn_neL (by decide)).trans q149
  have q158 : (vp_updL f142 (7 : Int32).toNatClampNeg 7237492) (7 : Int32).toNatClampNeg = 7237492 := pk_uLs
  generalize vp_updL f142 (7 : Int32).toNatClampNeg 7237492 = f150 at hP hD q151 q152 q153 q154 q155 q156 q157 q158
  refine lv_dup hx hb dX12_init_76 rfl ?_
  refine lv_bipush (v := 8) hx hb dX12_init_77 (by decide) ?_
  refine lv_ldc2 (v := 1853189228) hx hb hown (hts (.constantLong RX12 32 (1853189228)) (by decide +kernel)) dX12_init_79 ?_
  refine va_last hx hb hK hP hD hS 3 2 rfl rfl (show vp_in 8 29 from by unfold vp_in; decide) dX12_init_82 (fun H locs hP hD hS => ?_)
  have hP : va_P (dC, dI) vwCl [(Ad0, .inr (15, s110)), (q101, .inl (k102, 4000, .inl f103)), (q106, .inl (k107, 20, .inl f108)), (q111, .inl (k112, 29, .inr (.inl (vp_updL f150 (8 : Int32).toNatClampNeg 1853189228))))] H := hP
  have hD : va_D A [(Ad0, .inr (15, s110)), (q101, .inl (k102, 4000, .inl f103)), (q106, .inl (k107, 20, .inl f108)), (q111, .inl (k112, 29, .inr (.inl (vp_updL f150 (8 : Int32).toNatClampNeg 1853189228))))] := hD
  have q160 : (vp_updL f150 (8 : Int32).toNatClampNeg 1853189228) (0 : Int32).toNatClampNeg = 6384748 := (kn_neL (by decide)).trans q151
  have q161 : (vp_updL f150 (8 : Int32).toNatClampNeg 1853189228) (1 : Int32).toNatClampNeg = 7305070 := (kn_neL (by decide)).trans q152
  have q162 : (vp_updL f150 (8 : Int32).toNatClampNeg 1853189228) (2 : Int32).toNatClampNeg = 127991794263923 := (kn_neL (by decide)).trans q153
  have q163 : (vp_updL f150 (8 : Int32).toNatClampNeg 1853189228) (3 : Int32).toNatClampNeg = 512852587109 := (kn_neL (by decide)).trans q154
  have q164 : (vp_updL f150 (8 : Int32).toNatClampNeg 1853189228) (4 : Int32).toNatClampNeg = 6776180 := (kn_neL (by decide)).trans q155
  have q165 : (vp_updL f150 (8 : Int32).toNatClampNeg 1853189228) (5 : Int32).toNatClampNeg = 6385252 := (kn_neL (by decide)).trans q156
  have q166 : (vp_updL f150 (8 : Int32).toNatClampNeg 1853189228) (6 : Int32).toNatClampNeg = 28530 := (kn_neL (by decide)).trans q157
  have q167 : (vp_updL f150 (8 : Int32).toNatClampNeg 1853189228) (7 : Int32).toNatClampNeg = 7237492 := (kn_neL (by decide)).trans q158
  have q168 : (vp_updL f150 (8 : Int32).toNatClampNeg 1853189228) (8 : Int32).toNatClampNeg = 1853189228 := pk_uLs
  generalize vp_updL f150 (8 : Int32).toNatClampNeg 1853189228 = f159 at hP hD q160 q161 q162 q163 q164 q165 q166 q167 q168
  refine lv_dup hx hb dX12_init_83 rfl ?_
  refine lv_bipush (v := 9) hx hb dX12_init_84 (by decide) ?_
  refine lv_ldc2 (v := 1953658213) hx hb hown (hts (.constantLong RX12 34 (1953658213)) (by decide +kernel)) dX12_init_86 ?_
  refine va_last hx hb hK hP hD hS 3 2 rfl rfl (show vp_in 9 29 from by unfold vp_in; decide) dX12_init_89 (fun H locs hP hD hS => ?_)
  have hP : va_P (dC, dI) vwCl [(Ad0, .inr (15, s110)), (q101, .inl (k102, 4000, .inl f103)), (q106, .inl (k107, 20, .inl f108)), (q111, .inl (k112, 29, .inr (.inl (vp_updL f159 (9 : Int32).toNatClampNeg 1953658213))))] H := hP
  have hD : va_D A [(Ad0, .inr (15, s110)), (q101, .inl (k102, 4000, .inl f103)), (q106, .inl (k107, 20, .inl f108)), (q111, .inl (k112, 29, .inr (.inl (vp_updL f159 (9 : Int32).toNatClampNeg 1953658213))))] := hD
  have q170 : (vp_updL f159 (9 : Int32).toNatClampNeg 1953658213) (0 : Int32).toNatClampNeg = 6384748 := (kn_neL (by decide)).trans q160
  have q171 : (vp_updL f159 (9 : Int32).toNatClampNeg 1953658213) (1 : Int32).toNatClampNeg = 7305070 := (kn_neL (by decide)).trans q161
  have q172 : (vp_updL f159 (9 : Int32).toNatClampNeg 1953658213) (2 : Int32).toNatClampNeg = 127991794263923 := (kn_neL (by decide)).trans q162
  have q173 : (vp_updL f159 (9 : Int32).toNatClampNeg 1953658213) (3 : Int32).toNatClampNeg = 512852587109 := (kn_neL (by decide)).trans q163
  have q174 : (vp_updL f159 (9 : Int32).toNatClampNeg 1953658213) (4 : Int32).toNatClampNeg = 6776180 := (kn_neL (by decide)).trans q164
  have q175 : (vp_updL f159 (9 : Int32).toNatClampNeg 1953658213) (5 : Int32).toNatClampNeg = 6385252 := (kn_neL (by decide)).trans q165
  have q176 : (vp_updL f159 (9 : Int32).toNatClampNeg 1953658213) (6 : Int32).toNatClampNeg = 28530 := (kn_neL (by decide)).trans q166
  have q177 : (vp_updL f159 (9 : Int32).toNatClampNeg 1953658213) (7 : Int32).toNatClampNeg = 7237492 := (kn_neL (by decide)).trans q167
  have q178 : (vp_updL f159 (9 : Int32).toNatClampNeg 1953658213) (8 : Int32).toNatClampNeg = 1853189228 := (kn_neL (by decide)).trans q168
  have q179 : (vp_updL f159 (9 : Int32).toNatClampNeg 1953658213) (9 : Int32).toNatClampNeg = 1953658213 := pk_uLs
  generalize vp_updL f159 (9 : Int32).toNatClampNeg 1953658213 = f169 at hP hD q170 q171 q172 q173 q174 q175 q176 q177 q178 q179
  refine lv_dup hx hb dX12_init_90 rfl ?_
  refine lv_bipush (v := 10) hx hb dX12_init_91 (by decide) ?_
  refine lv_ldc2 (v := 439721161573) hx hb hown (hts (.constantLong RX12 36 (439721161573)) (by decide +kernel)) dX12_init_93 ?_
  refine va_last hx hb hK hP hD hS 3 2 rfl rfl (show vp_in 10 29 from by unfold vp_in; decide) dX12_init_96 (fun H locs hP hD hS => ?_)
  have hP : va_P (dC, dI) vwCl [(Ad0, .inr (15, s110)), (q101, .inl (k102, 4000, .inl f103)), (q106, .inl (k107, 20, .inl f108)), (q111, .inl (k112, 29, .inr (.inl (vp_updL f169 (10 : Int32).toNatClampNeg 439721161573))))] H := hP
  have hD : va_D A [(Ad0, .inr (15, s110)), (q101, .inl (k102, 4000, .inl f103)), (q106, .inl (k107, 20, .inl f108)), (q111, .inl (k112, 29, .inr (.inl (vp_updL f169 (10 : Int32).toNatClampNeg 439721161573))))] := hD
  have q181 : (vp_updL f169 (10 : Int32).toNatClampNeg 439721161573) (0 : Int32).toNatClampNeg = 6384748 := (kn_neL (by decide)).trans q170
  have q182 : (vp_updL f169 (10 : Int32).toNatClampNeg 439721161573) (1 : Int32).toNatClampNeg = 7305070 := (kn_neL (by decide)).trans q171
  have q183 : (vp_updL f169 (10 : Int32).toNatClampNeg 439721161573) (2 : Int32).toNatClampNeg = 127991794263923 := (kn_neL (by decide)).trans q172
  have q184 : (vp_updL f169 (10 : Int32).toNatClampNeg 439721161573) (3 : Int32).toNatClampNeg = 512852587109 := (kn_neL (by decide)).trans q173
  have q185 : (vp_updL f169 (10 : Int32).toNatClampNeg 439721161573) (4 : Int32).toNatClampNeg = 6776180 := (kn_neL (by decide)).trans q174
  have q186 : (vp_updL f169 (10 : Int32).toNatClampNeg 439721161573) (5 : Int32).toNatClampNeg = 6385252 := (kn_neL (by decide)).trans q175
  have q187 : (vp_updL f169 (10 : Int32).toNatClampNeg 439721161573) (6 : Int32).toNatClampNeg = 28530 := (kn_neL (by decide)).trans q176
  have q188 : (vp_updL f169 (10 : Int32).toNatClampNeg 439721161573) (7 : Int32).toNatClampNeg = 7237492 := (kn_neL (by decide)).trans q177
  have q189 : (vp_updL f169 (10 : Int32).toNatClampNeg 439721161573) (8 : Int32).toNatClampNeg = 1853189228 := (kn_neL (by decide)).trans q178
  have q190 : (vp_updL f169 (10 : Int32).toNatClampNeg 439721161573) (9 : Int32).toNatClampNeg = 1953658213 := (kn_neL (by decide)).trans q179
  have q191 : (vp_updL f169 (10 : Int32).toNatClampNeg 439721161573) (10 : Int32).toNatClampNeg = 439721161573 := pk_uLs
  generalize vp_updL f169 (10 : Int32).toNatClampNeg 439721161573 = f180 at hP hD q181 q182 q183 q184 q185 q186 q187 q188 q189 q190 q191
  refine lv_dup hx hb dX12_init_97 rfl ?_
  refine lv_bipush (v := 11) hx hb dX12_init_98 (by decide) ?_
  refine lv_ldc2 (v := 26995) hx hb hown (hts (.constantLong RX12 38 (26995)) (by decide +kernel)) dX12_init_100 ?_
  refine va_last hx hb hK hP hD hS 3 2 rfl rfl (show vp_in 11 29 from by unfold vp_in; decide) dX12_init_103 (fun H locs hP hD hS => ?_)
  have hP : va_P (dC, dI) vwCl [(Ad0, .inr (15, s110)), (q101, .inl (k102, 4000, .inl f103)), (q106, .inl (k107, 20, .inl f108)), (q111, .inl (k112, 29, .inr (.inl (vp_updL f180 (11 : Int32).toNatClampNeg 26995))))] H := hP
  have hD : va_D A [(Ad0, .inr (15, s110)), (q101, .inl (k102, 4000, .inl f103)), (q106, .inl (k107, 20, .inl f108)), (q111, .inl (k112, 29, .inr (.inl (vp_updL f180 (11 : Int32).toNatClampNeg 26995))))] := hD
  have q193 : (vp_updL f180 (11 : Int32).toNatClampNeg 26995) (0 : Int32).toNatClampNeg = 6384748 := (kn_neL (by decide)).trans q181
  have q194 : (vp_updL f180 (11 : Int32).toNatClampNeg 26995) (1 : Int32).toNatClampNeg = 7305070 := (kn_neL (by decide)).trans q182
  have q195 : (vp_updL f180 (11 : Int32).toNatClampNeg 26995) (2 : Int32).toNatClampNeg = 127991794263923 := (kn_neL (by decide)).trans q183
  have q196 : (vp_updL f180 (11 : Int32).toNatClampNeg 26995) (3 : Int32).toNatClampNeg = 512852587109 := (kn_neL (by decide)).trans q184
  have q197 : (vp_updL f180 (11 : Int32).toNatClampNeg 26995) (4 : Int32).toNatClampNeg = 6776180 := (kn_neL (by decide)).trans q185
  have q198 : (vp_updL f180 (11 : Int32).toNatClampNeg 26995) (5 : Int32).toNatClampNeg = 6385252 := (kn_neL (by decide)).trans q186
  have q199 : (vp_updL f180 (11 : Int32).toNatClampNeg 26995) (6 : Int32).toNatClampNeg = 28530 := (kn_neL (by decide)).trans q187
  have q200 : (vp_updL f180 (11 : Int32).toNatClampNeg 26995) (7 : Int32).toNatClampNeg = 7237492 := (kn_neL (by decide)).trans q188
  have q201 : (vp_updL f180 (11 : Int32).toNatClampNeg 26995) (8 : Int32).toNatClampNeg = 1853189228 := (kn_neL (by decide)).trans q189
  have q202 : (vp_updL f180 (11 : Int32).toNatClampNeg 26995) (9 : Int32).toNatClampNeg = 1953658213 := (kn_neL (by decide)).trans q190
  have q203 : (vp_updL f180 (11 : Int32).toNatClampNeg 26995) (10 : Int32).toNatClampNeg = 439721161573 := (kn_neL (by decide)).trans q191
  have q204 : (vp_updL f180 (11 : Int32).toNatClampNeg 26995) (11 : Int32).toNatClampNeg = 26995 := pk_uLs
  generalize vp_updL f180 (11 : Int32).toNatClampNeg 26995 = f192 at hP hD q193 q194 q195 q196 q197 q198 q199 q200 q201 q202 q203 q204
  refine lv_dup hx hb dX12_init_104 rfl ?_
  refine lv_bipush (v := 12) hx hb dX12_init_105 (by decide) ?_
  refine lv_ldc2 (v := 26990) hx hb hown (hts (.constantLong RX12 40 (26990)) (by decide +kernel)) dX12_init_107 ?_
  refine va_last hx hb hK hP hD hS 3 2 rfl rfl (show vp_in 12 29 from by unfold vp_in; decide) dX12_init_110 (fun H locs hP hD hS => ?_)
  have hP : va_P (dC, dI) vwCl [(Ad0, .inr (15, s110)), (q101, .inl (k102, 4000, .inl f103)), (q106, .inl (k107, 20, .inl f108)), (q111, .inl (k112, 29, .inr (.inl (vp_updL f192 (12 : Int32).toNatClampNeg 26990))))] H := hP
  have hD : va_D A [(Ad0, .inr (15, s110)), (q101, .inl (k102, 4000, .inl f103)), (q106, .inl (k107, 20, .inl f108)), (q111, .inl (k112, 29, .inr (.inl (vp_updL f192 (12 : Int32).toNatClampNeg 26990))))] := hD
  have q206 : (vp_updL f192 (12 : Int32).toNatClampNeg 26990) (0 : Int32).toNatClampNeg = 6384748 := (kn_neL (by decide)).trans q193
  have q207 : (vp_updL f192 (12 : Int32).toNatClampNeg 26990) (1 : Int32).toNatClampNeg = 7305070 := (kn_neL (by decide)).trans q194
  have q208 : (vp_updL f192 (12 : Int32).toNatClampNeg 26990) (2 : Int32).toNatClampNeg = 127991794263923 := (kn_neL (by decide)).trans q195
  have q209 : (vp_updL f192 (12 : Int32).toNatClampNeg 26990) (3 : Int32).toNatClampNeg = 512852587109 := (kn_neL (by decide)).trans q196
  have q210 : (vp_updL f192 (12 : Int32).toNatClampNeg 26990) (4 : Int32).toNatClampNeg = 6776180 := (kn_neL (by decide)).trans q197
  have q211 : (vp_updL f192 (12 : Int32).toNatClampNeg 26990) (5 : Int32).toNatClampNeg = 6385252 := (kn_neL (by decide)).trans q198
  have q212 : (vp_updL f192 (12 : Int32).toNatClampNeg 26990) (6 : Int32).toNatClampNeg = 28530 := (kn_neL (by decide)).trans q199
  have q213 : (vp_updL f192 (12 : Int32).toNatClampNeg 26990) (7 : Int32).toNatClampNeg = 7237492 := (kn_neL (by decide)).trans q200
  have q214 : (vp_updL f192 (12 : Int32).toNatClampNeg 26990) (8 : Int32).toNatClampNeg = 1853189228 := (kn_neL (by decide)).trans q201
  have q215 : (vp_updL f192 (12 : Int32).toNatClampNeg 26990) (9 : Int32).toNatClampNeg = 1953658213 := (kn_neL (by decide)).trans q202
  have q216 : (vp_updL f192 (12 : Int32).toNatClampNeg 26990) (10 : Int32).toNatClampNeg = 439721161573 := (kn_neL (by decide)).trans q203
  have q217 : (vp_updL f192 (12 : Int32).toNatClampNeg 26990) (11 : Int32).toNatClampNeg = 26995 := (kn_neL (by decide)).trans q204
  have q218 : (vp_updL f192 (12 : Int32).toNatClampNeg 26990) (12 : Int32).toNatClampNeg = 26990 := pk_uLs
  generalize vp_updL f192 (12 : Int32).toNatClampNeg 26990 = f205 at hP hD q206 q207 q208 q209 q210 q211 q212 q213 q214 q215 q216 q217 q218
  refine lv_dup hx hb dX12_init_111 rfl ?_
  refine lv_bipush (v := 13) hx hb dX12_init_112 (by decide) ?_
  refine lv_ldc2 (v := 427071729268) hx hb hown (hts (.constantLong RX12 42 (427071729268)) (by decide +kernel)) dX12_init_114 ?_
  refine va_last hx hb hK hP hD hS 3 2 rfl rfl (show vp_in 13 29 from by unfold vp_in; decide) dX12_init_117 (fun H locs hP hD hS => ?_)
  have hP : va_P (dC, dI) vwCl [(Ad0, .inr (15, s110)), (q101, .inl (k102, 4000, .inl f103)), (q106, .inl (k107, 20, .inl f108)), (q111, .inl (k112, 29, .inr (.inl (vp_updL f205 (13 : Int32).toNatClampNeg 427071729268))))] H := hP
  have hD : va_D A [(Ad0, .inr (15, s110)), (q101, .inl (k102, 4000, .inl f103)), (q106, .inl (k107, 20, .inl f108)), (q111, .inl (k112, 29, .inr (.inl (vp_updL f205 (13 : Int32).toNatClampNeg 427071729268))))] := hD
  have q220 : (vp_updL f205 (13 : Int32).toNatClampNeg 427071729268) (0 : Int32).toNatClampNeg = 6384748 := (kn_neL (by decide)).trans q206
  have q221 : (vp_updL f205 (13 : Int32).toNatClampNeg 427071729268) (1 : Int32).toNatClampNeg = 7305070 := (kn_neL (by decide)).trans q207
  have q222 : (vp_updL f205 (13 : Int32).toNatClampNeg 427071729268) (2 : Int32).toNatClampNeg = 127991794263923 := (kn_neL (by decide)).trans q208
  have q223 : (vp_updL f205 (13 : Int32).toNatClampNeg 427071729268) (3 : Int32).toNatClampNeg = 512852587109 := (kn_neL (by decide)).trans q209
  have q224 : (vp_updL f205 (13 : Int32).toNatClampNeg 427071729268) (4 : Int32).toNatClampNeg = 6776180 := (kn_neL (by decide)).trans q210
  have q225 : (vp_updL f205 (13 : Int32).toNatClampNeg 427071729268) (5 : Int32).toNatClampNeg = 6385252 := (kn_neL (by decide)).trans q211
  have q226 : (vp_updL f205 (13 : Int32).toNatClampNeg 427071729268) (6 : Int32).toNatClampNeg = 28530 := (kn_neL (by decide)).trans q212
  have q227 : (vp_updL f205 (13 : Int32).toNatClampNeg 427071729268) (7 : Int32).toNatClampNeg = 7237492 := (kn_neL (by decide)).trans q213
  have q228 : (vp_updL f205 (13 : Int32).toNatClampNeg 427071729268) (8 : Int32).toNatClampNeg = 1853189228 := (kn_neL (by decide)).trans q214
  have q229 : (vp_updL f205 (13 : Int32).toNatClampNeg 427071729268) (9 : Int32).toNatClampNeg = 1953658213 := (kn_neL (by decide)).trans q215
  have q230 : (vp_updL f205 (13 : Int32).toNatClampNeg 427071729268) (10 : Int32).toNatClampNeg = 439721161573 := (kn_neL (by decide)).trans q216
  have q231 : (vp_updL f205 (13 : Int32).toNatClampNeg 427071729268) (11 : Int32).toNatClampNeg = 26995 := (kn_neL (by decide)).trans q217
  have q232 : (vp_updL f205 (13 : Int32).toNatClampNeg 427071729268) (12 : Int32).toNatClampNeg = 26990 := (kn_neL (by decide)).trans q218
  have q233 : (vp_updL f205 (13 : Int32).toNatClampNeg 427071729268) (13 : Int32).toNatClampNeg = 427071729268 := pk_uLs
  generalize vp_updL f205 (13 : Int32).toNatClampNeg 427071729268 = f219 at hP hD q220 q221 q222 q223 q224 q225 q226 q227 q228 q229 q230 q231 q232 q233
  refine lv_dup hx hb dX12_init_118 rfl ?_
  refine lv_bipush (v := 14) hx hb dX12_init_119 (by decide) ?_
  refine lv_ldc2 (v := 7566701) hx hb hown (hts (.constantLong RX12 44 (7566701)) (by decide +kernel)) dX12_init_121 ?_
  refine va_last hx hb hK hP hD hS 3 2 rfl rfl (show vp_in 14 29 from by unfold vp_in; decide) dX12_init_124 (fun H locs hP hD hS => ?_)
  have hP : va_P (dC, dI) vwCl [(Ad0, .inr (15, s110)), (q101, .inl (k102, 4000, .inl f103)), (q106, .inl (k107, 20, .inl f108)), (q111, .inl (k112, 29, .inr (.inl (vp_updL f219 (14 : Int32).toNatClampNeg 7566701))))] H := hP
  have hD : va_D A [(Ad0, .inr (15, s110)), (q101, .inl (k102, 4000, .inl f103)), (q106, .inl (k107, 20, .inl f108)), (q111, .inl (k112, 29, .inr (.inl (vp_updL f219 (14 : Int32).toNatClampNeg 7566701))))] := hD
  have q235 : (vp_updL f219 (14 : Int32).toNatClampNeg 7566701) (0 : Int32).toNatClampNeg = 6384748 := (kn_neL (by decide)).trans q220
  have q236 : (vp_updL f219 (14 : Int32).toNatClampNeg 7566701) (1 : Int32).toNatClampNeg = 7305070 := (kn_neL (by decide)).trans q221
  have q237 : (vp_updL f219 (14 : Int32).toNatClampNeg 7566701) (2 : Int32).toNatClampNeg = 127991794263923 := (kn_neL (by decide)).trans q222
  have q238 : (vp_updL f219 (14 : Int32).toNatClampNeg 7566701) (3 : Int32).toNatClampNeg = 512852587109 := (kn_neL (by decide)).trans q223
  have q239 : (vp_updL f219 (14 : Int32).toNatClampNeg 7566701) (4 : Int32).toNatClampNeg = 6776180 := (kn_neL (by decide)).trans q224
  have q240 : (vp_updL f219 (14 : Int32).toNatClampNeg 7566701) (5 : Int32).toNatClampNeg = 6385252 := (kn_neL (by decide)).trans q225
  have q241 : (vp_updL f219 (14 : Int32).toNatClampNeg 7566701) (6 : Int32).toNatClampNeg = 28530 := (kn_neL (by decide)).trans q226
  have q242 : (vp_updL f219 (14 : Int32).toNatClampNeg 7566701) (7 : Int32).toNatClampNeg = 7237492 := (kn_neL (by decide)).trans q227
  have q243 : (vp_updL f219 (14 : Int32).toNatClampNeg 7566701) (8 : Int32).toNatClampNeg = 1853189228 := (kn_neL (by decide)).trans q228
  have q244 : (vp_updL f219 (14 : Int32).toNatClampNeg 7566701) (9 : Int32).toNatClampNeg = 1953658213 := (kn_neL (by decide)).trans q229
  have q245 : (vp_updL f219 (14 : Int32).toNatClampNeg 7566701) (10 : Int32).toNatClampNeg = 439721161573 := (kn_neL (by decide)).trans q230
  have q246 : (vp_updL f219 (14 : Int32).toNatClampNeg 7566701) (11 : Int32).toNatClampNeg = 26995 := (kn_neL (by decide)).trans q231
  have q247 : (vp_updL f219 (14 : Int32).toNatClampNeg 7566701) (12 : Int32).toNatClampNeg = 26990 := (kn_neL (by decide)).trans q232
  have q248 : (vp_updL f219 (14 : Int32).toNatClampNeg 7566701) (13 : Int32).toNatClampNeg = 427071729268 := (kn_neL (by decide)).trans q233
  have q249 : (vp_updL f219 (14 : Int32).toNatClampNeg 7566701) (14 : Int32).toNatClampNeg = 7566701 := pk_uLs
  generalize vp_updL f219 (14 : Int32).toNatClampNeg 7566701 = f234 at hP hD q235 q236 q237 q238 q239 q240 q241 q242 q243 q244 q245 q246 q247 q248 q249
  refine lv_dup hx hb dX12_init_125 rfl ?_
  refine lv_bipush (v := 15) hx hb dX12_init_126 (by decide) ?_
  refine lv_ldc2 (v := 1836020596) hx hb hown (hts (.constantLong RX12 46 (1836020596)) (by decide +kernel)) dX12_init_128 ?_
  refine va_last hx hb hK hP hD hS 3 2 rfl rfl (show vp_in 15 29 from by unfold vp_in; decide) dX12_init_131 (fun H locs hP hD hS => ?_)
  have hP : va_P (dC, dI) vwCl [(Ad0, .inr (15, s110)), (q101, .inl (k102, 4000, .inl f103)), (q106, .inl (k107, 20, .inl f108)), (q111, .inl (k112, 29, .inr (.inl (vp_updL f234 (15 : Int32).toNatClampNeg 1836020596))))] H := hP
  have hD : va_D A [(Ad0, .inr (15, s110)), (q101, .inl (k102, 4000, .inl f103)), (q106, .inl (k107, 20, .inl f108)), (q111, .inl (k112, 29, .inr (.inl (vp_updL f234 (15 : Int32).toNatClampNeg 1836020596))))] := hD
  have q251 : (vp_updL f234 (15 : Int32).toNatClampNeg 1836020596) (0 : Int32).toNatClampNeg = 6384748 := (kn_neL (by decide)).trans q235
  have q252 : (vp_updL f234 (15 : Int32).toNatClampNeg 1836020596) (1 : Int32).toNatClampNeg = 7305070 := (kn_neL (by decide)).trans q236
  have q253 : (vp_updL f234 (15 : Int32).toNatClampNeg 1836020596) (2 : Int32).toNatClampNeg = 127991794263923 := (kn_neL (by decide)).trans q237
  have q254 : (vp_updL f234 (15 : Int32).toNatClampNeg 1836020596) (3 : Int32).toNatClampNeg = 512852587109 := (kn_neL (by decide)).trans q238
  have q255 : (vp_updL f234 (15 : Int32).toNatClampNeg 1836020596) (4 : Int32).toNatClampNeg = 6776180 := (kn_neL (by decide)).trans q239
  have q256 : (vp_updL f234 (15 : Int32).toNatClampNeg 1836020596) (5 : Int32).toNatClampNeg = 6385252 := (kn_neL (by decide)).trans q240
  have q257 : (vp_updL f234 (15 : Int32).toNatClampNeg 1836020596) (6 : Int32).toNatClampNeg = 28530 := (kn_neL (by decide)).trans q241
  have q258 : (vp_updL f234 (15 : Int32).toNatClampNeg 1836020596) (7 : Int32).toNatClampNeg = 7237492 := (kn_neL (by decide)).trans q242
  have q259 : (vp_updL f234 (15 : Int32).toNatClampNeg 1836020596) (8 : Int32).toNatClampNeg = 1853189228 := (kn_neL (by decide)).trans q243
  have q260 : (vp_updL f234 (15 : Int32).toNatClampNeg 1836020596) (9 : Int32).toNatClampNeg = 1953658213 := (kn_neL (by decide)).trans q244
  have q261 : (vp_updL f234 (15 : Int32).toNatClampNeg 1836020596) (10 : Int32).toNatClampNeg = 439721161573 := (kn_neL (by decide)).trans q245
  have q262 : (vp_updL f234 (15 : Int32).toNatClampNeg 1836020596) (11 : Int32).toNatClampNeg = 26995 := (kn_neL (by decide)).trans q246
  have q263 : (vp_updL f234 (15 : Int32).toNatClampNeg 1836020596) (12 : Int32).toNatClampNeg = 26990 := (kn_neL (by decide)).trans q247
  have q264 : (vp_updL f234 (15 : Int32).toNatClampNeg 1836020596) (13 : Int32).toNatClampNeg = 427071729268 := (kn_neL (by decide)).trans q248
  have q265 : (vp_updL f234 (15 : Int32).toNatClampNeg 1836020596) (14 : Int32).toNatClampNeg = 7566701 := (kn_neL (by decide)).trans q249
  have q266 : (vp_updL f234 (15 : Int32).toNatClampNeg 1836020596) (15 : Int32).toNatClampNeg = 1836020596 := pk_uLs
  generalize vp_updL f234 (15 : Int32).toNatClampNeg 1836020596 = f250 at hP hD q251 q252 q253 q254 q255 q256 q257 q258 q259 q260 q261 q262 q263 q264 q265 q266
  refine lv_dup hx hb dX12_init_132 rfl ?_
  refine lv_bipush (v := 16) hx hb dX12_init_133 (by decide) ?_
  refine lv_ldc2 (v := 465557353332) hx hb hown (hts (.constantLong RX12 48 (465557353332)) (by decide +kernel)) dX12_init_135 ?_
  refine va_last hx hb hK hP hD hS 3 2 rfl rfl (show vp_in 16 29 from by unfold vp_in; decide) dX12_init_138 (fun H locs hP hD hS => ?_)
  have hP : va_P (dC, dI) vwCl [(Ad0, .inr (15, s110)), (q101, .inl (k102, 4000, .inl f103)), (q106, .inl (k107, 20, .inl f108)), (q111, .inl (k112, 29, .inr (.inl (vp_updL f250 (16 : Int32).toNatClampNeg 465557353332))))] H := hP
  have hD : va_D A [(Ad0, .inr (15, s110)), (q101, .inl (k102, 4000, .inl f103)), (q106, .inl (k107, 20, .inl f108)), (q111, .inl (k112, 29, .inr (.inl (vp_updL f250 (16 : Int32).toNatClampNeg 465557353332))))] := hD
  have q268 : (vp_updL f250 (16 : Int32).toNatClampNeg 465557353332) (0 : Int32).toNatClampNeg = 6384748 := (kn_neL (by decide)).trans q251
  have q269 : (vp_updL f250 (16 : Int32).toNatClampNeg 465557353332) (1 : Int32).toNatClampNeg = 7305070 := (kn_neL (by decide)).trans q252
  have q270 : (vp_updL f250 (16 : Int32).toNatClampNeg 465557353332) (2 : Int32).toNatClampNeg = 127991794263923 := (kn_neL (by decide)).trans q253
  have q271 : (vp_updL f250 (16 : Int32).toNatClampNeg 465557353332) (3 : Int32).toNatClampNeg = 512852587109 := (kn_neL (by decide)).trans q254
  have q272 : (vp_updL f250 (16 : Int32).toNatClampNeg 465557353332) (4 : Int32).toNatClampNeg = 6776180 := (kn_neL (by decide)).trans q255
  have q273 : (vp_updL f250 (16 : Int32).toNatClampNeg 465557353332) (5 : Int32).toNatClampNeg = 6385252 := (kn_neL (by decide)).trans q256
  have q274 : (vp_updL f250 (16 : Int32).toNatClampNeg 465557353332) (6 : Int32).toNatClampNeg = 28530 := (kn_neL (by decide)).trans q257
  have q275 : (vp_updL f250 (16 : Int32).toNatClampNeg 465557353332) (7 : Int32).toNatClampNeg = 7237492 := (kn_neL (by decide)).trans q258
  have q276 : (vp_updL f250 (16 : Int32).toNatClampNeg 465557353332) (8 : Int32).toNatClampNeg = 1853189228 := (kn_neL (by decide)).trans q259
  have q277 : (vp_updL f250 (16 : Int32).toNatClampNeg 465557353332) (9 : Int32).toNatClampNeg = 1953658213 := (kn_neL (by decide)).trans q260
  have q278 : (vp_updL f250 (16 : Int32).toNatClampNeg 465557353332) (10 : Int32).toNatClampNeg = 439721161573 := (kn_neL (by decide)).trans q261
  have q279 : (vp_updL f250 (16 : Int32).toNatClampNeg 465557353332) (11 : Int32).toNatClampNeg = 26995 := (kn_neL (by decide)).trans q262
  have q280 : (vp_updL f250 (16 : Int32).toNatClampNeg 465557353332) (12 : Int32).toNatClampNeg = 26990 := (kn_neL (by decide)).trans q263
  have q281 : (vp_updL f250 (16 : Int32).toNatClampNeg 465557353332) (13 : Int32).toNatClampNeg = 427071729268 := (kn_neL (by decide)).trans q264
  have q282 : (vp_updL f250 (16 : Int32).toNatClampNeg 465557353332) (14 : Int32).toNatClampNeg = 7566701 := (kn_neL (by decide)).trans q265
  have q283 : (vp_updL f250 (16 : Int32).toNatClampNeg 465557353332) (15 : Int32).toNatClampNeg = 1836020596 := (kn_neL (by decide)).trans q266
  have q284 : (vp_updL f250 (16 : Int32).toNatClampNeg 465557353332) (16 : Int32).toNatClampNeg = 465557353332 := pk_uLs
  generalize vp_updL f250 (16 : Int32).toNatClampNeg 465557353332 = f267 at hP hD q268 q269 q270 q271 q272 q273 q274 q275 q276 q277 q278 q279 q280 q281 q282 q283 q284
  refine lv_dup hx hb dX12_init_139 rfl ?_
  refine lv_bipush (v := 17) hx hb dX12_init_140 (by decide) ?_
  refine lv_ldc2 (v := 1936682341) hx hb hown (hts (.constantLong RX12 50 (1936682341)) (by decide +kernel)) dX12_init_142 ?_
  refine va_last hx hb hK hP hD hS 3 2 rfl rfl (show vp_in 17 29 from by unfold vp_in; decide) dX12_init_145 (fun H locs hP hD hS => ?_)
  have hP : va_P (dC, dI) vwCl [(Ad0, .inr (15, s110)), (q101, .inl (k102, 4000, .inl f103)), (q106, .inl (k107, 20, .inl f108)), (q111, .inl (k112, 29, .inr (.inl (vp_updL f267 (17 : Int32).toNatClampNeg 1936682341))))] H := hP
  have hD : va_D A [(Ad0, .inr (15, s110)), (q101, .inl (k102, 4000, .inl f103)), (q106, .inl (k107, 20, .inl f108)), (q111, .inl (k112, 29, .inr (.inl (vp_updL f267 (17 : Int32).toNatClampNeg 1936682341))))] := hD
  have q286 : (vp_updL f267 (17 : Int32).toNatClampNeg 1936682341) (0 : Int32).toNatClampNeg = 6384748 := (kn_neL (by decide)).trans q268
  have q287 : (vp_updL f267 (17 : Int32).toNatClampNeg 1936682341) (1 : Int32).toNatClampNeg = 7305070 := (kn_neL (by decide)).trans q269
  have q288 : (vp_updL f267 (17 : Int32).toNatClampNeg 1936682341) (2 : Int32).toNatClampNeg = 127991794263923 := (kn_neL (by decide)).trans q270
  have q289 : (vp_updL f267 (17 : Int32).toNatClampNeg 1936682341) (3 : Int32).toNatClampNeg = 512852587109 := (kn_neL (by decide)).trans q271
  have q290 : (vp_updL f267 (17 : Int32).toNatClampNeg 1936682341) (4 : Int32).toNatClampNeg = 6776180 := (kn_neL (by decide)).trans q272
  have q291 : (vp_updL f267 (17 : Int32).toNatClampNeg 1936682341) (5 : Int32).toNatClampNeg = 6385252 := (kn_neL (by decide)).trans q273
  have q292 : (vp_updL f267 (17 : Int32).toNatClampNeg 1936682341) (6 : Int32).toNatClampNeg = 28530 := (kn_neL (by decide)).trans q274
  have q293 : (vp_updL f267 (17 : Int32).toNatClampNeg 1936682341) (7 : Int32).toNatClampNeg = 7237492 := (kn_neL (by decide)).trans q275
  have q294 : (vp_updL f267 (17 : Int32).toNatClampNeg 1936682341) (8 : Int32).toNatClampNeg = 1853189228 := (kn_neL (by decide)).trans q276
  have q295 : (vp_updL f267 (17 : Int32).toNatClampNeg 1936682341) (9 : Int32).toNatClampNeg = 1953658213 := (kn_neL (by decide)).trans q277
  have q296 : (vp_updL f267 (17 : Int32).toNatClampNeg 1936682341) (10 : Int32).toNatClampNeg = 439721161573 := (kn_neL (by decide)).trans q278
  have q297 : (vp_updL f267 (17 : Int32).toNatClampNeg 1936682341) (11 : Int32).toNatClampNeg = 26995 := (kn_neL (by decide)).trans q279
  have q298 : (vp_updL f267 (17 : Int32).toNatClampNeg 1936682341) (12 : Int32).toNatClampNeg = 26990 := (kn_neL (by decide)).trans q280
  have q299 : (vp_updL f267 (17 : Int32).toNatClampNeg 1936682341) (13 : Int32).toNatClampNeg = 427071729268 := (kn_neL (by decide)).trans q281
  have q300 : (vp_updL f267 (17 : Int32).toNatClampNeg 1936682341) (14 : Int32).toNatClampNeg = 7566701 := (kn_neL (by decide)).trans q282
  have q301 : (vp_updL f267 (17 : Int32).toNatClampNeg 1936682341) (15 : Int32).toNatClampNeg = 1836020596 := (kn_neL (by decide)).trans q283
  have q302 : (vp_updL f267 (17 : Int32).toNatClampNeg 1936682341) (16 : Int32).toNatClampNeg = 465557353332 := (kn_neL (by decide)).trans q284
  have q303 : (vp_updL f267 (17 : Int32).toNatClampNeg 1936682341) (17 : Int32).toNatClampNeg = 1936682341 := pk_uLs
  generalize vp_updL f267 (17 : Int32).toNatClampNeg 1936682341 = f285 at hP hD q286 q287 q288 q289 q290 q291 q292 q293 q294 q295 q296 q297 q298 q299 q300 q301 q302 q303
  refine lv_dup hx hb dX12_init_146 rfl ?_
  refine lv_bipush (v := 18) hx hb dX12_init_147 (by decide) ?_
  refine lv_ldc2 (v := 1700881256) hx hb hown (hts (.constantLong RX12 52 (1700881256)) (by decide +kernel)) dX12_init_149 ?_
  refine va_last hx hb hK hP hD hS 3 2 rfl rfl (show vp_in 18 29 from by unfold vp_in; decide) dX12_init_152 (fun H locs hP hD hS => ?_)
  have hP : va_P (dC, dI) vwCl [(Ad0, .inr (15, s110)), (q101, .inl (k102, 4000, .inl f103)), (q106, .inl (k107, 20, .inl f108)), (q111, .inl (k112, 29, .inr (.inl (vp_updL f285 (18 : Int32).toNatClampNeg 1700881256))))] H := hP
  have hD : va_D A [(Ad0, .inr (15, s110)), (q101, .inl (k102, 4000, .inl f103)), (q106, .inl (k107, 20, .inl f108)), (q111, .inl (k112, 29, .inr (.inl (vp_updL f285 (18 : Int32).toNatClampNeg 1700881256))))] := hD
  have q305 : (vp_updL f285 (18 : Int32).toNatClampNeg 1700881256) (0 : Int32).toNatClampNeg = 6384748 := (kn_neL (by decide)).trans q286
  have q306 : (vp_updL f285 (18 : Int32).toNatClampNeg 1700881256) (1 : Int32).toNatClampNeg = 7305070 := (kn_neL (by decide)).trans q287
  have q307 : (vp_updL f285 (18 : Int32).toNatClampNeg 1700881256) (2 : Int32).toNatClampNeg = 127991794263923 := (kn_neL (by decide)).trans q288
  have q308 : (vp_updL f285 (18 : Int32).toNatClampNeg 1700881256) (3 : Int32).toNatClampNeg = 512852587109 := (kn_neL (by decide)).trans q289
  have q309 : (vp_updL f285 (18 : Int32).toNatClampNeg 1700881256) (4 : Int32).toNatClampNeg = 6776180 := (kn_neL (by decide)).trans q290
  have q310 : (vp_updL f285 (18 : Int32).toNatClampNeg 1700881256) (5 : Int32).toNatClampNeg = 6385252 := (kn_neL (by decide)).trans q291
  have q311 : (vp_updL f285 (18 : Int32).toNatClampNeg 1700881256) (6 : Int32).toNatClampNeg = 28530 := (kn_neL (by decide)).trans q292
  have q312 : (vp_updL f285 (18 : Int32).toNatClampNeg 1700881256) (7 : Int32).toNatClampNeg = 7237492 := (kn_neL (by decide)).trans q293
  have q313 : (vp_updL f285 (18 : Int32).toNatClampNeg 1700881256) (8 : Int32).toNatClampNeg = 1853189228 := (kn_neL (by decide)).trans q294
  have q314 : (vp_updL f285 (18 : Int32).toNatClampNeg 1700881256) (9 : Int32).toNatClampNeg = 1953658213 := (kn_neL (by decide)).trans q295
  have q315 : (vp_updL f285 (18 : Int32).toNatClampNeg 1700881256) (10 : Int32).toNatClampNeg = 439721161573 := (kn_neL (by decide)).trans q296
  have q316 : (vp_updL f285 (18 : Int32).toNatClampNeg 1700881256) (11 : Int32).toNatClampNeg = 26995 := (kn_neL (by decide)).trans q297
  have q317 : (vp_updL f285 (18 : Int32).toNatClampNeg 1700881256) (12 : Int32).toNatClampNeg = 26990 := (kn_neL (by decide)).trans q298
  have q318 : (vp_updL f285 (18 : Int32).toNatClampNeg 1700881256) (13 : Int32).toNatClampNeg = 427071729268 := (kn_neL (by decide)).trans q299
  have q319 : (vp_updL f285 (18 : Int32).toNatClampNeg 1700881256) (14 : Int32).toNatClampNeg = 7566701 := (kn_neL (by decide)).trans q300
  have q320 : (vp_updL f285 (18 : Int32).toNatClampNeg 1700881256) (15 : Int32).toNatClampNeg = 1836020596 := (kn_neL (by decide)).trans q301
  have q321 : (vp_updL f285 (18 : Int32).toNatClampNeg 1700881256) (16 : Int32).toNatClampNeg = 465557353332 := (kn_neL (by decide)).trans q302
  have q322 : (vp_updL f285 (18 : Int32).toNatClampNeg 1700881256) (17 : Int32).toNatClampNeg = 1936682341 := (kn_neL (by decide)).trans q303
  have q323 : (vp_updL f285 (18 : Int32).toNatClampNeg 1700881256) (18 : Int32).toNatClampNeg = 1700881256 := pk_uLs
  generalize vp_updL f285 (18 : Int32).toNatClampNeg 1700881256 = f304 at hP hD q305 q306 q307 q308 q309 q310 q311 q312 q313 q314 q315 q316 q317 q318 q319 q320 q321 q322 q323
  refine lv_dup hx hb dX12_init_153 rfl ?_
  refine lv_bipush (v := 19) hx hb dX12_init_154 (by decide) ?_
  refine lv_ldc2 (v := 1936292453) hx hb hown (hts (.constantLong RX12 54 (1936292453)) (by decide +kernel)) dX12_init_156 ?_
  refine va_last hx hb hK hP hD hS 3 2 rfl rfl (show vp_in 19 29 from by unfold vp_in; decide) dX12_init_159 (fun H locs hP hD hS => ?_)
  have hP : va_P (dC, dI) vwCl [(Ad0, .inr (15, s110)), (q101, .inl (k102, 4000, .inl f103)), (q106, .inl (k107, 20, .inl f108)), (q111, .inl (k112, 29, .inr (.inl (vp_updL f304 (19 : Int32).toNatClampNeg 1936292453))))] H := hP
  have hD : va_D A [(Ad0, .inr (15, s110)), (q101, .inl (k102, 4000, .inl f103)), (q106, .inl (k107, 20, .inl f108)), (q111, .inl (k112, 29, .inr (.inl (vp_updL f304 (19 : Int32).toNatClampNeg 1936292453))))] := hD
  have q325 : (vp_updL f304 (19 : Int32).toNatClampNeg 1936292453) (0 : Int32).toNatClampNeg = 6384748 := (kn_neL (by decide)).trans q305
  have q326 : (vp_updL f304 (19 : Int32).toNatClampNeg 1936292453) (1 : Int32).toNatClampNeg = 7305070 := (kn_neL (by decide)).trans q306
  have q327 : (vp_updL f304 (19 : Int32).toNatClampNeg 1936292453) (2 : Int32).toNatClampNeg = 127991794263923 := (kn_neL (by decide)).trans q307
  have q328 : (vp_updL f304 (19 : Int32).toNatClampNeg 1936292453) (3 : Int32).toNatClampNeg = 512852587109 := (kn_neL (by decide)).trans q308
  have q329 : (vp_updL f304 (19 : Int32).toNatClampNeg 1936292453) (4 : Int32).toNatClampNeg = 6776180 := (kn_neL (by decide)).trans q309
  have q330 : (vp_updL f304 (19 : Int32).toNatClampNeg 1936292453) (5 : Int32).toNatClampNeg = 6385252 := (kn_neL (by decide)).trans q310
  have q331 : (vp_updL f304 (19 : Int32).toNatClampNeg 1936292453) (6 : Int32).toNatClampNeg = 28530 := (kn_neL (by decide)).trans q311
  have q332 : (vp_updL f304 (19 : Int32).toNatClampNeg 1936292453) (7 : Int32).toNatClampNeg = 7237492 := (kn_neL (by decide)).trans q312
  have q333 : (vp_updL f304 (19 : Int32).toNatClampNeg 1936292453) (8 : Int32).toNatClampNeg = 1853189228 := (kn_neL (by decide)).trans q313
  have q334 : (vp_updL f304 (19 : Int32).toNatClampNeg 1936292453) (9 : Int32).toNatClampNeg = 1953658213 := (kn_neL (by decide)).trans q314
  have q335 : (vp_updL f304 (19 : Int32).toNatClampNeg 1936292453) (10 : Int32).toNatClampNeg = 439721161573 := (kn_neL (by decide)).trans q315
  have q336 : (vp_updL f304 (19 : Int32).toNatClampNeg 1936292453) (11 : Int32).toNatClampNeg = 26995 := (kn_neL (by decide)).trans q316
  have q337 : (vp_updL f304 (19 : Int32).toNatClampNeg 1936292453) (12 : Int32).toNatClampNeg = 26990 := (kn_neL (by decide)).trans q317
  have q338 : (vp_updL f304 (19 : Int32).toNatClampNeg 1936292453) (13 : Int32).toNatClampNeg = 427071729268 := (kn_neL (by decide)).trans q318
  have q339 : (vp_updL f304 (19 : Int32).toNatClampNeg 1936292453) (14 : Int32).toNatClampNeg = 7566701 := (kn_neL (by decide)).trans q319
  have q340 : (vp_updL f304 (19 : Int32).toNatClampNeg 1936292453) (15 : Int32).toNatClampNeg = 1836020596 := (kn_neL (by decide)).trans q320
  have q341 : (vp_updL f304 (19 : Int32).toNatClampNeg 1936292453) (16 : Int32).toNatClampNeg = 465557353332 := (kn_neL (by decide)).trans q321
  have q342 : (vp_updL f304 (19 : Int32).toNatClampNeg 1936292453) (17 : Int32).toNatClampNeg = 1936682341 := (kn_neL (by decide)).trans q322
  have q343 : (vp_updL f304 (19 : Int32).toNatClampNeg 1936292453) (18 : Int32).toNatClampNeg = 1700881256 := (kn_neL (by decide)).trans q323
  have q344 : (vp_updL f304 (19 : Int32).toNatClampNeg 1936292453) (19 : Int32).toNatClampNeg = 1936292453 := pk_uLs
  generalize vp_updL f304 (19 : Int32).toNatClampNeg 1936292453 = f324 at hP hD q325 q326 q327 q328 q329 q330 q331 q332 q333 q334 q335 q336 q337 q338 q339 q340 q341 q342 q343 q344
  refine lv_dup hx hb dX12_init_160 rfl ?_
  refine lv_bipush (v := 20) hx hb dX12_init_161 (by decide) ?_
  refine lv_ldc2 (v := 1801810036) hx hb hown (hts (.constantLong RX12 56 (1801810036)) (by decide +kernel)) dX12_init_163 ?_
  refine va_last hx hb hK hP hD hS 3 2 rfl rfl (show vp_in 20 29 from by unfold vp_in; decide) dX12_init_166 (fun H locs hP hD hS => ?_)
  have hP : va_P (dC, dI) vwCl [(Ad0, .inr (15, s110)), (q101, .inl (k102, 4000, .inl f103)), (q106, .inl (k107, 20, .inl f108)), (q111, .inl (k112, 29, .inr (.inl (vp_updL f324 (20 : Int32).toNatClampNeg 1801810036))))] H := hP
  have hD : va_D A [(Ad0, .inr (15, s110)), (q101, .inl (k102, 4000, .inl f103)), (q106, .inl (k107, 20, .inl f108)), (q111, .inl (k112, 29, .inr (.inl (vp_updL f324 (20 : Int32).toNatClampNeg 1801810036))))] := hD
  have q346 : (vp_updL f324 (20 : Int32).toNatClampNeg 1801810036) (0 : Int32).toNatClampNeg = 6384748 := (kn_neL (by decide)).trans q325
  have q347 : (vp_updL f324 (20 : Int32).toNatClampNeg 1801810036) (1 : Int32).toNatClampNeg = 7305070 := (kn_neL (by decide)).trans q326
  have q348 : (vp_updL f324 (20 : Int32).toNatClampNeg 1801810036) (2 : Int32).toNatClampNeg = 127991794263923 := (kn_neL (by decide)).trans q327
  have q349 : (vp_updL f324 (20 : Int32).toNatClampNeg 1801810036) (3 : Int32).toNatClampNeg = 512852587109 := (kn_neL (by decide)).trans q328
  have q350 : (vp_updL f324 (20 : Int32).toNatClampNeg 1801810036) (4 : Int32).toNatClampNeg = 6776180 := (kn_neL (by decide)).trans q329
  have q351 : (vp_updL f324 (20 : Int32).toNatClampNeg 1801810036) (5 : Int32).toNatClampNeg = 6385252 := (kn_neL (by decide)).trans q330
  have q352 : (vp_updL f324 (20 : Int32).toNatClampNeg 1801810036) (6 : Int32).toNatClampNeg = 28530 := (kn_neL (by decide)).trans q331
  have q353 : (vp_updL f324 (20 : Int32).toNatClampNeg 1801810036) (7 : Int32).toNatClampNeg = 7237492 := (kn_neL (by decide)).trans q332
  have q354 : (vp_updL f324 (20 : Int32).toNatClampNeg 1801810036) (8 : Int32).toNatClampNeg = 1853189228 := (kn_neL (by decide)).trans q333
  have q355 : (vp_updL f324 (20 : Int32).toNatClampNeg 1801810036) (9 : Int32).toNatClampNeg = 1953658213 := (kn_neL (by decide)).trans q334
  have q356 : (vp_updL f324 (20 : Int32).toNatClampNeg 1801810036) (10 : Int32).toNatClampNeg = 439721161573 := (kn_neL (by decide)).trans q335
  have q357 : (vp_updL f324 (20 : Int32).toNatClampNeg 1801810036) (11 : Int32).toNatClampNeg = 26995 := (kn_neL (by decide)).trans q336
  have q358 : (vp_updL f324 (20 : Int32).toNatClampNeg 1801810036) (12 : Int32).toNatClampNeg = 26990 := (kn_neL (by decide)).trans q337
  have q359 : (vp_updL f324 (20 : Int32).toNatClampNeg 1801810036) (13 : Int32).toNatClampNeg = 427071729268 := (kn_neL (by decide)).trans q338
  have q360 : (vp_updL f324 (20 : Int32).toNatClampNeg 1801810036) (14 : Int32).toNatClampNeg = 7566701 := (kn_neL (by decide)).trans q339
  have q361 : (vp_updL f324 (20 : Int32).toNatClampNeg 1801810036) (15 : Int32).toNatClampNeg = 1836020596 := (kn_neL (by decide)).trans q340
  have q362 : (vp_updL f324 (20 : Int32).toNatClampNeg 1801810036) (16 : Int32).toNatClampNeg = 465557353332 := (kn_neL (by decide)).trans q341
  have q363 : (vp_updL f324 (20 : Int32).toNatClampNeg 1801810036) (17 : Int32).toNatClampNeg = 1936682341 := (kn_neL (by decide)).trans q342
  have q364 : (vp_updL f324 (20 : Int32).toNatClampNeg 1801810036) (18 : Int32).toNatClampNeg = 1700881256 := (kn_neL (by decide)).trans q343
  have q365 : (vp_updL f324 (20 : Int32).toNatClampNeg 1801810036) (19 : Int32).toNatClampNeg = 1936292453 := (kn_neL (by decide)).trans q344
  have q366 : (vp_updL f324 (20 : Int32).toNatClampNeg 1801810036) (20 : Int32).toNatClampNeg = 1801810036 := pk_uLs
  generalize vp_updL f324 (20 : Int32).toNatClampNeg 1801810036 = f345 at hP hD q346 q347 q348 q349 q350 q351 q352 q353 q354 q355 q356 q357 q358 q359 q360 q361 q362 q363 q364 q365 q366
  refine lv_dup hx hb dX12_init_167 rfl ?_
  refine lv_bipush (v := 21) hx hb dX12_init_168 (by decide) ?_
  refine lv_ldc2 (v := 431198598248) hx hb hown (hts (.constantLong RX12 58 (431198598248)) (by decide +kernel)) dX12_init_170 ?_
  refine va_last hx hb hK hP hD hS 3 2 rfl rfl (show vp_in 21 29 from by unfold vp_in; decide) dX12_init_173 (fun H locs hP hD hS => ?_)
  have hP : va_P (dC, dI) vwCl [(Ad0, .inr (15, s110)), (q101, .inl (k102, 4000, .inl f103)), (q106, .inl (k107, 20, .inl f108)), (q111, .inl (k112, 29, .inr (.inl (vp_updL f345 (21 : Int32).toNatClampNeg 431198598248))))] H := hP
  have hD : va_D A [(Ad0, .inr (15, s110)), (q101, .inl (k102, 4000, .inl f103)), (q106, .inl (k107, 20, .inl f108)), (q111, .inl (k112, 29, .inr (.inl (vp_updL f345 (21 : Int32).toNatClampNeg 431198598248))))] := hD
  have q368 : (vp_updL f345 (21 : Int32).toNatClampNeg 431198598248) (0 : Int32).toNatClampNeg = 6384748 := (kn_neL (by decide)).trans q346
  have q369 : (vp_updL f345 (21 : Int32).toNatClampNeg 431198598248) (1 : Int32).toNatClampNeg = 7305070 := (kn_neL (by decide)).trans q347
  have q370 : (vp_updL f345 (21 : Int32).toNatClampNeg 431198598248) (2 : Int32).toNatClampNeg = 127991794263923 := (kn_neL (by decide)).trans q348
  have q371 : (vp_updL f345 (21 : Int32).toNatClampNeg 431198598248) (3 : Int32).toNatClampNeg = 512852587109 := (kn_neL (by decide)).trans q349
  have q372 : (vp_updL f345 (21 : Int32).toNatClampNeg 431198598248) (4 : Int32).toNatClampNeg = 6776180 := (kn_neL (by decide)).trans q350
  have q373 : (vp_updL f345 (21 : Int32).toNatClampNeg 431198598248) (5 : Int32).toNatClampNeg = 6385252 := (kn_neL (by decide)).trans q351
  have q374 : (vp_updL f345 (21 : Int32).toNatClampNeg 431198598248) (6 : Int32).toNatClampNeg = 28530 := (kn_neL (by decide)).trans q352
  have q375 : (vp_updL f345 (21 : Int32).toNatClampNeg 431198598248) (7 : Int32).toNatClampNeg = 7237492 := (kn_neL (by decide)).trans q353
  have q376 : (vp_updL f345 (21 : Int32).toNatClampNeg 431198598248) (8 : Int32).toNatClampNeg = 1853189228 := (kn_neL (by decide)).trans q354
  have q377 : (vp_updL f345 (21 : Int32).toNatClampNeg 431198598248) (9 : Int32).toNatClampNeg = 1953658213 := (kn_neL (by decide)).trans q355
  have q378 : (vp_updL f345 (21 : Int32).toNatClampNeg 431198598248) (10 : Int32).toNatClampNeg = 439721161573 := (kn_neL (by decide)).trans q356
  have q379 : (vp_updL f345 (21 : Int32).toNatClampNeg 431198598248) (11 : Int32).toNatClampNeg = 26995 := (kn_neL (by decide)).trans q357
  have q380 : (vp_updL f345 (21 : Int32).toNatClampNeg 431198598248) (12 : Int32).toNatClampNeg = 26990 := (kn_neL (by decide)).trans q358
  have q381 : (vp_updL f345 (21 : Int32).toNatClampNeg 431198598248) (13 : Int32).toNatClampNeg = 427071729268 := (kn_neL (by decide)).trans q359
  have q382 : (vp_updL f345 (21 : Int32).toNatClampNeg 431198598248) (14 : Int32).toNatClampNeg = 7566701 := (kn_neL (by decide)).trans q360
  have q383 : (vp_updL f345 (21 : Int32).toNatClampNeg 431198598248) (15 : Int32).toNatClampNeg = 1836020596 := (kn_neL (by decide)).trans q361
  have q384 : (vp_updL f345 (21 : Int32).toNatClampNeg 431198598248) (16 : Int32).toNatClampNeg = 465557353332 := (kn_neL (by decide)).trans q362
  have q385 : (vp_updL f345 (21 : Int32).toNatClampNeg 431198598248) (17 : Int32).toNatClampNeg = 1936682341 := (kn_neL (by decide)).trans q363
  have q386 : (vp_updL f345 (21 : Int32).toNatClampNeg 431198598248) (18 : Int32).toNatClampNeg = 1700881256 := (kn_neL (by decide)).trans q364
  have q387 : (vp_updL f345 (21 : Int32).toNatClampNeg 431198598248) (19 : Int32).toNatClampNeg = 1936292453 := (kn_neL (by decide)).trans q365
  have q388 : (vp_updL f345 (21 : Int32).toNatClampNeg 431198598248) (20 : Int32).toNatClampNeg = 1801810036 := (kn_neL (by decide)).trans q366
  have q389 : (vp_updL f345 (21 : Int32).toNatClampNeg 431198598248) (21 : Int32).toNatClampNeg = 431198598248 := pk_uLs
  generalize vp_updL f345 (21 : Int32).toNatClampNeg 431198598248 = f367 at hP hD q368 q369 q370 q371 q372 q373 q374 q375 q376 q377 q378 q379 q380 q381 q382 q383 q384 q385 q386 q387 q388 q389
  refine lv_dup hx hb dX12_init_174 rfl ?_
  refine lv_bipush (v := 22) hx hb dX12_init_175 (by decide) ?_
  refine lv_ldc2 (v := 119182899770472) hx hb hown (hts (.constantLong RX12 60 (119182899770472)) (by decide +kernel)) dX12_init_177 ?_
  refine va_last hx hb hK hP hD hS 3 2 rfl rfl (show vp_in 22 29 from by unfold vp_in; decide) dX12_init_180 (fun H locs hP hD hS => ?_)
  have hP : va_P (dC, dI) vwCl [(Ad0, .inr (15, s110)), (q101, .inl (k102, 4000, .inl f103)), (q106, .inl (k107, 20, .inl f108)), (q111, .inl (k112, 29, .inr (.inl (vp_updL f367 (22 : Int32).toNatClampNeg 119182899770472))))] H := hP
  have hD : va_D A [(Ad0, .inr (15, s110)), (q101, .inl (k102, 4000, .inl f103)), (q106, .inl (k107, 20, .inl f108)), (q111, .inl (k112, 29, .inr (.inl (vp_updL f367 (22 : Int32).toNatClampNeg 119182899770472))))] := hD
  have q391 : (vp_updL f367 (22 : Int32).toNatClampNeg 119182899770472) (0 : Int32).toNatClampNeg = 6384748 := (kn_neL (by decide)).trans q368
  have q392 : (vp_updL f367 (22 : Int32).toNatClampNeg 119182899770472) (1 : Int32).toNatClampNeg = 7305070 := (kn_neL (by decide)).trans q369
  have q393 : (vp_updL f367 (22 : Int32).toNatClampNeg 119182899770472) (2 : Int32).toNatClampNeg = 127991794263923 := (kn_neL (by decide)).trans q370
  have q394 : (vp_updL f367 (22 : Int32).toNatClampNeg 119182899770472) (3 : Int32).toNatClampNeg = 512852587109 := (kn_neL (by decide)).trans q371
  have q395 : (vp_updL f367 (22 : Int32).toNatClampNeg 119182899770472) (4 : Int32).toNatClampNeg = 6776180 := (kn_neL (by decide)).trans q372
  have q396 : (vp_updL f367 (22 : Int32).toNatClampNeg 119182899770472) (5 : Int32).toNatClampNeg = 6385252 := (kn_neL (by decide)).trans q373
  have q397 : (vp_updL f367 (22 : Int32).toNatClampNeg 119182899770472) (6 : Int32).toNatClampNeg = 28530 := (kn_neL (by decide)).trans q374
  have q398 : (vp_updL f367 (22 : Int32).toNatClampNeg 119182899770472) (7 : Int32).toNatClampNeg = 7237492 := (kn_neL (by decide)).trans q375
  have q399 : (vp_updL f367 (22 : Int32).toNatClampNeg 119182899770472) (8 : Int32).toNatClampNeg = 1853189228 := (kn_neL (by decide)).trans q376
  have q400 : (vp_updL f367 (22 : Int32).toNatClampNeg 119182899770472) (9 : Int32).toNatClampNeg = 1953658213 := (kn_neL (by decide)).trans q377
  have q401 : (vp_updL f367 (22 : Int32).toNatClampNeg 119182899770472) (10 : Int32).toNatClampNeg = 439721161573 := (kn_neL (by decide)).trans q378
  have q402 : (vp_updL f367 (22 : Int32).toNatClampNeg 119182899770472) (11 : Int32).toNatClampNeg = 26995 := (kn_neL (by decide)).trans q379
  have q403 : (vp_updL f367 (22 : Int32).toNatClampNeg 119182899770472) (12 : Int32).toNatClampNeg = 26990 := (kn_neL (by decide)).trans q380
  have q404 : (vp_updL f367 (22 : Int32).toNatClampNeg 119182899770472) (13 : Int32).toNatClampNeg = 427071729268 := (kn_neL (by decide)).trans q381
  have q405 : (vp_updL f367 (22 : Int32).toNatClampNeg 119182899770472) (14 : Int32).toNatClampNeg = 7566701 := (kn_neL (by decide)).trans q382
  have q406 : (vp_updL f367 (22 : Int32).toNatClampNeg 119182899770472) (15 : Int32).toNatClampNeg = 1836020596 := (kn_neL (by decide)).trans q383
  have q407 : (vp_updL f367 (22 : Int32).toNatClampNeg 119182899770472) (16 : Int32).toNatClampNeg = 465557353332 := (kn_neL (by decide)).trans q384
  have q408 : (vp_updL f367 (22 : Int32).toNatClampNeg 119182899770472) (17 : Int32).toNatClampNeg = 1936682341 := (kn_neL (by decide)).trans q385
  have q409 : (vp_updL f367 (22 : Int32).toNatClampNeg 119182899770472) (18 : Int32).toNatClampNeg = 1700881256 := (kn_neL (by decide)).trans q386
  have q410 : (vp_updL f367 (22 : Int32).toNatClampNeg 119182899770472) (19 : Int32).toNatClampNeg = 1936292453 := (kn_neL (by decide)).trans q387
  have q411 : (vp_updL f367 (22 : Int32).toNatClampNeg 119182899770472) (20 : Int32).toNatClampNeg = 1801810036 := (kn_neL (by decide)).trans q388
  have q412 : (vp_updL f367 (22 : Int32).toNatClampNeg 119182899770472) (21 : Int32).toNatClampNeg = 431198598248 := (kn_neL (by decide)).trans q389
  have q413 : (vp_updL f367 (22 : Int32).toNatClampNeg 119182899770472) (22 : Int32).toNatClampNeg = 119182899770472 := pk_uLs
  generalize vp_updL f367 (22 : Int32).toNatClampNeg 119182899770472 = f390 at hP hD q391 q392 q393 q394 q395 q396 q397 q398 q399 q400 q401 q402 q403 q404 q405 q406 q407 q408 q409 q410 q411 q412 q413
  refine lv_dup hx hb dX12_init_181 rfl ?_
  refine lv_bipush (v := 23) hx hb dX12_init_182 (by decide) ?_
  refine lv_ldc2 (v := 427020088179) hx hb hown (hts (.constantLong RX12 62 (427020088179)) (by decide +kernel)) dX12_init_184 ?_
  refine va_last hx hb hK hP hD hS 3 2 rfl rfl (show vp_in 23 29 from by unfold vp_in; decide) dX12_init_187 (fun H locs hP hD hS => ?_)
  have hP : va_P (dC, dI) vwCl [(Ad0, .inr (15, s110)), (q101, .inl (k102, 4000, .inl f103)), (q106, .inl (k107, 20, .inl f108)), (q111, .inl (k112, 29, .inr (.inl (vp_updL f390 (23 : Int32).toNatClampNeg 427020088179))))] H := hP
  have hD : va_D A [(Ad0, .inr (15, s110)), (q101, .inl (k102, 4000, .inl f103)), (q106, .inl (k107, 20, .inl f108)), (q111, .inl (k112, 29, .inr (.inl (vp_updL f390 (23 : Int32).toNatClampNeg 427020088179))))] := hD
  have q415 : (vp_updL f390 (23 : Int32).toNatClampNeg 427020088179) (0 : Int32).toNatClampNeg = 6384748 := (kn_neL (by decide)).trans q391
  have q416 : (vp_updL f390 (23 : Int32).toNatClampNeg 427020088179) (1 : Int32).toNatClampNeg = 7305070 := (kn_neL (by decide)).trans q392
  have q417 : (vp_updL f390 (23 : Int32).toNatClampNeg 427020088179) (2 : Int32).toNatClampNeg = 127991794263923 := (kn_neL (by decide)).trans q393
  have q418 : (vp_updL f390 (23 : Int32).toNatClampNeg 427020088179) (3 : Int32).toNatClampNeg = 512852587109 := (kn_neL (by decide)).trans q394
  have q419 : (vp_updL f390 (23 : Int32).toNatClampNeg 427020088179) (4 : Int32).toNatClampNeg = 6776180 := (kn_neL (by decide)).trans q395
  have q420 : (vp_updL f390 (23 : Int32).toNatClampNeg 427020088179) (5 : Int32).toNatClampNeg = 6385252 := (kn_neL (by decide)).trans q396
  have q421 : (vp_updL f390 (23 : Int32).toNatClampNeg 427020088179) (6 : Int32).toNatClampNeg = 28530 := (kn_neL (by decide)).trans q397
  have q422 : (vp_updL f390 (23 : Int32).toNatClampNeg 427020088179) (7 : Int32).toNatClampNeg = 7237492 := (kn_neL (by decide)).trans q398
  have q423 : (vp_updL f390 (23 : Int32).toNatClampNeg 427020088179) (8 : Int32).toNatClampNeg = 1853189228 := (kn_neL (by decide)).trans q399
  have q424 : (vp_updL f390 (23 : Int32).toNatClampNeg 427020088179) (9 : Int32).toNatClampNeg = 1953658213 := (kn_neL (by decide)).trans q400
  have q425 : (vp_updL f390 (23 : Int32).toNatClampNeg 427020088179) (10 : Int32).toNatClampNeg = 439721161573 := (kn_neL (by decide)).trans q401
  have q426 : (vp_updL f390 (23 : Int32).toNatClampNeg 427020088179) (11 : Int32).toNatClampNeg = 26995 := (kn_neL (by decide)).trans q402
  have q427 : (vp_updL f390 (23 : Int32).toNatClampNeg 427020088179) (12 : Int32).toNatClampNeg = 26990 := (kn_neL (by decide)).trans q403
  have q428 : (vp_updL f390 (23 : Int32).toNatClampNeg 427020088179) (13 : Int32).toNatClampNeg = 427071729268 := (kn_neL (by decide)).trans q404
  have q429 : (vp_updL f390 (23 : Int32).toNatClampNeg 427020088179) (14 : Int32).toNatClampNeg = 7566701 := (kn_neL (by decide)).trans q405
  have q430 : (vp_updL f390 (23 : Int32).toNatClampNeg 427020088179) (15 : Int32).toNatClampNeg = 1836020596 := (kn_neL (by decide)).trans q406
  have q431 : (vp_updL f390 (23 : Int32).toNatClampNeg 427020088179) (16 : Int32).toNatClampNeg = 465557353332 := (kn_neL (by decide)).trans q407
  have q432 : (vp_updL f390 (23 : Int32).toNatClampNeg 427020088179) (17 : Int32).toNatClampNeg = 1936682341 := (kn_neL (by decide)).trans q408
  have q433 : (vp_updL f390 (23 : Int32).toNatClampNeg 427020088179) (18 : Int32).toNatClampNeg = 1700881256 := (kn_neL (by decide)).trans q409
  have q434 : (vp_updL f390 (23 : Int32).toNatClampNeg 427020088179) (19 : Int32).toNatClampNeg = 1936292453 := (kn_neL (by decide)).trans q410
  have q435 : (vp_updL f390 (23 : Int32).toNatClampNeg 427020088179) (20 : Int32).toNatClampNeg = 1801810036 := (kn_neL (by decide)).trans q411
  have q436 : (vp_updL f390 (23 : Int32).toNatClampNeg 427020088179) (21 : Int32).toNatClampNeg = 431198598248 := (kn_neL (by decide)).trans q412
  have q437 : (vp_updL f390 (23 : Int32).toNatClampNeg 427020088179) (22 : Int32).toNatClampNeg = 119182899770472 := (kn_neL (by decide)).trans q413
  have q438 : (vp_updL f390 (23 : Int32).toNatClampNeg 427020088179) (23 : Int32).toNatClampNeg = 427020088179 := pk_uLs
  generalize vp_updL f390 (23 : Int32).toNatClampNeg 427020088179 = f414 at hP hD q415 q416 q417 q418 q419 q420 q421 q422 q423 q424 q425 q426 q427 q428 q429 q430 q431 q432 q433 q434 q435 q436 q437 q438
  refine lv_dup hx hb dX12_init_188 rfl ?_
  refine lv_bipush (v := 24) hx hb dX12_init_189 (by decide) ?_
  refine lv_ldc2 (v := 495740482675) hx hb hown (hts (.constantLong RX12 64 (495740482675)) (by decide +kernel)) dX12_init_191 ?_
  refine va_last hx hb hK hP hD hS 3 2 rfl rfl (show vp_in 24 29 from by unfold vp_in; decide) dX12_init_194 (fun H locs hP hD hS => ?_)
  have hP : va_P (dC, dI) vwCl [(Ad0, .inr (15, s110)), (q101, .inl (k102, 4000, .inl f103)), (q106, .inl (k107, 20, .inl f108)), (q111, .inl (k112, 29, .inr (.inl (vp_updL f414 (24 : Int32).toNatClampNeg 495740482675))))] H := hP
  have hD : va_D A [(Ad0, .inr (15, s110)), (q101, .inl (k102, 4000, .inl f103)), (q106, .inl (k107, 20, .inl f108)), (q111, .inl (k112, 29, .inr (.inl (vp_updL f414 (24 : Int32).toNatClampNeg 495740482675))))] := hD
  have q440 : (vp_updL f414 (24 : Int32).toNatClampNeg 495740482675) (0 : Int32).toNatClampNeg = 6384748 := (kn_neL (by decide)).trans q415
  have q441 : (vp_updL f414 (24 : Int32).toNatClampNeg 495740482675) (1 : Int32).toNatClampNeg = 7305070 := (kn_neL (by decide)).trans q416
  have q442 : (vp_updL f414 (24 : Int32).toNatClampNeg 495740482675) (2 : Int32).toNatClampNeg = 127991794263923 := (kn_neL (by decide)).trans q417
  have q443 : (vp_updL f414 (24 : Int32).toNatClampNeg 495740482675) (3 : Int32).toNatClampNeg = 512852587109 := (kn_neL (by decide)).trans q418
  have q444 : (vp_updL f414 (24 : Int32).toNatClampNeg 495740482675) (4 : Int32).toNatClampNeg = 6776180 := (kn_neL (by decide)).trans q419
  have q445 : (vp_updL f414 (24 : Int32).toNatClampNeg 495740482675) (5 : Int32).toNatClampNeg = 6385252 := (kn_neL (by decide)).trans q420
  have q446 : (vp_updL f414 (24 : Int32).toNatClampNeg 495740482675) (6 : Int32).toNatClampNeg = 28530 := (kn_neL (by decide)).trans q421
  have q447 : (vp_updL f414 (24 : Int32).toNatClampNeg 495740482675) (7 : Int32).toNatClampNeg = 7237492 := (kn_neL (by decide)).trans q422
  have q448 : (vp_updL f414 (24 : Int32).toNatClampNeg 495740482675) (8 : Int32).toNatClampNeg = 1853189228 := (kn_neL (by decide)).trans q423
  have q449 : (vp_updL f414 (24 : Int32).toNatClampNeg 495740482675) (9 : Int32).toNatClampNeg = 1953658213 := (kn_neL (by decide)).trans q424
  have q450 : (vp_updL f414 (24 : Int32).toNatClampNeg 495740482675) (10 : Int32).toNatClampNeg = 439721161573 := (kn_neL (by decide)).trans q425
  have q451 : (vp_updL f414 (24 : Int32).toNatClampNeg 495740482675) (11 : Int32).toNatClampNeg = 26995 := (kn_neL (by decide)).trans q426
  have q452 : (vp_updL f414 (24 : Int32).toNatClampNeg 495740482675) (12 : Int32).toNatClampNeg = 26990 := (kn_neL (by decide)).trans q427
  have q453 : (vp_updL f414 (24 : Int32).toNatClampNeg 495740482675) (13 : Int32).toNatClampNeg = 427071729268 := (kn_neL (by decide)).trans q428
  have q454 : (vp_updL f414 (24 : Int32).toNatClampNeg 495740482675) (14 : Int32).toNatClampNeg = 7566701 := (kn_neL (by decide)).trans q429
  have q455 : (vp_updL f414 (24 : Int32).toNatClampNeg 495740482675) (15 : Int32).toNatClampNeg = 1836020596 := (kn_neL (by decide)).trans q430
  have q456 : (vp_updL f414 (24 : Int32).toNatClampNeg 495740482675) (16 : Int32).toNatClampNeg = 465557353332 := (kn_neL (by decide)).trans q431
  have q457 : (vp_updL f414 (24 : Int32).toNatClampNeg 495740482675) (17 : Int32).toNatClampNeg = 1936682341 := (kn_neL (by decide)).trans q432
  have q458 : (vp_updL f414 (24 : Int32).toNatClampNeg 495740482675) (18 : Int32).toNatClampNeg = 1700881256 := (kn_neL (by decide)).trans q433
  have q459 : (vp_updL f414 (24 : Int32).toNatClampNeg 495740482675) (19 : Int32).toNatClampNeg = 1936292453 := (kn_neL (by decide)).trans q434
  have q460 : (vp_updL f414 (24 : Int32).toNatClampNeg 495740482675) (20 : Int32).toNatClampNeg = 1801810036 := (kn_neL (by decide)).trans q435
  have q461 : (vp_updL f414 (24 : Int32).toNatClampNeg 495740482675) (21 : Int32).toNatClampNeg = 431198598248 := (kn_neL (by decide)).trans q436
  have q462 : (vp_updL f414 (24 : Int32).toNatClampNeg 495740482675) (22 : Int32).toNatClampNeg = 119182899770472 := (kn_neL (by decide)).trans q437
  have q463 : (vp_updL f414 (24 : Int32).toNatClampNeg 495740482675) (23 : Int32).toNatClampNeg = 427020088179 := (kn_neL (by decide)).trans q438
  have q464 : (vp_updL f414 (24 : Int32).toNatClampNeg 495740482675) (24 : Int32).toNatClampNeg = 495740482675 := pk_uLs
  generalize vp_updL f414 (24 : Int32).toNatClampNeg 495740482675 = f439 at hP hD q440 q441 q442 q443 q444 q445 q446 q447 q448 q449 q450 q451 q452 q453 q454 q455 q456 q457 q458 q459 q460 q461 q462 q463 q464
  refine lv_dup hx hb dX12_init_195 rfl ?_
  refine lv_bipush (v := 25) hx hb dX12_init_196 (by decide) ?_
  refine lv_ldc2 (v := 1751477348) hx hb hown (hts (.constantLong RX12 66 (1751477348)) (by decide +kernel)) dX12_init_198 ?_
  refine va_last hx hb hK hP hD hS 3 2 rfl rfl (show vp_in 25 29 from by unfold vp_in; decide) dX12_init_201 (fun H locs hP hD hS => ?_)
  have hP : va_P (dC, dI) vwCl [(Ad0, .inr (15, s110)), (q101, .inl (k102, 4000, .inl f103)), (q106, .inl (k107, 20, .inl f108)), (q111, .inl (k112, 29, .inr (.inl (vp_updL f439 (25 : Int32).toNatClampNeg 1751477348))))] H := hP
  have hD : va_D A [(Ad0, .inr (15, s110)), (q101, .inl (k102, 4000, .inl f103)), (q106, .inl (k107, 20, .inl f108)), (q111, .inl (k112, 29, .inr (.inl (vp_updL f439 (25 : Int32).toNatClampNeg 1751477348))))] := hD
  have q466 : (vp_updL f439 (25 : Int32).toNatClampNeg 1751477348) (0 : Int32).toNatClampNeg = 6384748 := (kn_neL (by decide)).trans q440
  have q467 : (vp_updL f439 (25 : Int32).toNatClampNeg 1751477348) (1 : Int32).toNatClampNeg = 7305070 := (kn_neL (by decide)).trans q441
  have q468 : (vp_updL f439 (25 : Int32).toNatClampNeg 1751477348) (2 : Int32).toNatClampNeg = 127991794263923 := (kn_neL (by decide)).trans q442
  have q469 : (vp_updL f439 (25 : Int32).toNatClampNeg 1751477348) (3 : Int32).toNatClampNeg = 512852587109 := (kn_neL (by decide)).trans q443
  have q470 : (vp_updL f439 (25 : Int32).toNatClampNeg 1751477348) (4 : Int32).toNatClampNeg = 6776180 := (kn_neL (by decide)).trans q444
  have q471 : (vp_updL f439 (25 : Int32).toNatClampNeg 1751477348) (5 : Int32).toNatClampNeg = 6385252 := (kn_neL (by decide)).trans q445
  have q472 : (vp_updL f439 (25 : Int32).toNatClampNeg 1751477348) (6 : Int32).toNatClampNeg = 28530 := (kn_neL (by decide)).trans q446
  have q473 : (vp_updL f439 (25 : Int32).toNatClampNeg 1751477348) (7 : Int32).toNatClampNeg = 7237492 := (kn_neL (by decide)).trans q447
  have q474 : (vp_updL f439 (25 : Int32).toNatClampNeg 1751477348) (8 : Int32).toNatClampNeg = 1853189228 := (kn_neL (by decide)).trans q448
  have q475 : (vp_updL f439 (25 : Int32).toNatClampNeg 1751477348) (9 : Int32).toNatClampNeg = 1953658213 := (kn_neL (by decide)).trans q449
  have q476 : (vp_updL f439 (25 : Int32).toNatClampNeg 1751477348) (10 : Int32).toNatClampNeg = 439721161573 := (kn_neL (by decide)).trans q450
  have q477 : (vp_updL f439 (25 : Int32).toNatClampNeg 1751477348) (11 : Int32).toNatClampNeg = 26995 := (kn_neL (by decide)).trans q451
  have q478 : (vp_updL f439 (25 : Int32).toNatClampNeg 1751477348) (12 : Int32).toNatClampNeg = 26990 := (kn_neL (by decide)).trans q452
  have q479 : (vp_updL f439 (25 : Int32).toNatClampNeg 1751477348) (13 : Int32).toNatClampNeg = 427071729268 := (kn_neL (by decide)).trans q453
  have q480 : (vp_updL f439 (25 : Int32).toNatClampNeg 1751477348) (14 : Int32).toNatClampNeg = 7566701 := (kn_neL (by decide)).trans q454
  have q481 : (vp_updL f439 (25 : Int32).toNatClampNeg 1751477348) (15 : Int32).toNatClampNeg = 1836020596 := (kn_neL (by decide)).trans q455
  have q482 : (vp_updL f439 (25 : Int32).toNatClampNeg 1751477348) (16 : Int32).toNatClampNeg = 465557353332 := (kn_neL (by decide)).trans q456
  have q483 : (vp_updL f439 (25 : Int32).toNatClampNeg 1751477348) (17 : Int32).toNatClampNeg = 1936682341 := (kn_neL (by decide)).trans q457
  have q484 : (vp_updL f439 (25 : Int32).toNatClampNeg 1751477348) (18 : Int32).toNatClampNeg = 1700881256 := (kn_neL (by decide)).trans q458
  have q485 : (vp_updL f439 (25 : Int32).toNatClampNeg 1751477348) (19 : Int32).toNatClampNeg = 1936292453 := (kn_neL (by decide)).trans q459
  have q486 : (vp_updL f439 (25 : Int32).toNatClampNeg 1751477348) (20 : Int32).toNatClampNeg = 1801810036 := (kn_neL (by decide)).trans q460
  have q487 : (vp_updL f439 (25 : Int32).toNatClampNeg 1751477348) (21 : Int32).toNatClampNeg = 431198598248 := (kn_neL (by decide)).trans q461
  have q488 : (vp_updL f439 (25 : Int32).toNatClampNeg 1751477348) (22 : Int32).toNatClampNeg = 119182899770472 := (kn_neL (by decide)).trans q462
  have q489 : (vp_updL f439 (25 : Int32).toNatClampNeg 1751477348) (23 : Int32).toNatClampNeg = 427020088179 := (kn_neL (by decide)).trans q463
  have q490 : (vp_updL f439 (25 : Int32).toNatClampNeg 1751477348) (24 : Int32).toNatClampNeg = 495740482675 := (kn_neL (by decide)).trans q464
  have q491 : (vp_updL f439 (25 : Int32).toNatClampNeg 1751477348) (25 : Int32).toNatClampNeg = 1751477348 := pk_uLs
  generalize vp_updL f439 (25 : Int32).toNatClampNeg 1751477348 = f465 at hP hD q466 q467 q468 q469 q470 q471 q472 q473 q474 q475 q476 q477 q478 q479 q480 q481 q482 q483 q484 q485 q486 q487 q488 q489 q490 q491
  refine lv_dup hx hb dX12_init_202 rfl ?_
  refine lv_bipush (v := 26) hx hb dX12_init_203 (by decide) ?_
  refine lv_ldc2 (v := 1718775661) hx hb hown (hts (.constantLong RX12 68 (1718775661)) (by decide +kernel)) dX12_init_205 ?_
  refine va_last hx hb hK hP hD hS 3 2 rfl rfl (show vp_in 26 29 from by unfold vp_in; decide) dX12_init_208 (fun H locs hP hD hS => ?_)
  have hP : va_P (dC, dI) vwCl [(Ad0, .inr (15, s110)), (q101, .inl (k102, 4000, .inl f103)), (q106, .inl (k107, 20, .inl f108)), (q111, .inl (k112, 29, .inr (.inl (vp_updL f465 (26 : Int32).toNatClampNeg 1718775661))))] H := hP
  have hD : va_D A [(Ad0, .inr (15, s110)), (q101, .inl (k102, 4000, .inl f103)), (q106, .inl (k107, 20, .inl f108)), (q111, .inl (k112, 29, .inr (.inl (vp_updL f465 (26 : Int32).toNatClampNeg 1718775661))))] := hD
  have q493 : (vp_updL f465 (26 : Int32).toNatClampNeg 1718775661) (0 : Int32).toNatClampNeg = 6384748 := (kn_neL (by decide)).trans q466
  have q494 : (vp_updL f465 (26 : Int32).toNatClampNeg 1718775661) (1 : Int32).toNatClampNeg = 7305070 := (kn_neL (by decide)).trans q467
  have q495 : (vp_updL f465 (26 : Int32).toNatClampNeg 1718775661) (2 : Int32).toNatClampNeg = 127991794263923 := (kn_neL (by decide)).trans q468
  have q496 : (vp_updL f465 (26 : Int32).toNatClampNeg 1718775661) (3 : Int32).toNatClampNeg = 512852587109 := (kn_neL (by decide)).trans q469
  have q497 : (vp_updL f465 (26 : Int32).toNatClampNeg 1718775661) (4 : Int32).toNatClampNeg = 6776180 := (kn_neL (by decide)).trans q470
  have q498 : (vp_updL f465 (26 : Int32).toNatClampNeg 1718775661) (5 : Int32).toNatClampNeg = 6385252 := (kn_neL (by decide)).trans q471
  have q499 : (vp_updL f465 (26 : Int32).toNatClampNeg 1718775661) (6 : Int32).toNatClampNeg = 28530 := (kn_neL (by decide)).trans q472
  have q500 : (vp_updL f465 (26 : Int32).toNatClampNeg 1718775661) (7 : Int32).toNatClampNeg = 7237492 := (kn_neL (by decide)).trans q473
  have q501 : (vp_updL f465 (26 : Int32).toNatClampNeg 1718775661) (8 : Int32).toNatClampNeg = 1853189228 := (kn_neL (by decide)).trans q474
  have q502 : (vp_updL f465 (26 : Int32).toNatClampNeg 1718775661) (9 : Int32).toNatClampNeg = 1953658213 := (kn_neL (by decide)).trans q475
  have q503 : (vp_updL f465 (26 : Int32).toNatClampNeg 1718775661) (10 : Int32).toNatClampNeg = 439721161573 := (kn_neL (by decide)).trans q476
  have q504 : (vp_updL f465 (26 : Int32).toNatClampNeg 1718775661) (11 : Int32).toNatClampNeg = 26995 := (kn_neL (by decide)).trans q477
  have q505 : (vp_updL f465 (26 : Int32).toNatClampNeg 1718775661) (12 : Int32).toNatClampNeg = 26990 := (kn_neL (by decide)).trans q478
  have q506 : (vp_updL f465 (26 : Int32).toNatClampNeg 1718775661) (13 : Int32).toNatClampNeg = 427071729268 := (kn_neL (by decide)).trans q479
  have q507 : (vp_updL f465 (26 : Int32).toNatClampNeg 1718775661) (14 : Int32).toNatClampNeg = 7566701 := (kn_neL (by decide)).trans q480
  have q508 : (vp_updL f465 (26 : Int32).toNatClampNeg 1718775661) (15 : Int32).toNatClampNeg = 1836020596 := (kn_neL (by decide)).trans q481
  have q509 : (vp_updL f465 (26 : Int32).toNatClampNeg 1718775661) (16 : Int32).toNatClampNeg = 465557353332 := (kn_neL (by decide)).trans q482
  have q510 : (vp_updL f465 (26 : Int32).toNatClampNeg 1718775661) (17 : Int32).toNatClampNeg = 1936682341 := (kn_neL (by decide)).trans q483
  have q511 : (vp_updL f465 (26 : Int32).toNatClampNeg 1718775661) (18 : Int32).toNatClampNeg = 1700881256 := (kn_neL (by decide)).trans q484
  have q512 : (vp_updL f465 (26 : Int32).toNatClampNeg 1718775661) (19 : Int32).toNatClampNeg = 1936292453 := (kn_neL (by decide)).trans q485
  have q513 : (vp_updL f465 (26 : Int32).toNatClampNeg 1718775661) (20 : Int32).toNatClampNeg = 1801810036 := (kn_neL (by decide)).trans q486
  have q514 : (vp_updL f465 (26 : Int32).toNatClampNeg 1718775661) (21 : Int32).toNatClampNeg = 431198598248 := (kn_neL (by decide)).trans q487
  have q515 : (vp_updL f465 (26 : Int32).toNatClampNeg 1718775661) (22 : Int32).toNatClampNeg = 119182899770472 := (kn_neL (by decide)).trans q488
  have q516 : (vp_updL f465 (26 : Int32).toNatClampNeg 1718775661) (23 : Int32).toNatClampNeg = 427020088179 := (kn_neL (by decide)).trans q489
  have q517 : (vp_updL f465 (26 : Int32).toNatClampNeg 1718775661) (24 : Int32).toNatClampNeg = 495740482675 := (kn_neL (by decide)).trans q490
  have q518 : (vp_updL f465 (26 : Int32).toNatClampNeg 1718775661) (25 : Int32).toNatClampNeg = 1751477348 := (kn_neL (by decide)).trans q491
  have q519 : (vp_updL f465 (26 : Int32).toNatClampNeg 1718775661) (26 : Int32).toNatClampNeg = 1718775661 := pk_uLs
  generalize vp_updL f465 (26 : Int32).toNatClampNeg 1718775661 = f492 at hP hD q493 q494 q495 q496 q497 q498 q499 q500 q501 q502 q503 q504 q505 q506 q507 q508 q509 q510 q511 q512 q513 q514 q515 q516 q517 q518 q519
  refine lv_dup hx hb dX12_init_209 rfl ?_
  refine lv_bipush (v := 27) hx hb dX12_init_210 (by decide) ?_
  refine lv_ldc2 (v := 26996) hx hb hown (hts (.constantLong RX12 70 (26996)) (by decide +kernel)) dX12_init_212 ?_
  refine va_last hx hb hK hP hD hS 3 2 rfl rfl (show vp_in 27 29 from by unfold vp_in; decide) dX12_init_215 (fun H locs hP hD hS => ?_)
  have hP : va_P (dC, dI) vwCl [(Ad0, .inr (15, s110)), (q101, .inl (k102, 4000, .inl f103)), (q106, .inl (k107, 20, .inl f108)), (q111, .inl (k112, 29, .inr (.inl (vp_updL f492 (27 : Int32).toNatClampNeg 26996))))] H := hP
  have hD : va_D A [(Ad0, .inr (15, s110)), (q101, .inl (k102, 4000, .inl f103)), (q106, .inl (k107, 20, .inl f108)), (q111, .inl (k112, 29, .inr (.inl (vp_updL f492 (27 : Int32).toNatClampNeg 26996))))] := hD
  have q521 : (vp_updL f492 (27 : Int32).toNatClampNeg 26996) (0 : Int32).toNatClampNeg = 6384748 := (kn_neL (by decide)).trans q493
  have q522 : (vp_updL f492 (27 : Int32).toNatClampNeg 26996) (1 : Int32).toNatClampNeg = 7305070 := (kn_neL (by decide)).trans q494
  have q523 : (vp_updL f492 (27 : Int32).toNatClampNeg 26996) (2 : Int32).toNatClampNeg = 127991794263923 := (kn_neL (by decide)).trans q495
  have q524 : (vp_updL f492 (27 : Int32).toNatClampNeg 26996) (3 : Int32).toNatClampNeg = 512852587109 := (kn_neL (by decide)).trans q496
  have q525 : (vp_updL f492 (27 : Int32).toNatClampNeg 26996) (4 : Int32).toNatClampNeg = 6776180 := (kn_neL (by decide)).trans q497
  have q526 : (vp_updL f492 (27 : Int32).toNatClampNeg 26996) (5 : Int32).toNatClampNeg = 6385252 := (kn_neL (by decide)).trans q498
  have q527 : (vp_updL f492 (27 : Int32).toNatClampNeg 26996) (6 : Int32).toNatClampNeg = 28530 := (kn_neL (by decide)).trans q499
  have q528 : (vp_updL f492 (27 : Int32).toNatClampNeg 26996) (7 : Int32).toNatClampNeg = 7237492 := (kn_neL (by decide)).trans q500
  have q529 : (vp_updL f492 (27 : Int32).toNatClampNeg 26996) (8 : Int32).toNatClampNeg = 1853189228 := (kn_neL (by decide)).trans q501
  have q530 : (vp_updL f492 (27 : Int32).toNatClampNeg 26996) (9 : Int32).toNatClampNeg = 1953658213 := (kn_neL (by decide)).trans q502
  have q531 : (vp_updL f492 (27 : Int32).toNatClampNeg 26996) (10 : Int32).toNatClampNeg = 439721161573 := (kn_neL (by decide)).trans q503
  have q532 : (vp_updL f492 (27 : Int32).toNatClampNeg 26996) (11 : Int32).toNatClampNeg = 26995 := (kn_neL (by decide)).trans q504
  have q533 : (vp_updL f492 (27 : Int32).toNatClampNeg 26996) (12 : Int32).toNatClampNeg = 26990 := (kn_neL (by decide)).trans q505
  have q534 : (vp_updL f492 (27 : Int32).toNatClampNeg 26996) (13 : Int32).toNatClampNeg = 427071729268 := (kn_neL (by decide)).trans q506
  have q535 : (vp_updL f492 (27 : Int32).toNatClampNeg 26996) (14 : Int32).toNatClampNeg = 7566701 := (kn_neL (by decide)).trans q507
  have q536 : (vp_updL f492 (27 : Int32).toNatClampNeg 26996) (15 : Int32).toNatClampNeg = 1836020596 := (kn_neL (by decide)).trans q508
  have q537 : (vp_updL f492 (27 : Int32).toNatClampNeg 26996) (16 : Int32).toNatClampNeg = 465557353332 := (kn_neL (by decide)).trans q509
  have q538 : (vp_updL f492 (27 : Int32).toNatClampNeg 26996) (17 : Int32).toNatClampNeg = 1936682341 := (kn_neL (by decide)).trans q510
  have q539 : (vp_updL f492 (27 : Int32).toNatClampNeg 26996) (18 : Int32).toNatClampNeg = 1700881256 := (kn_neL (by decide)).trans q511
  have q540 : (vp_updL f492 (27 : Int32).toNatClampNeg 26996) (19 : Int32).toNatClampNeg = 1936292453 := (kn_neL (by decide)).trans q512
  have q541 : (vp_updL f492 (27 : Int32).toNatClampNeg 26996) (20 : Int32).toNatClampNeg = 1801810036 := (kn_neL (by decide)).trans q513
  have q542 : (vp_updL f492 (27 : Int32).toNatClampNeg 26996) (21 : Int32).toNatClampNeg = 431198598248 := (kn_neL (by decide)).trans q514
  have q543 : (vp_updL f492 (27 : Int32).toNatClampNeg 26996) (22 : Int32).toNatClampNeg = 119182899770472 := (kn_neL (by decide)).trans q515
  have q544 : (vp_updL f492 (27 : Int32).toNatClampNeg 26996) (23 : Int32).toNatClampNeg = 427020088179 := (kn_neL (by decide)).trans q516
  have q545 : (vp_updL f492 (27 : Int32).toNatClampNeg 26996) (24 : Int32).toNatClampNeg = 495740482675 := (kn_neL (by decide)).trans q517
  have q546 : (vp_updL f492 (27 : Int32).toNatClampNeg 26996) (25 : Int32).toNatClampNeg = 1751477348 := (kn_neL (by decide)).trans q518
  have q547 : (vp_updL f492 (27 : Int32).toNatClampNeg 26996) (26 : Int32).toNatClampNeg = 1718775661 := (kn_neL (by decide)).trans q519
  have q548 : (vp_updL f492 (27 : Int32).toNatClampNeg 26996) (27 : Int32).toNatClampNeg = 26996 := pk_uLs
  generalize vp_updL f492 (27 : Int32).toNatClampNeg 26996 = f520 at hP hD q521 q522 q523 q524 q525 q526 q527 q528 q529 q530 q531 q532 q533 q534 q535 q536 q537 q538 q539 q540 q541 q542 q543 q544 q545 q546 q547 q548
  refine lv_dup hx hb dX12_init_216 rfl ?_
  refine lv_bipush (v := 28) hx hb dX12_init_217 (by decide) ?_
  refine lv_ldc2 (v := 499967946343) hx hb hown (hts (.constantLong RX12 72 (499967946343)) (by decide +kernel)) dX12_init_219 ?_
  refine va_last hx hb hK hP hD hS 3 2 rfl rfl (show vp_in 28 29 from by unfold vp_in; decide) dX12_init_222 (fun H locs hP hD hS => ?_)
  have hP : va_P (dC, dI) vwCl [(Ad0, .inr (15, s110)), (q101, .inl (k102, 4000, .inl f103)), (q106, .inl (k107, 20, .inl f108)), (q111, .inl (k112, 29, .inr (.inl (vp_updL f520 (28 : Int32).toNatClampNeg 499967946343))))] H := hP
  have hD : va_D A [(Ad0, .inr (15, s110)), (q101, .inl (k102, 4000, .inl f103)), (q106, .inl (k107, 20, .inl f108)), (q111, .inl (k112, 29, .inr (.inl (vp_updL f520 (28 : Int32).toNatClampNeg 499967946343))))] := hD
  have q550 : (vp_updL f520 (28 : Int32).toNatClampNeg 499967946343) (0 : Int32).toNatClampNeg = 6384748 := (kn_neL (by decide)).trans q521
  have q551 : (vp_updL f520 (28 : Int32).toNatClampNeg 499967946343) (1 : Int32).toNatClampNeg = 7305070 := (kn_neL (by decide)).trans q522
  have q552 : (vp_updL f520 (28 : Int32).toNatClampNeg 499967946343) (2 : Int32).toNatClampNeg = 127991794263923 := (kn_neL (by decide)).trans q523
  have q553 : (vp_updL f520 (28 : Int32).toNatClampNeg 499967946343) (3 : Int32).toNatClampNeg = 512852587109 := (kn_neL (by decide)).trans q524
  have q554 : (vp_updL f520 (28 : Int32).toNatClampNeg 499967946343) (4 : Int32).toNatClampNeg = 6776180 := (kn_neL (by decide)).trans q525
  have q555 : (vp_updL f520 (28 : Int32).toNatClampNeg 499967946343) (5 : Int32).toNatClampNeg = 6385252 := (kn_neL (by decide)).trans q526
  have q556 : (vp_updL f520 (28 : Int32).toNatClampNeg 499967946343) (6 : Int32).toNatClampNeg = 28530 := (kn_neL (by decide)).trans q527
  have q557 : (vp_updL f520 (28 : Int32).toNatClampNeg 499967946343) (7 : Int32).toNatClampNeg = 7237492 := (kn_neL (by decide)).trans q528
  have q558 : (vp_updL f520 (28 : Int32).toNatClampNeg 499967946343) (8 : Int32).toNatClampNeg = 1853189228 := (kn_neL (by decide)).trans q529
  have q559 : (vp_updL f520 (28 : Int32).toNatClampNeg 499967946343) (9 : Int32).toNatClampNeg = 1953658213 := (kn_neL (by decide)).trans q530
  have q560 : (vp_updL f520 (28 : Int32).toNatClampNeg 499967946343) (10 : Int32).toNatClampNeg = 439721161573 := (kn_neL (by decide)).trans q531
  have q561 : (vp_updL f520 (28 : Int32).toNatClampNeg 499967946343) (11 : Int32).toNatClampNeg = 26995 := (kn_neL (by decide)).trans q532
  have q562 : (vp_updL f520 (28 : Int32).toNatClampNeg 499967946343) (12 : Int32).toNatClampNeg = 26990 := (kn_neL (by decide)).trans q533
  have q563 : (vp_updL f520 (28 : Int32).toNatClampNeg 499967946343) (13 : Int32).toNatClampNeg = 427071729268 := (kn_neL (by decide)).trans q534
  have q564 : (vp_updL f520 (28 : Int32).toNatClampNeg 499967946343) (14 : Int32).toNatClampNeg = 7566701 := (kn_neL (by decide)).trans q535
  have q565 : (vp_updL f520 (28 : Int32).toNatClampNeg 499967946343) (15 : Int32).toNatClampNeg = 1836020596 := (kn_neL (by decide)).trans q536
  have q566 : (vp_updL f520 (28 : Int32).toNatClampNeg 499967946343) (16 : Int32).toNatClampNeg = 465557353332 := (kn_neL (by decide)).trans q537
  have q567 : (vp_updL f520 (28 : Int32).toNatClampNeg 499967946343) (17 : Int32).toNatClampNeg = 1936682341 := (kn_neL (by decide)).trans q538
  have q568 : (vp_updL f520 (28 : Int32).toNatClampNeg 499967946343) (18 : Int32).toNatClampNeg = 1700881256 := (kn_neL (by decide)).trans q539
  have q569 : (vp_updL f520 (28 : Int32).toNatClampNeg 499967946343) (19 : Int32).toNatClampNeg = 1936292453 := (kn_neL (by decide)).trans q540
  have q570 : (vp_updL f520 (28 : Int32).toNatClampNeg 499967946343) (20 : Int32).toNatClampNeg = 1801810036 := (kn_neL (by decide)).trans q541
  have q571 : (vp_updL f520 (28 : Int32).toNatClampNeg 499967946343) (21 : Int32).toNatClampNeg = 431198598248 := (kn_neL (by decide)).trans q542
  have q572 : (vp_updL f520 (28 : Int32).toNatClampNeg 499967946343) (22 : Int32).toNatClampNeg = 119182899770472 := (kn_neL (by decide)).trans q543
  have q573 : (vp_updL f520 (28 : Int32).toNatClampNeg 499967946343) (23 : Int32).toNatClampNeg = 427020088179 := (kn_neL (by decide)).trans q544
  have q574 : (vp_updL f520 (28 : Int32).toNatClampNeg 499967946343) (24 : Int32).toNatClampNeg = 495740482675 := (kn_neL (by decide)).trans q545
  have q575 : (vp_updL f520 (28 : Int32).toNatClampNeg 499967946343) (25 : Int32).toNatClampNeg = 1751477348 := (kn_neL (by decide)).trans q546
  have q576 : (vp_updL f520 (28 : Int32).toNatClampNeg 499967946343) (26 : Int32).toNatClampNeg = 1718775661 := (kn_neL (by decide)).trans q547
  have q577 : (vp_updL f520 (28 : Int32).toNatClampNeg 499967946343) (27 : Int32).toNatClampNeg = 26996 := (kn_neL (by decide)).trans q548
  have q578 : (vp_updL f520 (28 : Int32).toNatClampNeg 499967946343) (28 : Int32).toNatClampNeg = 499967946343 := pk_uLs
  generalize vp_updL f520 (28 : Int32).toNatClampNeg 499967946343 = f549 at hP hD q550 q551 q552 q553 q554 q555 q556 q557 q558 q559 q560 q561 q562 q563 q564 q565 q566 q567 q568 q569 q570 q571 q572 q573 q574 q575 q576 q577 q578
  refine va_putF (D := (dC, dI)) (ci := 15) (v := .ref q111) (ty := .array .long) (C := RX12) (T := TX12) (N := 150) hx hb hts (in_z_X12_init_X12) tyX12 tyX12_ok nmX12 hown hK hP hD hS 0 rfl rfl 4 (by decide) (hts (.fieldLink RX12 74 "HeapWorksModel" "keys" "[J") (by decide +kernel)) (fun _ h9 => h9) rfl hin rfl (by decide +kernel) rfl rfl (by rw [o_s110.2.1]; decide) dX12_init_223 (fun H locs hP hD hS => ?_)
  have hP : va_P (dC, dI) vwCl [(Ad0, .inr (15, (s110.set 4 (.ref q111)))), (q101, .inl (k102, 4000, .inl f103)), (q106, .inl (k107, 20, .inl f108)), (q111, .inl (k112, 29, .inr (.inl f549)))] H := hP
  have hD : va_D A [(Ad0, .inr (15, (s110.set 4 (.ref q111)))), (q101, .inl (k102, 4000, .inl f103)), (q106, .inl (k107, 20, .inl f108)), (q111, .inl (k112, 29, .inr (.inl f549)))] := hD
  have o_s579 := ow_set o_s110 4 (.ref q111) (by decide) (l' := [(4, .ref q111), (2, .ref q106), (1, .ref q101)]) (w' := [4, 2, 1]) rfl rfl
  generalize (s110.set 4 (.ref q111)) = s579 at hP hD o_s579
  exact z_X12_init_s1 l dC dI Ad0 Fs0 s579 q101 f103 k102 q106 f108 k107 q111 f549 k112 hx hb hr hml hts hown hlocks hin hA o_s579 z104 z109 q550 q551 q552 q553 q554 q555 q556 q557 q558 q559 q560 q561 q562 q563 q564 q565 q566 q567 q568 q569 q570 q571 q572 q573 q574 q575 q576 q577 q578 hK hP hD hS ls hl

