def l_zk_X5_init : List Cond := [.methodLink RX5 3 objectInit, .instanceMethod objectInit, .code objectInit ⟨#[0xb1]⟩ 1 none, .arrayClass .int, .fieldLink RX5 11 "HeapWorks$Picture" "object" "[I", .fieldLink RX5 15 "HeapWorks$Picture" "type" "[I", .fieldLink RX5 18 "HeapWorks$Picture" "length" "[I", .fieldLink RX5 21 "HeapWorks$Picture" "first" "[I", .fieldLink RX5 24 "HeapWorks$Picture" "depth" "[I", .fieldLink RX5 27 "HeapWorks$Picture" "wayThing" "[I", .fieldLink RX5 30 "HeapWorks$Picture" "waySlot" "[I", .fieldLink RX5 35 "HeapWorks$Picture" "thingOf" "[I", .methodLink RX5 38 yJ7_fill_53178, .static yJ7_fill_53178, .initialized RJ7, .arrayClass .long, .fieldLink RX5 44 "HeapWorks$Picture" "value" "[J", .arrayClass .boolean, .fieldLink RX5 48 "HeapWorks$Picture" "link" "[Z", .fieldLink RX5 52 "HeapWorks$Picture" "rootNumber" "[I", .fieldLink RX5 55 "HeapWorks$Picture" "rootThing" "[I", .fieldLink RX5 58 "HeapWorks$Picture" "chosen" "[Z", .fieldLink RX5 61 "HeapWorks$Picture" "lostThings" "[I", .fieldLink RX5 64 "HeapWorks$Picture" "mark" "[I", .fieldLink RX5 67 "HeapWorks$Picture" "mate" "[I", .fieldLink RX5 70 "HeapWorks$Picture" "queue" "[I", .classLink RX5 73 RX8, .instantiable RX8 18, .initialized RX8, .methodLink RX5 75 yX8_init, .instanceMethod yX8_init, .fieldLink RX5 78 "HeapWorks$Picture" "shape" "LHeapWorks$Shape;", .code yJ7_fill_53178 cJ7_fill_53178 4 none, .code yX8_init cX8_init 2 none, .methodLink RX8 3 objectInit, .fieldLink RX8 9 "HeapWorks$Shape" "types" "LHeapWorks$Types;", .fieldLink RX8 17 "HeapWorks$Shape" "holderFirst" "[I", .fieldLink RX8 21 "HeapWorks$Shape" "holderThing" "[I", .fieldLink RX8 24 "HeapWorks$Shape" "holderSlot" "[I", .fieldLink RX8 27 "HeapWorks$Shape" "dominator" "[I", .fieldLink RX8 30 "HeapWorks$Shape" "kept" "[I", .fieldLink RX8 33 "HeapWorks$Shape" "dominated" "[I", .fieldLink RX8 36 "HeapWorks$Shape" "ring" "[I", .fieldLink RX8 39 "HeapWorks$Shape" "twin" "[I", .fieldLink RX8 42 "HeapWorks$Shape" "order" "[I", .fieldLink RX8 45 "HeapWorks$Shape" "low" "[I", .fieldLink RX8 48 "HeapWorks$Shape" "stack" "[I", .fieldLink RX8 51 "HeapWorks$Shape" "path" "[I", .fieldLink RX8 54 "HeapWorks$Shape" "cursor" "[I", .fieldLink RX8 57 "HeapWorks$Shape" "bucket" "[I"]
def w_zk_X5_init : List Cond := .code yX5_init cX5_init 2 none :: (l_zk_X5_init ++ ((wsX50 ++ wsX80)))
theorem in_zk_X5_init_X5 : ∀ w ∈ wsX50, w ∈ w_zk_X5_init := fun w h => List.mem_cons_of_mem _ (List.mem_append_right _ (List.mem_append_left _ h))
theorem in_zk_X5_init_X8 : ∀ w ∈ wsX80, w ∈ w_zk_X5_init := fun w h => List.mem_cons_of_mem _ (List.mem_append_right _ (List.mem_append_right _ (h)))
theorem g_zk_X5_init_zk_J7_fill_53178_38 : GoodIn w_zk_X5_init (va_wsS RX5 38 yJ7_fill_53178 w_zk_J7_fill_53178) := goodIn_app (goodIn_sub (by decide +kernel) (by decide +kernel)) (goodIn_sub (by decide +kernel) (by decide +kernel))
theorem g_zk_X5_init_zk_X8_init_75 : GoodIn w_zk_X5_init w_zk_X8_init := (goodIn_ca (goodIn_sub (by decide +kernel) (by decide +kernel)) (goodIn_in in_zk_X5_init_X8 gd_X8))
set_option maxHeartbeats 4000000 in
set_option maxRecDepth 100000 in
theorem zk_X5_init (l : Launch) (dC : Nat → ClassId) (dI : Nat → Nat → Nat) (sz : Nat) (Ad0 : Nat) (Fs0 : List Value) (Br0 : Nat) (k_Fs0 : fh Fs0 21 [(8, .null)])  : Met l yX5_init w_zk_X5_init ({ frames := 2, cells := 32, slots := 26564, locals := 45 }) (va_Pc [.ref Ad0, .ref Br0] (fun U => U.heap.size = sz ∧ Wd dC dI [] (fun _ => True) [(Ad0, .inr (8, Fs0))] U)) (va_Qv (fun (u : List Value × Nat × List Value × Nat × (Nat → Int32) × ClassId × Nat × (Nat → Int32) × ClassId × Nat × (Nat → Int32) × ClassId × Nat × (Nat → Int32) × ClassId × Nat × (Nat → Int32) × ClassId × Nat × (Nat → Int32) × ClassId × Nat × (Nat → Int32) × ClassId) => match u with | (s6111, q6017, s6090, q6002, f6004, k6003, q5931, f5971, k5932, q6091, f6092, k6093, q6094, f6095, k6096, q6097, f6098, k6099, q6100, f6101, k6102, q6103, f6104, k6105) => (ow Fs0 (s6111) 21 [20, 19, 18, 17, 15, 14, 13, 12, 10, 9, 8, 7, 6, 5, 4, 3, 2, 1] [(20, .ref q6017), (17, .ref q6002), (8, .ref q5931)] ∧ fh s6090 18 [(17, .ref q6091), (15, .ref q6094), (13, .ref q6097), (10, .ref q6100), (8, .ref q6103), (0, .ref Br0), (1, .int 0), (9, .int 0), (11, .int 0)] ∧ (∀ j, f6004 j = 0) ∧ (∀ j, f6092 j = 0) ∧ (∀ j, f6095 j = 0) ∧ (∀ j, f6098 j = 0) ∧ (∀ j, f6101 j = 0) ∧ (∀ j, f6104 j = 0))) (fun (u : List Value × Nat × List Value × Nat × (Nat → Int32) × ClassId × Nat × (Nat → Int32) × ClassId × Nat × (Nat → Int32) × ClassId × Nat × (Nat → Int32) × ClassId × Nat × (Nat → Int32) × ClassId × Nat × (Nat → Int32) × ClassId × Nat × (Nat → Int32) × ClassId) t => match u with | (s6111, q6017, s6090, q6002, f6004, k6003, q5931, f5971, k5932, q6091, f6092, k6093, q6094, f6095, k6096, q6097, f6098, k6099, q6100, f6101, k6102, q6103, f6104, k6105) => Wd dC dI [(k6003, .int), (k5932, .int), (k6093, .int), (k6096, .int), (k6099, .int), (k6102, .int), (k6105, .int)] (va_A [(Ad0, .inr (8, Fs0))] sz) [(Ad0, .inr (8, s6111)), (q6017, .inr (11, s6090)), (q6002, .inl (k6003, 400, .inl f6004)), (q5931, .inl (k5932, 400, .inl f5971)), (q6091, .inl (k6093, 512, .inl f6092)), (q6094, .inl (k6096, 400, .inl f6095)), (q6097, .inl (k6099, 400, .inl f6098)), (q6100, .inl (k6102, 400, .inl f6101)), (q6103, .inl (k6105, 400, .inl f6104))] t) (va_A [(Ad0, .inr (8, Fs0))] sz))  32 26564 (va_A [(Ad0, .inr (8, Fs0))] sz) := by
  refine Met.ofW (cc := cX5_init) (maxL := 2) (ret := none) (by decide) rfl ?_
  intro p e s m args below meth c s₁ B hml hv
  obtain ⟨rfl, hsz, hP, hK, hD0⟩ := hv
  have hx := B.exec
  have hb := B.bytes
  have hr := B.returns
  have hts := atoms_spec (ws := w_zk_X5_init) B.pre
  have hown : s.vm.findClass RX5 = some m.cls := findClass_of_methodNamed B.named
  have hlocks := B.notSynchronized
  have hin : meth.name = "<init>" := (name_of_methodNamed B.named B.method).1
  subst hsz
  have hD := hD0.self (sz := s.heap.size)
  generalize hAe : va_A [(Ad0, .inr (8, Fs0))] s.heap.size = A at hD ⊢
  have hA : ∀ q : Nat, s.heap.size ≤ q → A q := fun q h => by rw [← hAe]; exact Or.inr h
  have hS : va_S A s.heap s.heap [] := va_S.rf
  have hl := lv_entry ([.ref Ad0, .ref Br0]) (n := 2) (Nat.le_of_ble_eq_true rfl)
  rw [lg_entry_eq]
  generalize (lg_sl ([.ref Ad0, .ref Br0]) ++ List.replicate (2 - (lg_sl ([.ref Ad0, .ref Br0])).length) Slot.unset).toArray = ls at hl ⊢
  have hl : lv_has ls 2 [(0, .ref Ad0), (1, .ref Br0)] := hl
  have o_Fs0 := ow_0 k_Fs0
  refine lv_aload_n hx hb dX5_init_0 rfl (lv_at hl 0 rfl) ?_
  refine W.objInit hx hb hown (hts (.methodLink RX5 3 objectInit) (by decide +kernel)) (hts (.instanceMethod objectInit) (by decide +kernel)) (hts (.code objectInit ⟨#[0xb1]⟩ 1 none) (by decide +kernel)) rfl (by rw [hml]; exact hl.1) rfl dX5_init_1 (Nat.le_of_ble_eq_true rfl) (Nat.le_of_ble_eq_true rfl) ?_
  refine W.eq (g2 := F0 m 4 ls []) rfl ?_
  refine lv_aload_n hx hb dX5_init_4 rfl (lv_at hl 0 rfl) ?_
  refine lv_sipush (v := 400) hx hb dX5_init_5 (by decide) ?_
  refine va_newa (atype := .int) (ty := .int) (a0 := (400, .inl (fun _ : Nat => (0 : Int32)))) (N' := 400) hx hb (hts (.arrayClass .int) (by decide +kernel)) rfl hK hP hD hS hA (na_I 400) (by decide) (by decide) (by decide) (Nat.le_of_ble_eq_true rfl) (Nat.le_of_ble_eq_true rfl) dX5_init_8 (fun q5896 k5897 H hK hP hD hS => ?_)
  have hK : va_K (dC, dI) vwCl [(k5897, .int)] s := hK
  have hP : va_P (dC, dI) vwCl [(Ad0, .inr (8, Fs0)), (q5896, .inl (k5897, 400, .inl ((fun _ : Nat => (0 : Int32)))))] H := hP
  have hD : va_D A [(Ad0, .inr (8, Fs0)), (q5896, .inl (k5897, 400, .inl ((fun _ : Nat => (0 : Int32)))))] := hD
  have z5899 : ∀ j, (fun _ : Nat => (0 : Int32)) j = 0 := fun _ => rfl
  generalize (fun _ : Nat => (0 : Int32)) = f5898 at hP hD z5899
  refine W.widen (k := 1) (n := 400) (by omega) (by omega) ?_
  refine va_putF (D := (dC, dI)) (ci := 8) (v := .ref q5896) (ty := .array .int) (C := RX5) (T := TX5) (N := 21) hx hb hts (in_zk_X5_init_X5) tyX5 tyX5_ok nmX5 hown hK hP hD hS 0 rfl rfl 1 (by decide) (hts (.fieldLink RX5 11 "HeapWorks$Picture" "object" "[I") (by decide +kernel)) (fun _ h9 => h9) rfl hin rfl (by decide +kernel) rfl rfl (by rw [o_Fs0.2.1]; decide) dX5_init_10 (fun H locs hP hD hS => ?_)
  have hP : va_P (dC, dI) vwCl [(Ad0, .inr (8, (Fs0.set 1 (.ref q5896)))), (q5896, .inl (k5897, 400, .inl f5898))] H := hP
  have hD : va_D A [(Ad0, .inr (8, (Fs0.set 1 (.ref q5896)))), (q5896, .inl (k5897, 400, .inl f5898))] := hD
  have o_s5900 := ow_set o_Fs0 1 (.ref q5896) (by decide) (l' := [(1, .ref q5896), (8, .null)]) (w' := [1]) rfl rfl
  generalize (Fs0.set 1 (.ref q5896)) = s5900 at hP hD o_s5900
  have hP := hP.sub (ws' := [(Ad0, .inr (8, s5900))]) [0] rfl
  have hD := hD.sub (ws' := [(Ad0, .inr (8, s5900))]) [0] (by decide) rfl
  have hK := hK.sub (tys' := []) [] rfl
  refine lv_aload_n hx hb dX5_init_13 rfl (lv_at hl 0 rfl) ?_
  refine lv_sipush (v := 400) hx hb dX5_init_14 (by decide) ?_
  refine va_newa (atype := .int) (ty := .int) (a0 := (400, .inl (fun _ : Nat => (0 : Int32)))) (N' := 400) hx hb (hts (.arrayClass .int) (by decide +kernel)) rfl hK hP hD hS hA (na_I 400) (by decide) (by decide) (by decide) (Nat.le_of_ble_eq_true rfl) (Nat.le_of_ble_eq_true rfl) dX5_init_17 (fun q5901 k5902 H hK hP hD hS => ?_)
  have hK : va_K (dC, dI) vwCl [(k5902, .int)] s := hK
  have hP : va_P (dC, dI) vwCl [(Ad0, .inr (8, s5900)), (q5901, .inl (k5902, 400, .inl ((fun _ : Nat => (0 : Int32)))))] H := hP
  have hD : va_D A [(Ad0, .inr (8, s5900)), (q5901, .inl (k5902, 400, .inl ((fun _ : Nat => (0 : Int32)))))] := hD
  have z5904 : ∀ j, (fun _ : Nat => (0 : Int32)) j = 0 := fun _ => rfl
  generalize (fun _ : Nat => (0 : Int32)) = f5903 at hP hD z5904
  refine W.widen (k := 2) (n := 800) (by omega) (by omega) ?_
  refine va_putF (D := (dC, dI)) (ci := 8) (v := .ref q5901) (ty := .array .int) (C := RX5) (T := TX5) (N := 21) hx hb hts (in_zk_X5_init_X5) tyX5 tyX5_ok nmX5 hown hK hP hD hS 0 rfl rfl 2 (by decide) (hts (.fieldLink RX5 15 "HeapWorks$Picture" "type" "[I") (by decide +kernel)) (fun _ h9 => h9) rfl hin rfl (by decide +kernel) rfl rfl (by rw [o_s5900.2.1]; decide) dX5_init_19 (fun H locs hP hD hS => ?_)
  have hP : va_P (dC, dI) vwCl [(Ad0, .inr (8, (s5900.set 2 (.ref q5901)))), (q5901, .inl (k5902, 400, .inl f5903))] H := hP
  have hD : va_D A [(Ad0, .inr (8, (s5900.set 2 (.ref q5901)))), (q5901, .inl (k5902, 400, .inl f5903))] := hD
  have o_s5905 := ow_set o_s5900 2 (.ref q5901) (by decide) (l' := [(2, .ref q5901), (1, .ref q5896), (8, .null)]) (w' := [2, 1]) rfl rfl
  generalize (s5900.set 2 (.ref q5901)) = s5905 at hP hD o_s5905
  have hP := hP.sub (ws' := [(Ad0, .inr (8, s5905))]) [0] rfl
  have hD := hD.sub (ws' := [(Ad0, .inr (8, s5905))]) [0] (by decide) rfl
  have hK := hK.sub (tys' := []) [] rfl
  refine lv_aload_n hx hb dX5_init_22 rfl (lv_at hl 0 rfl) ?_
  refine lv_sipush (v := 400) hx hb dX5_init_23 (by decide) ?_
  refine va_newa (atype := .int) (ty := .int) (a0 := (400, .inl (fun _ : Nat => (0 : Int32)))) (N' := 400) hx hb (hts (.arrayClass .int) (by decide +kernel)) rfl hK hP hD hS hA (na_I 400) (by decide) (by decide) (by decide) (Nat.le_of_ble_eq_true rfl) (Nat.le_of_ble_eq_true rfl) dX5_init_26 (fun q5906 k5907 H hK hP hD hS => ?_)
  have hK : va_K (dC, dI) vwCl [(k5907, .int)] s := hK
  have hP : va_P (dC, dI) vwCl [(Ad0, .inr (8, s5905)), (q5906, .inl (k5907, 400, .inl ((fun _ : Nat => (0 : Int32)))))] H := hP
  have hD : va_D A [(Ad0, .inr (8, s5905)), (q5906, .inl (k5907, 400, .inl ((fun _ : Nat => (0 : Int32)))))] := hD
  have z5909 : ∀ j, (fun _ : Nat => (0 : Int32)) j = 0 := fun _ => rfl
  generalize (fun _ : Nat => (0 : Int32)) = f5908 at hP hD z5909
  refine W.widen (k := 3) (n := 1200) (by omega) (by omega) ?_
  refine va_putF (D := (dC, dI)) (ci := 8) (v := .ref q5906) (ty := .array .int) (C := RX5) (T := TX5) (N := 21) hx hb hts (in_zk_X5_init_X5) tyX5 tyX5_ok nmX5 hown hK hP hD hS 0 rfl rfl 3 (by decide) (hts (.fieldLink RX5 18 "HeapWorks$Picture" "length" "[I") (by decide +kernel)) (fun _ h9 => h9) rfl hin rfl (by decide +kernel) rfl rfl (by rw [o_s5905.2.1]; decide) dX5_init_28 (fun H locs hP hD hS => ?_)
  have hP : va_P (dC, dI) vwCl [(Ad0, .inr (8, (s5905.set 3 (.ref q5906)))), (q5906, .inl (k5907, 400, .inl f5908))] H := hP
  have hD : va_D A [(Ad0, .inr (8, (s5905.set 3 (.ref q5906)))), (q5906, .inl (k5907, 400, .inl f5908))] := hD
  have o_s5910 := ow_set o_s5905 3 (.ref q5906) (by decide) (l' := [(3, .ref q5906), (2, .ref q5901), (1, .ref q5896), (8, .null)]) (w' := [3, 2, 1]) rfl rfl
  generalize (s5905.set 3 (.ref q5906)) = s5910 at hP hD o_s5910
  have hP := hP.sub (ws' := [(Ad0, .inr (8, s5910))]) [0] rfl
  have hD := hD.sub (ws' := [(Ad0, .inr (8, s5910))]) [0] (by decide) rfl
  have hK := hK.sub (tys' := []) [] rfl
  refine lv_aload_n hx hb dX5_init_31 rfl (lv_at hl 0 rfl) ?_
  refine lv_sipush (v := 401) hx hb dX5_init_32 (by decide) ?_
  refine va_newa (atype := .int) (ty := .int) (a0 := (401, .inl (fun _ : Nat => (0 : Int32)))) (N' := 401) hx hb (hts (.arrayClass .int) (by decide +kernel)) rfl hK hP hD hS hA (na_I 401) (by decide) (by decide) (by decide) (Nat.le_of_ble_eq_true rfl) (Nat.le_of_ble_eq_true rfl) dX5_init_35 (fun q5911 k5912 H hK hP hD hS => ?_)
  have hK : va_K (dC, dI) vwCl [(k5912, .int)] s := hK
  have hP : va_P (dC, dI) vwCl [(Ad0, .inr (8, s5910)), (q5911, .inl (k5912, 401, .inl ((fun _ : Nat => (0 : Int32)))))] H := hP
  have hD : va_D A [(Ad0, .inr (8, s5910)), (q5911, .inl (k5912, 401, .inl ((fun _ : Nat => (0 : Int32)))))] := hD
  have z5914 : ∀ j, (fun _ : Nat => (0 : Int32)) j = 0 := fun _ => rfl
  generalize (fun _ : Nat => (0 : Int32)) = f5913 at hP hD z5914
  refine W.widen (k := 4) (n := 1601) (by omega) (by omega) ?_
  refine va_putF (D := (dC, dI)) (ci := 8) (v := .ref q5911) (ty := .array .int) (C := RX5) (T := TX5) (N := 21) hx hb hts (in_zk_X5_init_X5) tyX5 tyX5_ok nmX5 hown hK hP hD hS 0 rfl rfl 4 (by decide) (hts (.fieldLink RX5 21 "HeapWorks$Picture" "first" "[I") (by decide +kernel)) (fun _ h9 => h9) rfl hin rfl (by decide +kernel) rfl rfl (by rw [o_s5910.2.1]; decide) dX5_init_37 (fun H locs hP hD hS => ?_)
  have hP : va_P (dC, dI) vwCl [(Ad0, .inr (8, (s5910.set 4 (.ref q5911)))), (q5911, .inl (k5912, 401, .inl f5913))] H := hP
  have hD : va_D A [(Ad0, .inr (8, (s5910.set 4 (.ref q5911)))), (q5911, .inl (k5912, 401, .inl f5913))] := hD
  have o_s5915 := ow_set o_s5910 4 (.ref q5911) (by decide) (l' := [(4, .ref q5911), (3, .ref q5906), (2, .ref q5901), (1, .ref q5896), (8, .null)]) (w' := [4, 3, 2, 1]) rfl rfl
  generalize (s5910.set 4 (.ref q5911)) = s5915 at hP hD o_s5915
  have hP := hP.sub (ws' := [(Ad0, .inr (8, s5915))]) [0] rfl
  have hD := hD.sub (ws' := [(Ad0, .inr (8, s5915))]) [0] (by decide) rfl
  have hK := hK.sub (tys' := []) [] rfl
  refine lv_aload_n hx hb dX5_init_40 rfl (lv_at hl 0 rfl) ?_
  refine lv_sipush (v := 400) hx hb dX5_init_41 (by decide) ?_
  refine va_newa (atype := .int) (ty := .int) (a0 := (400, .inl (fun _ : Nat => (0 : Int32)))) (N' := 400) hx hb (hts (.arrayClass .int) (by decide +kernel)) rfl hK hP hD hS hA (na_I 400) (by decide) (by decide) (by decide) (Nat.le_of_ble_eq_true rfl) (Nat.le_of_ble_eq_true rfl) dX5_init_44 (fun q5916 k5917 H hK hP hD hS => ?_)
  have hK : va_K (dC, dI) vwCl [(k5917, .int)] s := hK
  have hP : va_P (dC, dI) vwCl [(Ad0, .inr (8, s5915)), (q5916, .inl (k5917, 400, .inl ((fun _ : Nat => (0 : Int32)))))] H := hP
  have hD : va_D A [(Ad0, .inr (8, s5915)), (q5916, .inl (k5917, 400, .inl ((fun _ : Nat => (0 : Int32)))))] := hD
  have z5919 : ∀ j, (fun _ : Nat => (0 : Int32)) j = 0 := fun _ => rfl
  generalize (fun _ : Nat => (0 : Int32)) = f5918 at hP hD z5919
  refine W.widen (k := 5) (n := 2001) (by omega) (by omega) ?_
  refine va_putF (D := (dC, dI)) (ci := 8) (v := .ref q5916) (ty := .array .int) (C := RX5) (T := TX5) (N := 21) hx hb hts (in_zk_X5_init_X5) tyX5 tyX5_ok nmX5 hown hK hP hD hS 0 rfl rfl 5 (by decide) (hts (.fieldLink RX5 24 "HeapWorks$Picture" "depth" "[I") (by decide +kernel)) (fun _ h9 => h9) rfl hin rfl (by decide +kernel) rfl rfl (by rw [o_s5915.2.1]; decide) dX5_init_46 (fun H locs hP hD hS => ?_)
  have hP : va_P (dC, dI) vwCl [(Ad0, .inr (8, (s5915.set 5 (.ref q5916)))), (q5916, .inl (k5917, 400, .inl f5918))] H := hP
  have hD : va_D A [(Ad0, .inr (8, (s5915.set 5 (.ref q5916)))), (q5916, .inl (k5917, 400, .inl f5918))] := hD
  have o_s5920 := ow_set o_s5915 5 (.ref q5916) (by decide) (l' := [(5, .ref q5916), (4, .ref q5911), (3, .ref q5906), (2, .ref q5901), (1, .ref q5896), (8, .null)]) (w' := [5, 4, 3, 2, 1]) rfl rfl
  generalize (s5915.set 5 (.ref q5916)) = s5920 at hP hD o_s5920
  have hP := hP.sub (ws' := [(Ad0, .inr (8, s5920))]) [0] rfl
  have hD := hD.sub (ws' := [(Ad0, .inr (8, s5920))]) [0] (by decide) rfl
  have hK := hK.sub (tys' := []) [] rfl
  refine lv_aload_n hx hb dX5_init_49 rfl (lv_at hl 0 rfl) ?_
  refine lv_sipush (v := 400) hx hb dX5_init_50 (by decide) ?_
  refine va_newa (atype := .int) (ty := .int) (a0 := (400, .inl (fun _ : Nat => (0 : Int32)))) (N' := 400) hx hb (hts (.arrayClass .int) (by decide +kernel)) rfl hK hP hD hS hA (na_I 400) (by decide) (by decide) (by decide) (Nat.le_of_ble_eq_true rfl) (Nat.le_of_ble_eq_true rfl) dX5_init_53 (fun q5921 k5922 H hK hP hD hS => ?_)
  have hK : va_K (dC, dI) vwCl [(k5922, .int)] s := hK
  have hP : va_P (dC, dI) vwCl [(Ad0, .inr (8, s5920)), (q5921, .inl (k5922, 400, .inl ((fun _ : Nat => (0 : Int32)))))] H := hP
  have hD : va_D A [(Ad0, .inr (8, s5920)), (q5921, .inl (k5922, 400, .inl ((fun _ : Nat => (0 : Int32)))))] := hD
  have z5924 : ∀ j, (fun _ : Nat => (0 : Int32)) j = 0 := fun _ => rfl
  generalize (fun _ : Nat => (0 : Int32)) = f5923 at hP hD z5924
  refine W.widen (k := 6) (n := 2401) (by omega) (by omega) ?_
  refine va_putF (D := (dC, dI)) (ci := 8) (v := .ref q5921) (ty := .array .int) (C := RX5) (T := TX5) (N := 21) hx hb hts (in_zk_X5_init_X5) tyX5 tyX5_ok nmX5 hown hK hP hD hS 0 rfl rfl 6 (by decide) (hts (.fieldLink RX5 27 "HeapWorks$Picture" "wayThing" "[I") (by decide +kernel)) (fun _ h9 => h9) rfl hin rfl (by decide +kernel) rfl rfl (by rw [o_s5920.2.1]; decide) dX5_init_55 (fun H locs hP hD hS => ?_)
  have hP : va_P (dC, dI) vwCl [(Ad0, .inr (8, (s5920.set 6 (.ref q5921)))), (q5921, .inl (k5922, 400, .inl f5923))] H := hP
  have hD : va_D A [(Ad0, .inr (8, (s5920.set 6 (.ref q5921)))), (q5921, .inl (k5922, 400, .inl f5923))] := hD
  have o_s5925 := ow_set o_s5920 6 (.ref q5921) (by decide) (l' := [(6, .ref q5921), (5, .ref q5916), (4, .ref q5911), (3, .ref q5906), (2, .ref q5901), (1, .ref q5896), (8, .null)]) (w' := [6, 5, 4, 3, 2, 1]) rfl rfl
  generalize (s5920.set 6 (.ref q5921)) = s5925 at hP hD o_s5925
  have hP := hP.sub (ws' := [(Ad0, .inr (8, s5925))]) [0] rfl
  have hD := hD.sub (ws' := [(Ad0, .inr (8, s5925))]) [0] (by decide) rfl
  have hK := hK.sub (tys' := []) [] rfl
  refine lv_aload_n hx hb dX5_init_58 rfl (lv_at hl 0 rfl) ?_
  refine lv_sipush (v := 400) hx hb dX5_init_59 (by decide) ?_
  refine va_newa (atype := .int) (ty := .int) (a0 := (400, .inl (fun _ : Nat => (0 : Int32)))) (N' := 400) hx hb (hts (.arrayClass .int) (by decide +kernel)) rfl hK hP hD hS hA (na_I 400) (by decide) (by decide) (by decide) (Nat.le_of_ble_eq_true rfl) (Nat.le_of_ble_eq_true rfl) dX5_init_62 (fun q5926 k5927 H hK hP hD hS => ?_)
  have hK : va_K (dC, dI) vwCl [(k5927, .int)] s := hK
  have hP : va_P (dC, dI) vwCl [(Ad0, .inr (8, s5925)), (q5926, .inl (k5927, 400, .inl ((fun _ : Nat => (0 : Int32)))))] H := hP
  have hD : va_D A [(Ad0, .inr (8, s5925)), (q5926, .inl (k5927, 400, .inl ((fun _ : Nat => (0 : Int32)))))] := hD
  have z5929 : ∀ j, (fun _ : Nat => (0 : Int32)) j = 0 := fun _ => rfl
  generalize (fun _ : Nat => (0 : Int32)) = f5928 at hP hD z5929
  refine W.widen (k := 7) (n := 2801) (by omega) (by omega) ?_
  refine va_putF (D := (dC, dI)) (ci := 8) (v := .ref q5926) (ty := .array .int) (C := RX5) (T := TX5) (N := 21) hx hb hts (in_zk_X5_init_X5) tyX5 tyX5_ok nmX5 hown hK hP hD hS 0 rfl rfl 7 (by decide) (hts (.fieldLink RX5 30 "HeapWorks$Picture" "waySlot" "[I") (by decide +kernel)) (fun _ h9 => h9) rfl hin rfl (by decide +kernel) rfl rfl (by rw [o_s5925.2.1]; decide) dX5_init_64 (fun H locs hP hD hS => ?_)
  have hP : va_P (dC, dI) vwCl [(Ad0, .inr (8, (s5925.set 7 (.ref q5926)))), (q5926, .inl (k5927, 400, .inl f5928))] H := hP
  have hD : va_D A [(Ad0, .inr (8, (s5925.set 7 (.ref q5926)))), (q5926, .inl (k5927, 400, .inl f5928))] := hD
  have o_s5930 := ow_set o_s5925 7 (.ref q5926) (by decide) (l' := [(7, .ref q5926), (6, .ref q5921), (5, .ref q5916), (4, .ref q5911), (3, .ref q5906), (2, .ref q5901), (1, .ref q5896), (8, .null)]) (w' := [7, 6, 5, 4, 3, 2, 1]) rfl rfl
  generalize (s5925.set 7 (.ref q5926)) = s5930 at hP hD o_s5930
  have hP := hP.sub (ws' := [(Ad0, .inr (8, s5930))]) [0] rfl
  have hD := hD.sub (ws' := [(Ad0, .inr (8, s5930))]) [0] (by decide) rfl
  have hK := hK.sub (tys' := []) [] rfl
  refine lv_aload_n hx hb dX5_init_67 rfl (lv_at hl 0 rfl) ?_
  refine lv_sipush (v := 400) hx hb dX5_init_68 (by decide) ?_
  refine va_newa (atype := .int) (ty := .int) (a0 := (400, .inl (fun _ : Nat => (0 : Int32)))) (N' := 400) hx hb (hts (.arrayClass .int) (by decide +kernel)) rfl hK hP hD hS hA (na_I 400) (by decide) (by decide) (by decide) (Nat.le_of_ble_eq_true rfl) (Nat.le_of_ble_eq_true rfl) dX5_init_71 (fun q5931 k5932 H hK hP hD hS => ?_)
  have hK : va_K (dC, dI) vwCl [(k5932, .int)] s := hK
  have hP : va_P (dC, dI) vwCl [(Ad0, .inr (8, s5930)), (q5931, .inl (k5932, 400, .inl ((fun _ : Nat => (0 : Int32)))))] H := hP
  have hD : va_D A [(Ad0, .inr (8, s5930)), (q5931, .inl (k5932, 400, .inl ((fun _ : Nat => (0 : Int32)))))] := hD
  have z5934 : ∀ j, (fun _ : Nat => (0 : Int32)) j = 0 := fun _ => rfl
  generalize (fun _ : Nat => (0 : Int32)) = f5933 at hP hD z5934
  refine W.widen (k := 8) (n := 3201) (by omega) (by omega) ?_
  refine va_putF (D := (dC, dI)) (ci := 8) (v := .ref q5931) (ty := .array .int) (C := RX5) (T := TX5) (N := 21) hx hb hts (in_zk_X5_init_X5) tyX5 tyX5_ok nmX5 hown hK hP hD hS 0 rfl rfl 8 (by decide) (hts (.fieldLink RX5 35 "HeapWorks$Picture" "thingOf" "[I") (by decide +kernel)) (fun _ h9 => h9) rfl hin rfl (by decide +kernel) rfl rfl (by rw [o_s5930.2.1]; decide) dX5_init_73 (fun H locs hP hD hS => ?_)
  have hP : va_P (dC, dI) vwCl [(Ad0, .inr (8, (s5930.set 8 (.ref q5931)))), (q5931, .inl (k5932, 400, .inl f5933))] H := hP
  have hD : va_D A [(Ad0, .inr (8, (s5930.set 8 (.ref q5931)))), (q5931, .inl (k5932, 400, .inl f5933))] := hD
  have o_s5935 := ow_set o_s5930 8 (.ref q5931) (by decide) (l' := [(8, .ref q5931), (7, .ref q5926), (6, .ref q5921), (5, .ref q5916), (4, .ref q5911), (3, .ref q5906), (2, .ref q5901), (1, .ref q5896)]) (w' := [8, 7, 6, 5, 4, 3, 2, 1]) rfl rfl
  generalize (s5930.set 8 (.ref q5931)) = s5935 at hP hD o_s5935
  refine lv_aload_n hx hb dX5_init_76 rfl (lv_at hl 0 rfl) ?_
  refine va_get (D := (dC, dI)) (ci := 8) (v := .ref q5931) (C := RX5) (T := TX5) (N := 21) hx hb hts (in_zk_X5_init_X5) hown hK hP 0 rfl rfl 8 (by decide) (hts (.fieldLink RX5 35 "HeapWorks$Picture" "thingOf" "[I") (by decide +kernel)) (fun _ h9 => h9) (ow_at o_s5935 0 rfl) dX5_init_77 ?_
  refine lv_iconst (v := (-1)) hx hb dX5_init_80 (by decide) ?_
  have hPc := hP.sub (ws' := [(q5931, .inl (k5932, 400, .inl f5933))]) [1] rfl
  have hDc := hD.sub (ws' := [(q5931, .inl (k5932, 400, .inl f5933))]) [1] (by decide) rfl
  have hKc := hK.sub (tys' := [(k5932, .int)]) [0] rfl
  have hFc := va_free (wc := [(q5931, .inl (k5932, 400, .inl f5933))]) hD hS hA [1] rfl
  refine va_callv (va_runS (As := [.ref q5931, .int (-1)]) (rest := []) ⟨hx, hb, hml, hown, hts⟩ (zk_J7_fill_53178 l dC dI H.size q5931 f5933 k5932  ) (va_cwS 2 hts g_zk_X5_init_zk_J7_fill_53178_38 rfl rfl rfl (by decide +kernel) ⟨Nat.le_of_ble_eq_true rfl, Nat.le_of_ble_eq_true rfl⟩) ⟨fun a U g mk q => by obtain ⟨q0, q1, qP, qK, qD⟩ := q; exact ⟨q0, q1, qP, va_K.moved (u := U) (U := U.calling g mk a) (Vm.Alike.refl U.vm) qK, qD⟩, fun U hU hW => ⟨rfl, by rw [hU], by rw [hU]; exact hPc, va_K.moved hW.alike hKc, hDc.weaken (fun _ _ _ _ => trivial)⟩⟩ rfl rfl hl.1 rfl (lv_room (Nat.le_of_ble_eq_true rfl)) dX5_init_81 ⟨Nat.le_of_ble_eq_true rfl, Nat.le_of_ble_eq_true rfl⟩) hS (fun q _ h => hFc q h) hFc (fun u t H1 locs ht hvm hw hB hz1 hk1 hS => ?_)
  obtain ⟨f5971, rfl⟩ : ∃ z, z = u := ⟨_, rfl⟩
  obtain ⟨hP1, hK1, hD1⟩ := hB
  rw [ht] at hP1
  try dsimp only at hw
  obtain ⟨hP, hD⟩ := va_join (wr := [(Ad0, .inr (8, s5935))]) (w1 := [(q5931, .inl (k5932, 400, .inl f5971))]) hP hD [1] [0] rfl rfl (by decide) (by decide) hk1 hFc hP1 hD1
  have hK := hK.sub (tys' := [(k5932, .int)]) [0] rfl
  generalize H1 = H at hP hS ⊢
  have hP : va_P (dC, dI) vwCl [(Ad0, .inr (8, s5935)), (q5931, .inl (k5932, 400, .inl f5971))] H := hP
  have hD : va_D A [(Ad0, .inr (8, s5935)), (q5931, .inl (k5932, 400, .inl f5971))] := hD
  refine lv_aload_n hx hb dX5_init_84 rfl (lv_at hl 0 rfl) ?_
  refine lv_sipush (v := 4000) hx hb dX5_init_85 (by decide) ?_
  refine va_newa (atype := .long) (ty := .long) (a0 := (4000, .inr (.inl (fun _ : Nat => (0 : Int64))))) (N' := 4000) hx hb (hts (.arrayClass .long) (by decide +kernel)) rfl hK hP hD hS hA (na_J 4000) (by decide) (by decide) (by decide) (Nat.le_of_ble_eq_true rfl) (Nat.le_of_ble_eq_true rfl) dX5_init_88 (fun q5972 k5973 H hK hP hD hS => ?_)
  have hK : va_K (dC, dI) vwCl [(k5932, .int), (k5973, .long)] s := hK
  have hP : va_P (dC, dI) vwCl [(Ad0, .inr (8, s5935)), (q5931, .inl (k5932, 400, .inl f5971)), (q5972, .inl (k5973, 4000, .inr (.inl ((fun _ : Nat => (0 : Int64))))))] H := hP
  have hD : va_D A [(Ad0, .inr (8, s5935)), (q5931, .inl (k5932, 400, .inl f5971)), (q5972, .inl (k5973, 4000, .inr (.inl ((fun _ : Nat => (0 : Int64))))))] := hD
  have z5975 : ∀ j, (fun _ : Nat => (0 : Int64)) j = 0 := fun _ => rfl
  generalize (fun _ : Nat => (0 : Int64)) = f5974 at hP hD z5975
  refine W.widen (k := 9) (n := 7201) (by omega) (by omega) ?_
  refine va_putF (D := (dC, dI)) (ci := 8) (v := .ref q5972) (ty := .array .long) (C := RX5) (T := TX5) (N := 21) hx hb hts (in_zk_X5_init_X5) tyX5 tyX5_ok nmX5 hown hK hP hD hS 0 rfl rfl 9 (by decide) (hts (.fieldLink RX5 44 "HeapWorks$Picture" "value" "[J") (by decide +kernel)) (fun _ h9 => h9) rfl hin rfl (by decide +kernel) rfl rfl (by rw [o_s5935.2.1]; decide) dX5_init_90 (fun H locs hP hD hS => ?_)
  have hP : va_P (dC, dI) vwCl [(Ad0, .inr (8, (s5935.set 9 (.ref q5972)))), (q5931, .inl (k5932, 400, .inl f5971)), (q5972, .inl (k5973, 4000, .inr (.inl f5974)))] H := hP
  have hD : va_D A [(Ad0, .inr (8, (s5935.set 9 (.ref q5972)))), (q5931, .inl (k5932, 400, .inl f5971)), (q5972, .inl (k5973, 4000, .inr (.inl f5974)))] := hD
  have o_s5976 := ow_set o_s5935 9 (.ref q5972) (by decide) (l' := [(9, .ref q5972), (8, .ref q5931), (7, .ref q5926), (6, .ref q5921), (5, .ref q5916), (4, .ref q5911), (3, .ref q5906), (2, .ref q5901), (1, .ref q5896)]) (w' := [9, 8, 7, 6, 5, 4, 3, 2, 1]) rfl rfl
  generalize (s5935.set 9 (.ref q5972)) = s5976 at hP hD o_s5976
  have hP := hP.sub (ws' := [(Ad0, .inr (8, s5976)), (q5931, .inl (k5932, 400, .inl f5971))]) [0, 1] rfl
  have hD := hD.sub (ws' := [(Ad0, .inr (8, s5976)), (q5931, .inl (k5932, 400, .inl f5971))]) [0, 1] (by decide) rfl
  have hK := hK.sub (tys' := [(k5932, .int)]) [0] rfl
  refine lv_aload_n hx hb dX5_init_93 rfl (lv_at hl 0 rfl) ?_
  refine lv_sipush (v := 4000) hx hb dX5_init_94 (by decide) ?_
  refine va_newa (atype := .boolean) (ty := .boolean) (a0 := (4000, .inl (fun _ : Nat => (0 : Int32)))) (N' := 4000) hx hb (hts (.arrayClass .boolean) (by decide +kernel)) rfl hK hP hD hS hA (na_Z 4000) (by decide) (by decide) (by decide) (Nat.le_of_ble_eq_true rfl) (Nat.le_of_ble_eq_true rfl) dX5_init_97 (fun q5977 k5978 H hK hP hD hS => ?_)
  have hK : va_K (dC, dI) vwCl [(k5932, .int), (k5978, .boolean)] s := hK
  have hP : va_P (dC, dI) vwCl [(Ad0, .inr (8, s5976)), (q5931, .inl (k5932, 400, .inl f5971)), (q5977, .inl (k5978, 4000, .inl ((fun _ : Nat => (0 : Int32)))))] H := hP
  have hD : va_D A [(Ad0, .inr (8, s5976)), (q5931, .inl (k5932, 400, .inl f5971)), (q5977, .inl (k5978, 4000, .inl ((fun _ : Nat => (0 : Int32)))))] := hD
  have z5980 : ∀ j, (fun _ : Nat => (0 : Int32)) j = 0 := fun _ => rfl
  generalize (fun _ : Nat => (0 : Int32)) = f5979 at hP hD z5980
  refine W.widen (k := 10) (n := 11201) (by omega) (by omega) ?_
  refine va_putF (D := (dC, dI)) (ci := 8) (v := .ref q5977) (ty := .array .boolean) (C := RX5) (T := TX5) (N := 21) hx hb hts (in_zk_X5_init_X5) tyX5 tyX5_ok nmX5 hown hK hP hD hS 0 rfl rfl 10 (by decide) (hts (.fieldLink RX5 48 "HeapWorks$Picture" "link" "[Z") (by decide +kernel)) (fun _ h9 => h9) rfl hin rfl (by decide +kernel) rfl rfl (by rw [o_s5976.2.1]; decide) dX5_init_99 (fun H locs hP hD hS => ?_)
  have hP : va_P (dC, dI) vwCl [(Ad0, .inr (8, (s5976.set 10 (.ref q5977)))), (q5931, .inl (k5932, 400, .inl f5971)), (q5977, .inl (k5978, 4000, .inl f5979))] H := hP
  have hD : va_D A [(Ad0, .inr (8, (s5976.set 10 (.ref q5977)))), (q5931, .inl (k5932, 400, .inl f5971)), (q5977, .inl (k5978, 4000, .inl f5979))] := hD
  have o_s5981 := ow_set o_s5976 10 (.ref q5977) (by decide) (l' := [(10, .ref q5977), (9, .ref q5972), (8, .ref q5931), (7, .ref q5926), (6, .ref q5921), (5, .ref q5916), (4, .ref q5911), (3, .ref q5906), (2, .ref q5901), (1, .ref q5896)]) (w' := [10, 9, 8, 7, 6, 5, 4, 3, 2, 1]) rfl rfl
  generalize (s5976.set 10 (.ref q5977)) = s5981 at hP hD o_s5981
  have hP := hP.sub (ws' := [(Ad0, .inr (8, s5981)), (q5931, .inl (k5932, 400, .inl f5971))]) [0, 1] rfl
  have hD := hD.sub (ws' := [(Ad0, .inr (8, s5981)), (q5931, .inl (k5932, 400, .inl f5971))]) [0, 1] (by decide) rfl
  have hK := hK.sub (tys' := [(k5932, .int)]) [0] rfl
  refine lv_aload_n hx hb dX5_init_102 rfl (lv_at hl 0 rfl) ?_
  refine lv_bipush (v := 108) hx hb dX5_init_103 (by decide) ?_
  refine va_newa (atype := .int) (ty := .int) (a0 := (108, .inl (fun _ : Nat => (0 : Int32)))) (N' := 108) hx hb (hts (.arrayClass .int) (by decide +kernel)) rfl hK hP hD hS hA (na_I 108) (by decide) (by decide) (by decide) (Nat.le_of_ble_eq_true rfl) (Nat.le_of_ble_eq_true rfl) dX5_init_105 (fun q5982 k5983 H hK hP hD hS => ?_)
  have hK : va_K (dC, dI) vwCl [(k5932, .int), (k5983, .int)] s := hK
  have hP : va_P (dC, dI) vwCl [(Ad0, .inr (8, s5981)), (q5931, .inl (k5932, 400, .inl f5971)), (q5982, .inl (k5983, 108, .inl ((fun _ : Nat => (0 : Int32)))))] H := hP
  have hD : va_D A [(Ad0, .inr (8, s5981)), (q5931, .inl (k5932, 400, .inl f5971)), (q5982, .inl (k5983, 108, .inl ((fun _ : Nat => (0 : Int32)))))] := hD
  have z5985 : ∀ j, (fun _ : Nat => (0 : Int32)) j = 0 := fun _ => rfl
  generalize (fun _ : Nat => (0 : Int32)) = f5984 at hP hD z5985
  refine W.widen (k := 11) (n := 11309) (by omega) (by omega) ?_
  refine va_putF (D := (dC, dI)) (ci := 8) (v := .ref q5982) (ty := .array .int) (C := RX5) (T := TX5) (N := 21) hx hb hts (in_zk_X5_init_X5) tyX5 tyX5_ok nmX5 hown hK hP hD hS 0 rfl rfl 12 (by decide) (hts (.fieldLink RX5 52 "HeapWorks$Picture" "rootNumber" "[I") (by decide +kernel)) (fun _ h9 => h9) rfl hin rfl (by decide +kernel) rfl rfl (by rw [o_s5981.2.1]; decide) dX5_init_107 (fun H locs hP hD hS => ?_)
  have hP : va_P (dC, dI) vwCl [(Ad0, .inr (8, (s5981.set 12 (.ref q5982)))), (q5931, .inl (k5932, 400, .inl f5971)), (q5982, .inl (k5983, 108, .inl f5984))] H := hP
  have hD : va_D A [(Ad0, .inr (8, (s5981.set 12 (.ref q5982)))), (q5931, .inl (k5932, 400, .inl f5971)), (q5982, .inl (k5983, 108, .inl f5984))] := hD
  have o_s5986 := ow_set o_s5981 12 (.ref q5982) (by decide) (l' := [(12, .ref q5982), (10, .ref q5977), (9, .ref q5972), (8, .ref q5931), (7, .ref q5926), (6, .ref q5921), (5, .ref q5916), (4, .ref q5911), (3, .ref q5906), (2, .ref q5901), (1, .ref q5896)]) (w' := [12, 10, 9, 8, 7, 6, 5, 4, 3, 2, 1]) rfl rfl
  generalize (s5981.set 12 (.ref q5982)) = s5986 at hP hD o_s5986
  have hP := hP.sub (ws' := [(Ad0, .inr (8, s5986)), (q5931, .inl (k5932, 400, .inl f5971))]) [0, 1] rfl
  have hD := hD.sub (ws' := [(Ad0, .inr (8, s5986)), (q5931, .inl (k5932, 400, .inl f5971))]) [0, 1] (by decide) rfl
  have hK := hK.sub (tys' := [(k5932, .int)]) [0] rfl
  refine lv_aload_n hx hb dX5_init_110 rfl (lv_at hl 0 rfl) ?_
  refine lv_bipush (v := 108) hx hb dX5_init_111 (by decide) ?_
  refine va_newa (atype := .int) (ty := .int) (a0 := (108, .inl (fun _ : Nat => (0 : Int32)))) (N' := 108) hx hb (hts (.arrayClass .int) (by decide +kernel)) rfl hK hP hD hS hA (na_I 108) (by decide) (by decide) (by decide) (Nat.le_of_ble_eq_true rfl) (Nat.le_of_ble_eq_true rfl) dX5_init_113 (fun q5987 k5988 H hK hP hD hS => ?_)
  have hK : va_K (dC, dI) vwCl [(k5932, .int), (k5988, .int)] s := hK
  have hP : va_P (dC, dI) vwCl [(Ad0, .inr (8, s5986)), (q5931, .inl (k5932, 400, .inl f5971)), (q5987, .inl (k5988, 108, .inl ((fun _ : Nat => (0 : Int32)))))] H := hP
  have hD : va_D A [(Ad0, .inr (8, s5986)), (q5931, .inl (k5932, 400, .inl f5971)), (q5987, .inl (k5988, 108, .inl ((fun _ : Nat => (0 : Int32)))))] := hD
  have z5990 : ∀ j, (fun _ : Nat => (0 : Int32)) j = 0 := fun _ => rfl
  generalize (fun _ : Nat => (0 : Int32)) = f5989 at hP hD z5990
  refine W.widen (k := 12) (n := 11417) (by omega) (by omega) ?_
  refine va_putF (D := (dC, dI)) (ci := 8) (v := .ref q5987) (ty := .array .int) (C := RX5) (T := TX5) (N := 21) hx hb hts (in_zk_X5_init_X5) tyX5 tyX5_ok nmX5 hown hK hP hD hS 0 rfl rfl 13 (by decide) (hts (.fieldLink RX5 55 "HeapWorks$Picture" "rootThing" "[I") (by decide +kernel)) (fun _ h9 => h9) rfl hin rfl (by decide +kernel) rfl rfl (by rw [o_s5986.2.1]; decide) dX5_init_115 (fun H locs hP hD hS => ?_)
  have hP : va_P (dC, dI) vwCl [(Ad0, .inr (8, (s5986.set 13 (.ref q5987)))), (q5931, .inl (k5932, 400, .inl f5971)), (q5987, .inl (k5988, 108, .inl f5989))] H := hP
  have hD : va_D A [(Ad0, .inr (8, (s5986.set 13 (.ref q5987)))), (q5931, .inl (k5932, 400, .inl f5971)), (q5987, .inl (k5988, 108, .inl f5989))] := hD
  have o_s5991 := ow_set o_s5986 13 (.ref q5987) (by decide) (l' := [(13, .ref q5987), (12, .ref q5982), (10, .ref q5977), (9, .ref q5972), (8, .ref q5931), (7, .ref q5926), (6, .ref q5921), (5, .ref q5916), (4, .ref q5911), (3, .ref q5906), (2, .ref q5901), (1, .ref q5896)]) (w' := [13, 12, 10, 9, 8, 7, 6, 5, 4, 3, 2, 1]) rfl rfl
  generalize (s5986.set 13 (.ref q5987)) = s5991 at hP hD o_s5991
  have hP := hP.sub (ws' := [(Ad0, .inr (8, s5991)), (q5931, .inl (k5932, 400, .inl f5971))]) [0, 1] rfl
  have hD := hD.sub (ws' := [(Ad0, .inr (8, s5991)), (q5931, .inl (k5932, 400, .inl f5971))]) [0, 1] (by decide) rfl
  have hK := hK.sub (tys' := [(k5932, .int)]) [0] rfl
  refine lv_aload_n hx hb dX5_init_118 rfl (lv_at hl 0 rfl) ?_
  refine lv_sipush (v := 400) hx hb dX5_init_119 (by decide) ?_
  refine va_newa (atype := .boolean) (ty := .boolean) (a0 := (400, .inl (fun _ : Nat => (0 : Int32)))) (N' := 400) hx hb (hts (.arrayClass .boolean) (by decide +kernel)) rfl hK hP hD hS hA (na_Z 400) (by decide) (by decide) (by decide) (Nat.le_of_ble_eq_true rfl) (Nat.le_of_ble_eq_true rfl) dX5_init_122 (fun q5992 k5993 H hK hP hD hS => ?_)
  have hK : va_K (dC, dI) vwCl [(k5932, .int), (k5993, .boolean)] s := hK
  have hP : va_P (dC, dI) vwCl [(Ad0, .inr (8, s5991)), (q5931, .inl (k5932, 400, .inl f5971)), (q5992, .inl (k5993, 400, .inl ((fun _ : Nat => (0 : Int32)))))] H := hP
  have hD : va_D A [(Ad0, .inr (8, s5991)), (q5931, .inl (k5932, 400, .inl f5971)), (q5992, .inl (k5993, 400, .inl ((fun _ : Nat => (0 : Int32)))))] := hD
  have z5995 : ∀ j, (fun _ : Nat => (0 : Int32)) j = 0 := fun _ => rfl
  generalize (fun _ : Nat => (0 : Int32)) = f5994 at hP hD z5995
  refine W.widen (k := 13) (n := 11817) (by omega) (by omega) ?_
  refine va_putF (D := (dC, dI)) (ci := 8) (v := .ref q5992) (ty := .array .boolean) (C := RX5) (T := TX5) (N := 21) hx hb hts (in_zk_X5_init_X5) tyX5 tyX5_ok nmX5 hown hK hP hD hS 0 rfl rfl 14 (by decide) (hts (.fieldLink RX5 58 "HeapWorks$Picture" "chosen" "[Z") (by decide +kernel)) (fun _ h9 => h9) rfl hin rfl (by decide +kernel) rfl rfl (by rw [o_s5991.2.1]; decide) dX5_init_124 (fun H locs hP hD hS => ?_)
  have hP : va_P (dC, dI) vwCl [(Ad0, .inr (8, (s5991.set 14 (.ref q5992)))), (q5931, .inl (k5932, 400, .inl f5971)), (q5992, .inl (k5993, 400, .inl f5994))] H := hP
  have hD : va_D A [(Ad0, .inr (8, (s5991.set 14 (.ref q5992)))), (q5931, .inl (k5932, 400, .inl f5971)), (q5992, .inl (k5993, 400, .inl f5994))] := hD
  have o_s5996 := ow_set o_s5991 14 (.ref q5992) (by decide) (l' := [(14, .ref q5992), (13, .ref q5987), (12, .ref q5982), (10, .ref q5977), (9, .ref q5972), (8, .ref q5931), (7, .ref q5926), (6, .ref q5921), (5, .ref q5916), (4, .ref q5911), (3, .ref q5906), (2, .ref q5901), (1, .ref q5896)]) (w' := [14, 13, 12, 10, 9, 8, 7, 6, 5, 4, 3, 2, 1]) rfl rfl
  generalize (s5991.set 14 (.ref q5992)) = s5996 at hP hD o_s5996
  have hP := hP.sub (ws' := [(Ad0, .inr (8, s5996)), (q5931, .inl (k5932, 400, .inl f5971))]) [0, 1] rfl
  have hD := hD.sub (ws' := [(Ad0, .inr (8, s5996)), (q5931, .inl (k5932, 400, .inl f5971))]) [0, 1] (by decide) rfl
  have hK := hK.sub (tys' := [(k5932, .int)]) [0] rfl
  refine lv_aload_n hx hb dX5_init_127 rfl (lv_at hl 0 rfl) ?_
  refine lv_sipush (v := 400) hx hb dX5_init_128 (by decide) ?_
  refine va_newa (atype := .int) (ty := .int) (a0 := (400, .inl (fun _ : Nat => (0 : Int32)))) (N' := 400) hx hb (hts (.arrayClass .int) (by decide +kernel)) rfl hK hP hD hS hA (na_I 400) (by decide) (by decide) (by decide) (Nat.le_of_ble_eq_true rfl) (Nat.le_of_ble_eq_true rfl) dX5_init_131 (fun q5997 k5998 H hK hP hD hS => ?_)
  have hK : va_K (dC, dI) vwCl [(k5932, .int), (k5998, .int)] s := hK
  have hP : va_P (dC, dI) vwCl [(Ad0, .inr (8, s5996)), (q5931, .inl (k5932, 400, .inl f5971)), (q5997, .inl (k5998, 400, .inl ((fun _ : Nat => (0 : Int32)))))] H := hP
  have hD : va_D A [(Ad0, .inr (8, s5996)), (q5931, .inl (k5932, 400, .inl f5971)), (q5997, .inl (k5998, 400, .inl ((fun _ : Nat => (0 : Int32)))))] := hD
  have z6000 : ∀ j, (fun _ : Nat => (0 : Int32)) j = 0 := fun _ => rfl
  generalize (fun _ : Nat => (0 : Int32)) = f5999 at hP hD z6000
  refine W.widen (k := 14) (n := 12217) (by omega) (by omega) ?_
  refine va_putF (D := (dC, dI)) (ci := 8) (v := .ref q5997) (ty := .array .int) (C := RX5) (T := TX5) (N := 21) hx hb hts (in_zk_X5_init_X5) tyX5 tyX5_ok nmX5 hown hK hP hD hS 0 rfl rfl 15 (by decide) (hts (.fieldLink RX5 61 "HeapWorks$Picture" "lostThings" "[I") (by decide +kernel)) (fun _ h9 => h9) rfl hin rfl (by decide +kernel) rfl rfl (by rw [o_s5996.2.1]; decide) dX5_init_133 (fun H locs hP hD hS => ?_)
  have hP : va_P (dC, dI) vwCl [(Ad0, .inr (8, (s5996.set 15 (.ref q5997)))), (q5931, .inl (k5932, 400, .inl f5971)), (q5997, .inl (k5998, 400, .inl f5999))] H := hP
  have hD : va_D A [(Ad0, .inr (8, (s5996.set 15 (.ref q5997)))), (q5931, .inl (k5932, 400, .inl f5971)), (q5997, .inl (k5998, 400, .inl f5999))] := hD
  have o_s6001 := ow_set o_s5996 15 (.ref q5997) (by decide) (l' := [(15, .ref q5997), (14, .ref q5992), (13, .ref q5987), (12, .ref q5982), (10, .ref q5977), (9, .ref q5972), (8, .ref q5931), (7, .ref q5926), (6, .ref q5921), (5, .ref q5916), (4, .ref q5911), (3, .ref q5906), (2, .ref q5901), (1, .ref q5896)]) (w' := [15, 14, 13, 12, 10, 9, 8, 7, 6, 5, 4, 3, 2, 1]) rfl rfl
  generalize (s5996.set 15 (.ref q5997)) = s6001 at hP hD o_s6001
  have hP := hP.sub (ws' := [(Ad0, .inr (8, s6001)), (q5931, .inl (k5932, 400, .inl f5971))]) [0, 1] rfl
  have hD := hD.sub (ws' := [(Ad0, .inr (8, s6001)), (q5931, .inl (k5932, 400, .inl f5971))]) [0, 1] (by decide) rfl
  have hK := hK.sub (tys' := [(k5932, .int)]) [0] rfl
  refine lv_aload_n hx hb dX5_init_136 rfl (lv_at hl 0 rfl) ?_
  refine lv_sipush (v := 400) hx hb dX5_init_137 (by decide) ?_
  refine va_newa (atype := .int) (ty := .int) (a0 := (400, .inl (fun _ : Nat => (0 : Int32)))) (N' := 400) hx hb (hts (.arrayClass .int) (by decide +kernel)) rfl hK hP hD hS hA (na_I 400) (by decide) (by decide) (by decide) (Nat.le_of_ble_eq_true rfl) (Nat.le_of_ble_eq_true rfl) dX5_init_140 (fun q6002 k6003 H hK hP hD hS => ?_)
  have hK : va_K (dC, dI) vwCl [(k5932, .int), (k6003, .int)] s := hK
  have hP : va_P (dC, dI) vwCl [(Ad0, .inr (8, s6001)), (q5931, .inl (k5932, 400, .inl f5971)), (q6002, .inl (k6003, 400, .inl ((fun _ : Nat => (0 : Int32)))))] H := hP
  have hD : va_D A [(Ad0, .inr (8, s6001)), (q5931, .inl (k5932, 400, .inl f5971)), (q6002, .inl (k6003, 400, .inl ((fun _ : Nat => (0 : Int32)))))] := hD
  have z6005 : ∀ j, (fun _ : Nat => (0 : Int32)) j = 0 := fun _ => rfl
  generalize (fun _ : Nat => (0 : Int32)) = f6004 at hP hD z6005
  refine W.widen (k := 15) (n := 12617) (by omega) (by omega) ?_
  refine va_putF (D := (dC, dI)) (ci := 8) (v := .ref q6002) (ty := .array .int) (C := RX5) (T := TX5) (N := 21) hx hb hts (in_zk_X5_init_X5) tyX5 tyX5_ok nmX5 hown hK hP hD hS 0 rfl rfl 17 (by decide) (hts (.fieldLink RX5 64 "HeapWorks$Picture" "mark" "[I") (by decide +kernel)) (fun _ h9 => h9) rfl hin rfl (by decide +kernel) rfl rfl (by rw [o_s6001.2.1]; decide) dX5_init_142 (fun H locs hP hD hS => ?_)
  have hP : va_P (dC, dI) vwCl [(Ad0, .inr (8, (s6001.set 17 (.ref q6002)))), (q5931, .inl (k5932, 400, .inl f5971)), (q6002, .inl (k6003, 400, .inl f6004))] H := hP
  have hD : va_D A [(Ad0, .inr (8, (s6001.set 17 (.ref q6002)))), (q5931, .inl (k5932, 400, .inl f5971)), (q6002, .inl (k6003, 400, .inl f6004))] := hD
  have o_s6006 := ow_set o_s6001 17 (.ref q6002) (by decide) (l' := [(17, .ref q6002), (15, .ref q5997), (14, .ref q5992), (13, .ref q5987), (12, .ref q5982), (10, .ref q5977), (9, .ref q5972), (8, .ref q5931), (7, .ref q5926), (6, .ref q5921), (5, .ref q5916), (4, .ref q5911), (3, .ref q5906), (2, .ref q5901), (1, .ref q5896)]) (w' := [17, 15, 14, 13, 12, 10, 9, 8, 7, 6, 5, 4, 3, 2, 1]) rfl rfl
  generalize (s6001.set 17 (.ref q6002)) = s6006 at hP hD o_s6006
  refine lv_aload_n hx hb dX5_init_145 rfl (lv_at hl 0 rfl) ?_
  refine lv_sipush (v := 400) hx hb dX5_init_146 (by decide) ?_
  refine va_newa (atype := .int) (ty := .int) (a0 := (400, .inl (fun _ : Nat => (0 : Int32)))) (N' := 400) hx hb (hts (.arrayClass .int) (by decide +kernel)) rfl hK hP hD hS hA (na_I 400) (by decide) (by decide) (by decide) (Nat.le_of_ble_eq_true rfl) (Nat.le_of_ble_eq_true rfl) dX5_init_149 (fun q6007 k6008 H hK hP hD hS => ?_)
  have hK : va_K (dC, dI) vwCl [(k5932, .int), (k6003, .int), (k6008, .int)] s := hK
  have hP : va_P (dC, dI) vwCl [(Ad0, .inr (8, s6006)), (q5931, .inl (k5932, 400, .inl f5971)), (q6002, .inl (k6003, 400, .inl f6004)), (q6007, .inl (k6008, 400, .inl ((fun _ : Nat => (0 : Int32)))))] H := hP
  have hD : va_D A [(Ad0, .inr (8, s6006)), (q5931, .inl (k5932, 400, .inl f5971)), (q6002, .inl (k6003, 400, .inl f6004)), (q6007, .inl (k6008, 400, .inl ((fun _ : Nat => (0 : Int32)))))] := hD
  have z6010 : ∀ j, (fun _ : Nat => (0 : Int32)) j = 0 := fun _ => rfl
  generalize (fun _ : Nat => (0 : Int32)) = f6009 at hP hD z6010
  refine W.widen (k := 16) (n := 13017) (by omega) (by omega) ?_
  refine va_putF (D := (dC, dI)) (ci := 8) (v := .ref q6007) (ty := .array .int) (C := RX5) (T := TX5) (N := 21) hx hb hts (in_zk_X5_init_X5) tyX5 tyX5_ok nmX5 hown hK hP hD hS 0 rfl rfl 18 (by decide) (hts (.fieldLink RX5 67 "HeapWorks$Picture" "mate" "[I") (by decide +kernel)) (fun _ h9 => h9) rfl hin rfl (by decide +kernel) rfl rfl (by rw [o_s6006.2.1]; decide) dX5_init_151 (fun H locs hP hD hS => ?_)
  have hP : va_P (dC, dI) vwCl [(Ad0, .inr (8, (s6006.set 18 (.ref q6007)))), (q5931, .inl (k5932, 400, .inl f5971)), (q6002, .inl (k6003, 400, .inl f6004)), (q6007, .inl (k6008, 400, .inl f6009))] H := hP
  have hD : va_D A [(Ad0, .inr (8, (s6006.set 18 (.ref q6007)))), (q5931, .inl (k5932, 400, .inl f5971)), (q6002, .inl (k6003, 400, .inl f6004)), (q6007, .inl (k6008, 400, .inl f6009))] := hD
  have o_s6011 := ow_set o_s6006 18 (.ref q6007) (by decide) (l' := [(18, .ref q6007), (17, .ref q6002), (15, .ref q5997), (14, .ref q5992), (13, .ref q5987), (12, .ref q5982), (10, .ref q5977), (9, .ref q5972), (8, .ref q5931), (7, .ref q5926), (6, .ref q5921), (5, .ref q5916), (4, .ref q5911), (3, .ref q5906), (2, .ref q5901), (1, .ref q5896)]) (w' := [18, 17, 15, 14, 13, 12, 10, 9, 8, 7, 6, 5, 4, 3, 2, 1]) rfl rfl
  generalize (s6006.set 18 (.ref q6007)) = s6011 at hP hD o_s6011
  have hP := hP.sub (ws' := [(Ad0, .inr (8, s6011)), (q5931, .inl (k5932, 400, .inl f5971)), (q6002, .inl (k6003, 400, .inl f6004))]) [0, 1, 2] rfl
  have hD := hD.sub (ws' := [(Ad0, .inr (8, s6011)), (q5931, .inl (k5932, 400, .inl f5971)), (q6002, .inl (k6003, 400, .inl f6004))]) [0, 1, 2] (by decide) rfl
  have hK := hK.sub (tys' := [(k5932, .int), (k6003, .int)]) [0, 1] rfl
  refine lv_aload_n hx hb dX5_init_154 rfl (lv_at hl 0 rfl) ?_
  refine lv_sipush (v := 400) hx hb dX5_init_155 (by decide) ?_
  refine va_newa (atype := .int) (ty := .int) (a0 := (400, .inl (fun _ : Nat => (0 : Int32)))) (N' := 400) hx hb (hts (.arrayClass .int) (by decide +kernel)) rfl hK hP hD hS hA (na_I 400) (by decide) (by decide) (by decide) (Nat.le_of_ble_eq_true rfl) (Nat.le_of_ble_eq_true rfl) dX5_init_158 (fun q6012 k6013 H hK hP hD hS => ?_)
  have hK : va_K (dC, dI) vwCl [(k5932, .int), (k6003, .int), (k6013, .int)] s := hK
  have hP : va_P (dC, dI) vwCl [(Ad0, .inr (8, s6011)), (q5931, .inl (k5932, 400, .inl f5971)), (q6002, .inl (k6003, 400, .inl f6004)), (q6012, .inl (k6013, 400, .inl ((fun _ : Nat => (0 : Int32)))))] H := hP
  have hD : va_D A [(Ad0, .inr (8, s6011)), (q5931, .inl (k5932, 400, .inl f5971)), (q6002, .inl (k6003, 400, .inl f6004)), (q6012, .inl (k6013, 400, .inl ((fun _ : Nat => (0 : Int32)))))] := hD
  have z6015 : ∀ j, (fun _ : Nat => (0 : Int32)) j = 0 := fun _ => rfl
  generalize (fun _ : Nat => (0 : Int32)) = f6014 at hP hD z6015
  refine W.widen (k := 17) (n := 13417) (by omega) (by omega) ?_
  refine va_putF (D := (dC, dI)) (ci := 8) (v := .ref q6012) (ty := .array .int) (C := RX5) (T := TX5) (N := 21) hx hb hts (in_zk_X5_init_X5) tyX5 tyX5_ok nmX5 hown hK hP hD hS 0 rfl rfl 19 (by decide) (hts (.fieldLink RX5 70 "HeapWorks$Picture" "queue" "[I") (by decide +kernel)) (fun _ h9 => h9) rfl hin rfl (by decide +kernel) rfl rfl (by rw [o_s6011.2.1]; decide) dX5_init_160 (fun H locs hP hD hS => ?_)
  have hP : va_P (dC, dI) vwCl [(Ad0, .inr (8, (s6011.set 19 (.ref q6012)))), (q5931, .inl (k5932, 400, .inl f5971)), (q6002, .inl (k6003, 400, .inl f6004)), (q6012, .inl (k6013, 400, .inl f6014))] H := hP
  have hD : va_D A [(Ad0, .inr (8, (s6011.set 19 (.ref q6012)))), (q5931, .inl (k5932, 400, .inl f5971)), (q6002, .inl (k6003, 400, .inl f6004)), (q6012, .inl (k6013, 400, .inl f6014))] := hD
  have o_s6016 := ow_set o_s6011 19 (.ref q6012) (by decide) (l' := [(19, .ref q6012), (18, .ref q6007), (17, .ref q6002), (15, .ref q5997), (14, .ref q5992), (13, .ref q5987), (12, .ref q5982), (10, .ref q5977), (9, .ref q5972), (8, .ref q5931), (7, .ref q5926), (6, .ref q5921), (5, .ref q5916), (4, .ref q5911), (3, .ref q5906), (2, .ref q5901), (1, .ref q5896)]) (w' := [19, 18, 17, 15, 14, 13, 12, 10, 9, 8, 7, 6, 5, 4, 3, 2, 1]) rfl rfl
  generalize (s6011.set 19 (.ref q6012)) = s6016 at hP hD o_s6016
  have hP := hP.sub (ws' := [(Ad0, .inr (8, s6016)), (q5931, .inl (k5932, 400, .inl f5971)), (q6002, .inl (k6003, 400, .inl f6004))]) [0, 1, 2] rfl
  have hD := hD.sub (ws' := [(Ad0, .inr (8, s6016)), (q5931, .inl (k5932, 400, .inl f5971)), (q6002, .inl (k6003, 400, .inl f6004))]) [0, 1, 2] (by decide) rfl
  have hK := hK.sub (tys' := [(k5932, .int), (k6003, .int)]) [0, 1] rfl
  refine lv_aload_n hx hb dX5_init_163 rfl (lv_at hl 0 rfl) ?_
  refine va_new (ci := 11) (fs := [.null, .int 0, .null, .null, .null, .null, .null, .null, .null, .int 0, .null, .int 0, .null, .null, .null, .null, .null, .null]) (C := RX8) (T := TX8) (N := 18) hx hb hts (in_zk_X5_init_X8) tyX8 tyX8_ok hown (hts (.classLink RX5 73 RX8) (by decide +kernel)) (hts (.instantiable RX8 18) (by decide +kernel)) (hts (.initialized RX8) (by decide +kernel)) hK hP hD hS hA rfl (by decide) (Nat.le_of_ble_eq_true rfl) (Nat.le_of_ble_eq_true rfl) dX5_init_164 (fun q6017 H hP hD hS => ?_)
  have hP : va_P (dC, dI) vwCl [(Ad0, .inr (8, s6016)), (q5931, .inl (k5932, 400, .inl f5971)), (q6002, .inl (k6003, 400, .inl f6004)), (q6017, .inr (11, [.null, .int 0, .null, .null, .null, .null, .null, .null, .null, .int 0, .null, .int 0, .null, .null, .null, .null, .null, .null]))] H := hP
  have hD : va_D A [(Ad0, .inr (8, s6016)), (q5931, .inl (k5932, 400, .inl f5971)), (q6002, .inl (k6003, 400, .inl f6004)), (q6017, .inr (11, [.null, .int 0, .null, .null, .null, .null, .null, .null, .null, .int 0, .null, .int 0, .null, .null, .null, .null, .null, .null]))] := hD
  have k_s6018 : fh [.null, .int 0, .null, .null, .null, .null, .null, .null, .null, .int 0, .null, .int 0, .null, .null, .null, .null, .null, .null] 18 [(0, .null), (1, .int 0), (2, .null), (3, .null), (4, .null), (5, .null), (6, .null), (7, .null), (8, .null), (9, .int 0), (10, .null), (11, .int 0), (12, .null), (13, .null), (14, .null), (15, .null), (16, .null), (17, .null)] := ⟨rfl, by decide⟩
  generalize ([.null, .int 0, .null, .null, .null, .null, .null, .null, .null, .int 0, .null, .int 0, .null, .null, .null, .null, .null, .null] : List Value) = s6018 at hP hD k_s6018
  have o_s6018 := ow_0 k_s6018
  refine W.widen (k := 18) (n := 13435) (by omega) (by omega) ?_
  refine lv_dup hx hb dX5_init_167 rfl ?_
  refine lv_aload_n hx hb dX5_init_168 rfl (lv_at hl 1 rfl) ?_
  have hPc := hP.sub (ws' := [(q6017, .inr (11, s6018))]) [3] rfl
  have hDc := hD.sub (ws' := [(q6017, .inr (11, s6018))]) [3] (by decide) rfl
  have hKc := hK.sub (tys' := []) [] rfl
  have hFc := va_free (wc := [(q6017, .inr (11, s6018))]) hD hS hA [3] rfl
  refine va_callv (va_runI (As := [.ref Br0]) (rest := [.ref q6017, .ref Ad0]) ⟨hx, hb, hml, hown, hts⟩ (zk_X8_init l dC dI H.size q6017 s6018 Br0 (fh_sub o_s6018.2 [] rfl) ) (cwI 1 hts g_zk_X5_init_zk_X8_init_75 rfl rfl rfl (hts (.initialized RX8) (by decide +kernel)) (hts (.methodLink RX5 75 yX8_init) (by decide +kernel)) (hts (.instanceMethod yX8_init) (by decide +kernel)) rfl (by decide +kernel) ⟨Nat.le_of_ble_eq_true rfl, Nat.le_of_ble_eq_true rfl⟩) ⟨fun a U g mk q => by obtain ⟨q0, q1, qP, qK, qD⟩ := q; exact ⟨q0, q1, qP, va_K.moved (u := U) (U := U.calling g mk a) (Vm.Alike.refl U.vm) qK, qD⟩, fun U hU hW => ⟨rfl, by rw [hU], by rw [hU]; exact hPc, va_K.moved hW.alike hKc, hDc.weaken (fun _ _ _ _ => trivial)⟩⟩ rfl rfl hl.1 rfl (lv_room (Nat.le_of_ble_eq_true rfl)) dX5_init_169 ⟨Nat.le_of_ble_eq_true rfl, Nat.le_of_ble_eq_true rfl⟩) hS (fun q _ h => hFc q h) hFc (fun u t H1 locs ht hvm hw hB hz1 hk1 hS => ?_)
  obtain ⟨s6090, q6091, f6092, k6093, q6094, f6095, k6096, q6097, f6098, k6099, q6100, f6101, k6102, q6103, f6104, k6105⟩ := u
  dsimp only at hB
  obtain ⟨hP1, hK1, hD1⟩ := hB
  rw [ht] at hP1
  try dsimp only at hw
  obtain ⟨hP, hD⟩ := va_join (wr := [(Ad0, .inr (8, s6016)), (q5931, .inl (k5932, 400, .inl f5971)), (q6002, .inl (k6003, 400, .inl f6004))]) (w1 := [(q6017, .inr (11, s6090)), (q6091, .inl (k6093, 512, .inl f6092)), (q6094, .inl (k6096, 400, .inl f6095)), (q6097, .inl (k6099, 400, .inl f6098)), (q6100, .inl (k6102, 400, .inl f6101)), (q6103, .inl (k6105, 400, .inl f6104))]) hP hD [3] [0, 1, 2] rfl rfl (by decide) (by decide) hk1 hFc hP1 hD1
  have hK1 := va_K.moved hvm.symm hK1
  have hKr : va_K (dC, dI) vwCl [(k5932, .int), (k6003, .int)] s := hK.sub [0, 1] rfl
  have hK : va_K (dC, dI) vwCl [(k5932, .int), (k6003, .int), (k6093, .int), (k6096, .int), (k6099, .int), (k6102, .int), (k6105, .int)] s := hKr.app hK1
  generalize H1 = H at hP hS ⊢
  refine W.widen (k := 32) (n := 26564) (by omega) (by omega) ?_
  have hP : va_P (dC, dI) vwCl [(Ad0, .inr (8, s6016)), (q5931, .inl (k5932, 400, .inl f5971)), (q6002, .inl (k6003, 400, .inl f6004)), (q6017, .inr (11, s6090)), (q6091, .inl (k6093, 512, .inl f6092)), (q6094, .inl (k6096, 400, .inl f6095)), (q6097, .inl (k6099, 400, .inl f6098)), (q6100, .inl (k6102, 400, .inl f6101)), (q6103, .inl (k6105, 400, .inl f6104))] H := hP
  have hD : va_D A [(Ad0, .inr (8, s6016)), (q5931, .inl (k5932, 400, .inl f5971)), (q6002, .inl (k6003, 400, .inl f6004)), (q6017, .inr (11, s6090)), (q6091, .inl (k6093, 512, .inl f6092)), (q6094, .inl (k6096, 400, .inl f6095)), (q6097, .inl (k6099, 400, .inl f6098)), (q6100, .inl (k6102, 400, .inl f6101)), (q6103, .inl (k6105, 400, .inl f6104))] := hD
  obtain ⟨o_s6090, b6106, b6107, b6108, b6109, b6110⟩ := hw
  have o_s6090 := ow_on o_s6018 o_s6090 (l' := [(17, .ref q6091), (15, .ref q6094), (13, .ref q6097), (10, .ref q6100), (8, .ref q6103), (0, .ref Br0), (1, .int 0), (9, .int 0), (11, .int 0)]) (w' := [17, 16, 15, 14, 13, 12, 10, 8, 7, 6, 5, 4, 3, 2, 0]) rfl rfl
  refine va_putF (D := (dC, dI)) (ci := 8) (v := .ref q6017) (ty := .object "HeapWorks$Shape") (C := RX5) (T := TX5) (N := 21) hx hb hts (in_zk_X5_init_X5) tyX5 tyX5_ok nmX5 hown hK hP hD hS 0 rfl rfl 20 (by decide) (hts (.fieldLink RX5 78 "HeapWorks$Picture" "shape" "LHeapWorks$Shape;") (by decide +kernel)) (fun _ h9 => h9) rfl hin rfl (by decide +kernel) rfl rfl (by rw [o_s6016.2.1]; decide) dX5_init_172 (fun H locs hP hD hS => ?_)
  have hP : va_P (dC, dI) vwCl [(Ad0, .inr (8, (s6016.set 20 (.ref q6017)))), (q5931, .inl (k5932, 400, .inl f5971)), (q6002, .inl (k6003, 400, .inl f6004)), (q6017, .inr (11, s6090)), (q6091, .inl (k6093, 512, .inl f6092)), (q6094, .inl (k6096, 400, .inl f6095)), (q6097, .inl (k6099, 400, .inl f6098)), (q6100, .inl (k6102, 400, .inl f6101)), (q6103, .inl (k6105, 400, .inl f6104))] H := hP
  have hD : va_D A [(Ad0, .inr (8, (s6016.set 20 (.ref q6017)))), (q5931, .inl (k5932, 400, .inl f5971)), (q6002, .inl (k6003, 400, .inl f6004)), (q6017, .inr (11, s6090)), (q6091, .inl (k6093, 512, .inl f6092)), (q6094, .inl (k6096, 400, .inl f6095)), (q6097, .inl (k6099, 400, .inl f6098)), (q6100, .inl (k6102, 400, .inl f6101)), (q6103, .inl (k6105, 400, .inl f6104))] := hD
  have o_s6111 := ow_set o_s6016 20 (.ref q6017) (by decide) (l' := [(20, .ref q6017), (19, .ref q6012), (18, .ref q6007), (17, .ref q6002), (15, .ref q5997), (14, .ref q5992), (13, .ref q5987), (12, .ref q5982), (10, .ref q5977), (9, .ref q5972), (8, .ref q5931), (7, .ref q5926), (6, .ref q5921), (5, .ref q5916), (4, .ref q5911), (3, .ref q5906), (2, .ref q5901), (1, .ref q5896)]) (w' := [20, 19, 18, 17, 15, 14, 13, 12, 10, 9, 8, 7, 6, 5, 4, 3, 2, 1]) rfl rfl
  generalize (s6016.set 20 (.ref q6017)) = s6111 at hP hD o_s6111
  have hP9 := hP.sub (ws' := [(Ad0, .inr (8, s6111)), (q6017, .inr (11, s6090)), (q6002, .inl (k6003, 400, .inl f6004)), (q5931, .inl (k5932, 400, .inl f5971)), (q6091, .inl (k6093, 512, .inl f6092)), (q6094, .inl (k6096, 400, .inl f6095)), (q6097, .inl (k6099, 400, .inl f6098)), (q6100, .inl (k6102, 400, .inl f6101)), (q6103, .inl (k6105, 400, .inl f6104))]) [0, 3, 2, 1, 4, 5, 6, 7, 8] rfl
  have hD9 := hD.sub (ws' := [(Ad0, .inr (8, s6111)), (q6017, .inr (11, s6090)), (q6002, .inl (k6003, 400, .inl f6004)), (q5931, .inl (k5932, 400, .inl f5971)), (q6091, .inl (k6093, 512, .inl f6092)), (q6094, .inl (k6096, 400, .inl f6095)), (q6097, .inl (k6099, 400, .inl f6098)), (q6100, .inl (k6102, 400, .inl f6101)), (q6103, .inl (k6105, 400, .inl f6104))]) [0, 3, 2, 1, 4, 5, 6, 7, 8] (by decide) rfl
  have hK9 := hK.sub (tys' := [(k6003, .int), (k5932, .int), (k6093, .int), (k6096, .int), (k6099, .int), (k6102, .int), (k6105, .int)]) [1, 0, 2, 3, 4, 5, 6] rfl
  refine W.widen (k := 32) (n := 26564) (by decide) (by decide) ?_
  exact W.vret hx hb hr (fun t ht hW => ⟨⟨(s6111, q6017, s6090, q6002, f6004, k6003, q5931, f5971, k5932, q6091, f6092, k6093, q6094, f6095, k6096, q6097, f6098, k6099, q6100, f6101, k6102, q6103, f6104, k6105), rfl, ⟨(ow_sub o_s6111 [0, 3, 10] rfl), (fh_sub o_s6090.2 [0, 1, 2, 3, 4, 5, 6, 7, 8] rfl), z6005, b6106, b6107, b6108, b6109, b6110⟩, by rw [ht]; exact hP9, va_K.moved hW.alike hK9, hD9⟩, hS.F ht⟩) hS.2.2 dX5_init_175

def l_zk_X6_init : List Cond := [.methodLink RX6 3 objectInit, .instanceMethod objectInit, .code objectInit ⟨#[0xb1]⟩ 1 none, .fieldLink RX6 9 "HeapWorks$Program" "tape" "LHeapWorks$Tape;", .arrayClass .int, .fieldLink RX6 15 "HeapWorks$Program" "op" "[I", .fieldLink RX6 19 "HeapWorks$Program" "frame" "[I", .fieldLink RX6 22 "HeapWorks$Program" "target" "[I", .arrayClass .long, .fieldLink RX6 25 "HeapWorks$Program" "detail" "[J", .fieldLink RX6 29 "HeapWorks$Program" "scopeName" "[J", .fieldLink RX6 32 "HeapWorks$Program" "scopeFrame" "[I", .fieldLink RX6 35 "HeapWorks$Program" "waiting" "[I"]
def w_zk_X6_init : List Cond := .code yX6_init cX6_init 2 none :: (l_zk_X6_init ++ (wsX60))
theorem in_zk_X6_init_X6 : ∀ w ∈ wsX60, w ∈ w_zk_X6_init := fun w h => List.mem_cons_of_mem _ (List.mem_append_right _ (h))
set_option maxHeartbeats 4000000 in
set_option maxRecDepth 100000 in
theorem zk_X6_init (l : Launch) (dC : Nat → ClassId) (dI : Nat → Nat → Nat) (sz : Nat) (Ad0 : Nat) (Fs0 : List Value) (Br0 : Nat) (k_Fs0 : fh Fs0 19 [])  : Met l yX6_init w_zk_X6_init ({ frames := 1, cells := 7, slots := 2140, locals := 24 }) (va_Pc [.ref Ad0, .ref Br0] (fun U => U.heap.size = sz ∧ Wd dC dI [] (fun _ => True) [(Ad0, .inr (9, Fs0))] U)) (va_Qv (fun (u : List Value) => ow Fs0 (u) 19 [17, 15, 14, 4, 3, 2, 1, 0] [(0, .ref Br0)]) (fun (u : List Value) t => Wd dC dI [] (va_A [(Ad0, .inr (9, Fs0))] sz) [(Ad0, .inr (9, (u)))] t) (va_A [(Ad0, .inr (9, Fs0))] sz))  7 2140 (va_A [(Ad0, .inr (9, Fs0))] sz) := by
  refine Met.ofW (cc := cX6_init) (maxL := 2) (ret := none) (by decide) rfl ?_
  intro p e s m args below meth c s₁ B hml hv
  obtain ⟨rfl, hsz, hP, hK, hD0⟩ := hv
  have hx := B.exec
  have hb := B.bytes
  have hr := B.returns
  have hts := atoms_spec (ws := w_zk_X6_init) B.pre
  have hown : s.vm.findClass RX6 = some m.cls := findClass_of_methodNamed B.named
  have hlocks := B.notSynchronized
  have hin : meth.name = "<init>" := (name_of_methodNamed B.named B.method).1
  subst hsz
  have hD := hD0.self (sz := s.heap.size)
  generalize hAe : va_A [(Ad0, .inr (9, Fs0))] s.heap.size = A at hD ⊢
  have hA : ∀ q : Nat, s.heap.size ≤ q → A q := fun q h => by rw [← hAe]; exact Or.inr h
  have hS : va_S A s.heap s.heap [] := va_S.rf
  have hl := lv_entry ([.ref Ad0, .ref Br0]) (n := 2) (Nat.le_of_ble_eq_true rfl)
  rw [lg_entry_eq]
  generalize (lg_sl ([.ref Ad0, .ref Br0]) ++ List.replicate (2 - (lg_sl ([.ref Ad0, .ref Br0])).length) Slot.unset).toArray = ls at hl ⊢
  have hl : lv_has ls 2 [(0, .ref Ad0), (1, .ref Br0)] := hl
  have o_Fs0 := ow_0 k_Fs0
  refine lv_aload_n hx hb dX6_init_0 rfl (lv_at hl 0 rfl) ?_
  refine W.objInit hx hb hown (hts (.methodLink RX6 3 objectInit) (by decide +kernel)) (hts (.instanceMethod objectInit) (by decide +kernel)) (hts (.code objectInit ⟨#[0xb1]⟩ 1 none) (by decide +kernel)) rfl (by rw [hml]; exact hl.1) rfl dX6_init_1 (Nat.le_of_ble_eq_true rfl) (Nat.le_of_ble_eq_true rfl) ?_
  refine W.eq (g2 := F0 m 4 ls []) rfl ?_
  refine lv_aload_n hx hb dX6_init_4 rfl (lv_at hl 0 rfl) ?_
  refine lv_aload_n hx hb dX6_init_5 rfl (lv_at hl 1 rfl) ?_
  refine va_putF (D := (dC, dI)) (ci := 9) (v := .ref Br0) (ty := .object "HeapWorks$Tape") (C := RX6) (T := TX6) (N := 19) hx hb hts (in_zk_X6_init_X6) tyX6 tyX6_ok nmX6 hown hK hP hD hS 0 rfl rfl 0 (by decide) (hts (.fieldLink RX6 9 "HeapWorks$Program" "tape" "LHeapWorks$Tape;") (by decide +kernel)) (fun _ h9 => h9) rfl hin rfl (by decide +kernel) rfl rfl (by rw [o_Fs0.2.1]; decide) dX6_init_6 (fun H locs hP hD hS => ?_)
  have hP : va_P (dC, dI) vwCl [(Ad0, .inr (9, (Fs0.set 0 (.ref Br0))))] H := hP
  have hD : va_D A [(Ad0, .inr (9, (Fs0.set 0 (.ref Br0))))] := hD
  have o_s7196 := ow_set o_Fs0 0 (.ref Br0) (by decide) (l' := [(0, .ref Br0)]) (w' := [0]) rfl rfl
  generalize (Fs0.set 0 (.ref Br0)) = s7196 at hP hD o_s7196
  refine lv_aload_n hx hb dX6_init_9 rfl (lv_at hl 0 rfl) ?_
  refine lv_sipush (v := 500) hx hb dX6_init_10 (by decide) ?_
  refine va_newa (atype := .int) (ty := .int) (a0 := (500, .inl (fun _ : Nat => (0 : Int32)))) (N' := 500) hx hb (hts (.arrayClass .int) (by decide +kernel)) rfl hK hP hD hS hA (na_I 500) (by decide) (by decide) (by decide) (Nat.le_of_ble_eq_true rfl) (Nat.le_of_ble_eq_true rfl) dX6_init_13 (fun q7197 k7198 H hK hP hD hS => ?_)
  have hK : va_K (dC, dI) vwCl [(k7198, .int)] s := hK
  have hP : va_P (dC, dI) vwCl [(Ad0, .inr (9, s7196)), (q7197, .inl (k7198, 500, .inl ((fun _ : Nat => (0 : Int32)))))] H := hP
  have hD : va_D A [(Ad0, .inr (9, s7196)), (q7197, .inl (k7198, 500, .inl ((fun _ : Nat => (0 : Int32)))))] := hD
  have z7200 : ∀ j, (fun _ : Nat => (0 : Int32)) j = 0 := fun _ => rfl
  generalize (fun _ : Nat => (0 : Int32)) = f7199 at hP hD z7200
  refine W.widen (k := 1) (n := 500) (by omega) (by omega) ?_
  refine va_putF (D := (dC, dI)) (ci := 9) (v := .ref q7197) (ty := .array .int) (C := RX6) (T := TX6) (N := 19) hx hb hts (in_zk_X6_init_X6) tyX6 tyX6_ok nmX6 hown hK hP hD hS 0 rfl rfl 1 (by decide) (hts (.fieldLink RX6 15 "HeapWorks$Program" "op" "[I") (by decide +kernel)) (fun _ h9 => h9) rfl hin rfl (by decide +kernel) rfl rfl (by rw [o_s7196.2.1]; decide) dX6_init_15 (fun H locs hP hD hS => ?_)
  have hP : va_P (dC, dI) vwCl [(Ad0, .inr (9, (s7196.set 1 (.ref q7197)))), (q7197, .inl (k7198, 500, .inl f7199))] H := hP
  have hD : va_D A [(Ad0, .inr (9, (s7196.set 1 (.ref q7197)))), (q7197, .inl (k7198, 500, .inl f7199))] := hD
  have o_s7201 := ow_set o_s7196 1 (.ref q7197) (by decide) (l' := [(1, .ref q7197), (0, .ref Br0)]) (w' := [1, 0]) rfl rfl
  generalize (s7196.set 1 (.ref q7197)) = s7201 at hP hD o_s7201
  have hP := hP.sub (ws' := [(Ad0, .inr (9, s7201))]) [0] rfl
  have hD := hD.sub (ws' := [(Ad0, .inr (9, s7201))]) [0] (by decide) rfl
  have hK := hK.sub (tys' := []) [] rfl
  refine lv_aload_n hx hb dX6_init_18 rfl (lv_at hl 0 rfl) ?_
  refine lv_sipush (v := 500) hx hb dX6_init_19 (by decide) ?_
  refine va_newa (atype := .int) (ty := .int) (a0 := (500, .inl (fun _ : Nat => (0 : Int32)))) (N' := 500) hx hb (hts (.arrayClass .int) (by decide +kernel)) rfl hK hP hD hS hA (na_I 500) (by decide) (by decide) (by decide) (Nat.le_of_ble_eq_true rfl) (Nat.le_of_ble_eq_true rfl) dX6_init_22 (fun q7202 k7203 H hK hP hD hS => ?_)
  have hK : va_K (dC, dI) vwCl [(k7203, .int)] s := hK
  have hP : va_P (dC, dI) vwCl [(Ad0, .inr (9, s7201)), (q7202, .inl (k7203, 500, .inl ((fun _ : Nat => (0 : Int32)))))] H := hP
  have hD : va_D A [(Ad0, .inr (9, s7201)), (q7202, .inl (k7203, 500, .inl ((fun _ : Nat => (0 : Int32)))))] := hD
  have z7205 : ∀ j, (fun _ : Nat => (0 : Int32)) j = 0 := fun _ => rfl
  generalize (fun _ : Nat => (0 : Int32)) = f7204 at hP hD z7205
  refine W.widen (k := 2) (n := 1000) (by omega) (by omega) ?_
  refine va_putF (D := (dC, dI)) (ci := 9) (v := .ref q7202) (ty := .array .int) (C := RX6) (T := TX6) (N := 19) hx hb hts (in_zk_X6_init_X6) tyX6 tyX6_ok nmX6 hown hK hP hD hS 0 rfl rfl 2 (by decide) (hts (.fieldLink RX6 19 "HeapWorks$Program" "frame" "[I") (by decide +kernel)) (fun _ h9 => h9) rfl hin rfl (by decide +kernel) rfl rfl (by rw [o_s7201.2.1]; decide) dX6_init_24 (fun H locs hP hD hS => ?_)
  have hP : va_P (dC, dI) vwCl [(Ad0, .inr (9, (s7201.set 2 (.ref q7202)))), (q7202, .inl (k7203, 500, .inl f7204))] H := hP
  have hD : va_D A [(Ad0, .inr (9, (s7201.set 2 (.ref q7202)))), (q7202, .inl (k7203, 500, .inl f7204))] := hD
  have o_s7206 := ow_set o_s7201 2 (.ref q7202) (by decide) (l' := [(2, .ref q7202), (1, .ref q7197), (0, .ref Br0)]) (w' := [2, 1, 0]) rfl rfl
  generalize (s7201.set 2 (.ref q7202)) = s7206 at hP hD o_s7206
  have hP := hP.sub (ws' := [(Ad0, .inr (9, s7206))]) [0] rfl
  have hD := hD.sub (ws' := [(Ad0, .inr (9, s7206))]) [0] (by decide) rfl
  have hK := hK.sub (tys' := []) [] rfl
  refine lv_aload_n hx hb dX6_init_27 rfl (lv_at hl 0 rfl) ?_
  refine lv_sipush (v := 500) hx hb dX6_init_28 (by decide) ?_
  refine va_newa (atype := .int) (ty := .int) (a0 := (500, .inl (fun _ : Nat => (0 : Int32)))) (N' := 500) hx hb (hts (.arrayClass .int) (by decide +kernel)) rfl hK hP hD hS hA (na_I 500) (by decide) (by decide) (by decide) (Nat.le_of_ble_eq_true rfl) (Nat.le_of_ble_eq_true rfl) dX6_init_31 (fun q7207 k7208 H hK hP hD hS => ?_)
  have hK : va_K (dC, dI) vwCl [(k7208, .int)] s := hK
  have hP : va_P (dC, dI) vwCl [(Ad0, .inr (9, s7206)), (q7207, .inl (k7208, 500, .inl ((fun _ : Nat => (0 : Int32)))))] H := hP
  have hD : va_D A [(Ad0, .inr (9, s7206)), (q7207, .inl (k7208, 500, .inl ((fun _ : Nat => (0 : Int32)))))] := hD
  have z7210 : ∀ j, (fun _ : Nat => (0 : Int32)) j = 0 := fun _ => rfl
  generalize (fun _ : Nat => (0 : Int32)) = f7209 at hP hD z7210
  refine W.widen (k := 3) (n := 1500) (by omega) (by omega) ?_
  refine va_putF (D := (dC, dI)) (ci := 9) (v := .ref q7207) (ty := .array .int) (C := RX6) (T := TX6) (N := 19) hx hb hts (in_zk_X6_init_X6) tyX6 tyX6_ok nmX6 hown hK hP hD hS 0 rfl rfl 3 (by decide) (hts (.fieldLink RX6 22 "HeapWorks$Program" "target" "[I") (by decide +kernel)) (fun _ h9 => h9) rfl hin rfl (by decide +kernel) rfl rfl (by rw [o_s7206.2.1]; decide) dX6_init_33 (fun H locs hP hD hS => ?_)
  have hP : va_P (dC, dI) vwCl [(Ad0, .inr (9, (s7206.set 3 (.ref q7207)))), (q7207, .inl (k7208, 500, .inl f7209))] H := hP
  have hD : va_D A [(Ad0, .inr (9, (s7206.set 3 (.ref q7207)))), (q7207, .inl (k7208, 500, .inl f7209))] := hD
  have o_s7211 := ow_set o_s7206 3 (.ref q7207) (by decide) (l' := [(3, .ref q7207), (2, .ref q7202), (1, .ref q7197), (0, .ref Br0)]) (w' := [3, 2, 1, 0]) rfl rfl
  generalize (s7206.set 3 (.ref q7207)) = s7211 at hP hD o_s7211
  have hP := hP.sub (ws' := [(Ad0, .inr (9, s7211))]) [0] rfl
  have hD := hD.sub (ws' := [(Ad0, .inr (9, s7211))]) [0] (by decide) rfl
  have hK := hK.sub (tys' := []) [] rfl
  refine lv_aload_n hx hb dX6_init_36 rfl (lv_at hl 0 rfl) ?_
  refine lv_sipush (v := 500) hx hb dX6_init_37 (by decide) ?_
  refine va_newa (atype := .long) (ty := .long) (a0 := (500, .inr (.inl (fun _ : Nat => (0 : Int64))))) (N' := 500) hx hb (hts (.arrayClass .long) (by decide +kernel)) rfl hK hP hD hS hA (na_J 500) (by decide) (by decide) (by decide) (Nat.le_of_ble_eq_true rfl) (Nat.le_of_ble_eq_true rfl) dX6_init_40 (fun q7212 k7213 H hK hP hD hS => ?_)
  have hK : va_K (dC, dI) vwCl [(k7213, .long)] s := hK
  have hP : va_P (dC, dI) vwCl [(Ad0, .inr (9, s7211)), (q7212, .inl (k7213, 500, .inr (.inl ((fun _ : Nat => (0 : Int64))))))] H := hP
  have hD : va_D A [(Ad0, .inr (9, s7211)), (q7212, .inl (k7213, 500, .inr (.inl ((fun _ : Nat => (0 : Int64))))))] := hD
  have z7215 : ∀ j, (fun _ : Nat => (0 : Int64)) j = 0 := fun _ => rfl
  generalize (fun _ : Nat => (0 : Int64)) = f7214 at hP hD z7215
  refine W.widen (k := 4) (n := 2000) (by omega) (by omega) ?_
  refine va_putF (D := (dC, dI)) (ci := 9) (v := .ref q7212) (ty := .array .long) (C := RX6) (T := TX6) (N := 19) hx hb hts (in_zk_X6_init_X6) tyX6 tyX6_ok nmX6 hown hK hP hD hS 0 rfl rfl 4 (by decide) (hts (.fieldLink RX6 25 "HeapWorks$Program" "detail" "[J") (by decide +kernel)) (fun _ h9 => h9) rfl hin rfl (by decide +kernel) rfl rfl (by rw [o_s7211.2.1]; decide) dX6_init_42 (fun H locs hP hD hS => ?_)
  have hP : va_P (dC, dI) vwCl [(Ad0, .inr (9, (s7211.set 4 (.ref q7212)))), (q7212, .inl (k7213, 500, .inr (.inl f7214)))] H := hP
  have hD : va_D A [(Ad0, .inr (9, (s7211.set 4 (.ref q7212)))), (q7212, .inl (k7213, 500, .inr (.inl f7214)))] := hD
  have o_s7216 := ow_set o_s7211 4 (.ref q7212) (by decide) (l' := [(4, .ref q7212), (3, .ref q7207), (2, .ref q7202), (1, .ref q7197), (0, .ref Br0)]) (w' := [4, 3, 2, 1, 0]) rfl rfl
  generalize (s7211.set 4 (.ref q7212)) = s7216 at hP hD o_s7216
  have hP := hP.sub (ws' := [(Ad0, .inr (9, s7216))]) [0] rfl
  have hD := hD.sub (ws' := [(Ad0, .inr (9, s7216))]) [0] (by decide) rfl
  have hK := hK.sub (tys' := []) [] rfl
  refine lv_aload_n hx hb dX6_init_45 rfl (lv_at hl 0 rfl) ?_
  refine lv_bipush (v := 10) hx hb dX6_init_46 (by decide) ?_
  refine va_newa (atype := .long) (ty := .long) (a0 := (10, .inr (.inl (fun _ : Nat => (0 : Int64))))) (N' := 10) hx hb (hts (.arrayClass .long) (by decide +kernel)) rfl hK hP hD hS hA (na_J 10) (by decide) (by decide) (by decide) (Nat.le_of_ble_eq_true rfl) (Nat.le_of_ble_eq_true rfl) dX6_init_48 (fun q7217 k7218 H hK hP hD hS => ?_)
  have hK : va_K (dC, dI) vwCl [(k7218, .long)] s := hK
  have hP : va_P (dC, dI) vwCl [(Ad0, .inr (9, s7216)), (q7217, .inl (k7218, 10, .inr (.inl ((fun _ : Nat => (0 : Int64))))))] H := hP
  have hD : va_D A [(Ad0, .inr (9, s7216)), (q7217, .inl (k7218, 10, .inr (.inl ((fun _ : Nat => (0 : Int64))))))] := hD
  have z7220 : ∀ j, (fun _ : Nat => (0 : Int64)) j = 0 := fun _ => rfl
  generalize (fun _ : Nat => (0 : Int64)) = f7219 at hP hD z7220
  refine W.widen (k := 5) (n := 2010) (by omega) (by omega) ?_
  refine va_putF (D := (dC, dI)) (ci := 9) (v := .ref q7217) (ty := .array .long) (C := RX6) (T := TX6) (N := 19) hx hb hts (in_zk_X6_init_X6) tyX6 tyX6_ok nmX6 hown hK hP hD hS 0 rfl rfl 14 (by decide) (hts (.fieldLink RX6 29 "HeapWorks$Program" "scopeName" "[J") (by decide +kernel)) (fun _ h9 => h9) rfl hin rfl (by decide +kernel) rfl rfl (by rw [o_s7216.2.1]; decide) dX6_init_50 (fun H locs hP hD hS => ?_)
  have hP : va_P (dC, dI) vwCl [(Ad0, .inr (9, (s7216.set 14 (.ref q7217)))), (q7217, .inl (k7218, 10, .inr (.inl f7219)))] H := hP
  have hD : va_D A [(Ad0, .inr (9, (s7216.set 14 (.ref q7217)))), (q7217, .inl (k7218, 10, .inr (.inl f7219)))] := hD
  have o_s7221 := ow_set o_s7216 14 (.ref q7217) (by decide) (l' := [(14, .ref q7217), (4, .ref q7212), (3, .ref q7207), (2, .ref q7202), (1, .ref q7197), (0, .ref Br0)]) (w' := [14, 4, 3, 2, 1, 0]) rfl rfl
  generalize (s7216.set 14 (.ref q7217)) = s7221 at hP hD o_s7221
  have hP := hP.sub (ws' := [(Ad0, .inr (9, s7221))]) [0] rfl
  have hD := hD.sub (ws' := [(Ad0, .inr (9, s7221))]) [0] (by decide) rfl
  have hK := hK.sub (tys' := []) [] rfl
  refine lv_aload_n hx hb dX6_init_53 rfl (lv_at hl 0 rfl) ?_
  refine lv_bipush (v := 10) hx hb dX6_init_54 (by decide) ?_
  refine va_newa (atype := .int) (ty := .int) (a0 := (10, .inl (fun _ : Nat => (0 : Int32)))) (N' := 10) hx hb (hts (.arrayClass .int) (by decide +kernel)) rfl hK hP hD hS hA (na_I 10) (by decide) (by decide) (by decide) (Nat.le_of_ble_eq_true rfl) (Nat.le_of_ble_eq_true rfl) dX6_init_56 (fun q7222 k7223 H hK hP hD hS => ?_)
  have hK : va_K (dC, dI) vwCl [(k7223, .int)] s := hK
  have hP : va_P (dC, dI) vwCl [(Ad0, .inr (9, s7221)), (q7222, .inl (k7223, 10, .inl ((fun _ : Nat => (0 : Int32)))))] H := hP
  have hD : va_D A [(Ad0, .inr (9, s7221)), (q7222, .inl (k7223, 10, .inl ((fun _ : Nat => (0 : Int32)))))] := hD
  have z7225 : ∀ j, (fun _ : Nat => (0 : Int32)) j = 0 := fun _ => rfl
  generalize (fun _ : Nat => (0 : Int32)) = f7224 at hP hD z7225
  refine W.widen (k := 6) (n := 2020) (by omega) (by omega) ?_
  refine va_putF (D := (dC, dI)) (ci := 9) (v := .ref q7222) (ty := .array .int) (C := RX6) (T := TX6) (N := 19) hx hb hts (in_zk_X6_init_X6) tyX6 tyX6_ok nmX6 hown hK hP hD hS 0 rfl rfl 15 (by decide) (hts (.fieldLink RX6 32 "HeapWorks$Program" "scopeFrame" "[I") (by decide +kernel)) (fun _ h9 => h9) rfl hin rfl (by decide +kernel) rfl rfl (by rw [o_s7221.2.1]; decide) dX6_init_58 (fun H locs hP hD hS => ?_)
  have hP : va_P (dC, dI) vwCl [(Ad0, .inr (9, (s7221.set 15 (.ref q7222)))), (q7222, .inl (k7223, 10, .inl f7224))] H := hP
  have hD : va_D A [(Ad0, .inr (9, (s7221.set 15 (.ref q7222)))), (q7222, .inl (k7223, 10, .inl f7224))] := hD
  have o_s7226 := ow_set o_s7221 15 (.ref q7222) (by decide) (l' := [(15, .ref q7222), (14, .ref q7217), (4, .ref q7212), (3, .ref q7207), (2, .ref q7202), (1, .ref q7197), (0, .ref Br0)]) (w' := [15, 14, 4, 3, 2, 1, 0]) rfl rfl
  generalize (s7221.set 15 (.ref q7222)) = s7226 at hP hD o_s7226
  have hP := hP.sub (ws' := [(Ad0, .inr (9, s7226))]) [0] rfl
  have hD := hD.sub (ws' := [(Ad0, .inr (9, s7226))]) [0] (by decide) rfl
  have hK := hK.sub (tys' := []) [] rfl
  refine lv_aload_n hx hb dX6_init_61 rfl (lv_at hl 0 rfl) ?_
  refine lv_bipush (v := 120) hx hb dX6_init_62 (by decide) ?_
  refine va_newa (atype := .int) (ty := .int) (a0 := (120, .inl (fun _ : Nat => (0 : Int32)))) (N' := 120) hx hb (hts (.arrayClass .int) (by decide +kernel)) rfl hK hP hD hS hA (na_I 120) (by decide) (by decide) (by decide) (Nat.le_of_ble_eq_true rfl) (Nat.le_of_ble_eq_true rfl) dX6_init_64 (fun q7227 k7228 H hK hP hD hS => ?_)
  have hK : va_K (dC, dI) vwCl [(k7228, .int)] s := hK
  have hP : va_P (dC, dI) vwCl [(Ad0, .inr (9, s7226)), (q7227, .inl (k7228, 120, .inl ((fun _ : Nat => (0 : Int32)))))] H := hP
  have hD : va_D A [(Ad0, .inr (9, s7226)), (q7227, .inl (k7228, 120, .inl ((fun _ : Nat => (0 : Int32)))))] := hD
  have z7230 : ∀ j, (fun _ : Nat => (0 : Int32)) j = 0 := fun _ => rfl
  generalize (fun _ : Nat => (0 : Int32)) = f7229 at hP hD z7230
  refine W.widen (k := 7) (n := 2140) (by omega) (by omega) ?_
  refine va_putF (D := (dC, dI)) (ci := 9) (v := .ref q7227) (ty := .array .int) (C := RX6) (T := TX6) (N := 19) hx hb hts (in_zk_X6_init_X6) tyX6 tyX6_ok nmX6 hown hK hP hD hS 0 rfl rfl 17 (by decide) (hts (.fieldLink RX6 35 "HeapWorks$Program" "waiting" "[I") (by decide +kernel)) (fun _ h9 => h9) rfl hin rfl (by decide +kernel) rfl rfl (by rw [o_s7226.2.1]; decide) dX6_init_66 (fun H locs hP hD hS => ?_)
  have hP : va_P (dC, dI) vwCl [(Ad0, .inr (9, (s7226.set 17 (.ref q7227)))), (q7227, .inl (k7228, 120, .inl f7229))] H := hP
  have hD : va_D A [(Ad0, .inr (9, (s7226.set 17 (.ref q7227)))), (q7227, .inl (k7228, 120, .inl f7229))] := hD
  have o_s7231 := ow_set o_s7226 17 (.ref q7227) (by decide) (l' := [(17, .ref q7227), (15, .ref q7222), (14, .ref q7217), (4, .ref q7212), (3, .ref q7207), (2, .ref q7202), (1, .ref q7197), (0, .ref Br0)]) (w' := [17, 15, 14, 4, 3, 2, 1, 0]) rfl rfl
  generalize (s7226.set 17 (.ref q7227)) = s7231 at hP hD o_s7231
  have hP := hP.sub (ws' := [(Ad0, .inr (9, s7231))]) [0] rfl
  have hD := hD.sub (ws' := [(Ad0, .inr (9, s7231))]) [0] (by decide) rfl
  have hK := hK.sub (tys' := []) [] rfl
  have hP9 := hP.sub (ws' := [(Ad0, .inr (9, s7231))]) [0] rfl
  have hD9 := hD.sub (ws' := [(Ad0, .inr (9, s7231))]) [0] (by decide) rfl
  have hK9 := hK.sub (tys' := []) [] rfl
  refine W.widen (k := 7) (n := 2140) (by decide) (by decide) ?_
  exact W.vret hx hb hr (fun t ht hW => ⟨⟨s7231, rfl, (ow_sub o_s7231 [7] rfl), by rw [ht]; exact hP9, va_K.moved hW.alike hK9, hD9⟩, hS.F ht⟩) hS.2.2 dX6_init_69

def l_zk_X4_init : List Cond := [.methodLink RX4 5 objectInit, .instanceMethod objectInit, .code objectInit ⟨#[0xb1]⟩ 1 none, .fieldLink RX4 11 "HeapWorks$Machine" "types" "LHeapWorks$Types;", .arrayClass .int, .fieldLink RX4 19 "HeapWorks$Machine" "sort" "[I", .arrayClass .long, .fieldLink RX4 23 "HeapWorks$Machine" "value" "[J", .fieldLink RX4 27 "HeapWorks$Machine" "setKind" "[I", .fieldLink RX4 30 "HeapWorks$Machine" "source" "[I", .fieldLink RX4 33 "HeapWorks$Machine" "cursor" "[I", .fieldLink RX4 36 "HeapWorks$Machine" "bound" "[I", .fieldLink RX4 39 "HeapWorks$Machine" "current" "[I", .fieldLink RX4 42 "HeapWorks$Machine" "total" "[J", .arrayClass .boolean, .fieldLink RX4 45 "HeapWorks$Machine" "found" "[Z", .fieldLink RX4 49 "HeapWorks$Machine" "queue" "[I", .fieldLink RX4 52 "HeapWorks$Machine" "seen" "[I", .fieldLink RX4 55 "HeapWorks$Machine" "stamp" "[I", .fieldLink RX4 58 "HeapWorks$Machine" "rowThing" "[I", .fieldLink RX4 61 "HeapWorks$Machine" "rowSort" "[I", .fieldLink RX4 64 "HeapWorks$Machine" "rowValue" "[J"]
def w_zk_X4_init : List Cond := .code yX4_init cX4_init 2 none :: (l_zk_X4_init ++ (wsX40))
theorem in_zk_X4_init_X4 : ∀ w ∈ wsX40, w ∈ w_zk_X4_init := fun w h => List.mem_cons_of_mem _ (List.mem_append_right _ (h))
set_option maxHeartbeats 4000000 in
set_option maxRecDepth 100000 in
theorem zk_X4_init (l : Launch) (dC : Nat → ClassId) (dI : Nat → Nat → Nat) (sz : Nat) (Ad0 : Nat) (Fs0 : List Value) (Br0 : Nat) (k_Fs0 : fh Fs0 21 [])  : Met l yX4_init w_zk_X4_init ({ frames := 1, cells := 15, slots := 21130, locals := 24 }) (va_Pc [.ref Ad0, .ref Br0] (fun U => U.heap.size = sz ∧ Wd dC dI [] (fun _ => True) [(Ad0, .inr (7, Fs0))] U)) (va_Qv (fun (u : List Value) => ow Fs0 (u) 21 [19, 18, 17, 16, 15, 14, 13, 12, 11, 10, 9, 8, 7, 5, 4, 0] [(0, .ref Br0)]) (fun (u : List Value) t => Wd dC dI [] (va_A [(Ad0, .inr (7, Fs0))] sz) [(Ad0, .inr (7, (u)))] t) (va_A [(Ad0, .inr (7, Fs0))] sz))  15 21130 (va_A [(Ad0, .inr (7, Fs0))] sz) := by
  refine Met.ofW (cc := cX4_init) (maxL := 2) (ret := none) (by decide) rfl ?_
  intro p e s m args below meth c s₁ B hml hv
  obtain ⟨rfl, hsz, hP, hK, hD0⟩ := hv
  have hx := B.exec
  have hb := B.bytes
  have hr := B.returns
  have hts := atoms_spec (ws := w_zk_X4_init) B.pre
  have hown : s.vm.findClass RX4 = some m.cls := findClass_of_methodNamed B.named
  have hlocks := B.notSynchronized
  have hin : meth.name = "<init>" := (name_of_methodNamed B.named B.method).1
  subst hsz
  have hD := hD0.self (sz := s.heap.size)
  generalize hAe : va_A [(Ad0, .inr (7, Fs0))] s.heap.size = A at hD ⊢
  have hA : ∀ q : Nat, s.heap.size ≤ q → A q := fun q h => by rw [← hAe]; exact Or.inr h
  have hS : va_S A s.heap s.heap [] := va_S.rf
  have hl := lv_entry ([.ref Ad0, .ref Br0]) (n := 2) (Nat.le_of_ble_eq_true rfl)
  rw [lg_entry_eq]
  generalize (lg_sl ([.ref Ad0, .ref Br0]) ++ List.replicate (2 - (lg_sl ([.ref Ad0, .ref Br0])).length) Slot.unset).toArray = ls at hl ⊢
  have hl : lv_has ls 2 [(0, .ref Ad0), (1, .ref Br0)] := hl
  have o_Fs0 := ow_0 k_Fs0
  refine lv_aload_n hx hb dX4_init_0 rfl (lv_at hl 0 rfl) ?_
  refine W.objInit hx hb hown (hts (.methodLink RX4 5 objectInit) (by decide +kernel)) (hts (.instanceMethod objectInit) (by decide +kernel)) (hts (.code objectInit ⟨#[0xb1]⟩ 1 none) (by decide +kernel)) rfl (by rw [hml]; exact hl.1) rfl dX4_init_1 (Nat.le_of_ble_eq_true rfl) (Nat.le_of_ble_eq_true rfl) ?_
  refine W.eq (g2 := F0 m 4 ls []) rfl ?_
  refine lv_aload_n hx hb dX4_init_4 rfl (lv_at hl 0 rfl) ?_
  refine lv_aload_n hx hb dX4_init_5 rfl (lv_at hl 1 rfl) ?_
  refine va_putF (D := (dC, dI)) (ci := 7) (v := .ref Br0) (ty := .object "HeapWorks$Types") (C := RX4) (T := TX4) (N := 21) hx hb hts (in_zk_X4_init_X4) tyX4 tyX4_ok nmX4 hown hK hP hD hS 0 rfl rfl 0 (by decide) (hts (.fieldLink RX4 11 "HeapWorks$Machine" "types" "LHeapWorks$Types;") (by decide +kernel)) (fun _ h9 => h9) rfl hin rfl (by decide +kernel) rfl rfl (by rw [o_Fs0.2.1]; decide) dX4_init_6 (fun H locs hP hD hS => ?_)
  have hP : va_P (dC, dI) vwCl [(Ad0, .inr (7, (Fs0.set 0 (.ref Br0))))] H := hP
  have hD : va_D A [(Ad0, .inr (7, (Fs0.set 0 (.ref Br0))))] := hD
  have o_s7312 := ow_set o_Fs0 0 (.ref Br0) (by decide) (l' := [(0, .ref Br0)]) (w' := [0]) rfl rfl
  generalize (Fs0.set 0 (.ref Br0)) = s7312 at hP hD o_s7312
  refine lv_aload_n hx hb dX4_init_9 rfl (lv_at hl 0 rfl) ?_
  refine lv_bipush (v := 121) hx hb dX4_init_10 (by decide) ?_
  refine va_newa (atype := .int) (ty := .int) (a0 := (121, .inl (fun _ : Nat => (0 : Int32)))) (N' := 121) hx hb (hts (.arrayClass .int) (by decide +kernel)) rfl hK hP hD hS hA (na_I 121) (by decide) (by decide) (by decide) (Nat.le_of_ble_eq_true rfl) (Nat.le_of_ble_eq_true rfl) dX4_init_12 (fun q7313 k7314 H hK hP hD hS => ?_)
  have hK : va_K (dC, dI) vwCl [(k7314, .int)] s := hK
  have hP : va_P (dC, dI) vwCl [(Ad0, .inr (7, s7312)), (q7313, .inl (k7314, 121, .inl ((fun _ : Nat => (0 : Int32)))))] H := hP
  have hD : va_D A [(Ad0, .inr (7, s7312)), (q7313, .inl (k7314, 121, .inl ((fun _ : Nat => (0 : Int32)))))] := hD
  have z7316 : ∀ j, (fun _ : Nat => (0 : Int32)) j = 0 := fun _ => rfl
  generalize (fun _ : Nat => (0 : Int32)) = f7315 at hP hD z7316
  refine W.widen (k := 1) (n := 121) (by omega) (by omega) ?_
  refine va_putF (D := (dC, dI)) (ci := 7) (v := .ref q7313) (ty := .array .int) (C := RX4) (T := TX4) (N := 21) hx hb hts (in_zk_X4_init_X4) tyX4 tyX4_ok nmX4 hown hK hP hD hS 0 rfl rfl 4 (by decide) (hts (.fieldLink RX4 19 "HeapWorks$Machine" "sort" "[I") (by decide +kernel)) (fun _ h9 => h9) rfl hin rfl (by decide +kernel) rfl rfl (by rw [o_s7312.2.1]; decide) dX4_init_14 (fun H locs hP hD hS => ?_)
  have hP : va_P (dC, dI) vwCl [(Ad0, .inr (7, (s7312.set 4 (.ref q7313)))), (q7313, .inl (k7314, 121, .inl f7315))] H := hP
  have hD : va_D A [(Ad0, .inr (7, (s7312.set 4 (.ref q7313)))), (q7313, .inl (k7314, 121, .inl f7315))] := hD
  have o_s7317 := ow_set o_s7312 4 (.ref q7313) (by decide) (l' := [(4, .ref q7313), (0, .ref Br0)]) (w' := [4, 0]) rfl rfl
  generalize (s7312.set 4 (.ref q7313)) = s7317 at hP hD o_s7317
  have hP := hP.sub (ws' := [(Ad0, .inr (7, s7317))]) [0] rfl
  have hD := hD.sub (ws' := [(Ad0, .inr (7, s7317))]) [0] (by decide) rfl
  have hK := hK.sub (tys' := []) [] rfl
  refine lv_aload_n hx hb dX4_init_17 rfl (lv_at hl 0 rfl) ?_
  refine lv_bipush (v := 121) hx hb dX4_init_18 (by decide) ?_
  refine va_newa (atype := .long) (ty := .long) (a0 := (121, .inr (.inl (fun _ : Nat => (0 : Int64))))) (N' := 121) hx hb (hts (.arrayClass .long) (by decide +kernel)) rfl hK hP hD hS hA (na_J 121) (by decide) (by decide) (by decide) (Nat.le_of_ble_eq_true rfl) (Nat.le_of_ble_eq_true rfl) dX4_init_20 (fun q7318 k7319 H hK hP hD hS => ?_)
  have hK : va_K (dC, dI) vwCl [(k7319, .long)] s := hK
  have hP : va_P (dC, dI) vwCl [(Ad0, .inr (7, s7317)), (q7318, .inl (k7319, 121, .inr (.inl ((fun _ : Nat => (0 : Int64))))))] H := hP
  have hD : va_D A [(Ad0, .inr (7, s7317)), (q7318, .inl (k7319, 121, .inr (.inl ((fun _ : Nat => (0 : Int64))))))] := hD
  have z7321 : ∀ j, (fun _ : Nat => (0 : Int64)) j = 0 := fun _ => rfl
  generalize (fun _ : Nat => (0 : Int64)) = f7320 at hP hD z7321
  refine W.widen (k := 2) (n := 242) (by omega) (by omega) ?_
  refine va_putF (D := (dC, dI)) (ci := 7) (v := .ref q7318) (ty := .array .long) (C := RX4) (T := TX4) (N := 21) hx hb hts (in_zk_X4_init_X4) tyX4 tyX4_ok nmX4 hown hK hP hD hS 0 rfl rfl 5 (by decide) (hts (.fieldLink RX4 23 "HeapWorks$Machine" "value" "[J") (by decide +kernel)) (fun _ h9 => h9) rfl hin rfl (by decide +kernel) rfl rfl (by rw [o_s7317.2.1]; decide) dX4_init_22 (fun H locs hP hD hS => ?_)
  have hP : va_P (dC, dI) vwCl [(Ad0, .inr (7, (s7317.set 5 (.ref q7318)))), (q7318, .inl (k7319, 121, .inr (.inl f7320)))] H := hP
  have hD : va_D A [(Ad0, .inr (7, (s7317.set 5 (.ref q7318)))), (q7318, .inl (k7319, 121, .inr (.inl f7320)))] := hD
  have o_s7322 := ow_set o_s7317 5 (.ref q7318) (by decide) (l' := [(5, .ref q7318), (4, .ref q7313), (0, .ref Br0)]) (w' := [5, 4, 0]) rfl rfl
  generalize (s7317.set 5 (.ref q7318)) = s7322 at hP hD o_s7322
  have hP := hP.sub (ws' := [(Ad0, .inr (7, s7322))]) [0] rfl
  have hD := hD.sub (ws' := [(Ad0, .inr (7, s7322))]) [0] (by decide) rfl
  have hK := hK.sub (tys' := []) [] rfl
  refine lv_aload_n hx hb dX4_init_25 rfl (lv_at hl 0 rfl) ?_
  refine lv_bipush (v := 11) hx hb dX4_init_26 (by decide) ?_
  refine va_newa (atype := .int) (ty := .int) (a0 := (11, .inl (fun _ : Nat => (0 : Int32)))) (N' := 11) hx hb (hts (.arrayClass .int) (by decide +kernel)) rfl hK hP hD hS hA (na_I 11) (by decide) (by decide) (by decide) (Nat.le_of_ble_eq_true rfl) (Nat.le_of_ble_eq_true rfl) dX4_init_28 (fun q7323 k7324 H hK hP hD hS => ?_)
  have hK : va_K (dC, dI) vwCl [(k7324, .int)] s := hK
  have hP : va_P (dC, dI) vwCl [(Ad0, .inr (7, s7322)), (q7323, .inl (k7324, 11, .inl ((fun _ : Nat => (0 : Int32)))))] H := hP
  have hD : va_D A [(Ad0, .inr (7, s7322)), (q7323, .inl (k7324, 11, .inl ((fun _ : Nat => (0 : Int32)))))] := hD
  have z7326 : ∀ j, (fun _ : Nat => (0 : Int32)) j = 0 := fun _ => rfl
  generalize (fun _ : Nat => (0 : Int32)) = f7325 at hP hD z7326
  refine W.widen (k := 3) (n := 253) (by omega) (by omega) ?_
  refine va_putF (D := (dC, dI)) (ci := 7) (v := .ref q7323) (ty := .array .int) (C := RX4) (T := TX4) (N := 21) hx hb hts (in_zk_X4_init_X4) tyX4 tyX4_ok nmX4 hown hK hP hD hS 0 rfl rfl 7 (by decide) (hts (.fieldLink RX4 27 "HeapWorks$Machine" "setKind" "[I") (by decide +kernel)) (fun _ h9 => h9) rfl hin rfl (by decide +kernel) rfl rfl (by rw [o_s7322.2.1]; decide) dX4_init_30 (fun H locs hP hD hS => ?_)
  have hP : va_P (dC, dI) vwCl [(Ad0, .inr (7, (s7322.set 7 (.ref q7323)))), (q7323, .inl (k7324, 11, .inl f7325))] H := hP
  have hD : va_D A [(Ad0, .inr (7, (s7322.set 7 (.ref q7323)))), (q7323, .inl (k7324, 11, .inl f7325))] := hD
  have o_s7327 := ow_set o_s7322 7 (.ref q7323) (by decide) (l' := [(7, .ref q7323), (5, .ref q7318), (4, .ref q7313), (0, .ref Br0)]) (w' := [7, 5, 4, 0]) rfl rfl
  generalize (s7322.set 7 (.ref q7323)) = s7327 at hP hD o_s7327
  have hP := hP.sub (ws' := [(Ad0, .inr (7, s7327))]) [0] rfl
  have hD := hD.sub (ws' := [(Ad0, .inr (7, s7327))]) [0] (by decide) rfl
  have hK := hK.sub (tys' := []) [] rfl
  refine lv_aload_n hx hb dX4_init_33 rfl (lv_at hl 0 rfl) ?_
  refine lv_bipush (v := 11) hx hb dX4_init_34 (by decide) ?_
  refine va_newa (atype := .int) (ty := .int) (a0 := (11, .inl (fun _ : Nat => (0 : Int32)))) (N' := 11) hx hb (hts (.arrayClass .int) (by decide +kernel)) rfl hK hP hD hS hA (na_I 11) (by decide) (by decide) (by decide) (Nat.le_of_ble_eq_true rfl) (Nat.le_of_ble_eq_true rfl) dX4_init_36 (fun q7328 k7329 H hK hP hD hS => ?_)
  have hK : va_K (dC, dI) vwCl [(k7329, .int)] s := hK
  have hP : va_P (dC, dI) vwCl [(Ad0, .inr (7, s7327)), (q7328, .inl (k7329, 11, .inl ((fun _ : Nat => (0 : Int32)))))] H := hP
  have hD : va_D A [(Ad0, .inr (7, s7327)), (q7328, .inl (k7329, 11, .inl ((fun _ : Nat => (0 : Int32)))))] := hD
  have z7331 : ∀ j, (fun _ : Nat => (0 : Int32)) j = 0 := fun _ => rfl
  generalize (fun _ : Nat => (0 : Int32)) = f7330 at hP hD z7331
  refine W.widen (k := 4) (n := 264) (by omega) (by omega) ?_
  refine va_putF (D := (dC, dI)) (ci := 7) (v := .ref q7328) (ty := .array .int) (C := RX4) (T := TX4) (N := 21) hx hb hts (in_zk_X4_init_X4) tyX4 tyX4_ok nmX4 hown hK hP hD hS 0 rfl rfl 8 (by decide) (hts (.fieldLink RX4 30 "HeapWorks$Machine" "source" "[I") (by decide +kernel)) (fun _ h9 => h9) rfl hin rfl (by decide +kernel) rfl rfl (by rw [o_s7327.2.1]; decide) dX4_init_38 (fun H locs hP hD hS => ?_)
  have hP : va_P (dC, dI) vwCl [(Ad0, .inr (7, (s7327.set 8 (.ref q7328)))), (q7328, .inl (k7329, 11, .inl f7330))] H := hP
  have hD : va_D A [(Ad0, .inr (7, (s7327.set 8 (.ref q7328)))), (q7328, .inl (k7329, 11, .inl f7330))] := hD
  have o_s7332 := ow_set o_s7327 8 (.ref q7328) (by decide) (l' := [(8, .ref q7328), (7, .ref q7323), (5, .ref q7318), (4, .ref q7313), (0, .ref Br0)]) (w' := [8, 7, 5, 4, 0]) rfl rfl
  generalize (s7327.set 8 (.ref q7328)) = s7332 at hP hD o_s7332
  have hP := hP.sub (ws' := [(Ad0, .inr (7, s7332))]) [0] rfl
  have hD := hD.sub (ws' := [(Ad0, .inr (7, s7332))]) [0] (by decide) rfl
  have hK := hK.sub (tys' := []) [] rfl
  refine lv_aload_n hx hb dX4_init_41 rfl (lv_at hl 0 rfl) ?_
  refine lv_bipush (v := 11) hx hb dX4_init_42 (by decide) ?_
  refine va_newa (atype := .int) (ty := .int) (a0 := (11, .inl (fun _ : Nat => (0 : Int32)))) (N' := 11) hx hb (hts (.arrayClass .int) (by decide +kernel)) rfl hK hP hD hS hA (na_I 11) (by decide) (by decide) (by decide) (Nat.le_of_ble_eq_true rfl) (Nat.le_of_ble_eq_true rfl) dX4_init_44 (fun q7333 k7334 H hK hP hD hS => ?_)
  have hK : va_K (dC, dI) vwCl [(k7334, .int)] s := hK
  have hP : va_P (dC, dI) vwCl [(Ad0, .inr (7, s7332)), (q7333, .inl (k7334, 11, .inl ((fun _ : Nat => (0 : Int32)))))] H := hP
  have hD : va_D A [(Ad0, .inr (7, s7332)), (q7333, .inl (k7334, 11, .inl ((fun _ : Nat => (0 : Int32)))))] := hD
  have z7336 : ∀ j, (fun _ : Nat => (0 : Int32)) j = 0 := fun _ => rfl
  generalize (fun _ : Nat => (0 : Int32)) = f7335 at hP hD z7336
  refine W.widen (k := 5) (n := 275) (by omega) (by omega) ?_
  refine va_putF (D := (dC, dI)) (ci := 7) (v := .ref q7333) (ty := .array .int) (C := RX4) (T := TX4) (N := 21) hx hb hts (in_zk_X4_init_X4) tyX4 tyX4_ok nmX4 hown hK hP hD hS 0 rfl rfl 9 (by decide) (hts (.fieldLink RX4 33 "HeapWorks$Machine" "cursor" "[I") (by decide +kernel)) (fun _ h9 => h9) rfl hin rfl (by decide +kernel) rfl rfl (by rw [o_s7332.2.1]; decide) dX4_init_46 (fun H locs hP hD hS => ?_)
  have hP : va_P (dC, dI) vwCl [(Ad0, .inr (7, (s7332.set 9 (.ref q7333)))), (q7333, .inl (k7334, 11, .inl f7335))] H := hP
  have hD : va_D A [(Ad0, .inr (7, (s7332.set 9 (.ref q7333)))), (q7333, .inl (k7334, 11, .inl f7335))] := hD
  have o_s7337 := ow_set o_s7332 9 (.ref q7333) (by decide) (l' := [(9, .ref q7333), (8, .ref q7328), (7, .ref q7323), (5, .ref q7318), (4, .ref q7313), (0, .ref Br0)]) (w' := [9, 8, 7, 5, 4, 0]) rfl rfl
  generalize (s7332.set 9 (.ref q7333)) = s7337 at hP hD o_s7337
  have hP := hP.sub (ws' := [(Ad0, .inr (7, s7337))]) [0] rfl
  have hD := hD.sub (ws' := [(Ad0, .inr (7, s7337))]) [0] (by decide) rfl
  have hK := hK.sub (tys' := []) [] rfl
  refine lv_aload_n hx hb dX4_init_49 rfl (lv_at hl 0 rfl) ?_
  refine lv_bipush (v := 11) hx hb dX4_init_50 (by decide) ?_
  refine va_newa (atype := .int) (ty := .int) (a0 := (11, .inl (fun _ : Nat => (0 : Int32)))) (N' := 11) hx hb (hts (.arrayClass .int) (by decide +kernel)) rfl hK hP hD hS hA (na_I 11) (by decide) (by decide) (by decide) (Nat.le_of_ble_eq_true rfl) (Nat.le_of_ble_eq_true rfl) dX4_init_52 (fun q7338 k7339 H hK hP hD hS => ?_)
  have hK : va_K (dC, dI) vwCl [(k7339, .int)] s := hK
  have hP : va_P (dC, dI) vwCl [(Ad0, .inr (7, s7337)), (q7338, .inl (k7339, 11, .inl ((fun _ : Nat => (0 : Int32)))))] H := hP
  have hD : va_D A [(Ad0, .inr (7, s7337)), (q7338, .inl (k7339, 11, .inl ((fun _ : Nat => (0 : Int32)))))] := hD
  have z7341 : ∀ j, (fun _ : Nat => (0 : Int32)) j = 0 := fun _ => rfl
  generalize (fun _ : Nat => (0 : Int32)) = f7340 at hP hD z7341
  refine W.widen (k := 6) (n := 286) (by omega) (by omega) ?_
  refine va_putF (D := (dC, dI)) (ci := 7) (v := .ref q7338) (ty := .array .int) (C := RX4) (T := TX4) (N := 21) hx hb hts (in_zk_X4_init_X4) tyX4 tyX4_ok nmX4 hown hK hP hD hS 0 rfl rfl 10 (by decide) (hts (.fieldLink RX4 36 "HeapWorks$Machine" "bound" "[I") (by decide +kernel)) (fun _ h9 => h9) rfl hin rfl (by decide +kernel) rfl rfl (by rw [o_s7337.2.1]; decide) dX4_init_54 (fun H locs hP hD hS => ?_)
  have hP : va_P (dC, dI) vwCl [(Ad0, .inr (7, (s7337.set 10 (.ref q7338)))), (q7338, .inl (k7339, 11, .inl f7340))] H := hP
  have hD : va_D A [(Ad0, .inr (7, (s7337.set 10 (.ref q7338)))), (q7338, .inl (k7339, 11, .inl f7340))] := hD
  have o_s7342 := ow_set o_s7337 10 (.ref q7338) (by decide) (l' := [(10, .ref q7338), (9, .ref q7333), (8, .ref q7328), (7, .ref q7323), (5, .ref q7318), (4, .ref q7313), (0, .ref Br0)]) (w' := [10, 9, 8, 7, 5, 4, 0]) rfl rfl
  generalize (s7337.set 10 (.ref q7338)) = s7342 at hP hD o_s7342
  have hP := hP.sub (ws' := [(Ad0, .inr (7, s7342))]) [0] rfl
  have hD := hD.sub (ws' := [(Ad0, .inr (7, s7342))]) [0] (by decide) rfl
  have hK := hK.sub (tys' := []) [] rfl
  refine lv_aload_n hx hb dX4_init_57 rfl (lv_at hl 0 rfl) ?_
  refine lv_bipush (v := 11) hx hb dX4_init_58 (by decide) ?_
  refine va_newa (atype := .int) (ty := .int) (a0 := (11, .inl (fun _ : Nat => (0 : Int32)))) (N' := 11) hx hb (hts (.arrayClass .int) (by decide +kernel)) rfl hK hP hD hS hA (na_I 11) (by decide) (by decide) (by decide) (Nat.le_of_ble_eq_true rfl) (Nat.le_of_ble_eq_true rfl) dX4_init_60 (fun q7343 k7344 H hK hP hD hS => ?_)
  have hK : va_K (dC, dI) vwCl [(k7344, .int)] s := hK
  have hP : va_P (dC, dI) vwCl [(Ad0, .inr (7, s7342)), (q7343, .inl (k7344, 11, .inl ((fun _ : Nat => (0 : Int32)))))] H := hP
  have hD : va_D A [(Ad0, .inr (7, s7342)), (q7343, .inl (k7344, 11, .inl ((fun _ : Nat => (0 : Int32)))))] := hD
  have z7346 : ∀ j, (fun _ : Nat => (0 : Int32)) j = 0 := fun _ => rfl
  generalize (fun _ : Nat => (0 : Int32)) = f7345 at hP hD z7346
  refine W.widen (k := 7) (n := 297) (by omega) (by omega) ?_
  refine va_putF (D := (dC, dI)) (ci := 7) (v := .ref q7343) (ty := .array .int) (C := RX4) (T := TX4) (N := 21) hx hb hts (in_zk_X4_init_X4) tyX4 tyX4_ok nmX4 hown hK hP hD hS 0 rfl rfl 11 (by decide) (hts (.fieldLink RX4 39 "HeapWorks$Machine" "current" "[I") (by decide +kernel)) (fun _ h9 => h9) rfl hin rfl (by decide +kernel) rfl rfl (by rw [o_s7342.2.1]; decide) dX4_init_62 (fun H locs hP hD hS => ?_)
  have hP : va_P (dC, dI) vwCl [(Ad0, .inr (7, (s7342.set 11 (.ref q7343)))), (q7343, .inl (k7344, 11, .inl f7345))] H := hP
  have hD : va_D A [(Ad0, .inr (7, (s7342.set 11 (.ref q7343)))), (q7343, .inl (k7344, 11, .inl f7345))] := hD
  have o_s7347 := ow_set o_s7342 11 (.ref q7343) (by decide) (l' := [(11, .ref q7343), (10, .ref q7338), (9, .ref q7333), (8, .ref q7328), (7, .ref q7323), (5, .ref q7318), (4, .ref q7313), (0, .ref Br0)]) (w' := [11, 10, 9, 8, 7, 5, 4, 0]) rfl rfl
  generalize (s7342.set 11 (.ref q7343)) = s7347 at hP hD o_s7347
  have hP := hP.sub (ws' := [(Ad0, .inr (7, s7347))]) [0] rfl
  have hD := hD.sub (ws' := [(Ad0, .inr (7, s7347))]) [0] (by decide) rfl
  have hK := hK.sub (tys' := []) [] rfl
  refine lv_aload_n hx hb dX4_init_65 rfl (lv_at hl 0 rfl) ?_
  refine lv_bipush (v := 11) hx hb dX4_init_66 (by decide) ?_
  refine va_newa (atype := .long) (ty := .long) (a0 := (11, .inr (.inl (fun _ : Nat => (0 : Int64))))) (N' := 11) hx hb (hts (.arrayClass .long) (by decide +kernel)) rfl hK hP hD hS hA (na_J 11) (by decide) (by decide) (by decide) (Nat.le_of_ble_eq_true rfl) (Nat.le_of_ble_eq_true rfl) dX4_init_68 (fun q7348 k7349 H hK hP hD hS => ?_)
  have hK : va_K (dC, dI) vwCl [(k7349, .long)] s := hK
  have hP : va_P (dC, dI) vwCl [(Ad0, .inr (7, s7347)), (q7348, .inl (k7349, 11, .inr (.inl ((fun _ : Nat => (0 : Int64))))))] H := hP
  have hD : va_D A [(Ad0, .inr (7, s7347)), (q7348, .inl (k7349, 11, .inr (.inl ((fun _ : Nat => (0 : Int64))))))] := hD
  have z7351 : ∀ j, (fun _ : Nat => (0 : Int64)) j = 0 := fun _ => rfl
  generalize (fun _ : Nat => (0 : Int64)) = f7350 at hP hD z7351
  refine W.widen (k := 8) (n := 308) (by omega) (by omega) ?_
  refine va_putF (D := (dC, dI)) (ci := 7) (v := .ref q7348) (ty := .array .long) (C := RX4) (T := TX4) (N := 21) hx hb hts (in_zk_X4_init_X4) tyX4 tyX4_ok nmX4 hown hK hP hD hS 0 rfl rfl 12 (by decide) (hts (.fieldLink RX4 42 "HeapWorks$Machine" "total" "[J") (by decide +kernel)) (fun _ h9 => h9) rfl hin rfl (by decide +kernel) rfl rfl (by rw [o_s7347.2.1]; decide) dX4_init_70 (fun H locs hP hD hS => ?_)
  have hP : va_P (dC, dI) vwCl [(Ad0, .inr (7, (s7347.set 12 (.ref q7348)))), (q7348, .inl (k7349, 11, .inr (.inl f7350)))] H := hP
  have hD : va_D A [(Ad0, .inr (7, (s7347.set 12 (.ref q7348)))), (q7348, .inl (k7349, 11, .inr (.inl f7350)))] := hD
  have o_s7352 := ow_set o_s7347 12 (.ref q7348) (by decide) (l' := [(12, .ref q7348), (11, .ref q7343), (10, .ref q7338), (9, .ref q7333), (8, .ref q7328), (7, .ref q7323), (5, .ref q7318), (4, .ref q7313), (0, .ref Br0)]) (w' := [12, 11, 10, 9, 8, 7, 5, 4, 0]) rfl rfl
  generalize (s7347.set 12 (.ref q7348)) = s7352 at hP hD o_s7352
  have hP := hP.sub (ws' := [(Ad0, .inr (7, s7352))]) [0] rfl
  have hD := hD.sub (ws' := [(Ad0, .inr (7, s7352))]) [0] (by decide) rfl
  have hK := hK.sub (tys' := []) [] rfl
  refine lv_aload_n hx hb dX4_init_73 rfl (lv_at hl 0 rfl) ?_
  refine lv_bipush (v := 11) hx hb dX4_init_74 (by decide) ?_
  refine va_newa (atype := .boolean) (ty := .boolean) (a0 := (11, .inl (fun _ : Nat => (0 : Int32)))) (N' := 11) hx hb (hts (.arrayClass .boolean) (by decide +kernel)) rfl hK hP hD hS hA (na_Z 11) (by decide) (by decide) (by decide) (Nat.le_of_ble_eq_true rfl) (Nat.le_of_ble_eq_true rfl) dX4_init_76 (fun q7353 k7354 H hK hP hD hS => ?_)
  have hK : va_K (dC, dI) vwCl [(k7354, .boolean)] s := hK
  have hP : va_P (dC, dI) vwCl [(Ad0, .inr (7, s7352)), (q7353, .inl (k7354, 11, .inl ((fun _ : Nat => (0 : Int32)))))] H := hP
  have hD : va_D A [(Ad0, .inr (7, s7352)), (q7353, .inl (k7354, 11, .inl ((fun _ : Nat => (0 : Int32)))))] := hD
  have z7356 : ∀ j, (fun _ : Nat => (0 : Int32)) j = 0 := fun _ => rfl
  generalize (fun _ : Nat => (0 : Int32)) = f7355 at hP hD z7356
  refine W.widen (k := 9) (n := 319) (by omega) (by omega) ?_
  refine va_putF (D := (dC, dI)) (ci := 7) (v := .ref q7353) (ty := .array .boolean) (C := RX4) (T := TX4) (N := 21) hx hb hts (in_zk_X4_init_X4) tyX4 tyX4_ok nmX4 hown hK hP hD hS 0 rfl rfl 13 (by decide) (hts (.fieldLink RX4 45 "HeapWorks$Machine" "found" "[Z") (by decide +kernel)) (fun _ h9 => h9) rfl hin rfl (by decide +kernel) rfl rfl (by rw [o_s7352.2.1]; decide) dX4_init_78 (fun H locs hP hD hS => ?_)
  have hP : va_P (dC, dI) vwCl [(Ad0, .inr (7, (s7352.set 13 (.ref q7353)))), (q7353, .inl (k7354, 11, .inl f7355))] H := hP
  have hD : va_D A [(Ad0, .inr (7, (s7352.set 13 (.ref q7353)))), (q7353, .inl (k7354, 11, .inl f7355))] := hD
  have o_s7357 := ow_set o_s7352 13 (.ref q7353) (by decide) (l' := [(13, .ref q7353), (12, .ref q7348), (11, .ref q7343), (10, .ref q7338), (9, .ref q7333), (8, .ref q7328), (7, .ref q7323), (5, .ref q7318), (4, .ref q7313), (0, .ref Br0)]) (w' := [13, 12, 11, 10, 9, 8, 7, 5, 4, 0]) rfl rfl
  generalize (s7352.set 13 (.ref q7353)) = s7357 at hP hD o_s7357
  have hP := hP.sub (ws' := [(Ad0, .inr (7, s7357))]) [0] rfl
  have hD := hD.sub (ws' := [(Ad0, .inr (7, s7357))]) [0] (by decide) rfl
  have hK := hK.sub (tys' := []) [] rfl
  refine lv_aload_n hx hb dX4_init_81 rfl (lv_at hl 0 rfl) ?_
  refine lv_sipush (v := 4400) hx hb dX4_init_82 (by decide) ?_
  refine va_newa (atype := .int) (ty := .int) (a0 := (4400, .inl (fun _ : Nat => (0 : Int32)))) (N' := 4400) hx hb (hts (.arrayClass .int) (by decide +kernel)) rfl hK hP hD hS hA (na_I 4400) (by decide) (by decide) (by decide) (Nat.le_of_ble_eq_true rfl) (Nat.le_of_ble_eq_true rfl) dX4_init_85 (fun q7358 k7359 H hK hP hD hS => ?_)
  have hK : va_K (dC, dI) vwCl [(k7359, .int)] s := hK
  have hP : va_P (dC, dI) vwCl [(Ad0, .inr (7, s7357)), (q7358, .inl (k7359, 4400, .inl ((fun _ : Nat => (0 : Int32)))))] H := hP
  have hD : va_D A [(Ad0, .inr (7, s7357)), (q7358, .inl (k7359, 4400, .inl ((fun _ : Nat => (0 : Int32)))))] := hD
  have z7361 : ∀ j, (fun _ : Nat => (0 : Int32)) j = 0 := fun _ => rfl
  generalize (fun _ : Nat => (0 : Int32)) = f7360 at hP hD z7361
  refine W.widen (k := 10) (n := 4719) (by omega) (by omega) ?_
  refine va_putF (D := (dC, dI)) (ci := 7) (v := .ref q7358) (ty := .array .int) (C := RX4) (T := TX4) (N := 21) hx hb hts (in_zk_X4_init_X4) tyX4 tyX4_ok nmX4 hown hK hP hD hS 0 rfl rfl 14 (by decide) (hts (.fieldLink RX4 49 "HeapWorks$Machine" "queue" "[I") (by decide +kernel)) (fun _ h9 => h9) rfl hin rfl (by decide +kernel) rfl rfl (by rw [o_s7357.2.1]; decide) dX4_init_87 (fun H locs hP hD hS => ?_)
  have hP : va_P (dC, dI) vwCl [(Ad0, .inr (7, (s7357.set 14 (.ref q7358)))), (q7358, .inl (k7359, 4400, .inl f7360))] H := hP
  have hD : va_D A [(Ad0, .inr (7, (s7357.set 14 (.ref q7358)))), (q7358, .inl (k7359, 4400, .inl f7360))] := hD
  have o_s7362 := ow_set o_s7357 14 (.ref q7358) (by decide) (l' := [(14, .ref q7358), (13, .ref q7353), (12, .ref q7348), (11, .ref q7343), (10, .ref q7338), (9, .ref q7333), (8, .ref q7328), (7, .ref q7323), (5, .ref q7318), (4, .ref q7313), (0, .ref Br0)]) (w' := [14, 13, 12, 11, 10, 9, 8, 7, 5, 4, 0]) rfl rfl
  generalize (s7357.set 14 (.ref q7358)) = s7362 at hP hD o_s7362
  have hP := hP.sub (ws' := [(Ad0, .inr (7, s7362))]) [0] rfl
  have hD := hD.sub (ws' := [(Ad0, .inr (7, s7362))]) [0] (by decide) rfl
  have hK := hK.sub (tys' := []) [] rfl
  refine lv_aload_n hx hb dX4_init_90 rfl (lv_at hl 0 rfl) ?_
  refine lv_sipush (v := 4400) hx hb dX4_init_91 (by decide) ?_
  refine va_newa (atype := .int) (ty := .int) (a0 := (4400, .inl (fun _ : Nat => (0 : Int32)))) (N' := 4400) hx hb (hts (.arrayClass .int) (by decide +kernel)) rfl hK hP hD hS hA (na_I 4400) (by decide) (by decide) (by decide) (Nat.le_of_ble_eq_true rfl) (Nat.le_of_ble_eq_true rfl) dX4_init_94 (fun q7363 k7364 H hK hP hD hS => ?_)
  have hK : va_K (dC, dI) vwCl [(k7364, .int)] s := hK
  have hP : va_P (dC, dI) vwCl [(Ad0, .inr (7, s7362)), (q7363, .inl (k7364, 4400, .inl ((fun _ : Nat => (0 : Int32)))))] H := hP
  have hD : va_D A [(Ad0, .inr (7, s7362)), (q7363, .inl (k7364, 4400, .inl ((fun _ : Nat => (0 : Int32)))))] := hD
  have z7366 : ∀ j, (fun _ : Nat => (0 : Int32)) j = 0 := fun _ => rfl
  generalize (fun _ : Nat => (0 : Int32)) = f7365 at hP hD z7366
  refine W.widen (k := 11) (n := 9119) (by omega) (by omega) ?_
  refine va_putF (D := (dC, dI)) (ci := 7) (v := .ref q7363) (ty := .array .int) (C := RX4) (T := TX4) (N := 21) hx hb hts (in_zk_X4_init_X4) tyX4 tyX4_ok nmX4 hown hK hP hD hS 0 rfl rfl 15 (by decide) (hts (.fieldLink RX4 52 "HeapWorks$Machine" "seen" "[I") (by decide +kernel)) (fun _ h9 => h9) rfl hin rfl (by decide +kernel) rfl rfl (by rw [o_s7362.2.1]; decide) dX4_init_96 (fun H locs hP hD hS => ?_)
  have hP : va_P (dC, dI) vwCl [(Ad0, .inr (7, (s7362.set 15 (.ref q7363)))), (q7363, .inl (k7364, 4400, .inl f7365))] H := hP
  have hD : va_D A [(Ad0, .inr (7, (s7362.set 15 (.ref q7363)))), (q7363, .inl (k7364, 4400, .inl f7365))] := hD
  have o_s7367 := ow_set o_s7362 15 (.ref q7363) (by decide) (l' := [(15, .ref q7363), (14, .ref q7358), (13, .ref q7353), (12, .ref q7348), (11, .ref q7343), (10, .ref q7338), (9, .ref q7333), (8, .ref q7328), (7, .ref q7323), (5, .ref q7318), (4, .ref q7313), (0, .ref Br0)]) (w' := [15, 14, 13, 12, 11, 10, 9, 8, 7, 5, 4, 0]) rfl rfl
  generalize (s7362.set 15 (.ref q7363)) = s7367 at hP hD o_s7367
  have hP := hP.sub (ws' := [(Ad0, .inr (7, s7367))]) [0] rfl
  have hD := hD.sub (ws' := [(Ad0, .inr (7, s7367))]) [0] (by decide) rfl
  have hK := hK.sub (tys' := []) [] rfl
  refine lv_aload_n hx hb dX4_init_99 rfl (lv_at hl 0 rfl) ?_
  refine lv_bipush (v := 11) hx hb dX4_init_100 (by decide) ?_
  refine va_newa (atype := .int) (ty := .int) (a0 := (11, .inl (fun _ : Nat => (0 : Int32)))) (N' := 11) hx hb (hts (.arrayClass .int) (by decide +kernel)) rfl hK hP hD hS hA (na_I 11) (by decide) (by decide) (by decide) (Nat.le_of_ble_eq_true rfl) (Nat.le_of_ble_eq_true rfl) dX4_init_102 (fun q7368 k7369 H hK hP hD hS => ?_)
  have hK : va_K (dC, dI) vwCl [(k7369, .int)] s := hK
  have hP : va_P (dC, dI) vwCl [(Ad0, .inr (7, s7367)), (q7368, .inl (k7369, 11, .inl ((fun _ : Nat => (0 : Int32)))))] H := hP
  have hD : va_D A [(Ad0, .inr (7, s7367)), (q7368, .inl (k7369, 11, .inl ((fun _ : Nat => (0 : Int32)))))] := hD
  have z7371 : ∀ j, (fun _ : Nat => (0 : Int32)) j = 0 := fun _ => rfl
  generalize (fun _ : Nat => (0 : Int32)) = f7370 at hP hD z7371
  refine W.widen (k := 12) (n := 9130) (by omega) (by omega) ?_
  refine va_putF (D := (dC, dI)) (ci := 7) (v := .ref q7368) (ty := .array .int) (C := RX4) (T := TX4) (N := 21) hx hb hts (in_zk_X4_init_X4) tyX4 tyX4_ok nmX4 hown hK hP hD hS 0 rfl rfl 16 (by decide) (hts (.fieldLink RX4 55 "HeapWorks$Machine" "stamp" "[I") (by decide +kernel)) (fun _ h9 => h9) rfl hin rfl (by decide +kernel) rfl rfl (by rw [o_s7367.2.1]; decide) dX4_init_104 (fun H locs hP hD hS => ?_)
  have hP : va_P (dC, dI) vwCl [(Ad0, .inr (7, (s7367.set 16 (.ref q7368)))), (q7368, .inl (k7369, 11, .inl f7370))] H := hP
  have hD : va_D A [(Ad0, .inr (7, (s7367.set 16 (.ref q7368)))), (q7368, .inl (k7369, 11, .inl f7370))] := hD
  have o_s7372 := ow_set o_s7367 16 (.ref q7368) (by decide) (l' := [(16, .ref q7368), (15, .ref q7363), (14, .ref q7358), (13, .ref q7353), (12, .ref q7348), (11, .ref q7343), (10, .ref q7338), (9, .ref q7333), (8, .ref q7328), (7, .ref q7323), (5, .ref q7318), (4, .ref q7313), (0, .ref Br0)]) (w' := [16, 15, 14, 13, 12, 11, 10, 9, 8, 7, 5, 4, 0]) rfl rfl
  generalize (s7367.set 16 (.ref q7368)) = s7372 at hP hD o_s7372
  have hP := hP.sub (ws' := [(Ad0, .inr (7, s7372))]) [0] rfl
  have hD := hD.sub (ws' := [(Ad0, .inr (7, s7372))]) [0] (by decide) rfl
  have hK := hK.sub (tys' := []) [] rfl
  refine lv_aload_n hx hb dX4_init_107 rfl (lv_at hl 0 rfl) ?_
  refine lv_sipush (v := 4000) hx hb dX4_init_108 (by decide) ?_
  refine va_newa (atype := .int) (ty := .int) (a0 := (4000, .inl (fun _ : Nat => (0 : Int32)))) (N' := 4000) hx hb (hts (.arrayClass .int) (by decide +kernel)) rfl hK hP hD hS hA (na_I 4000) (by decide) (by decide) (by decide) (Nat.le_of_ble_eq_true rfl) (Nat.le_of_ble_eq_true rfl) dX4_init_111 (fun q7373 k7374 H hK hP hD hS => ?_)
  have hK : va_K (dC, dI) vwCl [(k7374, .int)] s := hK
  have hP : va_P (dC, dI) vwCl [(Ad0, .inr (7, s7372)), (q7373, .inl (k7374, 4000, .inl ((fun _ : Nat => (0 : Int32)))))] H := hP
  have hD : va_D A [(Ad0, .inr (7, s7372)), (q7373, .inl (k7374, 4000, .inl ((fun _ : Nat => (0 : Int32)))))] := hD
  have z7376 : ∀ j, (fun _ : Nat => (0 : Int32)) j = 0 := fun _ => rfl
  generalize (fun _ : Nat => (0 : Int32)) = f7375 at hP hD z7376
  refine W.widen (k := 13) (n := 13130) (by omega) (by omega) ?_
  refine va_putF (D := (dC, dI)) (ci := 7) (v := .ref q7373) (ty := .array .int) (C := RX4) (T := TX4) (N := 21) hx hb hts (in_zk_X4_init_X4) tyX4 tyX4_ok nmX4 hown hK hP hD hS 0 rfl rfl 17 (by decide) (hts (.fieldLink RX4 58 "HeapWorks$Machine" "rowThing" "[I") (by decide +kernel)) (fun _ h9 => h9) rfl hin rfl (by decide +kernel) rfl rfl (by rw [o_s7372.2.1]; decide) dX4_init_113 (fun H locs hP hD hS => ?_)
  have hP : va_P (dC, dI) vwCl [(Ad0, .inr (7, (s7372.set 17 (.ref q7373)))), (q7373, .inl (k7374, 4000, .inl f7375))] H := hP
  have hD : va_D A [(Ad0, .inr (7, (s7372.set 17 (.ref q7373)))), (q7373, .inl (k7374, 4000, .inl f7375))] := hD
  have o_s7377 := ow_set o_s7372 17 (.ref q7373) (by decide) (l' := [(17, .ref q7373), (16, .ref q7368), (15, .ref q7363), (14, .ref q7358), (13, .ref q7353), (12, .ref q7348), (11, .ref q7343), (10, .ref q7338), (9, .ref q7333), (8, .ref q7328), (7, .ref q7323), (5, .ref q7318), (4, .ref q7313), (0, .ref Br0)]) (w' := [17, 16, 15, 14, 13, 12, 11, 10, 9, 8, 7, 5, 4, 0]) rfl rfl
  generalize (s7372.set 17 (.ref q7373)) = s7377 at hP hD o_s7377
  have hP := hP.sub (ws' := [(Ad0, .inr (7, s7377))]) [0] rfl
  have hD := hD.sub (ws' := [(Ad0, .inr (7, s7377))]) [0] (by decide) rfl
  have hK := hK.sub (tys' := []) [] rfl
  refine lv_aload_n hx hb dX4_init_116 rfl (lv_at hl 0 rfl) ?_
  refine lv_sipush (v := 4000) hx hb dX4_init_117 (by decide) ?_
  refine va_newa (atype := .int) (ty := .int) (a0 := (4000, .inl (fun _ : Nat => (0 : Int32)))) (N' := 4000) hx hb (hts (.arrayClass .int) (by decide +kernel)) rfl hK hP hD hS hA (na_I 4000) (by decide) (by decide) (by decide) (Nat.le_of_ble_eq_true rfl) (Nat.le_of_ble_eq_true rfl) dX4_init_120 (fun q7378 k7379 H hK hP hD hS => ?_)
  have hK : va_K (dC, dI) vwCl [(k7379, .int)] s := hK
  have hP : va_P (dC, dI) vwCl [(Ad0, .inr (7, s7377)), (q7378, .inl (k7379, 4000, .inl ((fun _ : Nat => (0 : Int32)))))] H := hP
  have hD : va_D A [(Ad0, .inr (7, s7377)), (q7378, .inl (k7379, 4000, .inl ((fun _ : Nat => (0 : Int32)))))] := hD
  have z7381 : ∀ j, (fun _ : Nat => (0 : Int32)) j = 0 := fun _ => rfl
  generalize (fun _ : Nat => (0 : Int32)) = f7380 at hP hD z7381
  refine W.widen (k := 14) (n := 17130) (by omega) (by omega) ?_
  refine va_putF (D := (dC, dI)) (ci := 7) (v := .ref q7378) (ty := .array .int) (C := RX4) (T := TX4) (N := 21) hx hb hts (in_zk_X4_init_X4) tyX4 tyX4_ok nmX4 hown hK hP hD hS 0 rfl rfl 18 (by decide) (hts (.fieldLink RX4 61 "HeapWorks$Machine" "rowSort" "[I") (by decide +kernel)) (fun _ h9 => h9) rfl hin rfl (by decide +kernel) rfl rfl (by rw [o_s7377.2.1]; decide) dX4_init_122 (fun H locs hP hD hS => ?_)
  have hP : va_P (dC, dI) vwCl [(Ad0, .inr (7, (s7377.set 18 (.ref q7378)))), (q7378, .inl (k7379, 4000, .inl f7380))] H := hP
  have hD : va_D A [(Ad0, .inr (7, (s7377.set 18 (.ref q7378)))), (q7378, .inl (k7379, 4000, .inl f7380))] := hD
  have o_s7382 := ow_set o_s7377 18 (.ref q7378) (by decide) (l' := [(18, .ref q7378), (17, .ref q7373), (16, .ref q7368), (15, .ref q7363), (14, .ref q7358), (13, .ref q7353), (12, .ref q7348), (11, .ref q7343), (10, .ref q7338), (9, .ref q7333), (8, .ref q7328), (7, .ref q7323), (5, .ref q7318), (4, .ref q7313), (0, .ref Br0)]) (w' := [18, 17, 16, 15, 14, 13, 12, 11, 10, 9, 8, 7, 5, 4, 0]) rfl rfl
  generalize (s7377.set 18 (.ref q7378)) = s7382 at hP hD o_s7382
  have hP := hP.sub (ws' := [(Ad0, .inr (7, s7382))]) [0] rfl
  have hD := hD.sub (ws' := [(Ad0, .inr (7, s7382))]) [0] (by decide) rfl
  have hK := hK.sub (tys' := []) [] rfl
  refine lv_aload_n hx hb dX4_init_125 rfl (lv_at hl 0 rfl) ?_
  refine lv_sipush (v := 4000) hx hb dX4_init_126 (by decide) ?_
  refine va_newa (atype := .long) (ty := .long) (a0 := (4000, .inr (.inl (fun _ : Nat => (0 : Int64))))) (N' := 4000) hx hb (hts (.arrayClass .long) (by decide +kernel)) rfl hK hP hD hS hA (na_J 4000) (by decide) (by decide) (by decide) (Nat.le_of_ble_eq_true rfl) (Nat.le_of_ble_eq_true rfl) dX4_init_129 (fun q7383 k7384 H hK hP hD hS => ?_)
  have hK : va_K (dC, dI) vwCl [(k7384, .long)] s := hK
  have hP : va_P (dC, dI) vwCl [(Ad0, .inr (7, s7382)), (q7383, .inl (k7384, 4000, .inr (.inl ((fun _ : Nat => (0 : Int64))))))] H := hP
  have hD : va_D A [(Ad0, .inr (7, s7382)), (q7383, .inl (k7384, 4000, .inr (.inl ((fun _ : Nat => (0 : Int64))))))] := hD
  have z7386 : ∀ j, (fun _ : Nat => (0 : Int64)) j = 0 := fun _ => rfl
  generalize (fun _ : Nat => (0 : Int64)) = f7385 at hP hD z7386
  refine W.widen (k := 15) (n := 21130) (by omega) (by omega) ?_
  refine va_putF (D := (dC, dI)) (ci := 7) (v := .ref q7383) (ty := .array .long) (C := RX4) (T := TX4) (N := 21) hx hb hts (in_zk_X4_init_X4) tyX4 tyX4_ok nmX4 hown hK hP hD hS 0 rfl rfl 19 (by decide) (hts (.fieldLink RX4 64 "HeapWorks$Machine" "rowValue" "[J") (by decide +kernel)) (fun _ h9 => h9) rfl hin rfl (by decide +kernel) rfl rfl (by rw [o_s7382.2.1]; decide) dX4_init_131 (fun H locs hP hD hS => ?_)
  have hP : va_P (dC, dI) vwCl [(Ad0, .inr (7, (s7382.set 19 (.ref q7383)))), (q7383, .inl (k7384, 4000, .inr (.inl f7385)))] H := hP
  have hD : va_D A [(Ad0, .inr (7, (s7382.set 19 (.ref q7383)))), (q7383, .inl (k7384, 4000, .inr (.inl f7385)))] := hD
  have o_s7387 := ow_set o_s7382 19 (.ref q7383) (by decide) (l' := [(19, .ref q7383), (18, .ref q7378), (17, .ref q7373), (16, .ref q7368), (15, .ref q7363), (14, .ref q7358), (13, .ref q7353), (12, .ref q7348), (11, .ref q7343), (10, .ref q7338), (9, .ref q7333), (8, .ref q7328), (7, .ref q7323), (5, .ref q7318), (4, .ref q7313), (0, .ref Br0)]) (w' := [19, 18, 17, 16, 15, 14, 13, 12, 11, 10, 9, 8, 7, 5, 4, 0]) rfl rfl
  generalize (s7382.set 19 (.ref q7383)) = s7387 at hP hD o_s7387
  have hP := hP.sub (ws' := [(Ad0, .inr (7, s7387))]) [0] rfl
  have hD := hD.sub (ws' := [(Ad0, .inr (7, s7387))]) [0] (by decide) rfl
  have hK := hK.sub (tys' := []) [] rfl
  have hP9 := hP.sub (ws' := [(Ad0, .inr (7, s7387))]) [0] rfl
  have hD9 := hD.sub (ws' := [(Ad0, .inr (7, s7387))]) [0] (by decide) rfl
  have hK9 := hK.sub (tys' := []) [] rfl
  refine W.widen (k := 15) (n := 21130) (by decide) (by decide) ?_
  exact W.vret hx hb hr (fun t ht hW => ⟨⟨s7387, rfl, (ow_sub o_s7387 [15] rfl), by rw [ht]; exact hP9, va_K.moved hW.alike hK9, hD9⟩, hS.F ht⟩) hS.2.2 dX4_init_134

def l_zk_X7_init : List Cond := [.methodLink RX7 3 objectInit, .instanceMethod objectInit, .code objectInit ⟨#[0xb1]⟩ 1 none, .fieldLink RX7 9 "HeapWorks$RuleText" "tape" "LHeapWorks$Tape;", .methodLink RX7 17 yX9_codeOf, .static yX9_codeOf, .initialized RX9, .fieldLink RX7 23 "HeapWorks$RuleText" "ifCode" "J", .fieldLink RX7 29 "HeapWorks$RuleText" "linkCode" "J", .arrayClass .int, .fieldLink RX7 32 "HeapWorks$RuleText" "headRelation" "[I", .fieldLink RX7 36 "HeapWorks$RuleText" "headA" "[I", .fieldLink RX7 39 "HeapWorks$RuleText" "headB" "[I", .fieldLink RX7 42 "HeapWorks$RuleText" "variableCount" "[I", .fieldLink RX7 45 "HeapWorks$RuleText" "bodyCount" "[I", .fieldLink RX7 48 "HeapWorks$RuleText" "bodyRelation" "[I", .fieldLink RX7 51 "HeapWorks$RuleText" "bodyA" "[I", .fieldLink RX7 54 "HeapWorks$RuleText" "bodyB" "[I", .arrayClass .long, .fieldLink RX7 57 "HeapWorks$RuleText" "bodyName" "[J", .fieldLink RX7 61 "HeapWorks$RuleText" "variableName" "[J", .fieldLink RX7 64 "HeapWorks$RuleText" "relationName" "[J", .fieldLink RX7 67 "HeapWorks$RuleText" "arity" "[I", .code yX9_codeOf cX9_codeOf 4 (some .long), .methodLink RX9 33 yJ0_length_8abf5, .instanceMethod yJ0_length_8abf5, .selects RJ0 yJ0_length_8abf5 yJ0_length_8abf5, .initialized RJ0, .constantLong RX9 43 (64), .methodLink RX9 39 yJ0_charAt_5068e, .instanceMethod yJ0_charAt_5068e, .selects RJ0 yJ0_charAt_5068e yJ0_charAt_5068e, .methodLink RX9 45 yX9_symbolOf, .static yX9_symbolOf, .code yJ0_length_8abf5 cJ0_length_8abf5 1 (some .int), .fieldLink RJ0 9 "java/lang/String" "value" "[B", .methodLink RJ0 335 yJ0_coder_7d493, .instanceMethod yJ0_coder_7d493, .selects RJ0 yJ0_coder_7d493 yJ0_coder_7d493, .code yJ0_coder_7d493 cJ0_coder_7d493 1 (some .byte), .fieldLink RJ0 38 "java/lang/String" "COMPACT_STRINGS" "Z", .fieldLink RJ0 15 "java/lang/String" "coder" "B", .code yJ0_charAt_5068e cJ0_charAt_5068e 2 (some .char), .methodLink RJ0 492 yJ0_isLatin1_aae02, .instanceMethod yJ0_isLatin1_aae02, .selects RJ0 yJ0_isLatin1_aae02 yJ0_isLatin1_aae02, .methodLink RJ0 495 yJ1_charAt_3b067, .static yJ1_charAt_3b067, .initialized RJ1, .code yJ0_isLatin1_aae02 cJ0_isLatin1_aae02 1 (some .boolean), .code yJ1_charAt_3b067 cJ1_charAt_3b067 2 (some .char), .methodLink RJ1 9 yJ0_checkIndex_df160, .static yJ0_checkIndex_df160, .code yJ0_checkIndex_df160 cJ0_checkIndex_df160 2 none, .fieldLink RJ0 1053 "jdk/internal/util/Preconditions" "SIOOBE_FORMATTER" "Ljava/util/function/BiFunction;", .methodLink RJ0 1059 yJ3_checkIndex_8e157, .static yJ3_checkIndex_8e157, .initialized RJ3, .code yJ3_checkIndex_8e157 cJ3_checkIndex_8e157 3 (some .int), .code yX9_symbolOf cX9_symbolOf 1 (some .int), .methodLink RX9 65 yX9_isDigit, .static yX9_isDigit, .code yX9_isDigit cX9_isDigit 1 (some .boolean)]
def w_zk_X7_init : List Cond := .code yX7_init cX7_init 2 none :: (l_zk_X7_init ++ (wsX70))
theorem in_zk_X7_init_X7 : ∀ w ∈ wsX70, w ∈ w_zk_X7_init := fun w h => List.mem_cons_of_mem _ (List.mem_append_right _ (h))
theorem g_zk_X7_init_zk_X9_codeOf_17 : GoodIn w_zk_X7_init (va_wsS RX7 17 yX9_codeOf w_zk_X9_codeOf) := goodIn_app (goodIn_sub (by decide +kernel) (by decide +kernel)) (goodIn_sub (by decide +kernel) (by decide +kernel))
theorem g_zk_X7_init_zk_X9_codeOf_1_17 : GoodIn w_zk_X7_init (va_wsS RX7 17 yX9_codeOf w_zk_X9_codeOf_1) := goodIn_app (goodIn_sub (by decide +kernel) (by decide +kernel)) (goodIn_sub (by decide +kernel) (by decide +kernel))
set_option maxHeartbeats 4000000 in
set_option maxRecDepth 100000 in
theorem zk_X7_init (l : Launch) (dC : Nat → ClassId) (dI : Nat → Nat → Nat) (sz : Nat) (adK adV : Nat → Nat) (Ad0 : Nat) (Fs0 : List Value) (Br0 : Nat) (k_Fs0 : fh Fs0 21 [])  : Met l yX7_init w_zk_X7_init ({ frames := 5, cells := 12, slots := 267, locals := 108 }) (va_Pc [.ref Ad0, .ref Br0] (fun U => U.heap.size = sz ∧ Kc adK adV (va_A [(Ad0, .inr (10, Fs0))] sz) U ∧ Wd dC dI [] (fun _ => True) [(Ad0, .inr (10, Fs0))] U)) (va_Qv (fun (u : List Value) => ow Fs0 (u) 21 [18, 17, 13, 12, 11, 10, 9, 8, 7, 6, 5, 4, 2, 1, 0] [(0, .ref Br0)]) (fun (u : List Value) t => Wd dC dI [] (va_A [(Ad0, .inr (10, Fs0))] sz) [(Ad0, .inr (10, (u)))] t) (va_A [(Ad0, .inr (10, Fs0))] sz))  12 267 (va_A [(Ad0, .inr (10, Fs0))] sz) := by
  refine Met.ofW (cc := cX7_init) (maxL := 2) (ret := none) (by decide) rfl ?_
  intro p e s m args below meth c s₁ B hml hv
  obtain ⟨rfl, hsz, hC, hP, hK, hD0⟩ := hv
  have hx := B.exec
  have hb := B.bytes
  have hr := B.returns
  have hts := atoms_spec (ws := w_zk_X7_init) B.pre
  have hown : s.vm.findClass RX7 = some m.cls := findClass_of_methodNamed B.named
  have hlocks := B.notSynchronized
  have hin : meth.name = "<init>" := (name_of_methodNamed B.named B.method).1
  subst hsz
  have hD := hD0.self (sz := s.heap.size)
  generalize hAe : va_A [(Ad0, .inr (10, Fs0))] s.heap.size = A at hD hC ⊢
  have hA : ∀ q : Nat, s.heap.size ≤ q → A q := fun q h => by rw [← hAe]; exact Or.inr h
  have hS : va_S A s.heap s.heap [] := va_S.rf
  have hl := lv_entry ([.ref Ad0, .ref Br0]) (n := 2) (Nat.le_of_ble_eq_true rfl)
  rw [lg_entry_eq]
  generalize (lg_sl ([.ref Ad0, .ref Br0]) ++ List.replicate (2 - (lg_sl ([.ref Ad0, .ref Br0])).length) Slot.unset).toArray = ls at hl ⊢
  have hl : lv_has ls 2 [(0, .ref Ad0), (1, .ref Br0)] := hl
  have o_Fs0 := ow_0 k_Fs0
  refine lv_aload_n hx hb dX7_init_0 rfl (lv_at hl 0 rfl) ?_
  refine W.objInit hx hb hown (hts (.methodLink RX7 3 objectInit) (by decide +kernel)) (hts (.instanceMethod objectInit) (by decide +kernel)) (hts (.code objectInit ⟨#[0xb1]⟩ 1 none) (by decide +kernel)) rfl (by rw [hml]; exact hl.1) rfl dX7_init_1 (Nat.le_of_ble_eq_true rfl) (Nat.le_of_ble_eq_true rfl) ?_
  refine W.eq (g2 := F0 m 4 ls []) rfl ?_
  refine lv_aload_n hx hb dX7_init_4 rfl (lv_at hl 0 rfl) ?_
  refine lv_aload_n hx hb dX7_init_5 rfl (lv_at hl 1 rfl) ?_
  refine va_putF (D := (dC, dI)) (ci := 10) (v := .ref Br0) (ty := .object "HeapWorks$Tape") (C := RX7) (T := TX7) (N := 21) hx hb hts (in_zk_X7_init_X7) tyX7 tyX7_ok nmX7 hown hK hP hD hS 0 rfl rfl 0 (by decide) (hts (.fieldLink RX7 9 "HeapWorks$RuleText" "tape" "LHeapWorks$Tape;") (by decide +kernel)) (fun _ h9 => h9) rfl hin rfl (by decide +kernel) rfl rfl (by rw [o_Fs0.2.1]; decide) dX7_init_6 (fun H locs hP hD hS => ?_)
  have hP : va_P (dC, dI) vwCl [(Ad0, .inr (10, (Fs0.set 0 (.ref Br0))))] H := hP
  have hD : va_D A [(Ad0, .inr (10, (Fs0.set 0 (.ref Br0))))] := hD
  have o_s8614 := ow_set o_Fs0 0 (.ref Br0) (by decide) (l' := [(0, .ref Br0)]) (w' := [0]) rfl rfl
  generalize (Fs0.set 0 (.ref Br0)) = s8614 at hP hD o_s8614
  refine lv_aload_n hx hb dX7_init_9 rfl (lv_at hl 0 rfl) ?_
  refine va_ldcS hx hb hown hC.2.2.1 dX7_init_10 ?_
  have hPc := hP.sub (ws' := []) [] rfl
  have hDc := hD.sub (ws' := []) [] (by decide) rfl
  have hKc := hK.sub (tys' := []) [] rfl
  have hFc := va_free (wc := []) hD hS hA [] rfl
  refine va_calll (va_runS (As := [.ref (adK 1)]) (rest := [.ref Ad0]) ⟨hx, hb, hml, hown, hts⟩ (zk_X9_codeOf l dC dI H.size adK adV   ) (va_cwS 1 hts g_zk_X7_init_zk_X9_codeOf_17 rfl rfl rfl (by decide +kernel) ⟨Nat.le_of_ble_eq_true rfl, Nat.le_of_ble_eq_true rfl⟩) ⟨fun a U g mk q => by obtain ⟨q0, q1, qC, qP, qK, qD⟩ := q; exact ⟨q0, q1, Kc_call qC, qP, va_K.moved (u := U) (U := U.calling g mk a) (Vm.Alike.refl U.vm) qK, qD⟩, fun U hU hW => ⟨rfl, by rw [hU], Kc_go hC hS hFc hU hW, by rw [hU]; exact hPc, va_K.moved hW.alike hKc, hDc.weaken (fun _ _ _ _ => trivial)⟩⟩ rfl rfl hl.1 rfl (lv_room (Nat.le_of_ble_eq_true rfl)) dX7_init_12 ⟨Nat.le_of_ble_eq_true rfl, Nat.le_of_ble_eq_true rfl⟩) hS (fun q _ h => hFc q h) hFc (fun r9124 u t H1 locs ht hvm hw hB hz1 hk1 hS => ?_)
  obtain ⟨hP1, hK1, hD1⟩ := hB
  rw [ht] at hP1
  try dsimp only at hw
  obtain ⟨hP, hD⟩ := va_join (wr := [(Ad0, .inr (10, s8614))]) (w1 := []) hP hD [] [0] rfl rfl (by decide) (by decide) hk1 hFc hP1 hD1
  have hK := hK.sub (tys' := []) [] rfl
  generalize H1 = H at hP hS ⊢
  have hP : va_P (dC, dI) vwCl [(Ad0, .inr (10, s8614))] H := hP
  have hD : va_D A [(Ad0, .inr (10, s8614))] := hD
  refine va_putF (D := (dC, dI)) (ci := 10) (v := .long r9124) (ty := .long) (C := RX7) (T := TX7) (N := 21) hx hb hts (in_zk_X7_init_X7) tyX7 tyX7_ok nmX7 hown hK hP hD hS 0 rfl rfl 1 (by decide) (hts (.fieldLink RX7 23 "HeapWorks$RuleText" "ifCode" "J") (by decide +kernel)) (fun _ h9 => h9) rfl hin rfl (by decide +kernel) rfl rfl (by rw [o_s8614.2.1]; decide) dX7_init_15 (fun H locs hP hD hS => ?_)
  have hP : va_P (dC, dI) vwCl [(Ad0, .inr (10, (s8614.set 1 (.long r9124))))] H := hP
  have hD : va_D A [(Ad0, .inr (10, (s8614.set 1 (.long r9124))))] := hD
  have o_s9125 := ow_set o_s8614 1 (.long r9124) (by decide) (l' := [(1, .long r9124), (0, .ref Br0)]) (w' := [1, 0]) rfl rfl
  generalize (s8614.set 1 (.long r9124)) = s9125 at hP hD o_s9125
  refine lv_aload_n hx hb dX7_init_18 rfl (lv_at hl 0 rfl) ?_
  refine va_ldcS hx hb hown hC.2.2.2.1 dX7_init_19 ?_
  have hPc := hP.sub (ws' := []) [] rfl
  have hDc := hD.sub (ws' := []) [] (by decide) rfl
  have hKc := hK.sub (tys' := []) [] rfl
  have hFc := va_free (wc := []) hD hS hA [] rfl
  refine va_calll (va_runS (As := [.ref (adK 2)]) (rest := [.ref Ad0]) ⟨hx, hb, hml, hown, hts⟩ (zk_X9_codeOf_1 l dC dI H.size adK adV   ) (va_cwS 1 hts g_zk_X7_init_zk_X9_codeOf_1_17 rfl rfl rfl (by decide +kernel) ⟨Nat.le_of_ble_eq_true rfl, Nat.le_of_ble_eq_true rfl⟩) ⟨fun a U g mk q => by obtain ⟨q0, q1, qC, qP, qK, qD⟩ := q; exact ⟨q0, q1, Kc_call qC, qP, va_K.moved (u := U) (U := U.calling g mk a) (Vm.Alike.refl U.vm) qK, qD⟩, fun U hU hW => ⟨rfl, by rw [hU], Kc_go hC hS hFc hU hW, by rw [hU]; exact hPc, va_K.moved hW.alike hKc, hDc.weaken (fun _ _ _ _ => trivial)⟩⟩ rfl rfl hl.1 rfl (lv_room (Nat.le_of_ble_eq_true rfl)) dX7_init_21 ⟨Nat.le_of_ble_eq_true rfl, Nat.le_of_ble_eq_true rfl⟩) hS (fun q _ h => hFc q h) hFc (fun r9635 u t H1 locs ht hvm hw hB hz1 hk1 hS => ?_)
  obtain ⟨hP1, hK1, hD1⟩ := hB
  rw [ht] at hP1
  try dsimp only at hw
  obtain ⟨hP, hD⟩ := va_join (wr := [(Ad0, .inr (10, s9125))]) (w1 := []) hP hD [] [0] rfl rfl (by decide) (by decide) hk1 hFc hP1 hD1
  have hK := hK.sub (tys' := []) [] rfl
  generalize H1 = H at hP hS ⊢
  have hP : va_P (dC, dI) vwCl [(Ad0, .inr (10, s9125))] H := hP
  have hD : va_D A [(Ad0, .inr (10, s9125))] := hD
  refine va_putF (D := (dC, dI)) (ci := 10) (v := .long r9635) (ty := .long) (C := RX7) (T := TX7) (N := 21) hx hb hts (in_zk_X7_init_X7) tyX7 tyX7_ok nmX7 hown hK hP hD hS 0 rfl rfl 2 (by decide) (hts (.fieldLink RX7 29 "HeapWorks$RuleText" "linkCode" "J") (by decide +kernel)) (fun _ h9 => h9) rfl hin rfl (by decide +kernel) rfl rfl (by rw [o_s9125.2.1]; decide) dX7_init_24 (fun H locs hP hD hS => ?_)
  have hP : va_P (dC, dI) vwCl [(Ad0, .inr (10, (s9125.set 2 (.long r9635))))] H := hP
  have hD : va_D A [(Ad0, .inr (10, (s9125.set 2 (.long r9635))))] := hD
  have o_s9636 := ow_set o_s9125 2 (.long r9635) (by decide) (l' := [(2, .long r9635), (1, .long r9124), (0, .ref Br0)]) (w' := [2, 1, 0]) rfl rfl
  generalize (s9125.set 2 (.long r9635)) = s9636 at hP hD o_s9636
  refine lv_aload_n hx hb dX7_init_27 rfl (lv_at hl 0 rfl) ?_
  refine lv_bipush (v := 12) hx hb dX7_init_28 (by decide) ?_
  refine va_newa (atype := .int) (ty := .int) (a0 := (12, .inl (fun _ : Nat => (0 : Int32)))) (N' := 12) hx hb (hts (.arrayClass .int) (by decide +kernel)) rfl hK hP hD hS hA (na_I 12) (by decide) (by decide) (by decide) (Nat.le_of_ble_eq_true rfl) (Nat.le_of_ble_eq_true rfl) dX7_init_30 (fun q9637 k9638 H hK hP hD hS => ?_)
  have hK : va_K (dC, dI) vwCl [(k9638, .int)] s := hK
  have hP : va_P (dC, dI) vwCl [(Ad0, .inr (10, s9636)), (q9637, .inl (k9638, 12, .inl ((fun _ : Nat => (0 : Int32)))))] H := hP
  have hD : va_D A [(Ad0, .inr (10, s9636)), (q9637, .inl (k9638, 12, .inl ((fun _ : Nat => (0 : Int32)))))] := hD
  have z9640 : ∀ j, (fun _ : Nat => (0 : Int32)) j = 0 := fun _ => rfl
  generalize (fun _ : Nat => (0 : Int32)) = f9639 at hP hD z9640
  refine W.widen (k := 1) (n := 12) (by omega) (by omega) ?_
  refine va_putF (D := (dC, dI)) (ci := 10) (v := .ref q9637) (ty := .array .int) (C := RX7) (T := TX7) (N := 21) hx hb hts (in_zk_X7_init_X7) tyX7 tyX7_ok nmX7 hown hK hP hD hS 0 rfl rfl 4 (by decide) (hts (.fieldLink RX7 32 "HeapWorks$RuleText" "headRelation" "[I") (by decide +kernel)) (fun _ h9 => h9) rfl hin rfl (by decide +kernel) rfl rfl (by rw [o_s9636.2.1]; decide) dX7_init_32 (fun H locs hP hD hS => ?_)
  have hP : va_P (dC, dI) vwCl [(Ad0, .inr (10, (s9636.set 4 (.ref q9637)))), (q9637, .inl (k9638, 12, .inl f9639))] H := hP
  have hD : va_D A [(Ad0, .inr (10, (s9636.set 4 (.ref q9637)))), (q9637, .inl (k9638, 12, .inl f9639))] := hD
  have o_s9641 := ow_set o_s9636 4 (.ref q9637) (by decide) (l' := [(4, .ref q9637), (2, .long r9635), (1, .long r9124), (0, .ref Br0)]) (w' := [4, 2, 1, 0]) rfl rfl
  generalize (s9636.set 4 (.ref q9637)) = s9641 at hP hD o_s9641
  have hP := hP.sub (ws' := [(Ad0, .inr (10, s9641))]) [0] rfl
  have hD := hD.sub (ws' := [(Ad0, .inr (10, s9641))]) [0] (by decide) rfl
  have hK := hK.sub (tys' := []) [] rfl
  refine lv_aload_n hx hb dX7_init_35 rfl (lv_at hl 0 rfl) ?_
  refine lv_bipush (v := 12) hx hb dX7_init_36 (by decide) ?_
  refine va_newa (atype := .int) (ty := .int) (a0 := (12, .inl (fun _ : Nat => (0 : Int32)))) (N' := 12) hx hb (hts (.arrayClass .int) (by decide +kernel)) rfl hK hP hD hS hA (na_I 12) (by decide) (by decide) (by decide) (Nat.le_of_ble_eq_true rfl) (Nat.le_of_ble_eq_true rfl) dX7_init_38 (fun q9642 k9643 H hK hP hD hS => ?_)
  have hK : va_K (dC, dI) vwCl [(k9643, .int)] s := hK
  have hP : va_P (dC, dI) vwCl [(Ad0, .inr (10, s9641)), (q9642, .inl (k9643, 12, .inl ((fun _ : Nat => (0 : Int32)))))] H := hP
  have hD : va_D A [(Ad0, .inr (10, s9641)), (q9642, .inl (k9643, 12, .inl ((fun _ : Nat => (0 : Int32)))))] := hD
  have z9645 : ∀ j, (fun _ : Nat => (0 : Int32)) j = 0 := fun _ => rfl
  generalize (fun _ : Nat => (0 : Int32)) = f9644 at hP hD z9645
  refine W.widen (k := 2) (n := 24) (by omega) (by omega) ?_
  refine va_putF (D := (dC, dI)) (ci := 10) (v := .ref q9642) (ty := .array .int) (C := RX7) (T := TX7) (N := 21) hx hb hts (in_zk_X7_init_X7) tyX7 tyX7_ok nmX7 hown hK hP hD hS 0 rfl rfl 5 (by decide) (hts (.fieldLink RX7 36 "HeapWorks$RuleText" "headA" "[I") (by decide +kernel)) (fun _ h9 => h9) rfl hin rfl (by decide +kernel) rfl rfl (by rw [o_s9641.2.1]; decide) dX7_init_40 (fun H locs hP hD hS => ?_)
  have hP : va_P (dC, dI) vwCl [(Ad0, .inr (10, (s9641.set 5 (.ref q9642)))), (q9642, .inl (k9643, 12, .inl f9644))] H := hP
  have hD : va_D A [(Ad0, .inr (10, (s9641.set 5 (.ref q9642)))), (q9642, .inl (k9643, 12, .inl f9644))] := hD
  have o_s9646 := ow_set o_s9641 5 (.ref q9642) (by decide) (l' := [(5, .ref q9642), (4, .ref q9637), (2, .long r9635), (1, .long r9124), (0, .ref Br0)]) (w' := [5, 4, 2, 1, 0]) rfl rfl
  generalize (s9641.set 5 (.ref q9642)) = s9646 at hP hD o_s9646
  have hP := hP.sub (ws' := [(Ad0, .inr (10, s9646))]) [0] rfl
  have hD := hD.sub (ws' := [(Ad0, .inr (10, s9646))]) [0] (by decide) rfl
  have hK := hK.sub (tys' := []) [] rfl
  refine lv_aload_n hx hb dX7_init_43 rfl (lv_at hl 0 rfl) ?_
  refine lv_bipush (v := 12) hx hb dX7_init_44 (by decide) ?_
  refine va_newa (atype := .int) (ty := .int) (a0 := (12, .inl (fun _ : Nat => (0 : Int32)))) (N' := 12) hx hb (hts (.arrayClass .int) (by decide +kernel)) rfl hK hP hD hS hA (na_I 12) (by decide) (by decide) (by decide) (Nat.le_of_ble_eq_true rfl) (Nat.le_of_ble_eq_true rfl) dX7_init_46 (fun q9647 k9648 H hK hP hD hS => ?_)
  have hK : va_K (dC, dI) vwCl [(k9648, .int)] s := hK
  have hP : va_P (dC, dI) vwCl [(Ad0, .inr (10, s9646)), (q9647, .inl (k9648, 12, .inl ((fun _ : Nat => (0 : Int32)))))] H := hP
  have hD : va_D A [(Ad0, .inr (10, s9646)), (q9647, .inl (k9648, 12, .inl ((fun _ : Nat => (0 : Int32)))))] := hD
  have z9650 : ∀ j, (fun _ : Nat => (0 : Int32)) j = 0 := fun _ => rfl
  generalize (fun _ : Nat => (0 : Int32)) = f9649 at hP hD z9650
  refine W.widen (k := 3) (n := 36) (by omega) (by omega) ?_
  refine va_putF (D := (dC, dI)) (ci := 10) (v := .ref q9647) (ty := .array .int) (C := RX7) (T := TX7) (N := 21) hx hb hts (in_zk_X7_init_X7) tyX7 tyX7_ok nmX7 hown hK hP hD hS 0 rfl rfl 6 (by decide) (hts (.fieldLink RX7 39 "HeapWorks$RuleText" "headB" "[I") (by decide +kernel)) (fun _ h9 => h9) rfl hin rfl (by decide +kernel) rfl rfl (by rw [o_s9646.2.1]; decide) dX7_init_48 (fun H locs hP hD hS => ?_)
  have hP : va_P (dC, dI) vwCl [(Ad0, .inr (10, (s9646.set 6 (.ref q9647)))), (q9647, .inl (k9648, 12, .inl f9649))] H := hP
  have hD : va_D A [(Ad0, .inr (10, (s9646.set 6 (.ref q9647)))), (q9647, .inl (k9648, 12, .inl f9649))] := hD
  have o_s9651 := ow_set o_s9646 6 (.ref q9647) (by decide) (l' := [(6, .ref q9647), (5, .ref q9642), (4, .ref q9637), (2, .long r9635), (1, .long r9124), (0, .ref Br0)]) (w' := [6, 5, 4, 2, 1, 0]) rfl rfl
  generalize (s9646.set 6 (.ref q9647)) = s9651 at hP hD o_s9651
  have hP := hP.sub (ws' := [(Ad0, .inr (10, s9651))]) [0] rfl
  have hD := hD.sub (ws' := [(Ad0, .inr (10, s9651))]) [0] (by decide) rfl
  have hK := hK.sub (tys' := []) [] rfl
  refine lv_aload_n hx hb dX7_init_51 rfl (lv_at hl 0 rfl) ?_
  refine lv_bipush (v := 12) hx hb dX7_init_52 (by decide) ?_
  refine va_newa (atype := .int) (ty := .int) (a0 := (12, .inl (fun _ : Nat => (0 : Int32)))) (N' := 12) hx hb (hts (.arrayClass .int) (by decide +kernel)) rfl hK hP hD hS hA (na_I 12) (by decide) (by decide) (by decide) (Nat.le_of_ble_eq_true rfl) (Nat.le_of_ble_eq_true rfl) dX7_init_54 (fun q9652 k9653 H hK hP hD hS => ?_)
  have hK : va_K (dC, dI) vwCl [(k9653, .int)] s := hK
  have hP : va_P (dC, dI) vwCl [(Ad0, .inr (10, s9651)), (q9652, .inl (k9653, 12, .inl ((fun _ : Nat => (0 : Int32)))))] H := hP
  have hD : va_D A [(Ad0, .inr (10, s9651)), (q9652, .inl (k9653, 12, .inl ((fun _ : Nat => (0 : Int32)))))] := hD
  have z9655 : ∀ j, (fun _ : Nat => (0 : Int32)) j = 0 := fun _ => rfl
  generalize (fun _ : Nat => (0 : Int32)) = f9654 at hP hD z9655
  refine W.widen (k := 4) (n := 48) (by omega) (by omega) ?_
  refine va_putF (D := (dC, dI)) (ci := 10) (v := .ref q9652) (ty := .array .int) (C := RX7) (T := TX7) (N := 21) hx hb hts (in_zk_X7_init_X7) tyX7 tyX7_ok nmX7 hown hK hP hD hS 0 rfl rfl 7 (by decide) (hts (.fieldLink RX7 42 "HeapWorks$RuleText" "variableCount" "[I") (by decide +kernel)) (fun _ h9 => h9) rfl hin rfl (by decide +kernel) rfl rfl (by rw [o_s9651.2.1]; decide) dX7_init_56 (fun H locs hP hD hS => ?_)
  have hP : va_P (dC, dI) vwCl [(Ad0, .inr (10, (s9651.set 7 (.ref q9652)))), (q9652, .inl (k9653, 12, .inl f9654))] H := hP
  have hD : va_D A [(Ad0, .inr (10, (s9651.set 7 (.ref q9652)))), (q9652, .inl (k9653, 12, .inl f9654))] := hD
  have o_s9656 := ow_set o_s9651 7 (.ref q9652) (by decide) (l' := [(7, .ref q9652), (6, .ref q9647), (5, .ref q9642), (4, .ref q9637), (2, .long r9635), (1, .long r9124), (0, .ref Br0)]) (w' := [7, 6, 5, 4, 2, 1, 0]) rfl rfl
  generalize (s9651.set 7 (.ref q9652)) = s9656 at hP hD o_s9656
  have hP := hP.sub (ws' := [(Ad0, .inr (10, s9656))]) [0] rfl
  have hD := hD.sub (ws' := [(Ad0, .inr (10, s9656))]) [0] (by decide) rfl
  have hK := hK.sub (tys' := []) [] rfl
  refine lv_aload_n hx hb dX7_init_59 rfl (lv_at hl 0 rfl) ?_
  refine lv_bipush (v := 12) hx hb dX7_init_60 (by decide) ?_
  refine va_newa (atype := .int) (ty := .int) (a0 := (12, .inl (fun _ : Nat => (0 : Int32)))) (N' := 12) hx hb (hts (.arrayClass .int) (by decide +kernel)) rfl hK hP hD hS hA (na_I 12) (by decide) (by decide) (by decide) (Nat.le_of_ble_eq_true rfl) (Nat.le_of_ble_eq_true rfl) dX7_init_62 (fun q9657 k9658 H hK hP hD hS => ?_)
  have hK : va_K (dC, dI) vwCl [(k9658, .int)] s := hK
  have hP : va_P (dC, dI) vwCl [(Ad0, .inr (10, s9656)), (q9657, .inl (k9658, 12, .inl ((fun _ : Nat => (0 : Int32)))))] H := hP
  have hD : va_D A [(Ad0, .inr (10, s9656)), (q9657, .inl (k9658, 12, .inl ((fun _ : Nat => (0 : Int32)))))] := hD
  have z9660 : ∀ j, (fun _ : Nat => (0 : Int32)) j = 0 := fun _ => rfl
  generalize (fun _ : Nat => (0 : Int32)) = f9659 at hP hD z9660
  refine W.widen (k := 5) (n := 60) (by omega) (by omega) ?_
  refine va_putF (D := (dC, dI)) (ci := 10) (v := .ref q9657) (ty := .array .int) (C := RX7) (T := TX7) (N := 21) hx hb hts (in_zk_X7_init_X7) tyX7 tyX7_ok nmX7 hown hK hP hD hS 0 rfl rfl 8 (by decide) (hts (.fieldLink RX7 45 "HeapWorks$RuleText" "bodyCount" "[I") (by decide +kernel)) (fun _ h9 => h9) rfl hin rfl (by decide +kernel) rfl rfl (by rw [o_s9656.2.1]; decide) dX7_init_64 (fun H locs hP hD hS => ?_)
  have hP : va_P (dC, dI) vwCl [(Ad0, .inr (10, (s9656.set 8 (.ref q9657)))), (q9657, .inl (k9658, 12, .inl f9659))] H := hP
  have hD : va_D A [(Ad0, .inr (10, (s9656.set 8 (.ref q9657)))), (q9657, .inl (k9658, 12, .inl f9659))] := hD
  have o_s9661 := ow_set o_s9656 8 (.ref q9657) (by decide) (l' := [(8, .ref q9657), (7, .ref q9652), (6, .ref q9647), (5, .ref q9642), (4, .ref q9637), (2, .long r9635), (1, .long r9124), (0, .ref Br0)]) (w' := [8, 7, 6, 5, 4, 2, 1, 0]) rfl rfl
  generalize (s9656.set 8 (.ref q9657)) = s9661 at hP hD o_s9661
  have hP := hP.sub (ws' := [(Ad0, .inr (10, s9661))]) [0] rfl
  have hD := hD.sub (ws' := [(Ad0, .inr (10, s9661))]) [0] (by decide) rfl
  have hK := hK.sub (tys' := []) [] rfl
  refine lv_aload_n hx hb dX7_init_67 rfl (lv_at hl 0 rfl) ?_
  refine lv_bipush (v := 48) hx hb dX7_init_68 (by decide) ?_
  refine va_newa (atype := .int) (ty := .int) (a0 := (48, .inl (fun _ : Nat => (0 : Int32)))) (N' := 48) hx hb (hts (.arrayClass .int) (by decide +kernel)) rfl hK hP hD hS hA (na_I 48) (by decide) (by decide) (by decide) (Nat.le_of_ble_eq_true rfl) (Nat.le_of_ble_eq_true rfl) dX7_init_70 (fun q9662 k9663 H hK hP hD hS => ?_)
  have hK : va_K (dC, dI) vwCl [(k9663, .int)] s := hK
  have hP : va_P (dC, dI) vwCl [(Ad0, .inr (10, s9661)), (q9662, .inl (k9663, 48, .inl ((fun _ : Nat => (0 : Int32)))))] H := hP
  have hD : va_D A [(Ad0, .inr (10, s9661)), (q9662, .inl (k9663, 48, .inl ((fun _ : Nat => (0 : Int32)))))] := hD
  have z9665 : ∀ j, (fun _ : Nat => (0 : Int32)) j = 0 := fun _ => rfl
  generalize (fun _ : Nat => (0 : Int32)) = f9664 at hP hD z9665
  refine W.widen (k := 6) (n := 108) (by omega) (by omega) ?_
  refine va_putF (D := (dC, dI)) (ci := 10) (v := .ref q9662) (ty := .array .int) (C := RX7) (T := TX7) (N := 21) hx hb hts (in_zk_X7_init_X7) tyX7 tyX7_ok nmX7 hown hK hP hD hS 0 rfl rfl 9 (by decide) (hts (.fieldLink RX7 48 "HeapWorks$RuleText" "bodyRelation" "[I") (by decide +kernel)) (fun _ h9 => h9) rfl hin rfl (by decide +kernel) rfl rfl (by rw [o_s9661.2.1]; decide) dX7_init_72 (fun H locs hP hD hS => ?_)
  have hP : va_P (dC, dI) vwCl [(Ad0, .inr (10, (s9661.set 9 (.ref q9662)))), (q9662, .inl (k9663, 48, .inl f9664))] H := hP
  have hD : va_D A [(Ad0, .inr (10, (s9661.set 9 (.ref q9662)))), (q9662, .inl (k9663, 48, .inl f9664))] := hD
  have o_s9666 := ow_set o_s9661 9 (.ref q9662) (by decide) (l' := [(9, .ref q9662), (8, .ref q9657), (7, .ref q9652), (6, .ref q9647), (5, .ref q9642), (4, .ref q9637), (2, .long r9635), (1, .long r9124), (0, .ref Br0)]) (w' := [9, 8, 7, 6, 5, 4, 2, 1, 0]) rfl rfl
  generalize (s9661.set 9 (.ref q9662)) = s9666 at hP hD o_s9666
  have hP := hP.sub (ws' := [(Ad0, .inr (10, s9666))]) [0] rfl
  have hD := hD.sub (ws' := [(Ad0, .inr (10, s9666))]) [0] (by decide) rfl
  have hK := hK.sub (tys' := []) [] rfl
  refine lv_aload_n hx hb dX7_init_75 rfl (lv_at hl 0 rfl) ?_
  refine lv_bipush (v := 48) hx hb dX7_init_76 (by decide) ?_
  refine va_newa (atype := .int) (ty := .int) (a0 := (48, .inl (fun _ : Nat => (0 : Int32)))) (N' := 48) hx hb (hts (.arrayClass .int) (by decide +kernel)) rfl hK hP hD hS hA (na_I 48) (by decide) (by decide) (by decide) (Nat.le_of_ble_eq_true rfl) (Nat.le_of_ble_eq_true rfl) dX7_init_78 (fun q9667 k9668 H hK hP hD hS => ?_)
  have hK : va_K (dC, dI) vwCl [(k9668, .int)] s := hK
  have hP : va_P (dC, dI) vwCl [(Ad0, .inr (10, s9666)), (q9667, .inl (k9668, 48, .inl ((fun _ : Nat => (0 : Int32)))))] H := hP
  have hD : va_D A [(Ad0, .inr (10, s9666)), (q9667, .inl (k9668, 48, .inl ((fun _ : Nat => (0 : Int32)))))] := hD
  have z9670 : ∀ j, (fun _ : Nat => (0 : Int32)) j = 0 := fun _ => rfl
  generalize (fun _ : Nat => (0 : Int32)) = f9669 at hP hD z9670
  refine W.widen (k := 7) (n := 156) (by omega) (by omega) ?_
  refine va_putF (D := (dC, dI)) (ci := 10) (v := .ref q9667) (ty := .array .int) (C := RX7) (T := TX7) (N := 21) hx hb hts (in_zk_X7_init_X7) tyX7 tyX7_ok nmX7 hown hK hP hD hS 0 rfl rfl 10 (by decide) (hts (.fieldLink RX7 51 "HeapWorks$RuleText" "bodyA" "[I") (by decide +kernel)) (fun _ h9 => h9) rfl hin rfl (by decide +kernel) rfl rfl (by rw [o_s9666.2.1]; decide) dX7_init_80 (fun H locs hP hD hS => ?_)
  have hP : va_P (dC, dI) vwCl [(Ad0, .inr (10, (s9666.set 10 (.ref q9667)))), (q9667, .inl (k9668, 48, .inl f9669))] H := hP
  have hD : va_D A [(Ad0, .inr (10, (s9666.set 10 (.ref q9667)))), (q9667, .inl (k9668, 48, .inl f9669))] := hD
  have o_s9671 := ow_set o_s9666 10 (.ref q9667) (by decide) (l' := [(10, .ref q9667), (9, .ref q9662), (8, .ref q9657), (7, .ref q9652), (6, .ref q9647), (5, .ref q9642), (4, .ref q9637), (2, .long r9635), (1, .long r9124), (0, .ref Br0)]) (w' := [10, 9, 8, 7, 6, 5, 4, 2, 1, 0]) rfl rfl
  generalize (s9666.set 10 (.ref q9667)) = s9671 at hP hD o_s9671
  have hP := hP.sub (ws' := [(Ad0, .inr (10, s9671))]) [0] rfl
  have hD := hD.sub (ws' := [(Ad0, .inr (10, s9671))]) [0] (by decide) rfl
  have hK := hK.sub (tys' := []) [] rfl
  refine lv_aload_n hx hb dX7_init_83 rfl (lv_at hl 0 rfl) ?_
  refine lv_bipush (v := 48) hx hb dX7_init_84 (by decide) ?_
  refine va_newa (atype := .int) (ty := .int) (a0 := (48, .inl (fun _ : Nat => (0 : Int32)))) (N' := 48) hx hb (hts (.arrayClass .int) (by decide +kernel)) rfl hK hP hD hS hA (na_I 48) (by decide) (by decide) (by decide) (Nat.le_of_ble_eq_true rfl) (Nat.le_of_ble_eq_true rfl) dX7_init_86 (fun q9672 k9673 H hK hP hD hS => ?_)
  have hK : va_K (dC, dI) vwCl [(k9673, .int)] s := hK
  have hP : va_P (dC, dI) vwCl [(Ad0, .inr (10, s9671)), (q9672, .inl (k9673, 48, .inl ((fun _ : Nat => (0 : Int32)))))] H := hP
  have hD : va_D A [(Ad0, .inr (10, s9671)), (q9672, .inl (k9673, 48, .inl ((fun _ : Nat => (0 : Int32)))))] := hD
  have z9675 : ∀ j, (fun _ : Nat => (0 : Int32)) j = 0 := fun _ => rfl
  generalize (fun _ : Nat => (0 : Int32)) = f9674 at hP hD z9675
  refine W.widen (k := 8) (n := 204) (by omega) (by omega) ?_
  refine va_putF (D := (dC, dI)) (ci := 10) (v := .ref q9672) (ty := .array .int) (C := RX7) (T := TX7) (N := 21) hx hb hts (in_zk_X7_init_X7) tyX7 tyX7_ok nmX7 hown hK hP hD hS 0 rfl rfl 11 (by decide) (hts (.fieldLink RX7 54 "HeapWorks$RuleText" "bodyB" "[I") (by decide +kernel)) (fun _ h9 => h9) rfl hin rfl (by decide +kernel) rfl rfl (by rw [o_s9671.2.1]; decide) dX7_init_88 (fun H locs hP hD hS => ?_)
  have hP : va_P (dC, dI) vwCl [(Ad0, .inr (10, (s9671.set 11 (.ref q9672)))), (q9672, .inl (k9673, 48, .inl f9674))] H := hP
  have hD : va_D A [(Ad0, .inr (10, (s9671.set 11 (.ref q9672)))), (q9672, .inl (k9673, 48, .inl f9674))] := hD
  have o_s9676 := ow_set o_s9671 11 (.ref q9672) (by decide) (l' := [(11, .ref q9672), (10, .ref q9667), (9, .ref q9662), (8, .ref q9657), (7, .ref q9652), (6, .ref q9647), (5, .ref q9642), (4, .ref q9637), (2, .long r9635), (1, .long r9124), (0, .ref Br0)]) (w' := [11, 10, 9, 8, 7, 6, 5, 4, 2, 1, 0]) rfl rfl
  generalize (s9671.set 11 (.ref q9672)) = s9676 at hP hD o_s9676
  have hP := hP.sub (ws' := [(Ad0, .inr (10, s9676))]) [0] rfl
  have hD := hD.sub (ws' := [(Ad0, .inr (10, s9676))]) [0] (by decide) rfl
  have hK := hK.sub (tys' := []) [] rfl
  refine lv_aload_n hx hb dX7_init_91 rfl (lv_at hl 0 rfl) ?_
  refine lv_bipush (v := 48) hx hb dX7_init_92 (by decide) ?_
  refine va_newa (atype := .long) (ty := .long) (a0 := (48, .inr (.inl (fun _ : Nat => (0 : Int64))))) (N' := 48) hx hb (hts (.arrayClass .long) (by decide +kernel)) rfl hK hP hD hS hA (na_J 48) (by decide) (by decide) (by decide) (Nat.le_of_ble_eq_true rfl) (Nat.le_of_ble_eq_true rfl) dX7_init_94 (fun q9677 k9678 H hK hP hD hS => ?_)
  have hK : va_K (dC, dI) vwCl [(k9678, .long)] s := hK
  have hP : va_P (dC, dI) vwCl [(Ad0, .inr (10, s9676)), (q9677, .inl (k9678, 48, .inr (.inl ((fun _ : Nat => (0 : Int64))))))] H := hP
  have hD : va_D A [(Ad0, .inr (10, s9676)), (q9677, .inl (k9678, 48, .inr (.inl ((fun _ : Nat => (0 : Int64))))))] := hD
  have z9680 : ∀ j, (fun _ : Nat => (0 : Int64)) j = 0 := fun _ => rfl
  generalize (fun _ : Nat => (0 : Int64)) = f9679 at hP hD z9680
  refine W.widen (k := 9) (n := 252) (by omega) (by omega) ?_
  refine va_putF (D := (dC, dI)) (ci := 10) (v := .ref q9677) (ty := .array .long) (C := RX7) (T := TX7) (N := 21) hx hb hts (in_zk_X7_init_X7) tyX7 tyX7_ok nmX7 hown hK hP hD hS 0 rfl rfl 12 (by decide) (hts (.fieldLink RX7 57 "HeapWorks$RuleText" "bodyName" "[J") (by decide +kernel)) (fun _ h9 => h9) rfl hin rfl (by decide +kernel) rfl rfl (by rw [o_s9676.2.1]; decide) dX7_init_96 (fun H locs hP hD hS => ?_)
  have hP : va_P (dC, dI) vwCl [(Ad0, .inr (10, (s9676.set 12 (.ref q9677)))), (q9677, .inl (k9678, 48, .inr (.inl f9679)))] H := hP
  have hD : va_D A [(Ad0, .inr (10, (s9676.set 12 (.ref q9677)))), (q9677, .inl (k9678, 48, .inr (.inl f9679)))] := hD
  have o_s9681 := ow_set o_s9676 12 (.ref q9677) (by decide) (l' := [(12, .ref q9677), (11, .ref q9672), (10, .ref q9667), (9, .ref q9662), (8, .ref q9657), (7, .ref q9652), (6, .ref q9647), (5, .ref q9642), (4, .ref q9637), (2, .long r9635), (1, .long r9124), (0, .ref Br0)]) (w' := [12, 11, 10, 9, 8, 7, 6, 5, 4, 2, 1, 0]) rfl rfl
  generalize (s9676.set 12 (.ref q9677)) = s9681 at hP hD o_s9681
  have hP := hP.sub (ws' := [(Ad0, .inr (10, s9681))]) [0] rfl
  have hD := hD.sub (ws' := [(Ad0, .inr (10, s9681))]) [0] (by decide) rfl
  have hK := hK.sub (tys' := []) [] rfl
  refine lv_aload_n hx hb dX7_init_99 rfl (lv_at hl 0 rfl) ?_
  refine lv_iconst (v := 3) hx hb dX7_init_100 (by decide) ?_
  refine va_newa (atype := .long) (ty := .long) (a0 := (3, .inr (.inl (fun _ : Nat => (0 : Int64))))) (N' := 3) hx hb (hts (.arrayClass .long) (by decide +kernel)) rfl hK hP hD hS hA (na_J 3) (by decide) (by decide) (by decide) (Nat.le_of_ble_eq_true rfl) (Nat.le_of_ble_eq_true rfl) dX7_init_101 (fun q9682 k9683 H hK hP hD hS => ?_)
  have hK : va_K (dC, dI) vwCl [(k9683, .long)] s := hK
  have hP : va_P (dC, dI) vwCl [(Ad0, .inr (10, s9681)), (q9682, .inl (k9683, 3, .inr (.inl ((fun _ : Nat => (0 : Int64))))))] H := hP
  have hD : va_D A [(Ad0, .inr (10, s9681)), (q9682, .inl (k9683, 3, .inr (.inl ((fun _ : Nat => (0 : Int64))))))] := hD
  have z9685 : ∀ j, (fun _ : Nat => (0 : Int64)) j = 0 := fun _ => rfl
  generalize (fun _ : Nat => (0 : Int64)) = f9684 at hP hD z9685
  refine W.widen (k := 10) (n := 255) (by omega) (by omega) ?_
  refine va_putF (D := (dC, dI)) (ci := 10) (v := .ref q9682) (ty := .array .long) (C := RX7) (T := TX7) (N := 21) hx hb hts (in_zk_X7_init_X7) tyX7 tyX7_ok nmX7 hown hK hP hD hS 0 rfl rfl 13 (by decide) (hts (.fieldLink RX7 61 "HeapWorks$RuleText" "variableName" "[J") (by decide +kernel)) (fun _ h9 => h9) rfl hin rfl (by decide +kernel) rfl rfl (by rw [o_s9681.2.1]; decide) dX7_init_103 (fun H locs hP hD hS => ?_)
  have hP : va_P (dC, dI) vwCl [(Ad0, .inr (10, (s9681.set 13 (.ref q9682)))), (q9682, .inl (k9683, 3, .inr (.inl f9684)))] H := hP
  have hD : va_D A [(Ad0, .inr (10, (s9681.set 13 (.ref q9682)))), (q9682, .inl (k9683, 3, .inr (.inl f9684)))] := hD
  have o_s9686 := ow_set o_s9681 13 (.ref q9682) (by decide) (l' := [(13, .ref q9682), (12, .ref q9677), (11, .ref q9672), (10, .ref q9667), (9, .ref q9662), (8, .ref q9657), (7, .ref q9652), (6, .ref q9647), (5, .ref q9642), (4, .ref q9637), (2, .long r9635), (1, .long r9124), (0, .ref Br0)]) (w' := [13, 12, 11, 10, 9, 8, 7, 6, 5, 4, 2, 1, 0]) rfl rfl
  generalize (s9681.set 13 (.ref q9682)) = s9686 at hP hD o_s9686
  have hP := hP.sub (ws' := [(Ad0, .inr (10, s9686))]) [0] rfl
  have hD := hD.sub (ws' := [(Ad0, .inr (10, s9686))]) [0] (by decide) rfl
  have hK := hK.sub (tys' := []) [] rfl
  refine lv_aload_n hx hb dX7_init_106 rfl (lv_at hl 0 rfl) ?_
  refine lv_bipush (v := 6) hx hb dX7_init_107 (by decide) ?_
  refine va_newa (atype := .long) (ty := .long) (a0 := (6, .inr (.inl (fun _ : Nat => (0 : Int64))))) (N' := 6) hx hb (hts (.arrayClass .long) (by decide +kernel)) rfl hK hP hD hS hA (na_J 6) (by decide) (by decide) (by decide) (Nat.le_of_ble_eq_true rfl) (Nat.le_of_ble_eq_true rfl) dX7_init_109 (fun q9687 k9688 H hK hP hD hS => ?_)
  have hK : va_K (dC, dI) vwCl [(k9688, .long)] s := hK
  have hP : va_P (dC, dI) vwCl [(Ad0, .inr (10, s9686)), (q9687, .inl (k9688, 6, .inr (.inl ((fun _ : Nat => (0 : Int64))))))] H := hP
  have hD : va_D A [(Ad0, .inr (10, s9686)), (q9687, .inl (k9688, 6, .inr (.inl ((fun _ : Nat => (0 : Int64))))))] := hD
  have z9690 : ∀ j, (fun _ : Nat => (0 : Int64)) j = 0 := fun _ => rfl
  generalize (fun _ : Nat => (0 : Int64)) = f9689 at hP hD z9690
  refine W.widen (k := 11) (n := 261) (by omega) (by omega) ?_
  refine va_putF (D := (dC, dI)) (ci := 10) (v := .ref q9687) (ty := .array .long) (C := RX7) (T := TX7) (N := 21) hx hb hts (in_zk_X7_init_X7) tyX7 tyX7_ok nmX7 hown hK hP hD hS 0 rfl rfl 17 (by decide) (hts (.fieldLink RX7 64 "HeapWorks$RuleText" "relationName" "[J") (by decide +kernel)) (fun _ h9 => h9) rfl hin rfl (by decide +kernel) rfl rfl (by rw [o_s9686.2.1]; decide) dX7_init_111 (fun H locs hP hD hS => ?_)
  have hP : va_P (dC, dI) vwCl [(Ad0, .inr (10, (s9686.set 17 (.ref q9687)))), (q9687, .inl (k9688, 6, .inr (.inl f9689)))] H := hP
  have hD : va_D A [(Ad0, .inr (10, (s9686.set 17 (.ref q9687)))), (q9687, .inl (k9688, 6, .inr (.inl f9689)))] := hD
  have o_s9691 := ow_set o_s9686 17 (.ref q9687) (by decide) (l' := [(17, .ref q9687), (13, .ref q9682), (12, .ref q9677), (11, .ref q9672), (10, .ref q9667), (9, .ref q9662), (8, .ref q9657), (7, .ref q9652), (6, .ref q9647), (5, .ref q9642), (4, .ref q9637), (2, .long r9635), (1, .long r9124), (0, .ref Br0)]) (w' := [17, 13, 12, 11, 10, 9, 8, 7, 6, 5, 4, 2, 1, 0]) rfl rfl
  generalize (s9686.set 17 (.ref q9687)) = s9691 at hP hD o_s9691
  have hP := hP.sub (ws' := [(Ad0, .inr (10, s9691))]) [0] rfl
  have hD := hD.sub (ws' := [(Ad0, .inr (10, s9691))]) [0] (by decide) rfl
  have hK := hK.sub (tys' := []) [] rfl
  refine lv_aload_n hx hb dX7_init_114 rfl (lv_at hl 0 rfl) ?_
  refine lv_bipush (v := 6) hx hb dX7_init_115 (by decide) ?_
  refine va_newa (atype := .int) (ty := .int) (a0 := (6, .inl (fun _ : Nat => (0 : Int32)))) (N' := 6) hx hb (hts (.arrayClass .int) (by decide +kernel)) rfl hK hP hD hS hA (na_I 6) (by decide) (by decide) (by decide) (Nat.le_of_ble_eq_true rfl) (Nat.le_of_ble_eq_true rfl) dX7_init_117 (fun q9692 k9693 H hK hP hD hS => ?_)
  have hK : va_K (dC, dI) vwCl [(k9693, .int)] s := hK
  have hP : va_P (dC, dI) vwCl [(Ad0, .inr (10, s9691)), (q9692, .inl (k9693, 6, .inl ((fun _ : Nat => (0 : Int32)))))] H := hP
  have hD : va_D A [(Ad0, .inr (10, s9691)), (q9692, .inl (k9693, 6, .inl ((fun _ : Nat => (0 : Int32)))))] := hD
  have z9695 : ∀ j, (fun _ : Nat => (0 : Int32)) j = 0 := fun _ => rfl
  generalize (fun _ : Nat => (0 : Int32)) = f9694 at hP hD z9695
  refine W.widen (k := 12) (n := 267) (by omega) (by omega) ?_
  refine va_putF (D := (dC, dI)) (ci := 10) (v := .ref q9692) (ty := .array .int) (C := RX7) (T := TX7) (N := 21) hx hb hts (in_zk_X7_init_X7) tyX7 tyX7_ok nmX7 hown hK hP hD hS 0 rfl rfl 18 (by decide) (hts (.fieldLink RX7 67 "HeapWorks$RuleText" "arity" "[I") (by decide +kernel)) (fun _ h9 => h9) rfl hin rfl (by decide +kernel) rfl rfl (by rw [o_s9691.2.1]; decide) dX7_init_119 (fun H locs hP hD hS => ?_)
  have hP : va_P (dC, dI) vwCl [(Ad0, .inr (10, (s9691.set 18 (.ref q9692)))), (q9692, .inl (k9693, 6, .inl f9694))] H := hP
  have hD : va_D A [(Ad0, .inr (10, (s9691.set 18 (.ref q9692)))), (q9692, .inl (k9693, 6, .inl f9694))] := hD
  have o_s9696 := ow_set o_s9691 18 (.ref q9692) (by decide) (l' := [(18, .ref q9692), (17, .ref q9687), (13, .ref q9682), (12, .ref q9677), (11, .ref q9672), (10, .ref q9667), (9, .ref q9662), (8, .ref q9657), (7, .ref q9652), (6, .ref q9647), (5, .ref q9642), (4, .ref q9637), (2, .long r9635), (1, .long r9124), (0, .ref Br0)]) (w' := [18, 17, 13, 12, 11, 10, 9, 8, 7, 6, 5, 4, 2, 1, 0]) rfl rfl
  generalize (s9691.set 18 (.ref q9692)) = s9696 at hP hD o_s9696
  have hP := hP.sub (ws' := [(Ad0, .inr (10, s9696))]) [0] rfl
  have hD := hD.sub (ws' := [(Ad0, .inr (10, s9696))]) [0] (by decide) rfl
  have hK := hK.sub (tys' := []) [] rfl
  have hP9 := hP.sub (ws' := [(Ad0, .inr (10, s9696))]) [0] rfl
  have hD9 := hD.sub (ws' := [(Ad0, .inr (10, s9696))]) [0] (by decide) rfl
  have hK9 := hK.sub (tys' := []) [] rfl
  refine W.widen (k := 12) (n := 267) (by decide) (by decide) ?_
  exact W.vret hx hb hr (fun t ht hW => ⟨⟨s9696, rfl, (ow_sub o_s9696 [14] rfl), by rw [ht]; exact hP9, va_K.moved hW.alike hK9, hD9⟩, hS.F ht⟩) hS.2.2 dX7_init_122

def l_zk_X1_init : List Cond := [.methodLink RX1 3 objectInit, .instanceMethod objectInit, .code objectInit ⟨#[0xb1]⟩ 1 none, .fieldLink RX1 9 "HeapWorks$FactBook" "types" "LHeapWorks$Types;", .arrayClass .long, .fieldLink RX1 15 "HeapWorks$FactBook" "row" "[J", .fieldLink RX1 19 "HeapWorks$FactBook" "column" "[J", .fieldLink RX1 22 "HeapWorks$FactBook" "diagonal" "[J", .fieldLink RX1 27 "HeapWorks$FactBook" "classBits" "[J", .arrayClass .int, .fieldLink RX1 30 "HeapWorks$FactBook" "chosen" "[I"]
def w_zk_X1_init : List Cond := .code yX1_init cX1_init 2 none :: (l_zk_X1_init ++ (wsX10))
theorem in_zk_X1_init_X1 : ∀ w ∈ wsX10, w ∈ w_zk_X1_init := fun w h => List.mem_cons_of_mem _ (List.mem_append_right _ (h))
set_option maxHeartbeats 4000000 in
set_option maxRecDepth 100000 in
theorem zk_X1_init (l : Launch) (dC : Nat → ClassId) (dI : Nat → Nat → Nat) (sz : Nat) (Ad0 : Nat) (Fs0 : List Value) (Br0 : Nat) (k_Fs0 : fh Fs0 10 [])  : Met l yX1_init w_zk_X1_init ({ frames := 1, cells := 5, slots := 780, locals := 24 }) (va_Pc [.ref Ad0, .ref Br0] (fun U => U.heap.size = sz ∧ Wd dC dI [] (fun _ => True) [(Ad0, .inr (4, Fs0))] U)) (va_Qv (fun (u : List Value × Nat × (Nat → Int64) × ClassId × Nat × (Nat → Int64) × ClassId × Nat × (Nat → Int64) × ClassId) => match u with | (s9752, q9738, f9740, k9739, q9733, f9735, k9734, q9728, f9730, k9729) => (ow Fs0 (s9752) 10 [7, 6, 5, 4, 3, 0] [(5, .ref q9738), (4, .ref q9733), (3, .ref q9728), (0, .ref Br0)] ∧ (∀ j, f9740 j = 0) ∧ (∀ j, f9735 j = 0) ∧ (∀ j, f9730 j = 0))) (fun (u : List Value × Nat × (Nat → Int64) × ClassId × Nat × (Nat → Int64) × ClassId × Nat × (Nat → Int64) × ClassId) t => match u with | (s9752, q9738, f9740, k9739, q9733, f9735, k9734, q9728, f9730, k9729) => Wd dC dI [(k9739, .long), (k9734, .long), (k9729, .long)] (va_A [(Ad0, .inr (4, Fs0))] sz) [(Ad0, .inr (4, s9752)), (q9738, .inl (k9739, 9, .inr (.inl f9740))), (q9733, .inl (k9734, 360, .inr (.inl f9735))), (q9728, .inl (k9729, 360, .inr (.inl f9730)))] t) (va_A [(Ad0, .inr (4, Fs0))] sz))  5 780 (va_A [(Ad0, .inr (4, Fs0))] sz) := by
  refine Met.ofW (cc := cX1_init) (maxL := 2) (ret := none) (by decide) rfl ?_
  intro p e s m args below meth c s₁ B hml hv
  obtain ⟨rfl, hsz, hP, hK, hD0⟩ := hv
  have hx := B.exec
  have hb := B.bytes
  have hr := B.returns
  have hts := atoms_spec (ws := w_zk_X1_init) B.pre
  have hown : s.vm.findClass RX1 = some m.cls := findClass_of_methodNamed B.named
  have hlocks := B.notSynchronized
  have hin : meth.name = "<init>" := (name_of_methodNamed B.named B.method).1
  subst hsz
  have hD := hD0.self (sz := s.heap.size)
  generalize hAe : va_A [(Ad0, .inr (4, Fs0))] s.heap.size = A at hD ⊢
  have hA : ∀ q : Nat, s.heap.size ≤ q → A q := fun q h => by rw [← hAe]; exact Or.inr h
  have hS : va_S A s.heap s.heap [] := va_S.rf
  have hl := lv_entry ([.ref Ad0, .ref Br0]) (n := 2) (Nat.le_of_ble_eq_true rfl)
  rw [lg_entry_eq]
  generalize (lg_sl ([.ref Ad0, .ref Br0]) ++ List.replicate (2 - (lg_sl ([.ref Ad0, .ref Br0])).length) Slot.unset).toArray = ls at hl ⊢
  have hl : lv_has ls 2 [(0, .ref Ad0), (1, .ref Br0)] := hl
  have o_Fs0 := ow_0 k_Fs0
  refine lv_aload_n hx hb dX1_init_0 rfl (lv_at hl 0 rfl) ?_
  refine W.objInit hx hb hown (hts (.methodLink RX1 3 objectInit) (by decide +kernel)) (hts (.instanceMethod objectInit) (by decide +kernel)) (hts (.code objectInit ⟨#[0xb1]⟩ 1 none) (by decide +kernel)) rfl (by rw [hml]; exact hl.1) rfl dX1_init_1 (Nat.le_of_ble_eq_true rfl) (Nat.le_of_ble_eq_true rfl) ?_
  refine W.eq (g2 := F0 m 4 ls []) rfl ?_
  refine lv_aload_n hx hb dX1_init_4 rfl (lv_at hl 0 rfl) ?_
  refine lv_aload_n hx hb dX1_init_5 rfl (lv_at hl 1 rfl) ?_
  refine va_putF (D := (dC, dI)) (ci := 4) (v := .ref Br0) (ty := .object "HeapWorks$Types") (C := RX1) (T := TX1) (N := 10) hx hb hts (in_zk_X1_init_X1) tyX1 tyX1_ok nmX1 hown hK hP hD hS 0 rfl rfl 0 (by decide) (hts (.fieldLink RX1 9 "HeapWorks$FactBook" "types" "LHeapWorks$Types;") (by decide +kernel)) (fun _ h9 => h9) rfl hin rfl (by decide +kernel) rfl rfl (by rw [o_Fs0.2.1]; decide) dX1_init_6 (fun H locs hP hD hS => ?_)
  have hP : va_P (dC, dI) vwCl [(Ad0, .inr (4, (Fs0.set 0 (.ref Br0))))] H := hP
  have hD : va_D A [(Ad0, .inr (4, (Fs0.set 0 (.ref Br0))))] := hD
  have o_s9727 := ow_set o_Fs0 0 (.ref Br0) (by decide) (l' := [(0, .ref Br0)]) (w' := [0]) rfl rfl
  generalize (Fs0.set 0 (.ref Br0)) = s9727 at hP hD o_s9727
  refine lv_aload_n hx hb dX1_init_9 rfl (lv_at hl 0 rfl) ?_
  refine lv_sipush (v := 360) hx hb dX1_init_10 (by decide) ?_
  refine va_newa (atype := .long) (ty := .long) (a0 := (360, .inr (.inl (fun _ : Nat => (0 : Int64))))) (N' := 360) hx hb (hts (.arrayClass .long) (by decide +kernel)) rfl hK hP hD hS hA (na_J 360) (by decide) (by decide) (by decide) (Nat.le_of_ble_eq_true rfl) (Nat.le_of_ble_eq_true rfl) dX1_init_13 (fun q9728 k9729 H hK hP hD hS => ?_)
  have hK : va_K (dC, dI) vwCl [(k9729, .long)] s := hK
  have hP : va_P (dC, dI) vwCl [(Ad0, .inr (4, s9727)), (q9728, .inl (k9729, 360, .inr (.inl ((fun _ : Nat => (0 : Int64))))))] H := hP
  have hD : va_D A [(Ad0, .inr (4, s9727)), (q9728, .inl (k9729, 360, .inr (.inl ((fun _ : Nat => (0 : Int64))))))] := hD
  have z9731 : ∀ j, (fun _ : Nat => (0 : Int64)) j = 0 := fun _ => rfl
  generalize (fun _ : Nat => (0 : Int64)) = f9730 at hP hD z9731
  refine W.widen (k := 1) (n := 360) (by omega) (by omega) ?_
  refine va_putF (D := (dC, dI)) (ci := 4) (v := .ref q9728) (ty := .array .long) (C := RX1) (T := TX1) (N := 10) hx hb hts (in_zk_X1_init_X1) tyX1 tyX1_ok nmX1 hown hK hP hD hS 0 rfl rfl 3 (by decide) (hts (.fieldLink RX1 15 "HeapWorks$FactBook" "row" "[J") (by decide +kernel)) (fun _ h9 => h9) rfl hin rfl (by decide +kernel) rfl rfl (by rw [o_s9727.2.1]; decide) dX1_init_15 (fun H locs hP hD hS => ?_)
  have hP : va_P (dC, dI) vwCl [(Ad0, .inr (4, (s9727.set 3 (.ref q9728)))), (q9728, .inl (k9729, 360, .inr (.inl f9730)))] H := hP
  have hD : va_D A [(Ad0, .inr (4, (s9727.set 3 (.ref q9728)))), (q9728, .inl (k9729, 360, .inr (.inl f9730)))] := hD
  have o_s9732 := ow_set o_s9727 3 (.ref q9728) (by decide) (l' := [(3, .ref q9728), (0, .ref Br0)]) (w' := [3, 0]) rfl rfl
  generalize (s9727.set 3 (.ref q9728)) = s9732 at hP hD o_s9732
  refine lv_aload_n hx hb dX1_init_18 rfl (lv_at hl 0 rfl) ?_
  refine lv_sipush (v := 360) hx hb dX1_init_19 (by decide) ?_
  refine va_newa (atype := .long) (ty := .long) (a0 := (360, .inr (.inl (fun _ : Nat => (0 : Int64))))) (N' := 360) hx hb (hts (.arrayClass .long) (by decide +kernel)) rfl hK hP hD hS hA (na_J 360) (by decide) (by decide) (by decide) (Nat.le_of_ble_eq_true rfl) (Nat.le_of_ble_eq_true rfl) dX1_init_22 (fun q9733 k9734 H hK hP hD hS => ?_)
  have hK : va_K (dC, dI) vwCl [(k9729, .long), (k9734, .long)] s := hK
  have hP : va_P (dC, dI) vwCl [(Ad0, .inr (4, s9732)), (q9728, .inl (k9729, 360, .inr (.inl f9730))), (q9733, .inl (k9734, 360, .inr (.inl ((fun _ : Nat => (0 : Int64))))))] H := hP
  have hD : va_D A [(Ad0, .inr (4, s9732)), (q9728, .inl (k9729, 360, .inr (.inl f9730))), (q9733, .inl (k9734, 360, .inr (.inl ((fun _ : Nat => (0 : Int64))))))] := hD
  have z9736 : ∀ j, (fun _ : Nat => (0 : Int64)) j = 0 := fun _ => rfl
  generalize (fun _ : Nat => (0 : Int64)) = f9735 at hP hD z9736
  refine W.widen (k := 2) (n := 720) (by omega) (by omega) ?_
  refine va_putF (D := (dC, dI)) (ci := 4) (v := .ref q9733) (ty := .array .long) (C := RX1) (T := TX1) (N := 10) hx hb hts (in_zk_X1_init_X1) tyX1 tyX1_ok nmX1 hown hK hP hD hS 0 rfl rfl 4 (by decide) (hts (.fieldLink RX1 19 "HeapWorks$FactBook" "column" "[J") (by decide +kernel)) (fun _ h9 => h9) rfl hin rfl (by decide +kernel) rfl rfl (by rw [o_s9732.2.1]; decide) dX1_init_24 (fun H locs hP hD hS => ?_)
  have hP : va_P (dC, dI) vwCl [(Ad0, .inr (4, (s9732.set 4 (.ref q9733)))), (q9728, .inl (k9729, 360, .inr (.inl f9730))), (q9733, .inl (k9734, 360, .inr (.inl f9735)))] H := hP
  have hD : va_D A [(Ad0, .inr (4, (s9732.set 4 (.ref q9733)))), (q9728, .inl (k9729, 360, .inr (.inl f9730))), (q9733, .inl (k9734, 360, .inr (.inl f9735)))] := hD
  have o_s9737 := ow_set o_s9732 4 (.ref q9733) (by decide) (l' := [(4, .ref q9733), (3, .ref q9728), (0, .ref Br0)]) (w' := [4, 3, 0]) rfl rfl
  generalize (s9732.set 4 (.ref q9733)) = s9737 at hP hD o_s9737
  refine lv_aload_n hx hb dX1_init_27 rfl (lv_at hl 0 rfl) ?_
  refine lv_bipush (v := 9) hx hb dX1_init_28 (by decide) ?_
  refine va_newa (atype := .long) (ty := .long) (a0 := (9, .inr (.inl (fun _ : Nat => (0 : Int64))))) (N' := 9) hx hb (hts (.arrayClass .long) (by decide +kernel)) rfl hK hP hD hS hA (na_J 9) (by decide) (by decide) (by decide) (Nat.le_of_ble_eq_true rfl) (Nat.le_of_ble_eq_true rfl) dX1_init_30 (fun q9738 k9739 H hK hP hD hS => ?_)
  have hK : va_K (dC, dI) vwCl [(k9729, .long), (k9734, .long), (k9739, .long)] s := hK
  have hP : va_P (dC, dI) vwCl [(Ad0, .inr (4, s9737)), (q9728, .inl (k9729, 360, .inr (.inl f9730))), (q9733, .inl (k9734, 360, .inr (.inl f9735))), (q9738, .inl (k9739, 9, .inr (.inl ((fun _ : Nat => (0 : Int64))))))] H := hP
  have hD : va_D A [(Ad0, .inr (4, s9737)), (q9728, .inl (k9729, 360, .inr (.inl f9730))), (q9733, .inl (k9734, 360, .inr (.inl f9735))), (q9738, .inl (k9739, 9, .inr (.inl ((fun _ : Nat => (0 : Int64))))))] := hD
  have z9741 : ∀ j, (fun _ : Nat => (0 : Int64)) j = 0 := fun _ => rfl
  generalize (fun _ : Nat => (0 : Int64)) = f9740 at hP hD z9741
  refine W.widen (k := 3) (n := 729) (by omega) (by omega) ?_
  refine va_putF (D := (dC, dI)) (ci := 4) (v := .ref q9738) (ty := .array .long) (C := RX1) (T := TX1) (N := 10) hx hb hts (in_zk_X1_init_X1) tyX1 tyX1_ok nmX1 hown hK hP hD hS 0 rfl rfl 5 (by decide) (hts (.fieldLink RX1 22 "HeapWorks$FactBook" "diagonal" "[J") (by decide +kernel)) (fun _ h9 => h9) rfl hin rfl (by decide +kernel) rfl rfl (by rw [o_s9737.2.1]; decide) dX1_init_32 (fun H locs hP hD hS => ?_)
  have hP : va_P (dC, dI) vwCl [(Ad0, .inr (4, (s9737.set 5 (.ref q9738)))), (q9728, .inl (k9729, 360, .inr (.inl f9730))), (q9733, .inl (k9734, 360, .inr (.inl f9735))), (q9738, .inl (k9739, 9, .inr (.inl f9740)))] H := hP
  have hD : va_D A [(Ad0, .inr (4, (s9737.set 5 (.ref q9738)))), (q9728, .inl (k9729, 360, .inr (.inl f9730))), (q9733, .inl (k9734, 360, .inr (.inl f9735))), (q9738, .inl (k9739, 9, .inr (.inl f9740)))] := hD
  have o_s9742 := ow_set o_s9737 5 (.ref q9738) (by decide) (l' := [(5, .ref q9738), (4, .ref q9733), (3, .ref q9728), (0, .ref Br0)]) (w' := [5, 4, 3, 0]) rfl rfl
  generalize (s9737.set 5 (.ref q9738)) = s9742 at hP hD o_s9742
  refine lv_aload_n hx hb dX1_init_35 rfl (lv_at hl 0 rfl) ?_
  refine lv_bipush (v := 48) hx hb dX1_init_36 (by decide) ?_
  refine va_newa (atype := .long) (ty := .long) (a0 := (48, .inr (.inl (fun _ : Nat => (0 : Int64))))) (N' := 48) hx hb (hts (.arrayClass .long) (by decide +kernel)) rfl hK hP hD hS hA (na_J 48) (by decide) (by decide) (by decide) (Nat.le_of_ble_eq_true rfl) (Nat.le_of_ble_eq_true rfl) dX1_init_38 (fun q9743 k9744 H hK hP hD hS => ?_)
  have hK : va_K (dC, dI) vwCl [(k9729, .long), (k9734, .long), (k9739, .long), (k9744, .long)] s := hK
  have hP : va_P (dC, dI) vwCl [(Ad0, .inr (4, s9742)), (q9728, .inl (k9729, 360, .inr (.inl f9730))), (q9733, .inl (k9734, 360, .inr (.inl f9735))), (q9738, .inl (k9739, 9, .inr (.inl f9740))), (q9743, .inl (k9744, 48, .inr (.inl ((fun _ : Nat => (0 : Int64))))))] H := hP
  have hD : va_D A [(Ad0, .inr (4, s9742)), (q9728, .inl (k9729, 360, .inr (.inl f9730))), (q9733, .inl (k9734, 360, .inr (.inl f9735))), (q9738, .inl (k9739, 9, .inr (.inl f9740))), (q9743, .inl (k9744, 48, .inr (.inl ((fun _ : Nat => (0 : Int64))))))] := hD
  have z9746 : ∀ j, (fun _ : Nat => (0 : Int64)) j = 0 := fun _ => rfl
  generalize (fun _ : Nat => (0 : Int64)) = f9745 at hP hD z9746
  refine W.widen (k := 4) (n := 777) (by omega) (by omega) ?_
  refine va_putF (D := (dC, dI)) (ci := 4) (v := .ref q9743) (ty := .array .long) (C := RX1) (T := TX1) (N := 10) hx hb hts (in_zk_X1_init_X1) tyX1 tyX1_ok nmX1 hown hK hP hD hS 0 rfl rfl 6 (by decide) (hts (.fieldLink RX1 27 "HeapWorks$FactBook" "classBits" "[J") (by decide +kernel)) (fun _ h9 => h9) rfl hin rfl (by decide +kernel) rfl rfl (by rw [o_s9742.2.1]; decide) dX1_init_40 (fun H locs hP hD hS => ?_)
  have hP : va_P (dC, dI) vwCl [(Ad0, .inr (4, (s9742.set 6 (.ref q9743)))), (q9728, .inl (k9729, 360, .inr (.inl f9730))), (q9733, .inl (k9734, 360, .inr (.inl f9735))), (q9738, .inl (k9739, 9, .inr (.inl f9740))), (q9743, .inl (k9744, 48, .inr (.inl f9745)))] H := hP
  have hD : va_D A [(Ad0, .inr (4, (s9742.set 6 (.ref q9743)))), (q9728, .inl (k9729, 360, .inr (.inl f9730))), (q9733, .inl (k9734, 360, .inr (.inl f9735))), (q9738, .inl (k9739, 9, .inr (.inl f9740))), (q9743, .inl (k9744, 48, .inr (.inl f9745)))] := hD
  have o_s9747 := ow_set o_s9742 6 (.ref q9743) (by decide) (l' := [(6, .ref q9743), (5, .ref q9738), (4, .ref q9733), (3, .ref q9728), (0, .ref Br0)]) (w' := [6, 5, 4, 3, 0]) rfl rfl
  generalize (s9742.set 6 (.ref q9743)) = s9747 at hP hD o_s9747
  have hP := hP.sub (ws' := [(Ad0, .inr (4, s9747)), (q9728, .inl (k9729, 360, .inr (.inl f9730))), (q9733, .inl (k9734, 360, .inr (.inl f9735))), (q9738, .inl (k9739, 9, .inr (.inl f9740)))]) [0, 1, 2, 3] rfl
  have hD := hD.sub (ws' := [(Ad0, .inr (4, s9747)), (q9728, .inl (k9729, 360, .inr (.inl f9730))), (q9733, .inl (k9734, 360, .inr (.inl f9735))), (q9738, .inl (k9739, 9, .inr (.inl f9740)))]) [0, 1, 2, 3] (by decide) rfl
  have hK := hK.sub (tys' := [(k9729, .long), (k9734, .long), (k9739, .long)]) [0, 1, 2] rfl
  refine lv_aload_n hx hb dX1_init_43 rfl (lv_at hl 0 rfl) ?_
  refine lv_iconst (v := 3) hx hb dX1_init_44 (by decide) ?_
  refine va_newa (atype := .int) (ty := .int) (a0 := (3, .inl (fun _ : Nat => (0 : Int32)))) (N' := 3) hx hb (hts (.arrayClass .int) (by decide +kernel)) rfl hK hP hD hS hA (na_I 3) (by decide) (by decide) (by decide) (Nat.le_of_ble_eq_true rfl) (Nat.le_of_ble_eq_true rfl) dX1_init_45 (fun q9748 k9749 H hK hP hD hS => ?_)
  have hK : va_K (dC, dI) vwCl [(k9729, .long), (k9734, .long), (k9739, .long), (k9749, .int)] s := hK
  have hP : va_P (dC, dI) vwCl [(Ad0, .inr (4, s9747)), (q9728, .inl (k9729, 360, .inr (.inl f9730))), (q9733, .inl (k9734, 360, .inr (.inl f9735))), (q9738, .inl (k9739, 9, .inr (.inl f9740))), (q9748, .inl (k9749, 3, .inl ((fun _ : Nat => (0 : Int32)))))] H := hP
  have hD : va_D A [(Ad0, .inr (4, s9747)), (q9728, .inl (k9729, 360, .inr (.inl f9730))), (q9733, .inl (k9734, 360, .inr (.inl f9735))), (q9738, .inl (k9739, 9, .inr (.inl f9740))), (q9748, .inl (k9749, 3, .inl ((fun _ : Nat => (0 : Int32)))))] := hD
  have z9751 : ∀ j, (fun _ : Nat => (0 : Int32)) j = 0 := fun _ => rfl
  generalize (fun _ : Nat => (0 : Int32)) = f9750 at hP hD z9751
  refine W.widen (k := 5) (n := 780) (by omega) (by omega) ?_
  refine va_putF (D := (dC, dI)) (ci := 4) (v := .ref q9748) (ty := .array .int) (C := RX1) (T := TX1) (N := 10) hx hb hts (in_zk_X1_init_X1) tyX1 tyX1_ok nmX1 hown hK hP hD hS 0 rfl rfl 7 (by decide) (hts (.fieldLink RX1 30 "HeapWorks$FactBook" "chosen" "[I") (by decide +kernel)) (fun _ h9 => h9) rfl hin rfl (by decide +kernel) rfl rfl (by rw [o_s9747.2.1]; decide) dX1_init_47 (fun H locs hP hD hS => ?_)
  have hP : va_P (dC, dI) vwCl [(Ad0, .inr (4, (s9747.set 7 (.ref q9748)))), (q9728, .inl (k9729, 360, .inr (.inl f9730))), (q9733, .inl (k9734, 360, .inr (.inl f9735))), (q9738, .inl (k9739, 9, .inr (.inl f9740))), (q9748, .inl (k9749, 3, .inl f9750))] H := hP
  have hD : va_D A [(Ad0, .inr (4, (s9747.set 7 (.ref q9748)))), (q9728, .inl (k9729, 360, .inr (.inl f9730))), (q9733, .inl (k9734, 360, .inr (.inl f9735))), (q9738, .inl (k9739, 9, .inr (.inl f9740))), (q9748, .inl (k9749, 3, .inl f9750))] := hD
  have o_s9752 := ow_set o_s9747 7 (.ref q9748) (by decide) (l' := [(7, .ref q9748), (6, .ref q9743), (5, .ref q9738), (4, .ref q9733), (3, .ref q9728), (0, .ref Br0)]) (w' := [7, 6, 5, 4, 3, 0]) rfl rfl
  generalize (s9747.set 7 (.ref q9748)) = s9752 at hP hD o_s9752
  have hP := hP.sub (ws' := [(Ad0, .inr (4, s9752)), (q9728, .inl (k9729, 360, .inr (.inl f9730))), (q9733, .inl (k9734, 360, .inr (.inl f9735))), (q9738, .inl (k9739, 9, .inr (.inl f9740)))]) [0, 1, 2, 3] rfl
  have hD := hD.sub (ws' := [(Ad0, .inr (4, s9752)), (q9728, .inl (k9729, 360, .inr (.inl f9730))), (q9733, .inl (k9734, 360, .inr (.inl f9735))), (q9738, .inl (k9739, 9, .inr (.inl f9740)))]) [0, 1, 2, 3] (by decide) rfl
  have hK := hK.sub (tys' := [(k9729, .long), (k9734, .long), (k9739, .long)]) [0, 1, 2] rfl
  have hP9 := hP.sub (ws' := [(Ad0, .inr (4, s9752)), (q9738, .inl (k9739, 9, .inr (.inl f9740))), (q9733, .inl (k9734, 360, .inr (.inl f9735))), (q9728, .inl (k9729, 360, .inr (.inl f9730)))]) [0, 3, 2, 1] rfl
  have hD9 := hD.sub (ws' := [(Ad0, .inr (4, s9752)), (q9738, .inl (k9739, 9, .inr (.inl f9740))), (q9733, .inl (k9734, 360, .inr (.inl f9735))), (q9728, .inl (k9729, 360, .inr (.inl f9730)))]) [0, 3, 2, 1] (by decide) rfl
  have hK9 := hK.sub (tys' := [(k9739, .long), (k9734, .long), (k9729, .long)]) [2, 1, 0] rfl
  refine W.widen (k := 5) (n := 780) (by decide) (by decide) ?_
  exact W.vret hx hb hr (fun t ht hW => ⟨⟨(s9752, q9738, f9740, k9739, q9733, f9735, k9734, q9728, f9730, k9729), rfl, ⟨(ow_sub o_s9752 [2, 3, 4, 5] rfl), z9741, z9736, z9731⟩, by rw [ht]; exact hP9, va_K.moved hW.alike hK9, hD9⟩, hS.F ht⟩) hS.2.2 dX1_init_50

def l_zk_X0_init : List Cond := [.methodLink RX0 5 objectInit, .instanceMethod objectInit, .code objectInit ⟨#[0xb1]⟩ 1 none, .fieldLink RX0 11 "HeapWorks$Archive" "types" "LHeapWorks$Types;", .arrayClass .int, .fieldLink RX0 19 "HeapWorks$Archive" "buffer" "[I", .fieldLink RX0 23 "HeapWorks$Archive" "log" "[I", .fieldLink RX0 26 "HeapWorks$Archive" "source" "[I", .fieldLink RX0 29 "HeapWorks$Archive" "objectPlace" "[I", .fieldLink RX0 32 "HeapWorks$Archive" "slotPlace" "[I"]
def w_zk_X0_init : List Cond := .code yX0_init cX0_init 2 none :: (l_zk_X0_init ++ (wsX00))
theorem in_zk_X0_init_X0 : ∀ w ∈ wsX00, w ∈ w_zk_X0_init := fun w h => List.mem_cons_of_mem _ (List.mem_append_right _ (h))
set_option maxHeartbeats 4000000 in
set_option maxRecDepth 100000 in
theorem zk_X0_init (l : Launch) (dC : Nat → ClassId) (dI : Nat → Nat → Nat) (sz : Nat) (Ad0 : Nat) (Fs0 : List Value) (Br0 : Nat) (k_Fs0 : fh Fs0 15 [(1, .null)])  : Met l yX0_init w_zk_X0_init ({ frames := 1, cells := 4, slots := 16400, locals := 24 }) (va_Pc [.ref Ad0, .ref Br0] (fun U => U.heap.size = sz ∧ Wd dC dI [] (fun _ => True) [(Ad0, .inr (3, Fs0))] U)) (va_Qv (fun (u : List Value × Nat × (Nat → Int32) × ClassId) => match u with | (s9812, q9797, f9799, k9798) => (ow Fs0 (s9812) 15 [12, 11, 6, 3, 1, 0] [(3, .ref q9797), (0, .ref Br0)] ∧ (∀ j, f9799 j = 0))) (fun (u : List Value × Nat × (Nat → Int32) × ClassId) t => match u with | (s9812, q9797, f9799, k9798) => Wd dC dI [(k9798, .int)] (va_A [(Ad0, .inr (3, Fs0))] sz) [(Ad0, .inr (3, s9812)), (q9797, .inl (k9798, 8000, .inl f9799))] t) (va_A [(Ad0, .inr (3, Fs0))] sz))  4 16400 (va_A [(Ad0, .inr (3, Fs0))] sz) := by
  refine Met.ofW (cc := cX0_init) (maxL := 2) (ret := none) (by decide) rfl ?_
  intro p e s m args below meth c s₁ B hml hv
  obtain ⟨rfl, hsz, hP, hK, hD0⟩ := hv
  have hx := B.exec
  have hb := B.bytes
  have hr := B.returns
  have hts := atoms_spec (ws := w_zk_X0_init) B.pre
  have hown : s.vm.findClass RX0 = some m.cls := findClass_of_methodNamed B.named
  have hlocks := B.notSynchronized
  have hin : meth.name = "<init>" := (name_of_methodNamed B.named B.method).1
  subst hsz
  have hD := hD0.self (sz := s.heap.size)
  generalize hAe : va_A [(Ad0, .inr (3, Fs0))] s.heap.size = A at hD ⊢
  have hA : ∀ q : Nat, s.heap.size ≤ q → A q := fun q h => by rw [← hAe]; exact Or.inr h
  have hS : va_S A s.heap s.heap [] := va_S.rf
  have hl := lv_entry ([.ref Ad0, .ref Br0]) (n := 2) (Nat.le_of_ble_eq_true rfl)
  rw [lg_entry_eq]
  generalize (lg_sl ([.ref Ad0, .ref Br0]) ++ List.replicate (2 - (lg_sl ([.ref Ad0, .ref Br0])).length) Slot.unset).toArray = ls at hl ⊢
  have hl : lv_has ls 2 [(0, .ref Ad0), (1, .ref Br0)] := hl
  have o_Fs0 := ow_0 k_Fs0
  refine lv_aload_n hx hb dX0_init_0 rfl (lv_at hl 0 rfl) ?_
  refine W.objInit hx hb hown (hts (.methodLink RX0 5 objectInit) (by decide +kernel)) (hts (.instanceMethod objectInit) (by decide +kernel)) (hts (.code objectInit ⟨#[0xb1]⟩ 1 none) (by decide +kernel)) rfl (by rw [hml]; exact hl.1) rfl dX0_init_1 (Nat.le_of_ble_eq_true rfl) (Nat.le_of_ble_eq_true rfl) ?_
  refine W.eq (g2 := F0 m 4 ls []) rfl ?_
  refine lv_aload_n hx hb dX0_init_4 rfl (lv_at hl 0 rfl) ?_
  refine lv_aload_n hx hb dX0_init_5 rfl (lv_at hl 1 rfl) ?_
  refine va_putF (D := (dC, dI)) (ci := 3) (v := .ref Br0) (ty := .object "HeapWorks$Types") (C := RX0) (T := TX0) (N := 15) hx hb hts (in_zk_X0_init_X0) tyX0 tyX0_ok nmX0 hown hK hP hD hS 0 rfl rfl 0 (by decide) (hts (.fieldLink RX0 11 "HeapWorks$Archive" "types" "LHeapWorks$Types;") (by decide +kernel)) (fun _ h9 => h9) rfl hin rfl (by decide +kernel) rfl rfl (by rw [o_Fs0.2.1]; decide) dX0_init_6 (fun H locs hP hD hS => ?_)
  have hP : va_P (dC, dI) vwCl [(Ad0, .inr (3, (Fs0.set 0 (.ref Br0))))] H := hP
  have hD : va_D A [(Ad0, .inr (3, (Fs0.set 0 (.ref Br0))))] := hD
  have o_s9791 := ow_set o_Fs0 0 (.ref Br0) (by decide) (l' := [(0, .ref Br0), (1, .null)]) (w' := [0]) rfl rfl
  generalize (Fs0.set 0 (.ref Br0)) = s9791 at hP hD o_s9791
  refine lv_aload_n hx hb dX0_init_9 rfl (lv_at hl 0 rfl) ?_
  refine lv_sipush (v := 4000) hx hb dX0_init_10 (by decide) ?_
  refine va_newa (atype := .int) (ty := .int) (a0 := (4000, .inl (fun _ : Nat => (0 : Int32)))) (N' := 4000) hx hb (hts (.arrayClass .int) (by decide +kernel)) rfl hK hP hD hS hA (na_I 4000) (by decide) (by decide) (by decide) (Nat.le_of_ble_eq_true rfl) (Nat.le_of_ble_eq_true rfl) dX0_init_13 (fun q9792 k9793 H hK hP hD hS => ?_)
  have hK : va_K (dC, dI) vwCl [(k9793, .int)] s := hK
  have hP : va_P (dC, dI) vwCl [(Ad0, .inr (3, s9791)), (q9792, .inl (k9793, 4000, .inl ((fun _ : Nat => (0 : Int32)))))] H := hP
  have hD : va_D A [(Ad0, .inr (3, s9791)), (q9792, .inl (k9793, 4000, .inl ((fun _ : Nat => (0 : Int32)))))] := hD
  have z9795 : ∀ j, (fun _ : Nat => (0 : Int32)) j = 0 := fun _ => rfl
  generalize (fun _ : Nat => (0 : Int32)) = f9794 at hP hD z9795
  refine W.widen (k := 1) (n := 4000) (by omega) (by omega) ?_
  refine va_putF (D := (dC, dI)) (ci := 3) (v := .ref q9792) (ty := .array .int) (C := RX0) (T := TX0) (N := 15) hx hb hts (in_zk_X0_init_X0) tyX0 tyX0_ok nmX0 hown hK hP hD hS 0 rfl rfl 1 (by decide) (hts (.fieldLink RX0 19 "HeapWorks$Archive" "buffer" "[I") (by decide +kernel)) (fun _ h9 => h9) rfl hin rfl (by decide +kernel) rfl rfl (by rw [o_s9791.2.1]; decide) dX0_init_15 (fun H locs hP hD hS => ?_)
  have hP : va_P (dC, dI) vwCl [(Ad0, .inr (3, (s9791.set 1 (.ref q9792)))), (q9792, .inl (k9793, 4000, .inl f9794))] H := hP
  have hD : va_D A [(Ad0, .inr (3, (s9791.set 1 (.ref q9792)))), (q9792, .inl (k9793, 4000, .inl f9794))] := hD
  have o_s9796 := ow_set o_s9791 1 (.ref q9792) (by decide) (l' := [(1, .ref q9792), (0, .ref Br0)]) (w' := [1, 0]) rfl rfl
  generalize (s9791.set 1 (.ref q9792)) = s9796 at hP hD o_s9796
  refine lv_aload_n hx hb dX0_init_18 rfl (lv_at hl 0 rfl) ?_
  refine lv_sipush (v := 8000) hx hb dX0_init_19 (by decide) ?_
  refine va_newa (atype := .int) (ty := .int) (a0 := (8000, .inl (fun _ : Nat => (0 : Int32)))) (N' := 8000) hx hb (hts (.arrayClass .int) (by decide +kernel)) rfl hK hP hD hS hA (na_I 8000) (by decide) (by decide) (by decide) (Nat.le_of_ble_eq_true rfl) (Nat.le_of_ble_eq_true rfl) dX0_init_22 (fun q9797 k9798 H hK hP hD hS => ?_)
  have hK : va_K (dC, dI) vwCl [(k9793, .int), (k9798, .int)] s := hK
  have hP : va_P (dC, dI) vwCl [(Ad0, .inr (3, s9796)), (q9792, .inl (k9793, 4000, .inl f9794)), (q9797, .inl (k9798, 8000, .inl ((fun _ : Nat => (0 : Int32)))))] H := hP
  have hD : va_D A [(Ad0, .inr (3, s9796)), (q9792, .inl (k9793, 4000, .inl f9794)), (q9797, .inl (k9798, 8000, .inl ((fun _ : Nat => (0 : Int32)))))] := hD
  have z9800 : ∀ j, (fun _ : Nat => (0 : Int32)) j = 0 := fun _ => rfl
  generalize (fun _ : Nat => (0 : Int32)) = f9799 at hP hD z9800
  refine W.widen (k := 2) (n := 12000) (by omega) (by omega) ?_
  refine va_putF (D := (dC, dI)) (ci := 3) (v := .ref q9797) (ty := .array .int) (C := RX0) (T := TX0) (N := 15) hx hb hts (in_zk_X0_init_X0) tyX0 tyX0_ok nmX0 hown hK hP hD hS 0 rfl rfl 3 (by decide) (hts (.fieldLink RX0 23 "HeapWorks$Archive" "log" "[I") (by decide +kernel)) (fun _ h9 => h9) rfl hin rfl (by decide +kernel) rfl rfl (by rw [o_s9796.2.1]; decide) dX0_init_24 (fun H locs hP hD hS => ?_)
  have hP : va_P (dC, dI) vwCl [(Ad0, .inr (3, (s9796.set 3 (.ref q9797)))), (q9792, .inl (k9793, 4000, .inl f9794)), (q9797, .inl (k9798, 8000, .inl f9799))] H := hP
  have hD : va_D A [(Ad0, .inr (3, (s9796.set 3 (.ref q9797)))), (q9792, .inl (k9793, 4000, .inl f9794)), (q9797, .inl (k9798, 8000, .inl f9799))] := hD
  have o_s9801 := ow_set o_s9796 3 (.ref q9797) (by decide) (l' := [(3, .ref q9797), (1, .ref q9792), (0, .ref Br0)]) (w' := [3, 1, 0]) rfl rfl
  generalize (s9796.set 3 (.ref q9797)) = s9801 at hP hD o_s9801
  refine lv_aload_n hx hb dX0_init_27 rfl (lv_at hl 0 rfl) ?_
  refine lv_aload_n hx hb dX0_init_28 rfl (lv_at hl 0 rfl) ?_
  refine va_get (D := (dC, dI)) (ci := 3) (v := .ref q9792) (C := RX0) (T := TX0) (N := 15) hx hb hts (in_zk_X0_init_X0) hown hK hP 0 rfl rfl 1 (by decide) (hts (.fieldLink RX0 19 "HeapWorks$Archive" "buffer" "[I") (by decide +kernel)) (fun _ h9 => h9) (ow_at o_s9801 1 rfl) dX0_init_29 ?_
  refine va_put (D := (dC, dI)) (ci := 3) (v := .ref q9792) (ty := .array .int) (C := RX0) (T := TX0) (N := 15) hx hb hts (in_zk_X0_init_X0) tyX0 tyX0_ok nmX0 hown hK hP hD hS 0 rfl rfl 6 (by decide) (hts (.fieldLink RX0 26 "HeapWorks$Archive" "source" "[I") (by decide +kernel)) (fun _ h9 => h9) rfl (by decide +kernel) rfl rfl (by rw [o_s9801.2.1]; decide) dX0_init_32 (fun H locs hP hD hS => ?_)
  have hP : va_P (dC, dI) vwCl [(Ad0, .inr (3, (s9801.set 6 (.ref q9792)))), (q9792, .inl (k9793, 4000, .inl f9794)), (q9797, .inl (k9798, 8000, .inl f9799))] H := hP
  have hD : va_D A [(Ad0, .inr (3, (s9801.set 6 (.ref q9792)))), (q9792, .inl (k9793, 4000, .inl f9794)), (q9797, .inl (k9798, 8000, .inl f9799))] := hD
  have o_s9802 := ow_set o_s9801 6 (.ref q9792) (by decide) (l' := [(6, .ref q9792), (3, .ref q9797), (1, .ref q9792), (0, .ref Br0)]) (w' := [6, 3, 1, 0]) rfl rfl
  generalize (s9801.set 6 (.ref q9792)) = s9802 at hP hD o_s9802
  have hP := hP.sub (ws' := [(Ad0, .inr (3, s9802)), (q9797, .inl (k9798, 8000, .inl f9799))]) [0, 2] rfl
  have hD := hD.sub (ws' := [(Ad0, .inr (3, s9802)), (q9797, .inl (k9798, 8000, .inl f9799))]) [0, 2] (by decide) rfl
  have hK := hK.sub (tys' := [(k9798, .int)]) [1] rfl
  refine lv_aload_n hx hb dX0_init_35 rfl (lv_at hl 0 rfl) ?_
  refine lv_sipush (v := 400) hx hb dX0_init_36 (by decide) ?_
  refine va_newa (atype := .int) (ty := .int) (a0 := (400, .inl (fun _ : Nat => (0 : Int32)))) (N' := 400) hx hb (hts (.arrayClass .int) (by decide +kernel)) rfl hK hP hD hS hA (na_I 400) (by decide) (by decide) (by decide) (Nat.le_of_ble_eq_true rfl) (Nat.le_of_ble_eq_true rfl) dX0_init_39 (fun q9803 k9804 H hK hP hD hS => ?_)
  have hK : va_K (dC, dI) vwCl [(k9798, .int), (k9804, .int)] s := hK
  have hP : va_P (dC, dI) vwCl [(Ad0, .inr (3, s9802)), (q9797, .inl (k9798, 8000, .inl f9799)), (q9803, .inl (k9804, 400, .inl ((fun _ : Nat => (0 : Int32)))))] H := hP
  have hD : va_D A [(Ad0, .inr (3, s9802)), (q9797, .inl (k9798, 8000, .inl f9799)), (q9803, .inl (k9804, 400, .inl ((fun _ : Nat => (0 : Int32)))))] := hD
  have z9806 : ∀ j, (fun _ : Nat => (0 : Int32)) j = 0 := fun _ => rfl
  generalize (fun _ : Nat => (0 : Int32)) = f9805 at hP hD z9806
  refine W.widen (k := 3) (n := 12400) (by omega) (by omega) ?_
  refine va_putF (D := (dC, dI)) (ci := 3) (v := .ref q9803) (ty := .array .int) (C := RX0) (T := TX0) (N := 15) hx hb hts (in_zk_X0_init_X0) tyX0 tyX0_ok nmX0 hown hK hP hD hS 0 rfl rfl 11 (by decide) (hts (.fieldLink RX0 29 "HeapWorks$Archive" "objectPlace" "[I") (by decide +kernel)) (fun _ h9 => h9) rfl hin rfl (by decide +kernel) rfl rfl (by rw [o_s9802.2.1]; decide) dX0_init_41 (fun H locs hP hD hS => ?_)
  have hP : va_P (dC, dI) vwCl [(Ad0, .inr (3, (s9802.set 11 (.ref q9803)))), (q9797, .inl (k9798, 8000, .inl f9799)), (q9803, .inl (k9804, 400, .inl f9805))] H := hP
  have hD : va_D A [(Ad0, .inr (3, (s9802.set 11 (.ref q9803)))), (q9797, .inl (k9798, 8000, .inl f9799)), (q9803, .inl (k9804, 400, .inl f9805))] := hD
  have o_s9807 := ow_set o_s9802 11 (.ref q9803) (by decide) (l' := [(11, .ref q9803), (6, .ref q9792), (3, .ref q9797), (1, .ref q9792), (0, .ref Br0)]) (w' := [11, 6, 3, 1, 0]) rfl rfl
  generalize (s9802.set 11 (.ref q9803)) = s9807 at hP hD o_s9807
  have hP := hP.sub (ws' := [(Ad0, .inr (3, s9807)), (q9797, .inl (k9798, 8000, .inl f9799))]) [0, 1] rfl
  have hD := hD.sub (ws' := [(Ad0, .inr (3, s9807)), (q9797, .inl (k9798, 8000, .inl f9799))]) [0, 1] (by decide) rfl
  have hK := hK.sub (tys' := [(k9798, .int)]) [0] rfl
  refine lv_aload_n hx hb dX0_init_44 rfl (lv_at hl 0 rfl) ?_
  refine lv_sipush (v := 4000) hx hb dX0_init_45 (by decide) ?_
  refine va_newa (atype := .int) (ty := .int) (a0 := (4000, .inl (fun _ : Nat => (0 : Int32)))) (N' := 4000) hx hb (hts (.arrayClass .int) (by decide +kernel)) rfl hK hP hD hS hA (na_I 4000) (by decide) (by decide) (by decide) (Nat.le_of_ble_eq_true rfl) (Nat.le_of_ble_eq_true rfl) dX0_init_48 (fun q9808 k9809 H hK hP hD hS => ?_)
  have hK : va_K (dC, dI) vwCl [(k9798, .int), (k9809, .int)] s := hK
  have hP : va_P (dC, dI) vwCl [(Ad0, .inr (3, s9807)), (q9797, .inl (k9798, 8000, .inl f9799)), (q9808, .inl (k9809, 4000, .inl ((fun _ : Nat => (0 : Int32)))))] H := hP
  have hD : va_D A [(Ad0, .inr (3, s9807)), (q9797, .inl (k9798, 8000, .inl f9799)), (q9808, .inl (k9809, 4000, .inl ((fun _ : Nat => (0 : Int32)))))] := hD
  have z9811 : ∀ j, (fun _ : Nat => (0 : Int32)) j = 0 := fun _ => rfl
  generalize (fun _ : Nat => (0 : Int32)) = f9810 at hP hD z9811
  refine W.widen (k := 4) (n := 16400) (by omega) (by omega) ?_
  refine va_putF (D := (dC, dI)) (ci := 3) (v := .ref q9808) (ty := .array .int) (C := RX0) (T := TX0) (N := 15) hx hb hts (in_zk_X0_init_X0) tyX0 tyX0_ok nmX0 hown hK hP hD hS 0 rfl rfl 12 (by decide) (hts (.fieldLink RX0 32 "HeapWorks$Archive" "slotPlace" "[I") (by decide +kernel)) (fun _ h9 => h9) rfl hin rfl (by decide +kernel) rfl rfl (by rw [o_s9807.2.1]; decide) dX0_init_50 (fun H locs hP hD hS => ?_)
  have hP : va_P (dC, dI) vwCl [(Ad0, .inr (3, (s9807.set 12 (.ref q9808)))), (q9797, .inl (k9798, 8000, .inl f9799)), (q9808, .inl (k9809, 4000, .inl f9810))] H := hP
  have hD : va_D A [(Ad0, .inr (3, (s9807.set 12 (.ref q9808)))), (q9797, .inl (k9798, 8000, .inl f9799)), (q9808, .inl (k9809, 4000, .inl f9810))] := hD
  have o_s9812 := ow_set o_s9807 12 (.ref q9808) (by decide) (l' := [(12, .ref q9808), (11, .ref q9803), (6, .ref q9792), (3, .ref q9797), (1, .ref q9792), (0, .ref Br0)]) (w' := [12, 11, 6, 3, 1, 0]) rfl rfl
  generalize (s9807.set 12 (.ref q9808)) = s9812 at hP hD o_s9812
  have hP := hP.sub (ws' := [(Ad0, .inr (3, s9812)), (q9797, .inl (k9798, 8000, .inl f9799))]) [0, 1] rfl
  have hD := hD.sub (ws' := [(Ad0, .inr (3, s9812)), (q9797, .inl (k9798, 8000, .inl f9799))]) [0, 1] (by decide) rfl
  have hK := hK.sub (tys' := [(k9798, .int)]) [0] rfl
  have hP9 := hP.sub (ws' := [(Ad0, .inr (3, s9812)), (q9797, .inl (k9798, 8000, .inl f9799))]) [0, 1] rfl
  have hD9 := hD.sub (ws' := [(Ad0, .inr (3, s9812)), (q9797, .inl (k9798, 8000, .inl f9799))]) [0, 1] (by decide) rfl
  have hK9 := hK.sub (tys' := [(k9798, .int)]) [0] rfl
  refine W.widen (k := 4) (n := 16400) (by decide) (by decide) ?_
  exact W.vret hx hb hr (fun t ht hW => ⟨⟨(s9812, q9797, f9799, k9798), rfl, ⟨(ow_sub o_s9812 [3, 5] rfl), z9800⟩, by rw [ht]; exact hP9, va_K.moved hW.alike hK9, hD9⟩, hS.F ht⟩) hS.2.2 dX0_init_53
