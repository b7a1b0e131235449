def l_z_X12_takeByte : List Cond := [.fieldLink RX12 625 "HeapWorksModel" "stop" "I", .fieldLink RX12 975 "HeapWorksModel" "rowAt" "I", .fieldLink RX12 953 "HeapWorksModel" "rowEnd" "I", .methodLink RX12 653 yX12_fail, .instanceMethod yX12_fail, .selects RX12 yX12_fail yX12_fail, .initialized RX12, .code yX12_fail cX12_fail 3 none, .fieldLink RX12 628 "HeapWorksModel" "stopAt" "I"]
def w_z_X12_takeByte : List Cond := .code yX12_takeByte cX12_takeByte 2 none :: (l_z_X12_takeByte ++ (wsX120))
theorem in_z_X12_takeByte_X12 : ∀ w ∈ wsX120, w ∈ w_z_X12_takeByte := fun w h => List.mem_cons_of_mem _ (List.mem_append_right _ (h))
theorem g_z_X12_takeByte_z_X12_fail_653 : GoodIn w_z_X12_takeByte (wsV RX12 653 RX12 yX12_fail w_z_X12_fail) := goodIn_app (goodIn_r (([.methodLink RX12 653 yX12_fail, .instanceMethod yX12_fail, .selects RX12 yX12_fail yX12_fail, .initialized RX12] : List Cond)) [4, 5, 6, 7] rfl (by decide +kernel)) (goodIn_ca (goodIn_r (.code yX12_fail cX12_fail 3 none :: l_z_X12_fail) [8, 1, 9] rfl (by decide +kernel)) (goodIn_in (in_z_X12_takeByte_X12) gd_X12))
set_option maxHeartbeats 4000000 in
set_option maxRecDepth 100000 in
theorem z_X12_takeByte (l : Launch) (dC : Nat → ClassId) (dI : Nat → Nat → Nat) (sz : Nat) (Ad0 : Nat) (Fs0 : List Value) (k_Fs0 : fh Fs0 150 [(142, .int 0), (83, .int 0), (141, .int 0)])  : Met l yX12_takeByte w_z_X12_takeByte ({ frames := 1, cells := 0, slots := 0, locals := 22 }) (va_Pc [.ref Ad0, .int 72] (fun U => U.heap.size = sz ∧ Wd dC dI [] (fun _ => True) [(Ad0, .inr (15, Fs0))] U)) (va_Qv (fun (u : List Value) => ow Fs0 (u) 150 [142, 84, 83] [(142, .int 1), (84, .int 0), (83, .int 1), (141, .int 0)]) (fun (u : List Value) t => Wd dC dI [] (va_A [(Ad0, .inr (15, Fs0))] sz) [(Ad0, .inr (15, (u)))] t) (va_A [(Ad0, .inr (15, Fs0))] sz))  0 0 (va_A [(Ad0, .inr (15, Fs0))] sz) := by
  refine Met.ofW (cc := cX12_takeByte) (maxL := 2) (ret := none) (by decide) rfl ?_
  intro p e s m args below meth c s₁ B hml hv
  obtain ⟨rfl, hsz, hP, hK, hD0⟩ := hv
  have hx := B.exec
  have hb := B.bytes
  have hr := B.returns
  have hts := atoms_spec (ws := w_z_X12_takeByte) B.pre
  have hown : s.vm.findClass RX12 = some m.cls := findClass_of_methodNamed B.named
  have hlocks := B.notSynchronized
  subst hsz
  have hD := hD0.self (sz := s.heap.size)
  generalize hAe : va_A [(Ad0, .inr (15, Fs0))] s.heap.size = A at hD ⊢
  have hA : ∀ q : Nat, s.heap.size ≤ q → A q := fun q h => by rw [← hAe]; exact Or.inr h
  have hS : va_S A s.heap s.heap [] := va_S.rf
  have hl := lv_entry ([.ref Ad0, .int 72]) (n := 2) (Nat.le_of_ble_eq_true rfl)
  rw [lg_entry_eq]
  generalize (lg_sl ([.ref Ad0, .int 72]) ++ List.replicate (2 - (lg_sl ([.ref Ad0, .int 72])).length) Slot.unset).toArray = ls at hl ⊢
  have hl : lv_has ls 2 [(0, .ref Ad0), (1, .int 72)] := hl
  have o_Fs0 := ow_0 k_Fs0
  refine lv_aload_n hx hb dX12_takeByte_0 rfl (lv_at hl 0 rfl) ?_
  refine va_get (D := (dC, dI)) (ci := 15) (v := .int 0) (C := RX12) (T := TX12) (N := 150) hx hb hts (in_z_X12_takeByte_X12) hown hK hP 0 rfl rfl 83 (by decide) (hts (.fieldLink RX12 625 "HeapWorksModel" "stop" "I") (by decide +kernel)) (fun _ h9 => h9) (ow_at o_Fs0 1 rfl) dX12_takeByte_1 ?_
  refine lv_if_le (tgt := 8) hx hb dX12_takeByte_4 (by decide) (fun c101 => ?_) (fun c101 => absurd c101 (by decide))
  refine lv_aload_n hx hb dX12_takeByte_8 rfl (lv_at hl 0 rfl) ?_
  refine va_get (D := (dC, dI)) (ci := 15) (v := .int 0) (C := RX12) (T := TX12) (N := 150) hx hb hts (in_z_X12_takeByte_X12) hown hK hP 0 rfl rfl 142 (by decide) (hts (.fieldLink RX12 975 "HeapWorksModel" "rowAt" "I") (by decide +kernel)) (fun _ h9 => h9) (ow_at o_Fs0 0 rfl) dX12_takeByte_9 ?_
  refine lv_aload_n hx hb dX12_takeByte_12 rfl (lv_at hl 0 rfl) ?_
  refine va_get (D := (dC, dI)) (ci := 15) (v := .int 0) (C := RX12) (T := TX12) (N := 150) hx hb hts (in_z_X12_takeByte_X12) hown hK hP 0 rfl rfl 141 (by decide) (hts (.fieldLink RX12 953 "HeapWorksModel" "rowEnd" "I") (by decide +kernel)) (fun _ h9 => h9) (ow_at o_Fs0 2 rfl) dX12_takeByte_13 ?_
  refine lv_icmp_ne (tgt := 31) hx hb dX12_takeByte_16 (by decide) (fun c102 => absurd c102 (by decide)) (fun c102 => ?_)
  refine lv_aload_n hx hb dX12_takeByte_19 rfl (lv_at hl 0 rfl) ?_
  refine lv_iconst (v := 1) hx hb dX12_takeByte_20 (by decide) ?_
  refine lv_aload_n hx hb dX12_takeByte_21 rfl (lv_at hl 0 rfl) ?_
  refine va_get (D := (dC, dI)) (ci := 15) (v := .int 0) (C := RX12) (T := TX12) (N := 150) hx hb hts (in_z_X12_takeByte_X12) hown hK hP 0 rfl rfl 142 (by decide) (hts (.fieldLink RX12 975 "HeapWorksModel" "rowAt" "I") (by decide +kernel)) (fun _ h9 => h9) (ow_at o_Fs0 0 rfl) dX12_takeByte_22 ?_
  have hPc := hP.sub (ws' := [(Ad0, .inr (15, Fs0))]) [0] rfl
  have hDc := hD.sub (ws' := [(Ad0, .inr (15, Fs0))]) [0] (by decide) rfl
  have hKc := hK.sub (tys' := []) [] rfl
  have hFc := va_free (wc := [(Ad0, .inr (15, Fs0))]) hD hS hA [0] rfl
  refine va_callv (va_runV (As := [.int 1, .int 0]) (rest := []) ⟨hx, hb, hml, hown, hts⟩ (z_X12_fail l dC dI s.heap.size Ad0 Fs0 (fh_sub o_Fs0.2 [1] rfl) ) (cwV 2 hts g_z_X12_takeByte_z_X12_fail_653 rfl rfl rfl (by decide +kernel) ⟨Nat.le_of_ble_eq_true rfl, Nat.le_of_ble_eq_true rfl⟩) ⟨fun a U g mk q => by obtain ⟨q0, q1, qP, qK, qD⟩ := q; exact ⟨q0, q1, qP, va_K.moved (u := U) (U := U.calling g mk a) (Vm.Alike.refl U.vm) qK, qD⟩, va_recv hK hP (ci := 15) (q0 := 0) rfl rfl, fun U hU hW => ⟨rfl, by rw [hU], by rw [hU]; exact hPc, va_K.moved hW.alike hKc, hDc.weaken (fun _ _ _ _ => trivial)⟩⟩ rfl rfl hl.1 rfl (lv_room (Nat.le_of_ble_eq_true rfl)) dX12_takeByte_25 ⟨Nat.le_of_ble_eq_true rfl, Nat.le_of_ble_eq_true rfl⟩) hS (fun q _ h => hFc q h) hFc (fun u t H1 locs ht hvm hw hB hz1 hk1 hS => ?_)
  obtain ⟨s103, rfl⟩ : ∃ z, z = u := ⟨_, rfl⟩
  obtain ⟨hP1, hK1, hD1⟩ := hB
  rw [ht] at hP1
  try dsimp only at hw
  obtain ⟨hP, hD⟩ := va_join (wr := []) (w1 := [(Ad0, .inr (15, s103))]) hP hD [0] [] rfl rfl (by decide) (by decide) hk1 hFc hP1 hD1
  have hK := hK.sub (tys' := []) [] rfl
  generalize H1 = H at hP hS ⊢
  have hP : va_P (dC, dI) vwCl [(Ad0, .inr (15, s103))] H := hP
  have hD : va_D A [(Ad0, .inr (15, s103))] := hD
  have o_s103 := hw
  have o_s103 := ow_on o_Fs0 o_s103 (l' := [(84, .int 0), (83, .int 1), (142, .int 0), (141, .int 0)]) (w' := [84, 83]) rfl rfl
  refine lv_goto (tgt := 57) hx hb dX12_takeByte_28 (by decide) ?_
  refine lv_aload_n hx hb dX12_takeByte_57 rfl (lv_at hl 0 rfl) ?_
  refine lv_dup hx hb dX12_takeByte_58 rfl ?_
  refine va_get (D := (dC, dI)) (ci := 15) (v := .int 0) (C := RX12) (T := TX12) (N := 150) hx hb hts (in_z_X12_takeByte_X12) hown hK hP 0 rfl rfl 142 (by decide) (hts (.fieldLink RX12 975 "HeapWorksModel" "rowAt" "I") (by decide +kernel)) (fun _ h9 => h9) (ow_at o_s103 2 rfl) dX12_takeByte_59 ?_
  refine lv_iconst (v := 1) hx hb dX12_takeByte_62 (by decide) ?_
  refine lv_iadd hx hb dX12_takeByte_63  ?_
  refine lv_topi (fun x104 ex104 => ?_)
  obtain rfl : x104 = 1 := ex104.trans (by decide)
  refine va_put (D := (dC, dI)) (ci := 15) (v := .int 1) (ty := .int) (C := RX12) (T := TX12) (N := 150) hx hb hts (in_z_X12_takeByte_X12) tyX12 tyX12_ok nmX12 hown hK hP hD hS 0 rfl rfl 142 (by decide) (hts (.fieldLink RX12 975 "HeapWorksModel" "rowAt" "I") (by decide +kernel)) (fun _ h9 => h9) rfl (by decide +kernel) rfl rfl (by rw [o_s103.2.1]; decide) dX12_takeByte_64 (fun H locs hP hD hS => ?_)
  have hP : va_P (dC, dI) vwCl [(Ad0, .inr (15, (s103.set 142 (.int 1))))] H := hP
  have hD : va_D A [(Ad0, .inr (15, (s103.set 142 (.int 1))))] := hD
  have o_s105 := ow_set o_s103 142 (.int 1) (by decide) (l' := [(142, .int 1), (84, .int 0), (83, .int 1), (141, .int 0)]) (w' := [142, 84, 83]) rfl rfl
  generalize (s103.set 142 (.int 1)) = s105 at hP hD o_s105
  have hP9 := hP.sub (ws' := [(Ad0, .inr (15, s105))]) [0] rfl
  have hD9 := hD.sub (ws' := [(Ad0, .inr (15, s105))]) [0] (by decide) rfl
  have hK9 := hK.sub (tys' := []) [] rfl
  exact W.vret hx hb hr (fun t ht hW => ⟨⟨s105, rfl, o_s105, by rw [ht]; exact hP9, va_K.moved hW.alike hK9, hD9⟩, hS.F ht⟩) hS.2.2 dX12_takeByte_67

def l_z_X12_takeByte_1 : List Cond := [.fieldLink RX12 625 "HeapWorksModel" "stop" "I"]
def w_z_X12_takeByte_1 : List Cond := .code yX12_takeByte cX12_takeByte 2 none :: (l_z_X12_takeByte_1 ++ (wsX120))
theorem in_z_X12_takeByte_1_X12 : ∀ w ∈ wsX120, w ∈ w_z_X12_takeByte_1 := fun w h => List.mem_cons_of_mem _ (List.mem_append_right _ (h))
set_option maxHeartbeats 4000000 in
set_option maxRecDepth 100000 in
theorem z_X12_takeByte_1 (l : Launch) (dC : Nat → ClassId) (dI : Nat → Nat → Nat) (sz : Nat) (Ad0 : Nat) (Fs0 : List Value) (k_Fs0 : fh Fs0 150 [(83, .int 1)])  : Met l yX12_takeByte w_z_X12_takeByte_1 ({ frames := 0, cells := 0, slots := 0, locals := 0 }) (va_Pc [.ref Ad0, .int 80] (fun U => U.heap.size = sz ∧ Wd dC dI [] (fun _ => True) [(Ad0, .inr (15, Fs0))] U)) (va_Qv (fun (u : Unit) => True) (fun (u : Unit) t => Wd dC dI [] (va_A [(Ad0, .inr (15, Fs0))] sz) [(Ad0, .inr (15, Fs0))] t) (va_A [(Ad0, .inr (15, Fs0))] sz))  0 0 (va_A [(Ad0, .inr (15, Fs0))] sz) := by
  refine Met.ofW (cc := cX12_takeByte) (maxL := 2) (ret := none) (by decide) rfl ?_
  intro p e s m args below meth c s₁ B hml hv
  obtain ⟨rfl, hsz, hP, hK, hD0⟩ := hv
  have hx := B.exec
  have hb := B.bytes
  have hr := B.returns
  have hts := atoms_spec (ws := w_z_X12_takeByte_1) B.pre
  have hown : s.vm.findClass RX12 = some m.cls := findClass_of_methodNamed B.named
  have hlocks := B.notSynchronized
  subst hsz
  have hD := hD0.self (sz := s.heap.size)
  generalize hAe : va_A [(Ad0, .inr (15, Fs0))] s.heap.size = A at hD ⊢
  have hA : ∀ q : Nat, s.heap.size ≤ q → A q := fun q h => by rw [← hAe]; exact Or.inr h
  have hS : va_S A s.heap s.heap [] := va_S.rf
  have hl := lv_entry ([.ref Ad0, .int 80]) (n := 2) (Nat.le_of_ble_eq_true rfl)
  rw [lg_entry_eq]
  generalize (lg_sl ([.ref Ad0, .int 80]) ++ List.replicate (2 - (lg_sl ([.ref Ad0, .int 80])).length) Slot.unset).toArray = ls at hl ⊢
  have hl : lv_has ls 2 [(0, .ref Ad0), (1, .int 80)] := hl
  have o_Fs0 := ow_0 k_Fs0
  refine lv_aload_n hx hb dX12_takeByte_0 rfl (lv_at hl 0 rfl) ?_
  refine va_get (D := (dC, dI)) (ci := 15) (v := .int 1) (C := RX12) (T := TX12) (N := 150) hx hb hts (in_z_X12_takeByte_1_X12) hown hK hP 0 rfl rfl 83 (by decide) (hts (.fieldLink RX12 625 "HeapWorksModel" "stop" "I") (by decide +kernel)) (fun _ h9 => h9) (ow_at o_Fs0 0 rfl) dX12_takeByte_1 ?_
  refine lv_if_le (tgt := 8) hx hb dX12_takeByte_4 (by decide) (fun c101 => absurd c101 (by decide)) (fun c101 => ?_)
  have hP9 := hP.sub (ws' := [(Ad0, .inr (15, Fs0))]) [0] rfl
  have hD9 := hD.sub (ws' := [(Ad0, .inr (15, Fs0))]) [0] (by decide) rfl
  have hK9 := hK.sub (tys' := []) [] rfl
  exact W.vret hx hb hr (fun t ht hW => ⟨⟨(), rfl, trivial, by rw [ht]; exact hP9, va_K.moved hW.alike hK9, hD9⟩, hS.F ht⟩) hS.2.2 dX12_takeByte_7

def l_z_X12_takePicture : List Cond := [.fieldLink RX12 625 "HeapWorksModel" "stop" "I", .fieldLink RX12 628 "HeapWorksModel" "stopAt" "I", .fieldLink RX12 975 "HeapWorksModel" "rowAt" "I", .fieldLink RX12 991 "HeapWorksModel" "readSlots" "I", .methodLink RX12 1004 yX12_takeByte, .instanceMethod yX12_takeByte, .selects RX12 yX12_takeByte yX12_takeByte, .initialized RX12, .fieldLink RX12 183 "HeapWorksModel" "things" "[I", .code yX12_takeByte cX12_takeByte 2 none, .fieldLink RX12 953 "HeapWorksModel" "rowEnd" "I", .methodLink RX12 653 yX12_fail, .instanceMethod yX12_fail, .selects RX12 yX12_fail yX12_fail, .code yX12_fail cX12_fail 3 none]
def w_z_X12_takePicture : List Cond := .code yX12_takePicture cX12_takePicture 6 none :: (l_z_X12_takePicture ++ (wsX120))
theorem in_z_X12_takePicture_X12 : ∀ w ∈ wsX120, w ∈ w_z_X12_takePicture := fun w h => List.mem_cons_of_mem _ (List.mem_append_right _ (h))
theorem g_z_X12_takePicture_z_X12_takeByte_1004 : GoodIn w_z_X12_takePicture (wsV RX12 1004 RX12 yX12_takeByte w_z_X12_takeByte) := goodIn_app (goodIn_r (([.methodLink RX12 1004 yX12_takeByte, .instanceMethod yX12_takeByte, .selects RX12 yX12_takeByte yX12_takeByte, .initialized RX12] : List Cond)) [5, 6, 7, 8] rfl (by decide +kernel)) (goodIn_ca (goodIn_r (.code yX12_takeByte cX12_takeByte 2 none :: l_z_X12_takeByte) [10, 1, 3, 11, 12, 13, 14, 8, 15, 2] rfl (by decide +kernel)) (goodIn_in (in_z_X12_takePicture_X12) gd_X12))
theorem g_z_X12_takePicture_z_X12_takeByte_1_1004 : GoodIn w_z_X12_takePicture (wsV RX12 1004 RX12 yX12_takeByte w_z_X12_takeByte_1) := goodIn_app (goodIn_r (([.methodLink RX12 1004 yX12_takeByte, .instanceMethod yX12_takeByte, .selects RX12 yX12_takeByte yX12_takeByte, .initialized RX12] : List Cond)) [5, 6, 7, 8] rfl (by decide +kernel)) (goodIn_ca (goodIn_r (.code yX12_takeByte cX12_takeByte 2 none :: l_z_X12_takeByte_1) [10, 1] rfl (by decide +kernel)) (goodIn_in (in_z_X12_takePicture_X12) gd_X12))
set_option maxHeartbeats 4000000 in
set_option maxRecDepth 100000 in
theorem z_X12_takePicture (l : Launch) (dC : Nat → ClassId) (dI : Nat → Nat → Nat) (sz : Nat) (Ad0 : Nat) (Fs0 : List Value) (Ad1 : Nat) (Fa0 : Nat → Int32) (Ka0 : ClassId) (k_Fs0 : fh Fs0 150 [(141, .int 0), (48, .ref Ad1), (83, .int 0), (142, .int 0)]) (hz_Fa0 : ∀ j, Fa0 j = 0) : Met l yX12_takePicture w_z_X12_takePicture ({ frames := 2, cells := 0, slots := 0, locals := 43 }) (va_Pc [.ref Ad0] (fun U => U.heap.size = sz ∧ Wd dC dI [(Ka0, .int)] (fun _ => True) [(Ad0, .inr (15, Fs0)), (Ad1, .inl (Ka0, 5, .inl Fa0))] U)) (va_Qv (fun (u : List Value × (Nat → Int32)) => (ow Fs0 (u.1) 150 [142, 84, 83, 146] [(142, .int 1), (84, .int 0), (83, .int 1), (141, .int 0), (146, .int 0), (141, .int 0), (48, .ref Ad1)] ∧ (∀ j, (u.2) j = 0) ∧ (u.2) (4 : Int32).toNatClampNeg = 0)) (fun (u : List Value × (Nat → Int32)) t => Wd dC dI [(Ka0, .int)] (va_A [(Ad0, .inr (15, Fs0)), (Ad1, .inl (Ka0, 5, .inl Fa0))] sz) [(Ad0, .inr (15, (u.1))), (Ad1, .inl (Ka0, 5, .inl ((u.2))))] t) (va_A [(Ad0, .inr (15, Fs0)), (Ad1, .inl (Ka0, 5, .inl Fa0))] sz))  0 0 (va_A [(Ad0, .inr (15, Fs0)), (Ad1, .inl (Ka0, 5, .inl Fa0))] sz) := by
  refine Met.ofW (cc := cX12_takePicture) (maxL := 6) (ret := none) (by decide) rfl ?_
  intro p e s m args below meth c s₁ B hml hv
  obtain ⟨rfl, hsz, hP, hK, hD0⟩ := hv
  have hx := B.exec
  have hb := B.bytes
  have hr := B.returns
  have hts := atoms_spec (ws := w_z_X12_takePicture) B.pre
  have hown : s.vm.findClass RX12 = some m.cls := findClass_of_methodNamed B.named
  have hlocks := B.notSynchronized
  subst hsz
  have hD := hD0.self (sz := s.heap.size)
  generalize hAe : va_A [(Ad0, .inr (15, Fs0)), (Ad1, .inl (Ka0, 5, .inl Fa0))] s.heap.size = A at hD ⊢
  have hA : ∀ q : Nat, s.heap.size ≤ q → A q := fun q h => by rw [← hAe]; exact Or.inr h
  have hS : va_S A s.heap s.heap [] := va_S.rf
  have hl := lv_entry ([.ref Ad0]) (n := 6) (Nat.le_of_ble_eq_true rfl)
  rw [lg_entry_eq]
  generalize (lg_sl ([.ref Ad0]) ++ List.replicate (6 - (lg_sl ([.ref Ad0])).length) Slot.unset).toArray = ls at hl ⊢
  have hl : lv_has ls 6 [(0, .ref Ad0)] := hl
  have o_Fs0 := ow_0 k_Fs0
  refine lv_aload_n hx hb dX12_takePicture_0 rfl (lv_at hl 0 rfl) ?_
  refine lv_iconst (v := 0) hx hb dX12_takePicture_1 (by decide) ?_
  refine va_put (D := (dC, dI)) (ci := 15) (v := .int 0) (ty := .int) (C := RX12) (T := TX12) (N := 150) hx hb hts (in_z_X12_takePicture_X12) tyX12 tyX12_ok nmX12 hown hK hP hD hS 0 rfl rfl 83 (by decide) (hts (.fieldLink RX12 625 "HeapWorksModel" "stop" "I") (by decide +kernel)) (fun _ h9 => h9) rfl (by decide +kernel) rfl rfl (by rw [o_Fs0.2.1]; decide) dX12_takePicture_2 (fun H locs hP hD hS => ?_)
  have hP : va_P (dC, dI) vwCl [(Ad0, .inr (15, (Fs0.set 83 (.int 0)))), (Ad1, .inl (Ka0, 5, .inl Fa0))] H := hP
  have hD : va_D A [(Ad0, .inr (15, (Fs0.set 83 (.int 0)))), (Ad1, .inl (Ka0, 5, .inl Fa0))] := hD
  have o_s101 := ow_set o_Fs0 83 (.int 0) (by decide) (l' := [(83, .int 0), (141, .int 0), (48, .ref Ad1), (142, .int 0)]) (w' := [83]) rfl rfl
  generalize (Fs0.set 83 (.int 0)) = s101 at hP hD o_s101
  refine lv_aload_n hx hb dX12_takePicture_5 rfl (lv_at hl 0 rfl) ?_
  refine lv_iconst (v := (-1)) hx hb dX12_takePicture_6 (by decide) ?_
  refine va_put (D := (dC, dI)) (ci := 15) (v := .int (-1)) (ty := .int) (C := RX12) (T := TX12) (N := 150) hx hb hts (in_z_X12_takePicture_X12) tyX12 tyX12_ok nmX12 hown hK hP hD hS 0 rfl rfl 84 (by decide) (hts (.fieldLink RX12 628 "HeapWorksModel" "stopAt" "I") (by decide +kernel)) (fun _ h9 => h9) rfl (by decide +kernel) rfl rfl (by rw [o_s101.2.1]; decide) dX12_takePicture_7 (fun H locs hP hD hS => ?_)
  have hP : va_P (dC, dI) vwCl [(Ad0, .inr (15, (s101.set 84 (.int (-1))))), (Ad1, .inl (Ka0, 5, .inl Fa0))] H := hP
  have hD : va_D A [(Ad0, .inr (15, (s101.set 84 (.int (-1))))), (Ad1, .inl (Ka0, 5, .inl Fa0))] := hD
  have o_s102 := ow_set o_s101 84 (.int (-1)) (by decide) (l' := [(84, .int (-1)), (83, .int 0), (141, .int 0), (48, .ref Ad1), (142, .int 0)]) (w' := [84, 83]) rfl rfl
  generalize (s101.set 84 (.int (-1))) = s102 at hP hD o_s102
  refine lv_aload_n hx hb dX12_takePicture_10 rfl (lv_at hl 0 rfl) ?_
  refine lv_iconst (v := 0) hx hb dX12_takePicture_11 (by decide) ?_
  refine va_put (D := (dC, dI)) (ci := 15) (v := .int 0) (ty := .int) (C := RX12) (T := TX12) (N := 150) hx hb hts (in_z_X12_takePicture_X12) tyX12 tyX12_ok nmX12 hown hK hP hD hS 0 rfl rfl 142 (by decide) (hts (.fieldLink RX12 975 "HeapWorksModel" "rowAt" "I") (by decide +kernel)) (fun _ h9 => h9) rfl (by decide +kernel) rfl rfl (by rw [o_s102.2.1]; decide) dX12_takePicture_12 (fun H locs hP hD hS => ?_)
  have hP : va_P (dC, dI) vwCl [(Ad0, .inr (15, (s102.set 142 (.int 0)))), (Ad1, .inl (Ka0, 5, .inl Fa0))] H := hP
  have hD : va_D A [(Ad0, .inr (15, (s102.set 142 (.int 0)))), (Ad1, .inl (Ka0, 5, .inl Fa0))] := hD
  have o_s103 := ow_set o_s102 142 (.int 0) (by decide) (l' := [(142, .int 0), (84, .int (-1)), (83, .int 0), (141, .int 0), (48, .ref Ad1)]) (w' := [142, 84, 83]) rfl rfl
  generalize (s102.set 142 (.int 0)) = s103 at hP hD o_s103
  refine lv_aload_n hx hb dX12_takePicture_15 rfl (lv_at hl 0 rfl) ?_
  refine lv_iconst (v := 0) hx hb dX12_takePicture_16 (by decide) ?_
  refine va_put (D := (dC, dI)) (ci := 15) (v := .int 0) (ty := .int) (C := RX12) (T := TX12) (N := 150) hx hb hts (in_z_X12_takePicture_X12) tyX12 tyX12_ok nmX12 hown hK hP hD hS 0 rfl rfl 146 (by decide) (hts (.fieldLink RX12 991 "HeapWorksModel" "readSlots" "I") (by decide +kernel)) (fun _ h9 => h9) rfl (by decide +kernel) rfl rfl (by rw [o_s103.2.1]; decide) dX12_takePicture_17 (fun H locs hP hD hS => ?_)
  have hP : va_P (dC, dI) vwCl [(Ad0, .inr (15, (s103.set 146 (.int 0)))), (Ad1, .inl (Ka0, 5, .inl Fa0))] H := hP
  have hD : va_D A [(Ad0, .inr (15, (s103.set 146 (.int 0)))), (Ad1, .inl (Ka0, 5, .inl Fa0))] := hD
  have o_s104 := ow_set o_s103 146 (.int 0) (by decide) (l' := [(146, .int 0), (142, .int 0), (84, .int (-1)), (83, .int 0), (141, .int 0), (48, .ref Ad1)]) (w' := [146, 142, 84, 83]) rfl rfl
  generalize (s103.set 146 (.int 0)) = s104 at hP hD o_s104
  refine lv_aload_n hx hb dX12_takePicture_20 rfl (lv_at hl 0 rfl) ?_
  refine lv_bipush (v := 72) hx hb dX12_takePicture_21 (by decide) ?_
  have hPc := hP.sub (ws' := [(Ad0, .inr (15, s104))]) [0] rfl
  have hDc := hD.sub (ws' := [(Ad0, .inr (15, s104))]) [0] (by decide) rfl
  have hKc := hK.sub (tys' := []) [] rfl
  have hFc := va_free (wc := [(Ad0, .inr (15, s104))]) hD hS hA [0] rfl
  refine va_callv (va_runV (As := [.int 72]) (rest := []) ⟨hx, hb, hml, hown, hts⟩ (z_X12_takeByte l dC dI H.size Ad0 s104 (fh_sub o_s104.2 [1, 3, 4] rfl) ) (cwV 1 hts g_z_X12_takePicture_z_X12_takeByte_1004 rfl rfl rfl (by decide +kernel) ⟨Nat.le_of_ble_eq_true rfl, Nat.le_of_ble_eq_true rfl⟩) ⟨fun a U g mk q => by obtain ⟨q0, q1, qP, qK, qD⟩ := q; exact ⟨q0, q1, qP, va_K.moved (u := U) (U := U.calling g mk a) (Vm.Alike.refl U.vm) qK, qD⟩, va_recv hK hP (ci := 15) (q0 := 0) rfl rfl, fun U hU hW => ⟨rfl, by rw [hU], by rw [hU]; exact hPc, va_K.moved hW.alike hKc, hDc.weaken (fun _ _ _ _ => trivial)⟩⟩ rfl rfl hl.1 rfl (lv_room (Nat.le_of_ble_eq_true rfl)) dX12_takePicture_23 ⟨Nat.le_of_ble_eq_true rfl, Nat.le_of_ble_eq_true rfl⟩) hS (fun q _ h => hFc q h) hFc (fun u t H1 locs ht hvm hw hB hz1 hk1 hS => ?_)
  obtain ⟨s105, rfl⟩ : ∃ z, z = u := ⟨_, rfl⟩
  obtain ⟨hP1, hK1, hD1⟩ := hB
  rw [ht] at hP1
  try dsimp only at hw
  obtain ⟨hP, hD⟩ := va_join (wr := [(Ad1, .inl (Ka0, 5, .inl Fa0))]) (w1 := [(Ad0, .inr (15, s105))]) hP hD [0] [1] rfl rfl (by decide) (by decide) hk1 hFc hP1 hD1
  have hK := hK.sub (tys' := [(Ka0, .int)]) [0] rfl
  generalize H1 = H at hP hS ⊢
  have hP : va_P (dC, dI) vwCl [(Ad1, .inl (Ka0, 5, .inl Fa0)), (Ad0, .inr (15, s105))] H := hP
  have hD : va_D A [(Ad1, .inl (Ka0, 5, .inl Fa0)), (Ad0, .inr (15, s105))] := hD
  have o_s105 := hw
  have o_s105 := ow_on o_s104 o_s105 (l' := [(142, .int 1), (84, .int 0), (83, .int 1), (141, .int 0), (146, .int 0), (141, .int 0), (48, .ref Ad1)]) (w' := [142, 84, 83, 146]) rfl rfl
  refine lv_aload_n hx hb dX12_takePicture_26 rfl (lv_at hl 0 rfl) ?_
  refine lv_bipush (v := 80) hx hb dX12_takePicture_27 (by decide) ?_
  have hPc := hP.sub (ws' := [(Ad0, .inr (15, s105))]) [1] rfl
  have hDc := hD.sub (ws' := [(Ad0, .inr (15, s105))]) [1] (by decide) rfl
  have hKc := hK.sub (tys' := []) [] rfl
  have hFc := va_free (wc := [(Ad0, .inr (15, s105))]) hD hS hA [1] rfl
  refine va_callv (va_runV (As := [.int 80]) (rest := []) ⟨hx, hb, hml, hown, hts⟩ (z_X12_takeByte_1 l dC dI H.size Ad0 s105 (fh_sub o_s105.2 [2] rfl) ) (cwV 1 hts g_z_X12_takePicture_z_X12_takeByte_1_1004 rfl rfl rfl (by decide +kernel) ⟨Nat.le_of_ble_eq_true rfl, Nat.le_of_ble_eq_true rfl⟩) ⟨fun a U g mk q => by obtain ⟨q0, q1, qP, qK, qD⟩ := q; exact ⟨q0, q1, qP, va_K.moved (u := U) (U := U.calling g mk a) (Vm.Alike.refl U.vm) qK, qD⟩, va_recv hK hP (ci := 15) (q0 := 1) rfl rfl, fun U hU hW => ⟨rfl, by rw [hU], by rw [hU]; exact hPc, va_K.moved hW.alike hKc, hDc.weaken (fun _ _ _ _ => trivial)⟩⟩ rfl rfl hl.1 rfl (lv_room (Nat.le_of_ble_eq_true rfl)) dX12_takePicture_29 ⟨Nat.le_of_ble_eq_true rfl, Nat.le_of_ble_eq_true rfl⟩) hS (fun q _ h => hFc q h) hFc (fun u t H1 locs ht hvm hw hB hz1 hk1 hS => ?_)
  obtain ⟨hP1, hK1, hD1⟩ := hB
  rw [ht] at hP1
  try dsimp only at hw
  obtain ⟨hP, hD⟩ := va_join (wr := [(Ad1, .inl (Ka0, 5, .inl Fa0))]) (w1 := [(Ad0, .inr (15, s105))]) hP hD [1] [0] rfl rfl (by decide) (by decide) hk1 hFc hP1 hD1
  have hK := hK.sub (tys' := [(Ka0, .int)]) [0] rfl
  generalize H1 = H at hP hS ⊢
  have hP : va_P (dC, dI) vwCl [(Ad1, .inl (Ka0, 5, .inl Fa0)), (Ad0, .inr (15, s105))] H := hP
  have hD : va_D A [(Ad1, .inl (Ka0, 5, .inl Fa0)), (Ad0, .inr (15, s105))] := hD
  refine lv_aload_n hx hb dX12_takePicture_32 rfl (lv_at hl 0 rfl) ?_
  refine va_get (D := (dC, dI)) (ci := 15) (v := .int 1) (C := RX12) (T := TX12) (N := 150) hx hb hts (in_z_X12_takePicture_X12) hown hK hP 1 rfl rfl 83 (by decide) (hts (.fieldLink RX12 625 "HeapWorksModel" "stop" "I") (by decide +kernel)) (fun _ h9 => h9) (ow_at o_s105 2 rfl) dX12_takePicture_33 ?_
  refine lv_if_ne (tgt := 46) hx hb dX12_takePicture_36 (by decide) (fun c106 => ?_) (fun c106 => absurd c106 (by decide))
  refine lv_lconst (v := 0) hx hb dX12_takePicture_46 (by decide) ?_
  refine lv_lstore_n (lv' := [(1, .long 0), (0, .ref Ad0)]) hx hb dX12_takePicture_47 rfl hl (by decide) rfl (fun ls hl => ?_)
  refine lv_aload_n hx hb dX12_takePicture_48 rfl (lv_at hl 1 rfl) ?_
  refine va_get (D := (dC, dI)) (ci := 15) (v := .int 1) (C := RX12) (T := TX12) (N := 150) hx hb hts (in_z_X12_takePicture_X12) hown hK hP 1 rfl rfl 83 (by decide) (hts (.fieldLink RX12 625 "HeapWorksModel" "stop" "I") (by decide +kernel)) (fun _ h9 => h9) (ow_at o_s105 2 rfl) dX12_takePicture_49 ?_
  refine lv_if_ne (tgt := 78) hx hb dX12_takePicture_52 (by decide) (fun c107 => ?_) (fun c107 => absurd c107 (by decide))
  refine lv_aload_n hx hb dX12_takePicture_78 rfl (lv_at hl 1 rfl) ?_
  refine va_get (D := (dC, dI)) (ci := 15) (v := .ref Ad1) (C := RX12) (T := TX12) (N := 150) hx hb hts (in_z_X12_takePicture_X12) hown hK hP 1 rfl rfl 48 (by decide) (hts (.fieldLink RX12 183 "HeapWorksModel" "things" "[I") (by decide +kernel)) (fun _ h9 => h9) (ow_at o_s105 6 rfl) dX12_takePicture_79 ?_
  refine lv_iconst (v := 4) hx hb dX12_takePicture_82 (by decide) ?_
  refine lv_aload_n hx hb dX12_takePicture_83 rfl (lv_at hl 1 rfl) ?_
  refine va_get (D := (dC, dI)) (ci := 15) (v := .int 1) (C := RX12) (T := TX12) (N := 150) hx hb hts (in_z_X12_takePicture_X12) hown hK hP 1 rfl rfl 83 (by decide) (hts (.fieldLink RX12 625 "HeapWorksModel" "stop" "I") (by decide +kernel)) (fun _ h9 => h9) (ow_at o_s105 2 rfl) dX12_takePicture_84 ?_
  refine lv_if_ne (tgt := 95) hx hb dX12_takePicture_87 (by decide) (fun c108 => ?_) (fun c108 => absurd c108 (by decide))
  refine lv_iconst (v := 0) hx hb dX12_takePicture_95 (by decide) ?_
  refine va_iast hx hb hK hP hD hS 0 0 rfl rfl (show vp_in 4 5 from by unfold vp_in; decide) dX12_takePicture_96 (fun H locs hP hD hS => ?_)
  have hP : va_P (dC, dI) vwCl [(Ad1, .inl (Ka0, 5, .inl (upd Fa0 (4 : Int32).toNatClampNeg 0))), (Ad0, .inr (15, s105))] H := hP
  have hD : va_D A [(Ad1, .inl (Ka0, 5, .inl (upd Fa0 (4 : Int32).toNatClampNeg 0))), (Ad0, .inr (15, s105))] := hD
  have q110 : (upd Fa0 (4 : Int32).toNatClampNeg 0) (4 : Int32).toNatClampNeg = 0 := pk_us
  have z111 : ∀ j, (upd Fa0 (4 : Int32).toNatClampNeg 0) j = 0 := az_up hz_Fa0 rfl
  generalize upd Fa0 (4 : Int32).toNatClampNeg 0 = f109 at hP hD q110 z111
  refine lv_iconst (v := 0) hx hb dX12_takePicture_97 (by decide) ?_
  refine lv_istore_n (lv' := [(3, .int 0), (1, .long 0), (0, .ref Ad0)]) hx hb dX12_takePicture_98 rfl hl (by decide) rfl (fun ls hl => ?_)
  refine lv_iload_n hx hb dX12_takePicture_99 rfl (lv_at hl 0 rfl) ?_
  refine lv_aload_n hx hb dX12_takePicture_100 rfl (lv_at hl 2 rfl) ?_
  refine va_get (D := (dC, dI)) (ci := 15) (v := .ref Ad1) (C := RX12) (T := TX12) (N := 150) hx hb hts (in_z_X12_takePicture_X12) hown hK hP 1 rfl rfl 48 (by decide) (hts (.fieldLink RX12 183 "HeapWorksModel" "things" "[I") (by decide +kernel)) (fun _ h9 => h9) (ow_at o_s105 6 rfl) dX12_takePicture_101 ?_
  refine lv_iconst (v := 4) hx hb dX12_takePicture_104 (by decide) ?_
  refine va_iald hx hb hK hP 0 0 rfl rfl (show vp_in 4 5 from by unfold vp_in; decide) dX12_takePicture_105 ?_
  refine lv_topi (fun x112 ex112 => ?_)
  obtain rfl : 0 = x112 := (ex112.trans q110).symm
  refine lv_icmp_ge (tgt := 127) hx hb dX12_takePicture_106 (by decide) (fun c113 => ?_) (fun c113 => absurd c113 (by decide))
  refine lv_aload_n hx hb dX12_takePicture_127 rfl (lv_at hl 2 rfl) ?_
  refine va_get (D := (dC, dI)) (ci := 15) (v := .int 1) (C := RX12) (T := TX12) (N := 150) hx hb hts (in_z_X12_takePicture_X12) hown hK hP 1 rfl rfl 83 (by decide) (hts (.fieldLink RX12 625 "HeapWorksModel" "stop" "I") (by decide +kernel)) (fun _ h9 => h9) (ow_at o_s105 2 rfl) dX12_takePicture_128 ?_
  refine lv_if_ne (tgt := 138) hx hb dX12_takePicture_131 (by decide) (fun c114 => ?_) (fun c114 => absurd c114 (by decide))
  refine lv_aload_n hx hb dX12_takePicture_138 rfl (lv_at hl 2 rfl) ?_
  refine va_get (D := (dC, dI)) (ci := 15) (v := .int 1) (C := RX12) (T := TX12) (N := 150) hx hb hts (in_z_X12_takePicture_X12) hown hK hP 1 rfl rfl 83 (by decide) (hts (.fieldLink RX12 625 "HeapWorksModel" "stop" "I") (by decide +kernel)) (fun _ h9 => h9) (ow_at o_s105 2 rfl) dX12_takePicture_139 ?_
  refine lv_if_ne (tgt := 149) hx hb dX12_takePicture_142 (by decide) (fun c115 => ?_) (fun c115 => absurd c115 (by decide))
  refine lv_aload_n hx hb dX12_takePicture_149 rfl (lv_at hl 2 rfl) ?_
  refine va_get (D := (dC, dI)) (ci := 15) (v := .int 1) (C := RX12) (T := TX12) (N := 150) hx hb hts (in_z_X12_takePicture_X12) hown hK hP 1 rfl rfl 142 (by decide) (hts (.fieldLink RX12 975 "HeapWorksModel" "rowAt" "I") (by decide +kernel)) (fun _ h9 => h9) (ow_at o_s105 0 rfl) dX12_takePicture_150 ?_
  refine lv_istore_n (lv' := [(3, .int 1), (1, .long 0), (0, .ref Ad0)]) hx hb dX12_takePicture_153 rfl hl (by decide) rfl (fun ls hl => ?_)
  refine lv_aload_n hx hb dX12_takePicture_154 rfl (lv_at hl 2 rfl) ?_
  refine va_get (D := (dC, dI)) (ci := 15) (v := .int 1) (C := RX12) (T := TX12) (N := 150) hx hb hts (in_z_X12_takePicture_X12) hown hK hP 1 rfl rfl 83 (by decide) (hts (.fieldLink RX12 625 "HeapWorksModel" "stop" "I") (by decide +kernel)) (fun _ h9 => h9) (ow_at o_s105 2 rfl) dX12_takePicture_155 ?_
  refine lv_if_ne (tgt := 183) hx hb dX12_takePicture_158 (by decide) (fun c116 => ?_) (fun c116 => absurd c116 (by decide))
  refine lv_aload_n hx hb dX12_takePicture_183 rfl (lv_at hl 2 rfl) ?_
  refine va_get (D := (dC, dI)) (ci := 15) (v := .int 1) (C := RX12) (T := TX12) (N := 150) hx hb hts (in_z_X12_takePicture_X12) hown hK hP 1 rfl rfl 83 (by decide) (hts (.fieldLink RX12 625 "HeapWorksModel" "stop" "I") (by decide +kernel)) (fun _ h9 => h9) (ow_at o_s105 2 rfl) dX12_takePicture_184 ?_
  refine lv_if_ne (tgt := 253) hx hb dX12_takePicture_187 (by decide) (fun c117 => ?_) (fun c117 => absurd c117 (by decide))
  refine lv_aload_n hx hb dX12_takePicture_253 rfl (lv_at hl 2 rfl) ?_
  refine va_get (D := (dC, dI)) (ci := 15) (v := .int 1) (C := RX12) (T := TX12) (N := 150) hx hb hts (in_z_X12_takePicture_X12) hown hK hP 1 rfl rfl 83 (by decide) (hts (.fieldLink RX12 625 "HeapWorksModel" "stop" "I") (by decide +kernel)) (fun _ h9 => h9) (ow_at o_s105 2 rfl) dX12_takePicture_254 ?_
  refine lv_if_ne (tgt := 281) hx hb dX12_takePicture_257 (by decide) (fun c118 => ?_) (fun c118 => absurd c118 (by decide))
  refine lv_aload_n hx hb dX12_takePicture_281 rfl (lv_at hl 2 rfl) ?_
  refine va_get (D := (dC, dI)) (ci := 15) (v := .int 1) (C := RX12) (T := TX12) (N := 150) hx hb hts (in_z_X12_takePicture_X12) hown hK hP 1 rfl rfl 83 (by decide) (hts (.fieldLink RX12 625 "HeapWorksModel" "stop" "I") (by decide +kernel)) (fun _ h9 => h9) (ow_at o_s105 2 rfl) dX12_takePicture_282 ?_
  refine lv_if_ne (tgt := 292) hx hb dX12_takePicture_285 (by decide) (fun c119 => ?_) (fun c119 => absurd c119 (by decide))
  refine lv_iconst (v := 0) hx hb dX12_takePicture_292 (by decide) ?_
  refine lv_istore (lv' := [(4, .int 0), (3, .int 1), (1, .long 0), (0, .ref Ad0)]) hx hb dX12_takePicture_293 hl (by decide) rfl (fun ls hl => ?_)
  refine lv_iload hx hb dX12_takePicture_295 (lv_at hl 0 rfl) ?_
  refine lv_aload_n hx hb dX12_takePicture_297 rfl (lv_at hl 3 rfl) ?_
  refine va_get (D := (dC, dI)) (ci := 15) (v := .ref Ad1) (C := RX12) (T := TX12) (N := 150) hx hb hts (in_z_X12_takePicture_X12) hown hK hP 1 rfl rfl 48 (by decide) (hts (.fieldLink RX12 183 "HeapWorksModel" "things" "[I") (by decide +kernel)) (fun _ h9 => h9) (ow_at o_s105 6 rfl) dX12_takePicture_298 ?_
  refine lv_iconst (v := 4) hx hb dX12_takePicture_301 (by decide) ?_
  refine va_iald hx hb hK hP 0 0 rfl rfl (show vp_in 4 5 from by unfold vp_in; decide) dX12_takePicture_302 ?_
  refine lv_topi (fun x120 ex120 => ?_)
  obtain rfl : 0 = x120 := (ex120.trans q110).symm
  refine lv_icmp_ge (tgt := 362) hx hb dX12_takePicture_303 (by decide) (fun c121 => ?_) (fun c121 => absurd c121 (by decide))
  have hP9 := hP.sub (ws' := [(Ad0, .inr (15, s105)), (Ad1, .inl (Ka0, 5, .inl f109))]) [1, 0] rfl
  have hD9 := hD.sub (ws' := [(Ad0, .inr (15, s105)), (Ad1, .inl (Ka0, 5, .inl f109))]) [1, 0] (by decide) rfl
  have hK9 := hK.sub (tys' := [(Ka0, .int)]) [0] rfl
  exact W.vret hx hb hr (fun t ht hW => ⟨⟨(s105, f109), rfl, ⟨o_s105, z111, q110⟩, by rw [ht]; exact hP9, va_K.moved hW.alike hK9, hD9⟩, hS.F ht⟩) hS.2.2 dX12_takePicture_362

def l_z_X12_load : List Cond := [.methodLink RX12 542 yX12_isPicture, .instanceMethod yX12_isPicture, .selects RX12 yX12_isPicture yX12_isPicture, .initialized RX12, .fieldLink RX12 388 "HeapWorksModel" "thrown" "I", .fieldLink RX12 391 "HeapWorksModel" "taped" "I", .fieldLink RX12 953 "HeapWorksModel" "rowEnd" "I", .methodLink RX12 1021 yX12_takePicture, .instanceMethod yX12_takePicture, .selects RX12 yX12_takePicture yX12_takePicture, .fieldLink RX12 625 "HeapWorksModel" "stop" "I", .fieldLink RX12 776 "HeapWorksModel" "fault" "I", .fieldLink RX12 628 "HeapWorksModel" "stopAt" "I", .fieldLink RX12 268 "HeapWorksModel" "faultAt" "I", .code yX12_isPicture cX12_isPicture 2 (some .boolean), .code yX12_takePicture cX12_takePicture 6 none, .fieldLink RX12 975 "HeapWorksModel" "rowAt" "I", .fieldLink RX12 991 "HeapWorksModel" "readSlots" "I", .methodLink RX12 1004 yX12_takeByte, .instanceMethod yX12_takeByte, .selects RX12 yX12_takeByte yX12_takeByte, .fieldLink RX12 183 "HeapWorksModel" "things" "[I", .code yX12_takeByte cX12_takeByte 2 none, .methodLink RX12 653 yX12_fail, .instanceMethod yX12_fail, .selects RX12 yX12_fail yX12_fail, .code yX12_fail cX12_fail 3 none]
def w_z_X12_load : List Cond := .code yX12_load cX12_load 3 (some .int) :: (l_z_X12_load ++ (wsX120))
theorem in_z_X12_load_X12 : ∀ w ∈ wsX120, w ∈ w_z_X12_load := fun w h => List.mem_cons_of_mem _ (List.mem_append_right _ (h))
theorem g_z_X12_load_z_X12_isPicture_542 : GoodIn w_z_X12_load (wsV RX12 542 RX12 yX12_isPicture w_z_X12_isPicture) := goodIn_app (goodIn_r (([.methodLink RX12 542 yX12_isPicture, .instanceMethod yX12_isPicture, .selects RX12 yX12_isPicture yX12_isPicture, .initialized RX12] : List Cond)) [1, 2, 3, 4] rfl (by decide +kernel)) (goodIn_r (.code yX12_isPicture cX12_isPicture 2 (some .boolean) :: l_z_X12_isPicture) [15] rfl (by decide +kernel))
theorem g_z_X12_load_z_X12_takePicture_1021 : GoodIn w_z_X12_load (wsV RX12 1021 RX12 yX12_takePicture w_z_X12_takePicture) := goodIn_app (goodIn_r (([.methodLink RX12 1021 yX12_takePicture, .instanceMethod yX12_takePicture, .selects RX12 yX12_takePicture yX12_takePicture, .initialized RX12] : List Cond)) [8, 9, 10, 4] rfl (by decide +kernel)) (goodIn_ca (goodIn_r (.code yX12_takePicture cX12_takePicture 6 none :: l_z_X12_takePicture) [16, 11, 13, 17, 18, 19, 20, 21, 4, 22, 23, 7, 24, 25, 26, 27] rfl (by decide +kernel)) (goodIn_in (in_z_X12_load_X12) gd_X12))
set_option maxHeartbeats 4000000 in
set_option maxRecDepth 100000 in
theorem z_X12_load (l : Launch) (dC : Nat → ClassId) (dI : Nat → Nat → Nat) (sz : Nat) (Ad0 : Nat) (Fs0 : List Value) (Ad1 : Nat) (Fa0 : Nat → Int32) (Ka0 : ClassId) (Va0 : Int32) (k_Fs0 : fh Fs0 150 [(0, .int 0), (3, .int 0), (48, .ref Ad1), (83, .int 0), (84, .int 0), (141, .int 0), (142, .int 0)]) (hz_Fa0 : ∀ j, Fa0 j = 0) : Met l yX12_load w_z_X12_load ({ frames := 3, cells := 0, slots := 0, locals := 68 }) (va_Pc [.ref Ad0, .int Va0] (fun U => U.heap.size = sz ∧ Wd dC dI [(Ka0, .int)] (fun _ => True) [(Ad0, .inr (15, Fs0)), (Ad1, .inl (Ka0, 5, .inl Fa0))] U)) (va_Qi (fun (r : Int32) (u : List Value × (Nat → Int32)) => (Va0 < 0 ∧ r = 0 ∧ ow Fs0 (u.1) 150 [0] [(0, .int 1), (3, .int 0), (48, .ref Ad1), (83, .int 0), (84, .int 0), (141, .int 0), (142, .int 0)] ∧ (∀ j, (u.2) j = 0)) ∨ (¬ Va0 < 0 ∧ 4 ≤ Va0 ∧ r = 0 ∧ ow Fs0 (u.1) 150 [0] [(0, .int 1), (3, .int 0), (48, .ref Ad1), (83, .int 0), (84, .int 0), (141, .int 0), (142, .int 0)] ∧ (∀ j, (u.2) j = 0)) ∨ (¬ Va0 < 0 ∧ ¬ 4 ≤ Va0 ∧ r = 0 ∧ ow Fs0 (u.1) 150 [0, 82, 81, 142, 84, 83, 146, 141] [(0, .int 2), (82, .int 0), (81, .int 1), (142, .int 1), (84, .int 0), (83, .int 1), (141, .int 0), (146, .int 0), (141, .int 0), (48, .ref Ad1), (141, .int 0), (3, .int 0), (48, .ref Ad1)] ∧ (∀ j, (u.2) j = 0) ∧ (u.2) (4 : Int32).toNatClampNeg = 0)) (fun (u : List Value × (Nat → Int32)) t => Wd dC dI [(Ka0, .int)] (va_A [(Ad0, .inr (15, Fs0)), (Ad1, .inl (Ka0, 5, .inl Fa0))] sz) [(Ad0, .inr (15, (u.1))), (Ad1, .inl (Ka0, 5, .inl ((u.2))))] t) (va_A [(Ad0, .inr (15, Fs0)), (Ad1, .inl (Ka0, 5, .inl Fa0))] sz))  0 0 (va_A [(Ad0, .inr (15, Fs0)), (Ad1, .inl (Ka0, 5, .inl Fa0))] sz) := by
  refine Met.ofW (cc := cX12_load) (maxL := 3) (ret := (some .int)) (by decide) rfl ?_
  intro p e s m args below meth c s₁ B hml hv
  obtain ⟨rfl, hsz, hP, hK, hD0⟩ := hv
  have hx := B.exec
  have hb := B.bytes
  have hr := B.returns
  have hts := atoms_spec (ws := w_z_X12_load) B.pre
  have hown : s.vm.findClass RX12 = some m.cls := findClass_of_methodNamed B.named
  have hlocks := B.notSynchronized
  subst hsz
  have hD := hD0.self (sz := s.heap.size)
  generalize hAe : va_A [(Ad0, .inr (15, Fs0)), (Ad1, .inl (Ka0, 5, .inl Fa0))] s.heap.size = A at hD ⊢
  have hA : ∀ q : Nat, s.heap.size ≤ q → A q := fun q h => by rw [← hAe]; exact Or.inr h
  have hS : va_S A s.heap s.heap [] := va_S.rf
  have hl := lv_entry ([.ref Ad0, .int Va0]) (n := 3) (Nat.le_of_ble_eq_true rfl)
  rw [lg_entry_eq]
  generalize (lg_sl ([.ref Ad0, .int Va0]) ++ List.replicate (3 - (lg_sl ([.ref Ad0, .int Va0])).length) Slot.unset).toArray = ls at hl ⊢
  have hl : lv_has ls 3 [(0, .ref Ad0), (1, .int Va0)] := hl
  have o_Fs0 := ow_0 k_Fs0
  refine lv_aload_n hx hb dX12_load_0 rfl (lv_at hl 0 rfl) ?_
  refine lv_aload_n hx hb dX12_load_1 rfl (lv_at hl 0 rfl) ?_
  refine lv_iload_n hx hb dX12_load_2 rfl (lv_at hl 1 rfl) ?_
  have hPc := hP.sub (ws' := []) [] rfl
  have hDc := hD.sub (ws' := []) [] (by decide) rfl
  have hKc := hK.sub (tys' := []) [] rfl
  have hFc := va_free (wc := []) hD hS hA [] rfl
  refine va_calli (va_runV (As := [.int Va0]) (rest := [.ref Ad0]) ⟨hx, hb, hml, hown, hts⟩ (z_X12_isPicture l dC dI s.heap.size Ad0 Va0  ) (cwV 1 hts g_z_X12_load_z_X12_isPicture_542 rfl rfl rfl (by decide +kernel) ⟨Nat.le_of_ble_eq_true rfl, Nat.le_of_ble_eq_true rfl⟩) ⟨fun a U g mk q => by obtain ⟨q0, q1, qP, qK, qD⟩ := q; exact ⟨q0, q1, qP, va_K.moved (u := U) (U := U.calling g mk a) (Vm.Alike.refl U.vm) qK, qD⟩, va_recv hK hP (ci := 15) (q0 := 0) rfl rfl, fun U hU hW => ⟨rfl, by rw [hU], by rw [hU]; exact hPc, va_K.moved hW.alike hKc, hDc.weaken (fun _ _ _ _ => trivial)⟩⟩ rfl rfl hl.1 rfl (lv_room (Nat.le_of_ble_eq_true rfl)) dX12_load_3 ⟨Nat.le_of_ble_eq_true rfl, Nat.le_of_ble_eq_true rfl⟩) hS (fun q _ h => hFc q h) hFc (fun r101 u t H1 locs ht hvm hw hB hz1 hk1 hS => ?_)
  obtain ⟨hP1, hK1, hD1⟩ := hB
  rw [ht] at hP1
  try dsimp only at hw
  obtain ⟨hP, hD⟩ := va_join (wr := [(Ad0, .inr (15, Fs0)), (Ad1, .inl (Ka0, 5, .inl Fa0))]) (w1 := []) hP hD [] [0, 1] rfl rfl (by decide) (by decide) hk1 hFc hP1 hD1
  have hK := hK.sub (tys' := [(Ka0, .int)]) [0] rfl
  generalize H1 = H at hP hS ⊢
  have hP : va_P (dC, dI) vwCl [(Ad0, .inr (15, Fs0)), (Ad1, .inl (Ka0, 5, .inl Fa0))] H := hP
  have hD : va_D A [(Ad0, .inr (15, Fs0)), (Ad1, .inl (Ka0, 5, .inl Fa0))] := hD
  rcases hw with ⟨c102, er103⟩ | ⟨c104, c105, er106⟩ | ⟨c107, c108, er109⟩
  · skip
    subst er103
    refine lv_if_eq (tgt := 13) hx hb dX12_load_6 (by decide) (fun c110 => ?_) (fun c110 => absurd c110 (by decide))
    refine lv_iconst (v := 1) hx hb dX12_load_13 (by decide) ?_
    refine va_put (D := (dC, dI)) (ci := 15) (v := .int 1) (ty := .int) (C := RX12) (T := TX12) (N := 150) hx hb hts (in_z_X12_load_X12) tyX12 tyX12_ok nmX12 hown hK hP hD hS 0 rfl rfl 0 (by decide) (hts (.fieldLink RX12 388 "HeapWorksModel" "thrown" "I") (by decide +kernel)) (fun _ h9 => h9) rfl (by decide +kernel) rfl rfl (by rw [o_Fs0.2.1]; decide) dX12_load_14 (fun H locs hP hD hS => ?_)
    have hP : va_P (dC, dI) vwCl [(Ad0, .inr (15, (Fs0.set 0 (.int 1)))), (Ad1, .inl (Ka0, 5, .inl Fa0))] H := hP
    have hD : va_D A [(Ad0, .inr (15, (Fs0.set 0 (.int 1)))), (Ad1, .inl (Ka0, 5, .inl Fa0))] := hD
    have o_s111 := ow_set o_Fs0 0 (.int 1) (by decide) (l' := [(0, .int 1), (3, .int 0), (48, .ref Ad1), (83, .int 0), (84, .int 0), (141, .int 0), (142, .int 0)]) (w' := [0]) rfl rfl
    generalize (Fs0.set 0 (.int 1)) = s111 at hP hD o_s111
    refine lv_aload_n hx hb dX12_load_17 rfl (lv_at hl 0 rfl) ?_
    refine va_get (D := (dC, dI)) (ci := 15) (v := .int 1) (C := RX12) (T := TX12) (N := 150) hx hb hts (in_z_X12_load_X12) hown hK hP 0 rfl rfl 0 (by decide) (hts (.fieldLink RX12 388 "HeapWorksModel" "thrown" "I") (by decide +kernel)) (fun _ h9 => h9) (ow_at o_s111 0 rfl) dX12_load_18 ?_
    refine lv_if_le (tgt := 26) hx hb dX12_load_21 (by decide) (fun c112 => absurd c112 (by decide)) (fun c112 => ?_)
    refine lv_iconst (v := 0) hx hb dX12_load_24 (by decide) ?_
    have hP9 := hP.sub (ws' := [(Ad0, .inr (15, s111)), (Ad1, .inl (Ka0, 5, .inl Fa0))]) [0, 1] rfl
    have hD9 := hD.sub (ws' := [(Ad0, .inr (15, s111)), (Ad1, .inl (Ka0, 5, .inl Fa0))]) [0, 1] (by decide) rfl
    have hK9 := hK.sub (tys' := [(Ka0, .int)]) [0] rfl
    exact W.iret (v := 0) hx hb hr (fun t ht hW => ⟨⟨0, (s111, Fa0), rfl, (Or.inl ⟨c102, rfl, o_s111, hz_Fa0⟩), by rw [ht]; exact hP9, va_K.moved hW.alike hK9, hD9⟩, hS.F ht⟩) hS.2.2 dX12_load_25
  · skip
    subst er106
    refine lv_if_eq (tgt := 13) hx hb dX12_load_6 (by decide) (fun c113 => ?_) (fun c113 => absurd c113 (by decide))
    refine lv_iconst (v := 1) hx hb dX12_load_13 (by decide) ?_
    refine va_put (D := (dC, dI)) (ci := 15) (v := .int 1) (ty := .int) (C := RX12) (T := TX12) (N := 150) hx hb hts (in_z_X12_load_X12) tyX12 tyX12_ok nmX12 hown hK hP hD hS 0 rfl rfl 0 (by decide) (hts (.fieldLink RX12 388 "HeapWorksModel" "thrown" "I") (by decide +kernel)) (fun _ h9 => h9) rfl (by decide +kernel) rfl rfl (by rw [o_Fs0.2.1]; decide) dX12_load_14 (fun H locs hP hD hS => ?_)
    have hP : va_P (dC, dI) vwCl [(Ad0, .inr (15, (Fs0.set 0 (.int 1)))), (Ad1, .inl (Ka0, 5, .inl Fa0))] H := hP
    have hD : va_D A [(Ad0, .inr (15, (Fs0.set 0 (.int 1)))), (Ad1, .inl (Ka0, 5, .inl Fa0))] := hD
    have o_s114 := ow_set o_Fs0 0 (.int 1) (by decide) (l' := [(0, .int 1), (3, .int 0), (48, .ref Ad1), (83, .int 0), (84, .int 0), (141, .int 0), (142, .int 0)]) (w' := [0]) rfl rfl
    generalize (Fs0.set 0 (.int 1)) = s114 at hP hD o_s114
    refine lv_aload_n hx hb dX12_load_17 rfl (lv_at hl 0 rfl) ?_
    refine va_get (D := (dC, dI)) (ci := 15) (v := .int 1) (C := RX12) (T := TX12) (N := 150) hx hb hts (in_z_X12_load_X12) hown hK hP 0 rfl rfl 0 (by decide) (hts (.fieldLink RX12 388 "HeapWorksModel" "thrown" "I") (by decide +kernel)) (fun _ h9 => h9) (ow_at o_s114 0 rfl) dX12_load_18 ?_
    refine lv_if_le (tgt := 26) hx hb dX12_load_21 (by decide) (fun c115 => absurd c115 (by decide)) (fun c115 => ?_)
    refine lv_iconst (v := 0) hx hb dX12_load_24 (by decide) ?_
    have hP9 := hP.sub (ws' := [(Ad0, .inr (15, s114)), (Ad1, .inl (Ka0, 5, .inl Fa0))]) [0, 1] rfl
    have hD9 := hD.sub (ws' := [(Ad0, .inr (15, s114)), (Ad1, .inl (Ka0, 5, .inl Fa0))]) [0, 1] (by decide) rfl
    have hK9 := hK.sub (tys' := [(Ka0, .int)]) [0] rfl
    exact W.iret (v := 0) hx hb hr (fun t ht hW => ⟨⟨0, (s114, Fa0), rfl, (Or.inr (Or.inl ⟨c104, c105, rfl, o_s114, hz_Fa0⟩)), by rw [ht]; exact hP9, va_K.moved hW.alike hK9, hD9⟩, hS.F ht⟩) hS.2.2 dX12_load_25
  · skip
    subst er109
    refine lv_if_eq (tgt := 13) hx hb dX12_load_6 (by decide) (fun c116 => absurd c116 (by decide)) (fun c116 => ?_)
    refine lv_iconst (v := 0) hx hb dX12_load_9 (by decide) ?_
    refine lv_goto (tgt := 14) hx hb dX12_load_10 (by decide) ?_
    refine va_put (D := (dC, dI)) (ci := 15) (v := .int 0) (ty := .int) (C := RX12) (T := TX12) (N := 150) hx hb hts (in_z_X12_load_X12) tyX12 tyX12_ok nmX12 hown hK hP hD hS 0 rfl rfl 0 (by decide) (hts (.fieldLink RX12 388 "HeapWorksModel" "thrown" "I") (by decide +kernel)) (fun _ h9 => h9) rfl (by decide +kernel) rfl rfl (by rw [o_Fs0.2.1]; decide) dX12_load_14 (fun H locs hP hD hS => ?_)
    have hP : va_P (dC, dI) vwCl [(Ad0, .inr (15, (Fs0.set 0 (.int 0)))), (Ad1, .inl (Ka0, 5, .inl Fa0))] H := hP
    have hD : va_D A [(Ad0, .inr (15, (Fs0.set 0 (.int 0)))), (Ad1, .inl (Ka0, 5, .inl Fa0))] := hD
    have o_s117 := ow_set o_Fs0 0 (.int 0) (by decide) (l' := [(0, .int 0), (3, .int 0), (48, .ref Ad1), (83, .int 0), (84, .int 0), (141, .int 0), (142, .int 0)]) (w' := [0]) rfl rfl
    generalize (Fs0.set 0 (.int 0)) = s117 at hP hD o_s117
    refine lv_aload_n hx hb dX12_load_17 rfl (lv_at hl 0 rfl) ?_
    refine va_get (D := (dC, dI)) (ci := 15) (v := .int 0) (C := RX12) (T := TX12) (N := 150) hx hb hts (in_z_X12_load_X12) hown hK hP 0 rfl rfl 0 (by decide) (hts (.fieldLink RX12 388 "HeapWorksModel" "thrown" "I") (by decide +kernel)) (fun _ h9 => h9) (ow_at o_s117 0 rfl) dX12_load_18 ?_
    refine lv_if_le (tgt := 26) hx hb dX12_load_21 (by decide) (fun c118 => ?_) (fun c118 => absurd c118 (by decide))
    refine lv_aload_n hx hb dX12_load_26 rfl (lv_at hl 0 rfl) ?_
    refine lv_aload_n hx hb dX12_load_27 rfl (lv_at hl 0 rfl) ?_
    refine va_get (D := (dC, dI)) (ci := 15) (v := .int 0) (C := RX12) (T := TX12) (N := 150) hx hb hts (in_z_X12_load_X12) hown hK hP 0 rfl rfl 3 (by decide) (hts (.fieldLink RX12 391 "HeapWorksModel" "taped" "I") (by decide +kernel)) (fun _ h9 => h9) (ow_at o_s117 1 rfl) dX12_load_28 ?_
    refine va_put (D := (dC, dI)) (ci := 15) (v := .int 0) (ty := .int) (C := RX12) (T := TX12) (N := 150) hx hb hts (in_z_X12_load_X12) tyX12 tyX12_ok nmX12 hown hK hP hD hS 0 rfl rfl 141 (by decide) (hts (.fieldLink RX12 953 "HeapWorksModel" "rowEnd" "I") (by decide +kernel)) (fun _ h9 => h9) rfl (by decide +kernel) rfl rfl (by rw [o_s117.2.1]; decide) dX12_load_31 (fun H locs hP hD hS => ?_)
    have hP : va_P (dC, dI) vwCl [(Ad0, .inr (15, (s117.set 141 (.int 0)))), (Ad1, .inl (Ka0, 5, .inl Fa0))] H := hP
    have hD : va_D A [(Ad0, .inr (15, (s117.set 141 (.int 0)))), (Ad1, .inl (Ka0, 5, .inl Fa0))] := hD
    have o_s119 := ow_set o_s117 141 (.int 0) (by decide) (l' := [(141, .int 0), (0, .int 0), (3, .int 0), (48, .ref Ad1), (83, .int 0), (84, .int 0), (142, .int 0)]) (w' := [141, 0]) rfl rfl
    generalize (s117.set 141 (.int 0)) = s119 at hP hD o_s119
    refine lv_iconst (v := 0) hx hb dX12_load_34 (by decide) ?_
    refine lv_istore_n (lv' := [(2, .int 0), (0, .ref Ad0), (1, .int Va0)]) hx hb dX12_load_35 rfl hl (by decide) rfl (fun ls hl => ?_)
    refine lv_iload_n hx hb dX12_load_36 rfl (lv_at hl 0 rfl) ?_
    refine lv_aload_n hx hb dX12_load_37 rfl (lv_at hl 1 rfl) ?_
    refine va_get (D := (dC, dI)) (ci := 15) (v := .int 0) (C := RX12) (T := TX12) (N := 150) hx hb hts (in_z_X12_load_X12) hown hK hP 0 rfl rfl 3 (by decide) (hts (.fieldLink RX12 391 "HeapWorksModel" "taped" "I") (by decide +kernel)) (fun _ h9 => h9) (ow_at o_s119 2 rfl) dX12_load_38 ?_
    refine lv_icmp_ge (tgt := 62) hx hb dX12_load_41 (by decide) (fun c120 => ?_) (fun c120 => absurd c120 (by decide))
    refine lv_aload_n hx hb dX12_load_62 rfl (lv_at hl 1 rfl) ?_
    have hPc := hP.sub (ws' := [(Ad0, .inr (15, s119)), (Ad1, .inl (Ka0, 5, .inl Fa0))]) [0, 1] rfl
    have hDc := hD.sub (ws' := [(Ad0, .inr (15, s119)), (Ad1, .inl (Ka0, 5, .inl Fa0))]) [0, 1] (by decide) rfl
    have hKc := hK.sub (tys' := [(Ka0, .int)]) [0] rfl
    have hFc := va_free (wc := [(Ad0, .inr (15, s119)), (Ad1, .inl (Ka0, 5, .inl Fa0))]) hD hS hA [0, 1] rfl
    refine va_callv (va_runV (As := []) (rest := []) ⟨hx, hb, hml, hown, hts⟩ (z_X12_takePicture l dC dI H.size Ad0 s119 Ad1 Fa0 Ka0 (fh_sub o_s119.2 [0, 3, 4, 6] rfl) hz_Fa0) (cwV 0 hts g_z_X12_load_z_X12_takePicture_1021 rfl rfl rfl (by decide +kernel) ⟨Nat.le_of_ble_eq_true rfl, Nat.le_of_ble_eq_true rfl⟩) ⟨fun a U g mk q => by obtain ⟨q0, q1, qP, qK, qD⟩ := q; exact ⟨q0, q1, qP, va_K.moved (u := U) (U := U.calling g mk a) (Vm.Alike.refl U.vm) qK, qD⟩, va_recv hK hP (ci := 15) (q0 := 0) rfl rfl, fun U hU hW => ⟨rfl, by rw [hU], by rw [hU]; exact hPc, va_K.moved hW.alike hKc, hDc.weaken (fun _ _ _ _ => trivial)⟩⟩ rfl rfl hl.1 rfl (lv_room (Nat.le_of_ble_eq_true rfl)) dX12_load_63 ⟨Nat.le_of_ble_eq_true rfl, Nat.le_of_ble_eq_true rfl⟩) hS (fun q _ h => hFc q h) hFc (fun u t H1 locs ht hvm hw hB hz1 hk1 hS => ?_)
    obtain ⟨s121, f122⟩ := u
    obtain ⟨hP1, hK1, hD1⟩ := hB
    rw [ht] at hP1
    try dsimp only at hw
    obtain ⟨hP, hD⟩ := va_join (wr := []) (w1 := [(Ad0, .inr (15, s121)), (Ad1, .inl (Ka0, 5, .inl f122))]) hP hD [0, 1] [] rfl rfl (by decide) (by decide) hk1 hFc hP1 hD1
    have hK := hK.sub (tys' := [(Ka0, .int)]) [0] rfl
    generalize H1 = H at hP hS ⊢
    have hP : va_P (dC, dI) vwCl [(Ad0, .inr (15, s121)), (Ad1, .inl (Ka0, 5, .inl f122))] H := hP
    have hD : va_D A [(Ad0, .inr (15, s121)), (Ad1, .inl (Ka0, 5, .inl f122))] := hD
    obtain ⟨o_s121, q123, q124⟩ := hw
    have o_s121 := ow_on o_s119 o_s121 (l' := [(142, .int 1), (84, .int 0), (83, .int 1), (141, .int 0), (146, .int 0), (141, .int 0), (48, .ref Ad1), (141, .int 0), (0, .int 0), (3, .int 0), (48, .ref Ad1)]) (w' := [142, 84, 83, 146, 141, 0]) rfl rfl
    refine lv_aload_n hx hb dX12_load_66 rfl (lv_at hl 1 rfl) ?_
    refine lv_aload_n hx hb dX12_load_67 rfl (lv_at hl 1 rfl) ?_
    refine va_get (D := (dC, dI)) (ci := 15) (v := .int 1) (C := RX12) (T := TX12) (N := 150) hx hb hts (in_z_X12_load_X12) hown hK hP 0 rfl rfl 83 (by decide) (hts (.fieldLink RX12 625 "HeapWorksModel" "stop" "I") (by decide +kernel)) (fun _ h9 => h9) (ow_at o_s121 2 rfl) dX12_load_68 ?_
    refine va_put (D := (dC, dI)) (ci := 15) (v := .int 1) (ty := .int) (C := RX12) (T := TX12) (N := 150) hx hb hts (in_z_X12_load_X12) tyX12 tyX12_ok nmX12 hown hK hP hD hS 0 rfl rfl 81 (by decide) (hts (.fieldLink RX12 776 "HeapWorksModel" "fault" "I") (by decide +kernel)) (fun _ h9 => h9) rfl (by decide +kernel) rfl rfl (by rw [o_s121.2.1]; decide) dX12_load_71 (fun H locs hP hD hS => ?_)
    have hP : va_P (dC, dI) vwCl [(Ad0, .inr (15, (s121.set 81 (.int 1)))), (Ad1, .inl (Ka0, 5, .inl f122))] H := hP
    have hD : va_D A [(Ad0, .inr (15, (s121.set 81 (.int 1)))), (Ad1, .inl (Ka0, 5, .inl f122))] := hD
    have o_s125 := ow_set o_s121 81 (.int 1) (by decide) (l' := [(81, .int 1), (142, .int 1), (84, .int 0), (83, .int 1), (141, .int 0), (146, .int 0), (141, .int 0), (48, .ref Ad1), (141, .int 0), (0, .int 0), (3, .int 0), (48, .ref Ad1)]) (w' := [81, 142, 84, 83, 146, 141, 0]) rfl rfl
    generalize (s121.set 81 (.int 1)) = s125 at hP hD o_s125
    refine lv_aload_n hx hb dX12_load_74 rfl (lv_at hl 1 rfl) ?_
    refine lv_aload_n hx hb dX12_load_75 rfl (lv_at hl 1 rfl) ?_
    refine va_get (D := (dC, dI)) (ci := 15) (v := .int 1) (C := RX12) (T := TX12) (N := 150) hx hb hts (in_z_X12_load_X12) hown hK hP 0 rfl rfl 83 (by decide) (hts (.fieldLink RX12 625 "HeapWorksModel" "stop" "I") (by decide +kernel)) (fun _ h9 => h9) (ow_at o_s125 3 rfl) dX12_load_76 ?_
    refine lv_if_le (tgt := 89) hx hb dX12_load_79 (by decide) (fun c126 => absurd c126 (by decide)) (fun c126 => ?_)
    refine lv_aload_n hx hb dX12_load_82 rfl (lv_at hl 1 rfl) ?_
    refine va_get (D := (dC, dI)) (ci := 15) (v := .int 0) (C := RX12) (T := TX12) (N := 150) hx hb hts (in_z_X12_load_X12) hown hK hP 0 rfl rfl 84 (by decide) (hts (.fieldLink RX12 628 "HeapWorksModel" "stopAt" "I") (by decide +kernel)) (fun _ h9 => h9) (ow_at o_s125 2 rfl) dX12_load_83 ?_
    refine lv_goto (tgt := 90) hx hb dX12_load_86 (by decide) ?_
    refine va_put (D := (dC, dI)) (ci := 15) (v := .int 0) (ty := .int) (C := RX12) (T := TX12) (N := 150) hx hb hts (in_z_X12_load_X12) tyX12 tyX12_ok nmX12 hown hK hP hD hS 0 rfl rfl 82 (by decide) (hts (.fieldLink RX12 268 "HeapWorksModel" "faultAt" "I") (by decide +kernel)) (fun _ h9 => h9) rfl (by decide +kernel) rfl rfl (by rw [o_s125.2.1]; decide) dX12_load_90 (fun H locs hP hD hS => ?_)
    have hP : va_P (dC, dI) vwCl [(Ad0, .inr (15, (s125.set 82 (.int 0)))), (Ad1, .inl (Ka0, 5, .inl f122))] H := hP
    have hD : va_D A [(Ad0, .inr (15, (s125.set 82 (.int 0)))), (Ad1, .inl (Ka0, 5, .inl f122))] := hD
    have o_s127 := ow_set o_s125 82 (.int 0) (by decide) (l' := [(82, .int 0), (81, .int 1), (142, .int 1), (84, .int 0), (83, .int 1), (141, .int 0), (146, .int 0), (141, .int 0), (48, .ref Ad1), (141, .int 0), (0, .int 0), (3, .int 0), (48, .ref Ad1)]) (w' := [82, 81, 142, 84, 83, 146, 141, 0]) rfl rfl
    generalize (s125.set 82 (.int 0)) = s127 at hP hD o_s127
    refine lv_aload_n hx hb dX12_load_93 rfl (lv_at hl 1 rfl) ?_
    refine lv_aload_n hx hb dX12_load_94 rfl (lv_at hl 1 rfl) ?_
    refine va_get (D := (dC, dI)) (ci := 15) (v := .int 1) (C := RX12) (T := TX12) (N := 150) hx hb hts (in_z_X12_load_X12) hown hK hP 0 rfl rfl 83 (by decide) (hts (.fieldLink RX12 625 "HeapWorksModel" "stop" "I") (by decide +kernel)) (fun _ h9 => h9) (ow_at o_s127 4 rfl) dX12_load_95 ?_
    refine lv_if_le (tgt := 105) hx hb dX12_load_98 (by decide) (fun c128 => absurd c128 (by decide)) (fun c128 => ?_)
    refine lv_iconst (v := 2) hx hb dX12_load_101 (by decide) ?_
    refine lv_goto (tgt := 106) hx hb dX12_load_102 (by decide) ?_
    refine va_put (D := (dC, dI)) (ci := 15) (v := .int 2) (ty := .int) (C := RX12) (T := TX12) (N := 150) hx hb hts (in_z_X12_load_X12) tyX12 tyX12_ok nmX12 hown hK hP hD hS 0 rfl rfl 0 (by decide) (hts (.fieldLink RX12 388 "HeapWorksModel" "thrown" "I") (by decide +kernel)) (fun _ h9 => h9) rfl (by decide +kernel) rfl rfl (by rw [o_s127.2.1]; decide) dX12_load_106 (fun H locs hP hD hS => ?_)
    have hP : va_P (dC, dI) vwCl [(Ad0, .inr (15, (s127.set 0 (.int 2)))), (Ad1, .inl (Ka0, 5, .inl f122))] H := hP
    have hD : va_D A [(Ad0, .inr (15, (s127.set 0 (.int 2)))), (Ad1, .inl (Ka0, 5, .inl f122))] := hD
    have o_s129 := ow_set o_s127 0 (.int 2) (by decide) (l' := [(0, .int 2), (82, .int 0), (81, .int 1), (142, .int 1), (84, .int 0), (83, .int 1), (141, .int 0), (146, .int 0), (141, .int 0), (48, .ref Ad1), (141, .int 0), (3, .int 0), (48, .ref Ad1)]) (w' := [0, 82, 81, 142, 84, 83, 146, 141]) rfl rfl
    generalize (s127.set 0 (.int 2)) = s129 at hP hD o_s129
    refine lv_aload_n hx hb dX12_load_109 rfl (lv_at hl 1 rfl) ?_
    refine va_get (D := (dC, dI)) (ci := 15) (v := .int 2) (C := RX12) (T := TX12) (N := 150) hx hb hts (in_z_X12_load_X12) hown hK hP 0 rfl rfl 0 (by decide) (hts (.fieldLink RX12 388 "HeapWorksModel" "thrown" "I") (by decide +kernel)) (fun _ h9 => h9) (ow_at o_s129 0 rfl) dX12_load_110 ?_
    refine lv_if_le (tgt := 118) hx hb dX12_load_113 (by decide) (fun c130 => absurd c130 (by decide)) (fun c130 => ?_)
    refine lv_iconst (v := 0) hx hb dX12_load_116 (by decide) ?_
    have hP9 := hP.sub (ws' := [(Ad0, .inr (15, s129)), (Ad1, .inl (Ka0, 5, .inl f122))]) [0, 1] rfl
    have hD9 := hD.sub (ws' := [(Ad0, .inr (15, s129)), (Ad1, .inl (Ka0, 5, .inl f122))]) [0, 1] (by decide) rfl
    have hK9 := hK.sub (tys' := [(Ka0, .int)]) [0] rfl
    exact W.iret (v := 0) hx hb hr (fun t ht hW => ⟨⟨0, (s129, f122), rfl, (Or.inr (Or.inr (⟨c107, c108, rfl, o_s129, q123, q124⟩))), by rw [ht]; exact hP9, va_K.moved hW.alike hK9, hD9⟩, hS.F ht⟩) hS.2.2 dX12_load_117

def l_z_X12_keep : List Cond := [.methodLink RX12 542 yX12_isPicture, .instanceMethod yX12_isPicture, .selects RX12 yX12_isPicture yX12_isPicture, .initialized RX12, .fieldLink RX12 388 "HeapWorksModel" "thrown" "I", .methodLink RX12 972 yX12_putPicture, .instanceMethod yX12_putPicture, .selects RX12 yX12_putPicture yX12_putPicture, .fieldLink RX12 1027 "HeapWorksModel" "logged" "I", .fieldLink RX12 953 "HeapWorksModel" "rowEnd" "I", .fieldLink RX12 381 "HeapWorksModel" "recordAt" "[I", .fieldLink RX12 1030 "HeapWorksModel" "records" "I", .fieldLink RX12 372 "HeapWorksModel" "log" "[B", .fieldLink RX12 369 "HeapWorksModel" "row0" "[B", .code yX12_isPicture cX12_isPicture 2 (some .boolean), .code yX12_putPicture cX12_putPicture 6 (some .boolean), .constantLong RX12 957 (72), .methodLink RX12 959 yX12_putNumber, .instanceMethod yX12_putNumber, .selects RX12 yX12_putNumber yX12_putNumber, .constantLong RX12 962 (80), .fieldLink RX12 183 "HeapWorksModel" "things" "[I", .fieldLink RX12 234 "HeapWorksModel" "rootMany" "[I", .methodLink RX12 968 yX12_check, .static yX12_check, .code yX12_putNumber cX12_putNumber 6 none, .constantLong RX12 951 (127), .code yX12_check cX12_check 5 (some .int), .constant RX12 956 (16777619)]
def w_z_X12_keep : List Cond := .code yX12_keep cX12_keep 3 (some .int) :: (l_z_X12_keep ++ (wsX120))
theorem in_z_X12_keep_X12 : ∀ w ∈ wsX120, w ∈ w_z_X12_keep := fun w h => List.mem_cons_of_mem _ (List.mem_append_right _ (h))
theorem g_z_X12_keep_z_X12_isPicture_542 : GoodIn w_z_X12_keep (wsV RX12 542 RX12 yX12_isPicture w_z_X12_isPicture) := goodIn_app (goodIn_r (([.methodLink RX12 542 yX12_isPicture, .instanceMethod yX12_isPicture, .selects RX12 yX12_isPicture yX12_isPicture, .initialized RX12] : List Cond)) [1, 2, 3, 4] rfl (by decide +kernel)) (goodIn_r (.code yX12_isPicture cX12_isPicture 2 (some .boolean) :: l_z_X12_isPicture) [15] rfl (by decide +kernel))
theorem g_z_X12_keep_z_X12_putPicture_972 : GoodIn w_z_X12_keep (wsV RX12 972 RX12 yX12_putPicture w_z_X12_putPicture) := goodIn_app (goodIn_r (([.methodLink RX12 972 yX12_putPicture, .instanceMethod yX12_putPicture, .selects RX12 yX12_putPicture yX12_putPicture, .initialized RX12] : List Cond)) [6, 7, 8, 4] rfl (by decide +kernel)) (goodIn_ca (goodIn_r (.code yX12_putPicture cX12_putPicture 6 (some .boolean) :: l_z_X12_putPicture) [16, 10, 17, 18, 19, 20, 4, 21, 22, 23, 14, 24, 25, 26, 27, 28, 29] rfl (by decide +kernel)) (goodIn_in (in_z_X12_keep_X12) gd_X12))
set_option maxHeartbeats 4000000 in
set_option maxRecDepth 100000 in
theorem z_X12_keep (l : Launch) (dC : Nat → ClassId) (dI : Nat → Nat → Nat) (sz : Nat) (Ad0 : Nat) (Fs0 : List Value) (Ad1 : Nat) (Fa0 : Nat → Int32) (Ka0 : ClassId) (Ad2 : Nat) (Fa1 : Nat → Int32) (Ka1 : ClassId) (Ad3 : Nat) (Fa2 : Nat → Int32) (Ka2 : ClassId) (Ad4 : Nat) (Fa3 : Nat → Int32) (Ka3 : ClassId) (Ad5 : Nat) (Fa4 : Nat → Int32) (Ka4 : ClassId) (Va0 : Int32) (k_Fs0 : fh Fs0 150 [(0, .int 0), (48, .ref Ad1), (65, .ref Ad2), (139, .ref Ad3), (140, .ref Ad4), (141, .int 0), (147, .ref Ad5), (148, .int 0), (149, .int 0)]) (hz_Fa0 : ∀ j, Fa0 j = 0) (hz_Fa1 : ∀ j, Fa1 j = 0) (hz_Fa4 : ∀ j, Fa4 j = 0) : Met l yX12_keep w_z_X12_keep ({ frames := 2, cells := 0, slots := 0, locals := 50 }) (va_Pc [.ref Ad0, .int Va0] (fun U => U.heap.size = sz ∧ Wd dC dI [(Ka0, .int), (Ka1, .int), (Ka2, .byte), (Ka3, .byte), (Ka4, .int)] (fun _ => True) [(Ad0, .inr (15, Fs0)), (Ad1, .inl (Ka0, 5, .inl Fa0)), (Ad2, .inl (Ka1, 5, .inl Fa1)), (Ad3, .inl (Ka2, 9000, .inl Fa2)), (Ad4, .inl (Ka3, 8000, .inl Fa3)), (Ad5, .inl (Ka4, 1000, .inl Fa4))] U)) (va_Qi (fun (r : Int32) (u : List Value × (Nat → Int32) × (Nat → Int32) × (Nat → Int32)) => (Va0 < 0 ∧ r = 0 ∧ ow Fs0 (u.1) 150 [0] [(0, .int 1), (48, .ref Ad1), (65, .ref Ad2), (139, .ref Ad3), (140, .ref Ad4), (141, .int 0), (147, .ref Ad5), (148, .int 0), (149, .int 0)] ∧ (∀ j, (u.2.2.2) j = 0)) ∨ (¬ Va0 < 0 ∧ 4 ≤ Va0 ∧ r = 0 ∧ ow Fs0 (u.1) 150 [0] [(0, .int 1), (48, .ref Ad1), (65, .ref Ad2), (139, .ref Ad3), (140, .ref Ad4), (141, .int 0), (147, .ref Ad5), (148, .int 0), (149, .int 0)] ∧ (∀ j, (u.2.2.2) j = 0)) ∨ (¬ Va0 < 0 ∧ ¬ 4 ≤ Va0 ∧ r = 1 ∧ ow Fs0 (u.1) 150 [148, 149, 0, 141] [(148, .int 10), (149, .int 1), (0, .int 0), (141, .int 8), (139, .ref Ad3), (139, .ref Ad3), (139, .ref Ad3), (139, .ref Ad3), (139, .ref Ad3), (139, .ref Ad3), (139, .ref Ad3), (139, .ref Ad3), (139, .ref Ad3), (139, .ref Ad3), (139, .ref Ad3), (139, .ref Ad3), (139, .ref Ad3), (139, .ref Ad3), (139, .ref Ad3), (48, .ref Ad1), (65, .ref Ad2), (139, .ref Ad3), (48, .ref Ad1), (65, .ref Ad2), (139, .ref Ad3), (140, .ref Ad4), (147, .ref Ad5)] ∧ (u.2.1) (3 : Int32).toNatClampNeg = 0 ∧ (∀ j, (u.2.2.2) j = 0) ∧ (u.2.2.2) (0 : Int32).toNatClampNeg = 0)) (fun (u : List Value × (Nat → Int32) × (Nat → Int32) × (Nat → Int32)) t => Wd dC dI [(Ka0, .int), (Ka1, .int), (Ka2, .byte), (Ka3, .byte), (Ka4, .int)] (va_A [(Ad0, .inr (15, Fs0)), (Ad1, .inl (Ka0, 5, .inl Fa0)), (Ad2, .inl (Ka1, 5, .inl Fa1)), (Ad3, .inl (Ka2, 9000, .inl Fa2)), (Ad4, .inl (Ka3, 8000, .inl Fa3)), (Ad5, .inl (Ka4, 1000, .inl Fa4))] sz) [(Ad0, .inr (15, (u.1))), (Ad1, .inl (Ka0, 5, .inl Fa0)), (Ad2, .inl (Ka1, 5, .inl Fa1)), (Ad3, .inl (Ka2, 9000, .inl ((u.2.1)))), (Ad4, .inl (Ka3, 8000, .inl ((u.2.2.1)))), (Ad5, .inl (Ka4, 1000, .inl ((u.2.2.2))))] t) (va_A [(Ad0, .inr (15, Fs0)), (Ad1, .inl (Ka0, 5, .inl Fa0)), (Ad2, .inl (Ka1, 5, .inl Fa1)), (Ad3, .inl (Ka2, 9000, .inl Fa2)), (Ad4, .inl (Ka3, 8000, .inl Fa3)), (Ad5, .inl (Ka4, 1000, .inl Fa4))] sz))  0 0 (va_A [(Ad0, .inr (15, Fs0)), (Ad1, .inl (Ka0, 5, .inl Fa0)), (Ad2, .inl (Ka1, 5, .inl Fa1)), (Ad3, .inl (Ka2, 9000, .inl Fa2)), (Ad4, .inl (Ka3, 8000, .inl Fa3)), (Ad5, .inl (Ka4, 1000, .inl Fa4))] sz) := by
  refine Met.ofW (cc := cX12_keep) (maxL := 3) (ret := (some .int)) (by decide) rfl ?_
  intro p e s m args below meth c s₁ B hml hv
  obtain ⟨rfl, hsz, hP, hK, hD0⟩ := hv
  have hx := B.exec
  have hb := B.bytes
  have hr := B.returns
  have hts := atoms_spec (ws := w_z_X12_keep) B.pre
  have hown : s.vm.findClass RX12 = some m.cls := findClass_of_methodNamed B.named
  have hlocks := B.notSynchronized
  subst hsz
  have hD := hD0.self (sz := s.heap.size)
  generalize hAe : va_A [(Ad0, .inr (15, Fs0)), (Ad1, .inl (Ka0, 5, .inl Fa0)), (Ad2, .inl (Ka1, 5, .inl Fa1)), (Ad3, .inl (Ka2, 9000, .inl Fa2)), (Ad4, .inl (Ka3, 8000, .inl Fa3)), (Ad5, .inl (Ka4, 1000, .inl Fa4))] s.heap.size = A at hD ⊢
  have hA : ∀ q : Nat, s.heap.size ≤ q → A q := fun q h => by rw [← hAe]; exact Or.inr h
  have hS : va_S A s.heap s.heap [] := va_S.rf
  have hl := lv_entry ([.ref Ad0, .int Va0]) (n := 3) (Nat.le_of_ble_eq_true rfl)
  rw [lg_entry_eq]
  generalize (lg_sl ([.ref Ad0, .int Va0]) ++ List.replicate (3 - (lg_sl ([.ref Ad0, .int Va0])).length) Slot.unset).toArray = ls at hl ⊢
  have hl : lv_has ls 3 [(0, .ref Ad0), (1, .int Va0)] := hl
  have o_Fs0 := ow_0 k_Fs0
  refine lv_aload_n hx hb dX12_keep_0 rfl (lv_at hl 0 rfl) ?_
  refine lv_aload_n hx hb dX12_keep_1 rfl (lv_at hl 0 rfl) ?_
  refine lv_iload_n hx hb dX12_keep_2 rfl (lv_at hl 1 rfl) ?_
  have hPc := hP.sub (ws' := []) [] rfl
  have hDc := hD.sub (ws' := []) [] (by decide) rfl
  have hKc := hK.sub (tys' := []) [] rfl
  have hFc := va_free (wc := []) hD hS hA [] rfl
  refine va_calli (va_runV (As := [.int Va0]) (rest := [.ref Ad0]) ⟨hx, hb, hml, hown, hts⟩ (z_X12_isPicture l dC dI s.heap.size Ad0 Va0  ) (cwV 1 hts g_z_X12_keep_z_X12_isPicture_542 rfl rfl rfl (by decide +kernel) ⟨Nat.le_of_ble_eq_true rfl, Nat.le_of_ble_eq_true rfl⟩) ⟨fun a U g mk q => by obtain ⟨q0, q1, qP, qK, qD⟩ := q; exact ⟨q0, q1, qP, va_K.moved (u := U) (U := U.calling g mk a) (Vm.Alike.refl U.vm) qK, qD⟩, va_recv hK hP (ci := 15) (q0 := 0) rfl rfl, fun U hU hW => ⟨rfl, by rw [hU], by rw [hU]; exact hPc, va_K.moved hW.alike hKc, hDc.weaken (fun _ _ _ _ => trivial)⟩⟩ rfl rfl hl.1 rfl (lv_room (Nat.le_of_ble_eq_true rfl)) dX12_keep_3 ⟨Nat.le_of_ble_eq_true rfl, Nat.le_of_ble_eq_true rfl⟩) hS (fun q _ h => hFc q h) hFc (fun r101 u t H1 locs ht hvm hw hB hz1 hk1 hS => ?_)
  obtain ⟨hP1, hK1, hD1⟩ := hB
  rw [ht] at hP1
  try dsimp only at hw
  obtain ⟨hP, hD⟩ := va_join (wr := [(Ad0, .inr (15, Fs0)), (Ad1, .inl (Ka0, 5, .inl Fa0)), (Ad2, .inl (Ka1, 5, .inl Fa1)), (Ad3, .inl (Ka2, 9000, .inl Fa2)), (Ad4, .inl (Ka3, 8000, .inl Fa3)), (Ad5, .inl (Ka4, 1000, .inl Fa4))]) (w1 := []) hP hD [] [0, 1, 2, 3, 4, 5] rfl rfl (by decide) (by decide) hk1 hFc hP1 hD1
  have hK := hK.sub (tys' := [(Ka0, .int), (Ka1, .int), (Ka2, .byte), (Ka3, .byte), (Ka4, .int)]) [0, 1, 2, 3, 4] rfl
  generalize H1 = H at hP hS ⊢
  have hP : va_P (dC, dI) vwCl [(Ad0, .inr (15, Fs0)), (Ad1, .inl (Ka0, 5, .inl Fa0)), (Ad2, .inl (Ka1, 5, .inl Fa1)), (Ad3, .inl (Ka2, 9000, .inl Fa2)), (Ad4, .inl (Ka3, 8000, .inl Fa3)), (Ad5, .inl (Ka4, 1000, .inl Fa4))] H := hP
  have hD : va_D A [(Ad0, .inr (15, Fs0)), (Ad1, .inl (Ka0, 5, .inl Fa0)), (Ad2, .inl (Ka1, 5, .inl Fa1)), (Ad3, .inl (Ka2, 9000, .inl Fa2)), (Ad4, .inl (Ka3, 8000, .inl Fa3)), (Ad5, .inl (Ka4, 1000, .inl Fa4))] := hD
  rcases hw with ⟨c102, er103⟩ | ⟨c104, c105, er106⟩ | ⟨c107, c108, er109⟩
  · skip
    subst er103
    refine lv_if_eq (tgt := 13) hx hb dX12_keep_6 (by decide) (fun c110 => ?_) (fun c110 => absurd c110 (by decide))
    refine lv_iconst (v := 1) hx hb dX12_keep_13 (by decide) ?_
    refine va_put (D := (dC, dI)) (ci := 15) (v := .int 1) (ty := .int) (C := RX12) (T := TX12) (N := 150) hx hb hts (in_z_X12_keep_X12) tyX12 tyX12_ok nmX12 hown hK hP hD hS 0 rfl rfl 0 (by decide) (hts (.fieldLink RX12 388 "HeapWorksModel" "thrown" "I") (by decide +kernel)) (fun _ h9 => h9) rfl (by decide +kernel) rfl rfl (by rw [o_Fs0.2.1]; decide) dX12_keep_14 (fun H locs hP hD hS => ?_)
    have hP : va_P (dC, dI) vwCl [(Ad0, .inr (15, (Fs0.set 0 (.int 1)))), (Ad1, .inl (Ka0, 5, .inl Fa0)), (Ad2, .inl (Ka1, 5, .inl Fa1)), (Ad3, .inl (Ka2, 9000, .inl Fa2)), (Ad4, .inl (Ka3, 8000, .inl Fa3)), (Ad5, .inl (Ka4, 1000, .inl Fa4))] H := hP
    have hD : va_D A [(Ad0, .inr (15, (Fs0.set 0 (.int 1)))), (Ad1, .inl (Ka0, 5, .inl Fa0)), (Ad2, .inl (Ka1, 5, .inl Fa1)), (Ad3, .inl (Ka2, 9000, .inl Fa2)), (Ad4, .inl (Ka3, 8000, .inl Fa3)), (Ad5, .inl (Ka4, 1000, .inl Fa4))] := hD
    have o_s111 := ow_set o_Fs0 0 (.int 1) (by decide) (l' := [(0, .int 1), (48, .ref Ad1), (65, .ref Ad2), (139, .ref Ad3), (140, .ref Ad4), (141, .int 0), (147, .ref Ad5), (148, .int 0), (149, .int 0)]) (w' := [0]) rfl rfl
    generalize (Fs0.set 0 (.int 1)) = s111 at hP hD o_s111
    refine lv_aload_n hx hb dX12_keep_17 rfl (lv_at hl 0 rfl) ?_
    refine va_get (D := (dC, dI)) (ci := 15) (v := .int 1) (C := RX12) (T := TX12) (N := 150) hx hb hts (in_z_X12_keep_X12) hown hK hP 0 rfl rfl 0 (by decide) (hts (.fieldLink RX12 388 "HeapWorksModel" "thrown" "I") (by decide +kernel)) (fun _ h9 => h9) (ow_at o_s111 0 rfl) dX12_keep_18 ?_
    refine lv_if_le (tgt := 26) hx hb dX12_keep_21 (by decide) (fun c112 => absurd c112 (by decide)) (fun c112 => ?_)
    refine lv_iconst (v := 0) hx hb dX12_keep_24 (by decide) ?_
    have hP9 := hP.sub (ws' := [(Ad0, .inr (15, s111)), (Ad1, .inl (Ka0, 5, .inl Fa0)), (Ad2, .inl (Ka1, 5, .inl Fa1)), (Ad3, .inl (Ka2, 9000, .inl Fa2)), (Ad4, .inl (Ka3, 8000, .inl Fa3)), (Ad5, .inl (Ka4, 1000, .inl Fa4))]) [0, 1, 2, 3, 4, 5] rfl
    have hD9 := hD.sub (ws' := [(Ad0, .inr (15, s111)), (Ad1, .inl (Ka0, 5, .inl Fa0)), (Ad2, .inl (Ka1, 5, .inl Fa1)), (Ad3, .inl (Ka2, 9000, .inl Fa2)), (Ad4, .inl (Ka3, 8000, .inl Fa3)), (Ad5, .inl (Ka4, 1000, .inl Fa4))]) [0, 1, 2, 3, 4, 5] (by decide) rfl
    have hK9 := hK.sub (tys' := [(Ka0, .int), (Ka1, .int), (Ka2, .byte), (Ka3, .byte), (Ka4, .int)]) [0, 1, 2, 3, 4] rfl
    exact W.iret (v := 0) hx hb hr (fun t ht hW => ⟨⟨0, (s111, Fa2, Fa3, Fa4), rfl, (Or.inl ⟨c102, rfl, o_s111, hz_Fa4⟩), by rw [ht]; exact hP9, va_K.moved hW.alike hK9, hD9⟩, hS.F ht⟩) hS.2.2 dX12_keep_25
  · skip
    subst er106
    refine lv_if_eq (tgt := 13) hx hb dX12_keep_6 (by decide) (fun c113 => ?_) (fun c113 => absurd c113 (by decide))
    refine lv_iconst (v := 1) hx hb dX12_keep_13 (by decide) ?_
    refine va_put (D := (dC, dI)) (ci := 15) (v := .int 1) (ty := .int) (C := RX12) (T := TX12) (N := 150) hx hb hts (in_z_X12_keep_X12) tyX12 tyX12_ok nmX12 hown hK hP hD hS 0 rfl rfl 0 (by decide) (hts (.fieldLink RX12 388 "HeapWorksModel" "thrown" "I") (by decide +kernel)) (fun _ h9 => h9) rfl (by decide +kernel) rfl rfl (by rw [o_Fs0.2.1]; decide) dX12_keep_14 (fun H locs hP hD hS => ?_)
    have hP : va_P (dC, dI) vwCl [(Ad0, .inr (15, (Fs0.set 0 (.int 1)))), (Ad1, .inl (Ka0, 5, .inl Fa0)), (Ad2, .inl (Ka1, 5, .inl Fa1)), (Ad3, .inl (Ka2, 9000, .inl Fa2)), (Ad4, .inl (Ka3, 8000, .inl Fa3)), (Ad5, .inl (Ka4, 1000, .inl Fa4))] H := hP
    have hD : va_D A [(Ad0, .inr (15, (Fs0.set 0 (.int 1)))), (Ad1, .inl (Ka0, 5, .inl Fa0)), (Ad2, .inl (Ka1, 5, .inl Fa1)), (Ad3, .inl (Ka2, 9000, .inl Fa2)), (Ad4, .inl (Ka3, 8000, .inl Fa3)), (Ad5, .inl (Ka4, 1000, .inl Fa4))] := hD
    have o_s114 := ow_set o_Fs0 0 (.int 1) (by decide) (l' := [(0, .int 1), (48, .ref Ad1), (65, .ref Ad2), (139, .ref Ad3), (140, .ref Ad4), (141, .int 0), (147, .ref Ad5), (148, .int 0), (149, .int 0)]) (w' := [0]) rfl rfl
    generalize (Fs0.set 0 (.int 1)) = s114 at hP hD o_s114
    refine lv_aload_n hx hb dX12_keep_17 rfl (lv_at hl 0 rfl) ?_
    refine va_get (D := (dC, dI)) (ci := 15) (v := .int 1) (C := RX12) (T := TX12) (N := 150) hx hb hts (in_z_X12_keep_X12) hown hK hP 0 rfl rfl 0 (by decide) (hts (.fieldLink RX12 388 "HeapWorksModel" "thrown" "I") (by decide +kernel)) (fun _ h9 => h9) (ow_at o_s114 0 rfl) dX12_keep_18 ?_
    refine lv_if_le (tgt := 26) hx hb dX12_keep_21 (by decide) (fun c115 => absurd c115 (by decide)) (fun c115 => ?_)
    refine lv_iconst (v := 0) hx hb dX12_keep_24 (by decide) ?_
    have hP9 := hP.sub (ws' := [(Ad0, .inr (15, s114)), (Ad1, .inl (Ka0, 5, .inl Fa0)), (Ad2, .inl (Ka1, 5, .inl Fa1)), (Ad3, .inl (Ka2, 9000, .inl Fa2)), (Ad4, .inl (Ka3, 8000, .inl Fa3)), (Ad5, .inl (Ka4, 1000, .inl Fa4))]) [0, 1, 2, 3, 4, 5] rfl
    have hD9 := hD.sub (ws' := [(Ad0, .inr (15, s114)), (Ad1, .inl (Ka0, 5, .inl Fa0)), (Ad2, .inl (Ka1, 5, .inl Fa1)), (Ad3, .inl (Ka2, 9000, .inl Fa2)), (Ad4, .inl (Ka3, 8000, .inl Fa3)), (Ad5, .inl (Ka4, 1000, .inl Fa4))]) [0, 1, 2, 3, 4, 5] (by decide) rfl
    have hK9 := hK.sub (tys' := [(Ka0, .int), (Ka1, .int), (Ka2, .byte), (Ka3, .byte), (Ka4, .int)]) [0, 1, 2, 3, 4] rfl
    exact W.iret (v := 0) hx hb hr (fun t ht hW => ⟨⟨0, (s114, Fa2, Fa3, Fa4), rfl, (Or.inr (Or.inl ⟨c104, c105, rfl, o_s114, hz_Fa4⟩)), by rw [ht]; exact hP9, va_K.moved hW.alike hK9, hD9⟩, hS.F ht⟩) hS.2.2 dX12_keep_25
  · skip
    subst er109
    refine lv_if_eq (tgt := 13) hx hb dX12_keep_6 (by decide) (fun c116 => absurd c116 (by decide)) (fun c116 => ?_)
    refine lv_iconst (v := 0) hx hb dX12_keep_9 (by decide) ?_
    refine lv_goto (tgt := 14) hx hb dX12_keep_10 (by decide) ?_
    refine va_put (D := (dC, dI)) (ci := 15) (v := .int 0) (ty := .int) (C := RX12) (T := TX12) (N := 150) hx hb hts (in_z_X12_keep_X12) tyX12 tyX12_ok nmX12 hown hK hP hD hS 0 rfl rfl 0 (by decide) (hts (.fieldLink RX12 388 "HeapWorksModel" "thrown" "I") (by decide +kernel)) (fun _ h9 => h9) rfl (by decide +kernel) rfl rfl (by rw [o_Fs0.2.1]; decide) dX12_keep_14 (fun H locs hP hD hS => ?_)
    have hP : va_P (dC, dI) vwCl [(Ad0, .inr (15, (Fs0.set 0 (.int 0)))), (Ad1, .inl (Ka0, 5, .inl Fa0)), (Ad2, .inl (Ka1, 5, .inl Fa1)), (Ad3, .inl (Ka2, 9000, .inl Fa2)), (Ad4, .inl (Ka3, 8000, .inl Fa3)), (Ad5, .inl (Ka4, 1000, .inl Fa4))] H := hP
    have hD : va_D A [(Ad0, .inr (15, (Fs0.set 0 (.int 0)))), (Ad1, .inl (Ka0, 5, .inl Fa0)), (Ad2, .inl (Ka1, 5, .inl Fa1)), (Ad3, .inl (Ka2, 9000, .inl Fa2)), (Ad4, .inl (Ka3, 8000, .inl Fa3)), (Ad5, .inl (Ka4, 1000, .inl Fa4))] := hD
    have o_s117 := ow_set o_Fs0 0 (.int 0) (by decide) (l' := [(0, .int 0), (48, .ref Ad1), (65, .ref Ad2), (139, .ref Ad3), (140, .ref Ad4), (141, .int 0), (147, .ref Ad5), (148, .int 0), (149, .int 0)]) (w' := [0]) rfl rfl
    generalize (Fs0.set 0 (.int 0)) = s117 at hP hD o_s117
    refine lv_aload_n hx hb dX12_keep_17 rfl (lv_at hl 0 rfl) ?_
    refine va_get (D := (dC, dI)) (ci := 15) (v := .int 0) (C := RX12) (T := TX12) (N := 150) hx hb hts (in_z_X12_keep_X12) hown hK hP 0 rfl rfl 0 (by decide) (hts (.fieldLink RX12 388 "HeapWorksModel" "thrown" "I") (by decide +kernel)) (fun _ h9 => h9) (ow_at o_s117 0 rfl) dX12_keep_18 ?_
    refine lv_if_le (tgt := 26) hx hb dX12_keep_21 (by decide) (fun c118 => ?_) (fun c118 => absurd c118 (by decide))
    refine lv_aload_n hx hb dX12_keep_26 rfl (lv_at hl 0 rfl) ?_
    refine lv_aload_n hx hb dX12_keep_27 rfl (lv_at hl 0 rfl) ?_
    refine lv_iload_n hx hb dX12_keep_28 rfl (lv_at hl 1 rfl) ?_
    have hPc := hP.sub (ws' := [(Ad0, .inr (15, s117)), (Ad1, .inl (Ka0, 5, .inl Fa0)), (Ad2, .inl (Ka1, 5, .inl Fa1)), (Ad3, .inl (Ka2, 9000, .inl Fa2))]) [0, 1, 2, 3] rfl
    have hDc := hD.sub (ws' := [(Ad0, .inr (15, s117)), (Ad1, .inl (Ka0, 5, .inl Fa0)), (Ad2, .inl (Ka1, 5, .inl Fa1)), (Ad3, .inl (Ka2, 9000, .inl Fa2))]) [0, 1, 2, 3] (by decide) rfl
    have hKc := hK.sub (tys' := [(Ka0, .int), (Ka1, .int), (Ka2, .byte)]) [0, 1, 2] rfl
    have hFc := va_free (wc := [(Ad0, .inr (15, s117)), (Ad1, .inl (Ka0, 5, .inl Fa0)), (Ad2, .inl (Ka1, 5, .inl Fa1)), (Ad3, .inl (Ka2, 9000, .inl Fa2))]) hD hS hA [0, 1, 2, 3] rfl
    refine va_calli (va_runV (As := [.int Va0]) (rest := [.ref Ad0]) ⟨hx, hb, hml, hown, hts⟩ (z_X12_putPicture l dC dI H.size Ad0 s117 Ad1 Fa0 Ka0 Ad2 Fa1 Ka1 Ad3 Fa2 Ka2 Va0 (fh_sub o_s117.2 [1, 2, 3, 5] rfl) hz_Fa0 hz_Fa1 (by (try simp only [i_lt, i_le, i_eq, kc_0, kc_4] at c107 c108); omega)) (cwV 1 hts g_z_X12_keep_z_X12_putPicture_972 rfl rfl rfl (by decide +kernel) ⟨Nat.le_of_ble_eq_true rfl, Nat.le_of_ble_eq_true rfl⟩) ⟨fun a U g mk q => by obtain ⟨q0, q1, qP, qK, qD⟩ := q; exact ⟨q0, q1, qP, va_K.moved (u := U) (U := U.calling g mk a) (Vm.Alike.refl U.vm) qK, qD⟩, va_recv hK hP (ci := 15) (q0 := 0) rfl rfl, fun U hU hW => ⟨rfl, by rw [hU], by rw [hU]; exact hPc, va_K.moved hW.alike hKc, hDc.weaken (fun _ _ _ _ => trivial)⟩⟩ rfl rfl hl.1 rfl (lv_room (Nat.le_of_ble_eq_true rfl)) dX12_keep_29 ⟨Nat.le_of_ble_eq_true rfl, Nat.le_of_ble_eq_true rfl⟩) hS (fun q _ h => hFc q h) hFc (fun r119 u t H1 locs ht hvm hw hB hz1 hk1 hS => ?_)
    obtain ⟨s120, f121⟩ := u
    obtain ⟨hP1, hK1, hD1⟩ := hB
    rw [ht] at hP1
    try dsimp only at hw
    obtain ⟨hP, hD⟩ := va_join (wr := [(Ad4, .inl (Ka3, 8000, .inl Fa3)), (Ad5, .inl (Ka4, 1000, .inl Fa4))]) (w1 := [(Ad0, .inr (15, s120)), (Ad1, .inl (Ka0, 5, .inl Fa0)), (Ad2, .inl (Ka1, 5, .inl Fa1)), (Ad3, .inl (Ka2, 9000, .inl f121))]) hP hD [0, 1, 2, 3] [4, 5] rfl rfl (by decide) (by decide) hk1 hFc hP1 hD1
    have hK := hK.sub (tys' := [(Ka3, .byte), (Ka4, .int), (Ka0, .int), (Ka1, .int), (Ka2, .byte)]) [3, 4, 0, 1, 2] rfl
    generalize H1 = H at hP hS ⊢
    have hP : va_P (dC, dI) vwCl [(Ad4, .inl (Ka3, 8000, .inl Fa3)), (Ad5, .inl (Ka4, 1000, .inl Fa4)), (Ad0, .inr (15, s120)), (Ad1, .inl (Ka0, 5, .inl Fa0)), (Ad2, .inl (Ka1, 5, .inl Fa1)), (Ad3, .inl (Ka2, 9000, .inl f121))] H := hP
    have hD : va_D A [(Ad4, .inl (Ka3, 8000, .inl Fa3)), (Ad5, .inl (Ka4, 1000, .inl Fa4)), (Ad0, .inr (15, s120)), (Ad1, .inl (Ka0, 5, .inl Fa0)), (Ad2, .inl (Ka1, 5, .inl Fa1)), (Ad3, .inl (Ka2, 9000, .inl f121))] := hD
    obtain ⟨er122, o_s120, q123⟩ := hw
    subst er122
    have o_s120 := ow_on o_s117 o_s120 (l' := [(141, .int 8), (139, .ref Ad3), (139, .ref Ad3), (139, .ref Ad3), (139, .ref Ad3), (139, .ref Ad3), (139, .ref Ad3), (139, .ref Ad3), (139, .ref Ad3), (139, .ref Ad3), (139, .ref Ad3), (139, .ref Ad3), (139, .ref Ad3), (139, .ref Ad3), (139, .ref Ad3), (139, .ref Ad3), (48, .ref Ad1), (65, .ref Ad2), (139, .ref Ad3), (0, .int 0), (48, .ref Ad1), (65, .ref Ad2), (139, .ref Ad3), (140, .ref Ad4), (147, .ref Ad5), (148, .int 0), (149, .int 0)]) (w' := [141, 0]) rfl rfl
    refine lv_if_eq (tgt := 52) hx hb dX12_keep_32 (by decide) (fun c124 => absurd c124 (by decide)) (fun c124 => ?_)
    refine lv_aload_n hx hb dX12_keep_35 rfl (lv_at hl 0 rfl) ?_
    refine va_get (D := (dC, dI)) (ci := 15) (v := .int 0) (C := RX12) (T := TX12) (N := 150) hx hb hts (in_z_X12_keep_X12) hown hK hP 2 rfl rfl 148 (by decide) (hts (.fieldLink RX12 1027 "HeapWorksModel" "logged" "I") (by decide +kernel)) (fun _ h9 => h9) (ow_at o_s120 25 rfl) dX12_keep_36 ?_
    refine lv_iconst (v := 2) hx hb dX12_keep_39 (by decide) ?_
    refine lv_iadd hx hb dX12_keep_40  ?_
    refine lv_topi (fun x125 ex125 => ?_)
    obtain rfl : x125 = 2 := ex125.trans (by decide)
    refine lv_aload_n hx hb dX12_keep_41 rfl (lv_at hl 0 rfl) ?_
    refine va_get (D := (dC, dI)) (ci := 15) (v := .int 8) (C := RX12) (T := TX12) (N := 150) hx hb hts (in_z_X12_keep_X12) hown hK hP 2 rfl rfl 141 (by decide) (hts (.fieldLink RX12 953 "HeapWorksModel" "rowEnd" "I") (by decide +kernel)) (fun _ h9 => h9) (ow_at o_s120 0 rfl) dX12_keep_42 ?_
    refine lv_iadd hx hb dX12_keep_45  ?_
    refine lv_topi (fun x126 ex126 => ?_)
    obtain rfl : x126 = 10 := ex126.trans (by decide)
    refine lv_sipush (v := 8000) hx hb dX12_keep_46 (by decide) ?_
    refine lv_icmp_le (tgt := 56) hx hb dX12_keep_49 (by decide) (fun c127 => ?_) (fun c127 => absurd c127 (by decide))
    refine lv_iconst (v := 0) hx hb dX12_keep_56 (by decide) ?_
    refine va_put (D := (dC, dI)) (ci := 15) (v := .int 0) (ty := .int) (C := RX12) (T := TX12) (N := 150) hx hb hts (in_z_X12_keep_X12) tyX12 tyX12_ok nmX12 hown hK hP hD hS 2 rfl rfl 0 (by decide) (hts (.fieldLink RX12 388 "HeapWorksModel" "thrown" "I") (by decide +kernel)) (fun _ h9 => h9) rfl (by decide +kernel) rfl rfl (by rw [o_s120.2.1]; decide) dX12_keep_57 (fun H locs hP hD hS => ?_)
    have hP : va_P (dC, dI) vwCl [(Ad4, .inl (Ka3, 8000, .inl Fa3)), (Ad5, .inl (Ka4, 1000, .inl Fa4)), (Ad0, .inr (15, (s120.set 0 (.int 0)))), (Ad1, .inl (Ka0, 5, .inl Fa0)), (Ad2, .inl (Ka1, 5, .inl Fa1)), (Ad3, .inl (Ka2, 9000, .inl f121))] H := hP
    have hD : va_D A [(Ad4, .inl (Ka3, 8000, .inl Fa3)), (Ad5, .inl (Ka4, 1000, .inl Fa4)), (Ad0, .inr (15, (s120.set 0 (.int 0)))), (Ad1, .inl (Ka0, 5, .inl Fa0)), (Ad2, .inl (Ka1, 5, .inl Fa1)), (Ad3, .inl (Ka2, 9000, .inl f121))] := hD
    have o_s128 := ow_set o_s120 0 (.int 0) (by decide) (l' := [(0, .int 0), (141, .int 8), (139, .ref Ad3), (139, .ref Ad3), (139, .ref Ad3), (139, .ref Ad3), (139, .ref Ad3), (139, .ref Ad3), (139, .ref Ad3), (139, .ref Ad3), (139, .ref Ad3), (139, .ref Ad3), (139, .ref Ad3), (139, .ref Ad3), (139, .ref Ad3), (139, .ref Ad3), (139, .ref Ad3), (48, .ref Ad1), (65, .ref Ad2), (139, .ref Ad3), (48, .ref Ad1), (65, .ref Ad2), (139, .ref Ad3), (140, .ref Ad4), (147, .ref Ad5), (148, .int 0), (149, .int 0)]) (w' := [0, 141]) rfl rfl
    generalize (s120.set 0 (.int 0)) = s128 at hP hD o_s128
    refine lv_aload_n hx hb dX12_keep_60 rfl (lv_at hl 0 rfl) ?_
    refine va_get (D := (dC, dI)) (ci := 15) (v := .int 0) (C := RX12) (T := TX12) (N := 150) hx hb hts (in_z_X12_keep_X12) hown hK hP 2 rfl rfl 0 (by decide) (hts (.fieldLink RX12 388 "HeapWorksModel" "thrown" "I") (by decide +kernel)) (fun _ h9 => h9) (ow_at o_s128 0 rfl) dX12_keep_61 ?_
    refine lv_if_le (tgt := 69) hx hb dX12_keep_64 (by decide) (fun c129 => ?_) (fun c129 => absurd c129 (by decide))
    refine lv_aload_n hx hb dX12_keep_69 rfl (lv_at hl 0 rfl) ?_
    refine va_get (D := (dC, dI)) (ci := 15) (v := .ref Ad5) (C := RX12) (T := TX12) (N := 150) hx hb hts (in_z_X12_keep_X12) hown hK hP 2 rfl rfl 147 (by decide) (hts (.fieldLink RX12 381 "HeapWorksModel" "recordAt" "[I") (by decide +kernel)) (fun _ h9 => h9) (ow_at o_s128 24 rfl) dX12_keep_70 ?_
    refine lv_aload_n hx hb dX12_keep_73 rfl (lv_at hl 0 rfl) ?_
    refine va_get (D := (dC, dI)) (ci := 15) (v := .int 0) (C := RX12) (T := TX12) (N := 150) hx hb hts (in_z_X12_keep_X12) hown hK hP 2 rfl rfl 149 (by decide) (hts (.fieldLink RX12 1030 "HeapWorksModel" "records" "I") (by decide +kernel)) (fun _ h9 => h9) (ow_at o_s128 26 rfl) dX12_keep_74 ?_
    refine lv_aload_n hx hb dX12_keep_77 rfl (lv_at hl 0 rfl) ?_
    refine va_get (D := (dC, dI)) (ci := 15) (v := .int 0) (C := RX12) (T := TX12) (N := 150) hx hb hts (in_z_X12_keep_X12) hown hK hP 2 rfl rfl 148 (by decide) (hts (.fieldLink RX12 1027 "HeapWorksModel" "logged" "I") (by decide +kernel)) (fun _ h9 => h9) (ow_at o_s128 25 rfl) dX12_keep_78 ?_
    refine va_iast hx hb hK hP hD hS 1 1 rfl rfl (show vp_in 0 1000 from by unfold vp_in; decide) dX12_keep_81 (fun H locs hP hD hS => ?_)
    have hP : va_P (dC, dI) vwCl [(Ad4, .inl (Ka3, 8000, .inl Fa3)), (Ad5, .inl (Ka4, 1000, .inl (upd Fa4 (0 : Int32).toNatClampNeg 0))), (Ad0, .inr (15, s128)), (Ad1, .inl (Ka0, 5, .inl Fa0)), (Ad2, .inl (Ka1, 5, .inl Fa1)), (Ad3, .inl (Ka2, 9000, .inl f121))] H := hP
    have hD : va_D A [(Ad4, .inl (Ka3, 8000, .inl Fa3)), (Ad5, .inl (Ka4, 1000, .inl (upd Fa4 (0 : Int32).toNatClampNeg 0))), (Ad0, .inr (15, s128)), (Ad1, .inl (Ka0, 5, .inl Fa0)), (Ad2, .inl (Ka1, 5, .inl Fa1)), (Ad3, .inl (Ka2, 9000, .inl f121))] := hD
    have q131 : (upd Fa4 (0 : Int32).toNatClampNeg 0) (0 : Int32).toNatClampNeg = 0 := pk_us
    have z132 : ∀ j, (upd Fa4 (0 : Int32).toNatClampNeg 0) j = 0 := az_up hz_Fa4 rfl
    generalize upd Fa4 (0 : Int32).toNatClampNeg 0 = f130 at hP hD q131 z132
    refine lv_aload_n hx hb dX12_keep_82 rfl (lv_at hl 0 rfl) ?_
    refine lv_dup hx hb dX12_keep_83 rfl ?_
    refine va_get (D := (dC, dI)) (ci := 15) (v := .int 0) (C := RX12) (T := TX12) (N := 150) hx hb hts (in_z_X12_keep_X12) hown hK hP 2 rfl rfl 149 (by decide) (hts (.fieldLink RX12 1030 "HeapWorksModel" "records" "I") (by decide +kernel)) (fun _ h9 => h9) (ow_at o_s128 26 rfl) dX12_keep_84 ?_
    refine lv_iconst (v := 1) hx hb dX12_keep_87 (by decide) ?_
    refine lv_iadd hx hb dX12_keep_88  ?_
    refine lv_topi (fun x133 ex133 => ?_)
    obtain rfl : x133 = 1 := ex133.trans (by decide)
    refine va_put (D := (dC, dI)) (ci := 15) (v := .int 1) (ty := .int) (C := RX12) (T := TX12) (N := 150) hx hb hts (in_z_X12_keep_X12) tyX12 tyX12_ok nmX12 hown hK hP hD hS 2 rfl rfl 149 (by decide) (hts (.fieldLink RX12 1030 "HeapWorksModel" "records" "I") (by decide +kernel)) (fun _ h9 => h9) rfl (by decide +kernel) rfl rfl (by rw [o_s128.2.1]; decide) dX12_keep_89 (fun H locs hP hD hS => ?_)
    have hP : va_P (dC, dI) vwCl [(Ad4, .inl (Ka3, 8000, .inl Fa3)), (Ad5, .inl (Ka4, 1000, .inl f130)), (Ad0, .inr (15, (s128.set 149 (.int 1)))), (Ad1, .inl (Ka0, 5, .inl Fa0)), (Ad2, .inl (Ka1, 5, .inl Fa1)), (Ad3, .inl (Ka2, 9000, .inl f121))] H := hP
    have hD : va_D A [(Ad4, .inl (Ka3, 8000, .inl Fa3)), (Ad5, .inl (Ka4, 1000, .inl f130)), (Ad0, .inr (15, (s128.set 149 (.int 1)))), (Ad1, .inl (Ka0, 5, .inl Fa0)), (Ad2, .inl (Ka1, 5, .inl Fa1)), (Ad3, .inl (Ka2, 9000, .inl f121))] := hD
    have o_s134 := ow_set o_s128 149 (.int 1) (by decide) (l' := [(149, .int 1), (0, .int 0), (141, .int 8), (139, .ref Ad3), (139, .ref Ad3), (139, .ref Ad3), (139, .ref Ad3), (139, .ref Ad3), (139, .ref Ad3), (139, .ref Ad3), (139, .ref Ad3), (139, .ref Ad3), (139, .ref Ad3), (139, .ref Ad3), (139, .ref Ad3), (139, .ref Ad3), (139, .ref Ad3), (139, .ref Ad3), (48, .ref Ad1), (65, .ref Ad2), (139, .ref Ad3), (48, .ref Ad1), (65, .ref Ad2), (139, .ref Ad3), (140, .ref Ad4), (147, .ref Ad5), (148, .int 0)]) (w' := [149, 0, 141]) rfl rfl
    generalize (s128.set 149 (.int 1)) = s134 at hP hD o_s134
    refine lv_aload_n hx hb dX12_keep_92 rfl (lv_at hl 0 rfl) ?_
    refine va_get (D := (dC, dI)) (ci := 15) (v := .ref Ad4) (C := RX12) (T := TX12) (N := 150) hx hb hts (in_z_X12_keep_X12) hown hK hP 2 rfl rfl 140 (by decide) (hts (.fieldLink RX12 372 "HeapWorksModel" "log" "[B") (by decide +kernel)) (fun _ h9 => h9) (ow_at o_s134 24 rfl) dX12_keep_93 ?_
    refine lv_aload_n hx hb dX12_keep_96 rfl (lv_at hl 0 rfl) ?_
    refine va_get (D := (dC, dI)) (ci := 15) (v := .int 0) (C := RX12) (T := TX12) (N := 150) hx hb hts (in_z_X12_keep_X12) hown hK hP 2 rfl rfl 148 (by decide) (hts (.fieldLink RX12 1027 "HeapWorksModel" "logged" "I") (by decide +kernel)) (fun _ h9 => h9) (ow_at o_s134 26 rfl) dX12_keep_97 ?_
    refine lv_aload_n hx hb dX12_keep_100 rfl (lv_at hl 0 rfl) ?_
    refine va_get (D := (dC, dI)) (ci := 15) (v := .int 8) (C := RX12) (T := TX12) (N := 150) hx hb hts (in_z_X12_keep_X12) hown hK hP 2 rfl rfl 141 (by decide) (hts (.fieldLink RX12 953 "HeapWorksModel" "rowEnd" "I") (by decide +kernel)) (fun _ h9 => h9) (ow_at o_s134 2 rfl) dX12_keep_101 ?_
    refine lv_i2b hx hb dX12_keep_104 rfl ?_
    refine lv_topi (fun x135 ex135 => ?_)
    obtain rfl : x135 = 8 := ex135.trans (by decide)
    refine va_bast hx hb hK hP hD hS 0 0 rfl rfl (show vp_in 0 8000 from by unfold vp_in; decide) dX12_keep_105 (fun H locs hP hD hS => ?_)
    have hP : va_P (dC, dI) vwCl [(Ad4, .inl (Ka3, 8000, .inl (upd Fa3 (0 : Int32).toNatClampNeg (vp_nar .byte 8)))), (Ad5, .inl (Ka4, 1000, .inl f130)), (Ad0, .inr (15, s134)), (Ad1, .inl (Ka0, 5, .inl Fa0)), (Ad2, .inl (Ka1, 5, .inl Fa1)), (Ad3, .inl (Ka2, 9000, .inl f121))] H := hP
    have hD : va_D A [(Ad4, .inl (Ka3, 8000, .inl (upd Fa3 (0 : Int32).toNatClampNeg (vp_nar .byte 8)))), (Ad5, .inl (Ka4, 1000, .inl f130)), (Ad0, .inr (15, s134)), (Ad1, .inl (Ka0, 5, .inl Fa0)), (Ad2, .inl (Ka1, 5, .inl Fa1)), (Ad3, .inl (Ka2, 9000, .inl f121))] := hD
    have q137 : (upd Fa3 (0 : Int32).toNatClampNeg (vp_nar .byte 8)) (0 : Int32).toNatClampNeg = 8 := (pk_us.trans (by decide))
    generalize upd Fa3 (0 : Int32).toNatClampNeg (vp_nar .byte 8) = f136 at hP hD q137
    refine lv_aload_n hx hb dX12_keep_106 rfl (lv_at hl 0 rfl) ?_
    refine va_get (D := (dC, dI)) (ci := 15) (v := .ref Ad4) (C := RX12) (T := TX12) (N := 150) hx hb hts (in_z_X12_keep_X12) hown hK hP 2 rfl rfl 140 (by decide) (hts (.fieldLink RX12 372 "HeapWorksModel" "log" "[B") (by decide +kernel)) (fun _ h9 => h9) (ow_at o_s134 24 rfl) dX12_keep_107 ?_
    refine lv_aload_n hx hb dX12_keep_110 rfl (lv_at hl 0 rfl) ?_
    refine va_get (D := (dC, dI)) (ci := 15) (v := .int 0) (C := RX12) (T := TX12) (N := 150) hx hb hts (in_z_X12_keep_X12) hown hK hP 2 rfl rfl 148 (by decide) (hts (.fieldLink RX12 1027 "HeapWorksModel" "logged" "I") (by decide +kernel)) (fun _ h9 => h9) (ow_at o_s134 26 rfl) dX12_keep_111 ?_
    refine lv_iconst (v := 1) hx hb dX12_keep_114 (by decide) ?_
    refine lv_iadd hx hb dX12_keep_115  ?_
    refine lv_topi (fun x138 ex138 => ?_)
    obtain rfl : x138 = 1 := ex138.trans (by decide)
    refine lv_aload_n hx hb dX12_keep_116 rfl (lv_at hl 0 rfl) ?_
    refine va_get (D := (dC, dI)) (ci := 15) (v := .int 8) (C := RX12) (T := TX12) (N := 150) hx hb hts (in_z_X12_keep_X12) hown hK hP 2 rfl rfl 141 (by decide) (hts (.fieldLink RX12 953 "HeapWorksModel" "rowEnd" "I") (by decide +kernel)) (fun _ h9 => h9) (ow_at o_s134 2 rfl) dX12_keep_117 ?_
    refine lv_bipush (v := 8) hx hb dX12_keep_120 (by decide) ?_
    refine lv_ishr hx hb dX12_keep_122  ?_
    refine lv_topi (fun x139 ex139 => ?_)
    obtain rfl : x139 = 0 := ex139.trans (by decide)
    refine lv_i2b hx hb dX12_keep_123 rfl ?_
    refine lv_topi (fun x140 ex140 => ?_)
    obtain rfl : x140 = 0 := ex140.trans (by decide)
    refine va_bast hx hb hK hP hD hS 0 0 rfl rfl (show vp_in 1 8000 from by unfold vp_in; decide) dX12_keep_124 (fun H locs hP hD hS => ?_)
    have hP : va_P (dC, dI) vwCl [(Ad4, .inl (Ka3, 8000, .inl (upd f136 (1 : Int32).toNatClampNeg (vp_nar .byte 0)))), (Ad5, .inl (Ka4, 1000, .inl f130)), (Ad0, .inr (15, s134)), (Ad1, .inl (Ka0, 5, .inl Fa0)), (Ad2, .inl (Ka1, 5, .inl Fa1)), (Ad3, .inl (Ka2, 9000, .inl f121))] H := hP
    have hD : va_D A [(Ad4, .inl (Ka3, 8000, .inl (upd f136 (1 : Int32).toNatClampNeg (vp_nar .byte 0)))), (Ad5, .inl (Ka4, 1000, .inl f130)), (Ad0, .inr (15, s134)), (Ad1, .inl (Ka0, 5, .inl Fa0)), (Ad2, .inl (Ka1, 5, .inl Fa1)), (Ad3, .inl (Ka2, 9000, .inl f121))] := hD
    have q142 : (upd f136 (1 : Int32).toNatClampNeg (vp_nar .byte 0)) (0 : Int32).toNatClampNeg = 8 := (kn_ne (by decide)).trans q137
    have q143 : (upd f136 (1 : Int32).toNatClampNeg (vp_nar .byte 0)) (1 : Int32).toNatClampNeg = 0 := (pk_us.trans (by decide))
    generalize upd f136 (1 : Int32).toNatClampNeg (vp_nar .byte 0) = f141 at hP hD q142 q143
    refine lv_iconst (v := 0) hx hb dX12_keep_125 (by decide) ?_
    refine lv_istore_n (lv' := [(2, .int 0), (0, .ref Ad0), (1, .int Va0)]) hx hb dX12_keep_126 rfl hl (by decide) rfl (fun ls hl => ?_)
    have HL1 : ∀ (n j177 : Nat) (x178 : Int32) (f179 : Nat → Int32), x178 = nI j177 → 0 ≤ j177 → j177 ≤ 8 → 9 ≤ j177 + n → ∀ (H : Heap) (locs : List Loc) (ls : Array Slot), va_P (dC, dI) vwCl [(Ad4, .inl (Ka3, 8000, .inl f179)), (Ad5, .inl (Ka4, 1000, .inl f130)), (Ad0, .inr (15, s134)), (Ad1, .inl (Ka0, 5, .inl Fa0)), (Ad2, .inl (Ka1, 5, .inl Fa1)), (Ad3, .inl (Ka2, 9000, .inl f121))] H → va_D A [(Ad4, .inl (Ka3, 8000, .inl f179)), (Ad5, .inl (Ka4, 1000, .inl f130)), (Ad0, .inr (15, s134)), (Ad1, .inl (Ka0, 5, .inl Fa0)), (Ad2, .inl (Ka1, 5, .inl Fa1)), (Ad3, .inl (Ka2, 9000, .inl f121))] → va_S A s.heap H locs → lv_has ls 3 [(2, .int x178), (0, .ref Ad0), (1, .int Va0)] → W p l e (headSpec w_z_X12_keep ({ frames := 2, cells := 0, slots := 0, locals := 50 })).room s m ([.ref Ad0, .int Va0]).toArray below meth c H locs 0 0 (MQ below (va_Qi (fun (r : Int32) (u : List Value × (Nat → Int32) × (Nat → Int32) × (Nat → Int32)) => (Va0 < 0 ∧ r = 0 ∧ ow Fs0 (u.1) 150 [0] [(0, .int 1), (48, .ref Ad1), (65, .ref Ad2), (139, .ref Ad3), (140, .ref Ad4), (141, .int 0), (147, .ref Ad5), (148, .int 0), (149, .int 0)] ∧ (∀ j, (u.2.2.2) j = 0)) ∨ (¬ Va0 < 0 ∧ 4 ≤ Va0 ∧ r = 0 ∧ ow Fs0 (u.1) 150 [0] [(0, .int 1), (48, .ref Ad1), (65, .ref Ad2), (139, .ref Ad3), (140, .ref Ad4), (141, .int 0), (147, .ref Ad5), (148, .int 0), (149, .int 0)] ∧ (∀ j, (u.2.2.2) j = 0)) ∨ (¬ Va0 < 0 ∧ ¬ 4 ≤ Va0 ∧ r = 1 ∧ ow Fs0 (u.1) 150 [148, 149, 0, 141] [(148, .int 10), (149, .int 1), (0, .int 0), (141, .int 8), (139, .ref Ad3), (139, .ref Ad3), (139, .ref Ad3), (139, .ref Ad3), (139, .ref Ad3), (139, .ref Ad3), (139, .ref Ad3), (139, .ref Ad3), (139, .ref Ad3), (139, .ref Ad3), (139, .ref Ad3), (139, .ref Ad3), (139, .ref Ad3), (139, .ref Ad3), (139, .ref Ad3), (48, .ref Ad1), (65, .ref Ad2), (139, .ref Ad3), (48, .ref Ad1), (65, .ref Ad2), (139, .ref Ad3), (140, .ref Ad4), (147, .ref Ad5)] ∧ (u.2.1) (3 : Int32).toNatClampNeg = 0 ∧ (∀ j, (u.2.2.2) j = 0) ∧ (u.2.2.2) (0 : Int32).toNatClampNeg = 0)) (fun (u : List Value × (Nat → Int32) × (Nat → Int32) × (Nat → Int32)) t => Wd dC dI [(Ka0, .int), (Ka1, .int), (Ka2, .byte), (Ka3, .byte), (Ka4, .int)] A [(Ad0, .inr (15, (u.1))), (Ad1, .inl (Ka0, 5, .inl Fa0)), (Ad2, .inl (Ka1, 5, .inl Fa1)), (Ad3, .inl (Ka2, 9000, .inl ((u.2.1)))), (Ad4, .inl (Ka3, 8000, .inl ((u.2.2.1)))), (Ad5, .inl (Ka4, 1000, .inl ((u.2.2.2))))] t) A) ([.ref Ad0, .int Va0]).toArray s 0 0 A) (F0 m 127 ls []) := by
      intro n
      induction n with
      | zero =>
        intro j177 x178 f179 e180 h182 h183 h184
        exact absurd h184 (by omega)
      | succ n ih =>
        intro j177 x178 f179 e180 h182 h183 h184 H locs ls hP hD hS hl
        have t181 : x178.toInt = (j177 : Int) := by rw [e180]; exact nI_toInt (by omega)
        refine lv_iload_n hx hb dX12_keep_127 rfl (lv_at hl 0 rfl) ?_
        refine lv_aload_n hx hb dX12_keep_128 rfl (lv_at hl 1 rfl) ?_
        refine va_get (D := (dC, dI)) (ci := 15) (v := .int 8) (C := RX12) (T := TX12) (N := 150) hx hb hts (in_z_X12_keep_X12) hown hK hP 2 rfl rfl 141 (by decide) (hts (.fieldLink RX12 953 "HeapWorksModel" "rowEnd" "I") (by decide +kernel)) (fun _ h9 => h9) (ow_at o_s134 2 rfl) dX12_keep_129 ?_
        refine lv_icmp_ge (tgt := 160) hx hb dX12_keep_132 (by decide) (fun c185 => ?_) (fun c185 => ?_)
        · skip
          refine lv_aload_n hx hb dX12_keep_160 rfl (lv_at hl 1 rfl) ?_
          refine lv_dup hx hb dX12_keep_161 rfl ?_
          refine va_get (D := (dC, dI)) (ci := 15) (v := .int 0) (C := RX12) (T := TX12) (N := 150) hx hb hts (in_z_X12_keep_X12) hown hK hP 2 rfl rfl 148 (by decide) (hts (.fieldLink RX12 1027 "HeapWorksModel" "logged" "I") (by decide +kernel)) (fun _ h9 => h9) (ow_at o_s134 26 rfl) dX12_keep_162 ?_
          refine lv_iconst (v := 2) hx hb dX12_keep_165 (by decide) ?_
          refine lv_aload_n hx hb dX12_keep_166 rfl (lv_at hl 1 rfl) ?_
          refine va_get (D := (dC, dI)) (ci := 15) (v := .int 8) (C := RX12) (T := TX12) (N := 150) hx hb hts (in_z_X12_keep_X12) hown hK hP 2 rfl rfl 141 (by decide) (hts (.fieldLink RX12 953 "HeapWorksModel" "rowEnd" "I") (by decide +kernel)) (fun _ h9 => h9) (ow_at o_s134 2 rfl) dX12_keep_167 ?_
          refine lv_iadd hx hb dX12_keep_170  ?_
          refine lv_topi (fun x186 ex186 => ?_)
          obtain rfl : x186 = 10 := ex186.trans (by decide)
          refine lv_iadd hx hb dX12_keep_171  ?_
          refine lv_topi (fun x187 ex187 => ?_)
          obtain rfl : x187 = 10 := ex187.trans (by decide)
          refine va_put (D := (dC, dI)) (ci := 15) (v := .int 10) (ty := .int) (C := RX12) (T := TX12) (N := 150) hx hb hts (in_z_X12_keep_X12) tyX12 tyX12_ok nmX12 hown hK hP hD hS 2 rfl rfl 148 (by decide) (hts (.fieldLink RX12 1027 "HeapWorksModel" "logged" "I") (by decide +kernel)) (fun _ h9 => h9) rfl (by decide +kernel) rfl rfl (by rw [o_s134.2.1]; decide) dX12_keep_172 (fun H locs hP hD hS => ?_)
          have hP : va_P (dC, dI) vwCl [(Ad4, .inl (Ka3, 8000, .inl f179)), (Ad5, .inl (Ka4, 1000, .inl f130)), (Ad0, .inr (15, (s134.set 148 (.int 10)))), (Ad1, .inl (Ka0, 5, .inl Fa0)), (Ad2, .inl (Ka1, 5, .inl Fa1)), (Ad3, .inl (Ka2, 9000, .inl f121))] H := hP
          have hD : va_D A [(Ad4, .inl (Ka3, 8000, .inl f179)), (Ad5, .inl (Ka4, 1000, .inl f130)), (Ad0, .inr (15, (s134.set 148 (.int 10)))), (Ad1, .inl (Ka0, 5, .inl Fa0)), (Ad2, .inl (Ka1, 5, .inl Fa1)), (Ad3, .inl (Ka2, 9000, .inl f121))] := hD
          have o_s188 := ow_set o_s134 148 (.int 10) (by decide) (l' := [(148, .int 10), (149, .int 1), (0, .int 0), (141, .int 8), (139, .ref Ad3), (139, .ref Ad3), (139, .ref Ad3), (139, .ref Ad3), (139, .ref Ad3), (139, .ref Ad3), (139, .ref Ad3), (139, .ref Ad3), (139, .ref Ad3), (139, .ref Ad3), (139, .ref Ad3), (139, .ref Ad3), (139, .ref Ad3), (139, .ref Ad3), (139, .ref Ad3), (48, .ref Ad1), (65, .ref Ad2), (139, .ref Ad3), (48, .ref Ad1), (65, .ref Ad2), (139, .ref Ad3), (140, .ref Ad4), (147, .ref Ad5)]) (w' := [148, 149, 0, 141]) rfl rfl
          generalize (s134.set 148 (.int 10)) = s188 at hP hD o_s188
          refine lv_aload_n hx hb dX12_keep_175 rfl (lv_at hl 1 rfl) ?_
          refine va_get (D := (dC, dI)) (ci := 15) (v := .int 1) (C := RX12) (T := TX12) (N := 150) hx hb hts (in_z_X12_keep_X12) hown hK hP 2 rfl rfl 149 (by decide) (hts (.fieldLink RX12 1030 "HeapWorksModel" "records" "I") (by decide +kernel)) (fun _ h9 => h9) (ow_at o_s188 1 rfl) dX12_keep_176 ?_
          have hP9 := hP.sub (ws' := [(Ad0, .inr (15, s188)), (Ad1, .inl (Ka0, 5, .inl Fa0)), (Ad2, .inl (Ka1, 5, .inl Fa1)), (Ad3, .inl (Ka2, 9000, .inl f121)), (Ad4, .inl (Ka3, 8000, .inl f179)), (Ad5, .inl (Ka4, 1000, .inl f130))]) [2, 3, 4, 5, 0, 1] rfl
          have hD9 := hD.sub (ws' := [(Ad0, .inr (15, s188)), (Ad1, .inl (Ka0, 5, .inl Fa0)), (Ad2, .inl (Ka1, 5, .inl Fa1)), (Ad3, .inl (Ka2, 9000, .inl f121)), (Ad4, .inl (Ka3, 8000, .inl f179)), (Ad5, .inl (Ka4, 1000, .inl f130))]) [2, 3, 4, 5, 0, 1] (by decide) rfl
          have hK9 := hK.sub (tys' := [(Ka0, .int), (Ka1, .int), (Ka2, .byte), (Ka3, .byte), (Ka4, .int)]) [2, 3, 4, 0, 1] rfl
          exact W.iret (v := 1) hx hb hr (fun t ht hW => ⟨⟨1, (s188, f121, f179, f130), rfl, (Or.inr (Or.inr (⟨c107, c108, rfl, o_s188, q123, z132, q131⟩))), by rw [ht]; exact hP9, va_K.moved hW.alike hK9, hD9⟩, hS.F ht⟩) hS.2.2 dX12_keep_179
        · skip
          refine lv_aload_n hx hb dX12_keep_135 rfl (lv_at hl 1 rfl) ?_
          refine va_get (D := (dC, dI)) (ci := 15) (v := .ref Ad4) (C := RX12) (T := TX12) (N := 150) hx hb hts (in_z_X12_keep_X12) hown hK hP 2 rfl rfl 140 (by decide) (hts (.fieldLink RX12 372 "HeapWorksModel" "log" "[B") (by decide +kernel)) (fun _ h9 => h9) (ow_at o_s134 24 rfl) dX12_keep_136 ?_
          refine lv_aload_n hx hb dX12_keep_139 rfl (lv_at hl 1 rfl) ?_
          refine va_get (D := (dC, dI)) (ci := 15) (v := .int 0) (C := RX12) (T := TX12) (N := 150) hx hb hts (in_z_X12_keep_X12) hown hK hP 2 rfl rfl 148 (by decide) (hts (.fieldLink RX12 1027 "HeapWorksModel" "logged" "I") (by decide +kernel)) (fun _ h9 => h9) (ow_at o_s134 26 rfl) dX12_keep_140 ?_
          refine lv_iconst (v := 2) hx hb dX12_keep_143 (by decide) ?_
          refine lv_iadd hx hb dX12_keep_144  ?_
          refine lv_topi (fun x189 ex189 => ?_)
          obtain rfl : x189 = 2 := ex189.trans (by decide)
          refine lv_iload_n hx hb dX12_keep_145 rfl (lv_at hl 0 rfl) ?_
          refine lv_iadd hx hb dX12_keep_146  ?_
          refine lv_topi (fun x190 ex190 => ?_)
          have tx190 : x190.toInt = (2 : Int32).toInt + (x178 : Int32).toInt := by rw [ex190]; exact i_add (by have bd_x178 := i_bd x178; (try simp only [i_lt, i_le, i_eq, kc_8, kc_2] at t181 h183 h182 c185 ⊢); omega) (by have bd_x178 := i_bd x178; (try simp only [i_lt, i_le, i_eq, kc_8, kc_2] at t181 h183 h182 c185 ⊢); omega)
          refine lv_aload_n hx hb dX12_keep_147 rfl (lv_at hl 1 rfl) ?_
          refine va_get (D := (dC, dI)) (ci := 15) (v := .ref Ad3) (C := RX12) (T := TX12) (N := 150) hx hb hts (in_z_X12_keep_X12) hown hK hP 2 rfl rfl 139 (by decide) (hts (.fieldLink RX12 369 "HeapWorksModel" "row0" "[B") (by decide +kernel)) (fun _ h9 => h9) (ow_at o_s134 3 rfl) dX12_keep_148 ?_
          refine lv_iload_n hx hb dX12_keep_151 rfl (lv_at hl 0 rfl) ?_
          refine va_bald hx hb hK hP 5 4 rfl rfl (by rw [vp_in_iff]; (try simp only [i_lt, i_le, i_eq, kc_8, kc_2] at t181 h183 h182 c185 tx190); omega) dX12_keep_152 ?_
          refine lv_topi (fun x191 ex191 => ?_)
          refine va_bast hx hb hK hP hD hS 0 0 rfl rfl (by rw [vp_in_iff]; (try simp only [i_lt, i_le, i_eq, kc_2, kc_8] at tx190 t181 h183 h182 c185); omega) dX12_keep_153 (fun H locs hP hD hS => ?_)
          have hP : va_P (dC, dI) vwCl [(Ad4, .inl (Ka3, 8000, .inl (upd f179 (x190 : Int32).toNatClampNeg (vp_nar .byte x191)))), (Ad5, .inl (Ka4, 1000, .inl f130)), (Ad0, .inr (15, s134)), (Ad1, .inl (Ka0, 5, .inl Fa0)), (Ad2, .inl (Ka1, 5, .inl Fa1)), (Ad3, .inl (Ka2, 9000, .inl f121))] H := hP
          have hD : va_D A [(Ad4, .inl (Ka3, 8000, .inl (upd f179 (x190 : Int32).toNatClampNeg (vp_nar .byte x191)))), (Ad5, .inl (Ka4, 1000, .inl f130)), (Ad0, .inr (15, s134)), (Ad1, .inl (Ka0, 5, .inl Fa0)), (Ad2, .inl (Ka1, 5, .inl Fa1)), (Ad3, .inl (Ka2, 9000, .inl f121))] := hD
          generalize upd f179 (x190 : Int32).toNatClampNeg (vp_nar .byte x191) = f192 at hP hD
          obtain ⟨x193, ex193⟩ : ∃ y : Int32, y = x178 + 1 := ⟨_, rfl⟩
          refine lv_iinc (v := x193) (lv' := [(2, .int x193), (0, .ref Ad0), (1, .int Va0)]) hx hb dX12_keep_154 hl (k := 0) rfl (by rw [ex193]; rfl) (by decide) rfl (fun ls hl => ?_)
          have tx193 : x193.toInt = x178.toInt + (1 : Int32).toInt := by rw [ex193]; exact i_add (by have bd_x178 := i_bd x178; (try simp only [i_lt, i_le, i_eq, kc_8, kc_2, kc_1] at t181 h183 h182 c185 tx190 ⊢); omega) (by have bd_x178 := i_bd x178; (try simp only [i_lt, i_le, i_eq, kc_8, kc_2, kc_1] at t181 h183 h182 c185 tx190 ⊢); omega)
          refine lv_goto (tgt := 127) hx hb dX12_keep_157 (by decide) ?_
          exact ih (j177 + 1) x193 f192 (by rw [ex193, e180]; exact nI_1 _) (by omega) (by (try simp only [i_lt, i_le, i_eq, kc_8, kc_2, kc_1] at t181 h183 h182 c185 tx190 tx193); omega) (by omega)  _ _ _ (hP.sub [0, 1, 2, 3, 4, 5] rfl) (hD.sub [0, 1, 2, 3, 4, 5] (by decide) rfl) hS  (lv_sub hl [0, 1, 2] rfl)
    exact HL1 9 0 (0) f141 (by decide) (by omega) (by omega) (by omega)  _ _ _ hP hD hS  hl

def l_z_X12_reopen : List Cond := [.fieldLink RX12 388 "HeapWorksModel" "thrown" "I", .fieldLink RX12 1027 "HeapWorksModel" "logged" "I", .fieldLink RX12 1030 "HeapWorksModel" "records" "I"]
def w_z_X12_reopen : List Cond := .code yX12_reopen cX12_reopen 5 (some .int) :: (l_z_X12_reopen ++ (wsX120))
theorem in_z_X12_reopen_X12 : ∀ w ∈ wsX120, w ∈ w_z_X12_reopen := fun w h => List.mem_cons_of_mem _ (List.mem_append_right _ (h))
set_option maxHeartbeats 4000000 in
set_option maxRecDepth 100000 in
theorem z_X12_reopen (l : Launch) (dC : Nat → ClassId) (dI : Nat → Nat → Nat) (sz : Nat) (Ad0 : Nat) (Fs0 : List Value) (Va0 : Int32) (k_Fs0 : fh Fs0 150 [(148, .int 0), (149, .int 0)])  : Met l yX12_reopen w_z_X12_reopen ({ frames := 0, cells := 0, slots := 0, locals := 0 }) (va_Pc [.ref Ad0, .int Va0] (fun U => U.heap.size = sz ∧ Wd dC dI [] (fun _ => True) [(Ad0, .inr (15, Fs0))] U)) (va_Qi (fun (r : Int32) (u : List Value) => (0 ≤ Va0 ∧ 0 ≤ Va0 ∧ r = 0 ∧ ow Fs0 (u) 150 [148, 149, 0] [(148, .int 0), (149, .int 0), (0, .int 0)]) ∨ (¬ 0 ≤ Va0 ∧ r = 0 ∧ ow Fs0 (u) 150 [148, 149, 0] [(148, .int 0), (149, .int 0), (0, .int 0)])) (fun (u : List Value) t => Wd dC dI [] (va_A [(Ad0, .inr (15, Fs0))] sz) [(Ad0, .inr (15, (u)))] t) (va_A [(Ad0, .inr (15, Fs0))] sz))  0 0 (va_A [(Ad0, .inr (15, Fs0))] sz) := by
  refine Met.ofW (cc := cX12_reopen) (maxL := 5) (ret := (some .int)) (by decide) rfl ?_
  intro p e s m args below meth c s₁ B hml hv
  obtain ⟨rfl, hsz, hP, hK, hD0⟩ := hv
  have hx := B.exec
  have hb := B.bytes
  have hr := B.returns
  have hts := atoms_spec (ws := w_z_X12_reopen) B.pre
  have hown : s.vm.findClass RX12 = some m.cls := findClass_of_methodNamed B.named
  have hlocks := B.notSynchronized
  subst hsz
  have hD := hD0.self (sz := s.heap.size)
  generalize hAe : va_A [(Ad0, .inr (15, Fs0))] s.heap.size = A at hD ⊢
  have hA : ∀ q : Nat, s.heap.size ≤ q → A q := fun q h => by rw [← hAe]; exact Or.inr h
  have hS : va_S A s.heap s.heap [] := va_S.rf
  have hl := lv_entry ([.ref Ad0, .int Va0]) (n := 5) (Nat.le_of_ble_eq_true rfl)
  rw [lg_entry_eq]
  generalize (lg_sl ([.ref Ad0, .int Va0]) ++ List.replicate (5 - (lg_sl ([.ref Ad0, .int Va0])).length) Slot.unset).toArray = ls at hl ⊢
  have hl : lv_has ls 5 [(0, .ref Ad0), (1, .int Va0)] := hl
  have o_Fs0 := ow_0 k_Fs0
  refine lv_aload_n hx hb dX12_reopen_0 rfl (lv_at hl 0 rfl) ?_
  refine lv_iconst (v := 0) hx hb dX12_reopen_1 (by decide) ?_
  refine va_put (D := (dC, dI)) (ci := 15) (v := .int 0) (ty := .int) (C := RX12) (T := TX12) (N := 150) hx hb hts (in_z_X12_reopen_X12) tyX12 tyX12_ok nmX12 hown hK hP hD hS 0 rfl rfl 0 (by decide) (hts (.fieldLink RX12 388 "HeapWorksModel" "thrown" "I") (by decide +kernel)) (fun _ h9 => h9) rfl (by decide +kernel) rfl rfl (by rw [o_Fs0.2.1]; decide) dX12_reopen_2 (fun H locs hP hD hS => ?_)
  have hP : va_P (dC, dI) vwCl [(Ad0, .inr (15, (Fs0.set 0 (.int 0))))] H := hP
  have hD : va_D A [(Ad0, .inr (15, (Fs0.set 0 (.int 0))))] := hD
  have o_s101 := ow_set o_Fs0 0 (.int 0) (by decide) (l' := [(0, .int 0), (148, .int 0), (149, .int 0)]) (w' := [0]) rfl rfl
  generalize (Fs0.set 0 (.int 0)) = s101 at hP hD o_s101
  refine lv_iload_n hx hb dX12_reopen_5 rfl (lv_at hl 1 rfl) ?_
  refine lv_if_ge (tgt := 13) hx hb dX12_reopen_6 (by decide) (fun c102 => ?_) (fun c102 => ?_)
  · skip
    refine lv_iload_n hx hb dX12_reopen_13 rfl (lv_at hl 1 rfl) ?_
    refine lv_aload_n hx hb dX12_reopen_14 rfl (lv_at hl 0 rfl) ?_
    refine va_get (D := (dC, dI)) (ci := 15) (v := .int 0) (C := RX12) (T := TX12) (N := 150) hx hb hts (in_z_X12_reopen_X12) hown hK hP 0 rfl rfl 148 (by decide) (hts (.fieldLink RX12 1027 "HeapWorksModel" "logged" "I") (by decide +kernel)) (fun _ h9 => h9) (ow_at o_s101 1 rfl) dX12_reopen_15 ?_
    refine lv_icmp_ge (tgt := 25) hx hb dX12_reopen_18 (by decide) (fun c103 => ?_) (fun c103 => (by exfalso; have bd_Va0 := i_bd Va0; (try simp only [i_lt, i_le, i_eq, kc_0] at c102 c103); omega))
    refine lv_aload_n hx hb dX12_reopen_25 rfl (lv_at hl 0 rfl) ?_
    refine va_get (D := (dC, dI)) (ci := 15) (v := .int 0) (C := RX12) (T := TX12) (N := 150) hx hb hts (in_z_X12_reopen_X12) hown hK hP 0 rfl rfl 148 (by decide) (hts (.fieldLink RX12 1027 "HeapWorksModel" "logged" "I") (by decide +kernel)) (fun _ h9 => h9) (ow_at o_s101 1 rfl) dX12_reopen_26 ?_
    refine lv_istore_n (lv' := [(2, .int 0), (0, .ref Ad0), (1, .int Va0)]) hx hb dX12_reopen_29 rfl hl (by decide) rfl (fun ls hl => ?_)
    refine lv_aload_n hx hb dX12_reopen_30 rfl (lv_at hl 1 rfl) ?_
    refine lv_iconst (v := 0) hx hb dX12_reopen_31 (by decide) ?_
    refine va_put (D := (dC, dI)) (ci := 15) (v := .int 0) (ty := .int) (C := RX12) (T := TX12) (N := 150) hx hb hts (in_z_X12_reopen_X12) tyX12 tyX12_ok nmX12 hown hK hP hD hS 0 rfl rfl 149 (by decide) (hts (.fieldLink RX12 1030 "HeapWorksModel" "records" "I") (by decide +kernel)) (fun _ h9 => h9) rfl (by decide +kernel) rfl rfl (by rw [o_s101.2.1]; decide) dX12_reopen_32 (fun H locs hP hD hS => ?_)
    have hP : va_P (dC, dI) vwCl [(Ad0, .inr (15, (s101.set 149 (.int 0))))] H := hP
    have hD : va_D A [(Ad0, .inr (15, (s101.set 149 (.int 0))))] := hD
    have o_s104 := ow_set o_s101 149 (.int 0) (by decide) (l' := [(149, .int 0), (0, .int 0), (148, .int 0)]) (w' := [149, 0]) rfl rfl
    generalize (s101.set 149 (.int 0)) = s104 at hP hD o_s104
    refine lv_aload_n hx hb dX12_reopen_35 rfl (lv_at hl 1 rfl) ?_
    refine lv_iconst (v := 0) hx hb dX12_reopen_36 (by decide) ?_
    refine va_put (D := (dC, dI)) (ci := 15) (v := .int 0) (ty := .int) (C := RX12) (T := TX12) (N := 150) hx hb hts (in_z_X12_reopen_X12) tyX12 tyX12_ok nmX12 hown hK hP hD hS 0 rfl rfl 148 (by decide) (hts (.fieldLink RX12 1027 "HeapWorksModel" "logged" "I") (by decide +kernel)) (fun _ h9 => h9) rfl (by decide +kernel) rfl rfl (by rw [o_s104.2.1]; decide) dX12_reopen_37 (fun H locs hP hD hS => ?_)
    have hP : va_P (dC, dI) vwCl [(Ad0, .inr (15, (s104.set 148 (.int 0))))] H := hP
    have hD : va_D A [(Ad0, .inr (15, (s104.set 148 (.int 0))))] := hD
    have o_s105 := ow_set o_s104 148 (.int 0) (by decide) (l' := [(148, .int 0), (149, .int 0), (0, .int 0)]) (w' := [148, 149, 0]) rfl rfl
    generalize (s104.set 148 (.int 0)) = s105 at hP hD o_s105
    refine lv_iconst (v := 1) hx hb dX12_reopen_40 (by decide) ?_
    refine lv_istore_n (lv' := [(3, .int 1), (2, .int 0), (0, .ref Ad0), (1, .int Va0)]) hx hb dX12_reopen_41 rfl hl (by decide) rfl (fun ls hl => ?_)
    refine lv_iload_n hx hb dX12_reopen_42 rfl (lv_at hl 0 rfl) ?_
    refine lv_if_eq (tgt := 194) hx hb dX12_reopen_43 (by decide) (fun c106 => absurd c106 (by decide)) (fun c106 => ?_)
    refine lv_aload_n hx hb dX12_reopen_46 rfl (lv_at hl 2 rfl) ?_
    refine va_get (D := (dC, dI)) (ci := 15) (v := .int 0) (C := RX12) (T := TX12) (N := 150) hx hb hts (in_z_X12_reopen_X12) hown hK hP 0 rfl rfl 148 (by decide) (hts (.fieldLink RX12 1027 "HeapWorksModel" "logged" "I") (by decide +kernel)) (fun _ h9 => h9) (ow_at o_s105 0 rfl) dX12_reopen_47 ?_
    refine lv_iconst (v := 2) hx hb dX12_reopen_50 (by decide) ?_
    refine lv_iadd hx hb dX12_reopen_51  ?_
    refine lv_topi (fun x107 ex107 => ?_)
    obtain rfl : x107 = 2 := ex107.trans (by decide)
    refine lv_iload_n hx hb dX12_reopen_52 rfl (lv_at hl 1 rfl) ?_
    refine lv_icmp_gt (tgt := 92) hx hb dX12_reopen_53 (by decide) (fun c108 => ?_) (fun c108 => absurd c108 (by decide))
    refine lv_sipush (v := 9999) hx hb dX12_reopen_92 (by decide) ?_
    refine lv_istore (lv' := [(4, .int 9999), (3, .int 1), (2, .int 0), (0, .ref Ad0), (1, .int Va0)]) hx hb dX12_reopen_95 hl (by decide) rfl (fun ls hl => ?_)
    refine lv_aload_n hx hb dX12_reopen_97 rfl (lv_at hl 3 rfl) ?_
    refine va_get (D := (dC, dI)) (ci := 15) (v := .int 0) (C := RX12) (T := TX12) (N := 150) hx hb hts (in_z_X12_reopen_X12) hown hK hP 0 rfl rfl 148 (by decide) (hts (.fieldLink RX12 1027 "HeapWorksModel" "logged" "I") (by decide +kernel)) (fun _ h9 => h9) (ow_at o_s105 0 rfl) dX12_reopen_98 ?_
    refine lv_iconst (v := 2) hx hb dX12_reopen_101 (by decide) ?_
    refine lv_iadd hx hb dX12_reopen_102  ?_
    refine lv_topi (fun x109 ex109 => ?_)
    obtain rfl : x109 = 2 := ex109.trans (by decide)
    refine lv_iload hx hb dX12_reopen_103 (lv_at hl 0 rfl) ?_
    refine lv_iadd hx hb dX12_reopen_105  ?_
    refine lv_topi (fun x110 ex110 => ?_)
    obtain rfl : x110 = 10001 := ex110.trans (by decide)
    refine lv_iload_n hx hb dX12_reopen_106 rfl (lv_at hl 2 rfl) ?_
    refine lv_icmp_gt (tgt := 114) hx hb dX12_reopen_107 (by decide) (fun c111 => ?_) (fun c111 => absurd c111 (by decide))
    refine lv_iconst (v := 0) hx hb dX12_reopen_114 (by decide) ?_
    refine lv_istore_n (lv' := [(3, .int 0), (4, .int 9999), (2, .int 0), (0, .ref Ad0), (1, .int Va0)]) hx hb dX12_reopen_115 rfl hl (by decide) rfl (fun ls hl => ?_)
    refine lv_iload_n hx hb dX12_reopen_116 rfl (lv_at hl 0 rfl) ?_
    refine lv_if_ne (tgt := 123) hx hb dX12_reopen_117 (by decide) (fun c112 => absurd c112 (by decide)) (fun c112 => ?_)
    refine lv_goto (tgt := 42) hx hb dX12_reopen_120 (by decide) ?_
    refine lv_iload_n hx hb dX12_reopen_42 rfl (lv_at hl 0 rfl) ?_
    refine lv_if_eq (tgt := 194) hx hb dX12_reopen_43 (by decide) (fun c113 => ?_) (fun c113 => absurd c113 (by decide))
    refine lv_aload_n hx hb dX12_reopen_194 rfl (lv_at hl 3 rfl) ?_
    refine va_get (D := (dC, dI)) (ci := 15) (v := .int 0) (C := RX12) (T := TX12) (N := 150) hx hb hts (in_z_X12_reopen_X12) hown hK hP 0 rfl rfl 149 (by decide) (hts (.fieldLink RX12 1030 "HeapWorksModel" "records" "I") (by decide +kernel)) (fun _ h9 => h9) (ow_at o_s105 1 rfl) dX12_reopen_195 ?_
    have hP9 := hP.sub (ws' := [(Ad0, .inr (15, s105))]) [0] rfl
    have hD9 := hD.sub (ws' := [(Ad0, .inr (15, s105))]) [0] (by decide) rfl
    have hK9 := hK.sub (tys' := []) [] rfl
    exact W.iret (v := 0) hx hb hr (fun t ht hW => ⟨⟨0, s105, rfl, (Or.inl ⟨c102, c103, rfl, o_s105⟩), by rw [ht]; exact hP9, va_K.moved hW.alike hK9, hD9⟩, hS.F ht⟩) hS.2.2 dX12_reopen_198
  · skip
    refine lv_iconst (v := 0) hx hb dX12_reopen_9 (by decide) ?_
    refine lv_goto (tgt := 29) hx hb dX12_reopen_10 (by decide) ?_
    refine lv_istore_n (lv' := [(2, .int 0), (0, .ref Ad0), (1, .int Va0)]) hx hb dX12_reopen_29 rfl hl (by decide) rfl (fun ls hl => ?_)
    refine lv_aload_n hx hb dX12_reopen_30 rfl (lv_at hl 1 rfl) ?_
    refine lv_iconst (v := 0) hx hb dX12_reopen_31 (by decide) ?_
    refine va_put (D := (dC, dI)) (ci := 15) (v := .int 0) (ty := .int) (C := RX12) (T := TX12) (N := 150) hx hb hts (in_z_X12_reopen_X12) tyX12 tyX12_ok nmX12 hown hK hP hD hS 0 rfl rfl 149 (by decide) (hts (.fieldLink RX12 1030 "HeapWorksModel" "records" "I") (by decide +kernel)) (fun _ h9 => h9) rfl (by decide +kernel) rfl rfl (by rw [o_s101.2.1]; decide) dX12_reopen_32 (fun H locs hP hD hS => ?_)
    have hP : va_P (dC, dI) vwCl [(Ad0, .inr (15, (s101.set 149 (.int 0))))] H := hP
    have hD : va_D A [(Ad0, .inr (15, (s101.set 149 (.int 0))))] := hD
    have o_s114 := ow_set o_s101 149 (.int 0) (by decide) (l' := [(149, .int 0), (0, .int 0), (148, .int 0)]) (w' := [149, 0]) rfl rfl
    generalize (s101.set 149 (.int 0)) = s114 at hP hD o_s114
    refine lv_aload_n hx hb dX12_reopen_35 rfl (lv_at hl 1 rfl) ?_
    refine lv_iconst (v := 0) hx hb dX12_reopen_36 (by decide) ?_
    refine va_put (D := (dC, dI)) (ci := 15) (v := .int 0) (ty := .int) (C := RX12) (T := TX12) (N := 150) hx hb hts (in_z_X12_reopen_X12) tyX12 tyX12_ok nmX12 hown hK hP hD hS 0 rfl rfl 148 (by decide) (hts (.fieldLink RX12 1027 "HeapWorksModel" "logged" "I") (by decide +kernel)) (fun _ h9 => h9) rfl (by decide +kernel) rfl rfl (by rw [o_s114.2.1]; decide) dX12_reopen_37 (fun H locs hP hD hS => ?_)
    have hP : va_P (dC, dI) vwCl [(Ad0, .inr (15, (s114.set 148 (.int 0))))] H := hP
    have hD : va_D A [(Ad0, .inr (15, (s114.set 148 (.int 0))))] := hD
    have o_s115 := ow_set o_s114 148 (.int 0) (by decide) (l' := [(148, .int 0), (149, .int 0), (0, .int 0)]) (w' := [148, 149, 0]) rfl rfl
    generalize (s114.set 148 (.int 0)) = s115 at hP hD o_s115
    refine lv_iconst (v := 1) hx hb dX12_reopen_40 (by decide) ?_
    refine lv_istore_n (lv' := [(3, .int 1), (2, .int 0), (0, .ref Ad0), (1, .int Va0)]) hx hb dX12_reopen_41 rfl hl (by decide) rfl (fun ls hl => ?_)
    refine lv_iload_n hx hb dX12_reopen_42 rfl (lv_at hl 0 rfl) ?_
    refine lv_if_eq (tgt := 194) hx hb dX12_reopen_43 (by decide) (fun c116 => absurd c116 (by decide)) (fun c116 => ?_)
    refine lv_aload_n hx hb dX12_reopen_46 rfl (lv_at hl 2 rfl) ?_
    refine va_get (D := (dC, dI)) (ci := 15) (v := .int 0) (C := RX12) (T := TX12) (N := 150) hx hb hts (in_z_X12_reopen_X12) hown hK hP 0 rfl rfl 148 (by decide) (hts (.fieldLink RX12 1027 "HeapWorksModel" "logged" "I") (by decide +kernel)) (fun _ h9 => h9) (ow_at o_s115 0 rfl) dX12_reopen_47 ?_
    refine lv_iconst (v := 2) hx hb dX12_reopen_50 (by decide) ?_
    refine lv_iadd hx hb dX12_reopen_51  ?_
    refine lv_topi (fun x117 ex117 => ?_)
    obtain rfl : x117 = 2 := ex117.trans (by decide)
    refine lv_iload_n hx hb dX12_reopen_52 rfl (lv_at hl 1 rfl) ?_
    refine lv_icmp_gt (tgt := 92) hx hb dX12_reopen_53 (by decide) (fun c118 => ?_) (fun c118 => absurd c118 (by decide))
    refine lv_sipush (v := 9999) hx hb dX12_reopen_92 (by decide) ?_
    refine lv_istore (lv' := [(4, .int 9999), (3, .int 1), (2, .int 0), (0, .ref Ad0), (1, .int Va0)]) hx hb dX12_reopen_95 hl (by decide) rfl (fun ls hl => ?_)
    refine lv_aload_n hx hb dX12_reopen_97 rfl (lv_at hl 3 rfl) ?_
    refine va_get (D := (dC, dI)) (ci := 15) (v := .int 0) (C := RX12) (T := TX12) (N := 150) hx hb hts (in_z_X12_reopen_X12) hown hK hP 0 rfl rfl 148 (by decide) (hts (.fieldLink RX12 1027 "HeapWorksModel" "logged" "I") (by decide +kernel)) (fun _ h9 => h9) (ow_at o_s115 0 rfl) dX12_reopen_98 ?_
    refine lv_iconst (v := 2) hx hb dX12_reopen_101 (by decide) ?_
    refine lv_iadd hx hb dX12_reopen_102  ?_
    refine lv_topi (fun x119 ex119 => ?_)
    obtain rfl : x119 = 2 := ex119.trans (by decide)
    refine lv_iload hx hb dX12_reopen_103 (lv_at hl 0 rfl) ?_
    refine lv_iadd hx hb dX12_reopen_105  ?_
    refine lv_topi (fun x120 ex120 => ?_)
    obtain rfl : x120 = 10001 := ex120.trans (by decide)
    refine lv_iload_n hx hb dX12_reopen_106 rfl (lv_at hl 2 rfl) ?_
    refine lv_icmp_gt (tgt := 114) hx hb dX12_reopen_107 (by decide) (fun c121 => ?_) (fun c121 => absurd c121 (by decide))
    refine lv_iconst (v := 0) hx hb dX12_reopen_114 (by decide) ?_
    refine lv_istore_n (lv' := [(3, .int 0), (4, .int 9999), (2, .int 0), (0, .ref Ad0), (1, .int Va0)]) hx hb dX12_reopen_115 rfl hl (by decide) rfl (fun ls hl => ?_)
    refine lv_iload_n hx hb dX12_reopen_116 rfl (lv_at hl 0 rfl) ?_
    refine lv_if_ne (tgt := 123) hx hb dX12_reopen_117 (by decide) (fun c122 => absurd c122 (by decide)) (fun c122 => ?_)
    refine lv_goto (tgt := 42) hx hb dX12_reopen_120 (by decide) ?_
    refine lv_iload_n hx hb dX12_reopen_42 rfl (lv_at hl 0 rfl) ?_
    refine lv_if_eq (tgt := 194) hx hb dX12_reopen_43 (by decide) (fun c123 => ?_) (fun c123 => absurd c123 (by decide))
    refine lv_aload_n hx hb dX12_reopen_194 rfl (lv_at hl 3 rfl) ?_
    refine va_get (D := (dC, dI)) (ci := 15) (v := .int 0) (C := RX12) (T := TX12) (N := 150) hx hb hts (in_z_X12_reopen_X12) hown hK hP 0 rfl rfl 149 (by decide) (hts (.fieldLink RX12 1030 "HeapWorksModel" "records" "I") (by decide +kernel)) (fun _ h9 => h9) (ow_at o_s115 1 rfl) dX12_reopen_195 ?_
    have hP9 := hP.sub (ws' := [(Ad0, .inr (15, s115))]) [0] rfl
    have hD9 := hD.sub (ws' := [(Ad0, .inr (15, s115))]) [0] (by decide) rfl
    have hK9 := hK.sub (tys' := []) [] rfl
    exact W.iret (v := 0) hx hb hr (fun t ht hW => ⟨⟨0, s115, rfl, (Or.inr (⟨c102, rfl, o_s115⟩)), by rw [ht]; exact hP9, va_K.moved hW.alike hK9, hD9⟩, hS.F ht⟩) hS.2.2 dX12_reopen_198

def l_z_X12_recall : List Cond := [.methodLink RX12 542 yX12_isPicture, .instanceMethod yX12_isPicture, .selects RX12 yX12_isPicture yX12_isPicture, .initialized RX12, .fieldLink RX12 388 "HeapWorksModel" "thrown" "I", .fieldLink RX12 1030 "HeapWorksModel" "records" "I", .code yX12_isPicture cX12_isPicture 2 (some .boolean)]
def w_z_X12_recall : List Cond := .code yX12_recall cX12_recall 3 (some .int) :: (l_z_X12_recall ++ (wsX120))
theorem in_z_X12_recall_X12 : ∀ w ∈ wsX120, w ∈ w_z_X12_recall := fun w h => List.mem_cons_of_mem _ (List.mem_append_right _ (h))
theorem g_z_X12_recall_z_X12_isPicture_542 : GoodIn w_z_X12_recall (wsV RX12 542 RX12 yX12_isPicture w_z_X12_isPicture) := goodIn_app (goodIn_r (([.methodLink RX12 542 yX12_isPicture, .instanceMethod yX12_isPicture, .selects RX12 yX12_isPicture yX12_isPicture, .initialized RX12] : List Cond)) [1, 2, 3, 4] rfl (by decide +kernel)) (goodIn_r (.code yX12_isPicture cX12_isPicture 2 (some .boolean) :: l_z_X12_isPicture) [7] rfl (by decide +kernel))
set_option maxHeartbeats 4000000 in
set_option maxRecDepth 100000 in
theorem z_X12_recall (l : Launch) (dC : Nat → ClassId) (dI : Nat → Nat → Nat) (sz : Nat) (Ad0 : Nat) (Fs0 : List Value) (Va0 : Int32) (Va1 : Int32) (k_Fs0 : fh Fs0 150 [(0, .int 0), (149, .int 0)])  : Met l yX12_recall w_z_X12_recall ({ frames := 1, cells := 0, slots := 0, locals := 21 }) (va_Pc [.ref Ad0, .int Va0, .int Va1] (fun U => U.heap.size = sz ∧ Wd dC dI [] (fun _ => True) [(Ad0, .inr (15, Fs0))] U)) (va_Qi (fun (r : Int32) (u : List Value) => (Va0 < 0 ∧ r = 0 ∧ ow Fs0 (u) 150 [0] [(0, .int 1), (149, .int 0)]) ∨ (¬ Va0 < 0 ∧ 4 ≤ Va0 ∧ r = 0 ∧ ow Fs0 (u) 150 [0] [(0, .int 1), (149, .int 0)]) ∨ (¬ Va0 < 0 ∧ ¬ 4 ≤ Va0 ∧ Va1 < 0 ∧ r = 0 ∧ ow Fs0 (u) 150 [0] [(0, .int 2), (149, .int 0)]) ∨ (¬ Va0 < 0 ∧ ¬ 4 ≤ Va0 ∧ ¬ Va1 < 0 ∧ ¬ Va1 < 0 ∧ r = 0 ∧ ow Fs0 (u) 150 [0] [(0, .int 2), (149, .int 0)])) (fun (u : List Value) t => Wd dC dI [] (va_A [(Ad0, .inr (15, Fs0))] sz) [(Ad0, .inr (15, (u)))] t) (va_A [(Ad0, .inr (15, Fs0))] sz))  0 0 (va_A [(Ad0, .inr (15, Fs0))] sz) := by
  refine Met.ofW (cc := cX12_recall) (maxL := 3) (ret := (some .int)) (by decide) rfl ?_
  intro p e s m args below meth c s₁ B hml hv
  obtain ⟨rfl, hsz, hP, hK, hD0⟩ := hv
  have hx := B.exec
  have hb := B.bytes
  have hr := B.returns
  have hts := atoms_spec (ws := w_z_X12_recall) B.pre
  have hown : s.vm.findClass RX12 = some m.cls := findClass_of_methodNamed B.named
  have hlocks := B.notSynchronized
  subst hsz
  have hD := hD0.self (sz := s.heap.size)
  generalize hAe : va_A [(Ad0, .inr (15, Fs0))] s.heap.size = A at hD ⊢
  have hA : ∀ q : Nat, s.heap.size ≤ q → A q := fun q h => by rw [← hAe]; exact Or.inr h
  have hS : va_S A s.heap s.heap [] := va_S.rf
  have hl := lv_entry ([.ref Ad0, .int Va0, .int Va1]) (n := 3) (Nat.le_of_ble_eq_true rfl)
  rw [lg_entry_eq]
  generalize (lg_sl ([.ref Ad0, .int Va0, .int Va1]) ++ List.replicate (3 - (lg_sl ([.ref Ad0, .int Va0, .int Va1])).length) Slot.unset).toArray = ls at hl ⊢
  have hl : lv_has ls 3 [(0, .ref Ad0), (1, .int Va0), (2, .int Va1)] := hl
  have o_Fs0 := ow_0 k_Fs0
  refine lv_aload_n hx hb dX12_recall_0 rfl (lv_at hl 0 rfl) ?_
  refine lv_aload_n hx hb dX12_recall_1 rfl (lv_at hl 0 rfl) ?_
  refine lv_iload_n hx hb dX12_recall_2 rfl (lv_at hl 1 rfl) ?_
  have hPc := hP.sub (ws' := []) [] rfl
  have hDc := hD.sub (ws' := []) [] (by decide) rfl
  have hKc := hK.sub (tys' := []) [] rfl
  have hFc := va_free (wc := []) hD hS hA [] rfl
  refine va_calli (va_runV (As := [.int Va0]) (rest := [.ref Ad0]) ⟨hx, hb, hml, hown, hts⟩ (z_X12_isPicture l dC dI s.heap.size Ad0 Va0  ) (cwV 1 hts g_z_X12_recall_z_X12_isPicture_542 rfl rfl rfl (by decide +kernel) ⟨Nat.le_of_ble_eq_true rfl, Nat.le_of_ble_eq_true rfl⟩) ⟨fun a U g mk q => by obtain ⟨q0, q1, qP, qK, qD⟩ := q; exact ⟨q0, q1, qP, va_K.moved (u := U) (U := U.calling g mk a) (Vm.Alike.refl U.vm) qK, qD⟩, va_recv hK hP (ci := 15) (q0 := 0) rfl rfl, fun U hU hW => ⟨rfl, by rw [hU], by rw [hU]; exact hPc, va_K.moved hW.alike hKc, hDc.weaken (fun _ _ _ _ => trivial)⟩⟩ rfl rfl hl.1 rfl (lv_room (Nat.le_of_ble_eq_true rfl)) dX12_recall_3 ⟨Nat.le_of_ble_eq_true rfl, Nat.le_of_ble_eq_true rfl⟩) hS (fun q _ h => hFc q h) hFc (fun r101 u t H1 locs ht hvm hw hB hz1 hk1 hS => ?_)
  obtain ⟨hP1, hK1, hD1⟩ := hB
  rw [ht] at hP1
  try dsimp only at hw
  obtain ⟨hP, hD⟩ := va_join (wr := [(Ad0, .inr (15, Fs0))]) (w1 := []) hP hD [] [0] rfl rfl (by decide) (by decide) hk1 hFc hP1 hD1
  have hK := hK.sub (tys' := []) [] rfl
  generalize H1 = H at hP hS ⊢
  have hP : va_P (dC, dI) vwCl [(Ad0, .inr (15, Fs0))] H := hP
  have hD : va_D A [(Ad0, .inr (15, Fs0))] := hD
  rcases hw with ⟨c102, er103⟩ | ⟨c104, c105, er106⟩ | ⟨c107, c108, er109⟩
  · skip
    subst er103
    refine lv_if_eq (tgt := 29) hx hb dX12_recall_6 (by decide) (fun c110 => ?_) (fun c110 => absurd c110 (by decide))
    refine lv_iconst (v := 1) hx hb dX12_recall_29 (by decide) ?_
    refine va_put (D := (dC, dI)) (ci := 15) (v := .int 1) (ty := .int) (C := RX12) (T := TX12) (N := 150) hx hb hts (in_z_X12_recall_X12) tyX12 tyX12_ok nmX12 hown hK hP hD hS 0 rfl rfl 0 (by decide) (hts (.fieldLink RX12 388 "HeapWorksModel" "thrown" "I") (by decide +kernel)) (fun _ h9 => h9) rfl (by decide +kernel) rfl rfl (by rw [o_Fs0.2.1]; decide) dX12_recall_30 (fun H locs hP hD hS => ?_)
    have hP : va_P (dC, dI) vwCl [(Ad0, .inr (15, (Fs0.set 0 (.int 1))))] H := hP
    have hD : va_D A [(Ad0, .inr (15, (Fs0.set 0 (.int 1))))] := hD
    have o_s111 := ow_set o_Fs0 0 (.int 1) (by decide) (l' := [(0, .int 1), (149, .int 0)]) (w' := [0]) rfl rfl
    generalize (Fs0.set 0 (.int 1)) = s111 at hP hD o_s111
    refine lv_aload_n hx hb dX12_recall_33 rfl (lv_at hl 0 rfl) ?_
    refine va_get (D := (dC, dI)) (ci := 15) (v := .int 1) (C := RX12) (T := TX12) (N := 150) hx hb hts (in_z_X12_recall_X12) hown hK hP 0 rfl rfl 0 (by decide) (hts (.fieldLink RX12 388 "HeapWorksModel" "thrown" "I") (by decide +kernel)) (fun _ h9 => h9) (ow_at o_s111 0 rfl) dX12_recall_34 ?_
    refine lv_if_le (tgt := 42) hx hb dX12_recall_37 (by decide) (fun c112 => absurd c112 (by decide)) (fun c112 => ?_)
    refine lv_iconst (v := 0) hx hb dX12_recall_40 (by decide) ?_
    have hP9 := hP.sub (ws' := [(Ad0, .inr (15, s111))]) [0] rfl
    have hD9 := hD.sub (ws' := [(Ad0, .inr (15, s111))]) [0] (by decide) rfl
    have hK9 := hK.sub (tys' := []) [] rfl
    exact W.iret (v := 0) hx hb hr (fun t ht hW => ⟨⟨0, s111, rfl, (Or.inl ⟨c102, rfl, o_s111⟩), by rw [ht]; exact hP9, va_K.moved hW.alike hK9, hD9⟩, hS.F ht⟩) hS.2.2 dX12_recall_41
  · skip
    subst er106
    refine lv_if_eq (tgt := 29) hx hb dX12_recall_6 (by decide) (fun c113 => ?_) (fun c113 => absurd c113 (by decide))
    refine lv_iconst (v := 1) hx hb dX12_recall_29 (by decide) ?_
    refine va_put (D := (dC, dI)) (ci := 15) (v := .int 1) (ty := .int) (C := RX12) (T := TX12) (N := 150) hx hb hts (in_z_X12_recall_X12) tyX12 tyX12_ok nmX12 hown hK hP hD hS 0 rfl rfl 0 (by decide) (hts (.fieldLink RX12 388 "HeapWorksModel" "thrown" "I") (by decide +kernel)) (fun _ h9 => h9) rfl (by decide +kernel) rfl rfl (by rw [o_Fs0.2.1]; decide) dX12_recall_30 (fun H locs hP hD hS => ?_)
    have hP : va_P (dC, dI) vwCl [(Ad0, .inr (15, (Fs0.set 0 (.int 1))))] H := hP
    have hD : va_D A [(Ad0, .inr (15, (Fs0.set 0 (.int 1))))] := hD
    have o_s114 := ow_set o_Fs0 0 (.int 1) (by decide) (l' := [(0, .int 1), (149, .int 0)]) (w' := [0]) rfl rfl
    generalize (Fs0.set 0 (.int 1)) = s114 at hP hD o_s114
    refine lv_aload_n hx hb dX12_recall_33 rfl (lv_at hl 0 rfl) ?_
    refine va_get (D := (dC, dI)) (ci := 15) (v := .int 1) (C := RX12) (T := TX12) (N := 150) hx hb hts (in_z_X12_recall_X12) hown hK hP 0 rfl rfl 0 (by decide) (hts (.fieldLink RX12 388 "HeapWorksModel" "thrown" "I") (by decide +kernel)) (fun _ h9 => h9) (ow_at o_s114 0 rfl) dX12_recall_34 ?_
    refine lv_if_le (tgt := 42) hx hb dX12_recall_37 (by decide) (fun c115 => absurd c115 (by decide)) (fun c115 => ?_)
    refine lv_iconst (v := 0) hx hb dX12_recall_40 (by decide) ?_
    have hP9 := hP.sub (ws' := [(Ad0, .inr (15, s114))]) [0] rfl
    have hD9 := hD.sub (ws' := [(Ad0, .inr (15, s114))]) [0] (by decide) rfl
    have hK9 := hK.sub (tys' := []) [] rfl
    exact W.iret (v := 0) hx hb hr (fun t ht hW => ⟨⟨0, s114, rfl, (Or.inr (Or.inl ⟨c104, c105, rfl, o_s114⟩)), by rw [ht]; exact hP9, va_K.moved hW.alike hK9, hD9⟩, hS.F ht⟩) hS.2.2 dX12_recall_41
  · skip
    subst er109
    refine lv_if_eq (tgt := 29) hx hb dX12_recall_6 (by decide) (fun c116 => absurd c116 (by decide)) (fun c116 => ?_)
    refine lv_iload_n hx hb dX12_recall_9 rfl (lv_at hl 2 rfl) ?_
    refine lv_if_lt (tgt := 21) hx hb dX12_recall_10 (by decide) (fun c117 => ?_) (fun c117 => ?_)
    · skip
      refine lv_iconst (v := 2) hx hb dX12_recall_21 (by decide) ?_
      refine lv_goto (tgt := 30) hx hb dX12_recall_22 (by decide) ?_
      refine va_put (D := (dC, dI)) (ci := 15) (v := .int 2) (ty := .int) (C := RX12) (T := TX12) (N := 150) hx hb hts (in_z_X12_recall_X12) tyX12 tyX12_ok nmX12 hown hK hP hD hS 0 rfl rfl 0 (by decide) (hts (.fieldLink RX12 388 "HeapWorksModel" "thrown" "I") (by decide +kernel)) (fun _ h9 => h9) rfl (by decide +kernel) rfl rfl (by rw [o_Fs0.2.1]; decide) dX12_recall_30 (fun H locs hP hD hS => ?_)
      have hP : va_P (dC, dI) vwCl [(Ad0, .inr (15, (Fs0.set 0 (.int 2))))] H := hP
      have hD : va_D A [(Ad0, .inr (15, (Fs0.set 0 (.int 2))))] := hD
      have o_s118 := ow_set o_Fs0 0 (.int 2) (by decide) (l' := [(0, .int 2), (149, .int 0)]) (w' := [0]) rfl rfl
      generalize (Fs0.set 0 (.int 2)) = s118 at hP hD o_s118
      refine lv_aload_n hx hb dX12_recall_33 rfl (lv_at hl 0 rfl) ?_
      refine va_get (D := (dC, dI)) (ci := 15) (v := .int 2) (C := RX12) (T := TX12) (N := 150) hx hb hts (in_z_X12_recall_X12) hown hK hP 0 rfl rfl 0 (by decide) (hts (.fieldLink RX12 388 "HeapWorksModel" "thrown" "I") (by decide +kernel)) (fun _ h9 => h9) (ow_at o_s118 0 rfl) dX12_recall_34 ?_
      refine lv_if_le (tgt := 42) hx hb dX12_recall_37 (by decide) (fun c119 => absurd c119 (by decide)) (fun c119 => ?_)
      refine lv_iconst (v := 0) hx hb dX12_recall_40 (by decide) ?_
      have hP9 := hP.sub (ws' := [(Ad0, .inr (15, s118))]) [0] rfl
      have hD9 := hD.sub (ws' := [(Ad0, .inr (15, s118))]) [0] (by decide) rfl
      have hK9 := hK.sub (tys' := []) [] rfl
      exact W.iret (v := 0) hx hb hr (fun t ht hW => ⟨⟨0, s118, rfl, (Or.inr (Or.inr (Or.inl ⟨c107, c108, c117, rfl, o_s118⟩))), by rw [ht]; exact hP9, va_K.moved hW.alike hK9, hD9⟩, hS.F ht⟩) hS.2.2 dX12_recall_41
    · skip
      refine lv_iload_n hx hb dX12_recall_13 rfl (lv_at hl 2 rfl) ?_
      refine lv_aload_n hx hb dX12_recall_14 rfl (lv_at hl 0 rfl) ?_
      refine va_get (D := (dC, dI)) (ci := 15) (v := .int 0) (C := RX12) (T := TX12) (N := 150) hx hb hts (in_z_X12_recall_X12) hown hK hP 0 rfl rfl 149 (by decide) (hts (.fieldLink RX12 1030 "HeapWorksModel" "records" "I") (by decide +kernel)) (fun _ h9 => h9) (ow_at o_Fs0 1 rfl) dX12_recall_15 ?_
      refine lv_icmp_lt (tgt := 25) hx hb dX12_recall_18 (by decide) (fun c120 => (by exfalso; have bd_Va1 := i_bd Va1; (try simp only [i_lt, i_le, i_eq, kc_0] at c117 c120); omega)) (fun c120 => ?_)
      refine lv_iconst (v := 2) hx hb dX12_recall_21 (by decide) ?_
      refine lv_goto (tgt := 30) hx hb dX12_recall_22 (by decide) ?_
      refine va_put (D := (dC, dI)) (ci := 15) (v := .int 2) (ty := .int) (C := RX12) (T := TX12) (N := 150) hx hb hts (in_z_X12_recall_X12) tyX12 tyX12_ok nmX12 hown hK hP hD hS 0 rfl rfl 0 (by decide) (hts (.fieldLink RX12 388 "HeapWorksModel" "thrown" "I") (by decide +kernel)) (fun _ h9 => h9) rfl (by decide +kernel) rfl rfl (by rw [o_Fs0.2.1]; decide) dX12_recall_30 (fun H locs hP hD hS => ?_)
      have hP : va_P (dC, dI) vwCl [(Ad0, .inr (15, (Fs0.set 0 (.int 2))))] H := hP
      have hD : va_D A [(Ad0, .inr (15, (Fs0.set 0 (.int 2))))] := hD
      have o_s121 := ow_set o_Fs0 0 (.int 2) (by decide) (l' := [(0, .int 2), (149, .int 0)]) (w' := [0]) rfl rfl
      generalize (Fs0.set 0 (.int 2)) = s121 at hP hD o_s121
      refine lv_aload_n hx hb dX12_recall_33 rfl (lv_at hl 0 rfl) ?_
      refine va_get (D := (dC, dI)) (ci := 15) (v := .int 2) (C := RX12) (T := TX12) (N := 150) hx hb hts (in_z_X12_recall_X12) hown hK hP 0 rfl rfl 0 (by decide) (hts (.fieldLink RX12 388 "HeapWorksModel" "thrown" "I") (by decide +kernel)) (fun _ h9 => h9) (ow_at o_s121 0 rfl) dX12_recall_34 ?_
      refine lv_if_le (tgt := 42) hx hb dX12_recall_37 (by decide) (fun c122 => absurd c122 (by decide)) (fun c122 => ?_)
      refine lv_iconst (v := 0) hx hb dX12_recall_40 (by decide) ?_
      have hP9 := hP.sub (ws' := [(Ad0, .inr (15, s121))]) [0] rfl
      have hD9 := hD.sub (ws' := [(Ad0, .inr (15, s121))]) [0] (by decide) rfl
      have hK9 := hK.sub (tys' := []) [] rfl
      exact W.iret (v := 0) hx hb hr (fun t ht hW => ⟨⟨0, s121, rfl, (Or.inr (Or.inr (Or.inr (⟨c107, c108, c117, c120, rfl, o_s121⟩)))), by rw [ht]; exact hP9, va_K.moved hW.alike hK9, hD9⟩, hS.F ht⟩) hS.2.2 dX12_recall_41

def l_z_X12_about : List Cond := [.fieldLink RX12 388 "HeapWorksModel" "thrown" "I", .fieldLink RX12 435 "HeapWorksModel" "objects" "I", .fieldLink RX12 391 "HeapWorksModel" "taped" "I", .fieldLink RX12 413 "HeapWorksModel" "classes" "I", .fieldLink RX12 461 "HeapWorksModel" "slotsThere" "I", .fieldLink RX12 470 "HeapWorksModel" "toldMany" "I", .fieldLink RX12 482 "HeapWorksModel" "writes" "I", .fieldLink RX12 479 "HeapWorksModel" "undos" "I", .fieldLink RX12 1030 "HeapWorksModel" "records" "I", .fieldLink RX12 1027 "HeapWorksModel" "logged" "I", .fieldLink RX12 485 "HeapWorksModel" "watches" "I", .fieldLink RX12 872 "HeapWorksModel" "promises" "I", .fieldLink RX12 852 "HeapWorksModel" "answers" "I", .fieldLink RX12 905 "HeapWorksModel" "relations" "I"]
def w_z_X12_about : List Cond := .code yX12_about cX12_about 4 (some .int) :: (l_z_X12_about ++ (wsX120))
theorem in_z_X12_about_X12 : ∀ w ∈ wsX120, w ∈ w_z_X12_about := fun w h => List.mem_cons_of_mem _ (List.mem_append_right _ (h))
set_option maxHeartbeats 4000000 in
set_option maxRecDepth 100000 in
theorem z_X12_about (l : Launch) (dC : Nat → ClassId) (dI : Nat → Nat → Nat) (sz : Nat) (Ad0 : Nat) (Fs0 : List Value) (Va0 : Int32) (k_Fs0 : fh Fs0 150 [(3, .int 0), (20, .int 0), (26, .int 0), (28, .int 0), (29, .int 0), (31, .int 0), (36, .int 0), (44, .int 0), (110, .int 0), (113, .int 0), (133, .int 0), (148, .int 0), (149, .int 0)])  : Met l yX12_about w_z_X12_about ({ frames := 0, cells := 0, slots := 0, locals := 0 }) (va_Pc [.ref Ad0, .int Va0] (fun U => U.heap.size = sz ∧ Wd dC dI [] (fun _ => True) [(Ad0, .inr (15, Fs0))] U)) (va_Qi (fun (r : Int32) (u : List Value) => (Va0 = 0 ∧ r = 0 ∧ ow Fs0 (u) 150 [0] [(0, .int 0), (3, .int 0), (20, .int 0), (26, .int 0), (28, .int 0), (29, .int 0), (31, .int 0), (36, .int 0), (44, .int 0), (110, .int 0), (113, .int 0), (133, .int 0), (148, .int 0), (149, .int 0)]) ∨ (Va0 = 1 ∧ r = 0 ∧ ow Fs0 (u) 150 [0] [(0, .int 0), (3, .int 0), (20, .int 0), (26, .int 0), (28, .int 0), (29, .int 0), (31, .int 0), (36, .int 0), (44, .int 0), (110, .int 0), (113, .int 0), (133, .int 0), (148, .int 0), (149, .int 0)]) ∨ (Va0 = 2 ∧ r = 0 ∧ ow Fs0 (u) 150 [0] [(0, .int 0), (3, .int 0), (20, .int 0), (26, .int 0), (28, .int 0), (29, .int 0), (31, .int 0), (36, .int 0), (44, .int 0), (110, .int 0), (113, .int 0), (133, .int 0), (148, .int 0), (149, .int 0)]) ∨ (Va0 = 3 ∧ r = 0 ∧ ow Fs0 (u) 150 [0] [(0, .int 0), (3, .int 0), (20, .int 0), (26, .int 0), (28, .int 0), (29, .int 0), (31, .int 0), (36, .int 0), (44, .int 0), (110, .int 0), (113, .int 0), (133, .int 0), (148, .int 0), (149, .int 0)]) ∨ (Va0 = 4 ∧ r = 0 ∧ ow Fs0 (u) 150 [0] [(0, .int 0), (3, .int 0), (20, .int 0), (26, .int 0), (28, .int 0), (29, .int 0), (31, .int 0), (36, .int 0), (44, .int 0), (110, .int 0), (113, .int 0), (133, .int 0), (148, .int 0), (149, .int 0)]) ∨ (Va0 = 5 ∧ r = 0 ∧ ow Fs0 (u) 150 [0] [(0, .int 0), (3, .int 0), (20, .int 0), (26, .int 0), (28, .int 0), (29, .int 0), (31, .int 0), (36, .int 0), (44, .int 0), (110, .int 0), (113, .int 0), (133, .int 0), (148, .int 0), (149, .int 0)]) ∨ (Va0 = 6 ∧ r = 0 ∧ ow Fs0 (u) 150 [0] [(0, .int 0), (3, .int 0), (20, .int 0), (26, .int 0), (28, .int 0), (29, .int 0), (31, .int 0), (36, .int 0), (44, .int 0), (110, .int 0), (113, .int 0), (133, .int 0), (148, .int 0), (149, .int 0)]) ∨ (Va0 = 7 ∧ r = 0 ∧ ow Fs0 (u) 150 [0] [(0, .int 0), (3, .int 0), (20, .int 0), (26, .int 0), (28, .int 0), (29, .int 0), (31, .int 0), (36, .int 0), (44, .int 0), (110, .int 0), (113, .int 0), (133, .int 0), (148, .int 0), (149, .int 0)]) ∨ (Va0 = 8 ∧ r = 0 ∧ ow Fs0 (u) 150 [0] [(0, .int 0), (3, .int 0), (20, .int 0), (26, .int 0), (28, .int 0), (29, .int 0), (31, .int 0), (36, .int 0), (44, .int 0), (110, .int 0), (113, .int 0), (133, .int 0), (148, .int 0), (149, .int 0)]) ∨ (Va0 = 9 ∧ r = 0 ∧ ow Fs0 (u) 150 [0] [(0, .int 0), (3, .int 0), (20, .int 0), (26, .int 0), (28, .int 0), (29, .int 0), (31, .int 0), (36, .int 0), (44, .int 0), (110, .int 0), (113, .int 0), (133, .int 0), (148, .int 0), (149, .int 0)]) ∨ (Va0 = 10 ∧ r = 0 ∧ ow Fs0 (u) 150 [0] [(0, .int 0), (3, .int 0), (20, .int 0), (26, .int 0), (28, .int 0), (29, .int 0), (31, .int 0), (36, .int 0), (44, .int 0), (110, .int 0), (113, .int 0), (133, .int 0), (148, .int 0), (149, .int 0)]) ∨ (Va0 = 11 ∧ r = 0 ∧ ow Fs0 (u) 150 [0] [(0, .int 0), (3, .int 0), (20, .int 0), (26, .int 0), (28, .int 0), (29, .int 0), (31, .int 0), (36, .int 0), (44, .int 0), (110, .int 0), (113, .int 0), (133, .int 0), (148, .int 0), (149, .int 0)]) ∨ (Va0 = 12 ∧ r = 0 ∧ ow Fs0 (u) 150 [0] [(0, .int 0), (3, .int 0), (20, .int 0), (26, .int 0), (28, .int 0), (29, .int 0), (31, .int 0), (36, .int 0), (44, .int 0), (110, .int 0), (113, .int 0), (133, .int 0), (148, .int 0), (149, .int 0)]) ∨ (¬ Va0 = 0 ∧ ¬ Va0 = 1 ∧ ¬ Va0 = 2 ∧ ¬ Va0 = 3 ∧ ¬ Va0 = 4 ∧ ¬ Va0 = 5 ∧ ¬ Va0 = 6 ∧ ¬ Va0 = 7 ∧ ¬ Va0 = 8 ∧ ¬ Va0 = 9 ∧ ¬ Va0 = 10 ∧ ¬ Va0 = 11 ∧ ¬ Va0 = 12 ∧ r = (-1) ∧ ow Fs0 (u) 150 [0] [(0, .int 0), (3, .int 0), (20, .int 0), (26, .int 0), (28, .int 0), (29, .int 0), (31, .int 0), (36, .int 0), (44, .int 0), (110, .int 0), (113, .int 0), (133, .int 0), (148, .int 0), (149, .int 0)])) (fun (u : List Value) t => Wd dC dI [] (va_A [(Ad0, .inr (15, Fs0))] sz) [(Ad0, .inr (15, (u)))] t) (va_A [(Ad0, .inr (15, Fs0))] sz))  0 0 (va_A [(Ad0, .inr (15, Fs0))] sz) := by
  refine Met.ofW (cc := cX12_about) (maxL := 4) (ret := (some .int)) (by decide) rfl ?_
  intro p e s m args below meth c s₁ B hml hv
  obtain ⟨rfl, hsz, hP, hK, hD0⟩ := hv
  have hx := B.exec
  have hb := B.bytes
  have hr := B.returns
  have hts := atoms_spec (ws := w_z_X12_about) B.pre
  have hown : s.vm.findClass RX12 = some m.cls := findClass_of_methodNamed B.named
  have hlocks := B.notSynchronized
  subst hsz
  have hD := hD0.self (sz := s.heap.size)
  generalize hAe : va_A [(Ad0, .inr (15, Fs0))] s.heap.size = A at hD ⊢
  have hA : ∀ q : Nat, s.heap.size ≤ q → A q := fun q h => by rw [← hAe]; exact Or.inr h
  have hS : va_S A s.heap s.heap [] := va_S.rf
  have hl := lv_entry ([.ref Ad0, .int Va0]) (n := 4) (Nat.le_of_ble_eq_true rfl)
  rw [lg_entry_eq]
  generalize (lg_sl ([.ref Ad0, .int Va0]) ++ List.replicate (4 - (lg_sl ([.ref Ad0, .int Va0])).length) Slot.unset).toArray = ls at hl ⊢
  have hl : lv_has ls 4 [(0, .ref Ad0), (1, .int Va0)] := hl
  have o_Fs0 := ow_0 k_Fs0
  refine lv_aload_n hx hb dX12_about_0 rfl (lv_at hl 0 rfl) ?_
  refine lv_iconst (v := 0) hx hb dX12_about_1 (by decide) ?_
  refine va_put (D := (dC, dI)) (ci := 15) (v := .int 0) (ty := .int) (C := RX12) (T := TX12) (N := 150) hx hb hts (in_z_X12_about_X12) tyX12 tyX12_ok nmX12 hown hK hP hD hS 0 rfl rfl 0 (by decide) (hts (.fieldLink RX12 388 "HeapWorksModel" "thrown" "I") (by decide +kernel)) (fun _ h9 => h9) rfl (by decide +kernel) rfl rfl (by rw [o_Fs0.2.1]; decide) dX12_about_2 (fun H locs hP hD hS => ?_)
  have hP : va_P (dC, dI) vwCl [(Ad0, .inr (15, (Fs0.set 0 (.int 0))))] H := hP
  have hD : va_D A [(Ad0, .inr (15, (Fs0.set 0 (.int 0))))] := hD
  have o_s101 := ow_set o_Fs0 0 (.int 0) (by decide) (l' := [(0, .int 0), (3, .int 0), (20, .int 0), (26, .int 0), (28, .int 0), (29, .int 0), (31, .int 0), (36, .int 0), (44, .int 0), (110, .int 0), (113, .int 0), (133, .int 0), (148, .int 0), (149, .int 0)]) (w' := [0]) rfl rfl
  generalize (Fs0.set 0 (.int 0)) = s101 at hP hD o_s101
  refine lv_iconst (v := 0) hx hb dX12_about_5 (by decide) ?_
  refine lv_istore_n (lv' := [(2, .int 0), (0, .ref Ad0), (1, .int Va0)]) hx hb dX12_about_6 rfl hl (by decide) rfl (fun ls hl => ?_)
  refine lv_iconst (v := 0) hx hb dX12_about_7 (by decide) ?_
  refine lv_istore_n (lv' := [(3, .int 0), (2, .int 0), (0, .ref Ad0), (1, .int Va0)]) hx hb dX12_about_8 rfl hl (by decide) rfl (fun ls hl => ?_)
  refine lv_iload_n hx hb dX12_about_9 rfl (lv_at hl 0 rfl) ?_
  refine lv_aload_n hx hb dX12_about_10 rfl (lv_at hl 2 rfl) ?_
  refine va_get (D := (dC, dI)) (ci := 15) (v := .int 0) (C := RX12) (T := TX12) (N := 150) hx hb hts (in_z_X12_about_X12) hown hK hP 0 rfl rfl 26 (by decide) (hts (.fieldLink RX12 435 "HeapWorksModel" "objects" "I") (by decide +kernel)) (fun _ h9 => h9) (ow_at o_s101 3 rfl) dX12_about_11 ?_
  refine lv_icmp_ge (tgt := 40) hx hb dX12_about_14 (by decide) (fun c102 => ?_) (fun c102 => absurd c102 (by decide))
  refine lv_iload_n hx hb dX12_about_40 rfl (lv_at hl 3 rfl) ?_
  by_cases c103 : Va0 = 0
  · refine lv_tableIn (off := 67) (tgt := 108) hx hb dX12_about_41 (by rw [c103]; decide) (by rw [c103]; decide) (by rw [c103]; decide) (by decide) ?_
    refine lv_aload_n hx hb dX12_about_108 rfl (lv_at hl 2 rfl) ?_
    refine va_get (D := (dC, dI)) (ci := 15) (v := .int 0) (C := RX12) (T := TX12) (N := 150) hx hb hts (in_z_X12_about_X12) hown hK hP 0 rfl rfl 3 (by decide) (hts (.fieldLink RX12 391 "HeapWorksModel" "taped" "I") (by decide +kernel)) (fun _ h9 => h9) (ow_at o_s101 1 rfl) dX12_about_109 ?_
    have hP9 := hP.sub (ws' := [(Ad0, .inr (15, s101))]) [0] rfl
    have hD9 := hD.sub (ws' := [(Ad0, .inr (15, s101))]) [0] (by decide) rfl
    have hK9 := hK.sub (tys' := []) [] rfl
    exact W.iret (v := 0) hx hb hr (fun t ht hW => ⟨⟨0, s101, rfl, (Or.inl ⟨c103, rfl, o_s101⟩), by rw [ht]; exact hP9, va_K.moved hW.alike hK9, hD9⟩, hS.F ht⟩) hS.2.2 dX12_about_112
  by_cases c104 : Va0 = 1
  · refine lv_tableIn (off := 72) (tgt := 113) hx hb dX12_about_41 (by rw [c104]; decide) (by rw [c104]; decide) (by rw [c104]; decide) (by decide) ?_
    refine lv_aload_n hx hb dX12_about_113 rfl (lv_at hl 2 rfl) ?_
    refine va_get (D := (dC, dI)) (ci := 15) (v := .int 0) (C := RX12) (T := TX12) (N := 150) hx hb hts (in_z_X12_about_X12) hown hK hP 0 rfl rfl 20 (by decide) (hts (.fieldLink RX12 413 "HeapWorksModel" "classes" "I") (by decide +kernel)) (fun _ h9 => h9) (ow_at o_s101 2 rfl) dX12_about_114 ?_
    have hP9 := hP.sub (ws' := [(Ad0, .inr (15, s101))]) [0] rfl
    have hD9 := hD.sub (ws' := [(Ad0, .inr (15, s101))]) [0] (by decide) rfl
    have hK9 := hK.sub (tys' := []) [] rfl
    exact W.iret (v := 0) hx hb hr (fun t ht hW => ⟨⟨0, s101, rfl, (Or.inr (Or.inl ⟨c104, rfl, o_s101⟩)), by rw [ht]; exact hP9, va_K.moved hW.alike hK9, hD9⟩, hS.F ht⟩) hS.2.2 dX12_about_117
  by_cases c105 : Va0 = 2
  · refine lv_tableIn (off := 77) (tgt := 118) hx hb dX12_about_41 (by rw [c105]; decide) (by rw [c105]; decide) (by rw [c105]; decide) (by decide) ?_
    refine lv_iload_n hx hb dX12_about_118 rfl (lv_at hl 1 rfl) ?_
    have hP9 := hP.sub (ws' := [(Ad0, .inr (15, s101))]) [0] rfl
    have hD9 := hD.sub (ws' := [(Ad0, .inr (15, s101))]) [0] (by decide) rfl
    have hK9 := hK.sub (tys' := []) [] rfl
    exact W.iret (v := 0) hx hb hr (fun t ht hW => ⟨⟨0, s101, rfl, (Or.inr (Or.inr (Or.inl ⟨c105, rfl, o_s101⟩))), by rw [ht]; exact hP9, va_K.moved hW.alike hK9, hD9⟩, hS.F ht⟩) hS.2.2 dX12_about_119
  by_cases c106 : Va0 = 3
  · refine lv_tableIn (off := 79) (tgt := 120) hx hb dX12_about_41 (by rw [c106]; decide) (by rw [c106]; decide) (by rw [c106]; decide) (by decide) ?_
    refine lv_aload_n hx hb dX12_about_120 rfl (lv_at hl 2 rfl) ?_
    refine va_get (D := (dC, dI)) (ci := 15) (v := .int 0) (C := RX12) (T := TX12) (N := 150) hx hb hts (in_z_X12_about_X12) hown hK hP 0 rfl rfl 28 (by decide) (hts (.fieldLink RX12 461 "HeapWorksModel" "slotsThere" "I") (by decide +kernel)) (fun _ h9 => h9) (ow_at o_s101 4 rfl) dX12_about_121 ?_
    have hP9 := hP.sub (ws' := [(Ad0, .inr (15, s101))]) [0] rfl
    have hD9 := hD.sub (ws' := [(Ad0, .inr (15, s101))]) [0] (by decide) rfl
    have hK9 := hK.sub (tys' := []) [] rfl
    exact W.iret (v := 0) hx hb hr (fun t ht hW => ⟨⟨0, s101, rfl, (Or.inr (Or.inr (Or.inr (Or.inl ⟨c106, rfl, o_s101⟩)))), by rw [ht]; exact hP9, va_K.moved hW.alike hK9, hD9⟩, hS.F ht⟩) hS.2.2 dX12_about_124
  by_cases c107 : Va0 = 4
  · refine lv_tableIn (off := 84) (tgt := 125) hx hb dX12_about_41 (by rw [c107]; decide) (by rw [c107]; decide) (by rw [c107]; decide) (by decide) ?_
    refine lv_aload_n hx hb dX12_about_125 rfl (lv_at hl 2 rfl) ?_
    refine va_get (D := (dC, dI)) (ci := 15) (v := .int 0) (C := RX12) (T := TX12) (N := 150) hx hb hts (in_z_X12_about_X12) hown hK hP 0 rfl rfl 31 (by decide) (hts (.fieldLink RX12 470 "HeapWorksModel" "toldMany" "I") (by decide +kernel)) (fun _ h9 => h9) (ow_at o_s101 6 rfl) dX12_about_126 ?_
    have hP9 := hP.sub (ws' := [(Ad0, .inr (15, s101))]) [0] rfl
    have hD9 := hD.sub (ws' := [(Ad0, .inr (15, s101))]) [0] (by decide) rfl
    have hK9 := hK.sub (tys' := []) [] rfl
    exact W.iret (v := 0) hx hb hr (fun t ht hW => ⟨⟨0, s101, rfl, (Or.inr (Or.inr (Or.inr (Or.inr (Or.inl ⟨c107, rfl, o_s101⟩))))), by rw [ht]; exact hP9, va_K.moved hW.alike hK9, hD9⟩, hS.F ht⟩) hS.2.2 dX12_about_129
  by_cases c108 : Va0 = 5
  · refine lv_tableIn (off := 89) (tgt := 130) hx hb dX12_about_41 (by rw [c108]; decide) (by rw [c108]; decide) (by rw [c108]; decide) (by decide) ?_
    refine lv_aload_n hx hb dX12_about_130 rfl (lv_at hl 2 rfl) ?_
    refine va_get (D := (dC, dI)) (ci := 15) (v := .int 0) (C := RX12) (T := TX12) (N := 150) hx hb hts (in_z_X12_about_X12) hown hK hP 0 rfl rfl 29 (by decide) (hts (.fieldLink RX12 482 "HeapWorksModel" "writes" "I") (by decide +kernel)) (fun _ h9 => h9) (ow_at o_s101 5 rfl) dX12_about_131 ?_
    have hP9 := hP.sub (ws' := [(Ad0, .inr (15, s101))]) [0] rfl
    have hD9 := hD.sub (ws' := [(Ad0, .inr (15, s101))]) [0] (by decide) rfl
    have hK9 := hK.sub (tys' := []) [] rfl
    exact W.iret (v := 0) hx hb hr (fun t ht hW => ⟨⟨0, s101, rfl, (Or.inr (Or.inr (Or.inr (Or.inr (Or.inr (Or.inl ⟨c108, rfl, o_s101⟩)))))), by rw [ht]; exact hP9, va_K.moved hW.alike hK9, hD9⟩, hS.F ht⟩) hS.2.2 dX12_about_134
  by_cases c109 : Va0 = 6
  · refine lv_tableIn (off := 94) (tgt := 135) hx hb dX12_about_41 (by rw [c109]; decide) (by rw [c109]; decide) (by rw [c109]; decide) (by decide) ?_
    refine lv_aload_n hx hb dX12_about_135 rfl (lv_at hl 2 rfl) ?_
    refine va_get (D := (dC, dI)) (ci := 15) (v := .int 0) (C := RX12) (T := TX12) (N := 150) hx hb hts (in_z_X12_about_X12) hown hK hP 0 rfl rfl 36 (by decide) (hts (.fieldLink RX12 479 "HeapWorksModel" "undos" "I") (by decide +kernel)) (fun _ h9 => h9) (ow_at o_s101 7 rfl) dX12_about_136 ?_
    have hP9 := hP.sub (ws' := [(Ad0, .inr (15, s101))]) [0] rfl
    have hD9 := hD.sub (ws' := [(Ad0, .inr (15, s101))]) [0] (by decide) rfl
    have hK9 := hK.sub (tys' := []) [] rfl
    exact W.iret (v := 0) hx hb hr (fun t ht hW => ⟨⟨0, s101, rfl, (Or.inr (Or.inr (Or.inr (Or.inr (Or.inr (Or.inr (Or.inl ⟨c109, rfl, o_s101⟩))))))), by rw [ht]; exact hP9, va_K.moved hW.alike hK9, hD9⟩, hS.F ht⟩) hS.2.2 dX12_about_139
  by_cases c110 : Va0 = 7
  · refine lv_tableIn (off := 99) (tgt := 140) hx hb dX12_about_41 (by rw [c110]; decide) (by rw [c110]; decide) (by rw [c110]; decide) (by decide) ?_
    refine lv_aload_n hx hb dX12_about_140 rfl (lv_at hl 2 rfl) ?_
    refine va_get (D := (dC, dI)) (ci := 15) (v := .int 0) (C := RX12) (T := TX12) (N := 150) hx hb hts (in_z_X12_about_X12) hown hK hP 0 rfl rfl 149 (by decide) (hts (.fieldLink RX12 1030 "HeapWorksModel" "records" "I") (by decide +kernel)) (fun _ h9 => h9) (ow_at o_s101 13 rfl) dX12_about_141 ?_
    have hP9 := hP.sub (ws' := [(Ad0, .inr (15, s101))]) [0] rfl
    have hD9 := hD.sub (ws' := [(Ad0, .inr (15, s101))]) [0] (by decide) rfl
    have hK9 := hK.sub (tys' := []) [] rfl
    exact W.iret (v := 0) hx hb hr (fun t ht hW => ⟨⟨0, s101, rfl, (Or.inr (Or.inr (Or.inr (Or.inr (Or.inr (Or.inr (Or.inr (Or.inl ⟨c110, rfl, o_s101⟩)))))))), by rw [ht]; exact hP9, va_K.moved hW.alike hK9, hD9⟩, hS.F ht⟩) hS.2.2 dX12_about_144
  by_cases c111 : Va0 = 8
  · refine lv_tableIn (off := 104) (tgt := 145) hx hb dX12_about_41 (by rw [c111]; decide) (by rw [c111]; decide) (by rw [c111]; decide) (by decide) ?_
    refine lv_aload_n hx hb dX12_about_145 rfl (lv_at hl 2 rfl) ?_
    refine va_get (D := (dC, dI)) (ci := 15) (v := .int 0) (C := RX12) (T := TX12) (N := 150) hx hb hts (in_z_X12_about_X12) hown hK hP 0 rfl rfl 148 (by decide) (hts (.fieldLink RX12 1027 "HeapWorksModel" "logged" "I") (by decide +kernel)) (fun _ h9 => h9) (ow_at o_s101 12 rfl) dX12_about_146 ?_
    have hP9 := hP.sub (ws' := [(Ad0, .inr (15, s101))]) [0] rfl
    have hD9 := hD.sub (ws' := [(Ad0, .inr (15, s101))]) [0] (by decide) rfl
    have hK9 := hK.sub (tys' := []) [] rfl
    exact W.iret (v := 0) hx hb hr (fun t ht hW => ⟨⟨0, s101, rfl, (Or.inr (Or.inr (Or.inr (Or.inr (Or.inr (Or.inr (Or.inr (Or.inr (Or.inl ⟨c111, rfl, o_s101⟩))))))))), by rw [ht]; exact hP9, va_K.moved hW.alike hK9, hD9⟩, hS.F ht⟩) hS.2.2 dX12_about_149
  by_cases c112 : Va0 = 9
  · refine lv_tableIn (off := 109) (tgt := 150) hx hb dX12_about_41 (by rw [c112]; decide) (by rw [c112]; decide) (by rw [c112]; decide) (by decide) ?_
    refine lv_aload_n hx hb dX12_about_150 rfl (lv_at hl 2 rfl) ?_
    refine va_get (D := (dC, dI)) (ci := 15) (v := .int 0) (C := RX12) (T := TX12) (N := 150) hx hb hts (in_z_X12_about_X12) hown hK hP 0 rfl rfl 44 (by decide) (hts (.fieldLink RX12 485 "HeapWorksModel" "watches" "I") (by decide +kernel)) (fun _ h9 => h9) (ow_at o_s101 8 rfl) dX12_about_151 ?_
    have hP9 := hP.sub (ws' := [(Ad0, .inr (15, s101))]) [0] rfl
    have hD9 := hD.sub (ws' := [(Ad0, .inr (15, s101))]) [0] (by decide) rfl
    have hK9 := hK.sub (tys' := []) [] rfl
    exact W.iret (v := 0) hx hb hr (fun t ht hW => ⟨⟨0, s101, rfl, (Or.inr (Or.inr (Or.inr (Or.inr (Or.inr (Or.inr (Or.inr (Or.inr (Or.inr (Or.inl ⟨c112, rfl, o_s101⟩)))))))))), by rw [ht]; exact hP9, va_K.moved hW.alike hK9, hD9⟩, hS.F ht⟩) hS.2.2 dX12_about_154
  by_cases c113 : Va0 = 10
  · refine lv_tableIn (off := 114) (tgt := 155) hx hb dX12_about_41 (by rw [c113]; decide) (by rw [c113]; decide) (by rw [c113]; decide) (by decide) ?_
    refine lv_aload_n hx hb dX12_about_155 rfl (lv_at hl 2 rfl) ?_
    refine va_get (D := (dC, dI)) (ci := 15) (v := .int 0) (C := RX12) (T := TX12) (N := 150) hx hb hts (in_z_X12_about_X12) hown hK hP 0 rfl rfl 113 (by decide) (hts (.fieldLink RX12 872 "HeapWorksModel" "promises" "I") (by decide +kernel)) (fun _ h9 => h9) (ow_at o_s101 10 rfl) dX12_about_156 ?_
    have hP9 := hP.sub (ws' := [(Ad0, .inr (15, s101))]) [0] rfl
    have hD9 := hD.sub (ws' := [(Ad0, .inr (15, s101))]) [0] (by decide) rfl
    have hK9 := hK.sub (tys' := []) [] rfl
    exact W.iret (v := 0) hx hb hr (fun t ht hW => ⟨⟨0, s101, rfl, (Or.inr (Or.inr (Or.inr (Or.inr (Or.inr (Or.inr (Or.inr (Or.inr (Or.inr (Or.inr (Or.inl ⟨c113, rfl, o_s101⟩))))))))))), by rw [ht]; exact hP9, va_K.moved hW.alike hK9, hD9⟩, hS.F ht⟩) hS.2.2 dX12_about_159
  by_cases c114 : Va0 = 11
  · refine lv_tableIn (off := 119) (tgt := 160) hx hb dX12_about_41 (by rw [c114]; decide) (by rw [c114]; decide) (by rw [c114]; decide) (by decide) ?_
    refine lv_aload_n hx hb dX12_about_160 rfl (lv_at hl 2 rfl) ?_
    refine va_get (D := (dC, dI)) (ci := 15) (v := .int 0) (C := RX12) (T := TX12) (N := 150) hx hb hts (in_z_X12_about_X12) hown hK hP 0 rfl rfl 110 (by decide) (hts (.fieldLink RX12 852 "HeapWorksModel" "answers" "I") (by decide +kernel)) (fun _ h9 => h9) (ow_at o_s101 9 rfl) dX12_about_161 ?_
    have hP9 := hP.sub (ws' := [(Ad0, .inr (15, s101))]) [0] rfl
    have hD9 := hD.sub (ws' := [(Ad0, .inr (15, s101))]) [0] (by decide) rfl
    have hK9 := hK.sub (tys' := []) [] rfl
    exact W.iret (v := 0) hx hb hr (fun t ht hW => ⟨⟨0, s101, rfl, (Or.inr (Or.inr (Or.inr (Or.inr (Or.inr (Or.inr (Or.inr (Or.inr (Or.inr (Or.inr (Or.inr (Or.inl ⟨c114, rfl, o_s101⟩)))))))))))), by rw [ht]; exact hP9, va_K.moved hW.alike hK9, hD9⟩, hS.F ht⟩) hS.2.2 dX12_about_164
  by_cases c115 : Va0 = 12
  · refine lv_tableIn (off := 124) (tgt := 165) hx hb dX12_about_41 (by rw [c115]; decide) (by rw [c115]; decide) (by rw [c115]; decide) (by decide) ?_
    refine lv_aload_n hx hb dX12_about_165 rfl (lv_at hl 2 rfl) ?_
    refine va_get (D := (dC, dI)) (ci := 15) (v := .int 0) (C := RX12) (T := TX12) (N := 150) hx hb hts (in_z_X12_about_X12) hown hK hP 0 rfl rfl 133 (by decide) (hts (.fieldLink RX12 905 "HeapWorksModel" "relations" "I") (by decide +kernel)) (fun _ h9 => h9) (ow_at o_s101 11 rfl) dX12_about_166 ?_
    have hP9 := hP.sub (ws' := [(Ad0, .inr (15, s101))]) [0] rfl
    have hD9 := hD.sub (ws' := [(Ad0, .inr (15, s101))]) [0] (by decide) rfl
    have hK9 := hK.sub (tys' := []) [] rfl
    exact W.iret (v := 0) hx hb hr (fun t ht hW => ⟨⟨0, s101, rfl, (Or.inr (Or.inr (Or.inr (Or.inr (Or.inr (Or.inr (Or.inr (Or.inr (Or.inr (Or.inr (Or.inr (Or.inr (Or.inl ⟨c115, rfl, o_s101⟩))))))))))))), by rw [ht]; exact hP9, va_K.moved hW.alike hK9, hD9⟩, hS.F ht⟩) hS.2.2 dX12_about_169
  refine lv_tableOut (tgt := 170) hx hb dX12_about_41 (by (try simp only [i_eq, i_lt, i_le, kc_0, kc_1, kc_2, kc_3, kc_4, kc_5, kc_6, kc_7, kc_8, kc_9, kc_10, kc_11, kc_12] at c103 c104 c105 c106 c107 c108 c109 c110 c111 c112 c113 c114 c115); omega) (by decide) ?_
  refine lv_iconst (v := (-1)) hx hb dX12_about_170 (by decide) ?_
  have hP9 := hP.sub (ws' := [(Ad0, .inr (15, s101))]) [0] rfl
  have hD9 := hD.sub (ws' := [(Ad0, .inr (15, s101))]) [0] (by decide) rfl
  have hK9 := hK.sub (tys' := []) [] rfl
  exact W.iret (v := (-1)) hx hb hr (fun t ht hW => ⟨⟨(-1), s101, rfl, (Or.inr (Or.inr (Or.inr (Or.inr (Or.inr (Or.inr (Or.inr (Or.inr (Or.inr (Or.inr (Or.inr (Or.inr (Or.inr (⟨c103, c104, c105, c106, c107, c108, c109, c110, c111, c112, c113, c114, c115, rfl, o_s101⟩)))))))))))))), by rw [ht]; exact hP9, va_K.moved hW.alike hK9, hD9⟩, hS.F ht⟩) hS.2.2 dX12_about_171

