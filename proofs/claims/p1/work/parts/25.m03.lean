def l_z_X12_collect : List Cond := [.fieldLink RX12 388 "HeapWorksModel" "thrown" "I", .methodLink RX12 539 yX12_walkRoots, .instanceMethod yX12_walkRoots, .selects RX12 yX12_walkRoots yX12_walkRoots, .initialized RX12, .fieldLink RX12 435 "HeapWorksModel" "objects" "I", .fieldLink RX12 479 "HeapWorksModel" "undos" "I", .code yX12_walkRoots cX12_walkRoots 2 none, .methodLink RX12 532 yX12_beginWalk, .instanceMethod yX12_beginWalk, .selects RX12 yX12_beginWalk yX12_beginWalk, .fieldLink RX12 470 "HeapWorksModel" "toldMany" "I", .fieldLink RX12 413 "HeapWorksModel" "classes" "I", .fieldLink RX12 522 "HeapWorksModel" "walkedMany" "I", .code yX12_beginWalk cX12_beginWalk 2 none, .fieldLink RX12 180 "HeapWorksModel" "placeIn" "[I"]
def w_z_X12_collect : List Cond := .code yX12_collect cX12_collect 3 (some .int) :: (l_z_X12_collect ++ (wsX120))
theorem in_z_X12_collect_X12 : ∀ w ∈ wsX120, w ∈ w_z_X12_collect := fun w h => List.mem_cons_of_mem _ (List.mem_append_right _ (h))
theorem g_z_X12_collect_z_X12_walkRoots_539 : GoodIn w_z_X12_collect (wsV RX12 539 RX12 yX12_walkRoots w_z_X12_walkRoots) := goodIn_app (goodIn_r (([.methodLink RX12 539 yX12_walkRoots, .instanceMethod yX12_walkRoots, .selects RX12 yX12_walkRoots yX12_walkRoots, .initialized RX12] : List Cond)) [2, 3, 4, 5] rfl (by decide +kernel)) (goodIn_ca (goodIn_r (.code yX12_walkRoots cX12_walkRoots 2 none :: l_z_X12_walkRoots) [8, 9, 10, 11, 5, 12, 13, 14, 15, 16] rfl (by decide +kernel)) (goodIn_in (in_z_X12_collect_X12) gd_X12))
set_option maxHeartbeats 4000000 in
set_option maxRecDepth 100000 in
theorem z_X12_collect (l : Launch) (dC : Nat → ClassId) (dI : Nat → Nat → Nat) (sz : Nat) (Ad0 : Nat) (Fs0 : List Value) (Ad1 : Nat) (Fa0 : Nat → Int32) (Ka0 : ClassId) (k_Fs0 : fh Fs0 150 [(20, .int 0), (26, .int 0), (31, .int 0), (46, .ref Ad1), (47, .int 0)])  : Met l yX12_collect w_z_X12_collect ({ frames := 2, cells := 0, slots := 0, locals := 42 }) (va_Pc [.ref Ad0] (fun U => U.heap.size = sz ∧ Wd dC dI [(Ka0, .int)] (fun _ => True) [(Ad0, .inr (15, Fs0)), (Ad1, .inl (Ka0, 400, .inl Fa0))] U)) (va_Qi (fun (r : Int32) (u : List Value × (Nat → Int32)) => (r = 0 ∧ ow Fs0 (u.1) 150 [36, 47, 0] [(36, .int 0), (47, .int 0), (46, .ref Ad1), (20, .int 0), (31, .int 0), (46, .ref Ad1), (0, .int 0), (20, .int 0), (26, .int 0), (31, .int 0), (46, .ref Ad1)])) (fun (u : List Value × (Nat → Int32)) t => Wd dC dI [(Ka0, .int)] (va_A [(Ad0, .inr (15, Fs0)), (Ad1, .inl (Ka0, 400, .inl Fa0))] sz) [(Ad0, .inr (15, (u.1))), (Ad1, .inl (Ka0, 400, .inl ((u.2))))] t) (va_A [(Ad0, .inr (15, Fs0)), (Ad1, .inl (Ka0, 400, .inl Fa0))] sz))  0 0 (va_A [(Ad0, .inr (15, Fs0)), (Ad1, .inl (Ka0, 400, .inl Fa0))] sz) := by
  refine Met.ofW (cc := cX12_collect) (maxL := 3) (ret := (some .int)) (by decide) rfl ?_
  intro p e s m args below meth c s₁ B hml hv
  obtain ⟨rfl, hsz, hP, hK, hD0⟩ := hv
  have hx := B.exec
  have hb := B.bytes
  have hr := B.returns
  have hts := atoms_spec (ws := w_z_X12_collect) B.pre
  have hown : s.vm.findClass RX12 = some m.cls := findClass_of_methodNamed B.named
  have hlocks := B.notSynchronized
  subst hsz
  have hD := hD0.self (sz := s.heap.size)
  generalize hAe : va_A [(Ad0, .inr (15, Fs0)), (Ad1, .inl (Ka0, 400, .inl Fa0))] s.heap.size = A at hD ⊢
  have hA : ∀ q : Nat, s.heap.size ≤ q → A q := fun q h => by rw [← hAe]; exact Or.inr h
  have hS : va_S A s.heap s.heap [] := va_S.rf
  have hl := lv_entry ([.ref Ad0]) (n := 3) (Nat.le_of_ble_eq_true rfl)
  rw [lg_entry_eq]
  generalize (lg_sl ([.ref Ad0]) ++ List.replicate (3 - (lg_sl ([.ref Ad0])).length) Slot.unset).toArray = ls at hl ⊢
  have hl : lv_has ls 3 [(0, .ref Ad0)] := hl
  have o_Fs0 := ow_0 k_Fs0
  refine lv_aload_n hx hb dX12_collect_0 rfl (lv_at hl 0 rfl) ?_
  refine lv_iconst (v := 0) hx hb dX12_collect_1 (by decide) ?_
  refine va_put (D := (dC, dI)) (ci := 15) (v := .int 0) (ty := .int) (C := RX12) (T := TX12) (N := 150) hx hb hts (in_z_X12_collect_X12) tyX12 tyX12_ok nmX12 hown hK hP hD hS 0 rfl rfl 0 (by decide) (hts (.fieldLink RX12 388 "HeapWorksModel" "thrown" "I") (by decide +kernel)) (fun _ h9 => h9) rfl (by decide +kernel) rfl rfl (by rw [o_Fs0.2.1]; decide) dX12_collect_2 (fun H locs hP hD hS => ?_)
  have hP : va_P (dC, dI) vwCl [(Ad0, .inr (15, (Fs0.set 0 (.int 0)))), (Ad1, .inl (Ka0, 400, .inl Fa0))] H := hP
  have hD : va_D A [(Ad0, .inr (15, (Fs0.set 0 (.int 0)))), (Ad1, .inl (Ka0, 400, .inl Fa0))] := hD
  have o_s101 := ow_set o_Fs0 0 (.int 0) (by decide) (l' := [(0, .int 0), (20, .int 0), (26, .int 0), (31, .int 0), (46, .ref Ad1), (47, .int 0)]) (w' := [0]) rfl rfl
  generalize (Fs0.set 0 (.int 0)) = s101 at hP hD o_s101
  refine lv_aload_n hx hb dX12_collect_5 rfl (lv_at hl 0 rfl) ?_
  have hPc := hP.sub (ws' := [(Ad0, .inr (15, s101)), (Ad1, .inl (Ka0, 400, .inl Fa0))]) [0, 1] rfl
  have hDc := hD.sub (ws' := [(Ad0, .inr (15, s101)), (Ad1, .inl (Ka0, 400, .inl Fa0))]) [0, 1] (by decide) rfl
  have hKc := hK.sub (tys' := [(Ka0, .int)]) [0] rfl
  have hFc := va_free (wc := [(Ad0, .inr (15, s101)), (Ad1, .inl (Ka0, 400, .inl Fa0))]) hD hS hA [0, 1] rfl
  refine va_callv (va_runV (As := []) (rest := []) ⟨hx, hb, hml, hown, hts⟩ (z_X12_walkRoots l dC dI H.size Ad0 s101 Ad1 Fa0 Ka0 (fh_sub o_s101.2 [1, 3, 4, 5] rfl) ) (cwV 0 hts g_z_X12_collect_z_X12_walkRoots_539 rfl rfl rfl (by decide +kernel) ⟨Nat.le_of_ble_eq_true rfl, Nat.le_of_ble_eq_true rfl⟩) ⟨fun a U g mk q => by obtain ⟨q0, q1, qP, qK, qD⟩ := q; exact ⟨q0, q1, qP, va_K.moved (u := U) (U := U.calling g mk a) (Vm.Alike.refl U.vm) qK, qD⟩, va_recv hK hP (ci := 15) (q0 := 0) rfl rfl, fun U hU hW => ⟨rfl, by rw [hU], by rw [hU]; exact hPc, va_K.moved hW.alike hKc, hDc.weaken (fun _ _ _ _ => trivial)⟩⟩ rfl rfl hl.1 rfl (lv_room (Nat.le_of_ble_eq_true rfl)) dX12_collect_6 ⟨Nat.le_of_ble_eq_true rfl, Nat.le_of_ble_eq_true rfl⟩) hS (fun q _ h => hFc q h) hFc (fun u t H1 locs ht hvm hw hB hz1 hk1 hS => ?_)
  obtain ⟨s102, f103⟩ := u
  obtain ⟨hP1, hK1, hD1⟩ := hB
  rw [ht] at hP1
  try dsimp only at hw
  obtain ⟨hP, hD⟩ := va_join (wr := []) (w1 := [(Ad0, .inr (15, s102)), (Ad1, .inl (Ka0, 400, .inl f103))]) hP hD [0, 1] [] rfl rfl (by decide) (by decide) hk1 hFc hP1 hD1
  have hK := hK.sub (tys' := [(Ka0, .int)]) [0] rfl
  generalize H1 = H at hP hS ⊢
  have hP : va_P (dC, dI) vwCl [(Ad0, .inr (15, s102)), (Ad1, .inl (Ka0, 400, .inl f103))] H := hP
  have hD : va_D A [(Ad0, .inr (15, s102)), (Ad1, .inl (Ka0, 400, .inl f103))] := hD
  have o_s102 := hw
  have o_s102 := ow_on o_s101 o_s102 (l' := [(47, .int 0), (46, .ref Ad1), (20, .int 0), (31, .int 0), (46, .ref Ad1), (0, .int 0), (20, .int 0), (26, .int 0), (31, .int 0), (46, .ref Ad1)]) (w' := [47, 0]) rfl rfl
  refine lv_iconst (v := 0) hx hb dX12_collect_9 (by decide) ?_
  refine lv_istore_n (lv' := [(1, .int 0), (0, .ref Ad0)]) hx hb dX12_collect_10 rfl hl (by decide) rfl (fun ls hl => ?_)
  refine lv_iconst (v := 0) hx hb dX12_collect_11 (by decide) ?_
  refine lv_istore_n (lv' := [(2, .int 0), (1, .int 0), (0, .ref Ad0)]) hx hb dX12_collect_12 rfl hl (by decide) rfl (fun ls hl => ?_)
  refine lv_iload_n hx hb dX12_collect_13 rfl (lv_at hl 0 rfl) ?_
  refine lv_aload_n hx hb dX12_collect_14 rfl (lv_at hl 2 rfl) ?_
  refine va_get (D := (dC, dI)) (ci := 15) (v := .int 0) (C := RX12) (T := TX12) (N := 150) hx hb hts (in_z_X12_collect_X12) hown hK hP 0 rfl rfl 26 (by decide) (hts (.fieldLink RX12 435 "HeapWorksModel" "objects" "I") (by decide +kernel)) (fun _ h9 => h9) (ow_at o_s102 7 rfl) dX12_collect_15 ?_
  refine lv_icmp_ge (tgt := 84) hx hb dX12_collect_18 (by decide) (fun c104 => ?_) (fun c104 => absurd c104 (by decide))
  refine lv_aload_n hx hb dX12_collect_84 rfl (lv_at hl 2 rfl) ?_
  refine lv_iconst (v := 0) hx hb dX12_collect_85 (by decide) ?_
  refine va_put (D := (dC, dI)) (ci := 15) (v := .int 0) (ty := .int) (C := RX12) (T := TX12) (N := 150) hx hb hts (in_z_X12_collect_X12) tyX12 tyX12_ok nmX12 hown hK hP hD hS 0 rfl rfl 36 (by decide) (hts (.fieldLink RX12 479 "HeapWorksModel" "undos" "I") (by decide +kernel)) (fun _ h9 => h9) rfl (by decide +kernel) rfl rfl (by rw [o_s102.2.1]; decide) dX12_collect_86 (fun H locs hP hD hS => ?_)
  have hP : va_P (dC, dI) vwCl [(Ad0, .inr (15, (s102.set 36 (.int 0)))), (Ad1, .inl (Ka0, 400, .inl f103))] H := hP
  have hD : va_D A [(Ad0, .inr (15, (s102.set 36 (.int 0)))), (Ad1, .inl (Ka0, 400, .inl f103))] := hD
  have o_s105 := ow_set o_s102 36 (.int 0) (by decide) (l' := [(36, .int 0), (47, .int 0), (46, .ref Ad1), (20, .int 0), (31, .int 0), (46, .ref Ad1), (0, .int 0), (20, .int 0), (26, .int 0), (31, .int 0), (46, .ref Ad1)]) (w' := [36, 47, 0]) rfl rfl
  generalize (s102.set 36 (.int 0)) = s105 at hP hD o_s105
  refine lv_iload_n hx hb dX12_collect_89 rfl (lv_at hl 1 rfl) ?_
  have hP9 := hP.sub (ws' := [(Ad0, .inr (15, s105)), (Ad1, .inl (Ka0, 400, .inl f103))]) [0, 1] rfl
  have hD9 := hD.sub (ws' := [(Ad0, .inr (15, s105)), (Ad1, .inl (Ka0, 400, .inl f103))]) [0, 1] (by decide) rfl
  have hK9 := hK.sub (tys' := [(Ka0, .int)]) [0] rfl
  exact W.iret (v := 0) hx hb hr (fun t ht hW => ⟨⟨0, (s105, f103), rfl, ⟨rfl, o_s105⟩, by rw [ht]; exact hP9, va_K.moved hW.alike hK9, hD9⟩, hS.F ht⟩) hS.2.2 dX12_collect_90

def l_z_X12_undo : List Cond := [.fieldLink RX12 388 "HeapWorksModel" "thrown" "I", .fieldLink RX12 479 "HeapWorksModel" "undos" "I"]
def w_z_X12_undo : List Cond := .code yX12_undo cX12_undo 2 (some .int) :: (l_z_X12_undo ++ (wsX120))
theorem in_z_X12_undo_X12 : ∀ w ∈ wsX120, w ∈ w_z_X12_undo := fun w h => List.mem_cons_of_mem _ (List.mem_append_right _ (h))
set_option maxHeartbeats 4000000 in
set_option maxRecDepth 100000 in
theorem z_X12_undo (l : Launch) (dC : Nat → ClassId) (dI : Nat → Nat → Nat) (sz : Nat) (Ad0 : Nat) (Fs0 : List Value) (k_Fs0 : fh Fs0 150 [(36, .int 0)])  : Met l yX12_undo w_z_X12_undo ({ frames := 0, cells := 0, slots := 0, locals := 0 }) (va_Pc [.ref Ad0] (fun U => U.heap.size = sz ∧ Wd dC dI [] (fun _ => True) [(Ad0, .inr (15, Fs0))] U)) (va_Qi (fun (r : Int32) (u : List Value) => (r = (-1) ∧ ow Fs0 (u) 150 [0] [(0, .int 0), (36, .int 0)])) (fun (u : List Value) t => Wd dC dI [] (va_A [(Ad0, .inr (15, Fs0))] sz) [(Ad0, .inr (15, (u)))] t) (va_A [(Ad0, .inr (15, Fs0))] sz))  0 0 (va_A [(Ad0, .inr (15, Fs0))] sz) := by
  refine Met.ofW (cc := cX12_undo) (maxL := 2) (ret := (some .int)) (by decide) rfl ?_
  intro p e s m args below meth c s₁ B hml hv
  obtain ⟨rfl, hsz, hP, hK, hD0⟩ := hv
  have hx := B.exec
  have hb := B.bytes
  have hr := B.returns
  have hts := atoms_spec (ws := w_z_X12_undo) B.pre
  have hown : s.vm.findClass RX12 = some m.cls := findClass_of_methodNamed B.named
  have hlocks := B.notSynchronized
  subst hsz
  have hD := hD0.self (sz := s.heap.size)
  generalize hAe : va_A [(Ad0, .inr (15, Fs0))] s.heap.size = A at hD ⊢
  have hA : ∀ q : Nat, s.heap.size ≤ q → A q := fun q h => by rw [← hAe]; exact Or.inr h
  have hS : va_S A s.heap s.heap [] := va_S.rf
  have hl := lv_entry ([.ref Ad0]) (n := 2) (Nat.le_of_ble_eq_true rfl)
  rw [lg_entry_eq]
  generalize (lg_sl ([.ref Ad0]) ++ List.replicate (2 - (lg_sl ([.ref Ad0])).length) Slot.unset).toArray = ls at hl ⊢
  have hl : lv_has ls 2 [(0, .ref Ad0)] := hl
  have o_Fs0 := ow_0 k_Fs0
  refine lv_aload_n hx hb dX12_undo_0 rfl (lv_at hl 0 rfl) ?_
  refine lv_iconst (v := 0) hx hb dX12_undo_1 (by decide) ?_
  refine va_put (D := (dC, dI)) (ci := 15) (v := .int 0) (ty := .int) (C := RX12) (T := TX12) (N := 150) hx hb hts (in_z_X12_undo_X12) tyX12 tyX12_ok nmX12 hown hK hP hD hS 0 rfl rfl 0 (by decide) (hts (.fieldLink RX12 388 "HeapWorksModel" "thrown" "I") (by decide +kernel)) (fun _ h9 => h9) rfl (by decide +kernel) rfl rfl (by rw [o_Fs0.2.1]; decide) dX12_undo_2 (fun H locs hP hD hS => ?_)
  have hP : va_P (dC, dI) vwCl [(Ad0, .inr (15, (Fs0.set 0 (.int 0))))] H := hP
  have hD : va_D A [(Ad0, .inr (15, (Fs0.set 0 (.int 0))))] := hD
  have o_s101 := ow_set o_Fs0 0 (.int 0) (by decide) (l' := [(0, .int 0), (36, .int 0)]) (w' := [0]) rfl rfl
  generalize (Fs0.set 0 (.int 0)) = s101 at hP hD o_s101
  refine lv_aload_n hx hb dX12_undo_5 rfl (lv_at hl 0 rfl) ?_
  refine va_get (D := (dC, dI)) (ci := 15) (v := .int 0) (C := RX12) (T := TX12) (N := 150) hx hb hts (in_z_X12_undo_X12) hown hK hP 0 rfl rfl 36 (by decide) (hts (.fieldLink RX12 479 "HeapWorksModel" "undos" "I") (by decide +kernel)) (fun _ h9 => h9) (ow_at o_s101 1 rfl) dX12_undo_6 ?_
  refine lv_if_ne (tgt := 14) hx hb dX12_undo_9 (by decide) (fun c102 => absurd c102 (by decide)) (fun c102 => ?_)
  refine lv_iconst (v := (-1)) hx hb dX12_undo_12 (by decide) ?_
  have hP9 := hP.sub (ws' := [(Ad0, .inr (15, s101))]) [0] rfl
  have hD9 := hD.sub (ws' := [(Ad0, .inr (15, s101))]) [0] (by decide) rfl
  have hK9 := hK.sub (tys' := []) [] rfl
  exact W.iret (v := (-1)) hx hb hr (fun t ht hW => ⟨⟨(-1), s101, rfl, ⟨rfl, o_s101⟩, by rw [ht]; exact hP9, va_K.moved hW.alike hK9, hD9⟩, hS.F ht⟩) hS.2.2 dX12_undo_13

def l_z_X12_swap : List Cond := [.methodLink RX12 473 yX12_isObject, .instanceMethod yX12_isObject, .selects RX12 yX12_isObject yX12_isObject, .initialized RX12, .fieldLink RX12 388 "HeapWorksModel" "thrown" "I", .code yX12_isObject cX12_isObject 2 (some .boolean), .fieldLink RX12 435 "HeapWorksModel" "objects" "I"]
def w_z_X12_swap : List Cond := .code yX12_swap cX12_swap 9 (some .int) :: (l_z_X12_swap ++ (wsX120))
theorem in_z_X12_swap_X12 : ∀ w ∈ wsX120, w ∈ w_z_X12_swap := fun w h => List.mem_cons_of_mem _ (List.mem_append_right _ (h))
theorem g_z_X12_swap_z_X12_isObject_473 : GoodIn w_z_X12_swap (wsV RX12 473 RX12 yX12_isObject w_z_X12_isObject) := goodIn_app (goodIn_r (([.methodLink RX12 473 yX12_isObject, .instanceMethod yX12_isObject, .selects RX12 yX12_isObject yX12_isObject, .initialized RX12] : List Cond)) [1, 2, 3, 4] rfl (by decide +kernel)) (goodIn_ca (goodIn_r (.code yX12_isObject cX12_isObject 2 (some .boolean) :: l_z_X12_isObject) [6, 7] rfl (by decide +kernel)) (goodIn_in (in_z_X12_swap_X12) gd_X12))
set_option maxHeartbeats 4000000 in
set_option maxRecDepth 100000 in
theorem z_X12_swap (l : Launch) (dC : Nat → ClassId) (dI : Nat → Nat → Nat) (sz : Nat) (Ad0 : Nat) (Fs0 : List Value) (Va0 : Int32) (Va1 : Int32) (k_Fs0 : fh Fs0 150 [(0, .int 0), (26, .int 0)])  : Met l yX12_swap w_z_X12_swap ({ frames := 1, cells := 0, slots := 0, locals := 21 }) (va_Pc [.ref Ad0, .int Va0, .int Va1] (fun U => U.heap.size = sz ∧ Wd dC dI [] (fun _ => True) [(Ad0, .inr (15, Fs0))] U)) (va_Qi (fun (r : Int32) (u : List Value) => (Va0 < 0 ∧ r = 0 ∧ ow Fs0 (u) 150 [0] [(0, .int 1), (26, .int 0)]) ∨ (¬ Va0 < 0 ∧ 0 ≤ Va0 ∧ r = 0 ∧ ow Fs0 (u) 150 [0] [(0, .int 1), (26, .int 0)])) (fun (u : List Value) t => Wd dC dI [] (va_A [(Ad0, .inr (15, Fs0))] sz) [(Ad0, .inr (15, (u)))] t) (va_A [(Ad0, .inr (15, Fs0))] sz))  0 0 (va_A [(Ad0, .inr (15, Fs0))] sz) := by
  refine Met.ofW (cc := cX12_swap) (maxL := 9) (ret := (some .int)) (by decide) rfl ?_
  intro p e s m args below meth c s₁ B hml hv
  obtain ⟨rfl, hsz, hP, hK, hD0⟩ := hv
  have hx := B.exec
  have hb := B.bytes
  have hr := B.returns
  have hts := atoms_spec (ws := w_z_X12_swap) B.pre
  have hown : s.vm.findClass RX12 = some m.cls := findClass_of_methodNamed B.named
  have hlocks := B.notSynchronized
  subst hsz
  have hD := hD0.self (sz := s.heap.size)
  generalize hAe : va_A [(Ad0, .inr (15, Fs0))] s.heap.size = A at hD ⊢
  have hA : ∀ q : Nat, s.heap.size ≤ q → A q := fun q h => by rw [← hAe]; exact Or.inr h
  have hS : va_S A s.heap s.heap [] := va_S.rf
  have hl := lv_entry ([.ref Ad0, .int Va0, .int Va1]) (n := 9) (Nat.le_of_ble_eq_true rfl)
  rw [lg_entry_eq]
  generalize (lg_sl ([.ref Ad0, .int Va0, .int Va1]) ++ List.replicate (9 - (lg_sl ([.ref Ad0, .int Va0, .int Va1])).length) Slot.unset).toArray = ls at hl ⊢
  have hl : lv_has ls 9 [(0, .ref Ad0), (1, .int Va0), (2, .int Va1)] := hl
  have o_Fs0 := ow_0 k_Fs0
  refine lv_aload_n hx hb dX12_swap_0 rfl (lv_at hl 0 rfl) ?_
  refine lv_aload_n hx hb dX12_swap_1 rfl (lv_at hl 0 rfl) ?_
  refine lv_iload_n hx hb dX12_swap_2 rfl (lv_at hl 1 rfl) ?_
  have hPc := hP.sub (ws' := [(Ad0, .inr (15, Fs0))]) [0] rfl
  have hDc := hD.sub (ws' := [(Ad0, .inr (15, Fs0))]) [0] (by decide) rfl
  have hKc := hK.sub (tys' := []) [] rfl
  have hFc := va_free (wc := [(Ad0, .inr (15, Fs0))]) hD hS hA [0] rfl
  refine va_calli (va_runV (As := [.int Va0]) (rest := [.ref Ad0]) ⟨hx, hb, hml, hown, hts⟩ (z_X12_isObject l dC dI s.heap.size Ad0 Fs0 Va0 (fh_sub o_Fs0.2 [1] rfl) ) (cwV 1 hts g_z_X12_swap_z_X12_isObject_473 rfl rfl rfl (by decide +kernel) ⟨Nat.le_of_ble_eq_true rfl, Nat.le_of_ble_eq_true rfl⟩) ⟨fun a U g mk q => by obtain ⟨q0, q1, qP, qK, qD⟩ := q; exact ⟨q0, q1, qP, va_K.moved (u := U) (U := U.calling g mk a) (Vm.Alike.refl U.vm) qK, qD⟩, va_recv hK hP (ci := 15) (q0 := 0) rfl rfl, fun U hU hW => ⟨rfl, by rw [hU], by rw [hU]; exact hPc, va_K.moved hW.alike hKc, hDc.weaken (fun _ _ _ _ => trivial)⟩⟩ rfl rfl hl.1 rfl (lv_room (Nat.le_of_ble_eq_true rfl)) dX12_swap_3 ⟨Nat.le_of_ble_eq_true rfl, Nat.le_of_ble_eq_true rfl⟩) hS (fun q _ h => hFc q h) hFc (fun r101 u t H1 locs ht hvm hw hB hz1 hk1 hS => ?_)
  obtain ⟨hP1, hK1, hD1⟩ := hB
  rw [ht] at hP1
  try dsimp only at hw
  obtain ⟨hP, hD⟩ := va_join (wr := []) (w1 := [(Ad0, .inr (15, Fs0))]) hP hD [0] [] rfl rfl (by decide) (by decide) hk1 hFc hP1 hD1
  have hK := hK.sub (tys' := []) [] rfl
  generalize H1 = H at hP hS ⊢
  have hP : va_P (dC, dI) vwCl [(Ad0, .inr (15, Fs0))] H := hP
  have hD : va_D A [(Ad0, .inr (15, Fs0))] := hD
  rcases hw with ⟨c102, er103⟩ | ⟨c104, c105, er106⟩
  · skip
    subst er103
    refine lv_if_eq (tgt := 17) hx hb dX12_swap_6 (by decide) (fun c107 => ?_) (fun c107 => absurd c107 (by decide))
    refine lv_iconst (v := 1) hx hb dX12_swap_17 (by decide) ?_
    refine lv_goto (tgt := 31) hx hb dX12_swap_18 (by decide) ?_
    refine va_put (D := (dC, dI)) (ci := 15) (v := .int 1) (ty := .int) (C := RX12) (T := TX12) (N := 150) hx hb hts (in_z_X12_swap_X12) tyX12 tyX12_ok nmX12 hown hK hP hD hS 0 rfl rfl 0 (by decide) (hts (.fieldLink RX12 388 "HeapWorksModel" "thrown" "I") (by decide +kernel)) (fun _ h9 => h9) rfl (by decide +kernel) rfl rfl (by rw [o_Fs0.2.1]; decide) dX12_swap_31 (fun H locs hP hD hS => ?_)
    have hP : va_P (dC, dI) vwCl [(Ad0, .inr (15, (Fs0.set 0 (.int 1))))] H := hP
    have hD : va_D A [(Ad0, .inr (15, (Fs0.set 0 (.int 1))))] := hD
    have o_s108 := ow_set o_Fs0 0 (.int 1) (by decide) (l' := [(0, .int 1), (26, .int 0)]) (w' := [0]) rfl rfl
    generalize (Fs0.set 0 (.int 1)) = s108 at hP hD o_s108
    refine lv_aload_n hx hb dX12_swap_34 rfl (lv_at hl 0 rfl) ?_
    refine va_get (D := (dC, dI)) (ci := 15) (v := .int 1) (C := RX12) (T := TX12) (N := 150) hx hb hts (in_z_X12_swap_X12) hown hK hP 0 rfl rfl 0 (by decide) (hts (.fieldLink RX12 388 "HeapWorksModel" "thrown" "I") (by decide +kernel)) (fun _ h9 => h9) (ow_at o_s108 0 rfl) dX12_swap_35 ?_
    refine lv_if_le (tgt := 43) hx hb dX12_swap_38 (by decide) (fun c109 => absurd c109 (by decide)) (fun c109 => ?_)
    refine lv_iconst (v := 0) hx hb dX12_swap_41 (by decide) ?_
    have hP9 := hP.sub (ws' := [(Ad0, .inr (15, s108))]) [0] rfl
    have hD9 := hD.sub (ws' := [(Ad0, .inr (15, s108))]) [0] (by decide) rfl
    have hK9 := hK.sub (tys' := []) [] rfl
    exact W.iret (v := 0) hx hb hr (fun t ht hW => ⟨⟨0, s108, rfl, (Or.inl ⟨c102, rfl, o_s108⟩), by rw [ht]; exact hP9, va_K.moved hW.alike hK9, hD9⟩, hS.F ht⟩) hS.2.2 dX12_swap_42
  · skip
    subst er106
    refine lv_if_eq (tgt := 17) hx hb dX12_swap_6 (by decide) (fun c110 => ?_) (fun c110 => absurd c110 (by decide))
    refine lv_iconst (v := 1) hx hb dX12_swap_17 (by decide) ?_
    refine lv_goto (tgt := 31) hx hb dX12_swap_18 (by decide) ?_
    refine va_put (D := (dC, dI)) (ci := 15) (v := .int 1) (ty := .int) (C := RX12) (T := TX12) (N := 150) hx hb hts (in_z_X12_swap_X12) tyX12 tyX12_ok nmX12 hown hK hP hD hS 0 rfl rfl 0 (by decide) (hts (.fieldLink RX12 388 "HeapWorksModel" "thrown" "I") (by decide +kernel)) (fun _ h9 => h9) rfl (by decide +kernel) rfl rfl (by rw [o_Fs0.2.1]; decide) dX12_swap_31 (fun H locs hP hD hS => ?_)
    have hP : va_P (dC, dI) vwCl [(Ad0, .inr (15, (Fs0.set 0 (.int 1))))] H := hP
    have hD : va_D A [(Ad0, .inr (15, (Fs0.set 0 (.int 1))))] := hD
    have o_s111 := ow_set o_Fs0 0 (.int 1) (by decide) (l' := [(0, .int 1), (26, .int 0)]) (w' := [0]) rfl rfl
    generalize (Fs0.set 0 (.int 1)) = s111 at hP hD o_s111
    refine lv_aload_n hx hb dX12_swap_34 rfl (lv_at hl 0 rfl) ?_
    refine va_get (D := (dC, dI)) (ci := 15) (v := .int 1) (C := RX12) (T := TX12) (N := 150) hx hb hts (in_z_X12_swap_X12) hown hK hP 0 rfl rfl 0 (by decide) (hts (.fieldLink RX12 388 "HeapWorksModel" "thrown" "I") (by decide +kernel)) (fun _ h9 => h9) (ow_at o_s111 0 rfl) dX12_swap_35 ?_
    refine lv_if_le (tgt := 43) hx hb dX12_swap_38 (by decide) (fun c112 => absurd c112 (by decide)) (fun c112 => ?_)
    refine lv_iconst (v := 0) hx hb dX12_swap_41 (by decide) ?_
    have hP9 := hP.sub (ws' := [(Ad0, .inr (15, s111))]) [0] rfl
    have hD9 := hD.sub (ws' := [(Ad0, .inr (15, s111))]) [0] (by decide) rfl
    have hK9 := hK.sub (tys' := []) [] rfl
    exact W.iret (v := 0) hx hb hr (fun t ht hW => ⟨⟨0, s111, rfl, (Or.inr (⟨c104, c105, rfl, o_s111⟩)), by rw [ht]; exact hP9, va_K.moved hW.alike hK9, hD9⟩, hS.F ht⟩) hS.2.2 dX12_swap_42

def l_z_X12_copy : List Cond := [.methodLink RX12 473 yX12_isObject, .instanceMethod yX12_isObject, .selects RX12 yX12_isObject yX12_isObject, .initialized RX12, .fieldLink RX12 388 "HeapWorksModel" "thrown" "I", .code yX12_isObject cX12_isObject 2 (some .boolean), .fieldLink RX12 435 "HeapWorksModel" "objects" "I"]
def w_z_X12_copy : List Cond := .code yX12_copy cX12_copy 11 (some .int) :: (l_z_X12_copy ++ (wsX120))
theorem in_z_X12_copy_X12 : ∀ w ∈ wsX120, w ∈ w_z_X12_copy := fun w h => List.mem_cons_of_mem _ (List.mem_append_right _ (h))
theorem g_z_X12_copy_z_X12_isObject_473 : GoodIn w_z_X12_copy (wsV RX12 473 RX12 yX12_isObject w_z_X12_isObject) := goodIn_app (goodIn_r (([.methodLink RX12 473 yX12_isObject, .instanceMethod yX12_isObject, .selects RX12 yX12_isObject yX12_isObject, .initialized RX12] : List Cond)) [1, 2, 3, 4] rfl (by decide +kernel)) (goodIn_ca (goodIn_r (.code yX12_isObject cX12_isObject 2 (some .boolean) :: l_z_X12_isObject) [6, 7] rfl (by decide +kernel)) (goodIn_in (in_z_X12_copy_X12) gd_X12))
set_option maxHeartbeats 4000000 in
set_option maxRecDepth 100000 in
theorem z_X12_copy (l : Launch) (dC : Nat → ClassId) (dI : Nat → Nat → Nat) (sz : Nat) (Ad0 : Nat) (Fs0 : List Value) (Va0 : Int32) (Va1 : Int32) (k_Fs0 : fh Fs0 150 [(0, .int 0), (26, .int 0)])  : Met l yX12_copy w_z_X12_copy ({ frames := 1, cells := 0, slots := 0, locals := 21 }) (va_Pc [.ref Ad0, .int Va0, .int Va1] (fun U => U.heap.size = sz ∧ Wd dC dI [] (fun _ => True) [(Ad0, .inr (15, Fs0))] U)) (va_Qi (fun (r : Int32) (u : List Value) => (Va0 < 0 ∧ r = 0 ∧ ow Fs0 (u) 150 [0] [(0, .int 1), (26, .int 0)]) ∨ (¬ Va0 < 0 ∧ 0 ≤ Va0 ∧ r = 0 ∧ ow Fs0 (u) 150 [0] [(0, .int 1), (26, .int 0)])) (fun (u : List Value) t => Wd dC dI [] (va_A [(Ad0, .inr (15, Fs0))] sz) [(Ad0, .inr (15, (u)))] t) (va_A [(Ad0, .inr (15, Fs0))] sz))  0 0 (va_A [(Ad0, .inr (15, Fs0))] sz) := by
  refine Met.ofW (cc := cX12_copy) (maxL := 11) (ret := (some .int)) (by decide) rfl ?_
  intro p e s m args below meth c s₁ B hml hv
  obtain ⟨rfl, hsz, hP, hK, hD0⟩ := hv
  have hx := B.exec
  have hb := B.bytes
  have hr := B.returns
  have hts := atoms_spec (ws := w_z_X12_copy) B.pre
  have hown : s.vm.findClass RX12 = some m.cls := findClass_of_methodNamed B.named
  have hlocks := B.notSynchronized
  subst hsz
  have hD := hD0.self (sz := s.heap.size)
  generalize hAe : va_A [(Ad0, .inr (15, Fs0))] s.heap.size = A at hD ⊢
  have hA : ∀ q : Nat, s.heap.size ≤ q → A q := fun q h => by rw [← hAe]; exact Or.inr h
  have hS : va_S A s.heap s.heap [] := va_S.rf
  have hl := lv_entry ([.ref Ad0, .int Va0, .int Va1]) (n := 11) (Nat.le_of_ble_eq_true rfl)
  rw [lg_entry_eq]
  generalize (lg_sl ([.ref Ad0, .int Va0, .int Va1]) ++ List.replicate (11 - (lg_sl ([.ref Ad0, .int Va0, .int Va1])).length) Slot.unset).toArray = ls at hl ⊢
  have hl : lv_has ls 11 [(0, .ref Ad0), (1, .int Va0), (2, .int Va1)] := hl
  have o_Fs0 := ow_0 k_Fs0
  refine lv_aload_n hx hb dX12_copy_0 rfl (lv_at hl 0 rfl) ?_
  refine lv_aload_n hx hb dX12_copy_1 rfl (lv_at hl 0 rfl) ?_
  refine lv_iload_n hx hb dX12_copy_2 rfl (lv_at hl 1 rfl) ?_
  have hPc := hP.sub (ws' := [(Ad0, .inr (15, Fs0))]) [0] rfl
  have hDc := hD.sub (ws' := [(Ad0, .inr (15, Fs0))]) [0] (by decide) rfl
  have hKc := hK.sub (tys' := []) [] rfl
  have hFc := va_free (wc := [(Ad0, .inr (15, Fs0))]) hD hS hA [0] rfl
  refine va_calli (va_runV (As := [.int Va0]) (rest := [.ref Ad0]) ⟨hx, hb, hml, hown, hts⟩ (z_X12_isObject l dC dI s.heap.size Ad0 Fs0 Va0 (fh_sub o_Fs0.2 [1] rfl) ) (cwV 1 hts g_z_X12_copy_z_X12_isObject_473 rfl rfl rfl (by decide +kernel) ⟨Nat.le_of_ble_eq_true rfl, Nat.le_of_ble_eq_true rfl⟩) ⟨fun a U g mk q => by obtain ⟨q0, q1, qP, qK, qD⟩ := q; exact ⟨q0, q1, qP, va_K.moved (u := U) (U := U.calling g mk a) (Vm.Alike.refl U.vm) qK, qD⟩, va_recv hK hP (ci := 15) (q0 := 0) rfl rfl, fun U hU hW => ⟨rfl, by rw [hU], by rw [hU]; exact hPc, va_K.moved hW.alike hKc, hDc.weaken (fun _ _ _ _ => trivial)⟩⟩ rfl rfl hl.1 rfl (lv_room (Nat.le_of_ble_eq_true rfl)) dX12_copy_3 ⟨Nat.le_of_ble_eq_true rfl, Nat.le_of_ble_eq_true rfl⟩) hS (fun q _ h => hFc q h) hFc (fun r101 u t H1 locs ht hvm hw hB hz1 hk1 hS => ?_)
  obtain ⟨hP1, hK1, hD1⟩ := hB
  rw [ht] at hP1
  try dsimp only at hw
  obtain ⟨hP, hD⟩ := va_join (wr := []) (w1 := [(Ad0, .inr (15, Fs0))]) hP hD [0] [] rfl rfl (by decide) (by decide) hk1 hFc hP1 hD1
  have hK := hK.sub (tys' := []) [] rfl
  generalize H1 = H at hP hS ⊢
  have hP : va_P (dC, dI) vwCl [(Ad0, .inr (15, Fs0))] H := hP
  have hD : va_D A [(Ad0, .inr (15, Fs0))] := hD
  rcases hw with ⟨c102, er103⟩ | ⟨c104, c105, er106⟩
  · skip
    subst er103
    refine lv_if_ne (tgt := 13) hx hb dX12_copy_6 (by decide) (fun c107 => absurd c107 (by decide)) (fun c107 => ?_)
    refine lv_iconst (v := 1) hx hb dX12_copy_9 (by decide) ?_
    refine lv_goto (tgt := 27) hx hb dX12_copy_10 (by decide) ?_
    refine va_put (D := (dC, dI)) (ci := 15) (v := .int 1) (ty := .int) (C := RX12) (T := TX12) (N := 150) hx hb hts (in_z_X12_copy_X12) tyX12 tyX12_ok nmX12 hown hK hP hD hS 0 rfl rfl 0 (by decide) (hts (.fieldLink RX12 388 "HeapWorksModel" "thrown" "I") (by decide +kernel)) (fun _ h9 => h9) rfl (by decide +kernel) rfl rfl (by rw [o_Fs0.2.1]; decide) dX12_copy_27 (fun H locs hP hD hS => ?_)
    have hP : va_P (dC, dI) vwCl [(Ad0, .inr (15, (Fs0.set 0 (.int 1))))] H := hP
    have hD : va_D A [(Ad0, .inr (15, (Fs0.set 0 (.int 1))))] := hD
    have o_s108 := ow_set o_Fs0 0 (.int 1) (by decide) (l' := [(0, .int 1), (26, .int 0)]) (w' := [0]) rfl rfl
    generalize (Fs0.set 0 (.int 1)) = s108 at hP hD o_s108
    refine lv_aload_n hx hb dX12_copy_30 rfl (lv_at hl 0 rfl) ?_
    refine va_get (D := (dC, dI)) (ci := 15) (v := .int 1) (C := RX12) (T := TX12) (N := 150) hx hb hts (in_z_X12_copy_X12) hown hK hP 0 rfl rfl 0 (by decide) (hts (.fieldLink RX12 388 "HeapWorksModel" "thrown" "I") (by decide +kernel)) (fun _ h9 => h9) (ow_at o_s108 0 rfl) dX12_copy_31 ?_
    refine lv_if_le (tgt := 39) hx hb dX12_copy_34 (by decide) (fun c109 => absurd c109 (by decide)) (fun c109 => ?_)
    refine lv_iconst (v := 0) hx hb dX12_copy_37 (by decide) ?_
    have hP9 := hP.sub (ws' := [(Ad0, .inr (15, s108))]) [0] rfl
    have hD9 := hD.sub (ws' := [(Ad0, .inr (15, s108))]) [0] (by decide) rfl
    have hK9 := hK.sub (tys' := []) [] rfl
    exact W.iret (v := 0) hx hb hr (fun t ht hW => ⟨⟨0, s108, rfl, (Or.inl ⟨c102, rfl, o_s108⟩), by rw [ht]; exact hP9, va_K.moved hW.alike hK9, hD9⟩, hS.F ht⟩) hS.2.2 dX12_copy_38
  · skip
    subst er106
    refine lv_if_ne (tgt := 13) hx hb dX12_copy_6 (by decide) (fun c110 => absurd c110 (by decide)) (fun c110 => ?_)
    refine lv_iconst (v := 1) hx hb dX12_copy_9 (by decide) ?_
    refine lv_goto (tgt := 27) hx hb dX12_copy_10 (by decide) ?_
    refine va_put (D := (dC, dI)) (ci := 15) (v := .int 1) (ty := .int) (C := RX12) (T := TX12) (N := 150) hx hb hts (in_z_X12_copy_X12) tyX12 tyX12_ok nmX12 hown hK hP hD hS 0 rfl rfl 0 (by decide) (hts (.fieldLink RX12 388 "HeapWorksModel" "thrown" "I") (by decide +kernel)) (fun _ h9 => h9) rfl (by decide +kernel) rfl rfl (by rw [o_Fs0.2.1]; decide) dX12_copy_27 (fun H locs hP hD hS => ?_)
    have hP : va_P (dC, dI) vwCl [(Ad0, .inr (15, (Fs0.set 0 (.int 1))))] H := hP
    have hD : va_D A [(Ad0, .inr (15, (Fs0.set 0 (.int 1))))] := hD
    have o_s111 := ow_set o_Fs0 0 (.int 1) (by decide) (l' := [(0, .int 1), (26, .int 0)]) (w' := [0]) rfl rfl
    generalize (Fs0.set 0 (.int 1)) = s111 at hP hD o_s111
    refine lv_aload_n hx hb dX12_copy_30 rfl (lv_at hl 0 rfl) ?_
    refine va_get (D := (dC, dI)) (ci := 15) (v := .int 1) (C := RX12) (T := TX12) (N := 150) hx hb hts (in_z_X12_copy_X12) hown hK hP 0 rfl rfl 0 (by decide) (hts (.fieldLink RX12 388 "HeapWorksModel" "thrown" "I") (by decide +kernel)) (fun _ h9 => h9) (ow_at o_s111 0 rfl) dX12_copy_31 ?_
    refine lv_if_le (tgt := 39) hx hb dX12_copy_34 (by decide) (fun c112 => absurd c112 (by decide)) (fun c112 => ?_)
    refine lv_iconst (v := 0) hx hb dX12_copy_37 (by decide) ?_
    have hP9 := hP.sub (ws' := [(Ad0, .inr (15, s111))]) [0] rfl
    have hD9 := hD.sub (ws' := [(Ad0, .inr (15, s111))]) [0] (by decide) rfl
    have hK9 := hK.sub (tys' := []) [] rfl
    exact W.iret (v := 0) hx hb hr (fun t ht hW => ⟨⟨0, s111, rfl, (Or.inr (⟨c104, c105, rfl, o_s111⟩)), by rw [ht]; exact hP9, va_K.moved hW.alike hK9, hD9⟩, hS.F ht⟩) hS.2.2 dX12_copy_38

def l_z_X12_apart : List Cond := [.fieldLink RX12 388 "HeapWorksModel" "thrown" "I", .methodLink RX12 416 yX12_isClass, .instanceMethod yX12_isClass, .selects RX12 yX12_isClass yX12_isClass, .initialized RX12, .code yX12_isClass cX12_isClass 2 (some .boolean), .fieldLink RX12 413 "HeapWorksModel" "classes" "I"]
def w_z_X12_apart : List Cond := .code yX12_apart cX12_apart 3 (some .boolean) :: (l_z_X12_apart ++ (wsX120))
theorem in_z_X12_apart_X12 : ∀ w ∈ wsX120, w ∈ w_z_X12_apart := fun w h => List.mem_cons_of_mem _ (List.mem_append_right _ (h))
theorem g_z_X12_apart_z_X12_isClass_416 : GoodIn w_z_X12_apart (wsV RX12 416 RX12 yX12_isClass w_z_X12_isClass) := goodIn_app (goodIn_r (([.methodLink RX12 416 yX12_isClass, .instanceMethod yX12_isClass, .selects RX12 yX12_isClass yX12_isClass, .initialized RX12] : List Cond)) [2, 3, 4, 5] rfl (by decide +kernel)) (goodIn_ca (goodIn_r (.code yX12_isClass cX12_isClass 2 (some .boolean) :: l_z_X12_isClass) [6, 7] rfl (by decide +kernel)) (goodIn_in (in_z_X12_apart_X12) gd_X12))
set_option maxHeartbeats 4000000 in
set_option maxRecDepth 100000 in
theorem z_X12_apart (l : Launch) (dC : Nat → ClassId) (dI : Nat → Nat → Nat) (sz : Nat) (Ad0 : Nat) (Fs0 : List Value) (Va0 : Int32) (k_Fs0 : fh Fs0 150 [(20, .int 0)])  : Met l yX12_apart w_z_X12_apart ({ frames := 1, cells := 0, slots := 0, locals := 21 }) (va_Pc [.ref Ad0, .int Va0, .int 0] (fun U => U.heap.size = sz ∧ Wd dC dI [] (fun _ => True) [(Ad0, .inr (15, Fs0))] U)) (va_Qi (fun (r : Int32) (u : List Value) => (Va0 < 0 ∧ r = 0 ∧ ow Fs0 (u) 150 [0] [(0, .int 0), (20, .int 0)]) ∨ (¬ Va0 < 0 ∧ 0 ≤ Va0 ∧ r = 0 ∧ ow Fs0 (u) 150 [0] [(0, .int 0), (20, .int 0)])) (fun (u : List Value) t => Wd dC dI [] (va_A [(Ad0, .inr (15, Fs0))] sz) [(Ad0, .inr (15, (u)))] t) (va_A [(Ad0, .inr (15, Fs0))] sz))  0 0 (va_A [(Ad0, .inr (15, Fs0))] sz) := by
  refine Met.ofW (cc := cX12_apart) (maxL := 3) (ret := (some .boolean)) (by decide) rfl ?_
  intro p e s m args below meth c s₁ B hml hv
  obtain ⟨rfl, hsz, hP, hK, hD0⟩ := hv
  have hx := B.exec
  have hb := B.bytes
  have hr := B.returns
  have hts := atoms_spec (ws := w_z_X12_apart) B.pre
  have hown : s.vm.findClass RX12 = some m.cls := findClass_of_methodNamed B.named
  have hlocks := B.notSynchronized
  subst hsz
  have hD := hD0.self (sz := s.heap.size)
  generalize hAe : va_A [(Ad0, .inr (15, Fs0))] s.heap.size = A at hD ⊢
  have hA : ∀ q : Nat, s.heap.size ≤ q → A q := fun q h => by rw [← hAe]; exact Or.inr h
  have hS : va_S A s.heap s.heap [] := va_S.rf
  have hl := lv_entry ([.ref Ad0, .int Va0, .int 0]) (n := 3) (Nat.le_of_ble_eq_true rfl)
  rw [lg_entry_eq]
  generalize (lg_sl ([.ref Ad0, .int Va0, .int 0]) ++ List.replicate (3 - (lg_sl ([.ref Ad0, .int Va0, .int 0])).length) Slot.unset).toArray = ls at hl ⊢
  have hl : lv_has ls 3 [(0, .ref Ad0), (1, .int Va0), (2, .int 0)] := hl
  have o_Fs0 := ow_0 k_Fs0
  refine lv_aload_n hx hb dX12_apart_0 rfl (lv_at hl 0 rfl) ?_
  refine lv_iconst (v := 0) hx hb dX12_apart_1 (by decide) ?_
  refine va_put (D := (dC, dI)) (ci := 15) (v := .int 0) (ty := .int) (C := RX12) (T := TX12) (N := 150) hx hb hts (in_z_X12_apart_X12) tyX12 tyX12_ok nmX12 hown hK hP hD hS 0 rfl rfl 0 (by decide) (hts (.fieldLink RX12 388 "HeapWorksModel" "thrown" "I") (by decide +kernel)) (fun _ h9 => h9) rfl (by decide +kernel) rfl rfl (by rw [o_Fs0.2.1]; decide) dX12_apart_2 (fun H locs hP hD hS => ?_)
  have hP : va_P (dC, dI) vwCl [(Ad0, .inr (15, (Fs0.set 0 (.int 0))))] H := hP
  have hD : va_D A [(Ad0, .inr (15, (Fs0.set 0 (.int 0))))] := hD
  have o_s101 := ow_set o_Fs0 0 (.int 0) (by decide) (l' := [(0, .int 0), (20, .int 0)]) (w' := [0]) rfl rfl
  generalize (Fs0.set 0 (.int 0)) = s101 at hP hD o_s101
  refine lv_aload_n hx hb dX12_apart_5 rfl (lv_at hl 0 rfl) ?_
  refine lv_iload_n hx hb dX12_apart_6 rfl (lv_at hl 1 rfl) ?_
  have hPc := hP.sub (ws' := [(Ad0, .inr (15, s101))]) [0] rfl
  have hDc := hD.sub (ws' := [(Ad0, .inr (15, s101))]) [0] (by decide) rfl
  have hKc := hK.sub (tys' := []) [] rfl
  have hFc := va_free (wc := [(Ad0, .inr (15, s101))]) hD hS hA [0] rfl
  refine va_calli (va_runV (As := [.int Va0]) (rest := []) ⟨hx, hb, hml, hown, hts⟩ (z_X12_isClass l dC dI H.size Ad0 s101 Va0 (fh_sub o_s101.2 [1] rfl) ) (cwV 1 hts g_z_X12_apart_z_X12_isClass_416 rfl rfl rfl (by decide +kernel) ⟨Nat.le_of_ble_eq_true rfl, Nat.le_of_ble_eq_true rfl⟩) ⟨fun a U g mk q => by obtain ⟨q0, q1, qP, qK, qD⟩ := q; exact ⟨q0, q1, qP, va_K.moved (u := U) (U := U.calling g mk a) (Vm.Alike.refl U.vm) qK, qD⟩, va_recv hK hP (ci := 15) (q0 := 0) rfl rfl, fun U hU hW => ⟨rfl, by rw [hU], by rw [hU]; exact hPc, va_K.moved hW.alike hKc, hDc.weaken (fun _ _ _ _ => trivial)⟩⟩ rfl rfl hl.1 rfl (lv_room (Nat.le_of_ble_eq_true rfl)) dX12_apart_7 ⟨Nat.le_of_ble_eq_true rfl, Nat.le_of_ble_eq_true rfl⟩) hS (fun q _ h => hFc q h) hFc (fun r102 u t H1 locs ht hvm hw hB hz1 hk1 hS => ?_)
  obtain ⟨hP1, hK1, hD1⟩ := hB
  rw [ht] at hP1
  try dsimp only at hw
  obtain ⟨hP, hD⟩ := va_join (wr := []) (w1 := [(Ad0, .inr (15, s101))]) hP hD [0] [] rfl rfl (by decide) (by decide) hk1 hFc hP1 hD1
  have hK := hK.sub (tys' := []) [] rfl
  generalize H1 = H at hP hS ⊢
  have hP : va_P (dC, dI) vwCl [(Ad0, .inr (15, s101))] H := hP
  have hD : va_D A [(Ad0, .inr (15, s101))] := hD
  rcases hw with ⟨c103, er104⟩ | ⟨c105, c106, er107⟩
  · skip
    subst er104
    refine lv_if_ne (tgt := 15) hx hb dX12_apart_10 (by decide) (fun c108 => absurd c108 (by decide)) (fun c108 => ?_)
    refine lv_iconst (v := 0) hx hb dX12_apart_13 (by decide) ?_
    have hP9 := hP.sub (ws' := [(Ad0, .inr (15, s101))]) [0] rfl
    have hD9 := hD.sub (ws' := [(Ad0, .inr (15, s101))]) [0] (by decide) rfl
    have hK9 := hK.sub (tys' := []) [] rfl
    exact W.zret (v := 0) hx hb hr rfl (fun t ht hW => ⟨⟨0, s101, rfl, (Or.inl ⟨c103, rfl, o_s101⟩), by rw [ht]; exact hP9, va_K.moved hW.alike hK9, hD9⟩, hS.F ht⟩) hS.2.2 dX12_apart_14
  · skip
    subst er107
    refine lv_if_ne (tgt := 15) hx hb dX12_apart_10 (by decide) (fun c109 => absurd c109 (by decide)) (fun c109 => ?_)
    refine lv_iconst (v := 0) hx hb dX12_apart_13 (by decide) ?_
    have hP9 := hP.sub (ws' := [(Ad0, .inr (15, s101))]) [0] rfl
    have hD9 := hD.sub (ws' := [(Ad0, .inr (15, s101))]) [0] (by decide) rfl
    have hK9 := hK.sub (tys' := []) [] rfl
    exact W.zret (v := 0) hx hb hr rfl (fun t ht hW => ⟨⟨0, s101, rfl, (Or.inr (⟨c105, c106, rfl, o_s101⟩)), by rw [ht]; exact hP9, va_K.moved hW.alike hK9, hD9⟩, hS.F ht⟩) hS.2.2 dX12_apart_14

def l_z_X12_apart_1 : List Cond := [.fieldLink RX12 388 "HeapWorksModel" "thrown" "I", .methodLink RX12 416 yX12_isClass, .instanceMethod yX12_isClass, .selects RX12 yX12_isClass yX12_isClass, .initialized RX12, .code yX12_isClass cX12_isClass 2 (some .boolean), .fieldLink RX12 413 "HeapWorksModel" "classes" "I"]
def w_z_X12_apart_1 : List Cond := .code yX12_apart cX12_apart 3 (some .boolean) :: (l_z_X12_apart_1 ++ (wsX120))
theorem in_z_X12_apart_1_X12 : ∀ w ∈ wsX120, w ∈ w_z_X12_apart_1 := fun w h => List.mem_cons_of_mem _ (List.mem_append_right _ (h))
theorem g_z_X12_apart_1_z_X12_isClass_416 : GoodIn w_z_X12_apart_1 (wsV RX12 416 RX12 yX12_isClass w_z_X12_isClass) := goodIn_app (goodIn_r (([.methodLink RX12 416 yX12_isClass, .instanceMethod yX12_isClass, .selects RX12 yX12_isClass yX12_isClass, .initialized RX12] : List Cond)) [2, 3, 4, 5] rfl (by decide +kernel)) (goodIn_ca (goodIn_r (.code yX12_isClass cX12_isClass 2 (some .boolean) :: l_z_X12_isClass) [6, 7] rfl (by decide +kernel)) (goodIn_in (in_z_X12_apart_1_X12) gd_X12))
set_option maxHeartbeats 4000000 in
set_option maxRecDepth 100000 in
theorem z_X12_apart_1 (l : Launch) (dC : Nat → ClassId) (dI : Nat → Nat → Nat) (sz : Nat) (Ad0 : Nat) (Fs0 : List Value) (Va0 : Int32) (k_Fs0 : fh Fs0 150 [(20, .int 0)])  : Met l yX12_apart w_z_X12_apart_1 ({ frames := 1, cells := 0, slots := 0, locals := 21 }) (va_Pc [.ref Ad0, .int Va0, .int 1] (fun U => U.heap.size = sz ∧ Wd dC dI [] (fun _ => True) [(Ad0, .inr (15, Fs0))] U)) (va_Qi (fun (r : Int32) (u : List Value) => (Va0 < 0 ∧ r = 0 ∧ ow Fs0 (u) 150 [0] [(0, .int 0), (20, .int 0)]) ∨ (¬ Va0 < 0 ∧ 0 ≤ Va0 ∧ r = 0 ∧ ow Fs0 (u) 150 [0] [(0, .int 0), (20, .int 0)])) (fun (u : List Value) t => Wd dC dI [] (va_A [(Ad0, .inr (15, Fs0))] sz) [(Ad0, .inr (15, (u)))] t) (va_A [(Ad0, .inr (15, Fs0))] sz))  0 0 (va_A [(Ad0, .inr (15, Fs0))] sz) := by
  refine Met.ofW (cc := cX12_apart) (maxL := 3) (ret := (some .boolean)) (by decide) rfl ?_
  intro p e s m args below meth c s₁ B hml hv
  obtain ⟨rfl, hsz, hP, hK, hD0⟩ := hv
  have hx := B.exec
  have hb := B.bytes
  have hr := B.returns
  have hts := atoms_spec (ws := w_z_X12_apart_1) B.pre
  have hown : s.vm.findClass RX12 = some m.cls := findClass_of_methodNamed B.named
  have hlocks := B.notSynchronized
  subst hsz
  have hD := hD0.self (sz := s.heap.size)
  generalize hAe : va_A [(Ad0, .inr (15, Fs0))] s.heap.size = A at hD ⊢
  have hA : ∀ q : Nat, s.heap.size ≤ q → A q := fun q h => by rw [← hAe]; exact Or.inr h
  have hS : va_S A s.heap s.heap [] := va_S.rf
  have hl := lv_entry ([.ref Ad0, .int Va0, .int 1]) (n := 3) (Nat.le_of_ble_eq_true rfl)
  rw [lg_entry_eq]
  generalize (lg_sl ([.ref Ad0, .int Va0, .int 1]) ++ List.replicate (3 - (lg_sl ([.ref Ad0, .int Va0, .int 1])).length) Slot.unset).toArray = ls at hl ⊢
  have hl : lv_has ls 3 [(0, .ref Ad0), (1, .int Va0), (2, .int 1)] := hl
  have o_Fs0 := ow_0 k_Fs0
  refine lv_aload_n hx hb dX12_apart_0 rfl (lv_at hl 0 rfl) ?_
  refine lv_iconst (v := 0) hx hb dX12_apart_1 (by decide) ?_
  refine va_put (D := (dC, dI)) (ci := 15) (v := .int 0) (ty := .int) (C := RX12) (T := TX12) (N := 150) hx hb hts (in_z_X12_apart_1_X12) tyX12 tyX12_ok nmX12 hown hK hP hD hS 0 rfl rfl 0 (by decide) (hts (.fieldLink RX12 388 "HeapWorksModel" "thrown" "I") (by decide +kernel)) (fun _ h9 => h9) rfl (by decide +kernel) rfl rfl (by rw [o_Fs0.2.1]; decide) dX12_apart_2 (fun H locs hP hD hS => ?_)
  have hP : va_P (dC, dI) vwCl [(Ad0, .inr (15, (Fs0.set 0 (.int 0))))] H := hP
  have hD : va_D A [(Ad0, .inr (15, (Fs0.set 0 (.int 0))))] := hD
  have o_s101 := ow_set o_Fs0 0 (.int 0) (by decide) (l' := [(0, .int 0), (20, .int 0)]) (w' := [0]) rfl rfl
  generalize (Fs0.set 0 (.int 0)) = s101 at hP hD o_s101
  refine lv_aload_n hx hb dX12_apart_5 rfl (lv_at hl 0 rfl) ?_
  refine lv_iload_n hx hb dX12_apart_6 rfl (lv_at hl 1 rfl) ?_
  have hPc := hP.sub (ws' := [(Ad0, .inr (15, s101))]) [0] rfl
  have hDc := hD.sub (ws' := [(Ad0, .inr (15, s101))]) [0] (by decide) rfl
  have hKc := hK.sub (tys' := []) [] rfl
  have hFc := va_free (wc := [(Ad0, .inr (15, s101))]) hD hS hA [0] rfl
  refine va_calli (va_runV (As := [.int Va0]) (rest := []) ⟨hx, hb, hml, hown, hts⟩ (z_X12_isClass l dC dI H.size Ad0 s101 Va0 (fh_sub o_s101.2 [1] rfl) ) (cwV 1 hts g_z_X12_apart_1_z_X12_isClass_416 rfl rfl rfl (by decide +kernel) ⟨Nat.le_of_ble_eq_true rfl, Nat.le_of_ble_eq_true rfl⟩) ⟨fun a U g mk q => by obtain ⟨q0, q1, qP, qK, qD⟩ := q; exact ⟨q0, q1, qP, va_K.moved (u := U) (U := U.calling g mk a) (Vm.Alike.refl U.vm) qK, qD⟩, va_recv hK hP (ci := 15) (q0 := 0) rfl rfl, fun U hU hW => ⟨rfl, by rw [hU], by rw [hU]; exact hPc, va_K.moved hW.alike hKc, hDc.weaken (fun _ _ _ _ => trivial)⟩⟩ rfl rfl hl.1 rfl (lv_room (Nat.le_of_ble_eq_true rfl)) dX12_apart_7 ⟨Nat.le_of_ble_eq_true rfl, Nat.le_of_ble_eq_true rfl⟩) hS (fun q _ h => hFc q h) hFc (fun r102 u t H1 locs ht hvm hw hB hz1 hk1 hS => ?_)
  obtain ⟨hP1, hK1, hD1⟩ := hB
  rw [ht] at hP1
  try dsimp only at hw
  obtain ⟨hP, hD⟩ := va_join (wr := []) (w1 := [(Ad0, .inr (15, s101))]) hP hD [0] [] rfl rfl (by decide) (by decide) hk1 hFc hP1 hD1
  have hK := hK.sub (tys' := []) [] rfl
  generalize H1 = H at hP hS ⊢
  have hP : va_P (dC, dI) vwCl [(Ad0, .inr (15, s101))] H := hP
  have hD : va_D A [(Ad0, .inr (15, s101))] := hD
  rcases hw with ⟨c103, er104⟩ | ⟨c105, c106, er107⟩
  · skip
    subst er104
    refine lv_if_ne (tgt := 15) hx hb dX12_apart_10 (by decide) (fun c108 => absurd c108 (by decide)) (fun c108 => ?_)
    refine lv_iconst (v := 0) hx hb dX12_apart_13 (by decide) ?_
    have hP9 := hP.sub (ws' := [(Ad0, .inr (15, s101))]) [0] rfl
    have hD9 := hD.sub (ws' := [(Ad0, .inr (15, s101))]) [0] (by decide) rfl
    have hK9 := hK.sub (tys' := []) [] rfl
    exact W.zret (v := 0) hx hb hr rfl (fun t ht hW => ⟨⟨0, s101, rfl, (Or.inl ⟨c103, rfl, o_s101⟩), by rw [ht]; exact hP9, va_K.moved hW.alike hK9, hD9⟩, hS.F ht⟩) hS.2.2 dX12_apart_14
  · skip
    subst er107
    refine lv_if_ne (tgt := 15) hx hb dX12_apart_10 (by decide) (fun c109 => absurd c109 (by decide)) (fun c109 => ?_)
    refine lv_iconst (v := 0) hx hb dX12_apart_13 (by decide) ?_
    have hP9 := hP.sub (ws' := [(Ad0, .inr (15, s101))]) [0] rfl
    have hD9 := hD.sub (ws' := [(Ad0, .inr (15, s101))]) [0] (by decide) rfl
    have hK9 := hK.sub (tys' := []) [] rfl
    exact W.zret (v := 0) hx hb hr rfl (fun t ht hW => ⟨⟨0, s101, rfl, (Or.inr (⟨c105, c106, rfl, o_s101⟩)), by rw [ht]; exact hP9, va_K.moved hW.alike hK9, hD9⟩, hS.F ht⟩) hS.2.2 dX12_apart_14

def l_z_X12_watch : List Cond := [.methodLink RX12 416 yX12_isClass, .instanceMethod yX12_isClass, .selects RX12 yX12_isClass yX12_isClass, .initialized RX12, .fieldLink RX12 388 "HeapWorksModel" "thrown" "I", .code yX12_isClass cX12_isClass 2 (some .boolean), .fieldLink RX12 413 "HeapWorksModel" "classes" "I"]
def w_z_X12_watch : List Cond := .code yX12_watch cX12_watch 4 (some .int) :: (l_z_X12_watch ++ (wsX120))
theorem in_z_X12_watch_X12 : ∀ w ∈ wsX120, w ∈ w_z_X12_watch := fun w h => List.mem_cons_of_mem _ (List.mem_append_right _ (h))
theorem g_z_X12_watch_z_X12_isClass_416 : GoodIn w_z_X12_watch (wsV RX12 416 RX12 yX12_isClass w_z_X12_isClass) := goodIn_app (goodIn_r (([.methodLink RX12 416 yX12_isClass, .instanceMethod yX12_isClass, .selects RX12 yX12_isClass yX12_isClass, .initialized RX12] : List Cond)) [1, 2, 3, 4] rfl (by decide +kernel)) (goodIn_ca (goodIn_r (.code yX12_isClass cX12_isClass 2 (some .boolean) :: l_z_X12_isClass) [6, 7] rfl (by decide +kernel)) (goodIn_in (in_z_X12_watch_X12) gd_X12))
set_option maxHeartbeats 4000000 in
set_option maxRecDepth 100000 in
theorem z_X12_watch (l : Launch) (dC : Nat → ClassId) (dI : Nat → Nat → Nat) (sz : Nat) (Ad0 : Nat) (Fs0 : List Value) (Va0 : Int32) (Va1 : Int32) (Va2 : Int32) (k_Fs0 : fh Fs0 150 [(0, .int 0), (20, .int 0)])  : Met l yX12_watch w_z_X12_watch ({ frames := 1, cells := 0, slots := 0, locals := 21 }) (va_Pc [.ref Ad0, .int Va0, .int Va1, .int Va2] (fun U => U.heap.size = sz ∧ Wd dC dI [] (fun _ => True) [(Ad0, .inr (15, Fs0))] U)) (va_Qi (fun (r : Int32) (u : List Value) => (Va0 < 0 ∧ r = 0 ∧ ow Fs0 (u) 150 [0] [(0, .int 1), (20, .int 0)]) ∨ (¬ Va0 < 0 ∧ 0 ≤ Va0 ∧ r = 0 ∧ ow Fs0 (u) 150 [0] [(0, .int 1), (20, .int 0)])) (fun (u : List Value) t => Wd dC dI [] (va_A [(Ad0, .inr (15, Fs0))] sz) [(Ad0, .inr (15, (u)))] t) (va_A [(Ad0, .inr (15, Fs0))] sz))  0 0 (va_A [(Ad0, .inr (15, Fs0))] sz) := by
  refine Met.ofW (cc := cX12_watch) (maxL := 4) (ret := (some .int)) (by decide) rfl ?_
  intro p e s m args below meth c s₁ B hml hv
  obtain ⟨rfl, hsz, hP, hK, hD0⟩ := hv
  have hx := B.exec
  have hb := B.bytes
  have hr := B.returns
  have hts := atoms_spec (ws := w_z_X12_watch) B.pre
  have hown : s.vm.findClass RX12 = some m.cls := findClass_of_methodNamed B.named
  have hlocks := B.notSynchronized
  subst hsz
  have hD := hD0.self (sz := s.heap.size)
  generalize hAe : va_A [(Ad0, .inr (15, Fs0))] s.heap.size = A at hD ⊢
  have hA : ∀ q : Nat, s.heap.size ≤ q → A q := fun q h => by rw [← hAe]; exact Or.inr h
  have hS : va_S A s.heap s.heap [] := va_S.rf
  have hl := lv_entry ([.ref Ad0, .int Va0, .int Va1, .int Va2]) (n := 4) (Nat.le_of_ble_eq_true rfl)
  rw [lg_entry_eq]
  generalize (lg_sl ([.ref Ad0, .int Va0, .int Va1, .int Va2]) ++ List.replicate (4 - (lg_sl ([.ref Ad0, .int Va0, .int Va1, .int Va2])).length) Slot.unset).toArray = ls at hl ⊢
  have hl : lv_has ls 4 [(0, .ref Ad0), (1, .int Va0), (2, .int Va1), (3, .int Va2)] := hl
  have o_Fs0 := ow_0 k_Fs0
  refine lv_aload_n hx hb dX12_watch_0 rfl (lv_at hl 0 rfl) ?_
  refine lv_aload_n hx hb dX12_watch_1 rfl (lv_at hl 0 rfl) ?_
  refine lv_iload_n hx hb dX12_watch_2 rfl (lv_at hl 1 rfl) ?_
  have hPc := hP.sub (ws' := [(Ad0, .inr (15, Fs0))]) [0] rfl
  have hDc := hD.sub (ws' := [(Ad0, .inr (15, Fs0))]) [0] (by decide) rfl
  have hKc := hK.sub (tys' := []) [] rfl
  have hFc := va_free (wc := [(Ad0, .inr (15, Fs0))]) hD hS hA [0] rfl
  refine va_calli (va_runV (As := [.int Va0]) (rest := [.ref Ad0]) ⟨hx, hb, hml, hown, hts⟩ (z_X12_isClass l dC dI s.heap.size Ad0 Fs0 Va0 (fh_sub o_Fs0.2 [1] rfl) ) (cwV 1 hts g_z_X12_watch_z_X12_isClass_416 rfl rfl rfl (by decide +kernel) ⟨Nat.le_of_ble_eq_true rfl, Nat.le_of_ble_eq_true rfl⟩) ⟨fun a U g mk q => by obtain ⟨q0, q1, qP, qK, qD⟩ := q; exact ⟨q0, q1, qP, va_K.moved (u := U) (U := U.calling g mk a) (Vm.Alike.refl U.vm) qK, qD⟩, va_recv hK hP (ci := 15) (q0 := 0) rfl rfl, fun U hU hW => ⟨rfl, by rw [hU], by rw [hU]; exact hPc, va_K.moved hW.alike hKc, hDc.weaken (fun _ _ _ _ => trivial)⟩⟩ rfl rfl hl.1 rfl (lv_room (Nat.le_of_ble_eq_true rfl)) dX12_watch_3 ⟨Nat.le_of_ble_eq_true rfl, Nat.le_of_ble_eq_true rfl⟩) hS (fun q _ h => hFc q h) hFc (fun r101 u t H1 locs ht hvm hw hB hz1 hk1 hS => ?_)
  obtain ⟨hP1, hK1, hD1⟩ := hB
  rw [ht] at hP1
  try dsimp only at hw
  obtain ⟨hP, hD⟩ := va_join (wr := []) (w1 := [(Ad0, .inr (15, Fs0))]) hP hD [0] [] rfl rfl (by decide) (by decide) hk1 hFc hP1 hD1
  have hK := hK.sub (tys' := []) [] rfl
  generalize H1 = H at hP hS ⊢
  have hP : va_P (dC, dI) vwCl [(Ad0, .inr (15, Fs0))] H := hP
  have hD : va_D A [(Ad0, .inr (15, Fs0))] := hD
  rcases hw with ⟨c102, er103⟩ | ⟨c104, c105, er106⟩
  · skip
    subst er103
    refine lv_if_eq (tgt := 23) hx hb dX12_watch_6 (by decide) (fun c107 => ?_) (fun c107 => absurd c107 (by decide))
    refine lv_iconst (v := 1) hx hb dX12_watch_23 (by decide) ?_
    refine lv_goto (tgt := 54) hx hb dX12_watch_24 (by decide) ?_
    refine va_put (D := (dC, dI)) (ci := 15) (v := .int 1) (ty := .int) (C := RX12) (T := TX12) (N := 150) hx hb hts (in_z_X12_watch_X12) tyX12 tyX12_ok nmX12 hown hK hP hD hS 0 rfl rfl 0 (by decide) (hts (.fieldLink RX12 388 "HeapWorksModel" "thrown" "I") (by decide +kernel)) (fun _ h9 => h9) rfl (by decide +kernel) rfl rfl (by rw [o_Fs0.2.1]; decide) dX12_watch_54 (fun H locs hP hD hS => ?_)
    have hP : va_P (dC, dI) vwCl [(Ad0, .inr (15, (Fs0.set 0 (.int 1))))] H := hP
    have hD : va_D A [(Ad0, .inr (15, (Fs0.set 0 (.int 1))))] := hD
    have o_s108 := ow_set o_Fs0 0 (.int 1) (by decide) (l' := [(0, .int 1), (20, .int 0)]) (w' := [0]) rfl rfl
    generalize (Fs0.set 0 (.int 1)) = s108 at hP hD o_s108
    refine lv_aload_n hx hb dX12_watch_57 rfl (lv_at hl 0 rfl) ?_
    refine va_get (D := (dC, dI)) (ci := 15) (v := .int 1) (C := RX12) (T := TX12) (N := 150) hx hb hts (in_z_X12_watch_X12) hown hK hP 0 rfl rfl 0 (by decide) (hts (.fieldLink RX12 388 "HeapWorksModel" "thrown" "I") (by decide +kernel)) (fun _ h9 => h9) (ow_at o_s108 0 rfl) dX12_watch_58 ?_
    refine lv_if_le (tgt := 66) hx hb dX12_watch_61 (by decide) (fun c109 => absurd c109 (by decide)) (fun c109 => ?_)
    refine lv_iconst (v := 0) hx hb dX12_watch_64 (by decide) ?_
    have hP9 := hP.sub (ws' := [(Ad0, .inr (15, s108))]) [0] rfl
    have hD9 := hD.sub (ws' := [(Ad0, .inr (15, s108))]) [0] (by decide) rfl
    have hK9 := hK.sub (tys' := []) [] rfl
    exact W.iret (v := 0) hx hb hr (fun t ht hW => ⟨⟨0, s108, rfl, (Or.inl ⟨c102, rfl, o_s108⟩), by rw [ht]; exact hP9, va_K.moved hW.alike hK9, hD9⟩, hS.F ht⟩) hS.2.2 dX12_watch_65
  · skip
    subst er106
    refine lv_if_eq (tgt := 23) hx hb dX12_watch_6 (by decide) (fun c110 => ?_) (fun c110 => absurd c110 (by decide))
    refine lv_iconst (v := 1) hx hb dX12_watch_23 (by decide) ?_
    refine lv_goto (tgt := 54) hx hb dX12_watch_24 (by decide) ?_
    refine va_put (D := (dC, dI)) (ci := 15) (v := .int 1) (ty := .int) (C := RX12) (T := TX12) (N := 150) hx hb hts (in_z_X12_watch_X12) tyX12 tyX12_ok nmX12 hown hK hP hD hS 0 rfl rfl 0 (by decide) (hts (.fieldLink RX12 388 "HeapWorksModel" "thrown" "I") (by decide +kernel)) (fun _ h9 => h9) rfl (by decide +kernel) rfl rfl (by rw [o_Fs0.2.1]; decide) dX12_watch_54 (fun H locs hP hD hS => ?_)
    have hP : va_P (dC, dI) vwCl [(Ad0, .inr (15, (Fs0.set 0 (.int 1))))] H := hP
    have hD : va_D A [(Ad0, .inr (15, (Fs0.set 0 (.int 1))))] := hD
    have o_s111 := ow_set o_Fs0 0 (.int 1) (by decide) (l' := [(0, .int 1), (20, .int 0)]) (w' := [0]) rfl rfl
    generalize (Fs0.set 0 (.int 1)) = s111 at hP hD o_s111
    refine lv_aload_n hx hb dX12_watch_57 rfl (lv_at hl 0 rfl) ?_
    refine va_get (D := (dC, dI)) (ci := 15) (v := .int 1) (C := RX12) (T := TX12) (N := 150) hx hb hts (in_z_X12_watch_X12) hown hK hP 0 rfl rfl 0 (by decide) (hts (.fieldLink RX12 388 "HeapWorksModel" "thrown" "I") (by decide +kernel)) (fun _ h9 => h9) (ow_at o_s111 0 rfl) dX12_watch_58 ?_
    refine lv_if_le (tgt := 66) hx hb dX12_watch_61 (by decide) (fun c112 => absurd c112 (by decide)) (fun c112 => ?_)
    refine lv_iconst (v := 0) hx hb dX12_watch_64 (by decide) ?_
    have hP9 := hP.sub (ws' := [(Ad0, .inr (15, s111))]) [0] rfl
    have hD9 := hD.sub (ws' := [(Ad0, .inr (15, s111))]) [0] (by decide) rfl
    have hK9 := hK.sub (tys' := []) [] rfl
    exact W.iret (v := 0) hx hb hr (fun t ht hW => ⟨⟨0, s111, rfl, (Or.inr (⟨c104, c105, rfl, o_s111⟩)), by rw [ht]; exact hP9, va_K.moved hW.alike hK9, hD9⟩, hS.F ht⟩) hS.2.2 dX12_watch_65

def l_z_X12_rows : List Cond := [.fieldLink RX12 388 "HeapWorksModel" "thrown" "I", .fieldLink RX12 485 "HeapWorksModel" "watches" "I"]
def w_z_X12_rows : List Cond := .code yX12_rows cX12_rows 2 (some .int) :: (l_z_X12_rows ++ (wsX120))
theorem in_z_X12_rows_X12 : ∀ w ∈ wsX120, w ∈ w_z_X12_rows := fun w h => List.mem_cons_of_mem _ (List.mem_append_right _ (h))
set_option maxHeartbeats 4000000 in
set_option maxRecDepth 100000 in
theorem z_X12_rows (l : Launch) (dC : Nat → ClassId) (dI : Nat → Nat → Nat) (sz : Nat) (Ad0 : Nat) (Fs0 : List Value) (Va0 : Int32) (k_Fs0 : fh Fs0 150 [(44, .int 0)])  : Met l yX12_rows w_z_X12_rows ({ frames := 0, cells := 0, slots := 0, locals := 0 }) (va_Pc [.ref Ad0, .int Va0] (fun U => U.heap.size = sz ∧ Wd dC dI [] (fun _ => True) [(Ad0, .inr (15, Fs0))] U)) (va_Qi (fun (r : Int32) (u : List Value) => (Va0 < 0 ∧ r = (-1) ∧ ow Fs0 (u) 150 [0] [(0, .int 0), (44, .int 0)]) ∨ (¬ Va0 < 0 ∧ 0 ≤ Va0 ∧ r = (-1) ∧ ow Fs0 (u) 150 [0] [(0, .int 0), (44, .int 0)])) (fun (u : List Value) t => Wd dC dI [] (va_A [(Ad0, .inr (15, Fs0))] sz) [(Ad0, .inr (15, (u)))] t) (va_A [(Ad0, .inr (15, Fs0))] sz))  0 0 (va_A [(Ad0, .inr (15, Fs0))] sz) := by
  refine Met.ofW (cc := cX12_rows) (maxL := 2) (ret := (some .int)) (by decide) rfl ?_
  intro p e s m args below meth c s₁ B hml hv
  obtain ⟨rfl, hsz, hP, hK, hD0⟩ := hv
  have hx := B.exec
  have hb := B.bytes
  have hr := B.returns
  have hts := atoms_spec (ws := w_z_X12_rows) B.pre
  have hown : s.vm.findClass RX12 = some m.cls := findClass_of_methodNamed B.named
  have hlocks := B.notSynchronized
  subst hsz
  have hD := hD0.self (sz := s.heap.size)
  generalize hAe : va_A [(Ad0, .inr (15, Fs0))] s.heap.size = A at hD ⊢
  have hA : ∀ q : Nat, s.heap.size ≤ q → A q := fun q h => by rw [← hAe]; exact Or.inr h
  have hS : va_S A s.heap s.heap [] := va_S.rf
  have hl := lv_entry ([.ref Ad0, .int Va0]) (n := 2) (Nat.le_of_ble_eq_true rfl)
  rw [lg_entry_eq]
  generalize (lg_sl ([.ref Ad0, .int Va0]) ++ List.replicate (2 - (lg_sl ([.ref Ad0, .int Va0])).length) Slot.unset).toArray = ls at hl ⊢
  have hl : lv_has ls 2 [(0, .ref Ad0), (1, .int Va0)] := hl
  have o_Fs0 := ow_0 k_Fs0
  refine lv_aload_n hx hb dX12_rows_0 rfl (lv_at hl 0 rfl) ?_
  refine lv_iconst (v := 0) hx hb dX12_rows_1 (by decide) ?_
  refine va_put (D := (dC, dI)) (ci := 15) (v := .int 0) (ty := .int) (C := RX12) (T := TX12) (N := 150) hx hb hts (in_z_X12_rows_X12) tyX12 tyX12_ok nmX12 hown hK hP hD hS 0 rfl rfl 0 (by decide) (hts (.fieldLink RX12 388 "HeapWorksModel" "thrown" "I") (by decide +kernel)) (fun _ h9 => h9) rfl (by decide +kernel) rfl rfl (by rw [o_Fs0.2.1]; decide) dX12_rows_2 (fun H locs hP hD hS => ?_)
  have hP : va_P (dC, dI) vwCl [(Ad0, .inr (15, (Fs0.set 0 (.int 0))))] H := hP
  have hD : va_D A [(Ad0, .inr (15, (Fs0.set 0 (.int 0))))] := hD
  have o_s101 := ow_set o_Fs0 0 (.int 0) (by decide) (l' := [(0, .int 0), (44, .int 0)]) (w' := [0]) rfl rfl
  generalize (Fs0.set 0 (.int 0)) = s101 at hP hD o_s101
  refine lv_iload_n hx hb dX12_rows_5 rfl (lv_at hl 1 rfl) ?_
  refine lv_if_lt (tgt := 26) hx hb dX12_rows_6 (by decide) (fun c102 => ?_) (fun c102 => ?_)
  · skip
    refine lv_iconst (v := (-1)) hx hb dX12_rows_26 (by decide) ?_
    have hP9 := hP.sub (ws' := [(Ad0, .inr (15, s101))]) [0] rfl
    have hD9 := hD.sub (ws' := [(Ad0, .inr (15, s101))]) [0] (by decide) rfl
    have hK9 := hK.sub (tys' := []) [] rfl
    exact W.iret (v := (-1)) hx hb hr (fun t ht hW => ⟨⟨(-1), s101, rfl, (Or.inl ⟨c102, rfl, o_s101⟩), by rw [ht]; exact hP9, va_K.moved hW.alike hK9, hD9⟩, hS.F ht⟩) hS.2.2 dX12_rows_27
  · skip
    refine lv_iload_n hx hb dX12_rows_9 rfl (lv_at hl 1 rfl) ?_
    refine lv_aload_n hx hb dX12_rows_10 rfl (lv_at hl 0 rfl) ?_
    refine va_get (D := (dC, dI)) (ci := 15) (v := .int 0) (C := RX12) (T := TX12) (N := 150) hx hb hts (in_z_X12_rows_X12) hown hK hP 0 rfl rfl 44 (by decide) (hts (.fieldLink RX12 485 "HeapWorksModel" "watches" "I") (by decide +kernel)) (fun _ h9 => h9) (ow_at o_s101 1 rfl) dX12_rows_11 ?_
    refine lv_icmp_ge (tgt := 26) hx hb dX12_rows_14 (by decide) (fun c103 => ?_) (fun c103 => (by exfalso; have bd_Va0 := i_bd Va0; (try simp only [i_lt, i_le, i_eq, kc_0] at c102 c103); omega))
    refine lv_iconst (v := (-1)) hx hb dX12_rows_26 (by decide) ?_
    have hP9 := hP.sub (ws' := [(Ad0, .inr (15, s101))]) [0] rfl
    have hD9 := hD.sub (ws' := [(Ad0, .inr (15, s101))]) [0] (by decide) rfl
    have hK9 := hK.sub (tys' := []) [] rfl
    exact W.iret (v := (-1)) hx hb hr (fun t ht hW => ⟨⟨(-1), s101, rfl, (Or.inr (⟨c102, c103, rfl, o_s101⟩)), by rw [ht]; exact hP9, va_K.moved hW.alike hK9, hD9⟩, hS.F ht⟩) hS.2.2 dX12_rows_27

def l_z_X12_row : List Cond := [.fieldLink RX12 388 "HeapWorksModel" "thrown" "I", .fieldLink RX12 485 "HeapWorksModel" "watches" "I"]
def w_z_X12_row : List Cond := .code yX12_row cX12_row 5 (some .long) :: (l_z_X12_row ++ (wsX120))
theorem in_z_X12_row_X12 : ∀ w ∈ wsX120, w ∈ w_z_X12_row := fun w h => List.mem_cons_of_mem _ (List.mem_append_right _ (h))
set_option maxHeartbeats 4000000 in
set_option maxRecDepth 100000 in
theorem z_X12_row (l : Launch) (dC : Nat → ClassId) (dI : Nat → Nat → Nat) (sz : Nat) (Ad0 : Nat) (Fs0 : List Value) (Va0 : Int32) (Va1 : Int32) (Va2 : Int32) (k_Fs0 : fh Fs0 150 [(0, .int 0), (44, .int 0)])  : Met l yX12_row w_z_X12_row ({ frames := 0, cells := 0, slots := 0, locals := 0 }) (va_Pc [.ref Ad0, .int Va0, .int Va1, .int Va2] (fun U => U.heap.size = sz ∧ Wd dC dI [] (fun _ => True) [(Ad0, .inr (15, Fs0))] U)) (va_Ql (fun (r : Int64) (u : List Value) => (Va0 < 0 ∧ r = 0 ∧ ow Fs0 (u) 150 [0] [(0, .int 1), (44, .int 0)]) ∨ (¬ Va0 < 0 ∧ 0 ≤ Va0 ∧ r = 0 ∧ ow Fs0 (u) 150 [0] [(0, .int 1), (44, .int 0)])) (fun (u : List Value) t => Wd dC dI [] (va_A [(Ad0, .inr (15, Fs0))] sz) [(Ad0, .inr (15, (u)))] t) (va_A [(Ad0, .inr (15, Fs0))] sz))  0 0 (va_A [(Ad0, .inr (15, Fs0))] sz) := by
  refine Met.ofW (cc := cX12_row) (maxL := 5) (ret := (some .long)) (by decide) rfl ?_
  intro p e s m args below meth c s₁ B hml hv
  obtain ⟨rfl, hsz, hP, hK, hD0⟩ := hv
  have hx := B.exec
  have hb := B.bytes
  have hr := B.returns
  have hts := atoms_spec (ws := w_z_X12_row) B.pre
  have hown : s.vm.findClass RX12 = some m.cls := findClass_of_methodNamed B.named
  have hlocks := B.notSynchronized
  subst hsz
  have hD := hD0.self (sz := s.heap.size)
  generalize hAe : va_A [(Ad0, .inr (15, Fs0))] s.heap.size = A at hD ⊢
  have hA : ∀ q : Nat, s.heap.size ≤ q → A q := fun q h => by rw [← hAe]; exact Or.inr h
  have hS : va_S A s.heap s.heap [] := va_S.rf
  have hl := lv_entry ([.ref Ad0, .int Va0, .int Va1, .int Va2]) (n := 5) (Nat.le_of_ble_eq_true rfl)
  rw [lg_entry_eq]
  generalize (lg_sl ([.ref Ad0, .int Va0, .int Va1, .int Va2]) ++ List.replicate (5 - (lg_sl ([.ref Ad0, .int Va0, .int Va1, .int Va2])).length) Slot.unset).toArray = ls at hl ⊢
  have hl : lv_has ls 5 [(0, .ref Ad0), (1, .int Va0), (2, .int Va1), (3, .int Va2)] := hl
  have o_Fs0 := ow_0 k_Fs0
  refine lv_aload_n hx hb dX12_row_0 rfl (lv_at hl 0 rfl) ?_
  refine lv_iload_n hx hb dX12_row_1 rfl (lv_at hl 1 rfl) ?_
  refine lv_if_lt (tgt := 36) hx hb dX12_row_2 (by decide) (fun c101 => ?_) (fun c101 => ?_)
  · skip
    refine lv_iconst (v := 1) hx hb dX12_row_36 (by decide) ?_
    refine lv_goto (tgt := 41) hx hb dX12_row_37 (by decide) ?_
    refine va_put (D := (dC, dI)) (ci := 15) (v := .int 1) (ty := .int) (C := RX12) (T := TX12) (N := 150) hx hb hts (in_z_X12_row_X12) tyX12 tyX12_ok nmX12 hown hK hP hD hS 0 rfl rfl 0 (by decide) (hts (.fieldLink RX12 388 "HeapWorksModel" "thrown" "I") (by decide +kernel)) (fun _ h9 => h9) rfl (by decide +kernel) rfl rfl (by rw [o_Fs0.2.1]; decide) dX12_row_41 (fun H locs hP hD hS => ?_)
    have hP : va_P (dC, dI) vwCl [(Ad0, .inr (15, (Fs0.set 0 (.int 1))))] H := hP
    have hD : va_D A [(Ad0, .inr (15, (Fs0.set 0 (.int 1))))] := hD
    have o_s102 := ow_set o_Fs0 0 (.int 1) (by decide) (l' := [(0, .int 1), (44, .int 0)]) (w' := [0]) rfl rfl
    generalize (Fs0.set 0 (.int 1)) = s102 at hP hD o_s102
    refine lv_aload_n hx hb dX12_row_44 rfl (lv_at hl 0 rfl) ?_
    refine va_get (D := (dC, dI)) (ci := 15) (v := .int 1) (C := RX12) (T := TX12) (N := 150) hx hb hts (in_z_X12_row_X12) hown hK hP 0 rfl rfl 0 (by decide) (hts (.fieldLink RX12 388 "HeapWorksModel" "thrown" "I") (by decide +kernel)) (fun _ h9 => h9) (ow_at o_s102 0 rfl) dX12_row_45 ?_
    refine lv_if_le (tgt := 53) hx hb dX12_row_48 (by decide) (fun c103 => absurd c103 (by decide)) (fun c103 => ?_)
    refine lv_lconst (v := 0) hx hb dX12_row_51 (by decide) ?_
    have hP9 := hP.sub (ws' := [(Ad0, .inr (15, s102))]) [0] rfl
    have hD9 := hD.sub (ws' := [(Ad0, .inr (15, s102))]) [0] (by decide) rfl
    have hK9 := hK.sub (tys' := []) [] rfl
    exact W.lret (v := 0) hx hb hr (fun t ht hW => ⟨⟨0, s102, rfl, (Or.inl ⟨c101, rfl, o_s102⟩), by rw [ht]; exact hP9, va_K.moved hW.alike hK9, hD9⟩, hS.F ht⟩) hS.2.2 dX12_row_52
  · skip
    refine lv_iload_n hx hb dX12_row_5 rfl (lv_at hl 1 rfl) ?_
    refine lv_aload_n hx hb dX12_row_6 rfl (lv_at hl 0 rfl) ?_
    refine va_get (D := (dC, dI)) (ci := 15) (v := .int 0) (C := RX12) (T := TX12) (N := 150) hx hb hts (in_z_X12_row_X12) hown hK hP 0 rfl rfl 44 (by decide) (hts (.fieldLink RX12 485 "HeapWorksModel" "watches" "I") (by decide +kernel)) (fun _ h9 => h9) (ow_at o_Fs0 1 rfl) dX12_row_7 ?_
    refine lv_icmp_ge (tgt := 36) hx hb dX12_row_10 (by decide) (fun c104 => ?_) (fun c104 => (by exfalso; have bd_Va0 := i_bd Va0; (try simp only [i_lt, i_le, i_eq, kc_0] at c101 c104); omega))
    refine lv_iconst (v := 1) hx hb dX12_row_36 (by decide) ?_
    refine lv_goto (tgt := 41) hx hb dX12_row_37 (by decide) ?_
    refine va_put (D := (dC, dI)) (ci := 15) (v := .int 1) (ty := .int) (C := RX12) (T := TX12) (N := 150) hx hb hts (in_z_X12_row_X12) tyX12 tyX12_ok nmX12 hown hK hP hD hS 0 rfl rfl 0 (by decide) (hts (.fieldLink RX12 388 "HeapWorksModel" "thrown" "I") (by decide +kernel)) (fun _ h9 => h9) rfl (by decide +kernel) rfl rfl (by rw [o_Fs0.2.1]; decide) dX12_row_41 (fun H locs hP hD hS => ?_)
    have hP : va_P (dC, dI) vwCl [(Ad0, .inr (15, (Fs0.set 0 (.int 1))))] H := hP
    have hD : va_D A [(Ad0, .inr (15, (Fs0.set 0 (.int 1))))] := hD
    have o_s105 := ow_set o_Fs0 0 (.int 1) (by decide) (l' := [(0, .int 1), (44, .int 0)]) (w' := [0]) rfl rfl
    generalize (Fs0.set 0 (.int 1)) = s105 at hP hD o_s105
    refine lv_aload_n hx hb dX12_row_44 rfl (lv_at hl 0 rfl) ?_
    refine va_get (D := (dC, dI)) (ci := 15) (v := .int 1) (C := RX12) (T := TX12) (N := 150) hx hb hts (in_z_X12_row_X12) hown hK hP 0 rfl rfl 0 (by decide) (hts (.fieldLink RX12 388 "HeapWorksModel" "thrown" "I") (by decide +kernel)) (fun _ h9 => h9) (ow_at o_s105 0 rfl) dX12_row_45 ?_
    refine lv_if_le (tgt := 53) hx hb dX12_row_48 (by decide) (fun c106 => absurd c106 (by decide)) (fun c106 => ?_)
    refine lv_lconst (v := 0) hx hb dX12_row_51 (by decide) ?_
    have hP9 := hP.sub (ws' := [(Ad0, .inr (15, s105))]) [0] rfl
    have hD9 := hD.sub (ws' := [(Ad0, .inr (15, s105))]) [0] (by decide) rfl
    have hK9 := hK.sub (tys' := []) [] rfl
    exact W.lret (v := 0) hx hb hr (fun t ht hW => ⟨⟨0, s105, rfl, (Or.inr (⟨c101, c104, rfl, o_s105⟩)), by rw [ht]; exact hP9, va_K.moved hW.alike hK9, hD9⟩, hS.F ht⟩) hS.2.2 dX12_row_52

def l_z_X12_byteAt : List Cond := [.fieldLink RX12 391 "HeapWorksModel" "taped" "I"]
def w_z_X12_byteAt : List Cond := .code yX12_byteAt cX12_byteAt 2 (some .int) :: (l_z_X12_byteAt ++ (wsX120))
theorem in_z_X12_byteAt_X12 : ∀ w ∈ wsX120, w ∈ w_z_X12_byteAt := fun w h => List.mem_cons_of_mem _ (List.mem_append_right _ (h))
set_option maxHeartbeats 4000000 in
set_option maxRecDepth 100000 in
theorem z_X12_byteAt (l : Launch) (dC : Nat → ClassId) (dI : Nat → Nat → Nat) (sz : Nat) (Ad0 : Nat) (Fs0 : List Value) (k_Fs0 : fh Fs0 150 [(3, .int 0)])  : Met l yX12_byteAt w_z_X12_byteAt ({ frames := 0, cells := 0, slots := 0, locals := 0 }) (va_Pc [.ref Ad0, .int 0] (fun U => U.heap.size = sz ∧ Wd dC dI [] (fun _ => True) [(Ad0, .inr (15, Fs0))] U)) (va_Qi (fun (r : Int32) (u : Unit) => r = (-1)) (fun (u : Unit) t => Wd dC dI [] (va_A [(Ad0, .inr (15, Fs0))] sz) [(Ad0, .inr (15, Fs0))] t) (va_A [(Ad0, .inr (15, Fs0))] sz))  0 0 (va_A [(Ad0, .inr (15, Fs0))] sz) := by
  refine Met.ofW (cc := cX12_byteAt) (maxL := 2) (ret := (some .int)) (by decide) rfl ?_
  intro p e s m args below meth c s₁ B hml hv
  obtain ⟨rfl, hsz, hP, hK, hD0⟩ := hv
  have hx := B.exec
  have hb := B.bytes
  have hr := B.returns
  have hts := atoms_spec (ws := w_z_X12_byteAt) B.pre
  have hown : s.vm.findClass RX12 = some m.cls := findClass_of_methodNamed B.named
  have hlocks := B.notSynchronized
  subst hsz
  have hD := hD0.self (sz := s.heap.size)
  generalize hAe : va_A [(Ad0, .inr (15, Fs0))] s.heap.size = A at hD ⊢
  have hA : ∀ q : Nat, s.heap.size ≤ q → A q := fun q h => by rw [← hAe]; exact Or.inr h
  have hS : va_S A s.heap s.heap [] := va_S.rf
  have hl := lv_entry ([.ref Ad0, .int 0]) (n := 2) (Nat.le_of_ble_eq_true rfl)
  rw [lg_entry_eq]
  generalize (lg_sl ([.ref Ad0, .int 0]) ++ List.replicate (2 - (lg_sl ([.ref Ad0, .int 0])).length) Slot.unset).toArray = ls at hl ⊢
  have hl : lv_has ls 2 [(0, .ref Ad0), (1, .int 0)] := hl
  have o_Fs0 := ow_0 k_Fs0
  refine lv_iload_n hx hb dX12_byteAt_0 rfl (lv_at hl 1 rfl) ?_
  refine lv_aload_n hx hb dX12_byteAt_1 rfl (lv_at hl 0 rfl) ?_
  refine va_get (D := (dC, dI)) (ci := 15) (v := .int 0) (C := RX12) (T := TX12) (N := 150) hx hb hts (in_z_X12_byteAt_X12) hown hK hP 0 rfl rfl 3 (by decide) (hts (.fieldLink RX12 391 "HeapWorksModel" "taped" "I") (by decide +kernel)) (fun _ h9 => h9) (ow_at o_Fs0 0 rfl) dX12_byteAt_2 ?_
  refine lv_icmp_ge (tgt := 21) hx hb dX12_byteAt_5 (by decide) (fun c101 => ?_) (fun c101 => absurd c101 (by decide))
  refine lv_iconst (v := (-1)) hx hb dX12_byteAt_21 (by decide) ?_
  have hP9 := hP.sub (ws' := [(Ad0, .inr (15, Fs0))]) [0] rfl
  have hD9 := hD.sub (ws' := [(Ad0, .inr (15, Fs0))]) [0] (by decide) rfl
  have hK9 := hK.sub (tys' := []) [] rfl
  exact W.iret (v := (-1)) hx hb hr (fun t ht hW => ⟨⟨(-1), (), rfl, rfl, by rw [ht]; exact hP9, va_K.moved hW.alike hK9, hD9⟩, hS.F ht⟩) hS.2.2 dX12_byteAt_22

def l_z_X12_advance : List Cond := [.fieldLink RX12 631 "HeapWorksModel" "at0" "I", .methodLink RX12 634 yX12_byteAt, .instanceMethod yX12_byteAt, .selects RX12 yX12_byteAt yX12_byteAt, .initialized RX12, .fieldLink RX12 637 "HeapWorksModel" "from0" "I", .fieldLink RX12 640 "HeapWorksModel" "word" "J", .fieldLink RX12 644 "HeapWorksModel" "kind" "I", .code yX12_byteAt cX12_byteAt 2 (some .int), .fieldLink RX12 391 "HeapWorksModel" "taped" "I"]
def w_z_X12_advance : List Cond := .code yX12_advance cX12_advance 5 none :: (l_z_X12_advance ++ (wsX120))
theorem in_z_X12_advance_X12 : ∀ w ∈ wsX120, w ∈ w_z_X12_advance := fun w h => List.mem_cons_of_mem _ (List.mem_append_right _ (h))
theorem g_z_X12_advance_z_X12_byteAt_634 : GoodIn w_z_X12_advance (wsV RX12 634 RX12 yX12_byteAt w_z_X12_byteAt) := goodIn_app (goodIn_r (([.methodLink RX12 634 yX12_byteAt, .instanceMethod yX12_byteAt, .selects RX12 yX12_byteAt yX12_byteAt, .initialized RX12] : List Cond)) [2, 3, 4, 5] rfl (by decide +kernel)) (goodIn_ca (goodIn_r (.code yX12_byteAt cX12_byteAt 2 (some .int) :: l_z_X12_byteAt) [9, 10] rfl (by decide +kernel)) (goodIn_in (in_z_X12_advance_X12) gd_X12))
set_option maxHeartbeats 4000000 in
set_option maxRecDepth 100000 in
theorem z_X12_advance (l : Launch) (dC : Nat → ClassId) (dI : Nat → Nat → Nat) (sz : Nat) (Ad0 : Nat) (Fs0 : List Value) (k_Fs0 : fh Fs0 150 [(78, .int 0), (3, .int 0)])  : Met l yX12_advance w_z_X12_advance ({ frames := 1, cells := 0, slots := 0, locals := 21 }) (va_Pc [.ref Ad0] (fun U => U.heap.size = sz ∧ Wd dC dI [] (fun _ => True) [(Ad0, .inr (15, Fs0))] U)) (va_Qv (fun (u : List Value) => ow Fs0 (u) 150 [80, 85, 79] [(80, .int 0), (85, .long 0), (79, .int 0), (78, .int 0), (3, .int 0)]) (fun (u : List Value) t => Wd dC dI [] (va_A [(Ad0, .inr (15, Fs0))] sz) [(Ad0, .inr (15, (u)))] t) (va_A [(Ad0, .inr (15, Fs0))] sz))  0 0 (va_A [(Ad0, .inr (15, Fs0))] sz) := by
  refine Met.ofW (cc := cX12_advance) (maxL := 5) (ret := none) (by decide) rfl ?_
  intro p e s m args below meth c s₁ B hml hv
  obtain ⟨rfl, hsz, hP, hK, hD0⟩ := hv
  have hx := B.exec
  have hb := B.bytes
  have hr := B.returns
  have hts := atoms_spec (ws := w_z_X12_advance) B.pre
  have hown : s.vm.findClass RX12 = some m.cls := findClass_of_methodNamed B.named
  have hlocks := B.notSynchronized
  subst hsz
  have hD := hD0.self (sz := s.heap.size)
  generalize hAe : va_A [(Ad0, .inr (15, Fs0))] s.heap.size = A at hD ⊢
  have hA : ∀ q : Nat, s.heap.size ≤ q → A q := fun q h => by rw [← hAe]; exact Or.inr h
  have hS : va_S A s.heap s.heap [] := va_S.rf
  have hl := lv_entry ([.ref Ad0]) (n := 5) (Nat.le_of_ble_eq_true rfl)
  rw [lg_entry_eq]
  generalize (lg_sl ([.ref Ad0]) ++ List.replicate (5 - (lg_sl ([.ref Ad0])).length) Slot.unset).toArray = ls at hl ⊢
  have hl : lv_has ls 5 [(0, .ref Ad0)] := hl
  have o_Fs0 := ow_0 k_Fs0
  refine lv_aload_n hx hb dX12_advance_0 rfl (lv_at hl 0 rfl) ?_
  refine lv_aload_n hx hb dX12_advance_1 rfl (lv_at hl 0 rfl) ?_
  refine va_get (D := (dC, dI)) (ci := 15) (v := .int 0) (C := RX12) (T := TX12) (N := 150) hx hb hts (in_z_X12_advance_X12) hown hK hP 0 rfl rfl 78 (by decide) (hts (.fieldLink RX12 631 "HeapWorksModel" "at0" "I") (by decide +kernel)) (fun _ h9 => h9) (ow_at o_Fs0 0 rfl) dX12_advance_2 ?_
  have hPc := hP.sub (ws' := [(Ad0, .inr (15, Fs0))]) [0] rfl
  have hDc := hD.sub (ws' := [(Ad0, .inr (15, Fs0))]) [0] (by decide) rfl
  have hKc := hK.sub (tys' := []) [] rfl
  have hFc := va_free (wc := [(Ad0, .inr (15, Fs0))]) hD hS hA [0] rfl
  refine va_calli (va_runV (As := [.int 0]) (rest := []) ⟨hx, hb, hml, hown, hts⟩ (z_X12_byteAt l dC dI s.heap.size Ad0 Fs0 (fh_sub o_Fs0.2 [1] rfl) ) (cwV 1 hts g_z_X12_advance_z_X12_byteAt_634 rfl rfl rfl (by decide +kernel) ⟨Nat.le_of_ble_eq_true rfl, Nat.le_of_ble_eq_true rfl⟩) ⟨fun a U g mk q => by obtain ⟨q0, q1, qP, qK, qD⟩ := q; exact ⟨q0, q1, qP, va_K.moved (u := U) (U := U.calling g mk a) (Vm.Alike.refl U.vm) qK, qD⟩, va_recv hK hP (ci := 15) (q0 := 0) rfl rfl, fun U hU hW => ⟨rfl, by rw [hU], by rw [hU]; exact hPc, va_K.moved hW.alike hKc, hDc.weaken (fun _ _ _ _ => trivial)⟩⟩ rfl rfl hl.1 rfl (lv_room (Nat.le_of_ble_eq_true rfl)) dX12_advance_5 ⟨Nat.le_of_ble_eq_true rfl, Nat.le_of_ble_eq_true rfl⟩) hS (fun q _ h => hFc q h) hFc (fun r101 u t H1 locs ht hvm hw hB hz1 hk1 hS => ?_)
  obtain ⟨hP1, hK1, hD1⟩ := hB
  rw [ht] at hP1
  try dsimp only at hw
  obtain ⟨hP, hD⟩ := va_join (wr := []) (w1 := [(Ad0, .inr (15, Fs0))]) hP hD [0] [] rfl rfl (by decide) (by decide) hk1 hFc hP1 hD1
  have hK := hK.sub (tys' := []) [] rfl
  generalize H1 = H at hP hS ⊢
  have hP : va_P (dC, dI) vwCl [(Ad0, .inr (15, Fs0))] H := hP
  have hD : va_D A [(Ad0, .inr (15, Fs0))] := hD
  have er102 := hw
  subst er102
  refine lv_istore_n (lv' := [(1, .int (-1)), (0, .ref Ad0)]) hx hb dX12_advance_8 rfl hl (by decide) rfl (fun ls hl => ?_)
  refine lv_iload_n hx hb dX12_advance_9 rfl (lv_at hl 0 rfl) ?_
  refine lv_bipush (v := 9) hx hb dX12_advance_10 (by decide) ?_
  refine lv_icmp_eq (tgt := 33) hx hb dX12_advance_12 (by decide) (fun c103 => absurd c103 (by decide)) (fun c103 => ?_)
  refine lv_iload_n hx hb dX12_advance_15 rfl (lv_at hl 0 rfl) ?_
  refine lv_bipush (v := 10) hx hb dX12_advance_16 (by decide) ?_
  refine lv_icmp_eq (tgt := 33) hx hb dX12_advance_18 (by decide) (fun c104 => absurd c104 (by decide)) (fun c104 => ?_)
  refine lv_iload_n hx hb dX12_advance_21 rfl (lv_at hl 0 rfl) ?_
  refine lv_bipush (v := 13) hx hb dX12_advance_22 (by decide) ?_
  refine lv_icmp_eq (tgt := 33) hx hb dX12_advance_24 (by decide) (fun c105 => absurd c105 (by decide)) (fun c105 => ?_)
  refine lv_iload_n hx hb dX12_advance_27 rfl (lv_at hl 0 rfl) ?_
  refine lv_bipush (v := 32) hx hb dX12_advance_28 (by decide) ?_
  refine lv_icmp_ne (tgt := 55) hx hb dX12_advance_30 (by decide) (fun c106 => ?_) (fun c106 => absurd c106 (by decide))
  refine lv_aload_n hx hb dX12_advance_55 rfl (lv_at hl 1 rfl) ?_
  refine lv_aload_n hx hb dX12_advance_56 rfl (lv_at hl 1 rfl) ?_
  refine va_get (D := (dC, dI)) (ci := 15) (v := .int 0) (C := RX12) (T := TX12) (N := 150) hx hb hts (in_z_X12_advance_X12) hown hK hP 0 rfl rfl 78 (by decide) (hts (.fieldLink RX12 631 "HeapWorksModel" "at0" "I") (by decide +kernel)) (fun _ h9 => h9) (ow_at o_Fs0 0 rfl) dX12_advance_57 ?_
  refine va_put (D := (dC, dI)) (ci := 15) (v := .int 0) (ty := .int) (C := RX12) (T := TX12) (N := 150) hx hb hts (in_z_X12_advance_X12) tyX12 tyX12_ok nmX12 hown hK hP hD hS 0 rfl rfl 79 (by decide) (hts (.fieldLink RX12 637 "HeapWorksModel" "from0" "I") (by decide +kernel)) (fun _ h9 => h9) rfl (by decide +kernel) rfl rfl (by rw [o_Fs0.2.1]; decide) dX12_advance_60 (fun H locs hP hD hS => ?_)
  have hP : va_P (dC, dI) vwCl [(Ad0, .inr (15, (Fs0.set 79 (.int 0))))] H := hP
  have hD : va_D A [(Ad0, .inr (15, (Fs0.set 79 (.int 0))))] := hD
  have o_s107 := ow_set o_Fs0 79 (.int 0) (by decide) (l' := [(79, .int 0), (78, .int 0), (3, .int 0)]) (w' := [79]) rfl rfl
  generalize (Fs0.set 79 (.int 0)) = s107 at hP hD o_s107
  refine lv_aload_n hx hb dX12_advance_63 rfl (lv_at hl 1 rfl) ?_
  refine lv_lconst (v := 0) hx hb dX12_advance_64 (by decide) ?_
  refine va_put (D := (dC, dI)) (ci := 15) (v := .long 0) (ty := .long) (C := RX12) (T := TX12) (N := 150) hx hb hts (in_z_X12_advance_X12) tyX12 tyX12_ok nmX12 hown hK hP hD hS 0 rfl rfl 85 (by decide) (hts (.fieldLink RX12 640 "HeapWorksModel" "word" "J") (by decide +kernel)) (fun _ h9 => h9) rfl (by decide +kernel) rfl rfl (by rw [o_s107.2.1]; decide) dX12_advance_65 (fun H locs hP hD hS => ?_)
  have hP : va_P (dC, dI) vwCl [(Ad0, .inr (15, (s107.set 85 (.long 0))))] H := hP
  have hD : va_D A [(Ad0, .inr (15, (s107.set 85 (.long 0))))] := hD
  have o_s108 := ow_set o_s107 85 (.long 0) (by decide) (l' := [(85, .long 0), (79, .int 0), (78, .int 0), (3, .int 0)]) (w' := [85, 79]) rfl rfl
  generalize (s107.set 85 (.long 0)) = s108 at hP hD o_s108
  refine lv_iload_n hx hb dX12_advance_68 rfl (lv_at hl 0 rfl) ?_
  refine lv_iconst (v := (-1)) hx hb dX12_advance_69 (by decide) ?_
  refine lv_icmp_ne (tgt := 81) hx hb dX12_advance_70 (by decide) (fun c109 => absurd c109 (by decide)) (fun c109 => ?_)
  refine lv_aload_n hx hb dX12_advance_73 rfl (lv_at hl 1 rfl) ?_
  refine lv_iconst (v := 0) hx hb dX12_advance_74 (by decide) ?_
  refine va_put (D := (dC, dI)) (ci := 15) (v := .int 0) (ty := .int) (C := RX12) (T := TX12) (N := 150) hx hb hts (in_z_X12_advance_X12) tyX12 tyX12_ok nmX12 hown hK hP hD hS 0 rfl rfl 80 (by decide) (hts (.fieldLink RX12 644 "HeapWorksModel" "kind" "I") (by decide +kernel)) (fun _ h9 => h9) rfl (by decide +kernel) rfl rfl (by rw [o_s108.2.1]; decide) dX12_advance_75 (fun H locs hP hD hS => ?_)
  have hP : va_P (dC, dI) vwCl [(Ad0, .inr (15, (s108.set 80 (.int 0))))] H := hP
  have hD : va_D A [(Ad0, .inr (15, (s108.set 80 (.int 0))))] := hD
  have o_s110 := ow_set o_s108 80 (.int 0) (by decide) (l' := [(80, .int 0), (85, .long 0), (79, .int 0), (78, .int 0), (3, .int 0)]) (w' := [80, 85, 79]) rfl rfl
  generalize (s108.set 80 (.int 0)) = s110 at hP hD o_s110
  refine lv_goto (tgt := 504) hx hb dX12_advance_78 (by decide) ?_
  have hP9 := hP.sub (ws' := [(Ad0, .inr (15, s110))]) [0] rfl
  have hD9 := hD.sub (ws' := [(Ad0, .inr (15, s110))]) [0] (by decide) rfl
  have hK9 := hK.sub (tys' := []) [] rfl
  exact W.vret hx hb hr (fun t ht hW => ⟨⟨s110, rfl, o_s110, by rw [ht]; exact hP9, va_K.moved hW.alike hK9, hD9⟩, hS.F ht⟩) hS.2.2 dX12_advance_504

def l_z_X12_beginText : List Cond := [.fieldLink RX12 673 "HeapWorksModel" "nodeBase" "I", .fieldLink RX12 670 "HeapWorksModel" "nodes" "I", .fieldLink RX12 676 "HeapWorksModel" "nested" "I", .fieldLink RX12 761 "HeapWorksModel" "known" "I", .fieldLink RX12 625 "HeapWorksModel" "stop" "I", .fieldLink RX12 628 "HeapWorksModel" "stopAt" "I", .fieldLink RX12 631 "HeapWorksModel" "at0" "I", .methodLink RX12 661 yX12_advance, .instanceMethod yX12_advance, .selects RX12 yX12_advance yX12_advance, .initialized RX12, .code yX12_advance cX12_advance 5 none, .methodLink RX12 634 yX12_byteAt, .instanceMethod yX12_byteAt, .selects RX12 yX12_byteAt yX12_byteAt, .fieldLink RX12 637 "HeapWorksModel" "from0" "I", .fieldLink RX12 640 "HeapWorksModel" "word" "J", .fieldLink RX12 644 "HeapWorksModel" "kind" "I", .code yX12_byteAt cX12_byteAt 2 (some .int), .fieldLink RX12 391 "HeapWorksModel" "taped" "I"]
def w_z_X12_beginText : List Cond := .code yX12_beginText cX12_beginText 2 none :: (l_z_X12_beginText ++ (wsX120))
theorem in_z_X12_beginText_X12 : ∀ w ∈ wsX120, w ∈ w_z_X12_beginText := fun w h => List.mem_cons_of_mem _ (List.mem_append_right _ (h))
theorem g_z_X12_beginText_z_X12_advance_661 : GoodIn w_z_X12_beginText (wsV RX12 661 RX12 yX12_advance w_z_X12_advance) := goodIn_app (goodIn_r (([.methodLink RX12 661 yX12_advance, .instanceMethod yX12_advance, .selects RX12 yX12_advance yX12_advance, .initialized RX12] : List Cond)) [8, 9, 10, 11] rfl (by decide +kernel)) (goodIn_ca (goodIn_r (.code yX12_advance cX12_advance 5 none :: l_z_X12_advance) [12, 7, 13, 14, 15, 11, 16, 17, 18, 19, 20] rfl (by decide +kernel)) (goodIn_in (in_z_X12_beginText_X12) gd_X12))
set_option maxHeartbeats 4000000 in
set_option maxRecDepth 100000 in
theorem z_X12_beginText (l : Launch) (dC : Nat → ClassId) (dI : Nat → Nat → Nat) (sz : Nat) (Ad0 : Nat) (Fs0 : List Value) (k_Fs0 : fh Fs0 150 [(3, .int 0), (78, .int 0)])  : Met l yX12_beginText w_z_X12_beginText ({ frames := 2, cells := 0, slots := 0, locals := 45 }) (va_Pc [.ref Ad0, .int 120] (fun U => U.heap.size = sz ∧ Wd dC dI [] (fun _ => True) [(Ad0, .inr (15, Fs0))] U)) (va_Qv (fun (u : List Value) => ow Fs0 (u) 150 [80, 85, 79, 78, 84, 83, 94, 93, 92, 91] [(80, .int 0), (85, .long 0), (79, .int 0), (78, .int 0), (3, .int 0), (78, .int 0), (84, .int (-1)), (83, .int 0), (94, .int 0), (93, .int 0), (92, .int 0), (91, .int 120), (3, .int 0)]) (fun (u : List Value) t => Wd dC dI [] (va_A [(Ad0, .inr (15, Fs0))] sz) [(Ad0, .inr (15, (u)))] t) (va_A [(Ad0, .inr (15, Fs0))] sz))  0 0 (va_A [(Ad0, .inr (15, Fs0))] sz) := by
  refine Met.ofW (cc := cX12_beginText) (maxL := 2) (ret := none) (by decide) rfl ?_
  intro p e s m args below meth c s₁ B hml hv
  obtain ⟨rfl, hsz, hP, hK, hD0⟩ := hv
  have hx := B.exec
  have hb := B.bytes
  have hr := B.returns
  have hts := atoms_spec (ws := w_z_X12_beginText) B.pre
  have hown : s.vm.findClass RX12 = some m.cls := findClass_of_methodNamed B.named
  have hlocks := B.notSynchronized
  subst hsz
  have hD := hD0.self (sz := s.heap.size)
  generalize hAe : va_A [(Ad0, .inr (15, Fs0))] s.heap.size = A at hD ⊢
  have hA : ∀ q : Nat, s.heap.size ≤ q → A q := fun q h => by rw [← hAe]; exact Or.inr h
  have hS : va_S A s.heap s.heap [] := va_S.rf
  have hl := lv_entry ([.ref Ad0, .int 120]) (n := 2) (Nat.le_of_ble_eq_true rfl)
  rw [lg_entry_eq]
  generalize (lg_sl ([.ref Ad0, .int 120]) ++ List.replicate (2 - (lg_sl ([.ref Ad0, .int 120])).length) Slot.unset).toArray = ls at hl ⊢
  have hl : lv_has ls 2 [(0, .ref Ad0), (1, .int 120)] := hl
  have o_Fs0 := ow_0 k_Fs0
  refine lv_aload_n hx hb dX12_beginText_0 rfl (lv_at hl 0 rfl) ?_
  refine lv_iload_n hx hb dX12_beginText_1 rfl (lv_at hl 1 rfl) ?_
  refine va_put (D := (dC, dI)) (ci := 15) (v := .int 120) (ty := .int) (C := RX12) (T := TX12) (N := 150) hx hb hts (in_z_X12_beginText_X12) tyX12 tyX12_ok nmX12 hown hK hP hD hS 0 rfl rfl 91 (by decide) (hts (.fieldLink RX12 673 "HeapWorksModel" "nodeBase" "I") (by decide +kernel)) (fun _ h9 => h9) rfl (by decide +kernel) rfl rfl (by rw [o_Fs0.2.1]; decide) dX12_beginText_2 (fun H locs hP hD hS => ?_)
  have hP : va_P (dC, dI) vwCl [(Ad0, .inr (15, (Fs0.set 91 (.int 120))))] H := hP
  have hD : va_D A [(Ad0, .inr (15, (Fs0.set 91 (.int 120))))] := hD
  have o_s101 := ow_set o_Fs0 91 (.int 120) (by decide) (l' := [(91, .int 120), (3, .int 0), (78, .int 0)]) (w' := [91]) rfl rfl
  generalize (Fs0.set 91 (.int 120)) = s101 at hP hD o_s101
  refine lv_aload_n hx hb dX12_beginText_5 rfl (lv_at hl 0 rfl) ?_
  refine lv_iconst (v := 0) hx hb dX12_beginText_6 (by decide) ?_
  refine va_put (D := (dC, dI)) (ci := 15) (v := .int 0) (ty := .int) (C := RX12) (T := TX12) (N := 150) hx hb hts (in_z_X12_beginText_X12) tyX12 tyX12_ok nmX12 hown hK hP hD hS 0 rfl rfl 92 (by decide) (hts (.fieldLink RX12 670 "HeapWorksModel" "nodes" "I") (by decide +kernel)) (fun _ h9 => h9) rfl (by decide +kernel) rfl rfl (by rw [o_s101.2.1]; decide) dX12_beginText_7 (fun H locs hP hD hS => ?_)
  have hP : va_P (dC, dI) vwCl [(Ad0, .inr (15, (s101.set 92 (.int 0))))] H := hP
  have hD : va_D A [(Ad0, .inr (15, (s101.set 92 (.int 0))))] := hD
  have o_s102 := ow_set o_s101 92 (.int 0) (by decide) (l' := [(92, .int 0), (91, .int 120), (3, .int 0), (78, .int 0)]) (w' := [92, 91]) rfl rfl
  generalize (s101.set 92 (.int 0)) = s102 at hP hD o_s102
  refine lv_aload_n hx hb dX12_beginText_10 rfl (lv_at hl 0 rfl) ?_
  refine lv_iconst (v := 0) hx hb dX12_beginText_11 (by decide) ?_
  refine va_put (D := (dC, dI)) (ci := 15) (v := .int 0) (ty := .int) (C := RX12) (T := TX12) (N := 150) hx hb hts (in_z_X12_beginText_X12) tyX12 tyX12_ok nmX12 hown hK hP hD hS 0 rfl rfl 93 (by decide) (hts (.fieldLink RX12 676 "HeapWorksModel" "nested" "I") (by decide +kernel)) (fun _ h9 => h9) rfl (by decide +kernel) rfl rfl (by rw [o_s102.2.1]; decide) dX12_beginText_12 (fun H locs hP hD hS => ?_)
  have hP : va_P (dC, dI) vwCl [(Ad0, .inr (15, (s102.set 93 (.int 0))))] H := hP
  have hD : va_D A [(Ad0, .inr (15, (s102.set 93 (.int 0))))] := hD
  have o_s103 := ow_set o_s102 93 (.int 0) (by decide) (l' := [(93, .int 0), (92, .int 0), (91, .int 120), (3, .int 0), (78, .int 0)]) (w' := [93, 92, 91]) rfl rfl
  generalize (s102.set 93 (.int 0)) = s103 at hP hD o_s103
  refine lv_aload_n hx hb dX12_beginText_15 rfl (lv_at hl 0 rfl) ?_
  refine lv_iconst (v := 0) hx hb dX12_beginText_16 (by decide) ?_
  refine va_put (D := (dC, dI)) (ci := 15) (v := .int 0) (ty := .int) (C := RX12) (T := TX12) (N := 150) hx hb hts (in_z_X12_beginText_X12) tyX12 tyX12_ok nmX12 hown hK hP hD hS 0 rfl rfl 94 (by decide) (hts (.fieldLink RX12 761 "HeapWorksModel" "known" "I") (by decide +kernel)) (fun _ h9 => h9) rfl (by decide +kernel) rfl rfl (by rw [o_s103.2.1]; decide) dX12_beginText_17 (fun H locs hP hD hS => ?_)
  have hP : va_P (dC, dI) vwCl [(Ad0, .inr (15, (s103.set 94 (.int 0))))] H := hP
  have hD : va_D A [(Ad0, .inr (15, (s103.set 94 (.int 0))))] := hD
  have o_s104 := ow_set o_s103 94 (.int 0) (by decide) (l' := [(94, .int 0), (93, .int 0), (92, .int 0), (91, .int 120), (3, .int 0), (78, .int 0)]) (w' := [94, 93, 92, 91]) rfl rfl
  generalize (s103.set 94 (.int 0)) = s104 at hP hD o_s104
  refine lv_aload_n hx hb dX12_beginText_20 rfl (lv_at hl 0 rfl) ?_
  refine lv_iconst (v := 0) hx hb dX12_beginText_21 (by decide) ?_
  refine va_put (D := (dC, dI)) (ci := 15) (v := .int 0) (ty := .int) (C := RX12) (T := TX12) (N := 150) hx hb hts (in_z_X12_beginText_X12) tyX12 tyX12_ok nmX12 hown hK hP hD hS 0 rfl rfl 83 (by decide) (hts (.fieldLink RX12 625 "HeapWorksModel" "stop" "I") (by decide +kernel)) (fun _ h9 => h9) rfl (by decide +kernel) rfl rfl (by rw [o_s104.2.1]; decide) dX12_beginText_22 (fun H locs hP hD hS => ?_)
  have hP : va_P (dC, dI) vwCl [(Ad0, .inr (15, (s104.set 83 (.int 0))))] H := hP
  have hD : va_D A [(Ad0, .inr (15, (s104.set 83 (.int 0))))] := hD
  have o_s105 := ow_set o_s104 83 (.int 0) (by decide) (l' := [(83, .int 0), (94, .int 0), (93, .int 0), (92, .int 0), (91, .int 120), (3, .int 0), (78, .int 0)]) (w' := [83, 94, 93, 92, 91]) rfl rfl
  generalize (s104.set 83 (.int 0)) = s105 at hP hD o_s105
  refine lv_aload_n hx hb dX12_beginText_25 rfl (lv_at hl 0 rfl) ?_
  refine lv_iconst (v := (-1)) hx hb dX12_beginText_26 (by decide) ?_
  refine va_put (D := (dC, dI)) (ci := 15) (v := .int (-1)) (ty := .int) (C := RX12) (T := TX12) (N := 150) hx hb hts (in_z_X12_beginText_X12) tyX12 tyX12_ok nmX12 hown hK hP hD hS 0 rfl rfl 84 (by decide) (hts (.fieldLink RX12 628 "HeapWorksModel" "stopAt" "I") (by decide +kernel)) (fun _ h9 => h9) rfl (by decide +kernel) rfl rfl (by rw [o_s105.2.1]; decide) dX12_beginText_27 (fun H locs hP hD hS => ?_)
  have hP : va_P (dC, dI) vwCl [(Ad0, .inr (15, (s105.set 84 (.int (-1)))))] H := hP
  have hD : va_D A [(Ad0, .inr (15, (s105.set 84 (.int (-1)))))] := hD
  have o_s106 := ow_set o_s105 84 (.int (-1)) (by decide) (l' := [(84, .int (-1)), (83, .int 0), (94, .int 0), (93, .int 0), (92, .int 0), (91, .int 120), (3, .int 0), (78, .int 0)]) (w' := [84, 83, 94, 93, 92, 91]) rfl rfl
  generalize (s105.set 84 (.int (-1))) = s106 at hP hD o_s106
  refine lv_aload_n hx hb dX12_beginText_30 rfl (lv_at hl 0 rfl) ?_
  refine lv_iconst (v := 0) hx hb dX12_beginText_31 (by decide) ?_
  refine va_put (D := (dC, dI)) (ci := 15) (v := .int 0) (ty := .int) (C := RX12) (T := TX12) (N := 150) hx hb hts (in_z_X12_beginText_X12) tyX12 tyX12_ok nmX12 hown hK hP hD hS 0 rfl rfl 78 (by decide) (hts (.fieldLink RX12 631 "HeapWorksModel" "at0" "I") (by decide +kernel)) (fun _ h9 => h9) rfl (by decide +kernel) rfl rfl (by rw [o_s106.2.1]; decide) dX12_beginText_32 (fun H locs hP hD hS => ?_)
  have hP : va_P (dC, dI) vwCl [(Ad0, .inr (15, (s106.set 78 (.int 0))))] H := hP
  have hD : va_D A [(Ad0, .inr (15, (s106.set 78 (.int 0))))] := hD
  have o_s107 := ow_set o_s106 78 (.int 0) (by decide) (l' := [(78, .int 0), (84, .int (-1)), (83, .int 0), (94, .int 0), (93, .int 0), (92, .int 0), (91, .int 120), (3, .int 0)]) (w' := [78, 84, 83, 94, 93, 92, 91]) rfl rfl
  generalize (s106.set 78 (.int 0)) = s107 at hP hD o_s107
  refine lv_aload_n hx hb dX12_beginText_35 rfl (lv_at hl 0 rfl) ?_
  have hPc := hP.sub (ws' := [(Ad0, .inr (15, s107))]) [0] rfl
  have hDc := hD.sub (ws' := [(Ad0, .inr (15, s107))]) [0] (by decide) rfl
  have hKc := hK.sub (tys' := []) [] rfl
  have hFc := va_free (wc := [(Ad0, .inr (15, s107))]) hD hS hA [0] rfl
  refine va_callv (va_runV (As := []) (rest := []) ⟨hx, hb, hml, hown, hts⟩ (z_X12_advance l dC dI H.size Ad0 s107 (fh_sub o_s107.2 [0, 7] rfl) ) (cwV 0 hts g_z_X12_beginText_z_X12_advance_661 rfl rfl rfl (by decide +kernel) ⟨Nat.le_of_ble_eq_true rfl, Nat.le_of_ble_eq_true rfl⟩) ⟨fun a U g mk q => by obtain ⟨q0, q1, qP, qK, qD⟩ := q; exact ⟨q0, q1, qP, va_K.moved (u := U) (U := U.calling g mk a) (Vm.Alike.refl U.vm) qK, qD⟩, va_recv hK hP (ci := 15) (q0 := 0) rfl rfl, fun U hU hW => ⟨rfl, by rw [hU], by rw [hU]; exact hPc, va_K.moved hW.alike hKc, hDc.weaken (fun _ _ _ _ => trivial)⟩⟩ rfl rfl hl.1 rfl (lv_room (Nat.le_of_ble_eq_true rfl)) dX12_beginText_36 ⟨Nat.le_of_ble_eq_true rfl, Nat.le_of_ble_eq_true rfl⟩) hS (fun q _ h => hFc q h) hFc (fun u t H1 locs ht hvm hw hB hz1 hk1 hS => ?_)
  obtain ⟨s108, rfl⟩ : ∃ z, z = u := ⟨_, rfl⟩
  obtain ⟨hP1, hK1, hD1⟩ := hB
  rw [ht] at hP1
  try dsimp only at hw
  obtain ⟨hP, hD⟩ := va_join (wr := []) (w1 := [(Ad0, .inr (15, s108))]) hP hD [0] [] rfl rfl (by decide) (by decide) hk1 hFc hP1 hD1
  have hK := hK.sub (tys' := []) [] rfl
  generalize H1 = H at hP hS ⊢
  have hP : va_P (dC, dI) vwCl [(Ad0, .inr (15, s108))] H := hP
  have hD : va_D A [(Ad0, .inr (15, s108))] := hD
  have o_s108 := hw
  have o_s108 := ow_on o_s107 o_s108 (l' := [(80, .int 0), (85, .long 0), (79, .int 0), (78, .int 0), (3, .int 0), (78, .int 0), (84, .int (-1)), (83, .int 0), (94, .int 0), (93, .int 0), (92, .int 0), (91, .int 120), (3, .int 0)]) (w' := [80, 85, 79, 78, 84, 83, 94, 93, 92, 91]) rfl rfl
  have hP9 := hP.sub (ws' := [(Ad0, .inr (15, s108))]) [0] rfl
  have hD9 := hD.sub (ws' := [(Ad0, .inr (15, s108))]) [0] (by decide) rfl
  have hK9 := hK.sub (tys' := []) [] rfl
  exact W.vret hx hb hr (fun t ht hW => ⟨⟨s108, rfl, o_s108, by rw [ht]; exact hP9, va_K.moved hW.alike hK9, hD9⟩, hS.F ht⟩) hS.2.2 dX12_beginText_39

def l_z_X12_isKey : List Cond := [.fieldLink RX12 644 "HeapWorksModel" "kind" "I"]
def w_z_X12_isKey : List Cond := .code yX12_isKey cX12_isKey 2 (some .boolean) :: (l_z_X12_isKey ++ (wsX120))
theorem in_z_X12_isKey_X12 : ∀ w ∈ wsX120, w ∈ w_z_X12_isKey := fun w h => List.mem_cons_of_mem _ (List.mem_append_right _ (h))
set_option maxHeartbeats 4000000 in
set_option maxRecDepth 100000 in
theorem z_X12_isKey (l : Launch) (dC : Nat → ClassId) (dI : Nat → Nat → Nat) (sz : Nat) (Ad0 : Nat) (Fs0 : List Value) (k_Fs0 : fh Fs0 150 [(80, .int 0)])  : Met l yX12_isKey w_z_X12_isKey ({ frames := 0, cells := 0, slots := 0, locals := 0 }) (va_Pc [.ref Ad0, .int 7] (fun U => U.heap.size = sz ∧ Wd dC dI [] (fun _ => True) [(Ad0, .inr (15, Fs0))] U)) (va_Qi (fun (r : Int32) (u : Unit) => r = 0) (fun (u : Unit) t => Wd dC dI [] (va_A [(Ad0, .inr (15, Fs0))] sz) [(Ad0, .inr (15, Fs0))] t) (va_A [(Ad0, .inr (15, Fs0))] sz))  0 0 (va_A [(Ad0, .inr (15, Fs0))] sz) := by
  refine Met.ofW (cc := cX12_isKey) (maxL := 2) (ret := (some .boolean)) (by decide) rfl ?_
  intro p e s m args below meth c s₁ B hml hv
  obtain ⟨rfl, hsz, hP, hK, hD0⟩ := hv
  have hx := B.exec
  have hb := B.bytes
  have hr := B.returns
  have hts := atoms_spec (ws := w_z_X12_isKey) B.pre
  have hown : s.vm.findClass RX12 = some m.cls := findClass_of_methodNamed B.named
  have hlocks := B.notSynchronized
  subst hsz
  have hD := hD0.self (sz := s.heap.size)
  generalize hAe : va_A [(Ad0, .inr (15, Fs0))] s.heap.size = A at hD ⊢
  have hA : ∀ q : Nat, s.heap.size ≤ q → A q := fun q h => by rw [← hAe]; exact Or.inr h
  have hS : va_S A s.heap s.heap [] := va_S.rf
  have hl := lv_entry ([.ref Ad0, .int 7]) (n := 2) (Nat.le_of_ble_eq_true rfl)
  rw [lg_entry_eq]
  generalize (lg_sl ([.ref Ad0, .int 7]) ++ List.replicate (2 - (lg_sl ([.ref Ad0, .int 7])).length) Slot.unset).toArray = ls at hl ⊢
  have hl : lv_has ls 2 [(0, .ref Ad0), (1, .int 7)] := hl
  have o_Fs0 := ow_0 k_Fs0
  refine lv_aload_n hx hb dX12_isKey_0 rfl (lv_at hl 0 rfl) ?_
  refine va_get (D := (dC, dI)) (ci := 15) (v := .int 0) (C := RX12) (T := TX12) (N := 150) hx hb hts (in_z_X12_isKey_X12) hown hK hP 0 rfl rfl 80 (by decide) (hts (.fieldLink RX12 644 "HeapWorksModel" "kind" "I") (by decide +kernel)) (fun _ h9 => h9) (ow_at o_Fs0 0 rfl) dX12_isKey_1 ?_
  refine lv_iconst (v := 1) hx hb dX12_isKey_4 (by decide) ?_
  refine lv_icmp_ne (tgt := 26) hx hb dX12_isKey_5 (by decide) (fun c101 => ?_) (fun c101 => absurd c101 (by decide))
  refine lv_iconst (v := 0) hx hb dX12_isKey_26 (by decide) ?_
  have hP9 := hP.sub (ws' := [(Ad0, .inr (15, Fs0))]) [0] rfl
  have hD9 := hD.sub (ws' := [(Ad0, .inr (15, Fs0))]) [0] (by decide) rfl
  have hK9 := hK.sub (tys' := []) [] rfl
  exact W.zret (v := 0) hx hb hr rfl (fun t ht hW => ⟨⟨0, (), rfl, rfl, by rw [ht]; exact hP9, va_K.moved hW.alike hK9, hD9⟩, hS.F ht⟩) hS.2.2 dX12_isKey_27

def l_z_X12_isSign : List Cond := [.fieldLink RX12 644 "HeapWorksModel" "kind" "I"]
def w_z_X12_isSign : List Cond := .code yX12_isSign cX12_isSign 3 (some .boolean) :: (l_z_X12_isSign ++ (wsX120))
theorem in_z_X12_isSign_X12 : ∀ w ∈ wsX120, w ∈ w_z_X12_isSign := fun w h => List.mem_cons_of_mem _ (List.mem_append_right _ (h))
set_option maxHeartbeats 4000000 in
set_option maxRecDepth 100000 in
theorem z_X12_isSign (l : Launch) (dC : Nat → ClassId) (dI : Nat → Nat → Nat) (sz : Nat) (Ad0 : Nat) (Fs0 : List Value) (k_Fs0 : fh Fs0 150 [(80, .int 0)])  : Met l yX12_isSign w_z_X12_isSign ({ frames := 0, cells := 0, slots := 0, locals := 0 }) (va_Pc [.ref Ad0, .long 45] (fun U => U.heap.size = sz ∧ Wd dC dI [] (fun _ => True) [(Ad0, .inr (15, Fs0))] U)) (va_Qi (fun (r : Int32) (u : Unit) => r = 0) (fun (u : Unit) t => Wd dC dI [] (va_A [(Ad0, .inr (15, Fs0))] sz) [(Ad0, .inr (15, Fs0))] t) (va_A [(Ad0, .inr (15, Fs0))] sz))  0 0 (va_A [(Ad0, .inr (15, Fs0))] sz) := by
  refine Met.ofW (cc := cX12_isSign) (maxL := 3) (ret := (some .boolean)) (by decide) rfl ?_
  intro p e s m args below meth c s₁ B hml hv
  obtain ⟨rfl, hsz, hP, hK, hD0⟩ := hv
  have hx := B.exec
  have hb := B.bytes
  have hr := B.returns
  have hts := atoms_spec (ws := w_z_X12_isSign) B.pre
  have hown : s.vm.findClass RX12 = some m.cls := findClass_of_methodNamed B.named
  have hlocks := B.notSynchronized
  subst hsz
  have hD := hD0.self (sz := s.heap.size)
  generalize hAe : va_A [(Ad0, .inr (15, Fs0))] s.heap.size = A at hD ⊢
  have hA : ∀ q : Nat, s.heap.size ≤ q → A q := fun q h => by rw [← hAe]; exact Or.inr h
  have hS : va_S A s.heap s.heap [] := va_S.rf
  have hl := lv_entry ([.ref Ad0, .long 45]) (n := 3) (Nat.le_of_ble_eq_true rfl)
  rw [lg_entry_eq]
  generalize (lg_sl ([.ref Ad0, .long 45]) ++ List.replicate (3 - (lg_sl ([.ref Ad0, .long 45])).length) Slot.unset).toArray = ls at hl ⊢
  have hl : lv_has ls 3 [(0, .ref Ad0), (1, .long 45)] := hl
  have o_Fs0 := ow_0 k_Fs0
  refine lv_aload_n hx hb dX12_isSign_0 rfl (lv_at hl 0 rfl) ?_
  refine va_get (D := (dC, dI)) (ci := 15) (v := .int 0) (C := RX12) (T := TX12) (N := 150) hx hb hts (in_z_X12_isSign_X12) hown hK hP 0 rfl rfl 80 (by decide) (hts (.fieldLink RX12 644 "HeapWorksModel" "kind" "I") (by decide +kernel)) (fun _ h9 => h9) (ow_at o_Fs0 0 rfl) dX12_isSign_1 ?_
  refine lv_iconst (v := 3) hx hb dX12_isSign_4 (by decide) ?_
  refine lv_icmp_ne (tgt := 21) hx hb dX12_isSign_5 (by decide) (fun c101 => ?_) (fun c101 => absurd c101 (by decide))
  refine lv_iconst (v := 0) hx hb dX12_isSign_21 (by decide) ?_
  have hP9 := hP.sub (ws' := [(Ad0, .inr (15, Fs0))]) [0] rfl
  have hD9 := hD.sub (ws' := [(Ad0, .inr (15, Fs0))]) [0] (by decide) rfl
  have hK9 := hK.sub (tys' := []) [] rfl
  exact W.zret (v := 0) hx hb hr rfl (fun t ht hW => ⟨⟨0, (), rfl, rfl, by rw [ht]; exact hP9, va_K.moved hW.alike hK9, hD9⟩, hS.F ht⟩) hS.2.2 dX12_isSign_22

def l_z_X12_keyAtHand : List Cond := [.fieldLink RX12 644 "HeapWorksModel" "kind" "I"]
def w_z_X12_keyAtHand : List Cond := .code yX12_keyAtHand cX12_keyAtHand 1 (some .int) :: (l_z_X12_keyAtHand ++ (wsX120))
theorem in_z_X12_keyAtHand_X12 : ∀ w ∈ wsX120, w ∈ w_z_X12_keyAtHand := fun w h => List.mem_cons_of_mem _ (List.mem_append_right _ (h))
set_option maxHeartbeats 4000000 in
set_option maxRecDepth 100000 in
theorem z_X12_keyAtHand (l : Launch) (dC : Nat → ClassId) (dI : Nat → Nat → Nat) (sz : Nat) (Ad0 : Nat) (Fs0 : List Value) (k_Fs0 : fh Fs0 150 [(80, .int 0)])  : Met l yX12_keyAtHand w_z_X12_keyAtHand ({ frames := 0, cells := 0, slots := 0, locals := 0 }) (va_Pc [.ref Ad0] (fun U => U.heap.size = sz ∧ Wd dC dI [] (fun _ => True) [(Ad0, .inr (15, Fs0))] U)) (va_Qi (fun (r : Int32) (u : Unit) => r = (-1)) (fun (u : Unit) t => Wd dC dI [] (va_A [(Ad0, .inr (15, Fs0))] sz) [(Ad0, .inr (15, Fs0))] t) (va_A [(Ad0, .inr (15, Fs0))] sz))  0 0 (va_A [(Ad0, .inr (15, Fs0))] sz) := by
  refine Met.ofW (cc := cX12_keyAtHand) (maxL := 1) (ret := (some .int)) (by decide) rfl ?_
  intro p e s m args below meth c s₁ B hml hv
  obtain ⟨rfl, hsz, hP, hK, hD0⟩ := hv
  have hx := B.exec
  have hb := B.bytes
  have hr := B.returns
  have hts := atoms_spec (ws := w_z_X12_keyAtHand) B.pre
  have hown : s.vm.findClass RX12 = some m.cls := findClass_of_methodNamed B.named
  have hlocks := B.notSynchronized
  subst hsz
  have hD := hD0.self (sz := s.heap.size)
  generalize hAe : va_A [(Ad0, .inr (15, Fs0))] s.heap.size = A at hD ⊢
  have hA : ∀ q : Nat, s.heap.size ≤ q → A q := fun q h => by rw [← hAe]; exact Or.inr h
  have hS : va_S A s.heap s.heap [] := va_S.rf
  have hl := lv_entry ([.ref Ad0]) (n := 1) (Nat.le_of_ble_eq_true rfl)
  rw [lg_entry_eq]
  generalize (lg_sl ([.ref Ad0]) ++ List.replicate (1 - (lg_sl ([.ref Ad0])).length) Slot.unset).toArray = ls at hl ⊢
  have hl : lv_has ls 1 [(0, .ref Ad0)] := hl
  have o_Fs0 := ow_0 k_Fs0
  refine lv_aload_n hx hb dX12_keyAtHand_0 rfl (lv_at hl 0 rfl) ?_
  refine va_get (D := (dC, dI)) (ci := 15) (v := .int 0) (C := RX12) (T := TX12) (N := 150) hx hb hts (in_z_X12_keyAtHand_X12) hown hK hP 0 rfl rfl 80 (by decide) (hts (.fieldLink RX12 644 "HeapWorksModel" "kind" "I") (by decide +kernel)) (fun _ h9 => h9) (ow_at o_Fs0 0 rfl) dX12_keyAtHand_1 ?_
  refine lv_iconst (v := 1) hx hb dX12_keyAtHand_4 (by decide) ?_
  refine lv_icmp_ne (tgt := 19) hx hb dX12_keyAtHand_5 (by decide) (fun c101 => ?_) (fun c101 => absurd c101 (by decide))
  refine lv_iconst (v := (-1)) hx hb dX12_keyAtHand_19 (by decide) ?_
  have hP9 := hP.sub (ws' := [(Ad0, .inr (15, Fs0))]) [0] rfl
  have hD9 := hD.sub (ws' := [(Ad0, .inr (15, Fs0))]) [0] (by decide) rfl
  have hK9 := hK.sub (tys' := []) [] rfl
  exact W.iret (v := (-1)) hx hb hr (fun t ht hW => ⟨⟨(-1), (), rfl, rfl, by rw [ht]; exact hP9, va_K.moved hW.alike hK9, hD9⟩, hS.F ht⟩) hS.2.2 dX12_keyAtHand_20

def l_z_X12_isSign_1 : List Cond := [.fieldLink RX12 644 "HeapWorksModel" "kind" "I"]
def w_z_X12_isSign_1 : List Cond := .code yX12_isSign cX12_isSign 3 (some .boolean) :: (l_z_X12_isSign_1 ++ (wsX120))
theorem in_z_X12_isSign_1_X12 : ∀ w ∈ wsX120, w ∈ w_z_X12_isSign_1 := fun w h => List.mem_cons_of_mem _ (List.mem_append_right _ (h))
set_option maxHeartbeats 4000000 in
set_option maxRecDepth 100000 in
theorem z_X12_isSign_1 (l : Launch) (dC : Nat → ClassId) (dI : Nat → Nat → Nat) (sz : Nat) (Ad0 : Nat) (Fs0 : List Value) (k_Fs0 : fh Fs0 150 [(80, .int 0)])  : Met l yX12_isSign w_z_X12_isSign_1 ({ frames := 0, cells := 0, slots := 0, locals := 0 }) (va_Pc [.ref Ad0, .long 40] (fun U => U.heap.size = sz ∧ Wd dC dI [] (fun _ => True) [(Ad0, .inr (15, Fs0))] U)) (va_Qi (fun (r : Int32) (u : Unit) => r = 0) (fun (u : Unit) t => Wd dC dI [] (va_A [(Ad0, .inr (15, Fs0))] sz) [(Ad0, .inr (15, Fs0))] t) (va_A [(Ad0, .inr (15, Fs0))] sz))  0 0 (va_A [(Ad0, .inr (15, Fs0))] sz) := by
  refine Met.ofW (cc := cX12_isSign) (maxL := 3) (ret := (some .boolean)) (by decide) rfl ?_
  intro p e s m args below meth c s₁ B hml hv
  obtain ⟨rfl, hsz, hP, hK, hD0⟩ := hv
  have hx := B.exec
  have hb := B.bytes
  have hr := B.returns
  have hts := atoms_spec (ws := w_z_X12_isSign_1) B.pre
  have hown : s.vm.findClass RX12 = some m.cls := findClass_of_methodNamed B.named
  have hlocks := B.notSynchronized
  subst hsz
  have hD := hD0.self (sz := s.heap.size)
  generalize hAe : va_A [(Ad0, .inr (15, Fs0))] s.heap.size = A at hD ⊢
  have hA : ∀ q : Nat, s.heap.size ≤ q → A q := fun q h => by rw [← hAe]; exact Or.inr h
  have hS : va_S A s.heap s.heap [] := va_S.rf
  have hl := lv_entry ([.ref Ad0, .long 40]) (n := 3) (Nat.le_of_ble_eq_true rfl)
  rw [lg_entry_eq]
  generalize (lg_sl ([.ref Ad0, .long 40]) ++ List.replicate (3 - (lg_sl ([.ref Ad0, .long 40])).length) Slot.unset).toArray = ls at hl ⊢
  have hl : lv_has ls 3 [(0, .ref Ad0), (1, .long 40)] := hl
  have o_Fs0 := ow_0 k_Fs0
  refine lv_aload_n hx hb dX12_isSign_0 rfl (lv_at hl 0 rfl) ?_
  refine va_get (D := (dC, dI)) (ci := 15) (v := .int 0) (C := RX12) (T := TX12) (N := 150) hx hb hts (in_z_X12_isSign_1_X12) hown hK hP 0 rfl rfl 80 (by decide) (hts (.fieldLink RX12 644 "HeapWorksModel" "kind" "I") (by decide +kernel)) (fun _ h9 => h9) (ow_at o_Fs0 0 rfl) dX12_isSign_1 ?_
  refine lv_iconst (v := 3) hx hb dX12_isSign_4 (by decide) ?_
  refine lv_icmp_ne (tgt := 21) hx hb dX12_isSign_5 (by decide) (fun c101 => ?_) (fun c101 => absurd c101 (by decide))
  refine lv_iconst (v := 0) hx hb dX12_isSign_21 (by decide) ?_
  have hP9 := hP.sub (ws' := [(Ad0, .inr (15, Fs0))]) [0] rfl
  have hD9 := hD.sub (ws' := [(Ad0, .inr (15, Fs0))]) [0] (by decide) rfl
  have hK9 := hK.sub (tys' := []) [] rfl
  exact W.zret (v := 0) hx hb hr rfl (fun t ht hW => ⟨⟨0, (), rfl, rfl, by rw [ht]; exact hP9, va_K.moved hW.alike hK9, hD9⟩, hS.F ht⟩) hS.2.2 dX12_isSign_22

def l_z_X12_isName : List Cond := [.fieldLink RX12 644 "HeapWorksModel" "kind" "I"]
def w_z_X12_isName : List Cond := .code yX12_isName cX12_isName 1 (some .boolean) :: (l_z_X12_isName ++ (wsX120))
theorem in_z_X12_isName_X12 : ∀ w ∈ wsX120, w ∈ w_z_X12_isName := fun w h => List.mem_cons_of_mem _ (List.mem_append_right _ (h))
set_option maxHeartbeats 4000000 in
set_option maxRecDepth 100000 in
theorem z_X12_isName (l : Launch) (dC : Nat → ClassId) (dI : Nat → Nat → Nat) (sz : Nat) (Ad0 : Nat) (Fs0 : List Value) (k_Fs0 : fh Fs0 150 [(80, .int 0)])  : Met l yX12_isName w_z_X12_isName ({ frames := 0, cells := 0, slots := 0, locals := 0 }) (va_Pc [.ref Ad0] (fun U => U.heap.size = sz ∧ Wd dC dI [] (fun _ => True) [(Ad0, .inr (15, Fs0))] U)) (va_Qi (fun (r : Int32) (u : Unit) => r = 0) (fun (u : Unit) t => Wd dC dI [] (va_A [(Ad0, .inr (15, Fs0))] sz) [(Ad0, .inr (15, Fs0))] t) (va_A [(Ad0, .inr (15, Fs0))] sz))  0 0 (va_A [(Ad0, .inr (15, Fs0))] sz) := by
  refine Met.ofW (cc := cX12_isName) (maxL := 1) (ret := (some .boolean)) (by decide) rfl ?_
  intro p e s m args below meth c s₁ B hml hv
  obtain ⟨rfl, hsz, hP, hK, hD0⟩ := hv
  have hx := B.exec
  have hb := B.bytes
  have hr := B.returns
  have hts := atoms_spec (ws := w_z_X12_isName) B.pre
  have hown : s.vm.findClass RX12 = some m.cls := findClass_of_methodNamed B.named
  have hlocks := B.notSynchronized
  subst hsz
  have hD := hD0.self (sz := s.heap.size)
  generalize hAe : va_A [(Ad0, .inr (15, Fs0))] s.heap.size = A at hD ⊢
  have hA : ∀ q : Nat, s.heap.size ≤ q → A q := fun q h => by rw [← hAe]; exact Or.inr h
  have hS : va_S A s.heap s.heap [] := va_S.rf
  have hl := lv_entry ([.ref Ad0]) (n := 1) (Nat.le_of_ble_eq_true rfl)
  rw [lg_entry_eq]
  generalize (lg_sl ([.ref Ad0]) ++ List.replicate (1 - (lg_sl ([.ref Ad0])).length) Slot.unset).toArray = ls at hl ⊢
  have hl : lv_has ls 1 [(0, .ref Ad0)] := hl
  have o_Fs0 := ow_0 k_Fs0
  refine lv_aload_n hx hb dX12_isName_0 rfl (lv_at hl 0 rfl) ?_
  refine va_get (D := (dC, dI)) (ci := 15) (v := .int 0) (C := RX12) (T := TX12) (N := 150) hx hb hts (in_z_X12_isName_X12) hown hK hP 0 rfl rfl 80 (by decide) (hts (.fieldLink RX12 644 "HeapWorksModel" "kind" "I") (by decide +kernel)) (fun _ h9 => h9) (ow_at o_Fs0 0 rfl) dX12_isName_1 ?_
  refine lv_iconst (v := 1) hx hb dX12_isName_4 (by decide) ?_
  refine lv_icmp_ne (tgt := 24) hx hb dX12_isName_5 (by decide) (fun c101 => ?_) (fun c101 => absurd c101 (by decide))
  refine lv_iconst (v := 0) hx hb dX12_isName_24 (by decide) ?_
  have hP9 := hP.sub (ws' := [(Ad0, .inr (15, Fs0))]) [0] rfl
  have hD9 := hD.sub (ws' := [(Ad0, .inr (15, Fs0))]) [0] (by decide) rfl
  have hK9 := hK.sub (tys' := []) [] rfl
  exact W.zret (v := 0) hx hb hr rfl (fun t ht hW => ⟨⟨0, (), rfl, rfl, by rw [ht]; exact hP9, va_K.moved hW.alike hK9, hD9⟩, hS.F ht⟩) hS.2.2 dX12_isName_25

def l_z_X12_fail : List Cond := [.fieldLink RX12 625 "HeapWorksModel" "stop" "I", .fieldLink RX12 628 "HeapWorksModel" "stopAt" "I"]
def w_z_X12_fail : List Cond := .code yX12_fail cX12_fail 3 none :: (l_z_X12_fail ++ (wsX120))
theorem in_z_X12_fail_X12 : ∀ w ∈ wsX120, w ∈ w_z_X12_fail := fun w h => List.mem_cons_of_mem _ (List.mem_append_right _ (h))
set_option maxHeartbeats 4000000 in
set_option maxRecDepth 100000 in
theorem z_X12_fail (l : Launch) (dC : Nat → ClassId) (dI : Nat → Nat → Nat) (sz : Nat) (Ad0 : Nat) (Fs0 : List Value) (k_Fs0 : fh Fs0 150 [(83, .int 0)])  : Met l yX12_fail w_z_X12_fail ({ frames := 0, cells := 0, slots := 0, locals := 0 }) (va_Pc [.ref Ad0, .int 1, .int 0] (fun U => U.heap.size = sz ∧ Wd dC dI [] (fun _ => True) [(Ad0, .inr (15, Fs0))] U)) (va_Qv (fun (u : List Value) => ow Fs0 (u) 150 [84, 83] [(84, .int 0), (83, .int 1)]) (fun (u : List Value) t => Wd dC dI [] (va_A [(Ad0, .inr (15, Fs0))] sz) [(Ad0, .inr (15, (u)))] t) (va_A [(Ad0, .inr (15, Fs0))] sz))  0 0 (va_A [(Ad0, .inr (15, Fs0))] sz) := by
  refine Met.ofW (cc := cX12_fail) (maxL := 3) (ret := none) (by decide) rfl ?_
  intro p e s m args below meth c s₁ B hml hv
  obtain ⟨rfl, hsz, hP, hK, hD0⟩ := hv
  have hx := B.exec
  have hb := B.bytes
  have hr := B.returns
  have hts := atoms_spec (ws := w_z_X12_fail) B.pre
  have hown : s.vm.findClass RX12 = some m.cls := findClass_of_methodNamed B.named
  have hlocks := B.notSynchronized
  subst hsz
  have hD := hD0.self (sz := s.heap.size)
  generalize hAe : va_A [(Ad0, .inr (15, Fs0))] s.heap.size = A at hD ⊢
  have hA : ∀ q : Nat, s.heap.size ≤ q → A q := fun q h => by rw [← hAe]; exact Or.inr h
  have hS : va_S A s.heap s.heap [] := va_S.rf
  have hl := lv_entry ([.ref Ad0, .int 1, .int 0]) (n := 3) (Nat.le_of_ble_eq_true rfl)
  rw [lg_entry_eq]
  generalize (lg_sl ([.ref Ad0, .int 1, .int 0]) ++ List.replicate (3 - (lg_sl ([.ref Ad0, .int 1, .int 0])).length) Slot.unset).toArray = ls at hl ⊢
  have hl : lv_has ls 3 [(0, .ref Ad0), (1, .int 1), (2, .int 0)] := hl
  have o_Fs0 := ow_0 k_Fs0
  refine lv_aload_n hx hb dX12_fail_0 rfl (lv_at hl 0 rfl) ?_
  refine va_get (D := (dC, dI)) (ci := 15) (v := .int 0) (C := RX12) (T := TX12) (N := 150) hx hb hts (in_z_X12_fail_X12) hown hK hP 0 rfl rfl 83 (by decide) (hts (.fieldLink RX12 625 "HeapWorksModel" "stop" "I") (by decide +kernel)) (fun _ h9 => h9) (ow_at o_Fs0 0 rfl) dX12_fail_1 ?_
  refine lv_if_le (tgt := 8) hx hb dX12_fail_4 (by decide) (fun c101 => ?_) (fun c101 => absurd c101 (by decide))
  refine lv_aload_n hx hb dX12_fail_8 rfl (lv_at hl 0 rfl) ?_
  refine lv_iload_n hx hb dX12_fail_9 rfl (lv_at hl 1 rfl) ?_
  refine va_put (D := (dC, dI)) (ci := 15) (v := .int 1) (ty := .int) (C := RX12) (T := TX12) (N := 150) hx hb hts (in_z_X12_fail_X12) tyX12 tyX12_ok nmX12 hown hK hP hD hS 0 rfl rfl 83 (by decide) (hts (.fieldLink RX12 625 "HeapWorksModel" "stop" "I") (by decide +kernel)) (fun _ h9 => h9) rfl (by decide +kernel) rfl rfl (by rw [o_Fs0.2.1]; decide) dX12_fail_10 (fun H locs hP hD hS => ?_)
  have hP : va_P (dC, dI) vwCl [(Ad0, .inr (15, (Fs0.set 83 (.int 1))))] H := hP
  have hD : va_D A [(Ad0, .inr (15, (Fs0.set 83 (.int 1))))] := hD
  have o_s102 := ow_set o_Fs0 83 (.int 1) (by decide) (l' := [(83, .int 1)]) (w' := [83]) rfl rfl
  generalize (Fs0.set 83 (.int 1)) = s102 at hP hD o_s102
  refine lv_aload_n hx hb dX12_fail_13 rfl (lv_at hl 0 rfl) ?_
  refine lv_iload_n hx hb dX12_fail_14 rfl (lv_at hl 2 rfl) ?_
  refine va_put (D := (dC, dI)) (ci := 15) (v := .int 0) (ty := .int) (C := RX12) (T := TX12) (N := 150) hx hb hts (in_z_X12_fail_X12) tyX12 tyX12_ok nmX12 hown hK hP hD hS 0 rfl rfl 84 (by decide) (hts (.fieldLink RX12 628 "HeapWorksModel" "stopAt" "I") (by decide +kernel)) (fun _ h9 => h9) rfl (by decide +kernel) rfl rfl (by rw [o_s102.2.1]; decide) dX12_fail_15 (fun H locs hP hD hS => ?_)
  have hP : va_P (dC, dI) vwCl [(Ad0, .inr (15, (s102.set 84 (.int 0))))] H := hP
  have hD : va_D A [(Ad0, .inr (15, (s102.set 84 (.int 0))))] := hD
  have o_s103 := ow_set o_s102 84 (.int 0) (by decide) (l' := [(84, .int 0), (83, .int 1)]) (w' := [84, 83]) rfl rfl
  generalize (s102.set 84 (.int 0)) = s103 at hP hD o_s103
  have hP9 := hP.sub (ws' := [(Ad0, .inr (15, s103))]) [0] rfl
  have hD9 := hD.sub (ws' := [(Ad0, .inr (15, s103))]) [0] (by decide) rfl
  have hK9 := hK.sub (tys' := []) [] rfl
  exact W.vret hx hb hr (fun t ht hW => ⟨⟨s103, rfl, o_s103, by rw [ht]; exact hP9, va_K.moved hW.alike hK9, hD9⟩, hS.F ht⟩) hS.2.2 dX12_fail_18

def l_z_X12_wrong : List Cond := [.fieldLink RX12 644 "HeapWorksModel" "kind" "I", .fieldLink RX12 637 "HeapWorksModel" "from0" "I", .methodLink RX12 653 yX12_fail, .instanceMethod yX12_fail, .selects RX12 yX12_fail yX12_fail, .initialized RX12, .code yX12_fail cX12_fail 3 none, .fieldLink RX12 625 "HeapWorksModel" "stop" "I", .fieldLink RX12 628 "HeapWorksModel" "stopAt" "I"]
def w_z_X12_wrong : List Cond := .code yX12_wrong cX12_wrong 1 none :: (l_z_X12_wrong ++ (wsX120))
theorem in_z_X12_wrong_X12 : ∀ w ∈ wsX120, w ∈ w_z_X12_wrong := fun w h => List.mem_cons_of_mem _ (List.mem_append_right _ (h))
theorem g_z_X12_wrong_z_X12_fail_653 : GoodIn w_z_X12_wrong (wsV RX12 653 RX12 yX12_fail w_z_X12_fail) := goodIn_app (goodIn_r (([.methodLink RX12 653 yX12_fail, .instanceMethod yX12_fail, .selects RX12 yX12_fail yX12_fail, .initialized RX12] : List Cond)) [3, 4, 5, 6] rfl (by decide +kernel)) (goodIn_ca (goodIn_r (.code yX12_fail cX12_fail 3 none :: l_z_X12_fail) [7, 8, 9] rfl (by decide +kernel)) (goodIn_in (in_z_X12_wrong_X12) gd_X12))
set_option maxHeartbeats 4000000 in
set_option maxRecDepth 100000 in
theorem z_X12_wrong (l : Launch) (dC : Nat → ClassId) (dI : Nat → Nat → Nat) (sz : Nat) (Ad0 : Nat) (Fs0 : List Value) (k_Fs0 : fh Fs0 150 [(80, .int 0), (79, .int 0), (83, .int 0)])  : Met l yX12_wrong w_z_X12_wrong ({ frames := 1, cells := 0, slots := 0, locals := 22 }) (va_Pc [.ref Ad0] (fun U => U.heap.size = sz ∧ Wd dC dI [] (fun _ => True) [(Ad0, .inr (15, Fs0))] U)) (va_Qv (fun (u : List Value) => ow Fs0 (u) 150 [84, 83] [(84, .int 0), (83, .int 1), (80, .int 0), (79, .int 0)]) (fun (u : List Value) t => Wd dC dI [] (va_A [(Ad0, .inr (15, Fs0))] sz) [(Ad0, .inr (15, (u)))] t) (va_A [(Ad0, .inr (15, Fs0))] sz))  0 0 (va_A [(Ad0, .inr (15, Fs0))] sz) := by
  refine Met.ofW (cc := cX12_wrong) (maxL := 1) (ret := none) (by decide) rfl ?_
  intro p e s m args below meth c s₁ B hml hv
  obtain ⟨rfl, hsz, hP, hK, hD0⟩ := hv
  have hx := B.exec
  have hb := B.bytes
  have hr := B.returns
  have hts := atoms_spec (ws := w_z_X12_wrong) B.pre
  have hown : s.vm.findClass RX12 = some m.cls := findClass_of_methodNamed B.named
  have hlocks := B.notSynchronized
  subst hsz
  have hD := hD0.self (sz := s.heap.size)
  generalize hAe : va_A [(Ad0, .inr (15, Fs0))] s.heap.size = A at hD ⊢
  have hA : ∀ q : Nat, s.heap.size ≤ q → A q := fun q h => by rw [← hAe]; exact Or.inr h
  have hS : va_S A s.heap s.heap [] := va_S.rf
  have hl := lv_entry ([.ref Ad0]) (n := 1) (Nat.le_of_ble_eq_true rfl)
  rw [lg_entry_eq]
  generalize (lg_sl ([.ref Ad0]) ++ List.replicate (1 - (lg_sl ([.ref Ad0])).length) Slot.unset).toArray = ls at hl ⊢
  have hl : lv_has ls 1 [(0, .ref Ad0)] := hl
  have o_Fs0 := ow_0 k_Fs0
  refine lv_aload_n hx hb dX12_wrong_0 rfl (lv_at hl 0 rfl) ?_
  refine lv_aload_n hx hb dX12_wrong_1 rfl (lv_at hl 0 rfl) ?_
  refine va_get (D := (dC, dI)) (ci := 15) (v := .int 0) (C := RX12) (T := TX12) (N := 150) hx hb hts (in_z_X12_wrong_X12) hown hK hP 0 rfl rfl 80 (by decide) (hts (.fieldLink RX12 644 "HeapWorksModel" "kind" "I") (by decide +kernel)) (fun _ h9 => h9) (ow_at o_Fs0 0 rfl) dX12_wrong_2 ?_
  refine lv_iconst (v := 4) hx hb dX12_wrong_5 (by decide) ?_
  refine lv_icmp_ne (tgt := 13) hx hb dX12_wrong_6 (by decide) (fun c101 => ?_) (fun c101 => absurd c101 (by decide))
  refine lv_iconst (v := 1) hx hb dX12_wrong_13 (by decide) ?_
  refine lv_aload_n hx hb dX12_wrong_14 rfl (lv_at hl 0 rfl) ?_
  refine va_get (D := (dC, dI)) (ci := 15) (v := .int 0) (C := RX12) (T := TX12) (N := 150) hx hb hts (in_z_X12_wrong_X12) hown hK hP 0 rfl rfl 79 (by decide) (hts (.fieldLink RX12 637 "HeapWorksModel" "from0" "I") (by decide +kernel)) (fun _ h9 => h9) (ow_at o_Fs0 1 rfl) dX12_wrong_15 ?_
  have hPc := hP.sub (ws' := [(Ad0, .inr (15, Fs0))]) [0] rfl
  have hDc := hD.sub (ws' := [(Ad0, .inr (15, Fs0))]) [0] (by decide) rfl
  have hKc := hK.sub (tys' := []) [] rfl
  have hFc := va_free (wc := [(Ad0, .inr (15, Fs0))]) hD hS hA [0] rfl
  refine va_callv (va_runV (As := [.int 1, .int 0]) (rest := []) ⟨hx, hb, hml, hown, hts⟩ (z_X12_fail l dC dI s.heap.size Ad0 Fs0 (fh_sub o_Fs0.2 [2] rfl) ) (cwV 2 hts g_z_X12_wrong_z_X12_fail_653 rfl rfl rfl (by decide +kernel) ⟨Nat.le_of_ble_eq_true rfl, Nat.le_of_ble_eq_true rfl⟩) ⟨fun a U g mk q => by obtain ⟨q0, q1, qP, qK, qD⟩ := q; exact ⟨q0, q1, qP, va_K.moved (u := U) (U := U.calling g mk a) (Vm.Alike.refl U.vm) qK, qD⟩, va_recv hK hP (ci := 15) (q0 := 0) rfl rfl, fun U hU hW => ⟨rfl, by rw [hU], by rw [hU]; exact hPc, va_K.moved hW.alike hKc, hDc.weaken (fun _ _ _ _ => trivial)⟩⟩ rfl rfl hl.1 rfl (lv_room (Nat.le_of_ble_eq_true rfl)) dX12_wrong_18 ⟨Nat.le_of_ble_eq_true rfl, Nat.le_of_ble_eq_true rfl⟩) hS (fun q _ h => hFc q h) hFc (fun u t H1 locs ht hvm hw hB hz1 hk1 hS => ?_)
  obtain ⟨s102, rfl⟩ : ∃ z, z = u := ⟨_, rfl⟩
  obtain ⟨hP1, hK1, hD1⟩ := hB
  rw [ht] at hP1
  try dsimp only at hw
  obtain ⟨hP, hD⟩ := va_join (wr := []) (w1 := [(Ad0, .inr (15, s102))]) hP hD [0] [] rfl rfl (by decide) (by decide) hk1 hFc hP1 hD1
  have hK := hK.sub (tys' := []) [] rfl
  generalize H1 = H at hP hS ⊢
  have hP : va_P (dC, dI) vwCl [(Ad0, .inr (15, s102))] H := hP
  have hD : va_D A [(Ad0, .inr (15, s102))] := hD
  have o_s102 := hw
  have o_s102 := ow_on o_Fs0 o_s102 (l' := [(84, .int 0), (83, .int 1), (80, .int 0), (79, .int 0)]) (w' := [84, 83]) rfl rfl
  have hP9 := hP.sub (ws' := [(Ad0, .inr (15, s102))]) [0] rfl
  have hD9 := hD.sub (ws' := [(Ad0, .inr (15, s102))]) [0] (by decide) rfl
  have hK9 := hK.sub (tys' := []) [] rfl
  exact W.vret hx hb hr (fun t ht hW => ⟨⟨s102, rfl, o_s102, by rw [ht]; exact hP9, va_K.moved hW.alike hK9, hD9⟩, hS.F ht⟩) hS.2.2 dX12_wrong_21

def l_z_X12_readAtom : List Cond := [.fieldLink RX12 625 "HeapWorksModel" "stop" "I", .methodLink RX12 751 yX12_keyAtHand, .instanceMethod yX12_keyAtHand, .selects RX12 yX12_keyAtHand yX12_keyAtHand, .initialized RX12, .constantLong RX12 754 (40), .methodLink RX12 657 yX12_isSign, .instanceMethod yX12_isSign, .selects RX12 yX12_isSign yX12_isSign, .fieldLink RX12 644 "HeapWorksModel" "kind" "I", .methodLink RX12 710 yX12_isName, .instanceMethod yX12_isName, .selects RX12 yX12_isName yX12_isName, .methodLink RX12 664 yX12_wrong, .instanceMethod yX12_wrong, .selects RX12 yX12_wrong yX12_wrong, .fieldLink RX12 673 "HeapWorksModel" "nodeBase" "I", .code yX12_keyAtHand cX12_keyAtHand 1 (some .int), .code yX12_isSign cX12_isSign 3 (some .boolean), .code yX12_isName cX12_isName 1 (some .boolean), .code yX12_wrong cX12_wrong 1 none, .fieldLink RX12 637 "HeapWorksModel" "from0" "I", .methodLink RX12 653 yX12_fail, .instanceMethod yX12_fail, .selects RX12 yX12_fail yX12_fail, .code yX12_fail cX12_fail 3 none, .fieldLink RX12 628 "HeapWorksModel" "stopAt" "I"]
def w_z_X12_readAtom : List Cond := .code yX12_readAtom cX12_readAtom 5 (some .int) :: (l_z_X12_readAtom ++ (wsX120))
theorem in_z_X12_readAtom_X12 : ∀ w ∈ wsX120, w ∈ w_z_X12_readAtom := fun w h => List.mem_cons_of_mem _ (List.mem_append_right _ (h))
theorem g_z_X12_readAtom_z_X12_keyAtHand_751 : GoodIn w_z_X12_readAtom (wsV RX12 751 RX12 yX12_keyAtHand w_z_X12_keyAtHand) := goodIn_app (goodIn_r (([.methodLink RX12 751 yX12_keyAtHand, .instanceMethod yX12_keyAtHand, .selects RX12 yX12_keyAtHand yX12_keyAtHand, .initialized RX12] : List Cond)) [2, 3, 4, 5] rfl (by decide +kernel)) (goodIn_ca (goodIn_r (.code yX12_keyAtHand cX12_keyAtHand 1 (some .int) :: l_z_X12_keyAtHand) [18, 10] rfl (by decide +kernel)) (goodIn_in (in_z_X12_readAtom_X12) gd_X12))
theorem g_z_X12_readAtom_z_X12_isSign_1_657 : GoodIn w_z_X12_readAtom (wsV RX12 657 RX12 yX12_isSign w_z_X12_isSign_1) := goodIn_app (goodIn_r (([.methodLink RX12 657 yX12_isSign, .instanceMethod yX12_isSign, .selects RX12 yX12_isSign yX12_isSign, .initialized RX12] : List Cond)) [7, 8, 9, 5] rfl (by decide +kernel)) (goodIn_ca (goodIn_r (.code yX12_isSign cX12_isSign 3 (some .boolean) :: l_z_X12_isSign_1) [19, 10] rfl (by decide +kernel)) (goodIn_in (in_z_X12_readAtom_X12) gd_X12))
theorem g_z_X12_readAtom_z_X12_isName_710 : GoodIn w_z_X12_readAtom (wsV RX12 710 RX12 yX12_isName w_z_X12_isName) := goodIn_app (goodIn_r (([.methodLink RX12 710 yX12_isName, .instanceMethod yX12_isName, .selects RX12 yX12_isName yX12_isName, .initialized RX12] : List Cond)) [11, 12, 13, 5] rfl (by decide +kernel)) (goodIn_ca (goodIn_r (.code yX12_isName cX12_isName 1 (some .boolean) :: l_z_X12_isName) [20, 10] rfl (by decide +kernel)) (goodIn_in (in_z_X12_readAtom_X12) gd_X12))
theorem g_z_X12_readAtom_z_X12_wrong_664 : GoodIn w_z_X12_readAtom (wsV RX12 664 RX12 yX12_wrong w_z_X12_wrong) := goodIn_app (goodIn_r (([.methodLink RX12 664 yX12_wrong, .instanceMethod yX12_wrong, .selects RX12 yX12_wrong yX12_wrong, .initialized RX12] : List Cond)) [14, 15, 16, 5] rfl (by decide +kernel)) (goodIn_ca (goodIn_r (.code yX12_wrong cX12_wrong 1 none :: l_z_X12_wrong) [21, 10, 22, 23, 24, 25, 5, 26, 1, 27] rfl (by decide +kernel)) (goodIn_in (in_z_X12_readAtom_X12) gd_X12))
set_option maxHeartbeats 4000000 in
set_option maxRecDepth 100000 in
theorem z_X12_readAtom (l : Launch) (dC : Nat → ClassId) (dI : Nat → Nat → Nat) (sz : Nat) (Ad0 : Nat) (Fs0 : List Value) (k_Fs0 : fh Fs0 150 [(80, .int 0), (79, .int 0), (83, .int 0), (91, .int 120)])  : Met l yX12_readAtom w_z_X12_readAtom ({ frames := 2, cells := 0, slots := 0, locals := 42 }) (va_Pc [.ref Ad0] (fun U => U.heap.size = sz ∧ Wd dC dI [] (fun _ => True) [(Ad0, .inr (15, Fs0))] U)) (va_Qi (fun (r : Int32) (u : List Value) => (r = 120 ∧ ow Fs0 (u) 150 [84, 83] [(84, .int 0), (83, .int 1), (80, .int 0), (79, .int 0), (80, .int 0), (79, .int 0), (91, .int 120)])) (fun (u : List Value) t => Wd dC dI [] (va_A [(Ad0, .inr (15, Fs0))] sz) [(Ad0, .inr (15, (u)))] t) (va_A [(Ad0, .inr (15, Fs0))] sz))  0 0 (va_A [(Ad0, .inr (15, Fs0))] sz) := by
  refine Met.ofW (cc := cX12_readAtom) (maxL := 5) (ret := (some .int)) (by decide) rfl ?_
  intro p e s m args below meth c s₁ B hml hv
  obtain ⟨rfl, hsz, hP, hK, hD0⟩ := hv
  have hx := B.exec
  have hb := B.bytes
  have hr := B.returns
  have hts := atoms_spec (ws := w_z_X12_readAtom) B.pre
  have hown : s.vm.findClass RX12 = some m.cls := findClass_of_methodNamed B.named
  have hlocks := B.notSynchronized
  subst hsz
  have hD := hD0.self (sz := s.heap.size)
  generalize hAe : va_A [(Ad0, .inr (15, Fs0))] s.heap.size = A at hD ⊢
  have hA : ∀ q : Nat, s.heap.size ≤ q → A q := fun q h => by rw [← hAe]; exact Or.inr h
  have hS : va_S A s.heap s.heap [] := va_S.rf
  have hl := lv_entry ([.ref Ad0]) (n := 5) (Nat.le_of_ble_eq_true rfl)
  rw [lg_entry_eq]
  generalize (lg_sl ([.ref Ad0]) ++ List.replicate (5 - (lg_sl ([.ref Ad0])).length) Slot.unset).toArray = ls at hl ⊢
  have hl : lv_has ls 5 [(0, .ref Ad0)] := hl
  have o_Fs0 := ow_0 k_Fs0
  refine lv_aload_n hx hb dX12_readAtom_0 rfl (lv_at hl 0 rfl) ?_
  refine va_get (D := (dC, dI)) (ci := 15) (v := .int 0) (C := RX12) (T := TX12) (N := 150) hx hb hts (in_z_X12_readAtom_X12) hown hK hP 0 rfl rfl 83 (by decide) (hts (.fieldLink RX12 625 "HeapWorksModel" "stop" "I") (by decide +kernel)) (fun _ h9 => h9) (ow_at o_Fs0 2 rfl) dX12_readAtom_1 ?_
  refine lv_if_le (tgt := 12) hx hb dX12_readAtom_4 (by decide) (fun c101 => ?_) (fun c101 => absurd c101 (by decide))
  refine lv_aload_n hx hb dX12_readAtom_12 rfl (lv_at hl 0 rfl) ?_
  have hPc := hP.sub (ws' := [(Ad0, .inr (15, Fs0))]) [0] rfl
  have hDc := hD.sub (ws' := [(Ad0, .inr (15, Fs0))]) [0] (by decide) rfl
  have hKc := hK.sub (tys' := []) [] rfl
  have hFc := va_free (wc := [(Ad0, .inr (15, Fs0))]) hD hS hA [0] rfl
  refine va_calli (va_runV (As := []) (rest := []) ⟨hx, hb, hml, hown, hts⟩ (z_X12_keyAtHand l dC dI s.heap.size Ad0 Fs0 (fh_sub o_Fs0.2 [0] rfl) ) (cwV 0 hts g_z_X12_readAtom_z_X12_keyAtHand_751 rfl rfl rfl (by decide +kernel) ⟨Nat.le_of_ble_eq_true rfl, Nat.le_of_ble_eq_true rfl⟩) ⟨fun a U g mk q => by obtain ⟨q0, q1, qP, qK, qD⟩ := q; exact ⟨q0, q1, qP, va_K.moved (u := U) (U := U.calling g mk a) (Vm.Alike.refl U.vm) qK, qD⟩, va_recv hK hP (ci := 15) (q0 := 0) rfl rfl, fun U hU hW => ⟨rfl, by rw [hU], by rw [hU]; exact hPc, va_K.moved hW.alike hKc, hDc.weaken (fun _ _ _ _ => trivial)⟩⟩ rfl rfl hl.1 rfl (lv_room (Nat.le_of_ble_eq_true rfl)) dX12_readAtom_13 ⟨Nat.le_of_ble_eq_true rfl, Nat.le_of_ble_eq_true rfl⟩) hS (fun q _ h => hFc q h) hFc (fun r102 u t H1 locs ht hvm hw hB hz1 hk1 hS => ?_)
  obtain ⟨hP1, hK1, hD1⟩ := hB
  rw [ht] at hP1
  try dsimp only at hw
  obtain ⟨hP, hD⟩ := va_join (wr := []) (w1 := [(Ad0, .inr (15, Fs0))]) hP hD [0] [] rfl rfl (by decide) (by decide) hk1 hFc hP1 hD1
  have hK := hK.sub (tys' := []) [] rfl
  generalize H1 = H at hP hS ⊢
  have hP : va_P (dC, dI) vwCl [(Ad0, .inr (15, Fs0))] H := hP
  have hD : va_D A [(Ad0, .inr (15, Fs0))] := hD
  have er103 := hw
  subst er103
  refine lv_istore_n (lv' := [(1, .int (-1)), (0, .ref Ad0)]) hx hb dX12_readAtom_16 rfl hl (by decide) rfl (fun ls hl => ?_)
  refine lv_aload_n hx hb dX12_readAtom_17 rfl (lv_at hl 1 rfl) ?_
  refine lv_ldc2 (v := 40) hx hb hown (hts (.constantLong RX12 754 (40)) (by decide +kernel)) dX12_readAtom_18 ?_
  have hPc := hP.sub (ws' := [(Ad0, .inr (15, Fs0))]) [0] rfl
  have hDc := hD.sub (ws' := [(Ad0, .inr (15, Fs0))]) [0] (by decide) rfl
  have hKc := hK.sub (tys' := []) [] rfl
  have hFc := va_free (wc := [(Ad0, .inr (15, Fs0))]) hD hS hA [0] rfl
  refine va_calli (va_runV (As := [.long 40]) (rest := []) ⟨hx, hb, hml, hown, hts⟩ (z_X12_isSign_1 l dC dI H.size Ad0 Fs0 (fh_sub o_Fs0.2 [0] rfl) ) (cwV 1 hts g_z_X12_readAtom_z_X12_isSign_1_657 rfl rfl rfl (by decide +kernel) ⟨Nat.le_of_ble_eq_true rfl, Nat.le_of_ble_eq_true rfl⟩) ⟨fun a U g mk q => by obtain ⟨q0, q1, qP, qK, qD⟩ := q; exact ⟨q0, q1, qP, va_K.moved (u := U) (U := U.calling g mk a) (Vm.Alike.refl U.vm) qK, qD⟩, va_recv hK hP (ci := 15) (q0 := 0) rfl rfl, fun U hU hW => ⟨rfl, by rw [hU], by rw [hU]; exact hPc, va_K.moved hW.alike hKc, hDc.weaken (fun _ _ _ _ => trivial)⟩⟩ rfl rfl hl.1 rfl (lv_room (Nat.le_of_ble_eq_true rfl)) dX12_readAtom_21 ⟨Nat.le_of_ble_eq_true rfl, Nat.le_of_ble_eq_true rfl⟩) hS (fun q _ h => hFc q h) hFc (fun r104 u t H1 locs ht hvm hw hB hz1 hk1 hS => ?_)
  obtain ⟨hP1, hK1, hD1⟩ := hB
  rw [ht] at hP1
  try dsimp only at hw
  obtain ⟨hP, hD⟩ := va_join (wr := []) (w1 := [(Ad0, .inr (15, Fs0))]) hP hD [0] [] rfl rfl (by decide) (by decide) hk1 hFc hP1 hD1
  have hK := hK.sub (tys' := []) [] rfl
  generalize H1 = H at hP hS ⊢
  have hP : va_P (dC, dI) vwCl [(Ad0, .inr (15, Fs0))] H := hP
  have hD : va_D A [(Ad0, .inr (15, Fs0))] := hD
  have er105 := hw
  subst er105
  refine lv_if_eq (tgt := 80) hx hb dX12_readAtom_24 (by decide) (fun c106 => ?_) (fun c106 => absurd c106 (by decide))
  refine lv_iload_n hx hb dX12_readAtom_80 rfl (lv_at hl 0 rfl) ?_
  refine lv_bipush (v := 13) hx hb dX12_readAtom_81 (by decide) ?_
  refine lv_icmp_lt (tgt := 98) hx hb dX12_readAtom_83 (by decide) (fun c107 => ?_) (fun c107 => absurd c107 (by decide))
  refine lv_iload_n hx hb dX12_readAtom_98 rfl (lv_at hl 0 rfl) ?_
  refine lv_bipush (v := 19) hx hb dX12_readAtom_99 (by decide) ?_
  refine lv_icmp_lt (tgt := 139) hx hb dX12_readAtom_101 (by decide) (fun c108 => ?_) (fun c108 => absurd c108 (by decide))
  refine lv_iload_n hx hb dX12_readAtom_139 rfl (lv_at hl 0 rfl) ?_
  refine lv_bipush (v := 28) hx hb dX12_readAtom_140 (by decide) ?_
  refine lv_icmp_ne (tgt := 205) hx hb dX12_readAtom_142 (by decide) (fun c109 => ?_) (fun c109 => absurd c109 (by decide))
  refine lv_aload_n hx hb dX12_readAtom_205 rfl (lv_at hl 1 rfl) ?_
  refine va_get (D := (dC, dI)) (ci := 15) (v := .int 0) (C := RX12) (T := TX12) (N := 150) hx hb hts (in_z_X12_readAtom_X12) hown hK hP 0 rfl rfl 80 (by decide) (hts (.fieldLink RX12 644 "HeapWorksModel" "kind" "I") (by decide +kernel)) (fun _ h9 => h9) (ow_at o_Fs0 0 rfl) dX12_readAtom_206 ?_
  refine lv_iconst (v := 2) hx hb dX12_readAtom_209 (by decide) ?_
  refine lv_icmp_eq (tgt := 237) hx hb dX12_readAtom_210 (by decide) (fun c110 => absurd c110 (by decide)) (fun c110 => ?_)
  refine lv_iload_n hx hb dX12_readAtom_213 rfl (lv_at hl 0 rfl) ?_
  refine lv_bipush (v := 8) hx hb dX12_readAtom_214 (by decide) ?_
  refine lv_icmp_eq (tgt := 237) hx hb dX12_readAtom_216 (by decide) (fun c111 => absurd c111 (by decide)) (fun c111 => ?_)
  refine lv_iload_n hx hb dX12_readAtom_219 rfl (lv_at hl 0 rfl) ?_
  refine lv_bipush (v := 9) hx hb dX12_readAtom_220 (by decide) ?_
  refine lv_icmp_eq (tgt := 237) hx hb dX12_readAtom_222 (by decide) (fun c112 => absurd c112 (by decide)) (fun c112 => ?_)
  refine lv_iload_n hx hb dX12_readAtom_225 rfl (lv_at hl 0 rfl) ?_
  refine lv_bipush (v := 10) hx hb dX12_readAtom_226 (by decide) ?_
  refine lv_icmp_eq (tgt := 237) hx hb dX12_readAtom_228 (by decide) (fun c113 => absurd c113 (by decide)) (fun c113 => ?_)
  refine lv_iload_n hx hb dX12_readAtom_231 rfl (lv_at hl 0 rfl) ?_
  refine lv_bipush (v := 27) hx hb dX12_readAtom_232 (by decide) ?_
  refine lv_icmp_ne (tgt := 241) hx hb dX12_readAtom_234 (by decide) (fun c114 => ?_) (fun c114 => absurd c114 (by decide))
  refine lv_iconst (v := 0) hx hb dX12_readAtom_241 (by decide) ?_
  refine lv_istore_n (lv' := [(2, .int 0), (1, .int (-1)), (0, .ref Ad0)]) hx hb dX12_readAtom_242 rfl hl (by decide) rfl (fun ls hl => ?_)
  refine lv_iload_n hx hb dX12_readAtom_243 rfl (lv_at hl 0 rfl) ?_
  refine lv_if_ne (tgt := 263) hx hb dX12_readAtom_244 (by decide) (fun c115 => absurd c115 (by decide)) (fun c115 => ?_)
  refine lv_aload_n hx hb dX12_readAtom_247 rfl (lv_at hl 2 rfl) ?_
  have hPc := hP.sub (ws' := [(Ad0, .inr (15, Fs0))]) [0] rfl
  have hDc := hD.sub (ws' := [(Ad0, .inr (15, Fs0))]) [0] (by decide) rfl
  have hKc := hK.sub (tys' := []) [] rfl
  have hFc := va_free (wc := [(Ad0, .inr (15, Fs0))]) hD hS hA [0] rfl
  refine va_calli (va_runV (As := []) (rest := []) ⟨hx, hb, hml, hown, hts⟩ (z_X12_isName l dC dI H.size Ad0 Fs0 (fh_sub o_Fs0.2 [0] rfl) ) (cwV 0 hts g_z_X12_readAtom_z_X12_isName_710 rfl rfl rfl (by decide +kernel) ⟨Nat.le_of_ble_eq_true rfl, Nat.le_of_ble_eq_true rfl⟩) ⟨fun a U g mk q => by obtain ⟨q0, q1, qP, qK, qD⟩ := q; exact ⟨q0, q1, qP, va_K.moved (u := U) (U := U.calling g mk a) (Vm.Alike.refl U.vm) qK, qD⟩, va_recv hK hP (ci := 15) (q0 := 0) rfl rfl, fun U hU hW => ⟨rfl, by rw [hU], by rw [hU]; exact hPc, va_K.moved hW.alike hKc, hDc.weaken (fun _ _ _ _ => trivial)⟩⟩ rfl rfl hl.1 rfl (lv_room (Nat.le_of_ble_eq_true rfl)) dX12_readAtom_248 ⟨Nat.le_of_ble_eq_true rfl, Nat.le_of_ble_eq_true rfl⟩) hS (fun q _ h => hFc q h) hFc (fun r116 u t H1 locs ht hvm hw hB hz1 hk1 hS => ?_)
  obtain ⟨hP1, hK1, hD1⟩ := hB
  rw [ht] at hP1
  try dsimp only at hw
  obtain ⟨hP, hD⟩ := va_join (wr := []) (w1 := [(Ad0, .inr (15, Fs0))]) hP hD [0] [] rfl rfl (by decide) (by decide) hk1 hFc hP1 hD1
  have hK := hK.sub (tys' := []) [] rfl
  generalize H1 = H at hP hS ⊢
  have hP : va_P (dC, dI) vwCl [(Ad0, .inr (15, Fs0))] H := hP
  have hD : va_D A [(Ad0, .inr (15, Fs0))] := hD
  have er117 := hw
  subst er117
  refine lv_if_ne (tgt := 263) hx hb dX12_readAtom_251 (by decide) (fun c118 => absurd c118 (by decide)) (fun c118 => ?_)
  refine lv_aload_n hx hb dX12_readAtom_254 rfl (lv_at hl 2 rfl) ?_
  have hPc := hP.sub (ws' := [(Ad0, .inr (15, Fs0))]) [0] rfl
  have hDc := hD.sub (ws' := [(Ad0, .inr (15, Fs0))]) [0] (by decide) rfl
  have hKc := hK.sub (tys' := []) [] rfl
  have hFc := va_free (wc := [(Ad0, .inr (15, Fs0))]) hD hS hA [0] rfl
  refine va_callv (va_runV (As := []) (rest := []) ⟨hx, hb, hml, hown, hts⟩ (z_X12_wrong l dC dI H.size Ad0 Fs0 (fh_sub o_Fs0.2 [0, 1, 2] rfl) ) (cwV 0 hts g_z_X12_readAtom_z_X12_wrong_664 rfl rfl rfl (by decide +kernel) ⟨Nat.le_of_ble_eq_true rfl, Nat.le_of_ble_eq_true rfl⟩) ⟨fun a U g mk q => by obtain ⟨q0, q1, qP, qK, qD⟩ := q; exact ⟨q0, q1, qP, va_K.moved (u := U) (U := U.calling g mk a) (Vm.Alike.refl U.vm) qK, qD⟩, va_recv hK hP (ci := 15) (q0 := 0) rfl rfl, fun U hU hW => ⟨rfl, by rw [hU], by rw [hU]; exact hPc, va_K.moved hW.alike hKc, hDc.weaken (fun _ _ _ _ => trivial)⟩⟩ rfl rfl hl.1 rfl (lv_room (Nat.le_of_ble_eq_true rfl)) dX12_readAtom_255 ⟨Nat.le_of_ble_eq_true rfl, Nat.le_of_ble_eq_true rfl⟩) hS (fun q _ h => hFc q h) hFc (fun u t H1 locs ht hvm hw hB hz1 hk1 hS => ?_)
  obtain ⟨s119, rfl⟩ : ∃ z, z = u := ⟨_, rfl⟩
  obtain ⟨hP1, hK1, hD1⟩ := hB
  rw [ht] at hP1
  try dsimp only at hw
  obtain ⟨hP, hD⟩ := va_join (wr := []) (w1 := [(Ad0, .inr (15, s119))]) hP hD [0] [] rfl rfl (by decide) (by decide) hk1 hFc hP1 hD1
  have hK := hK.sub (tys' := []) [] rfl
  generalize H1 = H at hP hS ⊢
  have hP : va_P (dC, dI) vwCl [(Ad0, .inr (15, s119))] H := hP
  have hD : va_D A [(Ad0, .inr (15, s119))] := hD
  have o_s119 := hw
  have o_s119 := ow_on o_Fs0 o_s119 (l' := [(84, .int 0), (83, .int 1), (80, .int 0), (79, .int 0), (80, .int 0), (79, .int 0), (91, .int 120)]) (w' := [84, 83]) rfl rfl
  refine lv_aload_n hx hb dX12_readAtom_258 rfl (lv_at hl 2 rfl) ?_
  refine va_get (D := (dC, dI)) (ci := 15) (v := .int 120) (C := RX12) (T := TX12) (N := 150) hx hb hts (in_z_X12_readAtom_X12) hown hK hP 0 rfl rfl 91 (by decide) (hts (.fieldLink RX12 673 "HeapWorksModel" "nodeBase" "I") (by decide +kernel)) (fun _ h9 => h9) (ow_at o_s119 6 rfl) dX12_readAtom_259 ?_
  have hP9 := hP.sub (ws' := [(Ad0, .inr (15, s119))]) [0] rfl
  have hD9 := hD.sub (ws' := [(Ad0, .inr (15, s119))]) [0] (by decide) rfl
  have hK9 := hK.sub (tys' := []) [] rfl
  exact W.iret (v := 120) hx hb hr (fun t ht hW => ⟨⟨120, s119, rfl, ⟨rfl, o_s119⟩, by rw [ht]; exact hP9, va_K.moved hW.alike hK9, hD9⟩, hS.F ht⟩) hS.2.2 dX12_readAtom_262

def l_z_X12_readP : List Cond := [.methodLink RX12 733 yX12_readAtom, .instanceMethod yX12_readAtom, .selects RX12 yX12_readAtom yX12_readAtom, .initialized RX12, .fieldLink RX12 625 "HeapWorksModel" "stop" "I", .code yX12_readAtom cX12_readAtom 5 (some .int), .methodLink RX12 751 yX12_keyAtHand, .instanceMethod yX12_keyAtHand, .selects RX12 yX12_keyAtHand yX12_keyAtHand, .constantLong RX12 754 (40), .methodLink RX12 657 yX12_isSign, .instanceMethod yX12_isSign, .selects RX12 yX12_isSign yX12_isSign, .fieldLink RX12 644 "HeapWorksModel" "kind" "I", .methodLink RX12 710 yX12_isName, .instanceMethod yX12_isName, .selects RX12 yX12_isName yX12_isName, .methodLink RX12 664 yX12_wrong, .instanceMethod yX12_wrong, .selects RX12 yX12_wrong yX12_wrong, .fieldLink RX12 673 "HeapWorksModel" "nodeBase" "I", .code yX12_keyAtHand cX12_keyAtHand 1 (some .int), .code yX12_isSign cX12_isSign 3 (some .boolean), .code yX12_isName cX12_isName 1 (some .boolean), .code yX12_wrong cX12_wrong 1 none, .fieldLink RX12 637 "HeapWorksModel" "from0" "I", .methodLink RX12 653 yX12_fail, .instanceMethod yX12_fail, .selects RX12 yX12_fail yX12_fail, .code yX12_fail cX12_fail 3 none, .fieldLink RX12 628 "HeapWorksModel" "stopAt" "I"]
def w_z_X12_readP : List Cond := .code yX12_readP cX12_readP 4 (some .int) :: (l_z_X12_readP ++ (wsX120))
theorem in_z_X12_readP_X12 : ∀ w ∈ wsX120, w ∈ w_z_X12_readP := fun w h => List.mem_cons_of_mem _ (List.mem_append_right _ (h))
theorem g_z_X12_readP_z_X12_readAtom_733 : GoodIn w_z_X12_readP (wsV RX12 733 RX12 yX12_readAtom w_z_X12_readAtom) := goodIn_app (goodIn_r (([.methodLink RX12 733 yX12_readAtom, .instanceMethod yX12_readAtom, .selects RX12 yX12_readAtom yX12_readAtom, .initialized RX12] : List Cond)) [1, 2, 3, 4] rfl (by decide +kernel)) (goodIn_ca (goodIn_r (.code yX12_readAtom cX12_readAtom 5 (some .int) :: l_z_X12_readAtom) [6, 5, 7, 8, 9, 4, 10, 11, 12, 13, 14, 15, 16, 17, 18, 19, 20, 21, 22, 23, 24, 25, 26, 27, 28, 29, 30, 31] rfl (by decide +kernel)) (goodIn_in (in_z_X12_readP_X12) gd_X12))
set_option maxHeartbeats 4000000 in
set_option maxRecDepth 100000 in
theorem z_X12_readP (l : Launch) (dC : Nat → ClassId) (dI : Nat → Nat → Nat) (sz : Nat) (Ad0 : Nat) (Fs0 : List Value) (k_Fs0 : fh Fs0 150 [(80, .int 0), (79, .int 0), (83, .int 0), (91, .int 120)])  : Met l yX12_readP w_z_X12_readP ({ frames := 3, cells := 0, slots := 0, locals := 66 }) (va_Pc [.ref Ad0] (fun U => U.heap.size = sz ∧ Wd dC dI [] (fun _ => True) [(Ad0, .inr (15, Fs0))] U)) (va_Qi (fun (r : Int32) (u : List Value) => (r = 120 ∧ ow Fs0 (u) 150 [84, 83] [(84, .int 0), (83, .int 1), (80, .int 0), (79, .int 0), (80, .int 0), (79, .int 0), (91, .int 120), (80, .int 0), (79, .int 0), (91, .int 120)])) (fun (u : List Value) t => Wd dC dI [] (va_A [(Ad0, .inr (15, Fs0))] sz) [(Ad0, .inr (15, (u)))] t) (va_A [(Ad0, .inr (15, Fs0))] sz))  0 0 (va_A [(Ad0, .inr (15, Fs0))] sz) := by
  refine Met.ofW (cc := cX12_readP) (maxL := 4) (ret := (some .int)) (by decide) rfl ?_
  intro p e s m args below meth c s₁ B hml hv
  obtain ⟨rfl, hsz, hP, hK, hD0⟩ := hv
  have hx := B.exec
  have hb := B.bytes
  have hr := B.returns
  have hts := atoms_spec (ws := w_z_X12_readP) B.pre
  have hown : s.vm.findClass RX12 = some m.cls := findClass_of_methodNamed B.named
  have hlocks := B.notSynchronized
  subst hsz
  have hD := hD0.self (sz := s.heap.size)
  generalize hAe : va_A [(Ad0, .inr (15, Fs0))] s.heap.size = A at hD ⊢
  have hA : ∀ q : Nat, s.heap.size ≤ q → A q := fun q h => by rw [← hAe]; exact Or.inr h
  have hS : va_S A s.heap s.heap [] := va_S.rf
  have hl := lv_entry ([.ref Ad0]) (n := 4) (Nat.le_of_ble_eq_true rfl)
  rw [lg_entry_eq]
  generalize (lg_sl ([.ref Ad0]) ++ List.replicate (4 - (lg_sl ([.ref Ad0])).length) Slot.unset).toArray = ls at hl ⊢
  have hl : lv_has ls 4 [(0, .ref Ad0)] := hl
  have o_Fs0 := ow_0 k_Fs0
  refine lv_aload_n hx hb dX12_readP_0 rfl (lv_at hl 0 rfl) ?_
  have hPc := hP.sub (ws' := [(Ad0, .inr (15, Fs0))]) [0] rfl
  have hDc := hD.sub (ws' := [(Ad0, .inr (15, Fs0))]) [0] (by decide) rfl
  have hKc := hK.sub (tys' := []) [] rfl
  have hFc := va_free (wc := [(Ad0, .inr (15, Fs0))]) hD hS hA [0] rfl
  refine va_calli (va_runV (As := []) (rest := []) ⟨hx, hb, hml, hown, hts⟩ (z_X12_readAtom l dC dI s.heap.size Ad0 Fs0 (fh_sub o_Fs0.2 [0, 1, 2, 3] rfl) ) (cwV 0 hts g_z_X12_readP_z_X12_readAtom_733 rfl rfl rfl (by decide +kernel) ⟨Nat.le_of_ble_eq_true rfl, Nat.le_of_ble_eq_true rfl⟩) ⟨fun a U g mk q => by obtain ⟨q0, q1, qP, qK, qD⟩ := q; exact ⟨q0, q1, qP, va_K.moved (u := U) (U := U.calling g mk a) (Vm.Alike.refl U.vm) qK, qD⟩, va_recv hK hP (ci := 15) (q0 := 0) rfl rfl, fun U hU hW => ⟨rfl, by rw [hU], by rw [hU]; exact hPc, va_K.moved hW.alike hKc, hDc.weaken (fun _ _ _ _ => trivial)⟩⟩ rfl rfl hl.1 rfl (lv_room (Nat.le_of_ble_eq_true rfl)) dX12_readP_1 ⟨Nat.le_of_ble_eq_true rfl, Nat.le_of_ble_eq_true rfl⟩) hS (fun q _ h => hFc q h) hFc (fun r101 u t H1 locs ht hvm hw hB hz1 hk1 hS => ?_)
  obtain ⟨s102, rfl⟩ : ∃ z, z = u := ⟨_, rfl⟩
  obtain ⟨hP1, hK1, hD1⟩ := hB
  rw [ht] at hP1
  try dsimp only at hw
  obtain ⟨hP, hD⟩ := va_join (wr := []) (w1 := [(Ad0, .inr (15, s102))]) hP hD [0] [] rfl rfl (by decide) (by decide) hk1 hFc hP1 hD1
  have hK := hK.sub (tys' := []) [] rfl
  generalize H1 = H at hP hS ⊢
  have hP : va_P (dC, dI) vwCl [(Ad0, .inr (15, s102))] H := hP
  have hD : va_D A [(Ad0, .inr (15, s102))] := hD
  obtain ⟨er103, o_s102⟩ := hw
  subst er103
  have o_s102 := ow_on o_Fs0 o_s102 (l' := [(84, .int 0), (83, .int 1), (80, .int 0), (79, .int 0), (80, .int 0), (79, .int 0), (91, .int 120), (80, .int 0), (79, .int 0), (91, .int 120)]) (w' := [84, 83]) rfl rfl
  refine lv_istore_n (lv' := [(1, .int 120), (0, .ref Ad0)]) hx hb dX12_readP_4 rfl hl (by decide) rfl (fun ls hl => ?_)
  refine lv_aload_n hx hb dX12_readP_5 rfl (lv_at hl 1 rfl) ?_
  refine va_get (D := (dC, dI)) (ci := 15) (v := .int 1) (C := RX12) (T := TX12) (N := 150) hx hb hts (in_z_X12_readP_X12) hown hK hP 0 rfl rfl 83 (by decide) (hts (.fieldLink RX12 625 "HeapWorksModel" "stop" "I") (by decide +kernel)) (fun _ h9 => h9) (ow_at o_s102 1 rfl) dX12_readP_6 ?_
  refine lv_if_ne (tgt := 171) hx hb dX12_readP_9 (by decide) (fun c104 => ?_) (fun c104 => absurd c104 (by decide))
  refine lv_iload_n hx hb dX12_readP_171 rfl (lv_at hl 0 rfl) ?_
  have hP9 := hP.sub (ws' := [(Ad0, .inr (15, s102))]) [0] rfl
  have hD9 := hD.sub (ws' := [(Ad0, .inr (15, s102))]) [0] (by decide) rfl
  have hK9 := hK.sub (tys' := []) [] rfl
  exact W.iret (v := 120) hx hb hr (fun t ht hW => ⟨⟨120, s102, rfl, ⟨rfl, o_s102⟩, by rw [ht]; exact hP9, va_K.moved hW.alike hK9, hD9⟩, hS.F ht⟩) hS.2.2 dX12_readP_172

def l_z_X12_readTurned : List Cond := [.fieldLink RX12 625 "HeapWorksModel" "stop" "I", .constantLong RX12 719 (45), .methodLink RX12 657 yX12_isSign, .instanceMethod yX12_isSign, .selects RX12 yX12_isSign yX12_isSign, .initialized RX12, .methodLink RX12 730 yX12_readP, .instanceMethod yX12_readP, .selects RX12 yX12_readP yX12_readP, .code yX12_isSign cX12_isSign 3 (some .boolean), .fieldLink RX12 644 "HeapWorksModel" "kind" "I", .code yX12_readP cX12_readP 4 (some .int), .methodLink RX12 733 yX12_readAtom, .instanceMethod yX12_readAtom, .selects RX12 yX12_readAtom yX12_readAtom, .code yX12_readAtom cX12_readAtom 5 (some .int), .methodLink RX12 751 yX12_keyAtHand, .instanceMethod yX12_keyAtHand, .selects RX12 yX12_keyAtHand yX12_keyAtHand, .constantLong RX12 754 (40), .methodLink RX12 710 yX12_isName, .instanceMethod yX12_isName, .selects RX12 yX12_isName yX12_isName, .methodLink RX12 664 yX12_wrong, .instanceMethod yX12_wrong, .selects RX12 yX12_wrong yX12_wrong, .fieldLink RX12 673 "HeapWorksModel" "nodeBase" "I", .code yX12_keyAtHand cX12_keyAtHand 1 (some .int), .code yX12_isName cX12_isName 1 (some .boolean), .code yX12_wrong cX12_wrong 1 none, .fieldLink RX12 637 "HeapWorksModel" "from0" "I", .methodLink RX12 653 yX12_fail, .instanceMethod yX12_fail, .selects RX12 yX12_fail yX12_fail, .code yX12_fail cX12_fail 3 none, .fieldLink RX12 628 "HeapWorksModel" "stopAt" "I"]
def w_z_X12_readTurned : List Cond := .code yX12_readTurned cX12_readTurned 2 (some .int) :: (l_z_X12_readTurned ++ (wsX120))
theorem in_z_X12_readTurned_X12 : ∀ w ∈ wsX120, w ∈ w_z_X12_readTurned := fun w h => List.mem_cons_of_mem _ (List.mem_append_right _ (h))
theorem g_z_X12_readTurned_z_X12_isSign_657 : GoodIn w_z_X12_readTurned (wsV RX12 657 RX12 yX12_isSign w_z_X12_isSign) := goodIn_app (goodIn_r (([.methodLink RX12 657 yX12_isSign, .instanceMethod yX12_isSign, .selects RX12 yX12_isSign yX12_isSign, .initialized RX12] : List Cond)) [3, 4, 5, 6] rfl (by decide +kernel)) (goodIn_ca (goodIn_r (.code yX12_isSign cX12_isSign 3 (some .boolean) :: l_z_X12_isSign) [10, 11] rfl (by decide +kernel)) (goodIn_in (in_z_X12_readTurned_X12) gd_X12))
theorem g_z_X12_readTurned_z_X12_readP_730 : GoodIn w_z_X12_readTurned (wsV RX12 730 RX12 yX12_readP w_z_X12_readP) := goodIn_app (goodIn_r (([.methodLink RX12 730 yX12_readP, .instanceMethod yX12_readP, .selects RX12 yX12_readP yX12_readP, .initialized RX12] : List Cond)) [7, 8, 9, 6] rfl (by decide +kernel)) (goodIn_ca (goodIn_r (.code yX12_readP cX12_readP 4 (some .int) :: l_z_X12_readP) [12, 13, 14, 15, 6, 1, 16, 17, 18, 19, 20, 3, 4, 5, 11, 21, 22, 23, 24, 25, 26, 27, 28, 10, 29, 30, 31, 32, 33, 34, 35, 36] rfl (by decide +kernel)) (goodIn_in (in_z_X12_readTurned_X12) gd_X12))
set_option maxHeartbeats 4000000 in
set_option maxRecDepth 100000 in
theorem z_X12_readTurned (l : Launch) (dC : Nat → ClassId) (dI : Nat → Nat → Nat) (sz : Nat) (Ad0 : Nat) (Fs0 : List Value) (k_Fs0 : fh Fs0 150 [(80, .int 0), (79, .int 0), (83, .int 0), (91, .int 120)])  : Met l yX12_readTurned w_z_X12_readTurned ({ frames := 4, cells := 0, slots := 0, locals := 89 }) (va_Pc [.ref Ad0] (fun U => U.heap.size = sz ∧ Wd dC dI [] (fun _ => True) [(Ad0, .inr (15, Fs0))] U)) (va_Qi (fun (r : Int32) (u : List Value) => (r = 120 ∧ ow Fs0 (u) 150 [84, 83] [(84, .int 0), (83, .int 1), (80, .int 0), (79, .int 0), (80, .int 0), (79, .int 0), (91, .int 120), (80, .int 0), (79, .int 0), (91, .int 120), (80, .int 0), (79, .int 0), (91, .int 120)])) (fun (u : List Value) t => Wd dC dI [] (va_A [(Ad0, .inr (15, Fs0))] sz) [(Ad0, .inr (15, (u)))] t) (va_A [(Ad0, .inr (15, Fs0))] sz))  0 0 (va_A [(Ad0, .inr (15, Fs0))] sz) := by
  refine Met.ofW (cc := cX12_readTurned) (maxL := 2) (ret := (some .int)) (by decide) rfl ?_
  intro p e s m args below meth c s₁ B hml hv
  obtain ⟨rfl, hsz, hP, hK, hD0⟩ := hv
  have hx := B.exec
  have hb := B.bytes
  have hr := B.returns
  have hts := atoms_spec (ws := w_z_X12_readTurned) B.pre
  have hown : s.vm.findClass RX12 = some m.cls := findClass_of_methodNamed B.named
  have hlocks := B.notSynchronized
  subst hsz
  have hD := hD0.self (sz := s.heap.size)
  generalize hAe : va_A [(Ad0, .inr (15, Fs0))] s.heap.size = A at hD ⊢
  have hA : ∀ q : Nat, s.heap.size ≤ q → A q := fun q h => by rw [← hAe]; exact Or.inr h
  have hS : va_S A s.heap s.heap [] := va_S.rf
  have hl := lv_entry ([.ref Ad0]) (n := 2) (Nat.le_of_ble_eq_true rfl)
  rw [lg_entry_eq]
  generalize (lg_sl ([.ref Ad0]) ++ List.replicate (2 - (lg_sl ([.ref Ad0])).length) Slot.unset).toArray = ls at hl ⊢
  have hl : lv_has ls 2 [(0, .ref Ad0)] := hl
  have o_Fs0 := ow_0 k_Fs0
  refine lv_aload_n hx hb dX12_readTurned_0 rfl (lv_at hl 0 rfl) ?_
  refine va_get (D := (dC, dI)) (ci := 15) (v := .int 0) (C := RX12) (T := TX12) (N := 150) hx hb hts (in_z_X12_readTurned_X12) hown hK hP 0 rfl rfl 83 (by decide) (hts (.fieldLink RX12 625 "HeapWorksModel" "stop" "I") (by decide +kernel)) (fun _ h9 => h9) (ow_at o_Fs0 2 rfl) dX12_readTurned_1 ?_
  refine lv_if_gt (tgt := 17) hx hb dX12_readTurned_4 (by decide) (fun c101 => absurd c101 (by decide)) (fun c101 => ?_)
  refine lv_aload_n hx hb dX12_readTurned_7 rfl (lv_at hl 0 rfl) ?_
  refine lv_ldc2 (v := 45) hx hb hown (hts (.constantLong RX12 719 (45)) (by decide +kernel)) dX12_readTurned_8 ?_
  have hPc := hP.sub (ws' := [(Ad0, .inr (15, Fs0))]) [0] rfl
  have hDc := hD.sub (ws' := [(Ad0, .inr (15, Fs0))]) [0] (by decide) rfl
  have hKc := hK.sub (tys' := []) [] rfl
  have hFc := va_free (wc := [(Ad0, .inr (15, Fs0))]) hD hS hA [0] rfl
  refine va_calli (va_runV (As := [.long 45]) (rest := []) ⟨hx, hb, hml, hown, hts⟩ (z_X12_isSign l dC dI s.heap.size Ad0 Fs0 (fh_sub o_Fs0.2 [0] rfl) ) (cwV 1 hts g_z_X12_readTurned_z_X12_isSign_657 rfl rfl rfl (by decide +kernel) ⟨Nat.le_of_ble_eq_true rfl, Nat.le_of_ble_eq_true rfl⟩) ⟨fun a U g mk q => by obtain ⟨q0, q1, qP, qK, qD⟩ := q; exact ⟨q0, q1, qP, va_K.moved (u := U) (U := U.calling g mk a) (Vm.Alike.refl U.vm) qK, qD⟩, va_recv hK hP (ci := 15) (q0 := 0) rfl rfl, fun U hU hW => ⟨rfl, by rw [hU], by rw [hU]; exact hPc, va_K.moved hW.alike hKc, hDc.weaken (fun _ _ _ _ => trivial)⟩⟩ rfl rfl hl.1 rfl (lv_room (Nat.le_of_ble_eq_true rfl)) dX12_readTurned_11 ⟨Nat.le_of_ble_eq_true rfl, Nat.le_of_ble_eq_true rfl⟩) hS (fun q _ h => hFc q h) hFc (fun r102 u t H1 locs ht hvm hw hB hz1 hk1 hS => ?_)
  obtain ⟨hP1, hK1, hD1⟩ := hB
  rw [ht] at hP1
  try dsimp only at hw
  obtain ⟨hP, hD⟩ := va_join (wr := []) (w1 := [(Ad0, .inr (15, Fs0))]) hP hD [0] [] rfl rfl (by decide) (by decide) hk1 hFc hP1 hD1
  have hK := hK.sub (tys' := []) [] rfl
  generalize H1 = H at hP hS ⊢
  have hP : va_P (dC, dI) vwCl [(Ad0, .inr (15, Fs0))] H := hP
  have hD : va_D A [(Ad0, .inr (15, Fs0))] := hD
  have er103 := hw
  subst er103
  refine lv_if_ne (tgt := 22) hx hb dX12_readTurned_14 (by decide) (fun c104 => absurd c104 (by decide)) (fun c104 => ?_)
  refine lv_aload_n hx hb dX12_readTurned_17 rfl (lv_at hl 0 rfl) ?_
  have hPc := hP.sub (ws' := [(Ad0, .inr (15, Fs0))]) [0] rfl
  have hDc := hD.sub (ws' := [(Ad0, .inr (15, Fs0))]) [0] (by decide) rfl
  have hKc := hK.sub (tys' := []) [] rfl
  have hFc := va_free (wc := [(Ad0, .inr (15, Fs0))]) hD hS hA [0] rfl
  refine va_calli (va_runV (As := []) (rest := []) ⟨hx, hb, hml, hown, hts⟩ (z_X12_readP l dC dI H.size Ad0 Fs0 (fh_sub o_Fs0.2 [0, 1, 2, 3] rfl) ) (cwV 0 hts g_z_X12_readTurned_z_X12_readP_730 rfl rfl rfl (by decide +kernel) ⟨Nat.le_of_ble_eq_true rfl, Nat.le_of_ble_eq_true rfl⟩) ⟨fun a U g mk q => by obtain ⟨q0, q1, qP, qK, qD⟩ := q; exact ⟨q0, q1, qP, va_K.moved (u := U) (U := U.calling g mk a) (Vm.Alike.refl U.vm) qK, qD⟩, va_recv hK hP (ci := 15) (q0 := 0) rfl rfl, fun U hU hW => ⟨rfl, by rw [hU], by rw [hU]; exact hPc, va_K.moved hW.alike hKc, hDc.weaken (fun _ _ _ _ => trivial)⟩⟩ rfl rfl hl.1 rfl (lv_room (Nat.le_of_ble_eq_true rfl)) dX12_readTurned_18 ⟨Nat.le_of_ble_eq_true rfl, Nat.le_of_ble_eq_true rfl⟩) hS (fun q _ h => hFc q h) hFc (fun r105 u t H1 locs ht hvm hw hB hz1 hk1 hS => ?_)
  obtain ⟨s106, rfl⟩ : ∃ z, z = u := ⟨_, rfl⟩
  obtain ⟨hP1, hK1, hD1⟩ := hB
  rw [ht] at hP1
  try dsimp only at hw
  obtain ⟨hP, hD⟩ := va_join (wr := []) (w1 := [(Ad0, .inr (15, s106))]) hP hD [0] [] rfl rfl (by decide) (by decide) hk1 hFc hP1 hD1
  have hK := hK.sub (tys' := []) [] rfl
  generalize H1 = H at hP hS ⊢
  have hP : va_P (dC, dI) vwCl [(Ad0, .inr (15, s106))] H := hP
  have hD : va_D A [(Ad0, .inr (15, s106))] := hD
  obtain ⟨er107, o_s106⟩ := hw
  subst er107
  have o_s106 := ow_on o_Fs0 o_s106 (l' := [(84, .int 0), (83, .int 1), (80, .int 0), (79, .int 0), (80, .int 0), (79, .int 0), (91, .int 120), (80, .int 0), (79, .int 0), (91, .int 120), (80, .int 0), (79, .int 0), (91, .int 120)]) (w' := [84, 83]) rfl rfl
  have hP9 := hP.sub (ws' := [(Ad0, .inr (15, s106))]) [0] rfl
  have hD9 := hD.sub (ws' := [(Ad0, .inr (15, s106))]) [0] (by decide) rfl
  have hK9 := hK.sub (tys' := []) [] rfl
  exact W.iret (v := 120) hx hb hr (fun t ht hW => ⟨⟨120, s106, rfl, ⟨rfl, o_s106⟩, by rw [ht]; exact hP9, va_K.moved hW.alike hK9, hD9⟩, hS.F ht⟩) hS.2.2 dX12_readTurned_21

def l_z_X12_readProduct : List Cond := [.methodLink RX12 721 yX12_readTurned, .instanceMethod yX12_readTurned, .selects RX12 yX12_readTurned yX12_readTurned, .initialized RX12, .fieldLink RX12 625 "HeapWorksModel" "stop" "I", .code yX12_readTurned cX12_readTurned 2 (some .int), .constantLong RX12 719 (45), .methodLink RX12 657 yX12_isSign, .instanceMethod yX12_isSign, .selects RX12 yX12_isSign yX12_isSign, .methodLink RX12 730 yX12_readP, .instanceMethod yX12_readP, .selects RX12 yX12_readP yX12_readP, .code yX12_isSign cX12_isSign 3 (some .boolean), .fieldLink RX12 644 "HeapWorksModel" "kind" "I", .code yX12_readP cX12_readP 4 (some .int), .methodLink RX12 733 yX12_readAtom, .instanceMethod yX12_readAtom, .selects RX12 yX12_readAtom yX12_readAtom, .code yX12_readAtom cX12_readAtom 5 (some .int), .methodLink RX12 751 yX12_keyAtHand, .instanceMethod yX12_keyAtHand, .selects RX12 yX12_keyAtHand yX12_keyAtHand, .constantLong RX12 754 (40), .methodLink RX12 710 yX12_isName, .instanceMethod yX12_isName, .selects RX12 yX12_isName yX12_isName, .methodLink RX12 664 yX12_wrong, .instanceMethod yX12_wrong, .selects RX12 yX12_wrong yX12_wrong, .fieldLink RX12 673 "HeapWorksModel" "nodeBase" "I", .code yX12_keyAtHand cX12_keyAtHand 1 (some .int), .code yX12_isName cX12_isName 1 (some .boolean), .code yX12_wrong cX12_wrong 1 none, .fieldLink RX12 637 "HeapWorksModel" "from0" "I", .methodLink RX12 653 yX12_fail, .instanceMethod yX12_fail, .selects RX12 yX12_fail yX12_fail, .code yX12_fail cX12_fail 3 none, .fieldLink RX12 628 "HeapWorksModel" "stopAt" "I"]
def w_z_X12_readProduct : List Cond := .code yX12_readProduct cX12_readProduct 3 (some .int) :: (l_z_X12_readProduct ++ (wsX120))
theorem in_z_X12_readProduct_X12 : ∀ w ∈ wsX120, w ∈ w_z_X12_readProduct := fun w h => List.mem_cons_of_mem _ (List.mem_append_right _ (h))
theorem g_z_X12_readProduct_z_X12_readTurned_721 : GoodIn w_z_X12_readProduct (wsV RX12 721 RX12 yX12_readTurned w_z_X12_readTurned) := goodIn_app (goodIn_r (([.methodLink RX12 721 yX12_readTurned, .instanceMethod yX12_readTurned, .selects RX12 yX12_readTurned yX12_readTurned, .initialized RX12] : List Cond)) [1, 2, 3, 4] rfl (by decide +kernel)) (goodIn_ca (goodIn_r (.code yX12_readTurned cX12_readTurned 2 (some .int) :: l_z_X12_readTurned) [6, 5, 7, 8, 9, 10, 4, 11, 12, 13, 14, 15, 16, 17, 18, 19, 20, 21, 22, 23, 24, 25, 26, 27, 28, 29, 30, 31, 32, 33, 34, 35, 36, 37, 38, 39, 40] rfl (by decide +kernel)) (goodIn_in (in_z_X12_readProduct_X12) gd_X12))
set_option maxHeartbeats 4000000 in
set_option maxRecDepth 100000 in
theorem z_X12_readProduct (l : Launch) (dC : Nat → ClassId) (dI : Nat → Nat → Nat) (sz : Nat) (Ad0 : Nat) (Fs0 : List Value) (k_Fs0 : fh Fs0 150 [(80, .int 0), (79, .int 0), (83, .int 0), (91, .int 120)])  : Met l yX12_readProduct w_z_X12_readProduct ({ frames := 5, cells := 0, slots := 0, locals := 110 }) (va_Pc [.ref Ad0] (fun U => U.heap.size = sz ∧ Wd dC dI [] (fun _ => True) [(Ad0, .inr (15, Fs0))] U)) (va_Qi (fun (r : Int32) (u : List Value) => (r = 120 ∧ ow Fs0 (u) 150 [84, 83] [(84, .int 0), (83, .int 1), (80, .int 0), (79, .int 0), (80, .int 0), (79, .int 0), (91, .int 120), (80, .int 0), (79, .int 0), (91, .int 120), (80, .int 0), (79, .int 0), (91, .int 120), (80, .int 0), (79, .int 0), (91, .int 120)])) (fun (u : List Value) t => Wd dC dI [] (va_A [(Ad0, .inr (15, Fs0))] sz) [(Ad0, .inr (15, (u)))] t) (va_A [(Ad0, .inr (15, Fs0))] sz))  0 0 (va_A [(Ad0, .inr (15, Fs0))] sz) := by
  refine Met.ofW (cc := cX12_readProduct) (maxL := 3) (ret := (some .int)) (by decide) rfl ?_
  intro p e s m args below meth c s₁ B hml hv
  obtain ⟨rfl, hsz, hP, hK, hD0⟩ := hv
  have hx := B.exec
  have hb := B.bytes
  have hr := B.returns
  have hts := atoms_spec (ws := w_z_X12_readProduct) B.pre
  have hown : s.vm.findClass RX12 = some m.cls := findClass_of_methodNamed B.named
  have hlocks := B.notSynchronized
  subst hsz
  have hD := hD0.self (sz := s.heap.size)
  generalize hAe : va_A [(Ad0, .inr (15, Fs0))] s.heap.size = A at hD ⊢
  have hA : ∀ q : Nat, s.heap.size ≤ q → A q := fun q h => by rw [← hAe]; exact Or.inr h
  have hS : va_S A s.heap s.heap [] := va_S.rf
  have hl := lv_entry ([.ref Ad0]) (n := 3) (Nat.le_of_ble_eq_true rfl)
  rw [lg_entry_eq]
  generalize (lg_sl ([.ref Ad0]) ++ List.replicate (3 - (lg_sl ([.ref Ad0])).length) Slot.unset).toArray = ls at hl ⊢
  have hl : lv_has ls 3 [(0, .ref Ad0)] := hl
  have o_Fs0 := ow_0 k_Fs0
  refine lv_aload_n hx hb dX12_readProduct_0 rfl (lv_at hl 0 rfl) ?_
  have hPc := hP.sub (ws' := [(Ad0, .inr (15, Fs0))]) [0] rfl
  have hDc := hD.sub (ws' := [(Ad0, .inr (15, Fs0))]) [0] (by decide) rfl
  have hKc := hK.sub (tys' := []) [] rfl
  have hFc := va_free (wc := [(Ad0, .inr (15, Fs0))]) hD hS hA [0] rfl
  refine va_calli (va_runV (As := []) (rest := []) ⟨hx, hb, hml, hown, hts⟩ (z_X12_readTurned l dC dI s.heap.size Ad0 Fs0 (fh_sub o_Fs0.2 [0, 1, 2, 3] rfl) ) (cwV 0 hts g_z_X12_readProduct_z_X12_readTurned_721 rfl rfl rfl (by decide +kernel) ⟨Nat.le_of_ble_eq_true rfl, Nat.le_of_ble_eq_true rfl⟩) ⟨fun a U g mk q => by obtain ⟨q0, q1, qP, qK, qD⟩ := q; exact ⟨q0, q1, qP, va_K.moved (u := U) (U := U.calling g mk a) (Vm.Alike.refl U.vm) qK, qD⟩, va_recv hK hP (ci := 15) (q0 := 0) rfl rfl, fun U hU hW => ⟨rfl, by rw [hU], by rw [hU]; exact hPc, va_K.moved hW.alike hKc, hDc.weaken (fun _ _ _ _ => trivial)⟩⟩ rfl rfl hl.1 rfl (lv_room (Nat.le_of_ble_eq_true rfl)) dX12_readProduct_1 ⟨Nat.le_of_ble_eq_true rfl, Nat.le_of_ble_eq_true rfl⟩) hS (fun q _ h => hFc q h) hFc (fun r101 u t H1 locs ht hvm hw hB hz1 hk1 hS => ?_)
  obtain ⟨s102, rfl⟩ : ∃ z, z = u := ⟨_, rfl⟩
  obtain ⟨hP1, hK1, hD1⟩ := hB
  rw [ht] at hP1
  try dsimp only at hw
  obtain ⟨hP, hD⟩ := va_join (wr := []) (w1 := [(Ad0, .inr (15, s102))]) hP hD [0] [] rfl rfl (by decide) (by decide) hk1 hFc hP1 hD1
  have hK := hK.sub (tys' := []) [] rfl
  generalize H1 = H at hP hS ⊢
  have hP : va_P (dC, dI) vwCl [(Ad0, .inr (15, s102))] H := hP
  have hD : va_D A [(Ad0, .inr (15, s102))] := hD
  obtain ⟨er103, o_s102⟩ := hw
  subst er103
  have o_s102 := ow_on o_Fs0 o_s102 (l' := [(84, .int 0), (83, .int 1), (80, .int 0), (79, .int 0), (80, .int 0), (79, .int 0), (91, .int 120), (80, .int 0), (79, .int 0), (91, .int 120), (80, .int 0), (79, .int 0), (91, .int 120), (80, .int 0), (79, .int 0), (91, .int 120)]) (w' := [84, 83]) rfl rfl
  refine lv_istore_n (lv' := [(1, .int 120), (0, .ref Ad0)]) hx hb dX12_readProduct_4 rfl hl (by decide) rfl (fun ls hl => ?_)
  refine lv_aload_n hx hb dX12_readProduct_5 rfl (lv_at hl 1 rfl) ?_
  refine va_get (D := (dC, dI)) (ci := 15) (v := .int 1) (C := RX12) (T := TX12) (N := 150) hx hb hts (in_z_X12_readProduct_X12) hown hK hP 0 rfl rfl 83 (by decide) (hts (.fieldLink RX12 625 "HeapWorksModel" "stop" "I") (by decide +kernel)) (fun _ h9 => h9) (ow_at o_s102 1 rfl) dX12_readProduct_6 ?_
  refine lv_if_ne (tgt := 105) hx hb dX12_readProduct_9 (by decide) (fun c104 => ?_) (fun c104 => absurd c104 (by decide))
  refine lv_iload_n hx hb dX12_readProduct_105 rfl (lv_at hl 0 rfl) ?_
  have hP9 := hP.sub (ws' := [(Ad0, .inr (15, s102))]) [0] rfl
  have hD9 := hD.sub (ws' := [(Ad0, .inr (15, s102))]) [0] (by decide) rfl
  have hK9 := hK.sub (tys' := []) [] rfl
  exact W.iret (v := 120) hx hb hr (fun t ht hW => ⟨⟨120, s102, rfl, ⟨rfl, o_s102⟩, by rw [ht]; exact hP9, va_K.moved hW.alike hK9, hD9⟩, hS.F ht⟩) hS.2.2 dX12_readProduct_106

def l_z_X12_readSum : List Cond := [.methodLink RX12 714 yX12_readProduct, .instanceMethod yX12_readProduct, .selects RX12 yX12_readProduct yX12_readProduct, .initialized RX12, .fieldLink RX12 625 "HeapWorksModel" "stop" "I", .code yX12_readProduct cX12_readProduct 3 (some .int), .methodLink RX12 721 yX12_readTurned, .instanceMethod yX12_readTurned, .selects RX12 yX12_readTurned yX12_readTurned, .code yX12_readTurned cX12_readTurned 2 (some .int), .constantLong RX12 719 (45), .methodLink RX12 657 yX12_isSign, .instanceMethod yX12_isSign, .selects RX12 yX12_isSign yX12_isSign, .methodLink RX12 730 yX12_readP, .instanceMethod yX12_readP, .selects RX12 yX12_readP yX12_readP, .code yX12_isSign cX12_isSign 3 (some .boolean), .fieldLink RX12 644 "HeapWorksModel" "kind" "I", .code yX12_readP cX12_readP 4 (some .int), .methodLink RX12 733 yX12_readAtom, .instanceMethod yX12_readAtom, .selects RX12 yX12_readAtom yX12_readAtom, .code yX12_readAtom cX12_readAtom 5 (some .int), .methodLink RX12 751 yX12_keyAtHand, .instanceMethod yX12_keyAtHand, .selects RX12 yX12_keyAtHand yX12_keyAtHand, .constantLong RX12 754 (40), .methodLink RX12 710 yX12_isName, .instanceMethod yX12_isName, .selects RX12 yX12_isName yX12_isName, .methodLink RX12 664 yX12_wrong, .instanceMethod yX12_wrong, .selects RX12 yX12_wrong yX12_wrong, .fieldLink RX12 673 "HeapWorksModel" "nodeBase" "I", .code yX12_keyAtHand cX12_keyAtHand 1 (some .int), .code yX12_isName cX12_isName 1 (some .boolean), .code yX12_wrong cX12_wrong 1 none, .fieldLink RX12 637 "HeapWorksModel" "from0" "I", .methodLink RX12 653 yX12_fail, .instanceMethod yX12_fail, .selects RX12 yX12_fail yX12_fail, .code yX12_fail cX12_fail 3 none, .fieldLink RX12 628 "HeapWorksModel" "stopAt" "I"]
def w_z_X12_readSum : List Cond := .code yX12_readSum cX12_readSum 3 (some .int) :: (l_z_X12_readSum ++ (wsX120))
theorem in_z_X12_readSum_X12 : ∀ w ∈ wsX120, w ∈ w_z_X12_readSum := fun w h => List.mem_cons_of_mem _ (List.mem_append_right _ (h))
theorem g_z_X12_readSum_z_X12_readProduct_714 : GoodIn w_z_X12_readSum (wsV RX12 714 RX12 yX12_readProduct w_z_X12_readProduct) := goodIn_app (goodIn_r (([.methodLink RX12 714 yX12_readProduct, .instanceMethod yX12_readProduct, .selects RX12 yX12_readProduct yX12_readProduct, .initialized RX12] : List Cond)) [1, 2, 3, 4] rfl (by decide +kernel)) (goodIn_ca (goodIn_r (.code yX12_readProduct cX12_readProduct 3 (some .int) :: l_z_X12_readProduct) [6, 7, 8, 9, 4, 5, 10, 11, 12, 13, 14, 15, 16, 17, 18, 19, 20, 21, 22, 23, 24, 25, 26, 27, 28, 29, 30, 31, 32, 33, 34, 35, 36, 37, 38, 39, 40, 41, 42, 43, 44] rfl (by decide +kernel)) (goodIn_in (in_z_X12_readSum_X12) gd_X12))
set_option maxHeartbeats 4000000 in
set_option maxRecDepth 100000 in
theorem z_X12_readSum (l : Launch) (dC : Nat → ClassId) (dI : Nat → Nat → Nat) (sz : Nat) (Ad0 : Nat) (Fs0 : List Value) (k_Fs0 : fh Fs0 150 [(80, .int 0), (79, .int 0), (83, .int 0), (91, .int 120)])  : Met l yX12_readSum w_z_X12_readSum ({ frames := 6, cells := 0, slots := 0, locals := 132 }) (va_Pc [.ref Ad0] (fun U => U.heap.size = sz ∧ Wd dC dI [] (fun _ => True) [(Ad0, .inr (15, Fs0))] U)) (va_Qi (fun (r : Int32) (u : List Value) => (r = 120 ∧ ow Fs0 (u) 150 [84, 83] [(84, .int 0), (83, .int 1), (80, .int 0), (79, .int 0), (80, .int 0), (79, .int 0), (91, .int 120), (80, .int 0), (79, .int 0), (91, .int 120), (80, .int 0), (79, .int 0), (91, .int 120), (80, .int 0), (79, .int 0), (91, .int 120), (80, .int 0), (79, .int 0), (91, .int 120)])) (fun (u : List Value) t => Wd dC dI [] (va_A [(Ad0, .inr (15, Fs0))] sz) [(Ad0, .inr (15, (u)))] t) (va_A [(Ad0, .inr (15, Fs0))] sz))  0 0 (va_A [(Ad0, .inr (15, Fs0))] sz) := by
  refine Met.ofW (cc := cX12_readSum) (maxL := 3) (ret := (some .int)) (by decide) rfl ?_
  intro p e s m args below meth c s₁ B hml hv
  obtain ⟨rfl, hsz, hP, hK, hD0⟩ := hv
  have hx := B.exec
  have hb := B.bytes
  have hr := B.returns
  have hts := atoms_spec (ws := w_z_X12_readSum) B.pre
  have hown : s.vm.findClass RX12 = some m.cls := findClass_of_methodNamed B.named
  have hlocks := B.notSynchronized
  subst hsz
  have hD := hD0.self (sz := s.heap.size)
  generalize hAe : va_A [(Ad0, .inr (15, Fs0))] s.heap.size = A at hD ⊢
  have hA : ∀ q : Nat, s.heap.size ≤ q → A q := fun q h => by rw [← hAe]; exact Or.inr h
  have hS : va_S A s.heap s.heap [] := va_S.rf
  have hl := lv_entry ([.ref Ad0]) (n := 3) (Nat.le_of_ble_eq_true rfl)
  rw [lg_entry_eq]
  generalize (lg_sl ([.ref Ad0]) ++ List.replicate (3 - (lg_sl ([.ref Ad0])).length) Slot.unset).toArray = ls at hl ⊢
  have hl : lv_has ls 3 [(0, .ref Ad0)] := hl
  have o_Fs0 := ow_0 k_Fs0
  refine lv_aload_n hx hb dX12_readSum_0 rfl (lv_at hl 0 rfl) ?_
  have hPc := hP.sub (ws' := [(Ad0, .inr (15, Fs0))]) [0] rfl
  have hDc := hD.sub (ws' := [(Ad0, .inr (15, Fs0))]) [0] (by decide) rfl
  have hKc := hK.sub (tys' := []) [] rfl
  have hFc := va_free (wc := [(Ad0, .inr (15, Fs0))]) hD hS hA [0] rfl
  refine va_calli (va_runV (As := []) (rest := []) ⟨hx, hb, hml, hown, hts⟩ (z_X12_readProduct l dC dI s.heap.size Ad0 Fs0 (fh_sub o_Fs0.2 [0, 1, 2, 3] rfl) ) (cwV 0 hts g_z_X12_readSum_z_X12_readProduct_714 rfl rfl rfl (by decide +kernel) ⟨Nat.le_of_ble_eq_true rfl, Nat.le_of_ble_eq_true rfl⟩) ⟨fun a U g mk q => by obtain ⟨q0, q1, qP, qK, qD⟩ := q; exact ⟨q0, q1, qP, va_K.moved (u := U) (U := U.calling g mk a) (Vm.Alike.refl U.vm) qK, qD⟩, va_recv hK hP (ci := 15) (q0 := 0) rfl rfl, fun U hU hW => ⟨rfl, by rw [hU], by rw [hU]; exact hPc, va_K.moved hW.alike hKc, hDc.weaken (fun _ _ _ _ => trivial)⟩⟩ rfl rfl hl.1 rfl (lv_room (Nat.le_of_ble_eq_true rfl)) dX12_readSum_1 ⟨Nat.le_of_ble_eq_true rfl, Nat.le_of_ble_eq_true rfl⟩) hS (fun q _ h => hFc q h) hFc (fun r101 u t H1 locs ht hvm hw hB hz1 hk1 hS => ?_)
  obtain ⟨s102, rfl⟩ : ∃ z, z = u := ⟨_, rfl⟩
  obtain ⟨hP1, hK1, hD1⟩ := hB
  rw [ht] at hP1
  try dsimp only at hw
  obtain ⟨hP, hD⟩ := va_join (wr := []) (w1 := [(Ad0, .inr (15, s102))]) hP hD [0] [] rfl rfl (by decide) (by decide) hk1 hFc hP1 hD1
  have hK := hK.sub (tys' := []) [] rfl
  generalize H1 = H at hP hS ⊢
  have hP : va_P (dC, dI) vwCl [(Ad0, .inr (15, s102))] H := hP
  have hD : va_D A [(Ad0, .inr (15, s102))] := hD
  obtain ⟨er103, o_s102⟩ := hw
  subst er103
  have o_s102 := ow_on o_Fs0 o_s102 (l' := [(84, .int 0), (83, .int 1), (80, .int 0), (79, .int 0), (80, .int 0), (79, .int 0), (91, .int 120), (80, .int 0), (79, .int 0), (91, .int 120), (80, .int 0), (79, .int 0), (91, .int 120), (80, .int 0), (79, .int 0), (91, .int 120), (80, .int 0), (79, .int 0), (91, .int 120)]) (w' := [84, 83]) rfl rfl
  refine lv_istore_n (lv' := [(1, .int 120), (0, .ref Ad0)]) hx hb dX12_readSum_4 rfl hl (by decide) rfl (fun ls hl => ?_)
  refine lv_aload_n hx hb dX12_readSum_5 rfl (lv_at hl 1 rfl) ?_
  refine va_get (D := (dC, dI)) (ci := 15) (v := .int 1) (C := RX12) (T := TX12) (N := 150) hx hb hts (in_z_X12_readSum_X12) hown hK hP 0 rfl rfl 83 (by decide) (hts (.fieldLink RX12 625 "HeapWorksModel" "stop" "I") (by decide +kernel)) (fun _ h9 => h9) (ow_at o_s102 1 rfl) dX12_readSum_6 ?_
  refine lv_if_ne (tgt := 80) hx hb dX12_readSum_9 (by decide) (fun c104 => ?_) (fun c104 => absurd c104 (by decide))
  refine lv_iload_n hx hb dX12_readSum_80 rfl (lv_at hl 0 rfl) ?_
  have hP9 := hP.sub (ws' := [(Ad0, .inr (15, s102))]) [0] rfl
  have hD9 := hD.sub (ws' := [(Ad0, .inr (15, s102))]) [0] (by decide) rfl
  have hK9 := hK.sub (tys' := []) [] rfl
  exact W.iret (v := 120) hx hb hr (fun t ht hW => ⟨⟨120, s102, rfl, ⟨rfl, o_s102⟩, by rw [ht]; exact hP9, va_K.moved hW.alike hK9, hD9⟩, hS.F ht⟩) hS.2.2 dX12_readSum_81

def l_z_X12_readCompared : List Cond := [.methodLink RX12 704 yX12_readSum, .instanceMethod yX12_readSum, .selects RX12 yX12_readSum yX12_readSum, .initialized RX12, .fieldLink RX12 625 "HeapWorksModel" "stop" "I", .code yX12_readSum cX12_readSum 3 (some .int), .methodLink RX12 714 yX12_readProduct, .instanceMethod yX12_readProduct, .selects RX12 yX12_readProduct yX12_readProduct, .code yX12_readProduct cX12_readProduct 3 (some .int), .methodLink RX12 721 yX12_readTurned, .instanceMethod yX12_readTurned, .selects RX12 yX12_readTurned yX12_readTurned, .code yX12_readTurned cX12_readTurned 2 (some .int), .constantLong RX12 719 (45), .methodLink RX12 657 yX12_isSign, .instanceMethod yX12_isSign, .selects RX12 yX12_isSign yX12_isSign, .methodLink RX12 730 yX12_readP, .instanceMethod yX12_readP, .selects RX12 yX12_readP yX12_readP, .code yX12_isSign cX12_isSign 3 (some .boolean), .fieldLink RX12 644 "HeapWorksModel" "kind" "I", .code yX12_readP cX12_readP 4 (some .int), .methodLink RX12 733 yX12_readAtom, .instanceMethod yX12_readAtom, .selects RX12 yX12_readAtom yX12_readAtom, .code yX12_readAtom cX12_readAtom 5 (some .int), .methodLink RX12 751 yX12_keyAtHand, .instanceMethod yX12_keyAtHand, .selects RX12 yX12_keyAtHand yX12_keyAtHand, .constantLong RX12 754 (40), .methodLink RX12 710 yX12_isName, .instanceMethod yX12_isName, .selects RX12 yX12_isName yX12_isName, .methodLink RX12 664 yX12_wrong, .instanceMethod yX12_wrong, .selects RX12 yX12_wrong yX12_wrong, .fieldLink RX12 673 "HeapWorksModel" "nodeBase" "I", .code yX12_keyAtHand cX12_keyAtHand 1 (some .int), .code yX12_isName cX12_isName 1 (some .boolean), .code yX12_wrong cX12_wrong 1 none, .fieldLink RX12 637 "HeapWorksModel" "from0" "I", .methodLink RX12 653 yX12_fail, .instanceMethod yX12_fail, .selects RX12 yX12_fail yX12_fail, .code yX12_fail cX12_fail 3 none, .fieldLink RX12 628 "HeapWorksModel" "stopAt" "I"]
def w_z_X12_readCompared : List Cond := .code yX12_readCompared cX12_readCompared 4 (some .int) :: (l_z_X12_readCompared ++ (wsX120))
theorem in_z_X12_readCompared_X12 : ∀ w ∈ wsX120, w ∈ w_z_X12_readCompared := fun w h => List.mem_cons_of_mem _ (List.mem_append_right _ (h))
theorem g_z_X12_readCompared_z_X12_readSum_704 : GoodIn w_z_X12_readCompared (wsV RX12 704 RX12 yX12_readSum w_z_X12_readSum) := goodIn_app (goodIn_r (([.methodLink RX12 704 yX12_readSum, .instanceMethod yX12_readSum, .selects RX12 yX12_readSum yX12_readSum, .initialized RX12] : List Cond)) [1, 2, 3, 4] rfl (by decide +kernel)) (goodIn_ca (goodIn_r (.code yX12_readSum cX12_readSum 3 (some .int) :: l_z_X12_readSum) [6, 7, 8, 9, 4, 5, 10, 11, 12, 13, 14, 15, 16, 17, 18, 19, 20, 21, 22, 23, 24, 25, 26, 27, 28, 29, 30, 31, 32, 33, 34, 35, 36, 37, 38, 39, 40, 41, 42, 43, 44, 45, 46, 47, 48] rfl (by decide +kernel)) (goodIn_in (in_z_X12_readCompared_X12) gd_X12))
set_option maxHeartbeats 4000000 in
set_option maxRecDepth 100000 in
theorem z_X12_readCompared (l : Launch) (dC : Nat → ClassId) (dI : Nat → Nat → Nat) (sz : Nat) (Ad0 : Nat) (Fs0 : List Value) (k_Fs0 : fh Fs0 150 [(80, .int 0), (79, .int 0), (83, .int 0), (91, .int 120)])  : Met l yX12_readCompared w_z_X12_readCompared ({ frames := 7, cells := 0, slots := 0, locals := 154 }) (va_Pc [.ref Ad0] (fun U => U.heap.size = sz ∧ Wd dC dI [] (fun _ => True) [(Ad0, .inr (15, Fs0))] U)) (va_Qi (fun (r : Int32) (u : List Value) => (r = 120 ∧ ow Fs0 (u) 150 [84, 83] [(84, .int 0), (83, .int 1), (80, .int 0), (79, .int 0), (80, .int 0), (79, .int 0), (91, .int 120), (80, .int 0), (79, .int 0), (91, .int 120), (80, .int 0), (79, .int 0), (91, .int 120), (80, .int 0), (79, .int 0), (91, .int 120), (80, .int 0), (79, .int 0), (91, .int 120), (80, .int 0), (79, .int 0), (91, .int 120)])) (fun (u : List Value) t => Wd dC dI [] (va_A [(Ad0, .inr (15, Fs0))] sz) [(Ad0, .inr (15, (u)))] t) (va_A [(Ad0, .inr (15, Fs0))] sz))  0 0 (va_A [(Ad0, .inr (15, Fs0))] sz) := by
  refine Met.ofW (cc := cX12_readCompared) (maxL := 4) (ret := (some .int)) (by decide) rfl ?_
  intro p e s m args below meth c s₁ B hml hv
  obtain ⟨rfl, hsz, hP, hK, hD0⟩ := hv
  have hx := B.exec
  have hb := B.bytes
  have hr := B.returns
  have hts := atoms_spec (ws := w_z_X12_readCompared) B.pre
  have hown : s.vm.findClass RX12 = some m.cls := findClass_of_methodNamed B.named
  have hlocks := B.notSynchronized
  subst hsz
  have hD := hD0.self (sz := s.heap.size)
  generalize hAe : va_A [(Ad0, .inr (15, Fs0))] s.heap.size = A at hD ⊢
  have hA : ∀ q : Nat, s.heap.size ≤ q → A q := fun q h => by rw [← hAe]; exact Or.inr h
  have hS : va_S A s.heap s.heap [] := va_S.rf
  have hl := lv_entry ([.ref Ad0]) (n := 4) (Nat.le_of_ble_eq_true rfl)
  rw [lg_entry_eq]
  generalize (lg_sl ([.ref Ad0]) ++ List.replicate (4 - (lg_sl ([.ref Ad0])).length) Slot.unset).toArray = ls at hl ⊢
  have hl : lv_has ls 4 [(0, .ref Ad0)] := hl
  have o_Fs0 := ow_0 k_Fs0
  refine lv_aload_n hx hb dX12_readCompared_0 rfl (lv_at hl 0 rfl) ?_
  have hPc := hP.sub (ws' := [(Ad0, .inr (15, Fs0))]) [0] rfl
  have hDc := hD.sub (ws' := [(Ad0, .inr (15, Fs0))]) [0] (by decide) rfl
  have hKc := hK.sub (tys' := []) [] rfl
  have hFc := va_free (wc := [(Ad0, .inr (15, Fs0))]) hD hS hA [0] rfl
  refine va_calli (va_runV (As := []) (rest := []) ⟨hx, hb, hml, hown, hts⟩ (z_X12_readSum l dC dI s.heap.size Ad0 Fs0 (fh_sub o_Fs0.2 [0, 1, 2, 3] rfl) ) (cwV 0 hts g_z_X12_readCompared_z_X12_readSum_704 rfl rfl rfl (by decide +kernel) ⟨Nat.le_of_ble_eq_true rfl, Nat.le_of_ble_eq_true rfl⟩) ⟨fun a U g mk q => by obtain ⟨q0, q1, qP, qK, qD⟩ := q; exact ⟨q0, q1, qP, va_K.moved (u := U) (U := U.calling g mk a) (Vm.Alike.refl U.vm) qK, qD⟩, va_recv hK hP (ci := 15) (q0 := 0) rfl rfl, fun U hU hW => ⟨rfl, by rw [hU], by rw [hU]; exact hPc, va_K.moved hW.alike hKc, hDc.weaken (fun _ _ _ _ => trivial)⟩⟩ rfl rfl hl.1 rfl (lv_room (Nat.le_of_ble_eq_true rfl)) dX12_readCompared_1 ⟨Nat.le_of_ble_eq_true rfl, Nat.le_of_ble_eq_true rfl⟩) hS (fun q _ h => hFc q h) hFc (fun r101 u t H1 locs ht hvm hw hB hz1 hk1 hS => ?_)
  obtain ⟨s102, rfl⟩ : ∃ z, z = u := ⟨_, rfl⟩
  obtain ⟨hP1, hK1, hD1⟩ := hB
  rw [ht] at hP1
  try dsimp only at hw
  obtain ⟨hP, hD⟩ := va_join (wr := []) (w1 := [(Ad0, .inr (15, s102))]) hP hD [0] [] rfl rfl (by decide) (by decide) hk1 hFc hP1 hD1
  have hK := hK.sub (tys' := []) [] rfl
  generalize H1 = H at hP hS ⊢
  have hP : va_P (dC, dI) vwCl [(Ad0, .inr (15, s102))] H := hP
  have hD : va_D A [(Ad0, .inr (15, s102))] := hD
  obtain ⟨er103, o_s102⟩ := hw
  subst er103
  have o_s102 := ow_on o_Fs0 o_s102 (l' := [(84, .int 0), (83, .int 1), (80, .int 0), (79, .int 0), (80, .int 0), (79, .int 0), (91, .int 120), (80, .int 0), (79, .int 0), (91, .int 120), (80, .int 0), (79, .int 0), (91, .int 120), (80, .int 0), (79, .int 0), (91, .int 120), (80, .int 0), (79, .int 0), (91, .int 120), (80, .int 0), (79, .int 0), (91, .int 120)]) (w' := [84, 83]) rfl rfl
  refine lv_istore_n (lv' := [(1, .int 120), (0, .ref Ad0)]) hx hb dX12_readCompared_4 rfl hl (by decide) rfl (fun ls hl => ?_)
  refine lv_aload_n hx hb dX12_readCompared_5 rfl (lv_at hl 1 rfl) ?_
  refine va_get (D := (dC, dI)) (ci := 15) (v := .int 1) (C := RX12) (T := TX12) (N := 150) hx hb hts (in_z_X12_readCompared_X12) hown hK hP 0 rfl rfl 83 (by decide) (hts (.fieldLink RX12 625 "HeapWorksModel" "stop" "I") (by decide +kernel)) (fun _ h9 => h9) (ow_at o_s102 1 rfl) dX12_readCompared_6 ?_
  refine lv_if_le (tgt := 14) hx hb dX12_readCompared_9 (by decide) (fun c104 => absurd c104 (by decide)) (fun c104 => ?_)
  refine lv_iload_n hx hb dX12_readCompared_12 rfl (lv_at hl 0 rfl) ?_
  have hP9 := hP.sub (ws' := [(Ad0, .inr (15, s102))]) [0] rfl
  have hD9 := hD.sub (ws' := [(Ad0, .inr (15, s102))]) [0] (by decide) rfl
  have hK9 := hK.sub (tys' := []) [] rfl
  exact W.iret (v := 120) hx hb hr (fun t ht hW => ⟨⟨120, s102, rfl, ⟨rfl, o_s102⟩, by rw [ht]; exact hP9, va_K.moved hW.alike hK9, hD9⟩, hS.F ht⟩) hS.2.2 dX12_readCompared_13

def l_z_X12_readNot : List Cond := [.fieldLink RX12 625 "HeapWorksModel" "stop" "I", .methodLink RX12 667 yX12_isKey, .instanceMethod yX12_isKey, .selects RX12 yX12_isKey yX12_isKey, .initialized RX12, .methodLink RX12 689 yX12_readCompared, .instanceMethod yX12_readCompared, .selects RX12 yX12_readCompared yX12_readCompared, .code yX12_isKey cX12_isKey 2 (some .boolean), .fieldLink RX12 644 "HeapWorksModel" "kind" "I", .code yX12_readCompared cX12_readCompared 4 (some .int), .methodLink RX12 704 yX12_readSum, .instanceMethod yX12_readSum, .selects RX12 yX12_readSum yX12_readSum, .code yX12_readSum cX12_readSum 3 (some .int), .methodLink RX12 714 yX12_readProduct, .instanceMethod yX12_readProduct, .selects RX12 yX12_readProduct yX12_readProduct, .code yX12_readProduct cX12_readProduct 3 (some .int), .methodLink RX12 721 yX12_readTurned, .instanceMethod yX12_readTurned, .selects RX12 yX12_readTurned yX12_readTurned, .code yX12_readTurned cX12_readTurned 2 (some .int), .constantLong RX12 719 (45), .methodLink RX12 657 yX12_isSign, .instanceMethod yX12_isSign, .selects RX12 yX12_isSign yX12_isSign, .methodLink RX12 730 yX12_readP, .instanceMethod yX12_readP, .selects RX12 yX12_readP yX12_readP, .code yX12_isSign cX12_isSign 3 (some .boolean), .code yX12_readP cX12_readP 4 (some .int), .methodLink RX12 733 yX12_readAtom, .instanceMethod yX12_readAtom, .selects RX12 yX12_readAtom yX12_readAtom, .code yX12_readAtom cX12_readAtom 5 (some .int), .methodLink RX12 751 yX12_keyAtHand, .instanceMethod yX12_keyAtHand, .selects RX12 yX12_keyAtHand yX12_keyAtHand, .constantLong RX12 754 (40), .methodLink RX12 710 yX12_isName, .instanceMethod yX12_isName, .selects RX12 yX12_isName yX12_isName, .methodLink RX12 664 yX12_wrong, .instanceMethod yX12_wrong, .selects RX12 yX12_wrong yX12_wrong, .fieldLink RX12 673 "HeapWorksModel" "nodeBase" "I", .code yX12_keyAtHand cX12_keyAtHand 1 (some .int), .code yX12_isName cX12_isName 1 (some .boolean), .code yX12_wrong cX12_wrong 1 none, .fieldLink RX12 637 "HeapWorksModel" "from0" "I", .methodLink RX12 653 yX12_fail, .instanceMethod yX12_fail, .selects RX12 yX12_fail yX12_fail, .code yX12_fail cX12_fail 3 none, .fieldLink RX12 628 "HeapWorksModel" "stopAt" "I"]
def w_z_X12_readNot : List Cond := .code yX12_readNot cX12_readNot 2 (some .int) :: (l_z_X12_readNot ++ (wsX120))
theorem in_z_X12_readNot_X12 : ∀ w ∈ wsX120, w ∈ w_z_X12_readNot := fun w h => List.mem_cons_of_mem _ (List.mem_append_right _ (h))
theorem g_z_X12_readNot_z_X12_isKey_667 : GoodIn w_z_X12_readNot (wsV RX12 667 RX12 yX12_isKey w_z_X12_isKey) := goodIn_app (goodIn_r (([.methodLink RX12 667 yX12_isKey, .instanceMethod yX12_isKey, .selects RX12 yX12_isKey yX12_isKey, .initialized RX12] : List Cond)) [2, 3, 4, 5] rfl (by decide +kernel)) (goodIn_ca (goodIn_r (.code yX12_isKey cX12_isKey 2 (some .boolean) :: l_z_X12_isKey) [9, 10] rfl (by decide +kernel)) (goodIn_in (in_z_X12_readNot_X12) gd_X12))
theorem g_z_X12_readNot_z_X12_readCompared_689 : GoodIn w_z_X12_readNot (wsV RX12 689 RX12 yX12_readCompared w_z_X12_readCompared) := goodIn_app (goodIn_r (([.methodLink RX12 689 yX12_readCompared, .instanceMethod yX12_readCompared, .selects RX12 yX12_readCompared yX12_readCompared, .initialized RX12] : List Cond)) [6, 7, 8, 5] rfl (by decide +kernel)) (goodIn_ca (goodIn_r (.code yX12_readCompared cX12_readCompared 4 (some .int) :: l_z_X12_readCompared) [11, 12, 13, 14, 5, 1, 15, 16, 17, 18, 19, 20, 21, 22, 23, 24, 25, 26, 27, 28, 29, 30, 31, 10, 32, 33, 34, 35, 36, 37, 38, 39, 40, 41, 42, 43, 44, 45, 46, 47, 48, 49, 50, 51, 52, 53, 54, 55, 56] rfl (by decide +kernel)) (goodIn_in (in_z_X12_readNot_X12) gd_X12))
set_option maxHeartbeats 4000000 in
set_option maxRecDepth 100000 in
theorem z_X12_readNot (l : Launch) (dC : Nat → ClassId) (dI : Nat → Nat → Nat) (sz : Nat) (Ad0 : Nat) (Fs0 : List Value) (k_Fs0 : fh Fs0 150 [(80, .int 0), (79, .int 0), (83, .int 0), (91, .int 120)])  : Met l yX12_readNot w_z_X12_readNot ({ frames := 8, cells := 0, slots := 0, locals := 177 }) (va_Pc [.ref Ad0] (fun U => U.heap.size = sz ∧ Wd dC dI [] (fun _ => True) [(Ad0, .inr (15, Fs0))] U)) (va_Qi (fun (r : Int32) (u : List Value) => (r = 120 ∧ ow Fs0 (u) 150 [84, 83] [(84, .int 0), (83, .int 1), (80, .int 0), (79, .int 0), (80, .int 0), (79, .int 0), (91, .int 120), (80, .int 0), (79, .int 0), (91, .int 120), (80, .int 0), (79, .int 0), (91, .int 120), (80, .int 0), (79, .int 0), (91, .int 120), (80, .int 0), (79, .int 0), (91, .int 120), (80, .int 0), (79, .int 0), (91, .int 120), (80, .int 0), (79, .int 0), (91, .int 120)])) (fun (u : List Value) t => Wd dC dI [] (va_A [(Ad0, .inr (15, Fs0))] sz) [(Ad0, .inr (15, (u)))] t) (va_A [(Ad0, .inr (15, Fs0))] sz))  0 0 (va_A [(Ad0, .inr (15, Fs0))] sz) := by
  refine Met.ofW (cc := cX12_readNot) (maxL := 2) (ret := (some .int)) (by decide) rfl ?_
  intro p e s m args below meth c s₁ B hml hv
  obtain ⟨rfl, hsz, hP, hK, hD0⟩ := hv
  have hx := B.exec
  have hb := B.bytes
  have hr := B.returns
  have hts := atoms_spec (ws := w_z_X12_readNot) B.pre
  have hown : s.vm.findClass RX12 = some m.cls := findClass_of_methodNamed B.named
  have hlocks := B.notSynchronized
  subst hsz
  have hD := hD0.self (sz := s.heap.size)
  generalize hAe : va_A [(Ad0, .inr (15, Fs0))] s.heap.size = A at hD ⊢
  have hA : ∀ q : Nat, s.heap.size ≤ q → A q := fun q h => by rw [← hAe]; exact Or.inr h
  have hS : va_S A s.heap s.heap [] := va_S.rf
  have hl := lv_entry ([.ref Ad0]) (n := 2) (Nat.le_of_ble_eq_true rfl)
  rw [lg_entry_eq]
  generalize (lg_sl ([.ref Ad0]) ++ List.replicate (2 - (lg_sl ([.ref Ad0])).length) Slot.unset).toArray = ls at hl ⊢
  have hl : lv_has ls 2 [(0, .ref Ad0)] := hl
  have o_Fs0 := ow_0 k_Fs0
  refine lv_aload_n hx hb dX12_readNot_0 rfl (lv_at hl 0 rfl) ?_
  refine va_get (D := (dC, dI)) (ci := 15) (v := .int 0) (C := RX12) (T := TX12) (N := 150) hx hb hts (in_z_X12_readNot_X12) hown hK hP 0 rfl rfl 83 (by decide) (hts (.fieldLink RX12 625 "HeapWorksModel" "stop" "I") (by decide +kernel)) (fun _ h9 => h9) (ow_at o_Fs0 2 rfl) dX12_readNot_1 ?_
  refine lv_if_gt (tgt := 16) hx hb dX12_readNot_4 (by decide) (fun c101 => absurd c101 (by decide)) (fun c101 => ?_)
  refine lv_aload_n hx hb dX12_readNot_7 rfl (lv_at hl 0 rfl) ?_
  refine lv_bipush (v := 7) hx hb dX12_readNot_8 (by decide) ?_
  have hPc := hP.sub (ws' := [(Ad0, .inr (15, Fs0))]) [0] rfl
  have hDc := hD.sub (ws' := [(Ad0, .inr (15, Fs0))]) [0] (by decide) rfl
  have hKc := hK.sub (tys' := []) [] rfl
  have hFc := va_free (wc := [(Ad0, .inr (15, Fs0))]) hD hS hA [0] rfl
  refine va_calli (va_runV (As := [.int 7]) (rest := []) ⟨hx, hb, hml, hown, hts⟩ (z_X12_isKey l dC dI s.heap.size Ad0 Fs0 (fh_sub o_Fs0.2 [0] rfl) ) (cwV 1 hts g_z_X12_readNot_z_X12_isKey_667 rfl rfl rfl (by decide +kernel) ⟨Nat.le_of_ble_eq_true rfl, Nat.le_of_ble_eq_true rfl⟩) ⟨fun a U g mk q => by obtain ⟨q0, q1, qP, qK, qD⟩ := q; exact ⟨q0, q1, qP, va_K.moved (u := U) (U := U.calling g mk a) (Vm.Alike.refl U.vm) qK, qD⟩, va_recv hK hP (ci := 15) (q0 := 0) rfl rfl, fun U hU hW => ⟨rfl, by rw [hU], by rw [hU]; exact hPc, va_K.moved hW.alike hKc, hDc.weaken (fun _ _ _ _ => trivial)⟩⟩ rfl rfl hl.1 rfl (lv_room (Nat.le_of_ble_eq_true rfl)) dX12_readNot_10 ⟨Nat.le_of_ble_eq_true rfl, Nat.le_of_ble_eq_true rfl⟩) hS (fun q _ h => hFc q h) hFc (fun r102 u t H1 locs ht hvm hw hB hz1 hk1 hS => ?_)
  obtain ⟨hP1, hK1, hD1⟩ := hB
  rw [ht] at hP1
  try dsimp only at hw
  obtain ⟨hP, hD⟩ := va_join (wr := []) (w1 := [(Ad0, .inr (15, Fs0))]) hP hD [0] [] rfl rfl (by decide) (by decide) hk1 hFc hP1 hD1
  have hK := hK.sub (tys' := []) [] rfl
  generalize H1 = H at hP hS ⊢
  have hP : va_P (dC, dI) vwCl [(Ad0, .inr (15, Fs0))] H := hP
  have hD : va_D A [(Ad0, .inr (15, Fs0))] := hD
  have er103 := hw
  subst er103
  refine lv_if_ne (tgt := 21) hx hb dX12_readNot_13 (by decide) (fun c104 => absurd c104 (by decide)) (fun c104 => ?_)
  refine lv_aload_n hx hb dX12_readNot_16 rfl (lv_at hl 0 rfl) ?_
  have hPc := hP.sub (ws' := [(Ad0, .inr (15, Fs0))]) [0] rfl
  have hDc := hD.sub (ws' := [(Ad0, .inr (15, Fs0))]) [0] (by decide) rfl
  have hKc := hK.sub (tys' := []) [] rfl
  have hFc := va_free (wc := [(Ad0, .inr (15, Fs0))]) hD hS hA [0] rfl
  refine va_calli (va_runV (As := []) (rest := []) ⟨hx, hb, hml, hown, hts⟩ (z_X12_readCompared l dC dI H.size Ad0 Fs0 (fh_sub o_Fs0.2 [0, 1, 2, 3] rfl) ) (cwV 0 hts g_z_X12_readNot_z_X12_readCompared_689 rfl rfl rfl (by decide +kernel) ⟨Nat.le_of_ble_eq_true rfl, Nat.le_of_ble_eq_true rfl⟩) ⟨fun a U g mk q => by obtain ⟨q0, q1, qP, qK, qD⟩ := q; exact ⟨q0, q1, qP, va_K.moved (u := U) (U := U.calling g mk a) (Vm.Alike.refl U.vm) qK, qD⟩, va_recv hK hP (ci := 15) (q0 := 0) rfl rfl, fun U hU hW => ⟨rfl, by rw [hU], by rw [hU]; exact hPc, va_K.moved hW.alike hKc, hDc.weaken (fun _ _ _ _ => trivial)⟩⟩ rfl rfl hl.1 rfl (lv_room (Nat.le_of_ble_eq_true rfl)) dX12_readNot_17 ⟨Nat.le_of_ble_eq_true rfl, Nat.le_of_ble_eq_true rfl⟩) hS (fun q _ h => hFc q h) hFc (fun r105 u t H1 locs ht hvm hw hB hz1 hk1 hS => ?_)
  obtain ⟨s106, rfl⟩ : ∃ z, z = u := ⟨_, rfl⟩
  obtain ⟨hP1, hK1, hD1⟩ := hB
  rw [ht] at hP1
  try dsimp only at hw
  obtain ⟨hP, hD⟩ := va_join (wr := []) (w1 := [(Ad0, .inr (15, s106))]) hP hD [0] [] rfl rfl (by decide) (by decide) hk1 hFc hP1 hD1
  have hK := hK.sub (tys' := []) [] rfl
  generalize H1 = H at hP hS ⊢
  have hP : va_P (dC, dI) vwCl [(Ad0, .inr (15, s106))] H := hP
  have hD : va_D A [(Ad0, .inr (15, s106))] := hD
  obtain ⟨er107, o_s106⟩ := hw
  subst er107
  have o_s106 := ow_on o_Fs0 o_s106 (l' := [(84, .int 0), (83, .int 1), (80, .int 0), (79, .int 0), (80, .int 0), (79, .int 0), (91, .int 120), (80, .int 0), (79, .int 0), (91, .int 120), (80, .int 0), (79, .int 0), (91, .int 120), (80, .int 0), (79, .int 0), (91, .int 120), (80, .int 0), (79, .int 0), (91, .int 120), (80, .int 0), (79, .int 0), (91, .int 120), (80, .int 0), (79, .int 0), (91, .int 120)]) (w' := [84, 83]) rfl rfl
  have hP9 := hP.sub (ws' := [(Ad0, .inr (15, s106))]) [0] rfl
  have hD9 := hD.sub (ws' := [(Ad0, .inr (15, s106))]) [0] (by decide) rfl
  have hK9 := hK.sub (tys' := []) [] rfl
  exact W.iret (v := 120) hx hb hr (fun t ht hW => ⟨⟨120, s106, rfl, ⟨rfl, o_s106⟩, by rw [ht]; exact hP9, va_K.moved hW.alike hK9, hD9⟩, hS.F ht⟩) hS.2.2 dX12_readNot_20

def l_z_X12_readAnd : List Cond := [.methodLink RX12 686 yX12_readNot, .instanceMethod yX12_readNot, .selects RX12 yX12_readNot yX12_readNot, .initialized RX12, .fieldLink RX12 625 "HeapWorksModel" "stop" "I", .code yX12_readNot cX12_readNot 2 (some .int), .methodLink RX12 667 yX12_isKey, .instanceMethod yX12_isKey, .selects RX12 yX12_isKey yX12_isKey, .methodLink RX12 689 yX12_readCompared, .instanceMethod yX12_readCompared, .selects RX12 yX12_readCompared yX12_readCompared, .code yX12_isKey cX12_isKey 2 (some .boolean), .fieldLink RX12 644 "HeapWorksModel" "kind" "I", .code yX12_readCompared cX12_readCompared 4 (some .int), .methodLink RX12 704 yX12_readSum, .instanceMethod yX12_readSum, .selects RX12 yX12_readSum yX12_readSum, .code yX12_readSum cX12_readSum 3 (some .int), .methodLink RX12 714 yX12_readProduct, .instanceMethod yX12_readProduct, .selects RX12 yX12_readProduct yX12_readProduct, .code yX12_readProduct cX12_readProduct 3 (some .int), .methodLink RX12 721 yX12_readTurned, .instanceMethod yX12_readTurned, .selects RX12 yX12_readTurned yX12_readTurned, .code yX12_readTurned cX12_readTurned 2 (some .int), .constantLong RX12 719 (45), .methodLink RX12 657 yX12_isSign, .instanceMethod yX12_isSign, .selects RX12 yX12_isSign yX12_isSign, .methodLink RX12 730 yX12_readP, .instanceMethod yX12_readP, .selects RX12 yX12_readP yX12_readP, .code yX12_isSign cX12_isSign 3 (some .boolean), .code yX12_readP cX12_readP 4 (some .int), .methodLink RX12 733 yX12_readAtom, .instanceMethod yX12_readAtom, .selects RX12 yX12_readAtom yX12_readAtom, .code yX12_readAtom cX12_readAtom 5 (some .int), .methodLink RX12 751 yX12_keyAtHand, .instanceMethod yX12_keyAtHand, .selects RX12 yX12_keyAtHand yX12_keyAtHand, .constantLong RX12 754 (40), .methodLink RX12 710 yX12_isName, .instanceMethod yX12_isName, .selects RX12 yX12_isName yX12_isName, .methodLink RX12 664 yX12_wrong, .instanceMethod yX12_wrong, .selects RX12 yX12_wrong yX12_wrong, .fieldLink RX12 673 "HeapWorksModel" "nodeBase" "I", .code yX12_keyAtHand cX12_keyAtHand 1 (some .int), .code yX12_isName cX12_isName 1 (some .boolean), .code yX12_wrong cX12_wrong 1 none, .fieldLink RX12 637 "HeapWorksModel" "from0" "I", .methodLink RX12 653 yX12_fail, .instanceMethod yX12_fail, .selects RX12 yX12_fail yX12_fail, .code yX12_fail cX12_fail 3 none, .fieldLink RX12 628 "HeapWorksModel" "stopAt" "I"]
def w_z_X12_readAnd : List Cond := .code yX12_readAnd cX12_readAnd 3 (some .int) :: (l_z_X12_readAnd ++ (wsX120))
theorem in_z_X12_readAnd_X12 : ∀ w ∈ wsX120, w ∈ w_z_X12_readAnd := fun w h => List.mem_cons_of_mem _ (List.mem_append_right _ (h))
theorem g_z_X12_readAnd_z_X12_readNot_686 : GoodIn w_z_X12_readAnd (wsV RX12 686 RX12 yX12_readNot w_z_X12_readNot) := goodIn_app (goodIn_r (([.methodLink RX12 686 yX12_readNot, .instanceMethod yX12_readNot, .selects RX12 yX12_readNot yX12_readNot, .initialized RX12] : List Cond)) [1, 2, 3, 4] rfl (by decide +kernel)) (goodIn_ca (goodIn_r (.code yX12_readNot cX12_readNot 2 (some .int) :: l_z_X12_readNot) [6, 5, 7, 8, 9, 4, 10, 11, 12, 13, 14, 15, 16, 17, 18, 19, 20, 21, 22, 23, 24, 25, 26, 27, 28, 29, 30, 31, 32, 33, 34, 35, 36, 37, 38, 39, 40, 41, 42, 43, 44, 45, 46, 47, 48, 49, 50, 51, 52, 53, 54, 55, 56, 57, 58, 59, 60] rfl (by decide +kernel)) (goodIn_in (in_z_X12_readAnd_X12) gd_X12))
set_option maxHeartbeats 4000000 in
set_option maxRecDepth 100000 in
theorem z_X12_readAnd (l : Launch) (dC : Nat → ClassId) (dI : Nat → Nat → Nat) (sz : Nat) (Ad0 : Nat) (Fs0 : List Value) (k_Fs0 : fh Fs0 150 [(80, .int 0), (79, .int 0), (83, .int 0), (91, .int 120)])  : Met l yX12_readAnd w_z_X12_readAnd ({ frames := 9, cells := 0, slots := 0, locals := 198 }) (va_Pc [.ref Ad0] (fun U => U.heap.size = sz ∧ Wd dC dI [] (fun _ => True) [(Ad0, .inr (15, Fs0))] U)) (va_Qi (fun (r : Int32) (u : List Value) => (r = 120 ∧ ow Fs0 (u) 150 [84, 83] [(84, .int 0), (83, .int 1), (80, .int 0), (79, .int 0), (80, .int 0), (79, .int 0), (91, .int 120), (80, .int 0), (79, .int 0), (91, .int 120), (80, .int 0), (79, .int 0), (91, .int 120), (80, .int 0), (79, .int 0), (91, .int 120), (80, .int 0), (79, .int 0), (91, .int 120), (80, .int 0), (79, .int 0), (91, .int 120), (80, .int 0), (79, .int 0), (91, .int 120), (80, .int 0), (79, .int 0), (91, .int 120)])) (fun (u : List Value) t => Wd dC dI [] (va_A [(Ad0, .inr (15, Fs0))] sz) [(Ad0, .inr (15, (u)))] t) (va_A [(Ad0, .inr (15, Fs0))] sz))  0 0 (va_A [(Ad0, .inr (15, Fs0))] sz) := by
  refine Met.ofW (cc := cX12_readAnd) (maxL := 3) (ret := (some .int)) (by decide) rfl ?_
  intro p e s m args below meth c s₁ B hml hv
  obtain ⟨rfl, hsz, hP, hK, hD0⟩ := hv
  have hx := B.exec
  have hb := B.bytes
  have hr := B.returns
  have hts := atoms_spec (ws := w_z_X12_readAnd) B.pre
  have hown : s.vm.findClass RX12 = some m.cls := findClass_of_methodNamed B.named
  have hlocks := B.notSynchronized
  subst hsz
  have hD := hD0.self (sz := s.heap.size)
  generalize hAe : va_A [(Ad0, .inr (15, Fs0))] s.heap.size = A at hD ⊢
  have hA : ∀ q : Nat, s.heap.size ≤ q → A q := fun q h => by rw [← hAe]; exact Or.inr h
  have hS : va_S A s.heap s.heap [] := va_S.rf
  have hl := lv_entry ([.ref Ad0]) (n := 3) (Nat.le_of_ble_eq_true rfl)
  rw [lg_entry_eq]
  generalize (lg_sl ([.ref Ad0]) ++ List.replicate (3 - (lg_sl ([.ref Ad0])).length) Slot.unset).toArray = ls at hl ⊢
  have hl : lv_has ls 3 [(0, .ref Ad0)] := hl
  have o_Fs0 := ow_0 k_Fs0
  refine lv_aload_n hx hb dX12_readAnd_0 rfl (lv_at hl 0 rfl) ?_
  have hPc := hP.sub (ws' := [(Ad0, .inr (15, Fs0))]) [0] rfl
  have hDc := hD.sub (ws' := [(Ad0, .inr (15, Fs0))]) [0] (by decide) rfl
  have hKc := hK.sub (tys' := []) [] rfl
  have hFc := va_free (wc := [(Ad0, .inr (15, Fs0))]) hD hS hA [0] rfl
  refine va_calli (va_runV (As := []) (rest := []) ⟨hx, hb, hml, hown, hts⟩ (z_X12_readNot l dC dI s.heap.size Ad0 Fs0 (fh_sub o_Fs0.2 [0, 1, 2, 3] rfl) ) (cwV 0 hts g_z_X12_readAnd_z_X12_readNot_686 rfl rfl rfl (by decide +kernel) ⟨Nat.le_of_ble_eq_true rfl, Nat.le_of_ble_eq_true rfl⟩) ⟨fun a U g mk q => by obtain ⟨q0, q1, qP, qK, qD⟩ := q; exact ⟨q0, q1, qP, va_K.moved (u := U) (U := U.calling g mk a) (Vm.Alike.refl U.vm) qK, qD⟩, va_recv hK hP (ci := 15) (q0 := 0) rfl rfl, fun U hU hW => ⟨rfl, by rw [hU], by rw [hU]; exact hPc, va_K.moved hW.alike hKc, hDc.weaken (fun _ _ _ _ => trivial)⟩⟩ rfl rfl hl.1 rfl (lv_room (Nat.le_of_ble_eq_true rfl)) dX12_readAnd_1 ⟨Nat.le_of_ble_eq_true rfl, Nat.le_of_ble_eq_true rfl⟩) hS (fun q _ h => hFc q h) hFc (fun r101 u t H1 locs ht hvm hw hB hz1 hk1 hS => ?_)
  obtain ⟨s102, rfl⟩ : ∃ z, z = u := ⟨_, rfl⟩
  obtain ⟨hP1, hK1, hD1⟩ := hB
  rw [ht] at hP1
  try dsimp only at hw
  obtain ⟨hP, hD⟩ := va_join (wr := []) (w1 := [(Ad0, .inr (15, s102))]) hP hD [0] [] rfl rfl (by decide) (by decide) hk1 hFc hP1 hD1
  have hK := hK.sub (tys' := []) [] rfl
  generalize H1 = H at hP hS ⊢
  have hP : va_P (dC, dI) vwCl [(Ad0, .inr (15, s102))] H := hP
  have hD : va_D A [(Ad0, .inr (15, s102))] := hD
  obtain ⟨er103, o_s102⟩ := hw
  subst er103
  have o_s102 := ow_on o_Fs0 o_s102 (l' := [(84, .int 0), (83, .int 1), (80, .int 0), (79, .int 0), (80, .int 0), (79, .int 0), (91, .int 120), (80, .int 0), (79, .int 0), (91, .int 120), (80, .int 0), (79, .int 0), (91, .int 120), (80, .int 0), (79, .int 0), (91, .int 120), (80, .int 0), (79, .int 0), (91, .int 120), (80, .int 0), (79, .int 0), (91, .int 120), (80, .int 0), (79, .int 0), (91, .int 120), (80, .int 0), (79, .int 0), (91, .int 120)]) (w' := [84, 83]) rfl rfl
  refine lv_istore_n (lv' := [(1, .int 120), (0, .ref Ad0)]) hx hb dX12_readAnd_4 rfl hl (by decide) rfl (fun ls hl => ?_)
  refine lv_aload_n hx hb dX12_readAnd_5 rfl (lv_at hl 1 rfl) ?_
  refine va_get (D := (dC, dI)) (ci := 15) (v := .int 1) (C := RX12) (T := TX12) (N := 150) hx hb hts (in_z_X12_readAnd_X12) hown hK hP 0 rfl rfl 83 (by decide) (hts (.fieldLink RX12 625 "HeapWorksModel" "stop" "I") (by decide +kernel)) (fun _ h9 => h9) (ow_at o_s102 1 rfl) dX12_readAnd_6 ?_
  refine lv_if_ne (tgt := 52) hx hb dX12_readAnd_9 (by decide) (fun c104 => ?_) (fun c104 => absurd c104 (by decide))
  refine lv_iload_n hx hb dX12_readAnd_52 rfl (lv_at hl 0 rfl) ?_
  have hP9 := hP.sub (ws' := [(Ad0, .inr (15, s102))]) [0] rfl
  have hD9 := hD.sub (ws' := [(Ad0, .inr (15, s102))]) [0] (by decide) rfl
  have hK9 := hK.sub (tys' := []) [] rfl
  exact W.iret (v := 120) hx hb hr (fun t ht hW => ⟨⟨120, s102, rfl, ⟨rfl, o_s102⟩, by rw [ht]; exact hP9, va_K.moved hW.alike hK9, hD9⟩, hS.F ht⟩) hS.2.2 dX12_readAnd_53

def l_z_X12_readE : List Cond := [.methodLink RX12 679 yX12_readAnd, .instanceMethod yX12_readAnd, .selects RX12 yX12_readAnd yX12_readAnd, .initialized RX12, .fieldLink RX12 625 "HeapWorksModel" "stop" "I", .code yX12_readAnd cX12_readAnd 3 (some .int), .methodLink RX12 686 yX12_readNot, .instanceMethod yX12_readNot, .selects RX12 yX12_readNot yX12_readNot, .code yX12_readNot cX12_readNot 2 (some .int), .methodLink RX12 667 yX12_isKey, .instanceMethod yX12_isKey, .selects RX12 yX12_isKey yX12_isKey, .methodLink RX12 689 yX12_readCompared, .instanceMethod yX12_readCompared, .selects RX12 yX12_readCompared yX12_readCompared, .code yX12_isKey cX12_isKey 2 (some .boolean), .fieldLink RX12 644 "HeapWorksModel" "kind" "I", .code yX12_readCompared cX12_readCompared 4 (some .int), .methodLink RX12 704 yX12_readSum, .instanceMethod yX12_readSum, .selects RX12 yX12_readSum yX12_readSum, .code yX12_readSum cX12_readSum 3 (some .int), .methodLink RX12 714 yX12_readProduct, .instanceMethod yX12_readProduct, .selects RX12 yX12_readProduct yX12_readProduct, .code yX12_readProduct cX12_readProduct 3 (some .int), .methodLink RX12 721 yX12_readTurned, .instanceMethod yX12_readTurned, .selects RX12 yX12_readTurned yX12_readTurned, .code yX12_readTurned cX12_readTurned 2 (some .int), .constantLong RX12 719 (45), .methodLink RX12 657 yX12_isSign, .instanceMethod yX12_isSign, .selects RX12 yX12_isSign yX12_isSign, .methodLink RX12 730 yX12_readP, .instanceMethod yX12_readP, .selects RX12 yX12_readP yX12_readP, .code yX12_isSign cX12_isSign 3 (some .boolean), .code yX12_readP cX12_readP 4 (some .int), .methodLink RX12 733 yX12_readAtom, .instanceMethod yX12_readAtom, .selects RX12 yX12_readAtom yX12_readAtom, .code yX12_readAtom cX12_readAtom 5 (some .int), .methodLink RX12 751 yX12_keyAtHand, .instanceMethod yX12_keyAtHand, .selects RX12 yX12_keyAtHand yX12_keyAtHand, .constantLong RX12 754 (40), .methodLink RX12 710 yX12_isName, .instanceMethod yX12_isName, .selects RX12 yX12_isName yX12_isName, .methodLink RX12 664 yX12_wrong, .instanceMethod yX12_wrong, .selects RX12 yX12_wrong yX12_wrong, .fieldLink RX12 673 "HeapWorksModel" "nodeBase" "I", .code yX12_keyAtHand cX12_keyAtHand 1 (some .int), .code yX12_isName cX12_isName 1 (some .boolean), .code yX12_wrong cX12_wrong 1 none, .fieldLink RX12 637 "HeapWorksModel" "from0" "I", .methodLink RX12 653 yX12_fail, .instanceMethod yX12_fail, .selects RX12 yX12_fail yX12_fail, .code yX12_fail cX12_fail 3 none, .fieldLink RX12 628 "HeapWorksModel" "stopAt" "I"]
def w_z_X12_readE : List Cond := .code yX12_readE cX12_readE 3 (some .int) :: (l_z_X12_readE ++ (wsX120))
theorem in_z_X12_readE_X12 : ∀ w ∈ wsX120, w ∈ w_z_X12_readE := fun w h => List.mem_cons_of_mem _ (List.mem_append_right _ (h))
theorem g_z_X12_readE_z_X12_readAnd_679 : GoodIn w_z_X12_readE (wsV RX12 679 RX12 yX12_readAnd w_z_X12_readAnd) := goodIn_app (goodIn_r (([.methodLink RX12 679 yX12_readAnd, .instanceMethod yX12_readAnd, .selects RX12 yX12_readAnd yX12_readAnd, .initialized RX12] : List Cond)) [1, 2, 3, 4] rfl (by decide +kernel)) (goodIn_ca (goodIn_r (.code yX12_readAnd cX12_readAnd 3 (some .int) :: l_z_X12_readAnd) [6, 7, 8, 9, 4, 5, 10, 11, 12, 13, 14, 15, 16, 17, 18, 19, 20, 21, 22, 23, 24, 25, 26, 27, 28, 29, 30, 31, 32, 33, 34, 35, 36, 37, 38, 39, 40, 41, 42, 43, 44, 45, 46, 47, 48, 49, 50, 51, 52, 53, 54, 55, 56, 57, 58, 59, 60, 61, 62, 63, 64] rfl (by decide +kernel)) (goodIn_in (in_z_X12_readE_X12) gd_X12))
set_option maxHeartbeats 4000000 in
set_option maxRecDepth 100000 in
theorem z_X12_readE (l : Launch) (dC : Nat → ClassId) (dI : Nat → Nat → Nat) (sz : Nat) (Ad0 : Nat) (Fs0 : List Value) (k_Fs0 : fh Fs0 150 [(80, .int 0), (79, .int 0), (83, .int 0), (91, .int 120)])  : Met l yX12_readE w_z_X12_readE ({ frames := 10, cells := 0, slots := 0, locals := 220 }) (va_Pc [.ref Ad0] (fun U => U.heap.size = sz ∧ Wd dC dI [] (fun _ => True) [(Ad0, .inr (15, Fs0))] U)) (va_Qi (fun (r : Int32) (u : List Value) => (r = 120 ∧ ow Fs0 (u) 150 [84, 83] [(84, .int 0), (83, .int 1), (80, .int 0), (79, .int 0), (80, .int 0), (79, .int 0), (91, .int 120), (80, .int 0), (79, .int 0), (91, .int 120), (80, .int 0), (79, .int 0), (91, .int 120), (80, .int 0), (79, .int 0), (91, .int 120), (80, .int 0), (79, .int 0), (91, .int 120), (80, .int 0), (79, .int 0), (91, .int 120), (80, .int 0), (79, .int 0), (91, .int 120), (80, .int 0), (79, .int 0), (91, .int 120), (80, .int 0), (79, .int 0), (91, .int 120)])) (fun (u : List Value) t => Wd dC dI [] (va_A [(Ad0, .inr (15, Fs0))] sz) [(Ad0, .inr (15, (u)))] t) (va_A [(Ad0, .inr (15, Fs0))] sz))  0 0 (va_A [(Ad0, .inr (15, Fs0))] sz) := by
  refine Met.ofW (cc := cX12_readE) (maxL := 3) (ret := (some .int)) (by decide) rfl ?_
  intro p e s m args below meth c s₁ B hml hv
  obtain ⟨rfl, hsz, hP, hK, hD0⟩ := hv
  have hx := B.exec
  have hb := B.bytes
  have hr := B.returns
  have hts := atoms_spec (ws := w_z_X12_readE) B.pre
  have hown : s.vm.findClass RX12 = some m.cls := findClass_of_methodNamed B.named
  have hlocks := B.notSynchronized
  subst hsz
  have hD := hD0.self (sz := s.heap.size)
  generalize hAe : va_A [(Ad0, .inr (15, Fs0))] s.heap.size = A at hD ⊢
  have hA : ∀ q : Nat, s.heap.size ≤ q → A q := fun q h => by rw [← hAe]; exact Or.inr h
  have hS : va_S A s.heap s.heap [] := va_S.rf
  have hl := lv_entry ([.ref Ad0]) (n := 3) (Nat.le_of_ble_eq_true rfl)
  rw [lg_entry_eq]
  generalize (lg_sl ([.ref Ad0]) ++ List.replicate (3 - (lg_sl ([.ref Ad0])).length) Slot.unset).toArray = ls at hl ⊢
  have hl : lv_has ls 3 [(0, .ref Ad0)] := hl
  have o_Fs0 := ow_0 k_Fs0
  refine lv_aload_n hx hb dX12_readE_0 rfl (lv_at hl 0 rfl) ?_
  have hPc := hP.sub (ws' := [(Ad0, .inr (15, Fs0))]) [0] rfl
  have hDc := hD.sub (ws' := [(Ad0, .inr (15, Fs0))]) [0] (by decide) rfl
  have hKc := hK.sub (tys' := []) [] rfl
  have hFc := va_free (wc := [(Ad0, .inr (15, Fs0))]) hD hS hA [0] rfl
  refine va_calli (va_runV (As := []) (rest := []) ⟨hx, hb, hml, hown, hts⟩ (z_X12_readAnd l dC dI s.heap.size Ad0 Fs0 (fh_sub o_Fs0.2 [0, 1, 2, 3] rfl) ) (cwV 0 hts g_z_X12_readE_z_X12_readAnd_679 rfl rfl rfl (by decide +kernel) ⟨Nat.le_of_ble_eq_true rfl, Nat.le_of_ble_eq_true rfl⟩) ⟨fun a U g mk q => by obtain ⟨q0, q1, qP, qK, qD⟩ := q; exact ⟨q0, q1, qP, va_K.moved (u := U) (U := U.calling g mk a) (Vm.Alike.refl U.vm) qK, qD⟩, va_recv hK hP (ci := 15) (q0 := 0) rfl rfl, fun U hU hW => ⟨rfl, by rw [hU], by rw [hU]; exact hPc, va_K.moved hW.alike hKc, hDc.weaken (fun _ _ _ _ => trivial)⟩⟩ rfl rfl hl.1 rfl (lv_room (Nat.le_of_ble_eq_true rfl)) dX12_readE_1 ⟨Nat.le_of_ble_eq_true rfl, Nat.le_of_ble_eq_true rfl⟩) hS (fun q _ h => hFc q h) hFc (fun r101 u t H1 locs ht hvm hw hB hz1 hk1 hS => ?_)
  obtain ⟨s102, rfl⟩ : ∃ z, z = u := ⟨_, rfl⟩
  obtain ⟨hP1, hK1, hD1⟩ := hB
  rw [ht] at hP1
  try dsimp only at hw
  obtain ⟨hP, hD⟩ := va_join (wr := []) (w1 := [(Ad0, .inr (15, s102))]) hP hD [0] [] rfl rfl (by decide) (by decide) hk1 hFc hP1 hD1
  have hK := hK.sub (tys' := []) [] rfl
  generalize H1 = H at hP hS ⊢
  have hP : va_P (dC, dI) vwCl [(Ad0, .inr (15, s102))] H := hP
  have hD : va_D A [(Ad0, .inr (15, s102))] := hD
  obtain ⟨er103, o_s102⟩ := hw
  subst er103
  have o_s102 := ow_on o_Fs0 o_s102 (l' := [(84, .int 0), (83, .int 1), (80, .int 0), (79, .int 0), (80, .int 0), (79, .int 0), (91, .int 120), (80, .int 0), (79, .int 0), (91, .int 120), (80, .int 0), (79, .int 0), (91, .int 120), (80, .int 0), (79, .int 0), (91, .int 120), (80, .int 0), (79, .int 0), (91, .int 120), (80, .int 0), (79, .int 0), (91, .int 120), (80, .int 0), (79, .int 0), (91, .int 120), (80, .int 0), (79, .int 0), (91, .int 120), (80, .int 0), (79, .int 0), (91, .int 120)]) (w' := [84, 83]) rfl rfl
  refine lv_istore_n (lv' := [(1, .int 120), (0, .ref Ad0)]) hx hb dX12_readE_4 rfl hl (by decide) rfl (fun ls hl => ?_)
  refine lv_aload_n hx hb dX12_readE_5 rfl (lv_at hl 1 rfl) ?_
  refine va_get (D := (dC, dI)) (ci := 15) (v := .int 1) (C := RX12) (T := TX12) (N := 150) hx hb hts (in_z_X12_readE_X12) hown hK hP 0 rfl rfl 83 (by decide) (hts (.fieldLink RX12 625 "HeapWorksModel" "stop" "I") (by decide +kernel)) (fun _ h9 => h9) (ow_at o_s102 1 rfl) dX12_readE_6 ?_
  refine lv_if_ne (tgt := 54) hx hb dX12_readE_9 (by decide) (fun c104 => ?_) (fun c104 => absurd c104 (by decide))
  refine lv_iload_n hx hb dX12_readE_54 rfl (lv_at hl 0 rfl) ?_
  have hP9 := hP.sub (ws' := [(Ad0, .inr (15, s102))]) [0] rfl
  have hD9 := hD.sub (ws' := [(Ad0, .inr (15, s102))]) [0] (by decide) rfl
  have hK9 := hK.sub (tys' := []) [] rfl
  exact W.iret (v := 120) hx hb hr (fun t ht hW => ⟨⟨120, s102, rfl, ⟨rfl, o_s102⟩, by rw [ht]; exact hP9, va_K.moved hW.alike hK9, hD9⟩, hS.F ht⟩) hS.2.2 dX12_readE_55

def l_z_X12_endText : List Cond := [.fieldLink RX12 625 "HeapWorksModel" "stop" "I", .fieldLink RX12 776 "HeapWorksModel" "fault" "I", .fieldLink RX12 628 "HeapWorksModel" "stopAt" "I", .fieldLink RX12 268 "HeapWorksModel" "faultAt" "I"]
def w_z_X12_endText : List Cond := .code yX12_endText cX12_endText 1 none :: (l_z_X12_endText ++ (wsX120))
theorem in_z_X12_endText_X12 : ∀ w ∈ wsX120, w ∈ w_z_X12_endText := fun w h => List.mem_cons_of_mem _ (List.mem_append_right _ (h))
set_option maxHeartbeats 4000000 in
set_option maxRecDepth 100000 in
theorem z_X12_endText (l : Launch) (dC : Nat → ClassId) (dI : Nat → Nat → Nat) (sz : Nat) (Ad0 : Nat) (Fs0 : List Value) (k_Fs0 : fh Fs0 150 [(84, .int 0), (83, .int 1)])  : Met l yX12_endText w_z_X12_endText ({ frames := 0, cells := 0, slots := 0, locals := 0 }) (va_Pc [.ref Ad0] (fun U => U.heap.size = sz ∧ Wd dC dI [] (fun _ => True) [(Ad0, .inr (15, Fs0))] U)) (va_Qv (fun (u : List Value) => ow Fs0 (u) 150 [82, 81] [(82, .int 0), (81, .int 1), (84, .int 0), (83, .int 1)]) (fun (u : List Value) t => Wd dC dI [] (va_A [(Ad0, .inr (15, Fs0))] sz) [(Ad0, .inr (15, (u)))] t) (va_A [(Ad0, .inr (15, Fs0))] sz))  0 0 (va_A [(Ad0, .inr (15, Fs0))] sz) := by
  refine Met.ofW (cc := cX12_endText) (maxL := 1) (ret := none) (by decide) rfl ?_
  intro p e s m args below meth c s₁ B hml hv
  obtain ⟨rfl, hsz, hP, hK, hD0⟩ := hv
  have hx := B.exec
  have hb := B.bytes
  have hr := B.returns
  have hts := atoms_spec (ws := w_z_X12_endText) B.pre
  have hown : s.vm.findClass RX12 = some m.cls := findClass_of_methodNamed B.named
  have hlocks := B.notSynchronized
  subst hsz
  have hD := hD0.self (sz := s.heap.size)
  generalize hAe : va_A [(Ad0, .inr (15, Fs0))] s.heap.size = A at hD ⊢
  have hA : ∀ q : Nat, s.heap.size ≤ q → A q := fun q h => by rw [← hAe]; exact Or.inr h
  have hS : va_S A s.heap s.heap [] := va_S.rf
  have hl := lv_entry ([.ref Ad0]) (n := 1) (Nat.le_of_ble_eq_true rfl)
  rw [lg_entry_eq]
  generalize (lg_sl ([.ref Ad0]) ++ List.replicate (1 - (lg_sl ([.ref Ad0])).length) Slot.unset).toArray = ls at hl ⊢
  have hl : lv_has ls 1 [(0, .ref Ad0)] := hl
  have o_Fs0 := ow_0 k_Fs0
  refine lv_aload_n hx hb dX12_endText_0 rfl (lv_at hl 0 rfl) ?_
  refine va_get (D := (dC, dI)) (ci := 15) (v := .int 1) (C := RX12) (T := TX12) (N := 150) hx hb hts (in_z_X12_endText_X12) hown hK hP 0 rfl rfl 83 (by decide) (hts (.fieldLink RX12 625 "HeapWorksModel" "stop" "I") (by decide +kernel)) (fun _ h9 => h9) (ow_at o_Fs0 1 rfl) dX12_endText_1 ?_
  refine lv_if_ne (tgt := 18) hx hb dX12_endText_4 (by decide) (fun c101 => ?_) (fun c101 => absurd c101 (by decide))
  refine lv_aload_n hx hb dX12_endText_18 rfl (lv_at hl 0 rfl) ?_
  refine lv_aload_n hx hb dX12_endText_19 rfl (lv_at hl 0 rfl) ?_
  refine va_get (D := (dC, dI)) (ci := 15) (v := .int 1) (C := RX12) (T := TX12) (N := 150) hx hb hts (in_z_X12_endText_X12) hown hK hP 0 rfl rfl 83 (by decide) (hts (.fieldLink RX12 625 "HeapWorksModel" "stop" "I") (by decide +kernel)) (fun _ h9 => h9) (ow_at o_Fs0 1 rfl) dX12_endText_20 ?_
  refine va_put (D := (dC, dI)) (ci := 15) (v := .int 1) (ty := .int) (C := RX12) (T := TX12) (N := 150) hx hb hts (in_z_X12_endText_X12) tyX12 tyX12_ok nmX12 hown hK hP hD hS 0 rfl rfl 81 (by decide) (hts (.fieldLink RX12 776 "HeapWorksModel" "fault" "I") (by decide +kernel)) (fun _ h9 => h9) rfl (by decide +kernel) rfl rfl (by rw [o_Fs0.2.1]; decide) dX12_endText_23 (fun H locs hP hD hS => ?_)
  have hP : va_P (dC, dI) vwCl [(Ad0, .inr (15, (Fs0.set 81 (.int 1))))] H := hP
  have hD : va_D A [(Ad0, .inr (15, (Fs0.set 81 (.int 1))))] := hD
  have o_s102 := ow_set o_Fs0 81 (.int 1) (by decide) (l' := [(81, .int 1), (84, .int 0), (83, .int 1)]) (w' := [81]) rfl rfl
  generalize (Fs0.set 81 (.int 1)) = s102 at hP hD o_s102
  refine lv_aload_n hx hb dX12_endText_26 rfl (lv_at hl 0 rfl) ?_
  refine lv_aload_n hx hb dX12_endText_27 rfl (lv_at hl 0 rfl) ?_
  refine va_get (D := (dC, dI)) (ci := 15) (v := .int 1) (C := RX12) (T := TX12) (N := 150) hx hb hts (in_z_X12_endText_X12) hown hK hP 0 rfl rfl 83 (by decide) (hts (.fieldLink RX12 625 "HeapWorksModel" "stop" "I") (by decide +kernel)) (fun _ h9 => h9) (ow_at o_s102 2 rfl) dX12_endText_28 ?_
  refine lv_if_le (tgt := 41) hx hb dX12_endText_31 (by decide) (fun c103 => absurd c103 (by decide)) (fun c103 => ?_)
  refine lv_aload_n hx hb dX12_endText_34 rfl (lv_at hl 0 rfl) ?_
  refine va_get (D := (dC, dI)) (ci := 15) (v := .int 0) (C := RX12) (T := TX12) (N := 150) hx hb hts (in_z_X12_endText_X12) hown hK hP 0 rfl rfl 84 (by decide) (hts (.fieldLink RX12 628 "HeapWorksModel" "stopAt" "I") (by decide +kernel)) (fun _ h9 => h9) (ow_at o_s102 1 rfl) dX12_endText_35 ?_
  refine lv_goto (tgt := 42) hx hb dX12_endText_38 (by decide) ?_
  refine va_put (D := (dC, dI)) (ci := 15) (v := .int 0) (ty := .int) (C := RX12) (T := TX12) (N := 150) hx hb hts (in_z_X12_endText_X12) tyX12 tyX12_ok nmX12 hown hK hP hD hS 0 rfl rfl 82 (by decide) (hts (.fieldLink RX12 268 "HeapWorksModel" "faultAt" "I") (by decide +kernel)) (fun _ h9 => h9) rfl (by decide +kernel) rfl rfl (by rw [o_s102.2.1]; decide) dX12_endText_42 (fun H locs hP hD hS => ?_)
  have hP : va_P (dC, dI) vwCl [(Ad0, .inr (15, (s102.set 82 (.int 0))))] H := hP
  have hD : va_D A [(Ad0, .inr (15, (s102.set 82 (.int 0))))] := hD
  have o_s104 := ow_set o_s102 82 (.int 0) (by decide) (l' := [(82, .int 0), (81, .int 1), (84, .int 0), (83, .int 1)]) (w' := [82, 81]) rfl rfl
  generalize (s102.set 82 (.int 0)) = s104 at hP hD o_s104
  have hP9 := hP.sub (ws' := [(Ad0, .inr (15, s104))]) [0] rfl
  have hD9 := hD.sub (ws' := [(Ad0, .inr (15, s104))]) [0] (by decide) rfl
  have hK9 := hK.sub (tys' := []) [] rfl
  exact W.vret hx hb hr (fun t ht hW => ⟨⟨s104, rfl, o_s104, by rw [ht]; exact hP9, va_K.moved hW.alike hK9, hD9⟩, hS.F ht⟩) hS.2.2 dX12_endText_45

