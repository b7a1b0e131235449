def l_z_X12_promise : List Cond := [.fieldLink RX12 872 "HeapWorksModel" "promises" "I", .fieldLink RX12 388 "HeapWorksModel" "thrown" "I", .methodLink RX12 855 yX12_beginText, .instanceMethod yX12_beginText, .selects RX12 yX12_beginText yX12_beginText, .initialized RX12, .fieldLink RX12 764 "HeapWorksModel" "hasIt" "Z", .methodLink RX12 743 yX12_readE, .instanceMethod yX12_readE, .selects RX12 yX12_readE yX12_readE, .methodLink RX12 858 yX12_endText, .instanceMethod yX12_endText, .selects RX12 yX12_endText yX12_endText, .fieldLink RX12 776 "HeapWorksModel" "fault" "I", .code yX12_beginText cX12_beginText 2 none, .fieldLink RX12 673 "HeapWorksModel" "nodeBase" "I", .fieldLink RX12 670 "HeapWorksModel" "nodes" "I", .fieldLink RX12 676 "HeapWorksModel" "nested" "I", .fieldLink RX12 761 "HeapWorksModel" "known" "I", .fieldLink RX12 625 "HeapWorksModel" "stop" "I", .fieldLink RX12 628 "HeapWorksModel" "stopAt" "I", .fieldLink RX12 631 "HeapWorksModel" "at0" "I", .methodLink RX12 661 yX12_advance, .instanceMethod yX12_advance, .selects RX12 yX12_advance yX12_advance, .code yX12_advance cX12_advance 5 none, .methodLink RX12 634 yX12_byteAt, .instanceMethod yX12_byteAt, .selects RX12 yX12_byteAt yX12_byteAt, .fieldLink RX12 637 "HeapWorksModel" "from0" "I", .fieldLink RX12 640 "HeapWorksModel" "word" "J", .fieldLink RX12 644 "HeapWorksModel" "kind" "I", .code yX12_byteAt cX12_byteAt 2 (some .int), .fieldLink RX12 391 "HeapWorksModel" "taped" "I", .code yX12_readE cX12_readE 3 (some .int), .methodLink RX12 679 yX12_readAnd, .instanceMethod yX12_readAnd, .selects RX12 yX12_readAnd yX12_readAnd, .code yX12_readAnd cX12_readAnd 3 (some .int), .methodLink RX12 686 yX12_readNot, .instanceMethod yX12_readNot, .selects RX12 yX12_readNot yX12_readNot, .code yX12_readNot cX12_readNot 2 (some .int), .methodLink RX12 667 yX12_isKey, .instanceMethod yX12_isKey, .selects RX12 yX12_isKey yX12_isKey, .methodLink RX12 689 yX12_readCompared, .instanceMethod yX12_readCompared, .selects RX12 yX12_readCompared yX12_readCompared, .code yX12_isKey cX12_isKey 2 (some .boolean), .code yX12_readCompared cX12_readCompared 4 (some .int), .methodLink RX12 704 yX12_readSum, .instanceMethod yX12_readSum, .selects RX12 yX12_readSum yX12_readSum, .code yX12_readSum cX12_readSum 3 (some .int), .methodLink RX12 714 yX12_readProduct, .instanceMethod yX12_readProduct, .selects RX12 yX12_readProduct yX12_readProduct, .code yX12_readProduct cX12_readProduct 3 (some .int), .methodLink RX12 721 yX12_readTurned, .instanceMethod yX12_readTurned, .selects RX12 yX12_readTurned yX12_readTurned, .code yX12_readTurned cX12_readTurned 2 (some .int), .constantLong RX12 719 (45), .methodLink RX12 657 yX12_isSign, .instanceMethod yX12_isSign, .selects RX12 yX12_isSign yX12_isSign, .methodLink RX12 730 yX12_readP, .instanceMethod yX12_readP, .selects RX12 yX12_readP yX12_readP, .code yX12_isSign cX12_isSign 3 (some .boolean), .code yX12_readP cX12_readP 4 (some .int), .methodLink RX12 733 yX12_readAtom, .instanceMethod yX12_readAtom, .selects RX12 yX12_readAtom yX12_readAtom, .code yX12_readAtom cX12_readAtom 5 (some .int), .methodLink RX12 751 yX12_keyAtHand, .instanceMethod yX12_keyAtHand, .selects RX12 yX12_keyAtHand yX12_keyAtHand, .constantLong RX12 754 (40), .methodLink RX12 710 yX12_isName, .instanceMethod yX12_isName, .selects RX12 yX12_isName yX12_isName, .methodLink RX12 664 yX12_wrong, .instanceMethod yX12_wrong, .selects RX12 yX12_wrong yX12_wrong, .code yX12_keyAtHand cX12_keyAtHand 1 (some .int), .code yX12_isName cX12_isName 1 (some .boolean), .code yX12_wrong cX12_wrong 1 none, .methodLink RX12 653 yX12_fail, .instanceMethod yX12_fail, .selects RX12 yX12_fail yX12_fail, .code yX12_fail cX12_fail 3 none, .code yX12_endText cX12_endText 1 none, .fieldLink RX12 268 "HeapWorksModel" "faultAt" "I"]
def w_z_X12_promise : List Cond := .code yX12_promise cX12_promise 3 (some .int) :: (l_z_X12_promise ++ (wsX120))
theorem in_z_X12_promise_X12 : ∀ w ∈ wsX120, w ∈ w_z_X12_promise := fun w h => List.mem_cons_of_mem _ (List.mem_append_right _ (h))
theorem g_z_X12_promise_z_X12_beginText_855 : GoodIn w_z_X12_promise (wsV RX12 855 RX12 yX12_beginText w_z_X12_beginText) := goodIn_app (goodIn_r (([.methodLink RX12 855 yX12_beginText, .instanceMethod yX12_beginText, .selects RX12 yX12_beginText yX12_beginText, .initialized RX12] : List Cond)) [3, 4, 5, 6] rfl (by decide +kernel)) (goodIn_ca (goodIn_r (.code yX12_beginText cX12_beginText 2 none :: l_z_X12_beginText) [15, 16, 17, 18, 19, 20, 21, 22, 23, 24, 25, 6, 26, 27, 28, 29, 30, 31, 32, 33, 34] rfl (by decide +kernel)) (goodIn_in (in_z_X12_promise_X12) gd_X12))
theorem g_z_X12_promise_z_X12_readE_743 : GoodIn w_z_X12_promise (wsV RX12 743 RX12 yX12_readE w_z_X12_readE) := goodIn_app (goodIn_r (([.methodLink RX12 743 yX12_readE, .instanceMethod yX12_readE, .selects RX12 yX12_readE yX12_readE, .initialized RX12] : List Cond)) [8, 9, 10, 6] rfl (by decide +kernel)) (goodIn_ca (goodIn_r (.code yX12_readE cX12_readE 3 (some .int) :: l_z_X12_readE) [35, 36, 37, 38, 6, 20, 39, 40, 41, 42, 43, 44, 45, 46, 47, 48, 49, 50, 32, 51, 52, 53, 54, 55, 56, 57, 58, 59, 60, 61, 62, 63, 64, 65, 66, 67, 68, 69, 70, 71, 72, 73, 74, 75, 76, 77, 78, 79, 80, 81, 82, 83, 84, 85, 86, 16, 87, 88, 89, 30, 90, 91, 92, 93, 21] rfl (by decide +kernel)) (goodIn_in (in_z_X12_promise_X12) gd_X12))
theorem g_z_X12_promise_z_X12_endText_858 : GoodIn w_z_X12_promise (wsV RX12 858 RX12 yX12_endText w_z_X12_endText) := goodIn_app (goodIn_r (([.methodLink RX12 858 yX12_endText, .instanceMethod yX12_endText, .selects RX12 yX12_endText yX12_endText, .initialized RX12] : List Cond)) [11, 12, 13, 6] rfl (by decide +kernel)) (goodIn_ca (goodIn_r (.code yX12_endText cX12_endText 1 none :: l_z_X12_endText) [94, 20, 14, 21, 95] rfl (by decide +kernel)) (goodIn_in (in_z_X12_promise_X12) gd_X12))
set_option maxHeartbeats 4000000 in
set_option maxRecDepth 100000 in
theorem z_X12_promise (l : Launch) (dC : Nat → ClassId) (dI : Nat → Nat → Nat) (sz : Nat) (Ad0 : Nat) (Fs0 : List Value) (k_Fs0 : fh Fs0 150 [(0, .int 0), (3, .int 0), (78, .int 0), (79, .int 0), (80, .int 0), (81, .int 0), (83, .int 0), (84, .int 0), (91, .int 0), (113, .int 0)])  : Met l yX12_promise w_z_X12_promise ({ frames := 11, cells := 0, slots := 0, locals := 242 }) (va_Pc [.ref Ad0] (fun U => U.heap.size = sz ∧ Wd dC dI [] (fun _ => True) [(Ad0, .inr (15, Fs0))] U)) (va_Qi (fun (r : Int32) (u : List Value) => (r = 0 ∧ ow Fs0 (u) 150 [0, 82, 81, 84, 83, 95, 80, 85, 79, 78, 94, 93, 92, 91] [(0, .int 2), (82, .int 0), (81, .int 1), (84, .int 0), (83, .int 1), (84, .int 0), (83, .int 1), (80, .int 0), (79, .int 0), (80, .int 0), (79, .int 0), (91, .int 120), (80, .int 0), (79, .int 0), (91, .int 120), (80, .int 0), (79, .int 0), (91, .int 120), (80, .int 0), (79, .int 0), (91, .int 120), (80, .int 0), (79, .int 0), (91, .int 120), (80, .int 0), (79, .int 0), (91, .int 120), (80, .int 0), (79, .int 0), (91, .int 120), (80, .int 0), (79, .int 0), (91, .int 120), (80, .int 0), (79, .int 0), (91, .int 120), (95, .int 0), (80, .int 0), (85, .long 0), (79, .int 0), (78, .int 0), (3, .int 0), (78, .int 0), (94, .int 0), (93, .int 0), (92, .int 0), (91, .int 120), (3, .int 0), (3, .int 0), (113, .int 0)])) (fun (u : List Value) t => Wd dC dI [] (va_A [(Ad0, .inr (15, Fs0))] sz) [(Ad0, .inr (15, (u)))] t) (va_A [(Ad0, .inr (15, Fs0))] sz))  0 0 (va_A [(Ad0, .inr (15, Fs0))] sz) := by
  refine Met.ofW (cc := cX12_promise) (maxL := 3) (ret := (some .int)) (by decide) rfl ?_
  intro p e s m args below meth c s₁ B hml hv
  obtain ⟨rfl, hsz, hP, hK, hD0⟩ := hv
  have hx := B.exec
  have hb := B.bytes
  have hr := B.returns
  have hts := atoms_spec (ws := w_z_X12_promise) B.pre
  have hown : s.vm.findClass RX12 = some m.cls := findClass_of_methodNamed B.named
  have hlocks := B.notSynchronized
  subst hsz
  have hD := hD0.self (sz := s.heap.size)
  generalize hAe : va_A [(Ad0, .inr (15, Fs0))] s.heap.size = A at hD ⊢
  have hA : ∀ q : Nat, s.heap.size ≤ q → A q := fun q h => by rw [← hAe]; exact Or.inr h
  have hS : va_S A s.heap s.heap [] := va_S.rf
  have hl := lv_entry ([.ref Ad0]) (n := 3) (Nat.le_of_ble_eq_true rfl)
  rw [lg_entry_eq]
  generalize (lg_sl ([.ref Ad0]) ++ List.replicate (3 - (lg_sl ([.ref Ad0])).length) Slot.unset).toArray = ls at hl ⊢
  have hl : lv_has ls 3 [(0, .ref Ad0)] := hl
  have o_Fs0 := ow_0 k_Fs0
  refine lv_aload_n hx hb dX12_promise_0 rfl (lv_at hl 0 rfl) ?_
  refine lv_aload_n hx hb dX12_promise_1 rfl (lv_at hl 0 rfl) ?_
  refine va_get (D := (dC, dI)) (ci := 15) (v := .int 0) (C := RX12) (T := TX12) (N := 150) hx hb hts (in_z_X12_promise_X12) hown hK hP 0 rfl rfl 113 (by decide) (hts (.fieldLink RX12 872 "HeapWorksModel" "promises" "I") (by decide +kernel)) (fun _ h9 => h9) (ow_at o_Fs0 9 rfl) dX12_promise_2 ?_
  refine lv_iconst (v := 3) hx hb dX12_promise_5 (by decide) ?_
  refine lv_icmp_ne (tgt := 13) hx hb dX12_promise_6 (by decide) (fun c101 => ?_) (fun c101 => absurd c101 (by decide))
  refine lv_iconst (v := 0) hx hb dX12_promise_13 (by decide) ?_
  refine va_put (D := (dC, dI)) (ci := 15) (v := .int 0) (ty := .int) (C := RX12) (T := TX12) (N := 150) hx hb hts (in_z_X12_promise_X12) tyX12 tyX12_ok nmX12 hown hK hP hD hS 0 rfl rfl 0 (by decide) (hts (.fieldLink RX12 388 "HeapWorksModel" "thrown" "I") (by decide +kernel)) (fun _ h9 => h9) rfl (by decide +kernel) rfl rfl (by rw [o_Fs0.2.1]; decide) dX12_promise_14 (fun H locs hP hD hS => ?_)
  have hP : va_P (dC, dI) vwCl [(Ad0, .inr (15, (Fs0.set 0 (.int 0))))] H := hP
  have hD : va_D A [(Ad0, .inr (15, (Fs0.set 0 (.int 0))))] := hD
  have o_s102 := ow_set o_Fs0 0 (.int 0) (by decide) (l' := [(0, .int 0), (3, .int 0), (78, .int 0), (79, .int 0), (80, .int 0), (81, .int 0), (83, .int 0), (84, .int 0), (91, .int 0), (113, .int 0)]) (w' := [0]) rfl rfl
  generalize (Fs0.set 0 (.int 0)) = s102 at hP hD o_s102
  refine lv_aload_n hx hb dX12_promise_17 rfl (lv_at hl 0 rfl) ?_
  refine va_get (D := (dC, dI)) (ci := 15) (v := .int 0) (C := RX12) (T := TX12) (N := 150) hx hb hts (in_z_X12_promise_X12) hown hK hP 0 rfl rfl 0 (by decide) (hts (.fieldLink RX12 388 "HeapWorksModel" "thrown" "I") (by decide +kernel)) (fun _ h9 => h9) (ow_at o_s102 0 rfl) dX12_promise_18 ?_
  refine lv_if_le (tgt := 26) hx hb dX12_promise_21 (by decide) (fun c103 => ?_) (fun c103 => absurd c103 (by decide))
  refine lv_aload_n hx hb dX12_promise_26 rfl (lv_at hl 0 rfl) ?_
  refine lv_bipush (v := 120) hx hb dX12_promise_27 (by decide) ?_
  refine lv_aload_n hx hb dX12_promise_29 rfl (lv_at hl 0 rfl) ?_
  refine va_get (D := (dC, dI)) (ci := 15) (v := .int 0) (C := RX12) (T := TX12) (N := 150) hx hb hts (in_z_X12_promise_X12) hown hK hP 0 rfl rfl 113 (by decide) (hts (.fieldLink RX12 872 "HeapWorksModel" "promises" "I") (by decide +kernel)) (fun _ h9 => h9) (ow_at o_s102 9 rfl) dX12_promise_30 ?_
  refine lv_iconst (v := 1) hx hb dX12_promise_33 (by decide) ?_
  refine lv_iadd hx hb dX12_promise_34  ?_
  refine lv_topi (fun x104 ex104 => ?_)
  obtain rfl : x104 = 1 := ex104.trans (by decide)
  refine lv_imul hx hb dX12_promise_35  ?_
  refine lv_topi (fun x105 ex105 => ?_)
  obtain rfl : x105 = 120 := ex105.trans (by decide)
  have hPc := hP.sub (ws' := [(Ad0, .inr (15, s102))]) [0] rfl
  have hDc := hD.sub (ws' := [(Ad0, .inr (15, s102))]) [0] (by decide) rfl
  have hKc := hK.sub (tys' := []) [] rfl
  have hFc := va_free (wc := [(Ad0, .inr (15, s102))]) hD hS hA [0] rfl
  refine va_callv (va_runV (As := [.int 120]) (rest := []) ⟨hx, hb, hml, hown, hts⟩ (z_X12_beginText l dC dI H.size Ad0 s102 (fh_sub o_s102.2 [1, 2] rfl) ) (cwV 1 hts g_z_X12_promise_z_X12_beginText_855 rfl rfl rfl (by decide +kernel) ⟨Nat.le_of_ble_eq_true rfl, Nat.le_of_ble_eq_true rfl⟩) ⟨fun a U g mk q => by obtain ⟨q0, q1, qP, qK, qD⟩ := q; exact ⟨q0, q1, qP, va_K.moved (u := U) (U := U.calling g mk a) (Vm.Alike.refl U.vm) qK, qD⟩, va_recv hK hP (ci := 15) (q0 := 0) rfl rfl, fun U hU hW => ⟨rfl, by rw [hU], by rw [hU]; exact hPc, va_K.moved hW.alike hKc, hDc.weaken (fun _ _ _ _ => trivial)⟩⟩ rfl rfl hl.1 rfl (lv_room (Nat.le_of_ble_eq_true rfl)) dX12_promise_36 ⟨Nat.le_of_ble_eq_true rfl, Nat.le_of_ble_eq_true rfl⟩) hS (fun q _ h => hFc q h) hFc (fun u t H1 locs ht hvm hw hB hz1 hk1 hS => ?_)
  obtain ⟨s106, rfl⟩ : ∃ z, z = u := ⟨_, rfl⟩
  obtain ⟨hP1, hK1, hD1⟩ := hB
  rw [ht] at hP1
  try dsimp only at hw
  obtain ⟨hP, hD⟩ := va_join (wr := []) (w1 := [(Ad0, .inr (15, s106))]) hP hD [0] [] rfl rfl (by decide) (by decide) hk1 hFc hP1 hD1
  have hK := hK.sub (tys' := []) [] rfl
  generalize H1 = H at hP hS ⊢
  have hP : va_P (dC, dI) vwCl [(Ad0, .inr (15, s106))] H := hP
  have hD : va_D A [(Ad0, .inr (15, s106))] := hD
  have o_s106 := hw
  have o_s106 := ow_on o_s102 o_s106 (l' := [(80, .int 0), (85, .long 0), (79, .int 0), (78, .int 0), (3, .int 0), (78, .int 0), (84, .int (-1)), (83, .int 0), (94, .int 0), (93, .int 0), (92, .int 0), (91, .int 120), (3, .int 0), (0, .int 0), (3, .int 0), (81, .int 0), (113, .int 0)]) (w' := [80, 85, 79, 78, 84, 83, 94, 93, 92, 91, 0]) rfl rfl
  refine lv_aload_n hx hb dX12_promise_39 rfl (lv_at hl 0 rfl) ?_
  refine lv_iconst (v := 0) hx hb dX12_promise_40 (by decide) ?_
  refine va_put (D := (dC, dI)) (ci := 15) (v := .int 0) (ty := .boolean) (C := RX12) (T := TX12) (N := 150) hx hb hts (in_z_X12_promise_X12) tyX12 tyX12_ok nmX12 hown hK hP hD hS 0 rfl rfl 95 (by decide) (hts (.fieldLink RX12 764 "HeapWorksModel" "hasIt" "Z") (by decide +kernel)) (fun _ h9 => h9) rfl (by decide +kernel) rfl rfl (by rw [o_s106.2.1]; decide) dX12_promise_41 (fun H locs hP hD hS => ?_)
  have hP : va_P (dC, dI) vwCl [(Ad0, .inr (15, (s106.set 95 (.int 0))))] H := hP
  have hD : va_D A [(Ad0, .inr (15, (s106.set 95 (.int 0))))] := hD
  have o_s107 := ow_set o_s106 95 (.int 0) (by decide) (l' := [(95, .int 0), (80, .int 0), (85, .long 0), (79, .int 0), (78, .int 0), (3, .int 0), (78, .int 0), (84, .int (-1)), (83, .int 0), (94, .int 0), (93, .int 0), (92, .int 0), (91, .int 120), (3, .int 0), (0, .int 0), (3, .int 0), (81, .int 0), (113, .int 0)]) (w' := [95, 80, 85, 79, 78, 84, 83, 94, 93, 92, 91, 0]) rfl rfl
  generalize (s106.set 95 (.int 0)) = s107 at hP hD o_s107
  refine lv_aload_n hx hb dX12_promise_44 rfl (lv_at hl 0 rfl) ?_
  have hPc := hP.sub (ws' := [(Ad0, .inr (15, s107))]) [0] rfl
  have hDc := hD.sub (ws' := [(Ad0, .inr (15, s107))]) [0] (by decide) rfl
  have hKc := hK.sub (tys' := []) [] rfl
  have hFc := va_free (wc := [(Ad0, .inr (15, s107))]) hD hS hA [0] rfl
  refine va_calli (va_runV (As := []) (rest := []) ⟨hx, hb, hml, hown, hts⟩ (z_X12_readE l dC dI H.size Ad0 s107 (fh_sub o_s107.2 [1, 3, 8, 12] rfl) ) (cwV 0 hts g_z_X12_promise_z_X12_readE_743 rfl rfl rfl (by decide +kernel) ⟨Nat.le_of_ble_eq_true rfl, Nat.le_of_ble_eq_true rfl⟩) ⟨fun a U g mk q => by obtain ⟨q0, q1, qP, qK, qD⟩ := q; exact ⟨q0, q1, qP, va_K.moved (u := U) (U := U.calling g mk a) (Vm.Alike.refl U.vm) qK, qD⟩, va_recv hK hP (ci := 15) (q0 := 0) rfl rfl, fun U hU hW => ⟨rfl, by rw [hU], by rw [hU]; exact hPc, va_K.moved hW.alike hKc, hDc.weaken (fun _ _ _ _ => trivial)⟩⟩ rfl rfl hl.1 rfl (lv_room (Nat.le_of_ble_eq_true rfl)) dX12_promise_45 ⟨Nat.le_of_ble_eq_true rfl, Nat.le_of_ble_eq_true rfl⟩) hS (fun q _ h => hFc q h) hFc (fun r108 u t H1 locs ht hvm hw hB hz1 hk1 hS => ?_)
  obtain ⟨s109, rfl⟩ : ∃ z, z = u := ⟨_, rfl⟩
  obtain ⟨hP1, hK1, hD1⟩ := hB
  rw [ht] at hP1
  try dsimp only at hw
  obtain ⟨hP, hD⟩ := va_join (wr := []) (w1 := [(Ad0, .inr (15, s109))]) hP hD [0] [] rfl rfl (by decide) (by decide) hk1 hFc hP1 hD1
  have hK := hK.sub (tys' := []) [] rfl
  generalize H1 = H at hP hS ⊢
  have hP : va_P (dC, dI) vwCl [(Ad0, .inr (15, s109))] H := hP
  have hD : va_D A [(Ad0, .inr (15, s109))] := hD
  obtain ⟨er110, o_s109⟩ := hw
  subst er110
  have o_s109 := ow_on o_s107 o_s109 (l' := [(84, .int 0), (83, .int 1), (80, .int 0), (79, .int 0), (80, .int 0), (79, .int 0), (91, .int 120), (80, .int 0), (79, .int 0), (91, .int 120), (80, .int 0), (79, .int 0), (91, .int 120), (80, .int 0), (79, .int 0), (91, .int 120), (80, .int 0), (79, .int 0), (91, .int 120), (80, .int 0), (79, .int 0), (91, .int 120), (80, .int 0), (79, .int 0), (91, .int 120), (80, .int 0), (79, .int 0), (91, .int 120), (80, .int 0), (79, .int 0), (91, .int 120), (95, .int 0), (80, .int 0), (85, .long 0), (79, .int 0), (78, .int 0), (3, .int 0), (78, .int 0), (94, .int 0), (93, .int 0), (92, .int 0), (91, .int 120), (3, .int 0), (0, .int 0), (3, .int 0), (81, .int 0), (113, .int 0)]) (w' := [84, 83, 95, 80, 85, 79, 78, 94, 93, 92, 91, 0]) rfl rfl
  refine lv_istore_n (lv' := [(1, .int 120), (0, .ref Ad0)]) hx hb dX12_promise_48 rfl hl (by decide) rfl (fun ls hl => ?_)
  refine lv_aload_n hx hb dX12_promise_49 rfl (lv_at hl 1 rfl) ?_
  have hPc := hP.sub (ws' := [(Ad0, .inr (15, s109))]) [0] rfl
  have hDc := hD.sub (ws' := [(Ad0, .inr (15, s109))]) [0] (by decide) rfl
  have hKc := hK.sub (tys' := []) [] rfl
  have hFc := va_free (wc := [(Ad0, .inr (15, s109))]) hD hS hA [0] rfl
  refine va_callv (va_runV (As := []) (rest := []) ⟨hx, hb, hml, hown, hts⟩ (z_X12_endText l dC dI H.size Ad0 s109 (fh_sub o_s109.2 [0, 1] rfl) ) (cwV 0 hts g_z_X12_promise_z_X12_endText_858 rfl rfl rfl (by decide +kernel) ⟨Nat.le_of_ble_eq_true rfl, Nat.le_of_ble_eq_true rfl⟩) ⟨fun a U g mk q => by obtain ⟨q0, q1, qP, qK, qD⟩ := q; exact ⟨q0, q1, qP, va_K.moved (u := U) (U := U.calling g mk a) (Vm.Alike.refl U.vm) qK, qD⟩, va_recv hK hP (ci := 15) (q0 := 0) rfl rfl, fun U hU hW => ⟨rfl, by rw [hU], by rw [hU]; exact hPc, va_K.moved hW.alike hKc, hDc.weaken (fun _ _ _ _ => trivial)⟩⟩ rfl rfl hl.1 rfl (lv_room (Nat.le_of_ble_eq_true rfl)) dX12_promise_50 ⟨Nat.le_of_ble_eq_true rfl, Nat.le_of_ble_eq_true rfl⟩) hS (fun q _ h => hFc q h) hFc (fun u t H1 locs ht hvm hw hB hz1 hk1 hS => ?_)
  obtain ⟨s111, rfl⟩ : ∃ z, z = u := ⟨_, rfl⟩
  obtain ⟨hP1, hK1, hD1⟩ := hB
  rw [ht] at hP1
  try dsimp only at hw
  obtain ⟨hP, hD⟩ := va_join (wr := []) (w1 := [(Ad0, .inr (15, s111))]) hP hD [0] [] rfl rfl (by decide) (by decide) hk1 hFc hP1 hD1
  have hK := hK.sub (tys' := []) [] rfl
  generalize H1 = H at hP hS ⊢
  have hP : va_P (dC, dI) vwCl [(Ad0, .inr (15, s111))] H := hP
  have hD : va_D A [(Ad0, .inr (15, s111))] := hD
  have o_s111 := hw
  have o_s111 := ow_on o_s109 o_s111 (l' := [(82, .int 0), (81, .int 1), (84, .int 0), (83, .int 1), (84, .int 0), (83, .int 1), (80, .int 0), (79, .int 0), (80, .int 0), (79, .int 0), (91, .int 120), (80, .int 0), (79, .int 0), (91, .int 120), (80, .int 0), (79, .int 0), (91, .int 120), (80, .int 0), (79, .int 0), (91, .int 120), (80, .int 0), (79, .int 0), (91, .int 120), (80, .int 0), (79, .int 0), (91, .int 120), (80, .int 0), (79, .int 0), (91, .int 120), (80, .int 0), (79, .int 0), (91, .int 120), (80, .int 0), (79, .int 0), (91, .int 120), (95, .int 0), (80, .int 0), (85, .long 0), (79, .int 0), (78, .int 0), (3, .int 0), (78, .int 0), (94, .int 0), (93, .int 0), (92, .int 0), (91, .int 120), (3, .int 0), (0, .int 0), (3, .int 0), (113, .int 0)]) (w' := [82, 81, 84, 83, 95, 80, 85, 79, 78, 94, 93, 92, 91, 0]) rfl rfl
  refine lv_aload_n hx hb dX12_promise_53 rfl (lv_at hl 1 rfl) ?_
  refine lv_aload_n hx hb dX12_promise_54 rfl (lv_at hl 1 rfl) ?_
  refine va_get (D := (dC, dI)) (ci := 15) (v := .int 1) (C := RX12) (T := TX12) (N := 150) hx hb hts (in_z_X12_promise_X12) hown hK hP 0 rfl rfl 81 (by decide) (hts (.fieldLink RX12 776 "HeapWorksModel" "fault" "I") (by decide +kernel)) (fun _ h9 => h9) (ow_at o_s111 1 rfl) dX12_promise_55 ?_
  refine lv_if_le (tgt := 65) hx hb dX12_promise_58 (by decide) (fun c112 => absurd c112 (by decide)) (fun c112 => ?_)
  refine lv_iconst (v := 2) hx hb dX12_promise_61 (by decide) ?_
  refine lv_goto (tgt := 66) hx hb dX12_promise_62 (by decide) ?_
  refine va_put (D := (dC, dI)) (ci := 15) (v := .int 2) (ty := .int) (C := RX12) (T := TX12) (N := 150) hx hb hts (in_z_X12_promise_X12) tyX12 tyX12_ok nmX12 hown hK hP hD hS 0 rfl rfl 0 (by decide) (hts (.fieldLink RX12 388 "HeapWorksModel" "thrown" "I") (by decide +kernel)) (fun _ h9 => h9) rfl (by decide +kernel) rfl rfl (by rw [o_s111.2.1]; decide) dX12_promise_66 (fun H locs hP hD hS => ?_)
  have hP : va_P (dC, dI) vwCl [(Ad0, .inr (15, (s111.set 0 (.int 2))))] H := hP
  have hD : va_D A [(Ad0, .inr (15, (s111.set 0 (.int 2))))] := hD
  have o_s113 := ow_set o_s111 0 (.int 2) (by decide) (l' := [(0, .int 2), (82, .int 0), (81, .int 1), (84, .int 0), (83, .int 1), (84, .int 0), (83, .int 1), (80, .int 0), (79, .int 0), (80, .int 0), (79, .int 0), (91, .int 120), (80, .int 0), (79, .int 0), (91, .int 120), (80, .int 0), (79, .int 0), (91, .int 120), (80, .int 0), (79, .int 0), (91, .int 120), (80, .int 0), (79, .int 0), (91, .int 120), (80, .int 0), (79, .int 0), (91, .int 120), (80, .int 0), (79, .int 0), (91, .int 120), (80, .int 0), (79, .int 0), (91, .int 120), (80, .int 0), (79, .int 0), (91, .int 120), (95, .int 0), (80, .int 0), (85, .long 0), (79, .int 0), (78, .int 0), (3, .int 0), (78, .int 0), (94, .int 0), (93, .int 0), (92, .int 0), (91, .int 120), (3, .int 0), (3, .int 0), (113, .int 0)]) (w' := [0, 82, 81, 84, 83, 95, 80, 85, 79, 78, 94, 93, 92, 91]) rfl rfl
  generalize (s111.set 0 (.int 2)) = s113 at hP hD o_s113
  refine lv_aload_n hx hb dX12_promise_69 rfl (lv_at hl 1 rfl) ?_
  refine va_get (D := (dC, dI)) (ci := 15) (v := .int 2) (C := RX12) (T := TX12) (N := 150) hx hb hts (in_z_X12_promise_X12) hown hK hP 0 rfl rfl 0 (by decide) (hts (.fieldLink RX12 388 "HeapWorksModel" "thrown" "I") (by decide +kernel)) (fun _ h9 => h9) (ow_at o_s113 0 rfl) dX12_promise_70 ?_
  refine lv_if_le (tgt := 78) hx hb dX12_promise_73 (by decide) (fun c114 => absurd c114 (by decide)) (fun c114 => ?_)
  refine lv_iconst (v := 0) hx hb dX12_promise_76 (by decide) ?_
  have hP9 := hP.sub (ws' := [(Ad0, .inr (15, s113))]) [0] rfl
  have hD9 := hD.sub (ws' := [(Ad0, .inr (15, s113))]) [0] (by decide) rfl
  have hK9 := hK.sub (tys' := []) [] rfl
  exact W.iret (v := 0) hx hb hr (fun t ht hW => ⟨⟨0, s113, rfl, ⟨rfl, o_s113⟩, by rw [ht]; exact hP9, va_K.moved hW.alike hK9, hD9⟩, hS.F ht⟩) hS.2.2 dX12_promise_77

def l_z_X12_broken : List Cond := [.fieldLink RX12 388 "HeapWorksModel" "thrown" "I", .fieldLink RX12 872 "HeapWorksModel" "promises" "I"]
def w_z_X12_broken : List Cond := .code yX12_broken cX12_broken 2 (some .int) :: (l_z_X12_broken ++ (wsX120))
theorem in_z_X12_broken_X12 : ∀ w ∈ wsX120, w ∈ w_z_X12_broken := fun w h => List.mem_cons_of_mem _ (List.mem_append_right _ (h))
set_option maxHeartbeats 4000000 in
set_option maxRecDepth 100000 in
theorem z_X12_broken (l : Launch) (dC : Nat → ClassId) (dI : Nat → Nat → Nat) (sz : Nat) (Ad0 : Nat) (Fs0 : List Value) (Va0 : Int32) (k_Fs0 : fh Fs0 150 [(0, .int 0), (113, .int 0)])  : Met l yX12_broken w_z_X12_broken ({ frames := 0, cells := 0, slots := 0, locals := 0 }) (va_Pc [.ref Ad0, .int Va0] (fun U => U.heap.size = sz ∧ Wd dC dI [] (fun _ => True) [(Ad0, .inr (15, Fs0))] U)) (va_Qi (fun (r : Int32) (u : List Value) => (Va0 < 0 ∧ r = 0 ∧ ow Fs0 (u) 150 [0] [(0, .int 1), (113, .int 0)]) ∨ (¬ Va0 < 0 ∧ ¬ Va0 < 0 ∧ r = 0 ∧ ow Fs0 (u) 150 [0] [(0, .int 1), (113, .int 0)])) (fun (u : List Value) t => Wd dC dI [] (va_A [(Ad0, .inr (15, Fs0))] sz) [(Ad0, .inr (15, (u)))] t) (va_A [(Ad0, .inr (15, Fs0))] sz))  0 0 (va_A [(Ad0, .inr (15, Fs0))] sz) := by
  refine Met.ofW (cc := cX12_broken) (maxL := 2) (ret := (some .int)) (by decide) rfl ?_
  intro p e s m args below meth c s₁ B hml hv
  obtain ⟨rfl, hsz, hP, hK, hD0⟩ := hv
  have hx := B.exec
  have hb := B.bytes
  have hr := B.returns
  have hts := atoms_spec (ws := w_z_X12_broken) B.pre
  have hown : s.vm.findClass RX12 = some m.cls := findClass_of_methodNamed B.named
  have hlocks := B.notSynchronized
  subst hsz
  have hD := hD0.self (sz := s.heap.size)
  generalize hAe : va_A [(Ad0, .inr (15, Fs0))] s.heap.size = A at hD ⊢
  have hA : ∀ q : Nat, s.heap.size ≤ q → A q := fun q h => by rw [← hAe]; exact Or.inr h
  have hS : va_S A s.heap s.heap [] := va_S.rf
  have hl := lv_entry ([.ref Ad0, .int Va0]) (n := 2) (Nat.le_of_ble_eq_true rfl)
  rw [lg_entry_eq]
  generalize (lg_sl ([.ref Ad0, .int Va0]) ++ List.replicate (2 - (lg_sl ([.ref Ad0, .int Va0])).length) Slot.unset).toArray = ls at hl ⊢
  have hl : lv_has ls 2 [(0, .ref Ad0), (1, .int Va0)] := hl
  have o_Fs0 := ow_0 k_Fs0
  refine lv_aload_n hx hb dX12_broken_0 rfl (lv_at hl 0 rfl) ?_
  refine lv_iload_n hx hb dX12_broken_1 rfl (lv_at hl 1 rfl) ?_
  refine lv_if_lt (tgt := 13) hx hb dX12_broken_2 (by decide) (fun c101 => ?_) (fun c101 => ?_)
  · skip
    refine lv_iconst (v := 1) hx hb dX12_broken_13 (by decide) ?_
    refine lv_goto (tgt := 18) hx hb dX12_broken_14 (by decide) ?_
    refine va_put (D := (dC, dI)) (ci := 15) (v := .int 1) (ty := .int) (C := RX12) (T := TX12) (N := 150) hx hb hts (in_z_X12_broken_X12) tyX12 tyX12_ok nmX12 hown hK hP hD hS 0 rfl rfl 0 (by decide) (hts (.fieldLink RX12 388 "HeapWorksModel" "thrown" "I") (by decide +kernel)) (fun _ h9 => h9) rfl (by decide +kernel) rfl rfl (by rw [o_Fs0.2.1]; decide) dX12_broken_18 (fun H locs hP hD hS => ?_)
    have hP : va_P (dC, dI) vwCl [(Ad0, .inr (15, (Fs0.set 0 (.int 1))))] H := hP
    have hD : va_D A [(Ad0, .inr (15, (Fs0.set 0 (.int 1))))] := hD
    have o_s102 := ow_set o_Fs0 0 (.int 1) (by decide) (l' := [(0, .int 1), (113, .int 0)]) (w' := [0]) rfl rfl
    generalize (Fs0.set 0 (.int 1)) = s102 at hP hD o_s102
    refine lv_aload_n hx hb dX12_broken_21 rfl (lv_at hl 0 rfl) ?_
    refine va_get (D := (dC, dI)) (ci := 15) (v := .int 1) (C := RX12) (T := TX12) (N := 150) hx hb hts (in_z_X12_broken_X12) hown hK hP 0 rfl rfl 0 (by decide) (hts (.fieldLink RX12 388 "HeapWorksModel" "thrown" "I") (by decide +kernel)) (fun _ h9 => h9) (ow_at o_s102 0 rfl) dX12_broken_22 ?_
    refine lv_if_le (tgt := 32) hx hb dX12_broken_25 (by decide) (fun c103 => absurd c103 (by decide)) (fun c103 => ?_)
    refine lv_iconst (v := 0) hx hb dX12_broken_28 (by decide) ?_
    refine lv_goto (tgt := 38) hx hb dX12_broken_29 (by decide) ?_
    have hP9 := hP.sub (ws' := [(Ad0, .inr (15, s102))]) [0] rfl
    have hD9 := hD.sub (ws' := [(Ad0, .inr (15, s102))]) [0] (by decide) rfl
    have hK9 := hK.sub (tys' := []) [] rfl
    exact W.iret (v := 0) hx hb hr (fun t ht hW => ⟨⟨0, s102, rfl, (Or.inl ⟨c101, rfl, o_s102⟩), by rw [ht]; exact hP9, va_K.moved hW.alike hK9, hD9⟩, hS.F ht⟩) hS.2.2 dX12_broken_38
  · skip
    refine lv_iload_n hx hb dX12_broken_5 rfl (lv_at hl 1 rfl) ?_
    refine lv_aload_n hx hb dX12_broken_6 rfl (lv_at hl 0 rfl) ?_
    refine va_get (D := (dC, dI)) (ci := 15) (v := .int 0) (C := RX12) (T := TX12) (N := 150) hx hb hts (in_z_X12_broken_X12) hown hK hP 0 rfl rfl 113 (by decide) (hts (.fieldLink RX12 872 "HeapWorksModel" "promises" "I") (by decide +kernel)) (fun _ h9 => h9) (ow_at o_Fs0 1 rfl) dX12_broken_7 ?_
    refine lv_icmp_lt (tgt := 17) hx hb dX12_broken_10 (by decide) (fun c104 => (by exfalso; have bd_Va0 := i_bd Va0; (try simp only [i_lt, i_le, i_eq, kc_0] at c101 c104); omega)) (fun c104 => ?_)
    refine lv_iconst (v := 1) hx hb dX12_broken_13 (by decide) ?_
    refine lv_goto (tgt := 18) hx hb dX12_broken_14 (by decide) ?_
    refine va_put (D := (dC, dI)) (ci := 15) (v := .int 1) (ty := .int) (C := RX12) (T := TX12) (N := 150) hx hb hts (in_z_X12_broken_X12) tyX12 tyX12_ok nmX12 hown hK hP hD hS 0 rfl rfl 0 (by decide) (hts (.fieldLink RX12 388 "HeapWorksModel" "thrown" "I") (by decide +kernel)) (fun _ h9 => h9) rfl (by decide +kernel) rfl rfl (by rw [o_Fs0.2.1]; decide) dX12_broken_18 (fun H locs hP hD hS => ?_)
    have hP : va_P (dC, dI) vwCl [(Ad0, .inr (15, (Fs0.set 0 (.int 1))))] H := hP
    have hD : va_D A [(Ad0, .inr (15, (Fs0.set 0 (.int 1))))] := hD
    have o_s105 := ow_set o_Fs0 0 (.int 1) (by decide) (l' := [(0, .int 1), (113, .int 0)]) (w' := [0]) rfl rfl
    generalize (Fs0.set 0 (.int 1)) = s105 at hP hD o_s105
    refine lv_aload_n hx hb dX12_broken_21 rfl (lv_at hl 0 rfl) ?_
    refine va_get (D := (dC, dI)) (ci := 15) (v := .int 1) (C := RX12) (T := TX12) (N := 150) hx hb hts (in_z_X12_broken_X12) hown hK hP 0 rfl rfl 0 (by decide) (hts (.fieldLink RX12 388 "HeapWorksModel" "thrown" "I") (by decide +kernel)) (fun _ h9 => h9) (ow_at o_s105 0 rfl) dX12_broken_22 ?_
    refine lv_if_le (tgt := 32) hx hb dX12_broken_25 (by decide) (fun c106 => absurd c106 (by decide)) (fun c106 => ?_)
    refine lv_iconst (v := 0) hx hb dX12_broken_28 (by decide) ?_
    refine lv_goto (tgt := 38) hx hb dX12_broken_29 (by decide) ?_
    have hP9 := hP.sub (ws' := [(Ad0, .inr (15, s105))]) [0] rfl
    have hD9 := hD.sub (ws' := [(Ad0, .inr (15, s105))]) [0] (by decide) rfl
    have hK9 := hK.sub (tys' := []) [] rfl
    exact W.iret (v := 0) hx hb hr (fun t ht hW => ⟨⟨0, s105, rfl, (Or.inr (⟨c101, c104, rfl, o_s105⟩)), by rw [ht]; exact hP9, va_K.moved hW.alike hK9, hD9⟩, hS.F ht⟩) hS.2.2 dX12_broken_38

def l_z_X12_isPicture : List Cond := []
def w_z_X12_isPicture : List Cond := .code yX12_isPicture cX12_isPicture 2 (some .boolean) :: (l_z_X12_isPicture)
set_option maxHeartbeats 4000000 in
set_option maxRecDepth 100000 in
theorem z_X12_isPicture (l : Launch) (dC : Nat → ClassId) (dI : Nat → Nat → Nat) (sz : Nat) (Br0 : Nat) (Va0 : Int32)   : Met l yX12_isPicture w_z_X12_isPicture ({ frames := 0, cells := 0, slots := 0, locals := 0 }) (va_Pc [.ref Br0, .int Va0] (fun U => U.heap.size = sz ∧ Wd dC dI [] (fun _ => True) [] U)) (va_Qi (fun (r : Int32) (u : Unit) => (Va0 < 0 ∧ r = 0) ∨ (¬ Va0 < 0 ∧ 4 ≤ Va0 ∧ r = 0) ∨ (¬ Va0 < 0 ∧ ¬ 4 ≤ Va0 ∧ r = 1)) (fun (u : Unit) t => Wd dC dI [] (va_A [] sz) [] t) (va_A [] sz))  0 0 (va_A [] sz) := by
  refine Met.ofW (cc := cX12_isPicture) (maxL := 2) (ret := (some .boolean)) (by decide) rfl ?_
  intro p e s m args below meth c s₁ B hml hv
  obtain ⟨rfl, hsz, hP, hK, hD0⟩ := hv
  have hx := B.exec
  have hb := B.bytes
  have hr := B.returns
  have hts := atoms_spec (ws := w_z_X12_isPicture) B.pre
  have hown : s.vm.findClass RX12 = some m.cls := findClass_of_methodNamed B.named
  have hlocks := B.notSynchronized
  subst hsz
  have hD := hD0.self (sz := s.heap.size)
  generalize hAe : va_A [] s.heap.size = A at hD ⊢
  have hA : ∀ q : Nat, s.heap.size ≤ q → A q := fun q h => by rw [← hAe]; exact Or.inr h
  have hS : va_S A s.heap s.heap [] := va_S.rf
  have hl := lv_entry ([.ref Br0, .int Va0]) (n := 2) (Nat.le_of_ble_eq_true rfl)
  rw [lg_entry_eq]
  generalize (lg_sl ([.ref Br0, .int Va0]) ++ List.replicate (2 - (lg_sl ([.ref Br0, .int Va0])).length) Slot.unset).toArray = ls at hl ⊢
  have hl : lv_has ls 2 [(0, .ref Br0), (1, .int Va0)] := hl
  refine lv_iload_n hx hb dX12_isPicture_0 rfl (lv_at hl 1 rfl) ?_
  refine lv_if_lt (tgt := 13) hx hb dX12_isPicture_1 (by decide) (fun c101 => ?_) (fun c101 => ?_)
  · skip
    refine lv_iconst (v := 0) hx hb dX12_isPicture_13 (by decide) ?_
    have hP9 := hP.sub (ws' := []) [] rfl
    have hD9 := hD.sub (ws' := []) [] (by decide) rfl
    have hK9 := hK.sub (tys' := []) [] rfl
    exact W.zret (v := 0) hx hb hr rfl (fun t ht hW => ⟨⟨0, (), rfl, (Or.inl ⟨c101, rfl⟩), by rw [ht]; exact hP9, va_K.moved hW.alike hK9, hD9⟩, hS.F ht⟩) hS.2.2 dX12_isPicture_14
  · skip
    refine lv_iload_n hx hb dX12_isPicture_4 rfl (lv_at hl 1 rfl) ?_
    refine lv_iconst (v := 4) hx hb dX12_isPicture_5 (by decide) ?_
    refine lv_icmp_ge (tgt := 13) hx hb dX12_isPicture_6 (by decide) (fun c102 => ?_) (fun c102 => ?_)
    · skip
      refine lv_iconst (v := 0) hx hb dX12_isPicture_13 (by decide) ?_
      have hP9 := hP.sub (ws' := []) [] rfl
      have hD9 := hD.sub (ws' := []) [] (by decide) rfl
      have hK9 := hK.sub (tys' := []) [] rfl
      exact W.zret (v := 0) hx hb hr rfl (fun t ht hW => ⟨⟨0, (), rfl, (Or.inr (Or.inl ⟨c101, c102, rfl⟩)), by rw [ht]; exact hP9, va_K.moved hW.alike hK9, hD9⟩, hS.F ht⟩) hS.2.2 dX12_isPicture_14
    · skip
      refine lv_iconst (v := 1) hx hb dX12_isPicture_9 (by decide) ?_
      refine lv_goto (tgt := 14) hx hb dX12_isPicture_10 (by decide) ?_
      have hP9 := hP.sub (ws' := []) [] rfl
      have hD9 := hD.sub (ws' := []) [] (by decide) rfl
      have hK9 := hK.sub (tys' := []) [] rfl
      exact W.zret (v := 1) hx hb hr rfl (fun t ht hW => ⟨⟨1, (), rfl, (Or.inr (Or.inr (⟨c101, c102, rfl⟩))), by rw [ht]; exact hP9, va_K.moved hW.alike hK9, hD9⟩, hS.F ht⟩) hS.2.2 dX12_isPicture_14

def l_z_X12_picture0 : List Cond := [.methodLink RX12 539 yX12_walkRoots, .instanceMethod yX12_walkRoots, .selects RX12 yX12_walkRoots yX12_walkRoots, .initialized RX12, .fieldLink RX12 183 "HeapWorksModel" "things" "[I", .fieldLink RX12 522 "HeapWorksModel" "walkedMany" "I", .fieldLink RX12 234 "HeapWorksModel" "rootMany" "[I", .fieldLink RX12 470 "HeapWorksModel" "toldMany" "I", .fieldLink RX12 413 "HeapWorksModel" "classes" "I", .code yX12_walkRoots cX12_walkRoots 2 none, .methodLink RX12 532 yX12_beginWalk, .instanceMethod yX12_beginWalk, .selects RX12 yX12_beginWalk yX12_beginWalk, .code yX12_beginWalk cX12_beginWalk 2 none, .fieldLink RX12 180 "HeapWorksModel" "placeIn" "[I"]
def w_z_X12_picture0 : List Cond := .code yX12_picture0 cX12_picture0 10 none :: (l_z_X12_picture0 ++ (wsX120))
theorem in_z_X12_picture0_X12 : ∀ w ∈ wsX120, w ∈ w_z_X12_picture0 := fun w h => List.mem_cons_of_mem _ (List.mem_append_right _ (h))
theorem g_z_X12_picture0_z_X12_walkRoots_539 : GoodIn w_z_X12_picture0 (wsV RX12 539 RX12 yX12_walkRoots w_z_X12_walkRoots) := goodIn_app (goodIn_r (([.methodLink RX12 539 yX12_walkRoots, .instanceMethod yX12_walkRoots, .selects RX12 yX12_walkRoots yX12_walkRoots, .initialized RX12] : List Cond)) [1, 2, 3, 4] rfl (by decide +kernel)) (goodIn_ca (goodIn_r (.code yX12_walkRoots cX12_walkRoots 2 none :: l_z_X12_walkRoots) [10, 11, 12, 13, 4, 8, 9, 6, 14, 15] rfl (by decide +kernel)) (goodIn_in (in_z_X12_picture0_X12) gd_X12))
set_option maxHeartbeats 4000000 in
set_option maxRecDepth 100000 in
theorem z_X12_picture0 (l : Launch) (dC : Nat → ClassId) (dI : Nat → Nat → Nat) (sz : Nat) (Ad0 : Nat) (Fs0 : List Value) (Ad1 : Nat) (Fa0 : Nat → Int32) (Ka0 : ClassId) (Ad2 : Nat) (Fa1 : Nat → Int32) (Ka1 : ClassId) (Ad3 : Nat) (Fa2 : Nat → Int32) (Ka2 : ClassId) (Va0 : Int32) (k_Fs0 : fh Fs0 150 [(20, .int 0), (31, .int 0), (46, .ref Ad1), (47, .int 0), (48, .ref Ad2), (65, .ref Ad3)]) (hz_Fa1 : ∀ j, Fa1 j = 0) (hz_Fa2 : ∀ j, Fa2 j = 0) (gv_Va0 : (0 : Int) ≤ Va0.toInt ∧ Va0.toInt ≤ 3) : Met l yX12_picture0 w_z_X12_picture0 ({ frames := 2, cells := 0, slots := 0, locals := 42 }) (va_Pc [.ref Ad0, .int Va0] (fun U => U.heap.size = sz ∧ Wd dC dI [(Ka0, .int), (Ka1, .int), (Ka2, .int)] (fun _ => True) [(Ad0, .inr (15, Fs0)), (Ad1, .inl (Ka0, 400, .inl Fa0)), (Ad2, .inl (Ka1, 5, .inl Fa1)), (Ad3, .inl (Ka2, 5, .inl Fa2))] U)) (va_Qv (fun (u : List Value × (Nat → Int32) × (Nat → Int32) × (Nat → Int32)) => (ow Fs0 (u.1) 150 [47] [(47, .int 0), (46, .ref Ad1), (20, .int 0), (31, .int 0), (46, .ref Ad1), (20, .int 0), (31, .int 0), (46, .ref Ad1), (48, .ref Ad2), (65, .ref Ad3)] ∧ (∀ j, (u.2.2.1) j = 0) ∧ (u.2.2.1) Va0.toNatClampNeg = 0 ∧ (∀ j, (u.2.2.2) j = 0) ∧ (u.2.2.2) Va0.toNatClampNeg = 0)) (fun (u : List Value × (Nat → Int32) × (Nat → Int32) × (Nat → Int32)) t => Wd dC dI [(Ka0, .int), (Ka1, .int), (Ka2, .int)] (va_A [(Ad0, .inr (15, Fs0)), (Ad1, .inl (Ka0, 400, .inl Fa0)), (Ad2, .inl (Ka1, 5, .inl Fa1)), (Ad3, .inl (Ka2, 5, .inl Fa2))] sz) [(Ad0, .inr (15, (u.1))), (Ad1, .inl (Ka0, 400, .inl ((u.2.1)))), (Ad2, .inl (Ka1, 5, .inl ((u.2.2.1)))), (Ad3, .inl (Ka2, 5, .inl ((u.2.2.2))))] t) (va_A [(Ad0, .inr (15, Fs0)), (Ad1, .inl (Ka0, 400, .inl Fa0)), (Ad2, .inl (Ka1, 5, .inl Fa1)), (Ad3, .inl (Ka2, 5, .inl Fa2))] sz))  0 0 (va_A [(Ad0, .inr (15, Fs0)), (Ad1, .inl (Ka0, 400, .inl Fa0)), (Ad2, .inl (Ka1, 5, .inl Fa1)), (Ad3, .inl (Ka2, 5, .inl Fa2))] sz) := by
  refine Met.ofW (cc := cX12_picture0) (maxL := 10) (ret := none) (by decide) rfl ?_
  intro p e s m args below meth c s₁ B hml hv
  obtain ⟨rfl, hsz, hP, hK, hD0⟩ := hv
  have hx := B.exec
  have hb := B.bytes
  have hr := B.returns
  have hts := atoms_spec (ws := w_z_X12_picture0) B.pre
  have hown : s.vm.findClass RX12 = some m.cls := findClass_of_methodNamed B.named
  have hlocks := B.notSynchronized
  subst hsz
  have hD := hD0.self (sz := s.heap.size)
  generalize hAe : va_A [(Ad0, .inr (15, Fs0)), (Ad1, .inl (Ka0, 400, .inl Fa0)), (Ad2, .inl (Ka1, 5, .inl Fa1)), (Ad3, .inl (Ka2, 5, .inl Fa2))] s.heap.size = A at hD ⊢
  have hA : ∀ q : Nat, s.heap.size ≤ q → A q := fun q h => by rw [← hAe]; exact Or.inr h
  have hS : va_S A s.heap s.heap [] := va_S.rf
  have hl := lv_entry ([.ref Ad0, .int Va0]) (n := 10) (Nat.le_of_ble_eq_true rfl)
  rw [lg_entry_eq]
  generalize (lg_sl ([.ref Ad0, .int Va0]) ++ List.replicate (10 - (lg_sl ([.ref Ad0, .int Va0])).length) Slot.unset).toArray = ls at hl ⊢
  have hl : lv_has ls 10 [(0, .ref Ad0), (1, .int Va0)] := hl
  have o_Fs0 := ow_0 k_Fs0
  refine lv_aload_n hx hb dX12_picture0_0 rfl (lv_at hl 0 rfl) ?_
  have hPc := hP.sub (ws' := [(Ad0, .inr (15, Fs0)), (Ad1, .inl (Ka0, 400, .inl Fa0))]) [0, 1] rfl
  have hDc := hD.sub (ws' := [(Ad0, .inr (15, Fs0)), (Ad1, .inl (Ka0, 400, .inl Fa0))]) [0, 1] (by decide) rfl
  have hKc := hK.sub (tys' := [(Ka0, .int)]) [0] rfl
  have hFc := va_free (wc := [(Ad0, .inr (15, Fs0)), (Ad1, .inl (Ka0, 400, .inl Fa0))]) hD hS hA [0, 1] rfl
  refine va_callv (va_runV (As := []) (rest := []) ⟨hx, hb, hml, hown, hts⟩ (z_X12_walkRoots l dC dI s.heap.size Ad0 Fs0 Ad1 Fa0 Ka0 (fh_sub o_Fs0.2 [0, 1, 2, 3] rfl) ) (cwV 0 hts g_z_X12_picture0_z_X12_walkRoots_539 rfl rfl rfl (by decide +kernel) ⟨Nat.le_of_ble_eq_true rfl, Nat.le_of_ble_eq_true rfl⟩) ⟨fun a U g mk q => by obtain ⟨q0, q1, qP, qK, qD⟩ := q; exact ⟨q0, q1, qP, va_K.moved (u := U) (U := U.calling g mk a) (Vm.Alike.refl U.vm) qK, qD⟩, va_recv hK hP (ci := 15) (q0 := 0) rfl rfl, fun U hU hW => ⟨rfl, by rw [hU], by rw [hU]; exact hPc, va_K.moved hW.alike hKc, hDc.weaken (fun _ _ _ _ => trivial)⟩⟩ rfl rfl hl.1 rfl (lv_room (Nat.le_of_ble_eq_true rfl)) dX12_picture0_1 ⟨Nat.le_of_ble_eq_true rfl, Nat.le_of_ble_eq_true rfl⟩) hS (fun q _ h => hFc q h) hFc (fun u t H1 locs ht hvm hw hB hz1 hk1 hS => ?_)
  obtain ⟨s101, f102⟩ := u
  obtain ⟨hP1, hK1, hD1⟩ := hB
  rw [ht] at hP1
  try dsimp only at hw
  obtain ⟨hP, hD⟩ := va_join (wr := [(Ad2, .inl (Ka1, 5, .inl Fa1)), (Ad3, .inl (Ka2, 5, .inl Fa2))]) (w1 := [(Ad0, .inr (15, s101)), (Ad1, .inl (Ka0, 400, .inl f102))]) hP hD [0, 1] [2, 3] rfl rfl (by decide) (by decide) hk1 hFc hP1 hD1
  have hK := hK.sub (tys' := [(Ka1, .int), (Ka2, .int), (Ka0, .int)]) [1, 2, 0] rfl
  generalize H1 = H at hP hS ⊢
  have hP : va_P (dC, dI) vwCl [(Ad2, .inl (Ka1, 5, .inl Fa1)), (Ad3, .inl (Ka2, 5, .inl Fa2)), (Ad0, .inr (15, s101)), (Ad1, .inl (Ka0, 400, .inl f102))] H := hP
  have hD : va_D A [(Ad2, .inl (Ka1, 5, .inl Fa1)), (Ad3, .inl (Ka2, 5, .inl Fa2)), (Ad0, .inr (15, s101)), (Ad1, .inl (Ka0, 400, .inl f102))] := hD
  have o_s101 := hw
  have o_s101 := ow_on o_Fs0 o_s101 (l' := [(47, .int 0), (46, .ref Ad1), (20, .int 0), (31, .int 0), (46, .ref Ad1), (20, .int 0), (31, .int 0), (46, .ref Ad1), (48, .ref Ad2), (65, .ref Ad3)]) (w' := [47]) rfl rfl
  refine lv_aload_n hx hb dX12_picture0_4 rfl (lv_at hl 0 rfl) ?_
  refine va_get (D := (dC, dI)) (ci := 15) (v := .ref Ad2) (C := RX12) (T := TX12) (N := 150) hx hb hts (in_z_X12_picture0_X12) hown hK hP 2 rfl rfl 48 (by decide) (hts (.fieldLink RX12 183 "HeapWorksModel" "things" "[I") (by decide +kernel)) (fun _ h9 => h9) (ow_at o_s101 8 rfl) dX12_picture0_5 ?_
  refine lv_iload_n hx hb dX12_picture0_8 rfl (lv_at hl 1 rfl) ?_
  refine lv_aload_n hx hb dX12_picture0_9 rfl (lv_at hl 0 rfl) ?_
  refine va_get (D := (dC, dI)) (ci := 15) (v := .int 0) (C := RX12) (T := TX12) (N := 150) hx hb hts (in_z_X12_picture0_X12) hown hK hP 2 rfl rfl 47 (by decide) (hts (.fieldLink RX12 522 "HeapWorksModel" "walkedMany" "I") (by decide +kernel)) (fun _ h9 => h9) (ow_at o_s101 0 rfl) dX12_picture0_10 ?_
  refine va_iast hx hb hK hP hD hS 0 0 rfl rfl (by rw [vp_in_iff]; (try simp only [i_lt, i_le, i_eq] at gv_Va0); omega) dX12_picture0_13 (fun H locs hP hD hS => ?_)
  have hP : va_P (dC, dI) vwCl [(Ad2, .inl (Ka1, 5, .inl (upd Fa1 (Va0 : Int32).toNatClampNeg 0))), (Ad3, .inl (Ka2, 5, .inl Fa2)), (Ad0, .inr (15, s101)), (Ad1, .inl (Ka0, 400, .inl f102))] H := hP
  have hD : va_D A [(Ad2, .inl (Ka1, 5, .inl (upd Fa1 (Va0 : Int32).toNatClampNeg 0))), (Ad3, .inl (Ka2, 5, .inl Fa2)), (Ad0, .inr (15, s101)), (Ad1, .inl (Ka0, 400, .inl f102))] := hD
  have q104 : (upd Fa1 (Va0 : Int32).toNatClampNeg 0) (Va0 : Int32).toNatClampNeg = 0 := pk_us
  have z105 : ∀ j, (upd Fa1 (Va0 : Int32).toNatClampNeg 0) j = 0 := az_up hz_Fa1 rfl
  generalize upd Fa1 (Va0 : Int32).toNatClampNeg 0 = f103 at hP hD q104 z105
  refine lv_aload_n hx hb dX12_picture0_14 rfl (lv_at hl 0 rfl) ?_
  refine va_get (D := (dC, dI)) (ci := 15) (v := .ref Ad3) (C := RX12) (T := TX12) (N := 150) hx hb hts (in_z_X12_picture0_X12) hown hK hP 2 rfl rfl 65 (by decide) (hts (.fieldLink RX12 234 "HeapWorksModel" "rootMany" "[I") (by decide +kernel)) (fun _ h9 => h9) (ow_at o_s101 9 rfl) dX12_picture0_15 ?_
  refine lv_iload_n hx hb dX12_picture0_18 rfl (lv_at hl 1 rfl) ?_
  refine lv_iconst (v := 0) hx hb dX12_picture0_19 (by decide) ?_
  refine va_iast hx hb hK hP hD hS 1 1 rfl rfl (by rw [vp_in_iff]; (try simp only [i_lt, i_le, i_eq] at gv_Va0); omega) dX12_picture0_20 (fun H locs hP hD hS => ?_)
  have hP : va_P (dC, dI) vwCl [(Ad2, .inl (Ka1, 5, .inl f103)), (Ad3, .inl (Ka2, 5, .inl (upd Fa2 (Va0 : Int32).toNatClampNeg 0))), (Ad0, .inr (15, s101)), (Ad1, .inl (Ka0, 400, .inl f102))] H := hP
  have hD : va_D A [(Ad2, .inl (Ka1, 5, .inl f103)), (Ad3, .inl (Ka2, 5, .inl (upd Fa2 (Va0 : Int32).toNatClampNeg 0))), (Ad0, .inr (15, s101)), (Ad1, .inl (Ka0, 400, .inl f102))] := hD
  have q107 : (upd Fa2 (Va0 : Int32).toNatClampNeg 0) (Va0 : Int32).toNatClampNeg = 0 := pk_us
  have z108 : ∀ j, (upd Fa2 (Va0 : Int32).toNatClampNeg 0) j = 0 := az_up hz_Fa2 rfl
  generalize upd Fa2 (Va0 : Int32).toNatClampNeg 0 = f106 at hP hD q107 z108
  refine lv_aload_n hx hb dX12_picture0_21 rfl (lv_at hl 0 rfl) ?_
  refine va_get (D := (dC, dI)) (ci := 15) (v := .int 0) (C := RX12) (T := TX12) (N := 150) hx hb hts (in_z_X12_picture0_X12) hown hK hP 2 rfl rfl 31 (by decide) (hts (.fieldLink RX12 470 "HeapWorksModel" "toldMany" "I") (by decide +kernel)) (fun _ h9 => h9) (ow_at o_s101 3 rfl) dX12_picture0_22 ?_
  refine lv_istore_n (lv' := [(2, .int 0), (0, .ref Ad0), (1, .int Va0)]) hx hb dX12_picture0_25 rfl hl (by decide) rfl (fun ls hl => ?_)
  refine lv_iconst (v := 0) hx hb dX12_picture0_26 (by decide) ?_
  refine lv_istore_n (lv' := [(3, .int 0), (2, .int 0), (0, .ref Ad0), (1, .int Va0)]) hx hb dX12_picture0_27 rfl hl (by decide) rfl (fun ls hl => ?_)
  refine lv_iload_n hx hb dX12_picture0_28 rfl (lv_at hl 0 rfl) ?_
  refine lv_aload_n hx hb dX12_picture0_29 rfl (lv_at hl 2 rfl) ?_
  refine va_get (D := (dC, dI)) (ci := 15) (v := .int 0) (C := RX12) (T := TX12) (N := 150) hx hb hts (in_z_X12_picture0_X12) hown hK hP 2 rfl rfl 31 (by decide) (hts (.fieldLink RX12 470 "HeapWorksModel" "toldMany" "I") (by decide +kernel)) (fun _ h9 => h9) (ow_at o_s101 3 rfl) dX12_picture0_30 ?_
  refine lv_icmp_ge (tgt := 59) hx hb dX12_picture0_33 (by decide) (fun c109 => ?_) (fun c109 => absurd c109 (by decide))
  refine lv_iconst (v := 0) hx hb dX12_picture0_59 (by decide) ?_
  refine lv_istore_n (lv' := [(3, .int 0), (2, .int 0), (0, .ref Ad0), (1, .int Va0)]) hx hb dX12_picture0_60 rfl hl (by decide) rfl (fun ls hl => ?_)
  refine lv_iload_n hx hb dX12_picture0_61 rfl (lv_at hl 0 rfl) ?_
  refine lv_bipush (v := 6) hx hb dX12_picture0_62 (by decide) ?_
  refine lv_aload_n hx hb dX12_picture0_64 rfl (lv_at hl 2 rfl) ?_
  refine va_get (D := (dC, dI)) (ci := 15) (v := .int 0) (C := RX12) (T := TX12) (N := 150) hx hb hts (in_z_X12_picture0_X12) hown hK hP 2 rfl rfl 20 (by decide) (hts (.fieldLink RX12 413 "HeapWorksModel" "classes" "I") (by decide +kernel)) (fun _ h9 => h9) (ow_at o_s101 2 rfl) dX12_picture0_65 ?_
  refine lv_imul hx hb dX12_picture0_68  ?_
  refine lv_topi (fun x110 ex110 => ?_)
  obtain rfl : x110 = 0 := ex110.trans (by decide)
  refine lv_icmp_ge (tgt := 123) hx hb dX12_picture0_69 (by decide) (fun c111 => ?_) (fun c111 => absurd c111 (by decide))
  refine lv_iconst (v := 0) hx hb dX12_picture0_123 (by decide) ?_
  refine lv_istore_n (lv' := [(3, .int 0), (2, .int 0), (0, .ref Ad0), (1, .int Va0)]) hx hb dX12_picture0_124 rfl hl (by decide) rfl (fun ls hl => ?_)
  refine lv_iconst (v := 0) hx hb dX12_picture0_125 (by decide) ?_
  refine lv_istore (lv' := [(4, .int 0), (3, .int 0), (2, .int 0), (0, .ref Ad0), (1, .int Va0)]) hx hb dX12_picture0_126 hl (by decide) rfl (fun ls hl => ?_)
  refine lv_iload hx hb dX12_picture0_128 (lv_at hl 0 rfl) ?_
  refine lv_aload_n hx hb dX12_picture0_130 rfl (lv_at hl 3 rfl) ?_
  refine va_get (D := (dC, dI)) (ci := 15) (v := .int 0) (C := RX12) (T := TX12) (N := 150) hx hb hts (in_z_X12_picture0_X12) hown hK hP 2 rfl rfl 47 (by decide) (hts (.fieldLink RX12 522 "HeapWorksModel" "walkedMany" "I") (by decide +kernel)) (fun _ h9 => h9) (ow_at o_s101 0 rfl) dX12_picture0_131 ?_
  refine lv_icmp_ge (tgt := 324) hx hb dX12_picture0_134 (by decide) (fun c112 => ?_) (fun c112 => absurd c112 (by decide))
  have hP9 := hP.sub (ws' := [(Ad0, .inr (15, s101)), (Ad1, .inl (Ka0, 400, .inl f102)), (Ad2, .inl (Ka1, 5, .inl f103)), (Ad3, .inl (Ka2, 5, .inl f106))]) [2, 3, 0, 1] rfl
  have hD9 := hD.sub (ws' := [(Ad0, .inr (15, s101)), (Ad1, .inl (Ka0, 400, .inl f102)), (Ad2, .inl (Ka1, 5, .inl f103)), (Ad3, .inl (Ka2, 5, .inl f106))]) [2, 3, 0, 1] (by decide) rfl
  have hK9 := hK.sub (tys' := [(Ka0, .int), (Ka1, .int), (Ka2, .int)]) [2, 0, 1] rfl
  exact W.vret hx hb hr (fun t ht hW => ⟨⟨(s101, f102, f103, f106), rfl, ⟨o_s101, z105, q104, z108, q107⟩, by rw [ht]; exact hP9, va_K.moved hW.alike hK9, hD9⟩, hS.F ht⟩) hS.2.2 dX12_picture0_324

def l_z_X12_findWays : List Cond := [.fieldLink RX12 183 "HeapWorksModel" "things" "[I", .fieldLink RX12 234 "HeapWorksModel" "rootMany" "[I"]
def w_z_X12_findWays : List Cond := .code yX12_findWays cX12_findWays 5 none :: (l_z_X12_findWays ++ (wsX120))
theorem in_z_X12_findWays_X12 : ∀ w ∈ wsX120, w ∈ w_z_X12_findWays := fun w h => List.mem_cons_of_mem _ (List.mem_append_right _ (h))
set_option maxHeartbeats 4000000 in
set_option maxRecDepth 100000 in
theorem z_X12_findWays (l : Launch) (dC : Nat → ClassId) (dI : Nat → Nat → Nat) (sz : Nat) (Ad0 : Nat) (Fs0 : List Value) (Ad1 : Nat) (Fa0 : Nat → Int32) (Ka0 : ClassId) (Ad2 : Nat) (Fa1 : Nat → Int32) (Ka1 : ClassId) (Va0 : Int32) (k_Fs0 : fh Fs0 150 [(48, .ref Ad1), (65, .ref Ad2), (48, .ref Ad1), (65, .ref Ad2)]) (hk0_Fa0 : Fa0 Va0.toNatClampNeg = 0) (hk1_Fa1 : Fa1 Va0.toNatClampNeg = 0) (gv_Va0 : (0 : Int) ≤ Va0.toInt ∧ Va0.toInt ≤ 3) : Met l yX12_findWays w_z_X12_findWays ({ frames := 0, cells := 0, slots := 0, locals := 0 }) (va_Pc [.ref Ad0, .int Va0] (fun U => U.heap.size = sz ∧ Wd dC dI [(Ka0, .int), (Ka1, .int)] (fun _ => True) [(Ad0, .inr (15, Fs0)), (Ad1, .inl (Ka0, 5, .inl Fa0)), (Ad2, .inl (Ka1, 5, .inl Fa1))] U)) (va_Qv (fun (u : Unit) => True) (fun (u : Unit) t => Wd dC dI [(Ka0, .int), (Ka1, .int)] (va_A [(Ad0, .inr (15, Fs0)), (Ad1, .inl (Ka0, 5, .inl Fa0)), (Ad2, .inl (Ka1, 5, .inl Fa1))] sz) [(Ad0, .inr (15, Fs0)), (Ad1, .inl (Ka0, 5, .inl Fa0)), (Ad2, .inl (Ka1, 5, .inl Fa1))] t) (va_A [(Ad0, .inr (15, Fs0)), (Ad1, .inl (Ka0, 5, .inl Fa0)), (Ad2, .inl (Ka1, 5, .inl Fa1))] sz))  0 0 (va_A [(Ad0, .inr (15, Fs0)), (Ad1, .inl (Ka0, 5, .inl Fa0)), (Ad2, .inl (Ka1, 5, .inl Fa1))] sz) := by
  refine Met.ofW (cc := cX12_findWays) (maxL := 5) (ret := none) (by decide) rfl ?_
  intro p e s m args below meth c s₁ B hml hv
  obtain ⟨rfl, hsz, hP, hK, hD0⟩ := hv
  have hx := B.exec
  have hb := B.bytes
  have hr := B.returns
  have hts := atoms_spec (ws := w_z_X12_findWays) B.pre
  have hown : s.vm.findClass RX12 = some m.cls := findClass_of_methodNamed B.named
  have hlocks := B.notSynchronized
  subst hsz
  have hD := hD0.self (sz := s.heap.size)
  generalize hAe : va_A [(Ad0, .inr (15, Fs0)), (Ad1, .inl (Ka0, 5, .inl Fa0)), (Ad2, .inl (Ka1, 5, .inl Fa1))] s.heap.size = A at hD ⊢
  have hA : ∀ q : Nat, s.heap.size ≤ q → A q := fun q h => by rw [← hAe]; exact Or.inr h
  have hS : va_S A s.heap s.heap [] := va_S.rf
  have hl := lv_entry ([.ref Ad0, .int Va0]) (n := 5) (Nat.le_of_ble_eq_true rfl)
  rw [lg_entry_eq]
  generalize (lg_sl ([.ref Ad0, .int Va0]) ++ List.replicate (5 - (lg_sl ([.ref Ad0, .int Va0])).length) Slot.unset).toArray = ls at hl ⊢
  have hl : lv_has ls 5 [(0, .ref Ad0), (1, .int Va0)] := hl
  have o_Fs0 := ow_0 k_Fs0
  refine lv_iconst (v := 0) hx hb dX12_findWays_0 (by decide) ?_
  refine lv_istore_n (lv' := [(2, .int 0), (0, .ref Ad0), (1, .int Va0)]) hx hb dX12_findWays_1 rfl hl (by decide) rfl (fun ls hl => ?_)
  refine lv_iload_n hx hb dX12_findWays_2 rfl (lv_at hl 0 rfl) ?_
  refine lv_aload_n hx hb dX12_findWays_3 rfl (lv_at hl 1 rfl) ?_
  refine va_get (D := (dC, dI)) (ci := 15) (v := .ref Ad1) (C := RX12) (T := TX12) (N := 150) hx hb hts (in_z_X12_findWays_X12) hown hK hP 0 rfl rfl 48 (by decide) (hts (.fieldLink RX12 183 "HeapWorksModel" "things" "[I") (by decide +kernel)) (fun _ h9 => h9) (ow_at o_Fs0 0 rfl) dX12_findWays_4 ?_
  refine lv_iload_n hx hb dX12_findWays_7 rfl (lv_at hl 2 rfl) ?_
  refine va_iald hx hb hK hP 1 0 rfl rfl (by rw [vp_in_iff]; (try simp only [i_lt, i_le, i_eq] at gv_Va0); omega) dX12_findWays_8 ?_
  refine lv_topi (fun x101 ex101 => ?_)
  obtain rfl : 0 = x101 := (ex101.trans hk0_Fa0).symm
  refine lv_icmp_ge (tgt := 25) hx hb dX12_findWays_9 (by decide) (fun c102 => ?_) (fun c102 => absurd c102 (by decide))
  refine lv_iconst (v := 0) hx hb dX12_findWays_25 (by decide) ?_
  refine lv_istore_n (lv' := [(2, .int 0), (0, .ref Ad0), (1, .int Va0)]) hx hb dX12_findWays_26 rfl hl (by decide) rfl (fun ls hl => ?_)
  refine lv_iload_n hx hb dX12_findWays_27 rfl (lv_at hl 0 rfl) ?_
  refine lv_aload_n hx hb dX12_findWays_28 rfl (lv_at hl 1 rfl) ?_
  refine va_get (D := (dC, dI)) (ci := 15) (v := .ref Ad2) (C := RX12) (T := TX12) (N := 150) hx hb hts (in_z_X12_findWays_X12) hown hK hP 0 rfl rfl 65 (by decide) (hts (.fieldLink RX12 234 "HeapWorksModel" "rootMany" "[I") (by decide +kernel)) (fun _ h9 => h9) (ow_at o_Fs0 1 rfl) dX12_findWays_29 ?_
  refine lv_iload_n hx hb dX12_findWays_32 rfl (lv_at hl 2 rfl) ?_
  refine va_iald hx hb hK hP 2 1 rfl rfl (by rw [vp_in_iff]; (try simp only [i_lt, i_le, i_eq] at gv_Va0); omega) dX12_findWays_33 ?_
  refine lv_topi (fun x103 ex103 => ?_)
  obtain rfl : 0 = x103 := (ex103.trans hk1_Fa1).symm
  refine lv_icmp_ge (tgt := 122) hx hb dX12_findWays_34 (by decide) (fun c104 => ?_) (fun c104 => absurd c104 (by decide))
  refine lv_iconst (v := 0) hx hb dX12_findWays_122 (by decide) ?_
  refine lv_istore_n (lv' := [(2, .int 0), (0, .ref Ad0), (1, .int Va0)]) hx hb dX12_findWays_123 rfl hl (by decide) rfl (fun ls hl => ?_)
  refine lv_iload_n hx hb dX12_findWays_124 rfl (lv_at hl 0 rfl) ?_
  refine lv_aload_n hx hb dX12_findWays_125 rfl (lv_at hl 1 rfl) ?_
  refine va_get (D := (dC, dI)) (ci := 15) (v := .ref Ad1) (C := RX12) (T := TX12) (N := 150) hx hb hts (in_z_X12_findWays_X12) hown hK hP 0 rfl rfl 48 (by decide) (hts (.fieldLink RX12 183 "HeapWorksModel" "things" "[I") (by decide +kernel)) (fun _ h9 => h9) (ow_at o_Fs0 0 rfl) dX12_findWays_126 ?_
  refine lv_iload_n hx hb dX12_findWays_129 rfl (lv_at hl 2 rfl) ?_
  refine va_iald hx hb hK hP 1 0 rfl rfl (by rw [vp_in_iff]; (try simp only [i_lt, i_le, i_eq] at gv_Va0); omega) dX12_findWays_130 ?_
  refine lv_topi (fun x105 ex105 => ?_)
  obtain rfl : 0 = x105 := (ex105.trans hk0_Fa0).symm
  refine lv_icmp_ge (tgt := 260) hx hb dX12_findWays_131 (by decide) (fun c106 => ?_) (fun c106 => absurd c106 (by decide))
  have hP9 := hP.sub (ws' := [(Ad0, .inr (15, Fs0)), (Ad1, .inl (Ka0, 5, .inl Fa0)), (Ad2, .inl (Ka1, 5, .inl Fa1))]) [0, 1, 2] rfl
  have hD9 := hD.sub (ws' := [(Ad0, .inr (15, Fs0)), (Ad1, .inl (Ka0, 5, .inl Fa0)), (Ad2, .inl (Ka1, 5, .inl Fa1))]) [0, 1, 2] (by decide) rfl
  have hK9 := hK.sub (tys' := [(Ka0, .int), (Ka1, .int)]) [0, 1] rfl
  exact W.vret hx hb hr (fun t ht hW => ⟨⟨(), rfl, trivial, by rw [ht]; exact hP9, va_K.moved hW.alike hK9, hD9⟩, hS.F ht⟩) hS.2.2 dX12_findWays_260

def l_z_X12_findDominators : List Cond := [.fieldLink RX12 183 "HeapWorksModel" "things" "[I"]
def w_z_X12_findDominators : List Cond := .code yX12_findDominators cX12_findDominators 7 none :: (l_z_X12_findDominators ++ (wsX120))
theorem in_z_X12_findDominators_X12 : ∀ w ∈ wsX120, w ∈ w_z_X12_findDominators := fun w h => List.mem_cons_of_mem _ (List.mem_append_right _ (h))
set_option maxHeartbeats 4000000 in
set_option maxRecDepth 100000 in
theorem z_X12_findDominators (l : Launch) (dC : Nat → ClassId) (dI : Nat → Nat → Nat) (sz : Nat) (Ad0 : Nat) (Fs0 : List Value) (Ad1 : Nat) (Fa0 : Nat → Int32) (Ka0 : ClassId) (Va0 : Int32) (k_Fs0 : fh Fs0 150 [(48, .ref Ad1), (48, .ref Ad1)]) (hk0_Fa0 : Fa0 Va0.toNatClampNeg = 0) (gv_Va0 : (0 : Int) ≤ Va0.toInt ∧ Va0.toInt ≤ 3) : Met l yX12_findDominators w_z_X12_findDominators ({ frames := 0, cells := 0, slots := 0, locals := 0 }) (va_Pc [.ref Ad0, .int Va0] (fun U => U.heap.size = sz ∧ Wd dC dI [(Ka0, .int)] (fun _ => True) [(Ad0, .inr (15, Fs0)), (Ad1, .inl (Ka0, 5, .inl Fa0))] U)) (va_Qv (fun (u : Unit) => True) (fun (u : Unit) t => Wd dC dI [(Ka0, .int)] (va_A [(Ad0, .inr (15, Fs0)), (Ad1, .inl (Ka0, 5, .inl Fa0))] sz) [(Ad0, .inr (15, Fs0)), (Ad1, .inl (Ka0, 5, .inl Fa0))] t) (va_A [(Ad0, .inr (15, Fs0)), (Ad1, .inl (Ka0, 5, .inl Fa0))] sz))  0 0 (va_A [(Ad0, .inr (15, Fs0)), (Ad1, .inl (Ka0, 5, .inl Fa0))] sz) := by
  refine Met.ofW (cc := cX12_findDominators) (maxL := 7) (ret := none) (by decide) rfl ?_
  intro p e s m args below meth c s₁ B hml hv
  obtain ⟨rfl, hsz, hP, hK, hD0⟩ := hv
  have hx := B.exec
  have hb := B.bytes
  have hr := B.returns
  have hts := atoms_spec (ws := w_z_X12_findDominators) B.pre
  have hown : s.vm.findClass RX12 = some m.cls := findClass_of_methodNamed B.named
  have hlocks := B.notSynchronized
  subst hsz
  have hD := hD0.self (sz := s.heap.size)
  generalize hAe : va_A [(Ad0, .inr (15, Fs0)), (Ad1, .inl (Ka0, 5, .inl Fa0))] s.heap.size = A at hD ⊢
  have hA : ∀ q : Nat, s.heap.size ≤ q → A q := fun q h => by rw [← hAe]; exact Or.inr h
  have hS : va_S A s.heap s.heap [] := va_S.rf
  have hl := lv_entry ([.ref Ad0, .int Va0]) (n := 7) (Nat.le_of_ble_eq_true rfl)
  rw [lg_entry_eq]
  generalize (lg_sl ([.ref Ad0, .int Va0]) ++ List.replicate (7 - (lg_sl ([.ref Ad0, .int Va0])).length) Slot.unset).toArray = ls at hl ⊢
  have hl : lv_has ls 7 [(0, .ref Ad0), (1, .int Va0)] := hl
  have o_Fs0 := ow_0 k_Fs0
  refine lv_iconst (v := 0) hx hb dX12_findDominators_0 (by decide) ?_
  refine lv_istore_n (lv' := [(2, .int 0), (0, .ref Ad0), (1, .int Va0)]) hx hb dX12_findDominators_1 rfl hl (by decide) rfl (fun ls hl => ?_)
  refine lv_iload_n hx hb dX12_findDominators_2 rfl (lv_at hl 0 rfl) ?_
  refine lv_aload_n hx hb dX12_findDominators_3 rfl (lv_at hl 1 rfl) ?_
  refine va_get (D := (dC, dI)) (ci := 15) (v := .ref Ad1) (C := RX12) (T := TX12) (N := 150) hx hb hts (in_z_X12_findDominators_X12) hown hK hP 0 rfl rfl 48 (by decide) (hts (.fieldLink RX12 183 "HeapWorksModel" "things" "[I") (by decide +kernel)) (fun _ h9 => h9) (ow_at o_Fs0 0 rfl) dX12_findDominators_4 ?_
  refine lv_iload_n hx hb dX12_findDominators_7 rfl (lv_at hl 2 rfl) ?_
  refine va_iald hx hb hK hP 1 0 rfl rfl (by rw [vp_in_iff]; (try simp only [i_lt, i_le, i_eq] at gv_Va0); omega) dX12_findDominators_8 ?_
  refine lv_topi (fun x101 ex101 => ?_)
  obtain rfl : 0 = x101 := (ex101.trans hk0_Fa0).symm
  refine lv_icmp_ge (tgt := 30) hx hb dX12_findDominators_9 (by decide) (fun c102 => ?_) (fun c102 => absurd c102 (by decide))
  refine lv_iconst (v := 0) hx hb dX12_findDominators_30 (by decide) ?_
  refine lv_istore_n (lv' := [(2, .int 0), (0, .ref Ad0), (1, .int Va0)]) hx hb dX12_findDominators_31 rfl hl (by decide) rfl (fun ls hl => ?_)
  refine lv_iload_n hx hb dX12_findDominators_32 rfl (lv_at hl 0 rfl) ?_
  refine lv_aload_n hx hb dX12_findDominators_33 rfl (lv_at hl 1 rfl) ?_
  refine va_get (D := (dC, dI)) (ci := 15) (v := .ref Ad1) (C := RX12) (T := TX12) (N := 150) hx hb hts (in_z_X12_findDominators_X12) hown hK hP 0 rfl rfl 48 (by decide) (hts (.fieldLink RX12 183 "HeapWorksModel" "things" "[I") (by decide +kernel)) (fun _ h9 => h9) (ow_at o_Fs0 0 rfl) dX12_findDominators_34 ?_
  refine lv_iload_n hx hb dX12_findDominators_37 rfl (lv_at hl 2 rfl) ?_
  refine va_iald hx hb hK hP 1 0 rfl rfl (by rw [vp_in_iff]; (try simp only [i_lt, i_le, i_eq] at gv_Va0); omega) dX12_findDominators_38 ?_
  refine lv_topi (fun x103 ex103 => ?_)
  obtain rfl : 0 = x103 := (ex103.trans hk0_Fa0).symm
  refine lv_icmp_ge (tgt := 238) hx hb dX12_findDominators_39 (by decide) (fun c104 => ?_) (fun c104 => absurd c104 (by decide))
  have hP9 := hP.sub (ws' := [(Ad0, .inr (15, Fs0)), (Ad1, .inl (Ka0, 5, .inl Fa0))]) [0, 1] rfl
  have hD9 := hD.sub (ws' := [(Ad0, .inr (15, Fs0)), (Ad1, .inl (Ka0, 5, .inl Fa0))]) [0, 1] (by decide) rfl
  have hK9 := hK.sub (tys' := [(Ka0, .int)]) [0] rfl
  exact W.vret hx hb hr (fun t ht hW => ⟨⟨(), rfl, trivial, by rw [ht]; exact hP9, va_K.moved hW.alike hK9, hD9⟩, hS.F ht⟩) hS.2.2 dX12_findDominators_238

def l_z_X12_findRings : List Cond := [.fieldLink RX12 183 "HeapWorksModel" "things" "[I", .fieldLink RX12 228 "HeapWorksModel" "ringMany" "[I"]
def w_z_X12_findRings : List Cond := .code yX12_findRings cX12_findRings 5 none :: (l_z_X12_findRings ++ (wsX120))
theorem in_z_X12_findRings_X12 : ∀ w ∈ wsX120, w ∈ w_z_X12_findRings := fun w h => List.mem_cons_of_mem _ (List.mem_append_right _ (h))
set_option maxHeartbeats 4000000 in
set_option maxRecDepth 100000 in
theorem z_X12_findRings (l : Launch) (dC : Nat → ClassId) (dI : Nat → Nat → Nat) (sz : Nat) (Ad0 : Nat) (Fa0 : Nat → Int32) (Ka0 : ClassId) (Ad1 : Nat) (Fs0 : List Value) (Ad2 : Nat) (Fa1 : Nat → Int32) (Ka1 : ClassId) (Va0 : Int32) (k_Fs0 : fh Fs0 150 [(48, .ref Ad2), (48, .ref Ad2), (63, .ref Ad0)]) (hz_Fa0 : ∀ j, Fa0 j = 0) (hk1_Fa1 : Fa1 Va0.toNatClampNeg = 0) (gv_Va0 : (0 : Int) ≤ Va0.toInt ∧ Va0.toInt ≤ 3) : Met l yX12_findRings w_z_X12_findRings ({ frames := 0, cells := 0, slots := 0, locals := 0 }) (va_Pc [.ref Ad1, .int Va0] (fun U => U.heap.size = sz ∧ Wd dC dI [(Ka0, .int), (Ka1, .int)] (fun _ => True) [(Ad0, .inl (Ka0, 5, .inl Fa0)), (Ad1, .inr (15, Fs0)), (Ad2, .inl (Ka1, 5, .inl Fa1))] U)) (va_Qv (fun (u : (Nat → Int32)) => ((∀ j, (u) j = 0) ∧ (u) Va0.toNatClampNeg = 0)) (fun (u : (Nat → Int32)) t => Wd dC dI [(Ka0, .int), (Ka1, .int)] (va_A [(Ad0, .inl (Ka0, 5, .inl Fa0)), (Ad1, .inr (15, Fs0)), (Ad2, .inl (Ka1, 5, .inl Fa1))] sz) [(Ad0, .inl (Ka0, 5, .inl ((u)))), (Ad1, .inr (15, Fs0)), (Ad2, .inl (Ka1, 5, .inl Fa1))] t) (va_A [(Ad0, .inl (Ka0, 5, .inl Fa0)), (Ad1, .inr (15, Fs0)), (Ad2, .inl (Ka1, 5, .inl Fa1))] sz))  0 0 (va_A [(Ad0, .inl (Ka0, 5, .inl Fa0)), (Ad1, .inr (15, Fs0)), (Ad2, .inl (Ka1, 5, .inl Fa1))] sz) := by
  refine Met.ofW (cc := cX12_findRings) (maxL := 5) (ret := none) (by decide) rfl ?_
  intro p e s m args below meth c s₁ B hml hv
  obtain ⟨rfl, hsz, hP, hK, hD0⟩ := hv
  have hx := B.exec
  have hb := B.bytes
  have hr := B.returns
  have hts := atoms_spec (ws := w_z_X12_findRings) B.pre
  have hown : s.vm.findClass RX12 = some m.cls := findClass_of_methodNamed B.named
  have hlocks := B.notSynchronized
  subst hsz
  have hD := hD0.self (sz := s.heap.size)
  generalize hAe : va_A [(Ad0, .inl (Ka0, 5, .inl Fa0)), (Ad1, .inr (15, Fs0)), (Ad2, .inl (Ka1, 5, .inl Fa1))] s.heap.size = A at hD ⊢
  have hA : ∀ q : Nat, s.heap.size ≤ q → A q := fun q h => by rw [← hAe]; exact Or.inr h
  have hS : va_S A s.heap s.heap [] := va_S.rf
  have hl := lv_entry ([.ref Ad1, .int Va0]) (n := 5) (Nat.le_of_ble_eq_true rfl)
  rw [lg_entry_eq]
  generalize (lg_sl ([.ref Ad1, .int Va0]) ++ List.replicate (5 - (lg_sl ([.ref Ad1, .int Va0])).length) Slot.unset).toArray = ls at hl ⊢
  have hl : lv_has ls 5 [(0, .ref Ad1), (1, .int Va0)] := hl
  have o_Fs0 := ow_0 k_Fs0
  refine lv_aload_n hx hb dX12_findRings_0 rfl (lv_at hl 0 rfl) ?_
  refine va_get (D := (dC, dI)) (ci := 15) (v := .ref Ad2) (C := RX12) (T := TX12) (N := 150) hx hb hts (in_z_X12_findRings_X12) hown hK hP 1 rfl rfl 48 (by decide) (hts (.fieldLink RX12 183 "HeapWorksModel" "things" "[I") (by decide +kernel)) (fun _ h9 => h9) (ow_at o_Fs0 0 rfl) dX12_findRings_1 ?_
  refine lv_iload_n hx hb dX12_findRings_4 rfl (lv_at hl 1 rfl) ?_
  refine va_iald hx hb hK hP 2 1 rfl rfl (by rw [vp_in_iff]; (try simp only [i_lt, i_le, i_eq] at gv_Va0); omega) dX12_findRings_5 ?_
  refine lv_topi (fun x101 ex101 => ?_)
  obtain rfl : 0 = x101 := (ex101.trans hk1_Fa1).symm
  refine lv_istore_n (lv' := [(2, .int 0), (0, .ref Ad1), (1, .int Va0)]) hx hb dX12_findRings_6 rfl hl (by decide) rfl (fun ls hl => ?_)
  refine lv_iconst (v := 0) hx hb dX12_findRings_7 (by decide) ?_
  refine lv_istore_n (lv' := [(3, .int 0), (2, .int 0), (0, .ref Ad1), (1, .int Va0)]) hx hb dX12_findRings_8 rfl hl (by decide) rfl (fun ls hl => ?_)
  refine lv_iload_n hx hb dX12_findRings_9 rfl (lv_at hl 0 rfl) ?_
  refine lv_iload_n hx hb dX12_findRings_10 rfl (lv_at hl 1 rfl) ?_
  refine lv_icmp_ge (tgt := 75) hx hb dX12_findRings_11 (by decide) (fun c102 => ?_) (fun c102 => absurd c102 (by decide))
  refine lv_aload_n hx hb dX12_findRings_75 rfl (lv_at hl 2 rfl) ?_
  refine va_get (D := (dC, dI)) (ci := 15) (v := .ref Ad0) (C := RX12) (T := TX12) (N := 150) hx hb hts (in_z_X12_findRings_X12) hown hK hP 1 rfl rfl 63 (by decide) (hts (.fieldLink RX12 228 "HeapWorksModel" "ringMany" "[I") (by decide +kernel)) (fun _ h9 => h9) (ow_at o_Fs0 2 rfl) dX12_findRings_76 ?_
  refine lv_iload_n hx hb dX12_findRings_79 rfl (lv_at hl 3 rfl) ?_
  refine lv_iconst (v := 0) hx hb dX12_findRings_80 (by decide) ?_
  refine va_iast hx hb hK hP hD hS 0 0 rfl rfl (by rw [vp_in_iff]; (try simp only [i_lt, i_le, i_eq] at gv_Va0); omega) dX12_findRings_81 (fun H locs hP hD hS => ?_)
  have hP : va_P (dC, dI) vwCl [(Ad0, .inl (Ka0, 5, .inl (upd Fa0 (Va0 : Int32).toNatClampNeg 0))), (Ad1, .inr (15, Fs0)), (Ad2, .inl (Ka1, 5, .inl Fa1))] H := hP
  have hD : va_D A [(Ad0, .inl (Ka0, 5, .inl (upd Fa0 (Va0 : Int32).toNatClampNeg 0))), (Ad1, .inr (15, Fs0)), (Ad2, .inl (Ka1, 5, .inl Fa1))] := hD
  have q104 : (upd Fa0 (Va0 : Int32).toNatClampNeg 0) (Va0 : Int32).toNatClampNeg = 0 := pk_us
  have z105 : ∀ j, (upd Fa0 (Va0 : Int32).toNatClampNeg 0) j = 0 := az_up hz_Fa0 rfl
  generalize upd Fa0 (Va0 : Int32).toNatClampNeg 0 = f103 at hP hD q104 z105
  refine lv_iconst (v := 0) hx hb dX12_findRings_82 (by decide) ?_
  refine lv_istore_n (lv' := [(3, .int 0), (2, .int 0), (0, .ref Ad1), (1, .int Va0)]) hx hb dX12_findRings_83 rfl hl (by decide) rfl (fun ls hl => ?_)
  refine lv_iload_n hx hb dX12_findRings_84 rfl (lv_at hl 0 rfl) ?_
  refine lv_iload_n hx hb dX12_findRings_85 rfl (lv_at hl 1 rfl) ?_
  refine lv_icmp_ge (tgt := 203) hx hb dX12_findRings_86 (by decide) (fun c106 => ?_) (fun c106 => absurd c106 (by decide))
  have hP9 := hP.sub (ws' := [(Ad0, .inl (Ka0, 5, .inl f103)), (Ad1, .inr (15, Fs0)), (Ad2, .inl (Ka1, 5, .inl Fa1))]) [0, 1, 2] rfl
  have hD9 := hD.sub (ws' := [(Ad0, .inl (Ka0, 5, .inl f103)), (Ad1, .inr (15, Fs0)), (Ad2, .inl (Ka1, 5, .inl Fa1))]) [0, 1, 2] (by decide) rfl
  have hK9 := hK.sub (tys' := [(Ka0, .int), (Ka1, .int)]) [0, 1] rfl
  exact W.vret hx hb hr (fun t ht hW => ⟨⟨f103, rfl, ⟨z105, q104⟩, by rw [ht]; exact hP9, va_K.moved hW.alike hK9, hD9⟩, hS.F ht⟩) hS.2.2 dX12_findRings_203

def l_z_X12_findGroups : List Cond := [.fieldLink RX12 231 "HeapWorksModel" "groupMany" "[I", .fieldLink RX12 183 "HeapWorksModel" "things" "[I"]
def w_z_X12_findGroups : List Cond := .code yX12_findGroups cX12_findGroups 5 none :: (l_z_X12_findGroups ++ (wsX120))
theorem in_z_X12_findGroups_X12 : ∀ w ∈ wsX120, w ∈ w_z_X12_findGroups := fun w h => List.mem_cons_of_mem _ (List.mem_append_right _ (h))
set_option maxHeartbeats 4000000 in
set_option maxRecDepth 100000 in
theorem z_X12_findGroups (l : Launch) (dC : Nat → ClassId) (dI : Nat → Nat → Nat) (sz : Nat) (Ad0 : Nat) (Fa0 : Nat → Int32) (Ka0 : ClassId) (Ad1 : Nat) (Fs0 : List Value) (Ad2 : Nat) (Fa1 : Nat → Int32) (Ka1 : ClassId) (Va0 : Int32) (k_Fs0 : fh Fs0 150 [(48, .ref Ad2), (48, .ref Ad2), (64, .ref Ad0)]) (hz_Fa0 : ∀ j, Fa0 j = 0) (hk1_Fa1 : Fa1 Va0.toNatClampNeg = 0) (gv_Va0 : (0 : Int) ≤ Va0.toInt ∧ Va0.toInt ≤ 3) : Met l yX12_findGroups w_z_X12_findGroups ({ frames := 0, cells := 0, slots := 0, locals := 0 }) (va_Pc [.ref Ad1, .int Va0] (fun U => U.heap.size = sz ∧ Wd dC dI [(Ka0, .int), (Ka1, .int)] (fun _ => True) [(Ad0, .inl (Ka0, 5, .inl Fa0)), (Ad1, .inr (15, Fs0)), (Ad2, .inl (Ka1, 5, .inl Fa1))] U)) (va_Qv (fun (u : (Nat → Int32)) => ((∀ j, (u) j = 0) ∧ (u) Va0.toNatClampNeg = 0)) (fun (u : (Nat → Int32)) t => Wd dC dI [(Ka0, .int), (Ka1, .int)] (va_A [(Ad0, .inl (Ka0, 5, .inl Fa0)), (Ad1, .inr (15, Fs0)), (Ad2, .inl (Ka1, 5, .inl Fa1))] sz) [(Ad0, .inl (Ka0, 5, .inl ((u)))), (Ad1, .inr (15, Fs0)), (Ad2, .inl (Ka1, 5, .inl Fa1))] t) (va_A [(Ad0, .inl (Ka0, 5, .inl Fa0)), (Ad1, .inr (15, Fs0)), (Ad2, .inl (Ka1, 5, .inl Fa1))] sz))  0 0 (va_A [(Ad0, .inl (Ka0, 5, .inl Fa0)), (Ad1, .inr (15, Fs0)), (Ad2, .inl (Ka1, 5, .inl Fa1))] sz) := by
  refine Met.ofW (cc := cX12_findGroups) (maxL := 5) (ret := none) (by decide) rfl ?_
  intro p e s m args below meth c s₁ B hml hv
  obtain ⟨rfl, hsz, hP, hK, hD0⟩ := hv
  have hx := B.exec
  have hb := B.bytes
  have hr := B.returns
  have hts := atoms_spec (ws := w_z_X12_findGroups) B.pre
  have hown : s.vm.findClass RX12 = some m.cls := findClass_of_methodNamed B.named
  have hlocks := B.notSynchronized
  subst hsz
  have hD := hD0.self (sz := s.heap.size)
  generalize hAe : va_A [(Ad0, .inl (Ka0, 5, .inl Fa0)), (Ad1, .inr (15, Fs0)), (Ad2, .inl (Ka1, 5, .inl Fa1))] s.heap.size = A at hD ⊢
  have hA : ∀ q : Nat, s.heap.size ≤ q → A q := fun q h => by rw [← hAe]; exact Or.inr h
  have hS : va_S A s.heap s.heap [] := va_S.rf
  have hl := lv_entry ([.ref Ad1, .int Va0]) (n := 5) (Nat.le_of_ble_eq_true rfl)
  rw [lg_entry_eq]
  generalize (lg_sl ([.ref Ad1, .int Va0]) ++ List.replicate (5 - (lg_sl ([.ref Ad1, .int Va0])).length) Slot.unset).toArray = ls at hl ⊢
  have hl : lv_has ls 5 [(0, .ref Ad1), (1, .int Va0)] := hl
  have o_Fs0 := ow_0 k_Fs0
  refine lv_aload_n hx hb dX12_findGroups_0 rfl (lv_at hl 0 rfl) ?_
  refine va_get (D := (dC, dI)) (ci := 15) (v := .ref Ad0) (C := RX12) (T := TX12) (N := 150) hx hb hts (in_z_X12_findGroups_X12) hown hK hP 1 rfl rfl 64 (by decide) (hts (.fieldLink RX12 231 "HeapWorksModel" "groupMany" "[I") (by decide +kernel)) (fun _ h9 => h9) (ow_at o_Fs0 2 rfl) dX12_findGroups_1 ?_
  refine lv_iload_n hx hb dX12_findGroups_4 rfl (lv_at hl 1 rfl) ?_
  refine lv_iconst (v := 0) hx hb dX12_findGroups_5 (by decide) ?_
  refine va_iast hx hb hK hP hD hS 0 0 rfl rfl (by rw [vp_in_iff]; (try simp only [i_lt, i_le, i_eq] at gv_Va0); omega) dX12_findGroups_6 (fun H locs hP hD hS => ?_)
  have hP : va_P (dC, dI) vwCl [(Ad0, .inl (Ka0, 5, .inl (upd Fa0 (Va0 : Int32).toNatClampNeg 0))), (Ad1, .inr (15, Fs0)), (Ad2, .inl (Ka1, 5, .inl Fa1))] H := hP
  have hD : va_D A [(Ad0, .inl (Ka0, 5, .inl (upd Fa0 (Va0 : Int32).toNatClampNeg 0))), (Ad1, .inr (15, Fs0)), (Ad2, .inl (Ka1, 5, .inl Fa1))] := hD
  have q102 : (upd Fa0 (Va0 : Int32).toNatClampNeg 0) (Va0 : Int32).toNatClampNeg = 0 := pk_us
  have z103 : ∀ j, (upd Fa0 (Va0 : Int32).toNatClampNeg 0) j = 0 := az_up hz_Fa0 rfl
  generalize upd Fa0 (Va0 : Int32).toNatClampNeg 0 = f101 at hP hD q102 z103
  refine lv_iconst (v := 0) hx hb dX12_findGroups_7 (by decide) ?_
  refine lv_istore_n (lv' := [(2, .int 0), (0, .ref Ad1), (1, .int Va0)]) hx hb dX12_findGroups_8 rfl hl (by decide) rfl (fun ls hl => ?_)
  refine lv_iload_n hx hb dX12_findGroups_9 rfl (lv_at hl 0 rfl) ?_
  refine lv_aload_n hx hb dX12_findGroups_10 rfl (lv_at hl 1 rfl) ?_
  refine va_get (D := (dC, dI)) (ci := 15) (v := .ref Ad2) (C := RX12) (T := TX12) (N := 150) hx hb hts (in_z_X12_findGroups_X12) hown hK hP 1 rfl rfl 48 (by decide) (hts (.fieldLink RX12 183 "HeapWorksModel" "things" "[I") (by decide +kernel)) (fun _ h9 => h9) (ow_at o_Fs0 0 rfl) dX12_findGroups_11 ?_
  refine lv_iload_n hx hb dX12_findGroups_14 rfl (lv_at hl 2 rfl) ?_
  refine va_iald hx hb hK hP 2 1 rfl rfl (by rw [vp_in_iff]; (try simp only [i_lt, i_le, i_eq] at gv_Va0); omega) dX12_findGroups_15 ?_
  refine lv_topi (fun x104 ex104 => ?_)
  obtain rfl : 0 = x104 := (ex104.trans hk1_Fa1).symm
  refine lv_icmp_ge (tgt := 37) hx hb dX12_findGroups_16 (by decide) (fun c105 => ?_) (fun c105 => absurd c105 (by decide))
  refine lv_iconst (v := 0) hx hb dX12_findGroups_37 (by decide) ?_
  refine lv_istore_n (lv' := [(2, .int 0), (0, .ref Ad1), (1, .int Va0)]) hx hb dX12_findGroups_38 rfl hl (by decide) rfl (fun ls hl => ?_)
  refine lv_iload_n hx hb dX12_findGroups_39 rfl (lv_at hl 0 rfl) ?_
  refine lv_aload_n hx hb dX12_findGroups_40 rfl (lv_at hl 1 rfl) ?_
  refine va_get (D := (dC, dI)) (ci := 15) (v := .ref Ad2) (C := RX12) (T := TX12) (N := 150) hx hb hts (in_z_X12_findGroups_X12) hown hK hP 1 rfl rfl 48 (by decide) (hts (.fieldLink RX12 183 "HeapWorksModel" "things" "[I") (by decide +kernel)) (fun _ h9 => h9) (ow_at o_Fs0 0 rfl) dX12_findGroups_41 ?_
  refine lv_iload_n hx hb dX12_findGroups_44 rfl (lv_at hl 2 rfl) ?_
  refine va_iald hx hb hK hP 2 1 rfl rfl (by rw [vp_in_iff]; (try simp only [i_lt, i_le, i_eq] at gv_Va0); omega) dX12_findGroups_45 ?_
  refine lv_topi (fun x106 ex106 => ?_)
  obtain rfl : 0 = x106 := (ex106.trans hk1_Fa1).symm
  refine lv_icmp_ge (tgt := 181) hx hb dX12_findGroups_46 (by decide) (fun c107 => ?_) (fun c107 => absurd c107 (by decide))
  have hP9 := hP.sub (ws' := [(Ad0, .inl (Ka0, 5, .inl f101)), (Ad1, .inr (15, Fs0)), (Ad2, .inl (Ka1, 5, .inl Fa1))]) [0, 1, 2] rfl
  have hD9 := hD.sub (ws' := [(Ad0, .inl (Ka0, 5, .inl f101)), (Ad1, .inr (15, Fs0)), (Ad2, .inl (Ka1, 5, .inl Fa1))]) [0, 1, 2] (by decide) rfl
  have hK9 := hK.sub (tys' := [(Ka0, .int), (Ka1, .int)]) [0, 1] rfl
  exact W.vret hx hb hr (fun t ht hW => ⟨⟨f101, rfl, ⟨z103, q102⟩, by rw [ht]; exact hP9, va_K.moved hW.alike hK9, hD9⟩, hS.F ht⟩) hS.2.2 dX12_findGroups_181

def l_z_X12_study : List Cond := [.fieldLink RX12 225 "HeapWorksModel" "lostMany" "[I", .fieldLink RX12 183 "HeapWorksModel" "things" "[I", .methodLink RX12 558 yX12_findWays, .instanceMethod yX12_findWays, .selects RX12 yX12_findWays yX12_findWays, .initialized RX12, .methodLink RX12 561 yX12_findDominators, .instanceMethod yX12_findDominators, .selects RX12 yX12_findDominators yX12_findDominators, .methodLink RX12 564 yX12_findRings, .instanceMethod yX12_findRings, .selects RX12 yX12_findRings yX12_findRings, .methodLink RX12 567 yX12_findGroups, .instanceMethod yX12_findGroups, .selects RX12 yX12_findGroups yX12_findGroups, .code yX12_findWays cX12_findWays 5 none, .fieldLink RX12 234 "HeapWorksModel" "rootMany" "[I", .code yX12_findDominators cX12_findDominators 7 none, .code yX12_findRings cX12_findRings 5 none, .fieldLink RX12 228 "HeapWorksModel" "ringMany" "[I", .code yX12_findGroups cX12_findGroups 5 none, .fieldLink RX12 231 "HeapWorksModel" "groupMany" "[I"]
def w_z_X12_study : List Cond := .code yX12_study cX12_study 3 none :: (l_z_X12_study ++ (wsX120))
theorem in_z_X12_study_X12 : ∀ w ∈ wsX120, w ∈ w_z_X12_study := fun w h => List.mem_cons_of_mem _ (List.mem_append_right _ (h))
theorem g_z_X12_study_z_X12_findWays_558 : GoodIn w_z_X12_study (wsV RX12 558 RX12 yX12_findWays w_z_X12_findWays) := goodIn_app (goodIn_r (([.methodLink RX12 558 yX12_findWays, .instanceMethod yX12_findWays, .selects RX12 yX12_findWays yX12_findWays, .initialized RX12] : List Cond)) [3, 4, 5, 6] rfl (by decide +kernel)) (goodIn_ca (goodIn_r (.code yX12_findWays cX12_findWays 5 none :: l_z_X12_findWays) [16, 2, 17] rfl (by decide +kernel)) (goodIn_in (in_z_X12_study_X12) gd_X12))
theorem g_z_X12_study_z_X12_findDominators_561 : GoodIn w_z_X12_study (wsV RX12 561 RX12 yX12_findDominators w_z_X12_findDominators) := goodIn_app (goodIn_r (([.methodLink RX12 561 yX12_findDominators, .instanceMethod yX12_findDominators, .selects RX12 yX12_findDominators yX12_findDominators, .initialized RX12] : List Cond)) [7, 8, 9, 6] rfl (by decide +kernel)) (goodIn_ca (goodIn_r (.code yX12_findDominators cX12_findDominators 7 none :: l_z_X12_findDominators) [18, 2] rfl (by decide +kernel)) (goodIn_in (in_z_X12_study_X12) gd_X12))
theorem g_z_X12_study_z_X12_findRings_564 : GoodIn w_z_X12_study (wsV RX12 564 RX12 yX12_findRings w_z_X12_findRings) := goodIn_app (goodIn_r (([.methodLink RX12 564 yX12_findRings, .instanceMethod yX12_findRings, .selects RX12 yX12_findRings yX12_findRings, .initialized RX12] : List Cond)) [10, 11, 12, 6] rfl (by decide +kernel)) (goodIn_ca (goodIn_r (.code yX12_findRings cX12_findRings 5 none :: l_z_X12_findRings) [19, 2, 20] rfl (by decide +kernel)) (goodIn_in (in_z_X12_study_X12) gd_X12))
theorem g_z_X12_study_z_X12_findGroups_567 : GoodIn w_z_X12_study (wsV RX12 567 RX12 yX12_findGroups w_z_X12_findGroups) := goodIn_app (goodIn_r (([.methodLink RX12 567 yX12_findGroups, .instanceMethod yX12_findGroups, .selects RX12 yX12_findGroups yX12_findGroups, .initialized RX12] : List Cond)) [13, 14, 15, 6] rfl (by decide +kernel)) (goodIn_ca (goodIn_r (.code yX12_findGroups cX12_findGroups 5 none :: l_z_X12_findGroups) [21, 22, 2] rfl (by decide +kernel)) (goodIn_in (in_z_X12_study_X12) gd_X12))
set_option maxHeartbeats 4000000 in
set_option maxRecDepth 100000 in
theorem z_X12_study (l : Launch) (dC : Nat → ClassId) (dI : Nat → Nat → Nat) (sz : Nat) (Ad0 : Nat) (Fa0 : Nat → Int32) (Ka0 : ClassId) (Ad1 : Nat) (Fa1 : Nat → Int32) (Ka1 : ClassId) (Ad2 : Nat) (Fa2 : Nat → Int32) (Ka2 : ClassId) (Ad3 : Nat) (Fs0 : List Value) (Ad4 : Nat) (Fa3 : Nat → Int32) (Ka3 : ClassId) (Ad5 : Nat) (Fa4 : Nat → Int32) (Ka4 : ClassId) (Va0 : Int32) (k_Fs0 : fh Fs0 150 [(48, .ref Ad4), (65, .ref Ad5), (48, .ref Ad4), (62, .ref Ad0), (63, .ref Ad1), (64, .ref Ad2), (65, .ref Ad5)]) (hz_Fa0 : ∀ j, Fa0 j = 0) (hz_Fa1 : ∀ j, Fa1 j = 0) (hz_Fa2 : ∀ j, Fa2 j = 0) (hk3_Fa3 : Fa3 Va0.toNatClampNeg = 0) (hk4_Fa4 : Fa4 Va0.toNatClampNeg = 0) (gv_Va0 : (0 : Int) ≤ Va0.toInt ∧ Va0.toInt ≤ 3) : Met l yX12_study w_z_X12_study ({ frames := 1, cells := 0, slots := 0, locals := 26 }) (va_Pc [.ref Ad3, .int Va0] (fun U => U.heap.size = sz ∧ Wd dC dI [(Ka0, .int), (Ka1, .int), (Ka2, .int), (Ka3, .int), (Ka4, .int)] (fun _ => True) [(Ad0, .inl (Ka0, 5, .inl Fa0)), (Ad1, .inl (Ka1, 5, .inl Fa1)), (Ad2, .inl (Ka2, 5, .inl Fa2)), (Ad3, .inr (15, Fs0)), (Ad4, .inl (Ka3, 5, .inl Fa3)), (Ad5, .inl (Ka4, 5, .inl Fa4))] U)) (va_Qv (fun (u : (Nat → Int32) × (Nat → Int32) × (Nat → Int32)) => ((∀ j, (u.1) j = 0) ∧ (u.1) Va0.toNatClampNeg = 0 ∧ (∀ j, (u.2.1) j = 0) ∧ (u.2.1) Va0.toNatClampNeg = 0 ∧ (∀ j, (u.2.2) j = 0) ∧ (u.2.2) Va0.toNatClampNeg = 0)) (fun (u : (Nat → Int32) × (Nat → Int32) × (Nat → Int32)) t => Wd dC dI [(Ka0, .int), (Ka1, .int), (Ka2, .int), (Ka3, .int), (Ka4, .int)] (va_A [(Ad0, .inl (Ka0, 5, .inl Fa0)), (Ad1, .inl (Ka1, 5, .inl Fa1)), (Ad2, .inl (Ka2, 5, .inl Fa2)), (Ad3, .inr (15, Fs0)), (Ad4, .inl (Ka3, 5, .inl Fa3)), (Ad5, .inl (Ka4, 5, .inl Fa4))] sz) [(Ad0, .inl (Ka0, 5, .inl ((u.1)))), (Ad1, .inl (Ka1, 5, .inl ((u.2.1)))), (Ad2, .inl (Ka2, 5, .inl ((u.2.2)))), (Ad3, .inr (15, Fs0)), (Ad4, .inl (Ka3, 5, .inl Fa3)), (Ad5, .inl (Ka4, 5, .inl Fa4))] t) (va_A [(Ad0, .inl (Ka0, 5, .inl Fa0)), (Ad1, .inl (Ka1, 5, .inl Fa1)), (Ad2, .inl (Ka2, 5, .inl Fa2)), (Ad3, .inr (15, Fs0)), (Ad4, .inl (Ka3, 5, .inl Fa3)), (Ad5, .inl (Ka4, 5, .inl Fa4))] sz))  0 0 (va_A [(Ad0, .inl (Ka0, 5, .inl Fa0)), (Ad1, .inl (Ka1, 5, .inl Fa1)), (Ad2, .inl (Ka2, 5, .inl Fa2)), (Ad3, .inr (15, Fs0)), (Ad4, .inl (Ka3, 5, .inl Fa3)), (Ad5, .inl (Ka4, 5, .inl Fa4))] sz) := by
  refine Met.ofW (cc := cX12_study) (maxL := 3) (ret := none) (by decide) rfl ?_
  intro p e s m args below meth c s₁ B hml hv
  obtain ⟨rfl, hsz, hP, hK, hD0⟩ := hv
  have hx := B.exec
  have hb := B.bytes
  have hr := B.returns
  have hts := atoms_spec (ws := w_z_X12_study) B.pre
  have hown : s.vm.findClass RX12 = some m.cls := findClass_of_methodNamed B.named
  have hlocks := B.notSynchronized
  subst hsz
  have hD := hD0.self (sz := s.heap.size)
  generalize hAe : va_A [(Ad0, .inl (Ka0, 5, .inl Fa0)), (Ad1, .inl (Ka1, 5, .inl Fa1)), (Ad2, .inl (Ka2, 5, .inl Fa2)), (Ad3, .inr (15, Fs0)), (Ad4, .inl (Ka3, 5, .inl Fa3)), (Ad5, .inl (Ka4, 5, .inl Fa4))] s.heap.size = A at hD ⊢
  have hA : ∀ q : Nat, s.heap.size ≤ q → A q := fun q h => by rw [← hAe]; exact Or.inr h
  have hS : va_S A s.heap s.heap [] := va_S.rf
  have hl := lv_entry ([.ref Ad3, .int Va0]) (n := 3) (Nat.le_of_ble_eq_true rfl)
  rw [lg_entry_eq]
  generalize (lg_sl ([.ref Ad3, .int Va0]) ++ List.replicate (3 - (lg_sl ([.ref Ad3, .int Va0])).length) Slot.unset).toArray = ls at hl ⊢
  have hl : lv_has ls 3 [(0, .ref Ad3), (1, .int Va0)] := hl
  have o_Fs0 := ow_0 k_Fs0
  refine lv_aload_n hx hb dX12_study_0 rfl (lv_at hl 0 rfl) ?_
  refine va_get (D := (dC, dI)) (ci := 15) (v := .ref Ad0) (C := RX12) (T := TX12) (N := 150) hx hb hts (in_z_X12_study_X12) hown hK hP 3 rfl rfl 62 (by decide) (hts (.fieldLink RX12 225 "HeapWorksModel" "lostMany" "[I") (by decide +kernel)) (fun _ h9 => h9) (ow_at o_Fs0 3 rfl) dX12_study_1 ?_
  refine lv_iload_n hx hb dX12_study_4 rfl (lv_at hl 1 rfl) ?_
  refine lv_iconst (v := 0) hx hb dX12_study_5 (by decide) ?_
  refine va_iast hx hb hK hP hD hS 0 0 rfl rfl (by rw [vp_in_iff]; (try simp only [i_lt, i_le, i_eq] at gv_Va0); omega) dX12_study_6 (fun H locs hP hD hS => ?_)
  have hP : va_P (dC, dI) vwCl [(Ad0, .inl (Ka0, 5, .inl (upd Fa0 (Va0 : Int32).toNatClampNeg 0))), (Ad1, .inl (Ka1, 5, .inl Fa1)), (Ad2, .inl (Ka2, 5, .inl Fa2)), (Ad3, .inr (15, Fs0)), (Ad4, .inl (Ka3, 5, .inl Fa3)), (Ad5, .inl (Ka4, 5, .inl Fa4))] H := hP
  have hD : va_D A [(Ad0, .inl (Ka0, 5, .inl (upd Fa0 (Va0 : Int32).toNatClampNeg 0))), (Ad1, .inl (Ka1, 5, .inl Fa1)), (Ad2, .inl (Ka2, 5, .inl Fa2)), (Ad3, .inr (15, Fs0)), (Ad4, .inl (Ka3, 5, .inl Fa3)), (Ad5, .inl (Ka4, 5, .inl Fa4))] := hD
  have q102 : (upd Fa0 (Va0 : Int32).toNatClampNeg 0) (Va0 : Int32).toNatClampNeg = 0 := pk_us
  have z103 : ∀ j, (upd Fa0 (Va0 : Int32).toNatClampNeg 0) j = 0 := az_up hz_Fa0 rfl
  generalize upd Fa0 (Va0 : Int32).toNatClampNeg 0 = f101 at hP hD q102 z103
  refine lv_iconst (v := 0) hx hb dX12_study_7 (by decide) ?_
  refine lv_istore_n (lv' := [(2, .int 0), (0, .ref Ad3), (1, .int Va0)]) hx hb dX12_study_8 rfl hl (by decide) rfl (fun ls hl => ?_)
  refine lv_iload_n hx hb dX12_study_9 rfl (lv_at hl 0 rfl) ?_
  refine lv_aload_n hx hb dX12_study_10 rfl (lv_at hl 1 rfl) ?_
  refine va_get (D := (dC, dI)) (ci := 15) (v := .ref Ad4) (C := RX12) (T := TX12) (N := 150) hx hb hts (in_z_X12_study_X12) hown hK hP 3 rfl rfl 48 (by decide) (hts (.fieldLink RX12 183 "HeapWorksModel" "things" "[I") (by decide +kernel)) (fun _ h9 => h9) (ow_at o_Fs0 0 rfl) dX12_study_11 ?_
  refine lv_iload_n hx hb dX12_study_14 rfl (lv_at hl 2 rfl) ?_
  refine va_iald hx hb hK hP 4 3 rfl rfl (by rw [vp_in_iff]; (try simp only [i_lt, i_le, i_eq] at gv_Va0); omega) dX12_study_15 ?_
  refine lv_topi (fun x104 ex104 => ?_)
  obtain rfl : 0 = x104 := (ex104.trans hk3_Fa3).symm
  refine lv_icmp_ge (tgt := 37) hx hb dX12_study_16 (by decide) (fun c105 => ?_) (fun c105 => absurd c105 (by decide))
  refine lv_aload_n hx hb dX12_study_37 rfl (lv_at hl 1 rfl) ?_
  refine lv_iload_n hx hb dX12_study_38 rfl (lv_at hl 2 rfl) ?_
  have hPc := hP.sub (ws' := [(Ad3, .inr (15, Fs0)), (Ad4, .inl (Ka3, 5, .inl Fa3)), (Ad5, .inl (Ka4, 5, .inl Fa4))]) [3, 4, 5] rfl
  have hDc := hD.sub (ws' := [(Ad3, .inr (15, Fs0)), (Ad4, .inl (Ka3, 5, .inl Fa3)), (Ad5, .inl (Ka4, 5, .inl Fa4))]) [3, 4, 5] (by decide) rfl
  have hKc := hK.sub (tys' := [(Ka3, .int), (Ka4, .int)]) [3, 4] rfl
  have hFc := va_free (wc := [(Ad3, .inr (15, Fs0)), (Ad4, .inl (Ka3, 5, .inl Fa3)), (Ad5, .inl (Ka4, 5, .inl Fa4))]) hD hS hA [3, 4, 5] rfl
  refine va_callv (va_runV (As := [.int Va0]) (rest := []) ⟨hx, hb, hml, hown, hts⟩ (z_X12_findWays l dC dI H.size Ad3 Fs0 Ad4 Fa3 Ka3 Ad5 Fa4 Ka4 Va0 (fh_sub o_Fs0.2 [0, 1, 0, 1] rfl) hk3_Fa3 hk4_Fa4 (by (try simp only [i_lt, i_le, i_eq] at gv_Va0); omega)) (cwV 1 hts g_z_X12_study_z_X12_findWays_558 rfl rfl rfl (by decide +kernel) ⟨Nat.le_of_ble_eq_true rfl, Nat.le_of_ble_eq_true rfl⟩) ⟨fun a U g mk q => by obtain ⟨q0, q1, qP, qK, qD⟩ := q; exact ⟨q0, q1, qP, va_K.moved (u := U) (U := U.calling g mk a) (Vm.Alike.refl U.vm) qK, qD⟩, va_recv hK hP (ci := 15) (q0 := 3) rfl rfl, fun U hU hW => ⟨rfl, by rw [hU], by rw [hU]; exact hPc, va_K.moved hW.alike hKc, hDc.weaken (fun _ _ _ _ => trivial)⟩⟩ rfl rfl hl.1 rfl (lv_room (Nat.le_of_ble_eq_true rfl)) dX12_study_39 ⟨Nat.le_of_ble_eq_true rfl, Nat.le_of_ble_eq_true rfl⟩) hS (fun q _ h => hFc q h) hFc (fun u t H1 locs ht hvm hw hB hz1 hk1 hS => ?_)
  obtain ⟨hP1, hK1, hD1⟩ := hB
  rw [ht] at hP1
  try dsimp only at hw
  obtain ⟨hP, hD⟩ := va_join (wr := [(Ad0, .inl (Ka0, 5, .inl f101)), (Ad1, .inl (Ka1, 5, .inl Fa1)), (Ad2, .inl (Ka2, 5, .inl Fa2))]) (w1 := [(Ad3, .inr (15, Fs0)), (Ad4, .inl (Ka3, 5, .inl Fa3)), (Ad5, .inl (Ka4, 5, .inl Fa4))]) hP hD [3, 4, 5] [0, 1, 2] rfl rfl (by decide) (by decide) hk1 hFc hP1 hD1
  have hK := hK.sub (tys' := [(Ka0, .int), (Ka1, .int), (Ka2, .int), (Ka3, .int), (Ka4, .int)]) [0, 1, 2, 3, 4] rfl
  generalize H1 = H at hP hS ⊢
  have hP : va_P (dC, dI) vwCl [(Ad0, .inl (Ka0, 5, .inl f101)), (Ad1, .inl (Ka1, 5, .inl Fa1)), (Ad2, .inl (Ka2, 5, .inl Fa2)), (Ad3, .inr (15, Fs0)), (Ad4, .inl (Ka3, 5, .inl Fa3)), (Ad5, .inl (Ka4, 5, .inl Fa4))] H := hP
  have hD : va_D A [(Ad0, .inl (Ka0, 5, .inl f101)), (Ad1, .inl (Ka1, 5, .inl Fa1)), (Ad2, .inl (Ka2, 5, .inl Fa2)), (Ad3, .inr (15, Fs0)), (Ad4, .inl (Ka3, 5, .inl Fa3)), (Ad5, .inl (Ka4, 5, .inl Fa4))] := hD
  refine lv_aload_n hx hb dX12_study_42 rfl (lv_at hl 1 rfl) ?_
  refine lv_iload_n hx hb dX12_study_43 rfl (lv_at hl 2 rfl) ?_
  have hPc := hP.sub (ws' := [(Ad3, .inr (15, Fs0)), (Ad4, .inl (Ka3, 5, .inl Fa3))]) [3, 4] rfl
  have hDc := hD.sub (ws' := [(Ad3, .inr (15, Fs0)), (Ad4, .inl (Ka3, 5, .inl Fa3))]) [3, 4] (by decide) rfl
  have hKc := hK.sub (tys' := [(Ka3, .int)]) [3] rfl
  have hFc := va_free (wc := [(Ad3, .inr (15, Fs0)), (Ad4, .inl (Ka3, 5, .inl Fa3))]) hD hS hA [3, 4] rfl
  refine va_callv (va_runV (As := [.int Va0]) (rest := []) ⟨hx, hb, hml, hown, hts⟩ (z_X12_findDominators l dC dI H.size Ad3 Fs0 Ad4 Fa3 Ka3 Va0 (fh_sub o_Fs0.2 [0, 0] rfl) hk3_Fa3 (by (try simp only [i_lt, i_le, i_eq] at gv_Va0); omega)) (cwV 1 hts g_z_X12_study_z_X12_findDominators_561 rfl rfl rfl (by decide +kernel) ⟨Nat.le_of_ble_eq_true rfl, Nat.le_of_ble_eq_true rfl⟩) ⟨fun a U g mk q => by obtain ⟨q0, q1, qP, qK, qD⟩ := q; exact ⟨q0, q1, qP, va_K.moved (u := U) (U := U.calling g mk a) (Vm.Alike.refl U.vm) qK, qD⟩, va_recv hK hP (ci := 15) (q0 := 3) rfl rfl, fun U hU hW => ⟨rfl, by rw [hU], by rw [hU]; exact hPc, va_K.moved hW.alike hKc, hDc.weaken (fun _ _ _ _ => trivial)⟩⟩ rfl rfl hl.1 rfl (lv_room (Nat.le_of_ble_eq_true rfl)) dX12_study_44 ⟨Nat.le_of_ble_eq_true rfl, Nat.le_of_ble_eq_true rfl⟩) hS (fun q _ h => hFc q h) hFc (fun u t H1 locs ht hvm hw hB hz1 hk1 hS => ?_)
  obtain ⟨hP1, hK1, hD1⟩ := hB
  rw [ht] at hP1
  try dsimp only at hw
  obtain ⟨hP, hD⟩ := va_join (wr := [(Ad0, .inl (Ka0, 5, .inl f101)), (Ad1, .inl (Ka1, 5, .inl Fa1)), (Ad2, .inl (Ka2, 5, .inl Fa2)), (Ad5, .inl (Ka4, 5, .inl Fa4))]) (w1 := [(Ad3, .inr (15, Fs0)), (Ad4, .inl (Ka3, 5, .inl Fa3))]) hP hD [3, 4] [0, 1, 2, 5] rfl rfl (by decide) (by decide) hk1 hFc hP1 hD1
  have hK := hK.sub (tys' := [(Ka0, .int), (Ka1, .int), (Ka2, .int), (Ka4, .int), (Ka3, .int)]) [0, 1, 2, 4, 3] rfl
  generalize H1 = H at hP hS ⊢
  have hP : va_P (dC, dI) vwCl [(Ad0, .inl (Ka0, 5, .inl f101)), (Ad1, .inl (Ka1, 5, .inl Fa1)), (Ad2, .inl (Ka2, 5, .inl Fa2)), (Ad5, .inl (Ka4, 5, .inl Fa4)), (Ad3, .inr (15, Fs0)), (Ad4, .inl (Ka3, 5, .inl Fa3))] H := hP
  have hD : va_D A [(Ad0, .inl (Ka0, 5, .inl f101)), (Ad1, .inl (Ka1, 5, .inl Fa1)), (Ad2, .inl (Ka2, 5, .inl Fa2)), (Ad5, .inl (Ka4, 5, .inl Fa4)), (Ad3, .inr (15, Fs0)), (Ad4, .inl (Ka3, 5, .inl Fa3))] := hD
  refine lv_aload_n hx hb dX12_study_47 rfl (lv_at hl 1 rfl) ?_
  refine lv_iload_n hx hb dX12_study_48 rfl (lv_at hl 2 rfl) ?_
  have hPc := hP.sub (ws' := [(Ad1, .inl (Ka1, 5, .inl Fa1)), (Ad3, .inr (15, Fs0)), (Ad4, .inl (Ka3, 5, .inl Fa3))]) [1, 4, 5] rfl
  have hDc := hD.sub (ws' := [(Ad1, .inl (Ka1, 5, .inl Fa1)), (Ad3, .inr (15, Fs0)), (Ad4, .inl (Ka3, 5, .inl Fa3))]) [1, 4, 5] (by decide) rfl
  have hKc := hK.sub (tys' := [(Ka1, .int), (Ka3, .int)]) [1, 4] rfl
  have hFc := va_free (wc := [(Ad1, .inl (Ka1, 5, .inl Fa1)), (Ad3, .inr (15, Fs0)), (Ad4, .inl (Ka3, 5, .inl Fa3))]) hD hS hA [1, 4, 5] rfl
  refine va_callv (va_runV (As := [.int Va0]) (rest := []) ⟨hx, hb, hml, hown, hts⟩ (z_X12_findRings l dC dI H.size Ad1 Fa1 Ka1 Ad3 Fs0 Ad4 Fa3 Ka3 Va0 (fh_sub o_Fs0.2 [0, 0, 4] rfl) hz_Fa1 hk3_Fa3 (by (try simp only [i_lt, i_le, i_eq] at gv_Va0); omega)) (cwV 1 hts g_z_X12_study_z_X12_findRings_564 rfl rfl rfl (by decide +kernel) ⟨Nat.le_of_ble_eq_true rfl, Nat.le_of_ble_eq_true rfl⟩) ⟨fun a U g mk q => by obtain ⟨q0, q1, qP, qK, qD⟩ := q; exact ⟨q0, q1, qP, va_K.moved (u := U) (U := U.calling g mk a) (Vm.Alike.refl U.vm) qK, qD⟩, va_recv hK hP (ci := 15) (q0 := 4) rfl rfl, fun U hU hW => ⟨rfl, by rw [hU], by rw [hU]; exact hPc, va_K.moved hW.alike hKc, hDc.weaken (fun _ _ _ _ => trivial)⟩⟩ rfl rfl hl.1 rfl (lv_room (Nat.le_of_ble_eq_true rfl)) dX12_study_49 ⟨Nat.le_of_ble_eq_true rfl, Nat.le_of_ble_eq_true rfl⟩) hS (fun q _ h => hFc q h) hFc (fun u t H1 locs ht hvm hw hB hz1 hk1 hS => ?_)
  obtain ⟨f106, rfl⟩ : ∃ z, z = u := ⟨_, rfl⟩
  obtain ⟨hP1, hK1, hD1⟩ := hB
  rw [ht] at hP1
  try dsimp only at hw
  obtain ⟨hP, hD⟩ := va_join (wr := [(Ad0, .inl (Ka0, 5, .inl f101)), (Ad2, .inl (Ka2, 5, .inl Fa2)), (Ad5, .inl (Ka4, 5, .inl Fa4))]) (w1 := [(Ad1, .inl (Ka1, 5, .inl f106)), (Ad3, .inr (15, Fs0)), (Ad4, .inl (Ka3, 5, .inl Fa3))]) hP hD [1, 4, 5] [0, 2, 3] rfl rfl (by decide) (by decide) hk1 hFc hP1 hD1
  have hK := hK.sub (tys' := [(Ka0, .int), (Ka2, .int), (Ka4, .int), (Ka1, .int), (Ka3, .int)]) [0, 2, 3, 1, 4] rfl
  generalize H1 = H at hP hS ⊢
  have hP : va_P (dC, dI) vwCl [(Ad0, .inl (Ka0, 5, .inl f101)), (Ad2, .inl (Ka2, 5, .inl Fa2)), (Ad5, .inl (Ka4, 5, .inl Fa4)), (Ad1, .inl (Ka1, 5, .inl f106)), (Ad3, .inr (15, Fs0)), (Ad4, .inl (Ka3, 5, .inl Fa3))] H := hP
  have hD : va_D A [(Ad0, .inl (Ka0, 5, .inl f101)), (Ad2, .inl (Ka2, 5, .inl Fa2)), (Ad5, .inl (Ka4, 5, .inl Fa4)), (Ad1, .inl (Ka1, 5, .inl f106)), (Ad3, .inr (15, Fs0)), (Ad4, .inl (Ka3, 5, .inl Fa3))] := hD
  obtain ⟨q107, q108⟩ := hw
  refine lv_aload_n hx hb dX12_study_52 rfl (lv_at hl 1 rfl) ?_
  refine lv_iload_n hx hb dX12_study_53 rfl (lv_at hl 2 rfl) ?_
  have hPc := hP.sub (ws' := [(Ad2, .inl (Ka2, 5, .inl Fa2)), (Ad3, .inr (15, Fs0)), (Ad4, .inl (Ka3, 5, .inl Fa3))]) [1, 4, 5] rfl
  have hDc := hD.sub (ws' := [(Ad2, .inl (Ka2, 5, .inl Fa2)), (Ad3, .inr (15, Fs0)), (Ad4, .inl (Ka3, 5, .inl Fa3))]) [1, 4, 5] (by decide) rfl
  have hKc := hK.sub (tys' := [(Ka2, .int), (Ka3, .int)]) [1, 4] rfl
  have hFc := va_free (wc := [(Ad2, .inl (Ka2, 5, .inl Fa2)), (Ad3, .inr (15, Fs0)), (Ad4, .inl (Ka3, 5, .inl Fa3))]) hD hS hA [1, 4, 5] rfl
  refine va_callv (va_runV (As := [.int Va0]) (rest := []) ⟨hx, hb, hml, hown, hts⟩ (z_X12_findGroups l dC dI H.size Ad2 Fa2 Ka2 Ad3 Fs0 Ad4 Fa3 Ka3 Va0 (fh_sub o_Fs0.2 [0, 0, 5] rfl) hz_Fa2 hk3_Fa3 (by (try simp only [i_lt, i_le, i_eq] at gv_Va0); omega)) (cwV 1 hts g_z_X12_study_z_X12_findGroups_567 rfl rfl rfl (by decide +kernel) ⟨Nat.le_of_ble_eq_true rfl, Nat.le_of_ble_eq_true rfl⟩) ⟨fun a U g mk q => by obtain ⟨q0, q1, qP, qK, qD⟩ := q; exact ⟨q0, q1, qP, va_K.moved (u := U) (U := U.calling g mk a) (Vm.Alike.refl U.vm) qK, qD⟩, va_recv hK hP (ci := 15) (q0 := 4) rfl rfl, fun U hU hW => ⟨rfl, by rw [hU], by rw [hU]; exact hPc, va_K.moved hW.alike hKc, hDc.weaken (fun _ _ _ _ => trivial)⟩⟩ rfl rfl hl.1 rfl (lv_room (Nat.le_of_ble_eq_true rfl)) dX12_study_54 ⟨Nat.le_of_ble_eq_true rfl, Nat.le_of_ble_eq_true rfl⟩) hS (fun q _ h => hFc q h) hFc (fun u t H1 locs ht hvm hw hB hz1 hk1 hS => ?_)
  obtain ⟨f109, rfl⟩ : ∃ z, z = u := ⟨_, rfl⟩
  obtain ⟨hP1, hK1, hD1⟩ := hB
  rw [ht] at hP1
  try dsimp only at hw
  obtain ⟨hP, hD⟩ := va_join (wr := [(Ad0, .inl (Ka0, 5, .inl f101)), (Ad5, .inl (Ka4, 5, .inl Fa4)), (Ad1, .inl (Ka1, 5, .inl f106))]) (w1 := [(Ad2, .inl (Ka2, 5, .inl f109)), (Ad3, .inr (15, Fs0)), (Ad4, .inl (Ka3, 5, .inl Fa3))]) hP hD [1, 4, 5] [0, 2, 3] rfl rfl (by decide) (by decide) hk1 hFc hP1 hD1
  have hK := hK.sub (tys' := [(Ka0, .int), (Ka4, .int), (Ka1, .int), (Ka2, .int), (Ka3, .int)]) [0, 2, 3, 1, 4] rfl
  generalize H1 = H at hP hS ⊢
  have hP : va_P (dC, dI) vwCl [(Ad0, .inl (Ka0, 5, .inl f101)), (Ad5, .inl (Ka4, 5, .inl Fa4)), (Ad1, .inl (Ka1, 5, .inl f106)), (Ad2, .inl (Ka2, 5, .inl f109)), (Ad3, .inr (15, Fs0)), (Ad4, .inl (Ka3, 5, .inl Fa3))] H := hP
  have hD : va_D A [(Ad0, .inl (Ka0, 5, .inl f101)), (Ad5, .inl (Ka4, 5, .inl Fa4)), (Ad1, .inl (Ka1, 5, .inl f106)), (Ad2, .inl (Ka2, 5, .inl f109)), (Ad3, .inr (15, Fs0)), (Ad4, .inl (Ka3, 5, .inl Fa3))] := hD
  obtain ⟨q110, q111⟩ := hw
  have hP9 := hP.sub (ws' := [(Ad0, .inl (Ka0, 5, .inl f101)), (Ad1, .inl (Ka1, 5, .inl f106)), (Ad2, .inl (Ka2, 5, .inl f109)), (Ad3, .inr (15, Fs0)), (Ad4, .inl (Ka3, 5, .inl Fa3)), (Ad5, .inl (Ka4, 5, .inl Fa4))]) [0, 2, 3, 4, 5, 1] rfl
  have hD9 := hD.sub (ws' := [(Ad0, .inl (Ka0, 5, .inl f101)), (Ad1, .inl (Ka1, 5, .inl f106)), (Ad2, .inl (Ka2, 5, .inl f109)), (Ad3, .inr (15, Fs0)), (Ad4, .inl (Ka3, 5, .inl Fa3)), (Ad5, .inl (Ka4, 5, .inl Fa4))]) [0, 2, 3, 4, 5, 1] (by decide) rfl
  have hK9 := hK.sub (tys' := [(Ka0, .int), (Ka1, .int), (Ka2, .int), (Ka3, .int), (Ka4, .int)]) [0, 2, 3, 4, 1] rfl
  exact W.vret hx hb hr (fun t ht hW => ⟨⟨(f101, f106, f109), rfl, ⟨z103, q102, q107, q108, q110, q111⟩, by rw [ht]; exact hP9, va_K.moved hW.alike hK9, hD9⟩, hS.F ht⟩) hS.2.2 dX12_study_57

def l_z_X12_take : List Cond := [.methodLink RX12 542 yX12_isPicture, .instanceMethod yX12_isPicture, .selects RX12 yX12_isPicture yX12_isPicture, .initialized RX12, .fieldLink RX12 388 "HeapWorksModel" "thrown" "I", .methodLink RX12 552 yX12_picture0, .instanceMethod yX12_picture0, .selects RX12 yX12_picture0 yX12_picture0, .methodLink RX12 555 yX12_study, .instanceMethod yX12_study, .selects RX12 yX12_study yX12_study, .fieldLink RX12 183 "HeapWorksModel" "things" "[I", .code yX12_isPicture cX12_isPicture 2 (some .boolean), .code yX12_picture0 cX12_picture0 10 none, .methodLink RX12 539 yX12_walkRoots, .instanceMethod yX12_walkRoots, .selects RX12 yX12_walkRoots yX12_walkRoots, .fieldLink RX12 522 "HeapWorksModel" "walkedMany" "I", .fieldLink RX12 234 "HeapWorksModel" "rootMany" "[I", .fieldLink RX12 470 "HeapWorksModel" "toldMany" "I", .fieldLink RX12 413 "HeapWorksModel" "classes" "I", .code yX12_walkRoots cX12_walkRoots 2 none, .methodLink RX12 532 yX12_beginWalk, .instanceMethod yX12_beginWalk, .selects RX12 yX12_beginWalk yX12_beginWalk, .code yX12_beginWalk cX12_beginWalk 2 none, .fieldLink RX12 180 "HeapWorksModel" "placeIn" "[I", .code yX12_study cX12_study 3 none, .fieldLink RX12 225 "HeapWorksModel" "lostMany" "[I", .methodLink RX12 558 yX12_findWays, .instanceMethod yX12_findWays, .selects RX12 yX12_findWays yX12_findWays, .methodLink RX12 561 yX12_findDominators, .instanceMethod yX12_findDominators, .selects RX12 yX12_findDominators yX12_findDominators, .methodLink RX12 564 yX12_findRings, .instanceMethod yX12_findRings, .selects RX12 yX12_findRings yX12_findRings, .methodLink RX12 567 yX12_findGroups, .instanceMethod yX12_findGroups, .selects RX12 yX12_findGroups yX12_findGroups, .code yX12_findWays cX12_findWays 5 none, .code yX12_findDominators cX12_findDominators 7 none, .code yX12_findRings cX12_findRings 5 none, .fieldLink RX12 228 "HeapWorksModel" "ringMany" "[I", .code yX12_findGroups cX12_findGroups 5 none, .fieldLink RX12 231 "HeapWorksModel" "groupMany" "[I"]
def w_z_X12_take : List Cond := .code yX12_take cX12_take 2 (some .int) :: (l_z_X12_take ++ (wsX120))
theorem in_z_X12_take_X12 : ∀ w ∈ wsX120, w ∈ w_z_X12_take := fun w h => List.mem_cons_of_mem _ (List.mem_append_right _ (h))
theorem g_z_X12_take_z_X12_isPicture_542 : GoodIn w_z_X12_take (wsV RX12 542 RX12 yX12_isPicture w_z_X12_isPicture) := goodIn_app (goodIn_r (([.methodLink RX12 542 yX12_isPicture, .instanceMethod yX12_isPicture, .selects RX12 yX12_isPicture yX12_isPicture, .initialized RX12] : List Cond)) [1, 2, 3, 4] rfl (by decide +kernel)) (goodIn_r (.code yX12_isPicture cX12_isPicture 2 (some .boolean) :: l_z_X12_isPicture) [13] rfl (by decide +kernel))
theorem g_z_X12_take_z_X12_picture0_552 : GoodIn w_z_X12_take (wsV RX12 552 RX12 yX12_picture0 w_z_X12_picture0) := goodIn_app (goodIn_r (([.methodLink RX12 552 yX12_picture0, .instanceMethod yX12_picture0, .selects RX12 yX12_picture0 yX12_picture0, .initialized RX12] : List Cond)) [6, 7, 8, 4] rfl (by decide +kernel)) (goodIn_ca (goodIn_r (.code yX12_picture0 cX12_picture0 10 none :: l_z_X12_picture0) [14, 15, 16, 17, 4, 12, 18, 19, 20, 21, 22, 23, 24, 25, 26, 27] rfl (by decide +kernel)) (goodIn_in (in_z_X12_take_X12) gd_X12))
theorem g_z_X12_take_z_X12_study_555 : GoodIn w_z_X12_take (wsV RX12 555 RX12 yX12_study w_z_X12_study) := goodIn_app (goodIn_r (([.methodLink RX12 555 yX12_study, .instanceMethod yX12_study, .selects RX12 yX12_study yX12_study, .initialized RX12] : List Cond)) [9, 10, 11, 4] rfl (by decide +kernel)) (goodIn_ca (goodIn_r (.code yX12_study cX12_study 3 none :: l_z_X12_study) [28, 29, 12, 30, 31, 32, 4, 33, 34, 35, 36, 37, 38, 39, 40, 41, 42, 19, 43, 44, 45, 46, 47] rfl (by decide +kernel)) (goodIn_in (in_z_X12_take_X12) gd_X12))
set_option maxHeartbeats 4000000 in
set_option maxRecDepth 100000 in
theorem z_X12_take (l : Launch) (dC : Nat → ClassId) (dI : Nat → Nat → Nat) (sz : Nat) (Ad0 : Nat) (Fs0 : List Value) (Ad1 : Nat) (Fa0 : Nat → Int32) (Ka0 : ClassId) (Ad2 : Nat) (Fa1 : Nat → Int32) (Ka1 : ClassId) (Ad3 : Nat) (Fa2 : Nat → Int32) (Ka2 : ClassId) (Ad4 : Nat) (Fa3 : Nat → Int32) (Ka3 : ClassId) (Ad5 : Nat) (Fa4 : Nat → Int32) (Ka4 : ClassId) (Ad6 : Nat) (Fa5 : Nat → Int32) (Ka5 : ClassId) (Va0 : Int32) (k_Fs0 : fh Fs0 150 [(0, .int 0), (20, .int 0), (31, .int 0), (46, .ref Ad1), (47, .int 0), (48, .ref Ad2), (62, .ref Ad3), (63, .ref Ad4), (64, .ref Ad5), (65, .ref Ad6)]) (hz_Fa1 : ∀ j, Fa1 j = 0) (hz_Fa2 : ∀ j, Fa2 j = 0) (hz_Fa3 : ∀ j, Fa3 j = 0) (hz_Fa4 : ∀ j, Fa4 j = 0) (hz_Fa5 : ∀ j, Fa5 j = 0) : Met l yX12_take w_z_X12_take ({ frames := 3, cells := 0, slots := 0, locals := 71 }) (va_Pc [.ref Ad0, .int Va0] (fun U => U.heap.size = sz ∧ Wd dC dI [(Ka0, .int), (Ka1, .int), (Ka2, .int), (Ka3, .int), (Ka4, .int), (Ka5, .int)] (fun _ => True) [(Ad0, .inr (15, Fs0)), (Ad1, .inl (Ka0, 400, .inl Fa0)), (Ad2, .inl (Ka1, 5, .inl Fa1)), (Ad3, .inl (Ka2, 5, .inl Fa2)), (Ad4, .inl (Ka3, 5, .inl Fa3)), (Ad5, .inl (Ka4, 5, .inl Fa4)), (Ad6, .inl (Ka5, 5, .inl Fa5))] U)) (va_Qi (fun (r : Int32) (u : List Value × (Nat → Int32) × (Nat → Int32) × (Nat → Int32) × (Nat → Int32) × (Nat → Int32) × (Nat → Int32)) => (Va0 < 0 ∧ r = 0 ∧ ow Fs0 (u.1) 150 [0] [(0, .int 1), (20, .int 0), (31, .int 0), (46, .ref Ad1), (47, .int 0), (48, .ref Ad2), (62, .ref Ad3), (63, .ref Ad4), (64, .ref Ad5), (65, .ref Ad6)] ∧ (∀ j, (u.2.2.1) j = 0) ∧ (∀ j, (u.2.2.2.1) j = 0) ∧ (∀ j, (u.2.2.2.2.1) j = 0) ∧ (∀ j, (u.2.2.2.2.2.1) j = 0) ∧ (∀ j, (u.2.2.2.2.2.2) j = 0)) ∨ (¬ Va0 < 0 ∧ 4 ≤ Va0 ∧ r = 0 ∧ ow Fs0 (u.1) 150 [0] [(0, .int 1), (20, .int 0), (31, .int 0), (46, .ref Ad1), (47, .int 0), (48, .ref Ad2), (62, .ref Ad3), (63, .ref Ad4), (64, .ref Ad5), (65, .ref Ad6)] ∧ (∀ j, (u.2.2.1) j = 0) ∧ (∀ j, (u.2.2.2.1) j = 0) ∧ (∀ j, (u.2.2.2.2.1) j = 0) ∧ (∀ j, (u.2.2.2.2.2.1) j = 0) ∧ (∀ j, (u.2.2.2.2.2.2) j = 0)) ∨ (¬ Va0 < 0 ∧ ¬ 4 ≤ Va0 ∧ r = 0 ∧ ow Fs0 (u.1) 150 [47, 0] [(47, .int 0), (46, .ref Ad1), (20, .int 0), (31, .int 0), (46, .ref Ad1), (20, .int 0), (31, .int 0), (46, .ref Ad1), (48, .ref Ad2), (65, .ref Ad6), (0, .int 0), (20, .int 0), (31, .int 0), (46, .ref Ad1), (48, .ref Ad2), (62, .ref Ad3), (63, .ref Ad4), (64, .ref Ad5), (65, .ref Ad6)] ∧ (∀ j, (u.2.2.1) j = 0) ∧ (u.2.2.1) Va0.toNatClampNeg = 0 ∧ (∀ j, (u.2.2.2.1) j = 0) ∧ (u.2.2.2.1) Va0.toNatClampNeg = 0 ∧ (∀ j, (u.2.2.2.2.1) j = 0) ∧ (u.2.2.2.2.1) Va0.toNatClampNeg = 0 ∧ (∀ j, (u.2.2.2.2.2.1) j = 0) ∧ (u.2.2.2.2.2.1) Va0.toNatClampNeg = 0 ∧ (∀ j, (u.2.2.2.2.2.2) j = 0) ∧ (u.2.2.2.2.2.2) Va0.toNatClampNeg = 0)) (fun (u : List Value × (Nat → Int32) × (Nat → Int32) × (Nat → Int32) × (Nat → Int32) × (Nat → Int32) × (Nat → Int32)) t => Wd dC dI [(Ka0, .int), (Ka1, .int), (Ka2, .int), (Ka3, .int), (Ka4, .int), (Ka5, .int)] (va_A [(Ad0, .inr (15, Fs0)), (Ad1, .inl (Ka0, 400, .inl Fa0)), (Ad2, .inl (Ka1, 5, .inl Fa1)), (Ad3, .inl (Ka2, 5, .inl Fa2)), (Ad4, .inl (Ka3, 5, .inl Fa3)), (Ad5, .inl (Ka4, 5, .inl Fa4)), (Ad6, .inl (Ka5, 5, .inl Fa5))] sz) [(Ad0, .inr (15, (u.1))), (Ad1, .inl (Ka0, 400, .inl ((u.2.1)))), (Ad2, .inl (Ka1, 5, .inl ((u.2.2.1)))), (Ad3, .inl (Ka2, 5, .inl ((u.2.2.2.1)))), (Ad4, .inl (Ka3, 5, .inl ((u.2.2.2.2.1)))), (Ad5, .inl (Ka4, 5, .inl ((u.2.2.2.2.2.1)))), (Ad6, .inl (Ka5, 5, .inl ((u.2.2.2.2.2.2))))] t) (va_A [(Ad0, .inr (15, Fs0)), (Ad1, .inl (Ka0, 400, .inl Fa0)), (Ad2, .inl (Ka1, 5, .inl Fa1)), (Ad3, .inl (Ka2, 5, .inl Fa2)), (Ad4, .inl (Ka3, 5, .inl Fa3)), (Ad5, .inl (Ka4, 5, .inl Fa4)), (Ad6, .inl (Ka5, 5, .inl Fa5))] sz))  0 0 (va_A [(Ad0, .inr (15, Fs0)), (Ad1, .inl (Ka0, 400, .inl Fa0)), (Ad2, .inl (Ka1, 5, .inl Fa1)), (Ad3, .inl (Ka2, 5, .inl Fa2)), (Ad4, .inl (Ka3, 5, .inl Fa3)), (Ad5, .inl (Ka4, 5, .inl Fa4)), (Ad6, .inl (Ka5, 5, .inl Fa5))] sz) := by
  refine Met.ofW (cc := cX12_take) (maxL := 2) (ret := (some .int)) (by decide) rfl ?_
  intro p e s m args below meth c s₁ B hml hv
  obtain ⟨rfl, hsz, hP, hK, hD0⟩ := hv
  have hx := B.exec
  have hb := B.bytes
  have hr := B.returns
  have hts := atoms_spec (ws := w_z_X12_take) B.pre
  have hown : s.vm.findClass RX12 = some m.cls := findClass_of_methodNamed B.named
  have hlocks := B.notSynchronized
  subst hsz
  have hD := hD0.self (sz := s.heap.size)
  generalize hAe : va_A [(Ad0, .inr (15, Fs0)), (Ad1, .inl (Ka0, 400, .inl Fa0)), (Ad2, .inl (Ka1, 5, .inl Fa1)), (Ad3, .inl (Ka2, 5, .inl Fa2)), (Ad4, .inl (Ka3, 5, .inl Fa3)), (Ad5, .inl (Ka4, 5, .inl Fa4)), (Ad6, .inl (Ka5, 5, .inl Fa5))] s.heap.size = A at hD ⊢
  have hA : ∀ q : Nat, s.heap.size ≤ q → A q := fun q h => by rw [← hAe]; exact Or.inr h
  have hS : va_S A s.heap s.heap [] := va_S.rf
  have hl := lv_entry ([.ref Ad0, .int Va0]) (n := 2) (Nat.le_of_ble_eq_true rfl)
  rw [lg_entry_eq]
  generalize (lg_sl ([.ref Ad0, .int Va0]) ++ List.replicate (2 - (lg_sl ([.ref Ad0, .int Va0])).length) Slot.unset).toArray = ls at hl ⊢
  have hl : lv_has ls 2 [(0, .ref Ad0), (1, .int Va0)] := hl
  have o_Fs0 := ow_0 k_Fs0
  refine lv_aload_n hx hb dX12_take_0 rfl (lv_at hl 0 rfl) ?_
  refine lv_aload_n hx hb dX12_take_1 rfl (lv_at hl 0 rfl) ?_
  refine lv_iload_n hx hb dX12_take_2 rfl (lv_at hl 1 rfl) ?_
  have hPc := hP.sub (ws' := []) [] rfl
  have hDc := hD.sub (ws' := []) [] (by decide) rfl
  have hKc := hK.sub (tys' := []) [] rfl
  have hFc := va_free (wc := []) hD hS hA [] rfl
  refine va_calli (va_runV (As := [.int Va0]) (rest := [.ref Ad0]) ⟨hx, hb, hml, hown, hts⟩ (z_X12_isPicture l dC dI s.heap.size Ad0 Va0  ) (cwV 1 hts g_z_X12_take_z_X12_isPicture_542 rfl rfl rfl (by decide +kernel) ⟨Nat.le_of_ble_eq_true rfl, Nat.le_of_ble_eq_true rfl⟩) ⟨fun a U g mk q => by obtain ⟨q0, q1, qP, qK, qD⟩ := q; exact ⟨q0, q1, qP, va_K.moved (u := U) (U := U.calling g mk a) (Vm.Alike.refl U.vm) qK, qD⟩, va_recv hK hP (ci := 15) (q0 := 0) rfl rfl, fun U hU hW => ⟨rfl, by rw [hU], by rw [hU]; exact hPc, va_K.moved hW.alike hKc, hDc.weaken (fun _ _ _ _ => trivial)⟩⟩ rfl rfl hl.1 rfl (lv_room (Nat.le_of_ble_eq_true rfl)) dX12_take_3 ⟨Nat.le_of_ble_eq_true rfl, Nat.le_of_ble_eq_true rfl⟩) hS (fun q _ h => hFc q h) hFc (fun r101 u t H1 locs ht hvm hw hB hz1 hk1 hS => ?_)
  obtain ⟨hP1, hK1, hD1⟩ := hB
  rw [ht] at hP1
  try dsimp only at hw
  obtain ⟨hP, hD⟩ := va_join (wr := [(Ad0, .inr (15, Fs0)), (Ad1, .inl (Ka0, 400, .inl Fa0)), (Ad2, .inl (Ka1, 5, .inl Fa1)), (Ad3, .inl (Ka2, 5, .inl Fa2)), (Ad4, .inl (Ka3, 5, .inl Fa3)), (Ad5, .inl (Ka4, 5, .inl Fa4)), (Ad6, .inl (Ka5, 5, .inl Fa5))]) (w1 := []) hP hD [] [0, 1, 2, 3, 4, 5, 6] rfl rfl (by decide) (by decide) hk1 hFc hP1 hD1
  have hK := hK.sub (tys' := [(Ka0, .int), (Ka1, .int), (Ka2, .int), (Ka3, .int), (Ka4, .int), (Ka5, .int)]) [0, 1, 2, 3, 4, 5] rfl
  generalize H1 = H at hP hS ⊢
  have hP : va_P (dC, dI) vwCl [(Ad0, .inr (15, Fs0)), (Ad1, .inl (Ka0, 400, .inl Fa0)), (Ad2, .inl (Ka1, 5, .inl Fa1)), (Ad3, .inl (Ka2, 5, .inl Fa2)), (Ad4, .inl (Ka3, 5, .inl Fa3)), (Ad5, .inl (Ka4, 5, .inl Fa4)), (Ad6, .inl (Ka5, 5, .inl Fa5))] H := hP
  have hD : va_D A [(Ad0, .inr (15, Fs0)), (Ad1, .inl (Ka0, 400, .inl Fa0)), (Ad2, .inl (Ka1, 5, .inl Fa1)), (Ad3, .inl (Ka2, 5, .inl Fa2)), (Ad4, .inl (Ka3, 5, .inl Fa3)), (Ad5, .inl (Ka4, 5, .inl Fa4)), (Ad6, .inl (Ka5, 5, .inl Fa5))] := hD
  rcases hw with ⟨c102, er103⟩ | ⟨c104, c105, er106⟩ | ⟨c107, c108, er109⟩
  · skip
    subst er103
    refine lv_if_eq (tgt := 13) hx hb dX12_take_6 (by decide) (fun c110 => ?_) (fun c110 => absurd c110 (by decide))
    refine lv_iconst (v := 1) hx hb dX12_take_13 (by decide) ?_
    refine va_put (D := (dC, dI)) (ci := 15) (v := .int 1) (ty := .int) (C := RX12) (T := TX12) (N := 150) hx hb hts (in_z_X12_take_X12) tyX12 tyX12_ok nmX12 hown hK hP hD hS 0 rfl rfl 0 (by decide) (hts (.fieldLink RX12 388 "HeapWorksModel" "thrown" "I") (by decide +kernel)) (fun _ h9 => h9) rfl (by decide +kernel) rfl rfl (by rw [o_Fs0.2.1]; decide) dX12_take_14 (fun H locs hP hD hS => ?_)
    have hP : va_P (dC, dI) vwCl [(Ad0, .inr (15, (Fs0.set 0 (.int 1)))), (Ad1, .inl (Ka0, 400, .inl Fa0)), (Ad2, .inl (Ka1, 5, .inl Fa1)), (Ad3, .inl (Ka2, 5, .inl Fa2)), (Ad4, .inl (Ka3, 5, .inl Fa3)), (Ad5, .inl (Ka4, 5, .inl Fa4)), (Ad6, .inl (Ka5, 5, .inl Fa5))] H := hP
    have hD : va_D A [(Ad0, .inr (15, (Fs0.set 0 (.int 1)))), (Ad1, .inl (Ka0, 400, .inl Fa0)), (Ad2, .inl (Ka1, 5, .inl Fa1)), (Ad3, .inl (Ka2, 5, .inl Fa2)), (Ad4, .inl (Ka3, 5, .inl Fa3)), (Ad5, .inl (Ka4, 5, .inl Fa4)), (Ad6, .inl (Ka5, 5, .inl Fa5))] := hD
    have o_s111 := ow_set o_Fs0 0 (.int 1) (by decide) (l' := [(0, .int 1), (20, .int 0), (31, .int 0), (46, .ref Ad1), (47, .int 0), (48, .ref Ad2), (62, .ref Ad3), (63, .ref Ad4), (64, .ref Ad5), (65, .ref Ad6)]) (w' := [0]) rfl rfl
    generalize (Fs0.set 0 (.int 1)) = s111 at hP hD o_s111
    refine lv_aload_n hx hb dX12_take_17 rfl (lv_at hl 0 rfl) ?_
    refine va_get (D := (dC, dI)) (ci := 15) (v := .int 1) (C := RX12) (T := TX12) (N := 150) hx hb hts (in_z_X12_take_X12) hown hK hP 0 rfl rfl 0 (by decide) (hts (.fieldLink RX12 388 "HeapWorksModel" "thrown" "I") (by decide +kernel)) (fun _ h9 => h9) (ow_at o_s111 0 rfl) dX12_take_18 ?_
    refine lv_if_le (tgt := 26) hx hb dX12_take_21 (by decide) (fun c112 => absurd c112 (by decide)) (fun c112 => ?_)
    refine lv_iconst (v := 0) hx hb dX12_take_24 (by decide) ?_
    have hP9 := hP.sub (ws' := [(Ad0, .inr (15, s111)), (Ad1, .inl (Ka0, 400, .inl Fa0)), (Ad2, .inl (Ka1, 5, .inl Fa1)), (Ad3, .inl (Ka2, 5, .inl Fa2)), (Ad4, .inl (Ka3, 5, .inl Fa3)), (Ad5, .inl (Ka4, 5, .inl Fa4)), (Ad6, .inl (Ka5, 5, .inl Fa5))]) [0, 1, 2, 3, 4, 5, 6] rfl
    have hD9 := hD.sub (ws' := [(Ad0, .inr (15, s111)), (Ad1, .inl (Ka0, 400, .inl Fa0)), (Ad2, .inl (Ka1, 5, .inl Fa1)), (Ad3, .inl (Ka2, 5, .inl Fa2)), (Ad4, .inl (Ka3, 5, .inl Fa3)), (Ad5, .inl (Ka4, 5, .inl Fa4)), (Ad6, .inl (Ka5, 5, .inl Fa5))]) [0, 1, 2, 3, 4, 5, 6] (by decide) rfl
    have hK9 := hK.sub (tys' := [(Ka0, .int), (Ka1, .int), (Ka2, .int), (Ka3, .int), (Ka4, .int), (Ka5, .int)]) [0, 1, 2, 3, 4, 5] rfl
    exact W.iret (v := 0) hx hb hr (fun t ht hW => ⟨⟨0, (s111, Fa0, Fa1, Fa2, Fa3, Fa4, Fa5), rfl, (Or.inl ⟨c102, rfl, o_s111, hz_Fa1, hz_Fa2, hz_Fa3, hz_Fa4, hz_Fa5⟩), by rw [ht]; exact hP9, va_K.moved hW.alike hK9, hD9⟩, hS.F ht⟩) hS.2.2 dX12_take_25
  · skip
    subst er106
    refine lv_if_eq (tgt := 13) hx hb dX12_take_6 (by decide) (fun c113 => ?_) (fun c113 => absurd c113 (by decide))
    refine lv_iconst (v := 1) hx hb dX12_take_13 (by decide) ?_
    refine va_put (D := (dC, dI)) (ci := 15) (v := .int 1) (ty := .int) (C := RX12) (T := TX12) (N := 150) hx hb hts (in_z_X12_take_X12) tyX12 tyX12_ok nmX12 hown hK hP hD hS 0 rfl rfl 0 (by decide) (hts (.fieldLink RX12 388 "HeapWorksModel" "thrown" "I") (by decide +kernel)) (fun _ h9 => h9) rfl (by decide +kernel) rfl rfl (by rw [o_Fs0.2.1]; decide) dX12_take_14 (fun H locs hP hD hS => ?_)
    have hP : va_P (dC, dI) vwCl [(Ad0, .inr (15, (Fs0.set 0 (.int 1)))), (Ad1, .inl (Ka0, 400, .inl Fa0)), (Ad2, .inl (Ka1, 5, .inl Fa1)), (Ad3, .inl (Ka2, 5, .inl Fa2)), (Ad4, .inl (Ka3, 5, .inl Fa3)), (Ad5, .inl (Ka4, 5, .inl Fa4)), (Ad6, .inl (Ka5, 5, .inl Fa5))] H := hP
    have hD : va_D A [(Ad0, .inr (15, (Fs0.set 0 (.int 1)))), (Ad1, .inl (Ka0, 400, .inl Fa0)), (Ad2, .inl (Ka1, 5, .inl Fa1)), (Ad3, .inl (Ka2, 5, .inl Fa2)), (Ad4, .inl (Ka3, 5, .inl Fa3)), (Ad5, .inl (Ka4, 5, .inl Fa4)), (Ad6, .inl (Ka5, 5, .inl Fa5))] := hD
    have o_s114 := ow_set o_Fs0 0 (.int 1) (by decide) (l' := [(0, .int 1), (20, .int 0), (31, .int 0), (46, .ref Ad1), (47, .int 0), (48, .ref Ad2), (62, .ref Ad3), (63, .ref Ad4), (64, .ref Ad5), (65, .ref Ad6)]) (w' := [0]) rfl rfl
    generalize (Fs0.set 0 (.int 1)) = s114 at hP hD o_s114
    refine lv_aload_n hx hb dX12_take_17 rfl (lv_at hl 0 rfl) ?_
    refine va_get (D := (dC, dI)) (ci := 15) (v := .int 1) (C := RX12) (T := TX12) (N := 150) hx hb hts (in_z_X12_take_X12) hown hK hP 0 rfl rfl 0 (by decide) (hts (.fieldLink RX12 388 "HeapWorksModel" "thrown" "I") (by decide +kernel)) (fun _ h9 => h9) (ow_at o_s114 0 rfl) dX12_take_18 ?_
    refine lv_if_le (tgt := 26) hx hb dX12_take_21 (by decide) (fun c115 => absurd c115 (by decide)) (fun c115 => ?_)
    refine lv_iconst (v := 0) hx hb dX12_take_24 (by decide) ?_
    have hP9 := hP.sub (ws' := [(Ad0, .inr (15, s114)), (Ad1, .inl (Ka0, 400, .inl Fa0)), (Ad2, .inl (Ka1, 5, .inl Fa1)), (Ad3, .inl (Ka2, 5, .inl Fa2)), (Ad4, .inl (Ka3, 5, .inl Fa3)), (Ad5, .inl (Ka4, 5, .inl Fa4)), (Ad6, .inl (Ka5, 5, .inl Fa5))]) [0, 1, 2, 3, 4, 5, 6] rfl
    have hD9 := hD.sub (ws' := [(Ad0, .inr (15, s114)), (Ad1, .inl (Ka0, 400, .inl Fa0)), (Ad2, .inl (Ka1, 5, .inl Fa1)), (Ad3, .inl (Ka2, 5, .inl Fa2)), (Ad4, .inl (Ka3, 5, .inl Fa3)), (Ad5, .inl (Ka4, 5, .inl Fa4)), (Ad6, .inl (Ka5, 5, .inl Fa5))]) [0, 1, 2, 3, 4, 5, 6] (by decide) rfl
    have hK9 := hK.sub (tys' := [(Ka0, .int), (Ka1, .int), (Ka2, .int), (Ka3, .int), (Ka4, .int), (Ka5, .int)]) [0, 1, 2, 3, 4, 5] rfl
    exact W.iret (v := 0) hx hb hr (fun t ht hW => ⟨⟨0, (s114, Fa0, Fa1, Fa2, Fa3, Fa4, Fa5), rfl, (Or.inr (Or.inl ⟨c104, c105, rfl, o_s114, hz_Fa1, hz_Fa2, hz_Fa3, hz_Fa4, hz_Fa5⟩)), by rw [ht]; exact hP9, va_K.moved hW.alike hK9, hD9⟩, hS.F ht⟩) hS.2.2 dX12_take_25
  · skip
    subst er109
    refine lv_if_eq (tgt := 13) hx hb dX12_take_6 (by decide) (fun c116 => absurd c116 (by decide)) (fun c116 => ?_)
    refine lv_iconst (v := 0) hx hb dX12_take_9 (by decide) ?_
    refine lv_goto (tgt := 14) hx hb dX12_take_10 (by decide) ?_
    refine va_put (D := (dC, dI)) (ci := 15) (v := .int 0) (ty := .int) (C := RX12) (T := TX12) (N := 150) hx hb hts (in_z_X12_take_X12) tyX12 tyX12_ok nmX12 hown hK hP hD hS 0 rfl rfl 0 (by decide) (hts (.fieldLink RX12 388 "HeapWorksModel" "thrown" "I") (by decide +kernel)) (fun _ h9 => h9) rfl (by decide +kernel) rfl rfl (by rw [o_Fs0.2.1]; decide) dX12_take_14 (fun H locs hP hD hS => ?_)
    have hP : va_P (dC, dI) vwCl [(Ad0, .inr (15, (Fs0.set 0 (.int 0)))), (Ad1, .inl (Ka0, 400, .inl Fa0)), (Ad2, .inl (Ka1, 5, .inl Fa1)), (Ad3, .inl (Ka2, 5, .inl Fa2)), (Ad4, .inl (Ka3, 5, .inl Fa3)), (Ad5, .inl (Ka4, 5, .inl Fa4)), (Ad6, .inl (Ka5, 5, .inl Fa5))] H := hP
    have hD : va_D A [(Ad0, .inr (15, (Fs0.set 0 (.int 0)))), (Ad1, .inl (Ka0, 400, .inl Fa0)), (Ad2, .inl (Ka1, 5, .inl Fa1)), (Ad3, .inl (Ka2, 5, .inl Fa2)), (Ad4, .inl (Ka3, 5, .inl Fa3)), (Ad5, .inl (Ka4, 5, .inl Fa4)), (Ad6, .inl (Ka5, 5, .inl Fa5))] := hD
    have o_s117 := ow_set o_Fs0 0 (.int 0) (by decide) (l' := [(0, .int 0), (20, .int 0), (31, .int 0), (46, .ref Ad1), (47, .int 0), (48, .ref Ad2), (62, .ref Ad3), (63, .ref Ad4), (64, .ref Ad5), (65, .ref Ad6)]) (w' := [0]) rfl rfl
    generalize (Fs0.set 0 (.int 0)) = s117 at hP hD o_s117
    refine lv_aload_n hx hb dX12_take_17 rfl (lv_at hl 0 rfl) ?_
    refine va_get (D := (dC, dI)) (ci := 15) (v := .int 0) (C := RX12) (T := TX12) (N := 150) hx hb hts (in_z_X12_take_X12) hown hK hP 0 rfl rfl 0 (by decide) (hts (.fieldLink RX12 388 "HeapWorksModel" "thrown" "I") (by decide +kernel)) (fun _ h9 => h9) (ow_at o_s117 0 rfl) dX12_take_18 ?_
    refine lv_if_le (tgt := 26) hx hb dX12_take_21 (by decide) (fun c118 => ?_) (fun c118 => absurd c118 (by decide))
    refine lv_aload_n hx hb dX12_take_26 rfl (lv_at hl 0 rfl) ?_
    refine lv_iload_n hx hb dX12_take_27 rfl (lv_at hl 1 rfl) ?_
    have hPc := hP.sub (ws' := [(Ad0, .inr (15, s117)), (Ad1, .inl (Ka0, 400, .inl Fa0)), (Ad2, .inl (Ka1, 5, .inl Fa1)), (Ad6, .inl (Ka5, 5, .inl Fa5))]) [0, 1, 2, 6] rfl
    have hDc := hD.sub (ws' := [(Ad0, .inr (15, s117)), (Ad1, .inl (Ka0, 400, .inl Fa0)), (Ad2, .inl (Ka1, 5, .inl Fa1)), (Ad6, .inl (Ka5, 5, .inl Fa5))]) [0, 1, 2, 6] (by decide) rfl
    have hKc := hK.sub (tys' := [(Ka0, .int), (Ka1, .int), (Ka5, .int)]) [0, 1, 5] rfl
    have hFc := va_free (wc := [(Ad0, .inr (15, s117)), (Ad1, .inl (Ka0, 400, .inl Fa0)), (Ad2, .inl (Ka1, 5, .inl Fa1)), (Ad6, .inl (Ka5, 5, .inl Fa5))]) hD hS hA [0, 1, 2, 6] rfl
    refine va_callv (va_runV (As := [.int Va0]) (rest := []) ⟨hx, hb, hml, hown, hts⟩ (z_X12_picture0 l dC dI H.size Ad0 s117 Ad1 Fa0 Ka0 Ad2 Fa1 Ka1 Ad6 Fa5 Ka5 Va0 (fh_sub o_s117.2 [1, 2, 3, 4, 5, 9] rfl) hz_Fa1 hz_Fa5 (by (try simp only [i_lt, i_le, i_eq, kc_0, kc_4] at c107 c108); omega)) (cwV 1 hts g_z_X12_take_z_X12_picture0_552 rfl rfl rfl (by decide +kernel) ⟨Nat.le_of_ble_eq_true rfl, Nat.le_of_ble_eq_true rfl⟩) ⟨fun a U g mk q => by obtain ⟨q0, q1, qP, qK, qD⟩ := q; exact ⟨q0, q1, qP, va_K.moved (u := U) (U := U.calling g mk a) (Vm.Alike.refl U.vm) qK, qD⟩, va_recv hK hP (ci := 15) (q0 := 0) rfl rfl, fun U hU hW => ⟨rfl, by rw [hU], by rw [hU]; exact hPc, va_K.moved hW.alike hKc, hDc.weaken (fun _ _ _ _ => trivial)⟩⟩ rfl rfl hl.1 rfl (lv_room (Nat.le_of_ble_eq_true rfl)) dX12_take_28 ⟨Nat.le_of_ble_eq_true rfl, Nat.le_of_ble_eq_true rfl⟩) hS (fun q _ h => hFc q h) hFc (fun u t H1 locs ht hvm hw hB hz1 hk1 hS => ?_)
    obtain ⟨s119, f120, f121, f122⟩ := u
    obtain ⟨hP1, hK1, hD1⟩ := hB
    rw [ht] at hP1
    try dsimp only at hw
    obtain ⟨hP, hD⟩ := va_join (wr := [(Ad3, .inl (Ka2, 5, .inl Fa2)), (Ad4, .inl (Ka3, 5, .inl Fa3)), (Ad5, .inl (Ka4, 5, .inl Fa4))]) (w1 := [(Ad0, .inr (15, s119)), (Ad1, .inl (Ka0, 400, .inl f120)), (Ad2, .inl (Ka1, 5, .inl f121)), (Ad6, .inl (Ka5, 5, .inl f122))]) hP hD [0, 1, 2, 6] [3, 4, 5] rfl rfl (by decide) (by decide) hk1 hFc hP1 hD1
    have hK := hK.sub (tys' := [(Ka2, .int), (Ka3, .int), (Ka4, .int), (Ka0, .int), (Ka1, .int), (Ka5, .int)]) [2, 3, 4, 0, 1, 5] rfl
    generalize H1 = H at hP hS ⊢
    have hP : va_P (dC, dI) vwCl [(Ad3, .inl (Ka2, 5, .inl Fa2)), (Ad4, .inl (Ka3, 5, .inl Fa3)), (Ad5, .inl (Ka4, 5, .inl Fa4)), (Ad0, .inr (15, s119)), (Ad1, .inl (Ka0, 400, .inl f120)), (Ad2, .inl (Ka1, 5, .inl f121)), (Ad6, .inl (Ka5, 5, .inl f122))] H := hP
    have hD : va_D A [(Ad3, .inl (Ka2, 5, .inl Fa2)), (Ad4, .inl (Ka3, 5, .inl Fa3)), (Ad5, .inl (Ka4, 5, .inl Fa4)), (Ad0, .inr (15, s119)), (Ad1, .inl (Ka0, 400, .inl f120)), (Ad2, .inl (Ka1, 5, .inl f121)), (Ad6, .inl (Ka5, 5, .inl f122))] := hD
    obtain ⟨o_s119, q123, q124, q125, q126⟩ := hw
    have o_s119 := ow_on o_s117 o_s119 (l' := [(47, .int 0), (46, .ref Ad1), (20, .int 0), (31, .int 0), (46, .ref Ad1), (20, .int 0), (31, .int 0), (46, .ref Ad1), (48, .ref Ad2), (65, .ref Ad6), (0, .int 0), (20, .int 0), (31, .int 0), (46, .ref Ad1), (48, .ref Ad2), (62, .ref Ad3), (63, .ref Ad4), (64, .ref Ad5), (65, .ref Ad6)]) (w' := [47, 0]) rfl rfl
    refine lv_aload_n hx hb dX12_take_31 rfl (lv_at hl 0 rfl) ?_
    refine lv_iload_n hx hb dX12_take_32 rfl (lv_at hl 1 rfl) ?_
    have hPc := hP.sub (ws' := [(Ad3, .inl (Ka2, 5, .inl Fa2)), (Ad4, .inl (Ka3, 5, .inl Fa3)), (Ad5, .inl (Ka4, 5, .inl Fa4)), (Ad0, .inr (15, s119)), (Ad2, .inl (Ka1, 5, .inl f121)), (Ad6, .inl (Ka5, 5, .inl f122))]) [0, 1, 2, 3, 5, 6] rfl
    have hDc := hD.sub (ws' := [(Ad3, .inl (Ka2, 5, .inl Fa2)), (Ad4, .inl (Ka3, 5, .inl Fa3)), (Ad5, .inl (Ka4, 5, .inl Fa4)), (Ad0, .inr (15, s119)), (Ad2, .inl (Ka1, 5, .inl f121)), (Ad6, .inl (Ka5, 5, .inl f122))]) [0, 1, 2, 3, 5, 6] (by decide) rfl
    have hKc := hK.sub (tys' := [(Ka2, .int), (Ka3, .int), (Ka4, .int), (Ka1, .int), (Ka5, .int)]) [0, 1, 2, 4, 5] rfl
    have hFc := va_free (wc := [(Ad3, .inl (Ka2, 5, .inl Fa2)), (Ad4, .inl (Ka3, 5, .inl Fa3)), (Ad5, .inl (Ka4, 5, .inl Fa4)), (Ad0, .inr (15, s119)), (Ad2, .inl (Ka1, 5, .inl f121)), (Ad6, .inl (Ka5, 5, .inl f122))]) hD hS hA [0, 1, 2, 3, 5, 6] rfl
    refine va_callv (va_runV (As := [.int Va0]) (rest := []) ⟨hx, hb, hml, hown, hts⟩ (z_X12_study l dC dI H.size Ad3 Fa2 Ka2 Ad4 Fa3 Ka3 Ad5 Fa4 Ka4 Ad0 s119 Ad2 f121 Ka1 Ad6 f122 Ka5 Va0 (fh_sub o_s119.2 [8, 9, 8, 15, 16, 17, 9] rfl) hz_Fa2 hz_Fa3 hz_Fa4 q124 q126 (by (try simp only [i_lt, i_le, i_eq, kc_0, kc_4] at c107 c108); omega)) (cwV 1 hts g_z_X12_take_z_X12_study_555 rfl rfl rfl (by decide +kernel) ⟨Nat.le_of_ble_eq_true rfl, Nat.le_of_ble_eq_true rfl⟩) ⟨fun a U g mk q => by obtain ⟨q0, q1, qP, qK, qD⟩ := q; exact ⟨q0, q1, qP, va_K.moved (u := U) (U := U.calling g mk a) (Vm.Alike.refl U.vm) qK, qD⟩, va_recv hK hP (ci := 15) (q0 := 3) rfl rfl, fun U hU hW => ⟨rfl, by rw [hU], by rw [hU]; exact hPc, va_K.moved hW.alike hKc, hDc.weaken (fun _ _ _ _ => trivial)⟩⟩ rfl rfl hl.1 rfl (lv_room (Nat.le_of_ble_eq_true rfl)) dX12_take_33 ⟨Nat.le_of_ble_eq_true rfl, Nat.le_of_ble_eq_true rfl⟩) hS (fun q _ h => hFc q h) hFc (fun u t H1 locs ht hvm hw hB hz1 hk1 hS => ?_)
    obtain ⟨f127, f128, f129⟩ := u
    obtain ⟨hP1, hK1, hD1⟩ := hB
    rw [ht] at hP1
    try dsimp only at hw
    obtain ⟨hP, hD⟩ := va_join (wr := [(Ad1, .inl (Ka0, 400, .inl f120))]) (w1 := [(Ad3, .inl (Ka2, 5, .inl f127)), (Ad4, .inl (Ka3, 5, .inl f128)), (Ad5, .inl (Ka4, 5, .inl f129)), (Ad0, .inr (15, s119)), (Ad2, .inl (Ka1, 5, .inl f121)), (Ad6, .inl (Ka5, 5, .inl f122))]) hP hD [0, 1, 2, 3, 5, 6] [4] rfl rfl (by decide) (by decide) hk1 hFc hP1 hD1
    have hK := hK.sub (tys' := [(Ka0, .int), (Ka2, .int), (Ka3, .int), (Ka4, .int), (Ka1, .int), (Ka5, .int)]) [3, 0, 1, 2, 4, 5] rfl
    generalize H1 = H at hP hS ⊢
    have hP : va_P (dC, dI) vwCl [(Ad1, .inl (Ka0, 400, .inl f120)), (Ad3, .inl (Ka2, 5, .inl f127)), (Ad4, .inl (Ka3, 5, .inl f128)), (Ad5, .inl (Ka4, 5, .inl f129)), (Ad0, .inr (15, s119)), (Ad2, .inl (Ka1, 5, .inl f121)), (Ad6, .inl (Ka5, 5, .inl f122))] H := hP
    have hD : va_D A [(Ad1, .inl (Ka0, 400, .inl f120)), (Ad3, .inl (Ka2, 5, .inl f127)), (Ad4, .inl (Ka3, 5, .inl f128)), (Ad5, .inl (Ka4, 5, .inl f129)), (Ad0, .inr (15, s119)), (Ad2, .inl (Ka1, 5, .inl f121)), (Ad6, .inl (Ka5, 5, .inl f122))] := hD
    obtain ⟨q130, q131, q132, q133, q134, q135⟩ := hw
    refine lv_aload_n hx hb dX12_take_36 rfl (lv_at hl 0 rfl) ?_
    refine va_get (D := (dC, dI)) (ci := 15) (v := .ref Ad2) (C := RX12) (T := TX12) (N := 150) hx hb hts (in_z_X12_take_X12) hown hK hP 4 rfl rfl 48 (by decide) (hts (.fieldLink RX12 183 "HeapWorksModel" "things" "[I") (by decide +kernel)) (fun _ h9 => h9) (ow_at o_s119 8 rfl) dX12_take_37 ?_
    refine lv_iload_n hx hb dX12_take_40 rfl (lv_at hl 1 rfl) ?_
    refine va_iald hx hb hK hP 5 4 rfl rfl (by rw [vp_in_iff]; (try simp only [i_lt, i_le, i_eq, kc_0, kc_4] at c107 c108); omega) dX12_take_41 ?_
    refine lv_topi (fun x136 ex136 => ?_)
    obtain rfl : 0 = x136 := (ex136.trans q124).symm
    have hP9 := hP.sub (ws' := [(Ad0, .inr (15, s119)), (Ad1, .inl (Ka0, 400, .inl f120)), (Ad2, .inl (Ka1, 5, .inl f121)), (Ad3, .inl (Ka2, 5, .inl f127)), (Ad4, .inl (Ka3, 5, .inl f128)), (Ad5, .inl (Ka4, 5, .inl f129)), (Ad6, .inl (Ka5, 5, .inl f122))]) [4, 0, 5, 1, 2, 3, 6] rfl
    have hD9 := hD.sub (ws' := [(Ad0, .inr (15, s119)), (Ad1, .inl (Ka0, 400, .inl f120)), (Ad2, .inl (Ka1, 5, .inl f121)), (Ad3, .inl (Ka2, 5, .inl f127)), (Ad4, .inl (Ka3, 5, .inl f128)), (Ad5, .inl (Ka4, 5, .inl f129)), (Ad6, .inl (Ka5, 5, .inl f122))]) [4, 0, 5, 1, 2, 3, 6] (by decide) rfl
    have hK9 := hK.sub (tys' := [(Ka0, .int), (Ka1, .int), (Ka2, .int), (Ka3, .int), (Ka4, .int), (Ka5, .int)]) [0, 4, 1, 2, 3, 5] rfl
    exact W.iret (v := 0) hx hb hr (fun t ht hW => ⟨⟨0, (s119, f120, f121, f127, f128, f129, f122), rfl, (Or.inr (Or.inr (⟨c107, c108, rfl, o_s119, q123, q124, q130, q131, q132, q133, q134, q135, q125, q126⟩))), by rw [ht]; exact hP9, va_K.moved hW.alike hK9, hD9⟩, hS.F ht⟩) hS.2.2 dX12_take_42

def l_z_X12_isThing : List Cond := [.methodLink RX12 542 yX12_isPicture, .instanceMethod yX12_isPicture, .selects RX12 yX12_isPicture yX12_isPicture, .initialized RX12, .fieldLink RX12 183 "HeapWorksModel" "things" "[I", .code yX12_isPicture cX12_isPicture 2 (some .boolean)]
def w_z_X12_isThing : List Cond := .code yX12_isThing cX12_isThing 3 (some .boolean) :: (l_z_X12_isThing ++ (wsX120))
theorem in_z_X12_isThing_X12 : ∀ w ∈ wsX120, w ∈ w_z_X12_isThing := fun w h => List.mem_cons_of_mem _ (List.mem_append_right _ (h))
theorem g_z_X12_isThing_z_X12_isPicture_542 : GoodIn w_z_X12_isThing (wsV RX12 542 RX12 yX12_isPicture w_z_X12_isPicture) := goodIn_app (goodIn_r (([.methodLink RX12 542 yX12_isPicture, .instanceMethod yX12_isPicture, .selects RX12 yX12_isPicture yX12_isPicture, .initialized RX12] : List Cond)) [1, 2, 3, 4] rfl (by decide +kernel)) (goodIn_r (.code yX12_isPicture cX12_isPicture 2 (some .boolean) :: l_z_X12_isPicture) [6] rfl (by decide +kernel))
set_option maxHeartbeats 4000000 in
set_option maxRecDepth 100000 in
theorem z_X12_isThing (l : Launch) (dC : Nat → ClassId) (dI : Nat → Nat → Nat) (sz : Nat) (Ad0 : Nat) (Fs0 : List Value) (Ad1 : Nat) (Fa0 : Nat → Int32) (Ka0 : ClassId) (Va0 : Int32) (Va1 : Int32) (k_Fs0 : fh Fs0 150 [(48, .ref Ad1)]) (hz_Fa0 : ∀ j, Fa0 j = 0) : Met l yX12_isThing w_z_X12_isThing ({ frames := 1, cells := 0, slots := 0, locals := 21 }) (va_Pc [.ref Ad0, .int Va0, .int Va1] (fun U => U.heap.size = sz ∧ Wd dC dI [(Ka0, .int)] (fun _ => True) [(Ad0, .inr (15, Fs0)), (Ad1, .inl (Ka0, 5, .inl Fa0))] U)) (va_Qi (fun (r : Int32) (u : Unit) => (Va0 < 0 ∧ r = 0) ∨ (¬ Va0 < 0 ∧ 4 ≤ Va0 ∧ r = 0) ∨ (¬ Va0 < 0 ∧ ¬ 4 ≤ Va0 ∧ Va1 < 0 ∧ r = 0) ∨ (¬ Va0 < 0 ∧ ¬ 4 ≤ Va0 ∧ ¬ Va1 < 0 ∧ 0 ≤ Va1 ∧ r = 0)) (fun (u : Unit) t => Wd dC dI [(Ka0, .int)] (va_A [(Ad0, .inr (15, Fs0)), (Ad1, .inl (Ka0, 5, .inl Fa0))] sz) [(Ad0, .inr (15, Fs0)), (Ad1, .inl (Ka0, 5, .inl Fa0))] t) (va_A [(Ad0, .inr (15, Fs0)), (Ad1, .inl (Ka0, 5, .inl Fa0))] sz))  0 0 (va_A [(Ad0, .inr (15, Fs0)), (Ad1, .inl (Ka0, 5, .inl Fa0))] sz) := by
  refine Met.ofW (cc := cX12_isThing) (maxL := 3) (ret := (some .boolean)) (by decide) rfl ?_
  intro p e s m args below meth c s₁ B hml hv
  obtain ⟨rfl, hsz, hP, hK, hD0⟩ := hv
  have hx := B.exec
  have hb := B.bytes
  have hr := B.returns
  have hts := atoms_spec (ws := w_z_X12_isThing) B.pre
  have hown : s.vm.findClass RX12 = some m.cls := findClass_of_methodNamed B.named
  have hlocks := B.notSynchronized
  subst hsz
  have hD := hD0.self (sz := s.heap.size)
  generalize hAe : va_A [(Ad0, .inr (15, Fs0)), (Ad1, .inl (Ka0, 5, .inl Fa0))] s.heap.size = A at hD ⊢
  have hA : ∀ q : Nat, s.heap.size ≤ q → A q := fun q h => by rw [← hAe]; exact Or.inr h
  have hS : va_S A s.heap s.heap [] := va_S.rf
  have hl := lv_entry ([.ref Ad0, .int Va0, .int Va1]) (n := 3) (Nat.le_of_ble_eq_true rfl)
  rw [lg_entry_eq]
  generalize (lg_sl ([.ref Ad0, .int Va0, .int Va1]) ++ List.replicate (3 - (lg_sl ([.ref Ad0, .int Va0, .int Va1])).length) Slot.unset).toArray = ls at hl ⊢
  have hl : lv_has ls 3 [(0, .ref Ad0), (1, .int Va0), (2, .int Va1)] := hl
  have o_Fs0 := ow_0 k_Fs0
  refine lv_aload_n hx hb dX12_isThing_0 rfl (lv_at hl 0 rfl) ?_
  refine lv_iload_n hx hb dX12_isThing_1 rfl (lv_at hl 1 rfl) ?_
  have hPc := hP.sub (ws' := []) [] rfl
  have hDc := hD.sub (ws' := []) [] (by decide) rfl
  have hKc := hK.sub (tys' := []) [] rfl
  have hFc := va_free (wc := []) hD hS hA [] rfl
  refine va_calli (va_runV (As := [.int Va0]) (rest := []) ⟨hx, hb, hml, hown, hts⟩ (z_X12_isPicture l dC dI s.heap.size Ad0 Va0  ) (cwV 1 hts g_z_X12_isThing_z_X12_isPicture_542 rfl rfl rfl (by decide +kernel) ⟨Nat.le_of_ble_eq_true rfl, Nat.le_of_ble_eq_true rfl⟩) ⟨fun a U g mk q => by obtain ⟨q0, q1, qP, qK, qD⟩ := q; exact ⟨q0, q1, qP, va_K.moved (u := U) (U := U.calling g mk a) (Vm.Alike.refl U.vm) qK, qD⟩, va_recv hK hP (ci := 15) (q0 := 0) rfl rfl, fun U hU hW => ⟨rfl, by rw [hU], by rw [hU]; exact hPc, va_K.moved hW.alike hKc, hDc.weaken (fun _ _ _ _ => trivial)⟩⟩ rfl rfl hl.1 rfl (lv_room (Nat.le_of_ble_eq_true rfl)) dX12_isThing_2 ⟨Nat.le_of_ble_eq_true rfl, Nat.le_of_ble_eq_true rfl⟩) hS (fun q _ h => hFc q h) hFc (fun r101 u t H1 locs ht hvm hw hB hz1 hk1 hS => ?_)
  obtain ⟨hP1, hK1, hD1⟩ := hB
  rw [ht] at hP1
  try dsimp only at hw
  obtain ⟨hP, hD⟩ := va_join (wr := [(Ad0, .inr (15, Fs0)), (Ad1, .inl (Ka0, 5, .inl Fa0))]) (w1 := []) hP hD [] [0, 1] rfl rfl (by decide) (by decide) hk1 hFc hP1 hD1
  have hK := hK.sub (tys' := [(Ka0, .int)]) [0] rfl
  generalize H1 = H at hP hS ⊢
  have hP : va_P (dC, dI) vwCl [(Ad0, .inr (15, Fs0)), (Ad1, .inl (Ka0, 5, .inl Fa0))] H := hP
  have hD : va_D A [(Ad0, .inr (15, Fs0)), (Ad1, .inl (Ka0, 5, .inl Fa0))] := hD
  rcases hw with ⟨c102, er103⟩ | ⟨c104, c105, er106⟩ | ⟨c107, c108, er109⟩
  · skip
    subst er103
    refine lv_if_eq (tgt := 26) hx hb dX12_isThing_5 (by decide) (fun c110 => ?_) (fun c110 => absurd c110 (by decide))
    refine lv_iconst (v := 0) hx hb dX12_isThing_26 (by decide) ?_
    have hP9 := hP.sub (ws' := [(Ad0, .inr (15, Fs0)), (Ad1, .inl (Ka0, 5, .inl Fa0))]) [0, 1] rfl
    have hD9 := hD.sub (ws' := [(Ad0, .inr (15, Fs0)), (Ad1, .inl (Ka0, 5, .inl Fa0))]) [0, 1] (by decide) rfl
    have hK9 := hK.sub (tys' := [(Ka0, .int)]) [0] rfl
    exact W.zret (v := 0) hx hb hr rfl (fun t ht hW => ⟨⟨0, (), rfl, (Or.inl ⟨c102, rfl⟩), by rw [ht]; exact hP9, va_K.moved hW.alike hK9, hD9⟩, hS.F ht⟩) hS.2.2 dX12_isThing_27
  · skip
    subst er106
    refine lv_if_eq (tgt := 26) hx hb dX12_isThing_5 (by decide) (fun c111 => ?_) (fun c111 => absurd c111 (by decide))
    refine lv_iconst (v := 0) hx hb dX12_isThing_26 (by decide) ?_
    have hP9 := hP.sub (ws' := [(Ad0, .inr (15, Fs0)), (Ad1, .inl (Ka0, 5, .inl Fa0))]) [0, 1] rfl
    have hD9 := hD.sub (ws' := [(Ad0, .inr (15, Fs0)), (Ad1, .inl (Ka0, 5, .inl Fa0))]) [0, 1] (by decide) rfl
    have hK9 := hK.sub (tys' := [(Ka0, .int)]) [0] rfl
    exact W.zret (v := 0) hx hb hr rfl (fun t ht hW => ⟨⟨0, (), rfl, (Or.inr (Or.inl ⟨c104, c105, rfl⟩)), by rw [ht]; exact hP9, va_K.moved hW.alike hK9, hD9⟩, hS.F ht⟩) hS.2.2 dX12_isThing_27
  · skip
    subst er109
    refine lv_if_eq (tgt := 26) hx hb dX12_isThing_5 (by decide) (fun c112 => absurd c112 (by decide)) (fun c112 => ?_)
    refine lv_iload_n hx hb dX12_isThing_8 rfl (lv_at hl 2 rfl) ?_
    refine lv_if_lt (tgt := 26) hx hb dX12_isThing_9 (by decide) (fun c113 => ?_) (fun c113 => ?_)
    · skip
      refine lv_iconst (v := 0) hx hb dX12_isThing_26 (by decide) ?_
      have hP9 := hP.sub (ws' := [(Ad0, .inr (15, Fs0)), (Ad1, .inl (Ka0, 5, .inl Fa0))]) [0, 1] rfl
      have hD9 := hD.sub (ws' := [(Ad0, .inr (15, Fs0)), (Ad1, .inl (Ka0, 5, .inl Fa0))]) [0, 1] (by decide) rfl
      have hK9 := hK.sub (tys' := [(Ka0, .int)]) [0] rfl
      exact W.zret (v := 0) hx hb hr rfl (fun t ht hW => ⟨⟨0, (), rfl, (Or.inr (Or.inr (Or.inl ⟨c107, c108, c113, rfl⟩))), by rw [ht]; exact hP9, va_K.moved hW.alike hK9, hD9⟩, hS.F ht⟩) hS.2.2 dX12_isThing_27
    · skip
      refine lv_iload_n hx hb dX12_isThing_12 rfl (lv_at hl 2 rfl) ?_
      refine lv_aload_n hx hb dX12_isThing_13 rfl (lv_at hl 0 rfl) ?_
      refine va_get (D := (dC, dI)) (ci := 15) (v := .ref Ad1) (C := RX12) (T := TX12) (N := 150) hx hb hts (in_z_X12_isThing_X12) hown hK hP 0 rfl rfl 48 (by decide) (hts (.fieldLink RX12 183 "HeapWorksModel" "things" "[I") (by decide +kernel)) (fun _ h9 => h9) (ow_at o_Fs0 0 rfl) dX12_isThing_14 ?_
      refine lv_iload_n hx hb dX12_isThing_17 rfl (lv_at hl 1 rfl) ?_
      refine va_iald hx hb hK hP 1 0 rfl rfl (by rw [vp_in_iff]; (try simp only [i_lt, i_le, i_eq, kc_0, kc_4] at c107 c108); omega) dX12_isThing_18 ?_
      refine lv_topi (fun x114 ex114 => ?_)
      obtain rfl : x114 = 0 := ex114.trans (hz_Fa0 _)
      refine lv_icmp_ge (tgt := 26) hx hb dX12_isThing_19 (by decide) (fun c115 => ?_) (fun c115 => (by exfalso; have bd_Va1 := i_bd Va1; (try simp only [i_lt, i_le, i_eq, kc_0] at c113 c115); omega))
      refine lv_iconst (v := 0) hx hb dX12_isThing_26 (by decide) ?_
      have hP9 := hP.sub (ws' := [(Ad0, .inr (15, Fs0)), (Ad1, .inl (Ka0, 5, .inl Fa0))]) [0, 1] rfl
      have hD9 := hD.sub (ws' := [(Ad0, .inr (15, Fs0)), (Ad1, .inl (Ka0, 5, .inl Fa0))]) [0, 1] (by decide) rfl
      have hK9 := hK.sub (tys' := [(Ka0, .int)]) [0] rfl
      exact W.zret (v := 0) hx hb hr rfl (fun t ht hW => ⟨⟨0, (), rfl, (Or.inr (Or.inr (Or.inr (⟨c107, c108, c113, c115, rfl⟩)))), by rw [ht]; exact hP9, va_K.moved hW.alike hK9, hD9⟩, hS.F ht⟩) hS.2.2 dX12_isThing_27

def l_z_X12_thing : List Cond := [.fieldLink RX12 388 "HeapWorksModel" "thrown" "I", .methodLink RX12 600 yX12_isThing, .instanceMethod yX12_isThing, .selects RX12 yX12_isThing yX12_isThing, .initialized RX12, .code yX12_isThing cX12_isThing 3 (some .boolean), .methodLink RX12 542 yX12_isPicture, .instanceMethod yX12_isPicture, .selects RX12 yX12_isPicture yX12_isPicture, .fieldLink RX12 183 "HeapWorksModel" "things" "[I", .code yX12_isPicture cX12_isPicture 2 (some .boolean)]
def w_z_X12_thing : List Cond := .code yX12_thing cX12_thing 5 (some .int) :: (l_z_X12_thing ++ (wsX120))
theorem in_z_X12_thing_X12 : ∀ w ∈ wsX120, w ∈ w_z_X12_thing := fun w h => List.mem_cons_of_mem _ (List.mem_append_right _ (h))
theorem g_z_X12_thing_z_X12_isThing_600 : GoodIn w_z_X12_thing (wsV RX12 600 RX12 yX12_isThing w_z_X12_isThing) := goodIn_app (goodIn_r (([.methodLink RX12 600 yX12_isThing, .instanceMethod yX12_isThing, .selects RX12 yX12_isThing yX12_isThing, .initialized RX12] : List Cond)) [2, 3, 4, 5] rfl (by decide +kernel)) (goodIn_ca (goodIn_r (.code yX12_isThing cX12_isThing 3 (some .boolean) :: l_z_X12_isThing) [6, 7, 8, 9, 5, 10, 11] rfl (by decide +kernel)) (goodIn_in (in_z_X12_thing_X12) gd_X12))
set_option maxHeartbeats 4000000 in
set_option maxRecDepth 100000 in
theorem z_X12_thing (l : Launch) (dC : Nat → ClassId) (dI : Nat → Nat → Nat) (sz : Nat) (Ad0 : Nat) (Fs0 : List Value) (Ad1 : Nat) (Fa0 : Nat → Int32) (Ka0 : ClassId) (Va0 : Int32) (Va1 : Int32) (Va2 : Int32) (k_Fs0 : fh Fs0 150 [(48, .ref Ad1)]) (hz_Fa0 : ∀ j, Fa0 j = 0) : Met l yX12_thing w_z_X12_thing ({ frames := 2, cells := 0, slots := 0, locals := 43 }) (va_Pc [.ref Ad0, .int Va0, .int Va1, .int Va2] (fun U => U.heap.size = sz ∧ Wd dC dI [(Ka0, .int)] (fun _ => True) [(Ad0, .inr (15, Fs0)), (Ad1, .inl (Ka0, 5, .inl Fa0))] U)) (va_Qi (fun (r : Int32) (u : List Value) => (Va0 < 0 ∧ r = (-1) ∧ ow Fs0 (u) 150 [0] [(0, .int 0), (48, .ref Ad1)]) ∨ (¬ Va0 < 0 ∧ 4 ≤ Va0 ∧ r = (-1) ∧ ow Fs0 (u) 150 [0] [(0, .int 0), (48, .ref Ad1)]) ∨ (¬ Va0 < 0 ∧ ¬ 4 ≤ Va0 ∧ Va1 < 0 ∧ r = (-1) ∧ ow Fs0 (u) 150 [0] [(0, .int 0), (48, .ref Ad1)]) ∨ (¬ Va0 < 0 ∧ ¬ 4 ≤ Va0 ∧ ¬ Va1 < 0 ∧ 0 ≤ Va1 ∧ r = (-1) ∧ ow Fs0 (u) 150 [0] [(0, .int 0), (48, .ref Ad1)])) (fun (u : List Value) t => Wd dC dI [(Ka0, .int)] (va_A [(Ad0, .inr (15, Fs0)), (Ad1, .inl (Ka0, 5, .inl Fa0))] sz) [(Ad0, .inr (15, (u))), (Ad1, .inl (Ka0, 5, .inl Fa0))] t) (va_A [(Ad0, .inr (15, Fs0)), (Ad1, .inl (Ka0, 5, .inl Fa0))] sz))  0 0 (va_A [(Ad0, .inr (15, Fs0)), (Ad1, .inl (Ka0, 5, .inl Fa0))] sz) := by
  refine Met.ofW (cc := cX12_thing) (maxL := 5) (ret := (some .int)) (by decide) rfl ?_
  intro p e s m args below meth c s₁ B hml hv
  obtain ⟨rfl, hsz, hP, hK, hD0⟩ := hv
  have hx := B.exec
  have hb := B.bytes
  have hr := B.returns
  have hts := atoms_spec (ws := w_z_X12_thing) B.pre
  have hown : s.vm.findClass RX12 = some m.cls := findClass_of_methodNamed B.named
  have hlocks := B.notSynchronized
  subst hsz
  have hD := hD0.self (sz := s.heap.size)
  generalize hAe : va_A [(Ad0, .inr (15, Fs0)), (Ad1, .inl (Ka0, 5, .inl Fa0))] s.heap.size = A at hD ⊢
  have hA : ∀ q : Nat, s.heap.size ≤ q → A q := fun q h => by rw [← hAe]; exact Or.inr h
  have hS : va_S A s.heap s.heap [] := va_S.rf
  have hl := lv_entry ([.ref Ad0, .int Va0, .int Va1, .int Va2]) (n := 5) (Nat.le_of_ble_eq_true rfl)
  rw [lg_entry_eq]
  generalize (lg_sl ([.ref Ad0, .int Va0, .int Va1, .int Va2]) ++ List.replicate (5 - (lg_sl ([.ref Ad0, .int Va0, .int Va1, .int Va2])).length) Slot.unset).toArray = ls at hl ⊢
  have hl : lv_has ls 5 [(0, .ref Ad0), (1, .int Va0), (2, .int Va1), (3, .int Va2)] := hl
  have o_Fs0 := ow_0 k_Fs0
  refine lv_aload_n hx hb dX12_thing_0 rfl (lv_at hl 0 rfl) ?_
  refine lv_iconst (v := 0) hx hb dX12_thing_1 (by decide) ?_
  refine va_put (D := (dC, dI)) (ci := 15) (v := .int 0) (ty := .int) (C := RX12) (T := TX12) (N := 150) hx hb hts (in_z_X12_thing_X12) tyX12 tyX12_ok nmX12 hown hK hP hD hS 0 rfl rfl 0 (by decide) (hts (.fieldLink RX12 388 "HeapWorksModel" "thrown" "I") (by decide +kernel)) (fun _ h9 => h9) rfl (by decide +kernel) rfl rfl (by rw [o_Fs0.2.1]; decide) dX12_thing_2 (fun H locs hP hD hS => ?_)
  have hP : va_P (dC, dI) vwCl [(Ad0, .inr (15, (Fs0.set 0 (.int 0)))), (Ad1, .inl (Ka0, 5, .inl Fa0))] H := hP
  have hD : va_D A [(Ad0, .inr (15, (Fs0.set 0 (.int 0)))), (Ad1, .inl (Ka0, 5, .inl Fa0))] := hD
  have o_s101 := ow_set o_Fs0 0 (.int 0) (by decide) (l' := [(0, .int 0), (48, .ref Ad1)]) (w' := [0]) rfl rfl
  generalize (Fs0.set 0 (.int 0)) = s101 at hP hD o_s101
  refine lv_aload_n hx hb dX12_thing_5 rfl (lv_at hl 0 rfl) ?_
  refine lv_iload_n hx hb dX12_thing_6 rfl (lv_at hl 1 rfl) ?_
  refine lv_iload_n hx hb dX12_thing_7 rfl (lv_at hl 2 rfl) ?_
  have hPc := hP.sub (ws' := [(Ad0, .inr (15, s101)), (Ad1, .inl (Ka0, 5, .inl Fa0))]) [0, 1] rfl
  have hDc := hD.sub (ws' := [(Ad0, .inr (15, s101)), (Ad1, .inl (Ka0, 5, .inl Fa0))]) [0, 1] (by decide) rfl
  have hKc := hK.sub (tys' := [(Ka0, .int)]) [0] rfl
  have hFc := va_free (wc := [(Ad0, .inr (15, s101)), (Ad1, .inl (Ka0, 5, .inl Fa0))]) hD hS hA [0, 1] rfl
  refine va_calli (va_runV (As := [.int Va0, .int Va1]) (rest := []) ⟨hx, hb, hml, hown, hts⟩ (z_X12_isThing l dC dI H.size Ad0 s101 Ad1 Fa0 Ka0 Va0 Va1 (fh_sub o_s101.2 [1] rfl) hz_Fa0) (cwV 2 hts g_z_X12_thing_z_X12_isThing_600 rfl rfl rfl (by decide +kernel) ⟨Nat.le_of_ble_eq_true rfl, Nat.le_of_ble_eq_true rfl⟩) ⟨fun a U g mk q => by obtain ⟨q0, q1, qP, qK, qD⟩ := q; exact ⟨q0, q1, qP, va_K.moved (u := U) (U := U.calling g mk a) (Vm.Alike.refl U.vm) qK, qD⟩, va_recv hK hP (ci := 15) (q0 := 0) rfl rfl, fun U hU hW => ⟨rfl, by rw [hU], by rw [hU]; exact hPc, va_K.moved hW.alike hKc, hDc.weaken (fun _ _ _ _ => trivial)⟩⟩ rfl rfl hl.1 rfl (lv_room (Nat.le_of_ble_eq_true rfl)) dX12_thing_8 ⟨Nat.le_of_ble_eq_true rfl, Nat.le_of_ble_eq_true rfl⟩) hS (fun q _ h => hFc q h) hFc (fun r102 u t H1 locs ht hvm hw hB hz1 hk1 hS => ?_)
  obtain ⟨hP1, hK1, hD1⟩ := hB
  rw [ht] at hP1
  try dsimp only at hw
  obtain ⟨hP, hD⟩ := va_join (wr := []) (w1 := [(Ad0, .inr (15, s101)), (Ad1, .inl (Ka0, 5, .inl Fa0))]) hP hD [0, 1] [] rfl rfl (by decide) (by decide) hk1 hFc hP1 hD1
  have hK := hK.sub (tys' := [(Ka0, .int)]) [0] rfl
  generalize H1 = H at hP hS ⊢
  have hP : va_P (dC, dI) vwCl [(Ad0, .inr (15, s101)), (Ad1, .inl (Ka0, 5, .inl Fa0))] H := hP
  have hD : va_D A [(Ad0, .inr (15, s101)), (Ad1, .inl (Ka0, 5, .inl Fa0))] := hD
  rcases hw with ⟨c103, er104⟩ | ⟨c105, c106, er107⟩ | ⟨c108, c109, c110, er111⟩ | ⟨c112, c113, c114, c115, er116⟩
  · skip
    subst er104
    refine lv_if_ne (tgt := 16) hx hb dX12_thing_11 (by decide) (fun c117 => absurd c117 (by decide)) (fun c117 => ?_)
    refine lv_iconst (v := (-1)) hx hb dX12_thing_14 (by decide) ?_
    have hP9 := hP.sub (ws' := [(Ad0, .inr (15, s101)), (Ad1, .inl (Ka0, 5, .inl Fa0))]) [0, 1] rfl
    have hD9 := hD.sub (ws' := [(Ad0, .inr (15, s101)), (Ad1, .inl (Ka0, 5, .inl Fa0))]) [0, 1] (by decide) rfl
    have hK9 := hK.sub (tys' := [(Ka0, .int)]) [0] rfl
    exact W.iret (v := (-1)) hx hb hr (fun t ht hW => ⟨⟨(-1), s101, rfl, (Or.inl ⟨c103, rfl, o_s101⟩), by rw [ht]; exact hP9, va_K.moved hW.alike hK9, hD9⟩, hS.F ht⟩) hS.2.2 dX12_thing_15
  · skip
    subst er107
    refine lv_if_ne (tgt := 16) hx hb dX12_thing_11 (by decide) (fun c118 => absurd c118 (by decide)) (fun c118 => ?_)
    refine lv_iconst (v := (-1)) hx hb dX12_thing_14 (by decide) ?_
    have hP9 := hP.sub (ws' := [(Ad0, .inr (15, s101)), (Ad1, .inl (Ka0, 5, .inl Fa0))]) [0, 1] rfl
    have hD9 := hD.sub (ws' := [(Ad0, .inr (15, s101)), (Ad1, .inl (Ka0, 5, .inl Fa0))]) [0, 1] (by decide) rfl
    have hK9 := hK.sub (tys' := [(Ka0, .int)]) [0] rfl
    exact W.iret (v := (-1)) hx hb hr (fun t ht hW => ⟨⟨(-1), s101, rfl, (Or.inr (Or.inl ⟨c105, c106, rfl, o_s101⟩)), by rw [ht]; exact hP9, va_K.moved hW.alike hK9, hD9⟩, hS.F ht⟩) hS.2.2 dX12_thing_15
  · skip
    subst er111
    refine lv_if_ne (tgt := 16) hx hb dX12_thing_11 (by decide) (fun c119 => absurd c119 (by decide)) (fun c119 => ?_)
    refine lv_iconst (v := (-1)) hx hb dX12_thing_14 (by decide) ?_
    have hP9 := hP.sub (ws' := [(Ad0, .inr (15, s101)), (Ad1, .inl (Ka0, 5, .inl Fa0))]) [0, 1] rfl
    have hD9 := hD.sub (ws' := [(Ad0, .inr (15, s101)), (Ad1, .inl (Ka0, 5, .inl Fa0))]) [0, 1] (by decide) rfl
    have hK9 := hK.sub (tys' := [(Ka0, .int)]) [0] rfl
    exact W.iret (v := (-1)) hx hb hr (fun t ht hW => ⟨⟨(-1), s101, rfl, (Or.inr (Or.inr (Or.inl ⟨c108, c109, c110, rfl, o_s101⟩))), by rw [ht]; exact hP9, va_K.moved hW.alike hK9, hD9⟩, hS.F ht⟩) hS.2.2 dX12_thing_15
  · skip
    subst er116
    refine lv_if_ne (tgt := 16) hx hb dX12_thing_11 (by decide) (fun c120 => absurd c120 (by decide)) (fun c120 => ?_)
    refine lv_iconst (v := (-1)) hx hb dX12_thing_14 (by decide) ?_
    have hP9 := hP.sub (ws' := [(Ad0, .inr (15, s101)), (Ad1, .inl (Ka0, 5, .inl Fa0))]) [0, 1] rfl
    have hD9 := hD.sub (ws' := [(Ad0, .inr (15, s101)), (Ad1, .inl (Ka0, 5, .inl Fa0))]) [0, 1] (by decide) rfl
    have hK9 := hK.sub (tys' := [(Ka0, .int)]) [0] rfl
    exact W.iret (v := (-1)) hx hb hr (fun t ht hW => ⟨⟨(-1), s101, rfl, (Or.inr (Or.inr (Or.inr (⟨c112, c113, c114, c115, rfl, o_s101⟩)))), by rw [ht]; exact hP9, va_K.moved hW.alike hK9, hD9⟩, hS.F ht⟩) hS.2.2 dX12_thing_15

def l_z_X12_slot : List Cond := [.methodLink RX12 600 yX12_isThing, .instanceMethod yX12_isThing, .selects RX12 yX12_isThing yX12_isThing, .initialized RX12, .fieldLink RX12 388 "HeapWorksModel" "thrown" "I", .code yX12_isThing cX12_isThing 3 (some .boolean), .methodLink RX12 542 yX12_isPicture, .instanceMethod yX12_isPicture, .selects RX12 yX12_isPicture yX12_isPicture, .fieldLink RX12 183 "HeapWorksModel" "things" "[I", .code yX12_isPicture cX12_isPicture 2 (some .boolean)]
def w_z_X12_slot : List Cond := .code yX12_slot cX12_slot 4 (some .long) :: (l_z_X12_slot ++ (wsX120))
theorem in_z_X12_slot_X12 : ∀ w ∈ wsX120, w ∈ w_z_X12_slot := fun w h => List.mem_cons_of_mem _ (List.mem_append_right _ (h))
theorem g_z_X12_slot_z_X12_isThing_600 : GoodIn w_z_X12_slot (wsV RX12 600 RX12 yX12_isThing w_z_X12_isThing) := goodIn_app (goodIn_r (([.methodLink RX12 600 yX12_isThing, .instanceMethod yX12_isThing, .selects RX12 yX12_isThing yX12_isThing, .initialized RX12] : List Cond)) [1, 2, 3, 4] rfl (by decide +kernel)) (goodIn_ca (goodIn_r (.code yX12_isThing cX12_isThing 3 (some .boolean) :: l_z_X12_isThing) [6, 7, 8, 9, 4, 10, 11] rfl (by decide +kernel)) (goodIn_in (in_z_X12_slot_X12) gd_X12))
set_option maxHeartbeats 4000000 in
set_option maxRecDepth 100000 in
theorem z_X12_slot (l : Launch) (dC : Nat → ClassId) (dI : Nat → Nat → Nat) (sz : Nat) (Ad0 : Nat) (Fs0 : List Value) (Ad1 : Nat) (Fa0 : Nat → Int32) (Ka0 : ClassId) (Va0 : Int32) (Va1 : Int32) (Va2 : Int32) (k_Fs0 : fh Fs0 150 [(0, .int 0), (48, .ref Ad1)]) (hz_Fa0 : ∀ j, Fa0 j = 0) : Met l yX12_slot w_z_X12_slot ({ frames := 2, cells := 0, slots := 0, locals := 43 }) (va_Pc [.ref Ad0, .int Va0, .int Va1, .int Va2] (fun U => U.heap.size = sz ∧ Wd dC dI [(Ka0, .int)] (fun _ => True) [(Ad0, .inr (15, Fs0)), (Ad1, .inl (Ka0, 5, .inl Fa0))] U)) (va_Ql (fun (r : Int64) (u : List Value) => (Va0 < 0 ∧ r = 0 ∧ ow Fs0 (u) 150 [0] [(0, .int 1), (48, .ref Ad1)]) ∨ (¬ Va0 < 0 ∧ 4 ≤ Va0 ∧ r = 0 ∧ ow Fs0 (u) 150 [0] [(0, .int 1), (48, .ref Ad1)]) ∨ (¬ Va0 < 0 ∧ ¬ 4 ≤ Va0 ∧ Va1 < 0 ∧ r = 0 ∧ ow Fs0 (u) 150 [0] [(0, .int 1), (48, .ref Ad1)]) ∨ (¬ Va0 < 0 ∧ ¬ 4 ≤ Va0 ∧ ¬ Va1 < 0 ∧ 0 ≤ Va1 ∧ r = 0 ∧ ow Fs0 (u) 150 [0] [(0, .int 1), (48, .ref Ad1)])) (fun (u : List Value) t => Wd dC dI [(Ka0, .int)] (va_A [(Ad0, .inr (15, Fs0)), (Ad1, .inl (Ka0, 5, .inl Fa0))] sz) [(Ad0, .inr (15, (u))), (Ad1, .inl (Ka0, 5, .inl Fa0))] t) (va_A [(Ad0, .inr (15, Fs0)), (Ad1, .inl (Ka0, 5, .inl Fa0))] sz))  0 0 (va_A [(Ad0, .inr (15, Fs0)), (Ad1, .inl (Ka0, 5, .inl Fa0))] sz) := by
  refine Met.ofW (cc := cX12_slot) (maxL := 4) (ret := (some .long)) (by decide) rfl ?_
  intro p e s m args below meth c s₁ B hml hv
  obtain ⟨rfl, hsz, hP, hK, hD0⟩ := hv
  have hx := B.exec
  have hb := B.bytes
  have hr := B.returns
  have hts := atoms_spec (ws := w_z_X12_slot) B.pre
  have hown : s.vm.findClass RX12 = some m.cls := findClass_of_methodNamed B.named
  have hlocks := B.notSynchronized
  subst hsz
  have hD := hD0.self (sz := s.heap.size)
  generalize hAe : va_A [(Ad0, .inr (15, Fs0)), (Ad1, .inl (Ka0, 5, .inl Fa0))] s.heap.size = A at hD ⊢
  have hA : ∀ q : Nat, s.heap.size ≤ q → A q := fun q h => by rw [← hAe]; exact Or.inr h
  have hS : va_S A s.heap s.heap [] := va_S.rf
  have hl := lv_entry ([.ref Ad0, .int Va0, .int Va1, .int Va2]) (n := 4) (Nat.le_of_ble_eq_true rfl)
  rw [lg_entry_eq]
  generalize (lg_sl ([.ref Ad0, .int Va0, .int Va1, .int Va2]) ++ List.replicate (4 - (lg_sl ([.ref Ad0, .int Va0, .int Va1, .int Va2])).length) Slot.unset).toArray = ls at hl ⊢
  have hl : lv_has ls 4 [(0, .ref Ad0), (1, .int Va0), (2, .int Va1), (3, .int Va2)] := hl
  have o_Fs0 := ow_0 k_Fs0
  refine lv_aload_n hx hb dX12_slot_0 rfl (lv_at hl 0 rfl) ?_
  refine lv_aload_n hx hb dX12_slot_1 rfl (lv_at hl 0 rfl) ?_
  refine lv_iload_n hx hb dX12_slot_2 rfl (lv_at hl 1 rfl) ?_
  refine lv_iload_n hx hb dX12_slot_3 rfl (lv_at hl 2 rfl) ?_
  have hPc := hP.sub (ws' := [(Ad0, .inr (15, Fs0)), (Ad1, .inl (Ka0, 5, .inl Fa0))]) [0, 1] rfl
  have hDc := hD.sub (ws' := [(Ad0, .inr (15, Fs0)), (Ad1, .inl (Ka0, 5, .inl Fa0))]) [0, 1] (by decide) rfl
  have hKc := hK.sub (tys' := [(Ka0, .int)]) [0] rfl
  have hFc := va_free (wc := [(Ad0, .inr (15, Fs0)), (Ad1, .inl (Ka0, 5, .inl Fa0))]) hD hS hA [0, 1] rfl
  refine va_calli (va_runV (As := [.int Va0, .int Va1]) (rest := [.ref Ad0]) ⟨hx, hb, hml, hown, hts⟩ (z_X12_isThing l dC dI s.heap.size Ad0 Fs0 Ad1 Fa0 Ka0 Va0 Va1 (fh_sub o_Fs0.2 [1] rfl) hz_Fa0) (cwV 2 hts g_z_X12_slot_z_X12_isThing_600 rfl rfl rfl (by decide +kernel) ⟨Nat.le_of_ble_eq_true rfl, Nat.le_of_ble_eq_true rfl⟩) ⟨fun a U g mk q => by obtain ⟨q0, q1, qP, qK, qD⟩ := q; exact ⟨q0, q1, qP, va_K.moved (u := U) (U := U.calling g mk a) (Vm.Alike.refl U.vm) qK, qD⟩, va_recv hK hP (ci := 15) (q0 := 0) rfl rfl, fun U hU hW => ⟨rfl, by rw [hU], by rw [hU]; exact hPc, va_K.moved hW.alike hKc, hDc.weaken (fun _ _ _ _ => trivial)⟩⟩ rfl rfl hl.1 rfl (lv_room (Nat.le_of_ble_eq_true rfl)) dX12_slot_4 ⟨Nat.le_of_ble_eq_true rfl, Nat.le_of_ble_eq_true rfl⟩) hS (fun q _ h => hFc q h) hFc (fun r101 u t H1 locs ht hvm hw hB hz1 hk1 hS => ?_)
  obtain ⟨hP1, hK1, hD1⟩ := hB
  rw [ht] at hP1
  try dsimp only at hw
  obtain ⟨hP, hD⟩ := va_join (wr := []) (w1 := [(Ad0, .inr (15, Fs0)), (Ad1, .inl (Ka0, 5, .inl Fa0))]) hP hD [0, 1] [] rfl rfl (by decide) (by decide) hk1 hFc hP1 hD1
  have hK := hK.sub (tys' := [(Ka0, .int)]) [0] rfl
  generalize H1 = H at hP hS ⊢
  have hP : va_P (dC, dI) vwCl [(Ad0, .inr (15, Fs0)), (Ad1, .inl (Ka0, 5, .inl Fa0))] H := hP
  have hD : va_D A [(Ad0, .inr (15, Fs0)), (Ad1, .inl (Ka0, 5, .inl Fa0))] := hD
  rcases hw with ⟨c102, er103⟩ | ⟨c104, c105, er106⟩ | ⟨c107, c108, c109, er110⟩ | ⟨c111, c112, c113, c114, er115⟩
  · skip
    subst er103
    refine lv_if_eq (tgt := 24) hx hb dX12_slot_7 (by decide) (fun c116 => ?_) (fun c116 => absurd c116 (by decide))
    refine lv_iconst (v := 1) hx hb dX12_slot_24 (by decide) ?_
    refine lv_goto (tgt := 29) hx hb dX12_slot_25 (by decide) ?_
    refine va_put (D := (dC, dI)) (ci := 15) (v := .int 1) (ty := .int) (C := RX12) (T := TX12) (N := 150) hx hb hts (in_z_X12_slot_X12) tyX12 tyX12_ok nmX12 hown hK hP hD hS 0 rfl rfl 0 (by decide) (hts (.fieldLink RX12 388 "HeapWorksModel" "thrown" "I") (by decide +kernel)) (fun _ h9 => h9) rfl (by decide +kernel) rfl rfl (by rw [o_Fs0.2.1]; decide) dX12_slot_29 (fun H locs hP hD hS => ?_)
    have hP : va_P (dC, dI) vwCl [(Ad0, .inr (15, (Fs0.set 0 (.int 1)))), (Ad1, .inl (Ka0, 5, .inl Fa0))] H := hP
    have hD : va_D A [(Ad0, .inr (15, (Fs0.set 0 (.int 1)))), (Ad1, .inl (Ka0, 5, .inl Fa0))] := hD
    have o_s117 := ow_set o_Fs0 0 (.int 1) (by decide) (l' := [(0, .int 1), (48, .ref Ad1)]) (w' := [0]) rfl rfl
    generalize (Fs0.set 0 (.int 1)) = s117 at hP hD o_s117
    refine lv_aload_n hx hb dX12_slot_32 rfl (lv_at hl 0 rfl) ?_
    refine va_get (D := (dC, dI)) (ci := 15) (v := .int 1) (C := RX12) (T := TX12) (N := 150) hx hb hts (in_z_X12_slot_X12) hown hK hP 0 rfl rfl 0 (by decide) (hts (.fieldLink RX12 388 "HeapWorksModel" "thrown" "I") (by decide +kernel)) (fun _ h9 => h9) (ow_at o_s117 0 rfl) dX12_slot_33 ?_
    refine lv_if_le (tgt := 43) hx hb dX12_slot_36 (by decide) (fun c118 => absurd c118 (by decide)) (fun c118 => ?_)
    refine lv_lconst (v := 0) hx hb dX12_slot_39 (by decide) ?_
    refine lv_goto (tgt := 50) hx hb dX12_slot_40 (by decide) ?_
    have hP9 := hP.sub (ws' := [(Ad0, .inr (15, s117)), (Ad1, .inl (Ka0, 5, .inl Fa0))]) [0, 1] rfl
    have hD9 := hD.sub (ws' := [(Ad0, .inr (15, s117)), (Ad1, .inl (Ka0, 5, .inl Fa0))]) [0, 1] (by decide) rfl
    have hK9 := hK.sub (tys' := [(Ka0, .int)]) [0] rfl
    exact W.lret (v := 0) hx hb hr (fun t ht hW => ⟨⟨0, s117, rfl, (Or.inl ⟨c102, rfl, o_s117⟩), by rw [ht]; exact hP9, va_K.moved hW.alike hK9, hD9⟩, hS.F ht⟩) hS.2.2 dX12_slot_50
  · skip
    subst er106
    refine lv_if_eq (tgt := 24) hx hb dX12_slot_7 (by decide) (fun c119 => ?_) (fun c119 => absurd c119 (by decide))
    refine lv_iconst (v := 1) hx hb dX12_slot_24 (by decide) ?_
    refine lv_goto (tgt := 29) hx hb dX12_slot_25 (by decide) ?_
    refine va_put (D := (dC, dI)) (ci := 15) (v := .int 1) (ty := .int) (C := RX12) (T := TX12) (N := 150) hx hb hts (in_z_X12_slot_X12) tyX12 tyX12_ok nmX12 hown hK hP hD hS 0 rfl rfl 0 (by decide) (hts (.fieldLink RX12 388 "HeapWorksModel" "thrown" "I") (by decide +kernel)) (fun _ h9 => h9) rfl (by decide +kernel) rfl rfl (by rw [o_Fs0.2.1]; decide) dX12_slot_29 (fun H locs hP hD hS => ?_)
    have hP : va_P (dC, dI) vwCl [(Ad0, .inr (15, (Fs0.set 0 (.int 1)))), (Ad1, .inl (Ka0, 5, .inl Fa0))] H := hP
    have hD : va_D A [(Ad0, .inr (15, (Fs0.set 0 (.int 1)))), (Ad1, .inl (Ka0, 5, .inl Fa0))] := hD
    have o_s120 := ow_set o_Fs0 0 (.int 1) (by decide) (l' := [(0, .int 1), (48, .ref Ad1)]) (w' := [0]) rfl rfl
    generalize (Fs0.set 0 (.int 1)) = s120 at hP hD o_s120
    refine lv_aload_n hx hb dX12_slot_32 rfl (lv_at hl 0 rfl) ?_
    refine va_get (D := (dC, dI)) (ci := 15) (v := .int 1) (C := RX12) (T := TX12) (N := 150) hx hb hts (in_z_X12_slot_X12) hown hK hP 0 rfl rfl 0 (by decide) (hts (.fieldLink RX12 388 "HeapWorksModel" "thrown" "I") (by decide +kernel)) (fun _ h9 => h9) (ow_at o_s120 0 rfl) dX12_slot_33 ?_
    refine lv_if_le (tgt := 43) hx hb dX12_slot_36 (by decide) (fun c121 => absurd c121 (by decide)) (fun c121 => ?_)
    refine lv_lconst (v := 0) hx hb dX12_slot_39 (by decide) ?_
    refine lv_goto (tgt := 50) hx hb dX12_slot_40 (by decide) ?_
    have hP9 := hP.sub (ws' := [(Ad0, .inr (15, s120)), (Ad1, .inl (Ka0, 5, .inl Fa0))]) [0, 1] rfl
    have hD9 := hD.sub (ws' := [(Ad0, .inr (15, s120)), (Ad1, .inl (Ka0, 5, .inl Fa0))]) [0, 1] (by decide) rfl
    have hK9 := hK.sub (tys' := [(Ka0, .int)]) [0] rfl
    exact W.lret (v := 0) hx hb hr (fun t ht hW => ⟨⟨0, s120, rfl, (Or.inr (Or.inl ⟨c104, c105, rfl, o_s120⟩)), by rw [ht]; exact hP9, va_K.moved hW.alike hK9, hD9⟩, hS.F ht⟩) hS.2.2 dX12_slot_50
  · skip
    subst er110
    refine lv_if_eq (tgt := 24) hx hb dX12_slot_7 (by decide) (fun c122 => ?_) (fun c122 => absurd c122 (by decide))
    refine lv_iconst (v := 1) hx hb dX12_slot_24 (by decide) ?_
    refine lv_goto (tgt := 29) hx hb dX12_slot_25 (by decide) ?_
    refine va_put (D := (dC, dI)) (ci := 15) (v := .int 1) (ty := .int) (C := RX12) (T := TX12) (N := 150) hx hb hts (in_z_X12_slot_X12) tyX12 tyX12_ok nmX12 hown hK hP hD hS 0 rfl rfl 0 (by decide) (hts (.fieldLink RX12 388 "HeapWorksModel" "thrown" "I") (by decide +kernel)) (fun _ h9 => h9) rfl (by decide +kernel) rfl rfl (by rw [o_Fs0.2.1]; decide) dX12_slot_29 (fun H locs hP hD hS => ?_)
    have hP : va_P (dC, dI) vwCl [(Ad0, .inr (15, (Fs0.set 0 (.int 1)))), (Ad1, .inl (Ka0, 5, .inl Fa0))] H := hP
    have hD : va_D A [(Ad0, .inr (15, (Fs0.set 0 (.int 1)))), (Ad1, .inl (Ka0, 5, .inl Fa0))] := hD
    have o_s123 := ow_set o_Fs0 0 (.int 1) (by decide) (l' := [(0, .int 1), (48, .ref Ad1)]) (w' := [0]) rfl rfl
    generalize (Fs0.set 0 (.int 1)) = s123 at hP hD o_s123
    refine lv_aload_n hx hb dX12_slot_32 rfl (lv_at hl 0 rfl) ?_
    refine va_get (D := (dC, dI)) (ci := 15) (v := .int 1) (C := RX12) (T := TX12) (N := 150) hx hb hts (in_z_X12_slot_X12) hown hK hP 0 rfl rfl 0 (by decide) (hts (.fieldLink RX12 388 "HeapWorksModel" "thrown" "I") (by decide +kernel)) (fun _ h9 => h9) (ow_at o_s123 0 rfl) dX12_slot_33 ?_
    refine lv_if_le (tgt := 43) hx hb dX12_slot_36 (by decide) (fun c124 => absurd c124 (by decide)) (fun c124 => ?_)
    refine lv_lconst (v := 0) hx hb dX12_slot_39 (by decide) ?_
    refine lv_goto (tgt := 50) hx hb dX12_slot_40 (by decide) ?_
    have hP9 := hP.sub (ws' := [(Ad0, .inr (15, s123)), (Ad1, .inl (Ka0, 5, .inl Fa0))]) [0, 1] rfl
    have hD9 := hD.sub (ws' := [(Ad0, .inr (15, s123)), (Ad1, .inl (Ka0, 5, .inl Fa0))]) [0, 1] (by decide) rfl
    have hK9 := hK.sub (tys' := [(Ka0, .int)]) [0] rfl
    exact W.lret (v := 0) hx hb hr (fun t ht hW => ⟨⟨0, s123, rfl, (Or.inr (Or.inr (Or.inl ⟨c107, c108, c109, rfl, o_s123⟩))), by rw [ht]; exact hP9, va_K.moved hW.alike hK9, hD9⟩, hS.F ht⟩) hS.2.2 dX12_slot_50
  · skip
    subst er115
    refine lv_if_eq (tgt := 24) hx hb dX12_slot_7 (by decide) (fun c125 => ?_) (fun c125 => absurd c125 (by decide))
    refine lv_iconst (v := 1) hx hb dX12_slot_24 (by decide) ?_
    refine lv_goto (tgt := 29) hx hb dX12_slot_25 (by decide) ?_
    refine va_put (D := (dC, dI)) (ci := 15) (v := .int 1) (ty := .int) (C := RX12) (T := TX12) (N := 150) hx hb hts (in_z_X12_slot_X12) tyX12 tyX12_ok nmX12 hown hK hP hD hS 0 rfl rfl 0 (by decide) (hts (.fieldLink RX12 388 "HeapWorksModel" "thrown" "I") (by decide +kernel)) (fun _ h9 => h9) rfl (by decide +kernel) rfl rfl (by rw [o_Fs0.2.1]; decide) dX12_slot_29 (fun H locs hP hD hS => ?_)
    have hP : va_P (dC, dI) vwCl [(Ad0, .inr (15, (Fs0.set 0 (.int 1)))), (Ad1, .inl (Ka0, 5, .inl Fa0))] H := hP
    have hD : va_D A [(Ad0, .inr (15, (Fs0.set 0 (.int 1)))), (Ad1, .inl (Ka0, 5, .inl Fa0))] := hD
    have o_s126 := ow_set o_Fs0 0 (.int 1) (by decide) (l' := [(0, .int 1), (48, .ref Ad1)]) (w' := [0]) rfl rfl
    generalize (Fs0.set 0 (.int 1)) = s126 at hP hD o_s126
    refine lv_aload_n hx hb dX12_slot_32 rfl (lv_at hl 0 rfl) ?_
    refine va_get (D := (dC, dI)) (ci := 15) (v := .int 1) (C := RX12) (T := TX12) (N := 150) hx hb hts (in_z_X12_slot_X12) hown hK hP 0 rfl rfl 0 (by decide) (hts (.fieldLink RX12 388 "HeapWorksModel" "thrown" "I") (by decide +kernel)) (fun _ h9 => h9) (ow_at o_s126 0 rfl) dX12_slot_33 ?_
    refine lv_if_le (tgt := 43) hx hb dX12_slot_36 (by decide) (fun c127 => absurd c127 (by decide)) (fun c127 => ?_)
    refine lv_lconst (v := 0) hx hb dX12_slot_39 (by decide) ?_
    refine lv_goto (tgt := 50) hx hb dX12_slot_40 (by decide) ?_
    have hP9 := hP.sub (ws' := [(Ad0, .inr (15, s126)), (Ad1, .inl (Ka0, 5, .inl Fa0))]) [0, 1] rfl
    have hD9 := hD.sub (ws' := [(Ad0, .inr (15, s126)), (Ad1, .inl (Ka0, 5, .inl Fa0))]) [0, 1] (by decide) rfl
    have hK9 := hK.sub (tys' := [(Ka0, .int)]) [0] rfl
    exact W.lret (v := 0) hx hb hr (fun t ht hW => ⟨⟨0, s126, rfl, (Or.inr (Or.inr (Or.inr (⟨c111, c112, c113, c114, rfl, o_s126⟩)))), by rw [ht]; exact hP9, va_K.moved hW.alike hK9, hD9⟩, hS.F ht⟩) hS.2.2 dX12_slot_50

def l_z_X12_holder : List Cond := [.methodLink RX12 600 yX12_isThing, .instanceMethod yX12_isThing, .selects RX12 yX12_isThing yX12_isThing, .initialized RX12, .fieldLink RX12 388 "HeapWorksModel" "thrown" "I", .code yX12_isThing cX12_isThing 3 (some .boolean), .methodLink RX12 542 yX12_isPicture, .instanceMethod yX12_isPicture, .selects RX12 yX12_isPicture yX12_isPicture, .fieldLink RX12 183 "HeapWorksModel" "things" "[I", .code yX12_isPicture cX12_isPicture 2 (some .boolean)]
def w_z_X12_holder : List Cond := .code yX12_holder cX12_holder 9 (some .int) :: (l_z_X12_holder ++ (wsX120))
theorem in_z_X12_holder_X12 : ∀ w ∈ wsX120, w ∈ w_z_X12_holder := fun w h => List.mem_cons_of_mem _ (List.mem_append_right _ (h))
theorem g_z_X12_holder_z_X12_isThing_600 : GoodIn w_z_X12_holder (wsV RX12 600 RX12 yX12_isThing w_z_X12_isThing) := goodIn_app (goodIn_r (([.methodLink RX12 600 yX12_isThing, .instanceMethod yX12_isThing, .selects RX12 yX12_isThing yX12_isThing, .initialized RX12] : List Cond)) [1, 2, 3, 4] rfl (by decide +kernel)) (goodIn_ca (goodIn_r (.code yX12_isThing cX12_isThing 3 (some .boolean) :: l_z_X12_isThing) [6, 7, 8, 9, 4, 10, 11] rfl (by decide +kernel)) (goodIn_in (in_z_X12_holder_X12) gd_X12))
set_option maxHeartbeats 4000000 in
set_option maxRecDepth 100000 in
theorem z_X12_holder (l : Launch) (dC : Nat → ClassId) (dI : Nat → Nat → Nat) (sz : Nat) (Ad0 : Nat) (Fs0 : List Value) (Ad1 : Nat) (Fa0 : Nat → Int32) (Ka0 : ClassId) (Va0 : Int32) (Va1 : Int32) (Va2 : Int32) (Va3 : Int32) (k_Fs0 : fh Fs0 150 [(0, .int 0), (48, .ref Ad1)]) (hz_Fa0 : ∀ j, Fa0 j = 0) : Met l yX12_holder w_z_X12_holder ({ frames := 2, cells := 0, slots := 0, locals := 43 }) (va_Pc [.ref Ad0, .int Va0, .int Va1, .int Va2, .int Va3] (fun U => U.heap.size = sz ∧ Wd dC dI [(Ka0, .int)] (fun _ => True) [(Ad0, .inr (15, Fs0)), (Ad1, .inl (Ka0, 5, .inl Fa0))] U)) (va_Qi (fun (r : Int32) (u : List Value) => (Va0 < 0 ∧ r = 0 ∧ ow Fs0 (u) 150 [0] [(0, .int 1), (48, .ref Ad1)]) ∨ (¬ Va0 < 0 ∧ 4 ≤ Va0 ∧ r = 0 ∧ ow Fs0 (u) 150 [0] [(0, .int 1), (48, .ref Ad1)]) ∨ (¬ Va0 < 0 ∧ ¬ 4 ≤ Va0 ∧ Va1 < 0 ∧ r = 0 ∧ ow Fs0 (u) 150 [0] [(0, .int 1), (48, .ref Ad1)]) ∨ (¬ Va0 < 0 ∧ ¬ 4 ≤ Va0 ∧ ¬ Va1 < 0 ∧ 0 ≤ Va1 ∧ r = 0 ∧ ow Fs0 (u) 150 [0] [(0, .int 1), (48, .ref Ad1)])) (fun (u : List Value) t => Wd dC dI [(Ka0, .int)] (va_A [(Ad0, .inr (15, Fs0)), (Ad1, .inl (Ka0, 5, .inl Fa0))] sz) [(Ad0, .inr (15, (u))), (Ad1, .inl (Ka0, 5, .inl Fa0))] t) (va_A [(Ad0, .inr (15, Fs0)), (Ad1, .inl (Ka0, 5, .inl Fa0))] sz))  0 0 (va_A [(Ad0, .inr (15, Fs0)), (Ad1, .inl (Ka0, 5, .inl Fa0))] sz) := by
  refine Met.ofW (cc := cX12_holder) (maxL := 9) (ret := (some .int)) (by decide) rfl ?_
  intro p e s m args below meth c s₁ B hml hv
  obtain ⟨rfl, hsz, hP, hK, hD0⟩ := hv
  have hx := B.exec
  have hb := B.bytes
  have hr := B.returns
  have hts := atoms_spec (ws := w_z_X12_holder) B.pre
  have hown : s.vm.findClass RX12 = some m.cls := findClass_of_methodNamed B.named
  have hlocks := B.notSynchronized
  subst hsz
  have hD := hD0.self (sz := s.heap.size)
  generalize hAe : va_A [(Ad0, .inr (15, Fs0)), (Ad1, .inl (Ka0, 5, .inl Fa0))] s.heap.size = A at hD ⊢
  have hA : ∀ q : Nat, s.heap.size ≤ q → A q := fun q h => by rw [← hAe]; exact Or.inr h
  have hS : va_S A s.heap s.heap [] := va_S.rf
  have hl := lv_entry ([.ref Ad0, .int Va0, .int Va1, .int Va2, .int Va3]) (n := 9) (Nat.le_of_ble_eq_true rfl)
  rw [lg_entry_eq]
  generalize (lg_sl ([.ref Ad0, .int Va0, .int Va1, .int Va2, .int Va3]) ++ List.replicate (9 - (lg_sl ([.ref Ad0, .int Va0, .int Va1, .int Va2, .int Va3])).length) Slot.unset).toArray = ls at hl ⊢
  have hl : lv_has ls 9 [(0, .ref Ad0), (1, .int Va0), (2, .int Va1), (3, .int Va2), (4, .int Va3)] := hl
  have o_Fs0 := ow_0 k_Fs0
  refine lv_aload_n hx hb dX12_holder_0 rfl (lv_at hl 0 rfl) ?_
  refine lv_aload_n hx hb dX12_holder_1 rfl (lv_at hl 0 rfl) ?_
  refine lv_iload_n hx hb dX12_holder_2 rfl (lv_at hl 1 rfl) ?_
  refine lv_iload_n hx hb dX12_holder_3 rfl (lv_at hl 2 rfl) ?_
  have hPc := hP.sub (ws' := [(Ad0, .inr (15, Fs0)), (Ad1, .inl (Ka0, 5, .inl Fa0))]) [0, 1] rfl
  have hDc := hD.sub (ws' := [(Ad0, .inr (15, Fs0)), (Ad1, .inl (Ka0, 5, .inl Fa0))]) [0, 1] (by decide) rfl
  have hKc := hK.sub (tys' := [(Ka0, .int)]) [0] rfl
  have hFc := va_free (wc := [(Ad0, .inr (15, Fs0)), (Ad1, .inl (Ka0, 5, .inl Fa0))]) hD hS hA [0, 1] rfl
  refine va_calli (va_runV (As := [.int Va0, .int Va1]) (rest := [.ref Ad0]) ⟨hx, hb, hml, hown, hts⟩ (z_X12_isThing l dC dI s.heap.size Ad0 Fs0 Ad1 Fa0 Ka0 Va0 Va1 (fh_sub o_Fs0.2 [1] rfl) hz_Fa0) (cwV 2 hts g_z_X12_holder_z_X12_isThing_600 rfl rfl rfl (by decide +kernel) ⟨Nat.le_of_ble_eq_true rfl, Nat.le_of_ble_eq_true rfl⟩) ⟨fun a U g mk q => by obtain ⟨q0, q1, qP, qK, qD⟩ := q; exact ⟨q0, q1, qP, va_K.moved (u := U) (U := U.calling g mk a) (Vm.Alike.refl U.vm) qK, qD⟩, va_recv hK hP (ci := 15) (q0 := 0) rfl rfl, fun U hU hW => ⟨rfl, by rw [hU], by rw [hU]; exact hPc, va_K.moved hW.alike hKc, hDc.weaken (fun _ _ _ _ => trivial)⟩⟩ rfl rfl hl.1 rfl (lv_room (Nat.le_of_ble_eq_true rfl)) dX12_holder_4 ⟨Nat.le_of_ble_eq_true rfl, Nat.le_of_ble_eq_true rfl⟩) hS (fun q _ h => hFc q h) hFc (fun r101 u t H1 locs ht hvm hw hB hz1 hk1 hS => ?_)
  obtain ⟨hP1, hK1, hD1⟩ := hB
  rw [ht] at hP1
  try dsimp only at hw
  obtain ⟨hP, hD⟩ := va_join (wr := []) (w1 := [(Ad0, .inr (15, Fs0)), (Ad1, .inl (Ka0, 5, .inl Fa0))]) hP hD [0, 1] [] rfl rfl (by decide) (by decide) hk1 hFc hP1 hD1
  have hK := hK.sub (tys' := [(Ka0, .int)]) [0] rfl
  generalize H1 = H at hP hS ⊢
  have hP : va_P (dC, dI) vwCl [(Ad0, .inr (15, Fs0)), (Ad1, .inl (Ka0, 5, .inl Fa0))] H := hP
  have hD : va_D A [(Ad0, .inr (15, Fs0)), (Ad1, .inl (Ka0, 5, .inl Fa0))] := hD
  rcases hw with ⟨c102, er103⟩ | ⟨c104, c105, er106⟩ | ⟨c107, c108, c109, er110⟩ | ⟨c111, c112, c113, c114, er115⟩
  · skip
    subst er103
    refine lv_if_eq (tgt := 35) hx hb dX12_holder_7 (by decide) (fun c116 => ?_) (fun c116 => absurd c116 (by decide))
    refine lv_iconst (v := 1) hx hb dX12_holder_35 (by decide) ?_
    refine lv_goto (tgt := 40) hx hb dX12_holder_36 (by decide) ?_
    refine va_put (D := (dC, dI)) (ci := 15) (v := .int 1) (ty := .int) (C := RX12) (T := TX12) (N := 150) hx hb hts (in_z_X12_holder_X12) tyX12 tyX12_ok nmX12 hown hK hP hD hS 0 rfl rfl 0 (by decide) (hts (.fieldLink RX12 388 "HeapWorksModel" "thrown" "I") (by decide +kernel)) (fun _ h9 => h9) rfl (by decide +kernel) rfl rfl (by rw [o_Fs0.2.1]; decide) dX12_holder_40 (fun H locs hP hD hS => ?_)
    have hP : va_P (dC, dI) vwCl [(Ad0, .inr (15, (Fs0.set 0 (.int 1)))), (Ad1, .inl (Ka0, 5, .inl Fa0))] H := hP
    have hD : va_D A [(Ad0, .inr (15, (Fs0.set 0 (.int 1)))), (Ad1, .inl (Ka0, 5, .inl Fa0))] := hD
    have o_s117 := ow_set o_Fs0 0 (.int 1) (by decide) (l' := [(0, .int 1), (48, .ref Ad1)]) (w' := [0]) rfl rfl
    generalize (Fs0.set 0 (.int 1)) = s117 at hP hD o_s117
    refine lv_aload_n hx hb dX12_holder_43 rfl (lv_at hl 0 rfl) ?_
    refine va_get (D := (dC, dI)) (ci := 15) (v := .int 1) (C := RX12) (T := TX12) (N := 150) hx hb hts (in_z_X12_holder_X12) hown hK hP 0 rfl rfl 0 (by decide) (hts (.fieldLink RX12 388 "HeapWorksModel" "thrown" "I") (by decide +kernel)) (fun _ h9 => h9) (ow_at o_s117 0 rfl) dX12_holder_44 ?_
    refine lv_if_le (tgt := 52) hx hb dX12_holder_47 (by decide) (fun c118 => absurd c118 (by decide)) (fun c118 => ?_)
    refine lv_iconst (v := 0) hx hb dX12_holder_50 (by decide) ?_
    have hP9 := hP.sub (ws' := [(Ad0, .inr (15, s117)), (Ad1, .inl (Ka0, 5, .inl Fa0))]) [0, 1] rfl
    have hD9 := hD.sub (ws' := [(Ad0, .inr (15, s117)), (Ad1, .inl (Ka0, 5, .inl Fa0))]) [0, 1] (by decide) rfl
    have hK9 := hK.sub (tys' := [(Ka0, .int)]) [0] rfl
    exact W.iret (v := 0) hx hb hr (fun t ht hW => ⟨⟨0, s117, rfl, (Or.inl ⟨c102, rfl, o_s117⟩), by rw [ht]; exact hP9, va_K.moved hW.alike hK9, hD9⟩, hS.F ht⟩) hS.2.2 dX12_holder_51
  · skip
    subst er106
    refine lv_if_eq (tgt := 35) hx hb dX12_holder_7 (by decide) (fun c119 => ?_) (fun c119 => absurd c119 (by decide))
    refine lv_iconst (v := 1) hx hb dX12_holder_35 (by decide) ?_
    refine lv_goto (tgt := 40) hx hb dX12_holder_36 (by decide) ?_
    refine va_put (D := (dC, dI)) (ci := 15) (v := .int 1) (ty := .int) (C := RX12) (T := TX12) (N := 150) hx hb hts (in_z_X12_holder_X12) tyX12 tyX12_ok nmX12 hown hK hP hD hS 0 rfl rfl 0 (by decide) (hts (.fieldLink RX12 388 "HeapWorksModel" "thrown" "I") (by decide +kernel)) (fun _ h9 => h9) rfl (by decide +kernel) rfl rfl (by rw [o_Fs0.2.1]; decide) dX12_holder_40 (fun H locs hP hD hS => ?_)
    have hP : va_P (dC, dI) vwCl [(Ad0, .inr (15, (Fs0.set 0 (.int 1)))), (Ad1, .inl (Ka0, 5, .inl Fa0))] H := hP
    have hD : va_D A [(Ad0, .inr (15, (Fs0.set 0 (.int 1)))), (Ad1, .inl (Ka0, 5, .inl Fa0))] := hD
    have o_s120 := ow_set o_Fs0 0 (.int 1) (by decide) (l' := [(0, .int 1), (48, .ref Ad1)]) (w' := [0]) rfl rfl
    generalize (Fs0.set 0 (.int 1)) = s120 at hP hD o_s120
    refine lv_aload_n hx hb dX12_holder_43 rfl (lv_at hl 0 rfl) ?_
    refine va_get (D := (dC, dI)) (ci := 15) (v := .int 1) (C := RX12) (T := TX12) (N := 150) hx hb hts (in_z_X12_holder_X12) hown hK hP 0 rfl rfl 0 (by decide) (hts (.fieldLink RX12 388 "HeapWorksModel" "thrown" "I") (by decide +kernel)) (fun _ h9 => h9) (ow_at o_s120 0 rfl) dX12_holder_44 ?_
    refine lv_if_le (tgt := 52) hx hb dX12_holder_47 (by decide) (fun c121 => absurd c121 (by decide)) (fun c121 => ?_)
    refine lv_iconst (v := 0) hx hb dX12_holder_50 (by decide) ?_
    have hP9 := hP.sub (ws' := [(Ad0, .inr (15, s120)), (Ad1, .inl (Ka0, 5, .inl Fa0))]) [0, 1] rfl
    have hD9 := hD.sub (ws' := [(Ad0, .inr (15, s120)), (Ad1, .inl (Ka0, 5, .inl Fa0))]) [0, 1] (by decide) rfl
    have hK9 := hK.sub (tys' := [(Ka0, .int)]) [0] rfl
    exact W.iret (v := 0) hx hb hr (fun t ht hW => ⟨⟨0, s120, rfl, (Or.inr (Or.inl ⟨c104, c105, rfl, o_s120⟩)), by rw [ht]; exact hP9, va_K.moved hW.alike hK9, hD9⟩, hS.F ht⟩) hS.2.2 dX12_holder_51
  · skip
    subst er110
    refine lv_if_eq (tgt := 35) hx hb dX12_holder_7 (by decide) (fun c122 => ?_) (fun c122 => absurd c122 (by decide))
    refine lv_iconst (v := 1) hx hb dX12_holder_35 (by decide) ?_
    refine lv_goto (tgt := 40) hx hb dX12_holder_36 (by decide) ?_
    refine va_put (D := (dC, dI)) (ci := 15) (v := .int 1) (ty := .int) (C := RX12) (T := TX12) (N := 150) hx hb hts (in_z_X12_holder_X12) tyX12 tyX12_ok nmX12 hown hK hP hD hS 0 rfl rfl 0 (by decide) (hts (.fieldLink RX12 388 "HeapWorksModel" "thrown" "I") (by decide +kernel)) (fun _ h9 => h9) rfl (by decide +kernel) rfl rfl (by rw [o_Fs0.2.1]; decide) dX12_holder_40 (fun H locs hP hD hS => ?_)
    have hP : va_P (dC, dI) vwCl [(Ad0, .inr (15, (Fs0.set 0 (.int 1)))), (Ad1, .inl (Ka0, 5, .inl Fa0))] H := hP
    have hD : va_D A [(Ad0, .inr (15, (Fs0.set 0 (.int 1)))), (Ad1, .inl (Ka0, 5, .inl Fa0))] := hD
    have o_s123 := ow_set o_Fs0 0 (.int 1) (by decide) (l' := [(0, .int 1), (48, .ref Ad1)]) (w' := [0]) rfl rfl
    generalize (Fs0.set 0 (.int 1)) = s123 at hP hD o_s123
    refine lv_aload_n hx hb dX12_holder_43 rfl (lv_at hl 0 rfl) ?_
    refine va_get (D := (dC, dI)) (ci := 15) (v := .int 1) (C := RX12) (T := TX12) (N := 150) hx hb hts (in_z_X12_holder_X12) hown hK hP 0 rfl rfl 0 (by decide) (hts (.fieldLink RX12 388 "HeapWorksModel" "thrown" "I") (by decide +kernel)) (fun _ h9 => h9) (ow_at o_s123 0 rfl) dX12_holder_44 ?_
    refine lv_if_le (tgt := 52) hx hb dX12_holder_47 (by decide) (fun c124 => absurd c124 (by decide)) (fun c124 => ?_)
    refine lv_iconst (v := 0) hx hb dX12_holder_50 (by decide) ?_
    have hP9 := hP.sub (ws' := [(Ad0, .inr (15, s123)), (Ad1, .inl (Ka0, 5, .inl Fa0))]) [0, 1] rfl
    have hD9 := hD.sub (ws' := [(Ad0, .inr (15, s123)), (Ad1, .inl (Ka0, 5, .inl Fa0))]) [0, 1] (by decide) rfl
    have hK9 := hK.sub (tys' := [(Ka0, .int)]) [0] rfl
    exact W.iret (v := 0) hx hb hr (fun t ht hW => ⟨⟨0, s123, rfl, (Or.inr (Or.inr (Or.inl ⟨c107, c108, c109, rfl, o_s123⟩))), by rw [ht]; exact hP9, va_K.moved hW.alike hK9, hD9⟩, hS.F ht⟩) hS.2.2 dX12_holder_51
  · skip
    subst er115
    refine lv_if_eq (tgt := 35) hx hb dX12_holder_7 (by decide) (fun c125 => ?_) (fun c125 => absurd c125 (by decide))
    refine lv_iconst (v := 1) hx hb dX12_holder_35 (by decide) ?_
    refine lv_goto (tgt := 40) hx hb dX12_holder_36 (by decide) ?_
    refine va_put (D := (dC, dI)) (ci := 15) (v := .int 1) (ty := .int) (C := RX12) (T := TX12) (N := 150) hx hb hts (in_z_X12_holder_X12) tyX12 tyX12_ok nmX12 hown hK hP hD hS 0 rfl rfl 0 (by decide) (hts (.fieldLink RX12 388 "HeapWorksModel" "thrown" "I") (by decide +kernel)) (fun _ h9 => h9) rfl (by decide +kernel) rfl rfl (by rw [o_Fs0.2.1]; decide) dX12_holder_40 (fun H locs hP hD hS => ?_)
    have hP : va_P (dC, dI) vwCl [(Ad0, .inr (15, (Fs0.set 0 (.int 1)))), (Ad1, .inl (Ka0, 5, .inl Fa0))] H := hP
    have hD : va_D A [(Ad0, .inr (15, (Fs0.set 0 (.int 1)))), (Ad1, .inl (Ka0, 5, .inl Fa0))] := hD
    have o_s126 := ow_set o_Fs0 0 (.int 1) (by decide) (l' := [(0, .int 1), (48, .ref Ad1)]) (w' := [0]) rfl rfl
    generalize (Fs0.set 0 (.int 1)) = s126 at hP hD o_s126
    refine lv_aload_n hx hb dX12_holder_43 rfl (lv_at hl 0 rfl) ?_
    refine va_get (D := (dC, dI)) (ci := 15) (v := .int 1) (C := RX12) (T := TX12) (N := 150) hx hb hts (in_z_X12_holder_X12) hown hK hP 0 rfl rfl 0 (by decide) (hts (.fieldLink RX12 388 "HeapWorksModel" "thrown" "I") (by decide +kernel)) (fun _ h9 => h9) (ow_at o_s126 0 rfl) dX12_holder_44 ?_
    refine lv_if_le (tgt := 52) hx hb dX12_holder_47 (by decide) (fun c127 => absurd c127 (by decide)) (fun c127 => ?_)
    refine lv_iconst (v := 0) hx hb dX12_holder_50 (by decide) ?_
    have hP9 := hP.sub (ws' := [(Ad0, .inr (15, s126)), (Ad1, .inl (Ka0, 5, .inl Fa0))]) [0, 1] rfl
    have hD9 := hD.sub (ws' := [(Ad0, .inr (15, s126)), (Ad1, .inl (Ka0, 5, .inl Fa0))]) [0, 1] (by decide) rfl
    have hK9 := hK.sub (tys' := [(Ka0, .int)]) [0] rfl
    exact W.iret (v := 0) hx hb hr (fun t ht hW => ⟨⟨0, s126, rfl, (Or.inr (Or.inr (Or.inr (⟨c111, c112, c113, c114, rfl, o_s126⟩)))), by rw [ht]; exact hP9, va_K.moved hW.alike hK9, hD9⟩, hS.F ht⟩) hS.2.2 dX12_holder_51

def l_z_X12_picture : List Cond := [.fieldLink RX12 388 "HeapWorksModel" "thrown" "I", .methodLink RX12 542 yX12_isPicture, .instanceMethod yX12_isPicture, .selects RX12 yX12_isPicture yX12_isPicture, .initialized RX12, .fieldLink RX12 183 "HeapWorksModel" "things" "[I", .fieldLink RX12 231 "HeapWorksModel" "groupMany" "[I", .fieldLink RX12 228 "HeapWorksModel" "ringMany" "[I", .methodLink RX12 416 yX12_isClass, .instanceMethod yX12_isClass, .selects RX12 yX12_isClass yX12_isClass, .code yX12_isPicture cX12_isPicture 2 (some .boolean), .code yX12_isClass cX12_isClass 2 (some .boolean), .fieldLink RX12 413 "HeapWorksModel" "classes" "I"]
def w_z_X12_picture : List Cond := .code yX12_picture cX12_picture 10 (some .int) :: (l_z_X12_picture ++ (wsX120))
theorem in_z_X12_picture_X12 : ∀ w ∈ wsX120, w ∈ w_z_X12_picture := fun w h => List.mem_cons_of_mem _ (List.mem_append_right _ (h))
theorem g_z_X12_picture_z_X12_isPicture_542 : GoodIn w_z_X12_picture (wsV RX12 542 RX12 yX12_isPicture w_z_X12_isPicture) := goodIn_app (goodIn_r (([.methodLink RX12 542 yX12_isPicture, .instanceMethod yX12_isPicture, .selects RX12 yX12_isPicture yX12_isPicture, .initialized RX12] : List Cond)) [2, 3, 4, 5] rfl (by decide +kernel)) (goodIn_r (.code yX12_isPicture cX12_isPicture 2 (some .boolean) :: l_z_X12_isPicture) [12] rfl (by decide +kernel))
theorem g_z_X12_picture_z_X12_isClass_416 : GoodIn w_z_X12_picture (wsV RX12 416 RX12 yX12_isClass w_z_X12_isClass) := goodIn_app (goodIn_r (([.methodLink RX12 416 yX12_isClass, .instanceMethod yX12_isClass, .selects RX12 yX12_isClass yX12_isClass, .initialized RX12] : List Cond)) [9, 10, 11, 5] rfl (by decide +kernel)) (goodIn_ca (goodIn_r (.code yX12_isClass cX12_isClass 2 (some .boolean) :: l_z_X12_isClass) [13, 14] rfl (by decide +kernel)) (goodIn_in (in_z_X12_picture_X12) gd_X12))
set_option maxHeartbeats 4000000 in
set_option maxRecDepth 100000 in
theorem z_X12_picture (l : Launch) (dC : Nat → ClassId) (dI : Nat → Nat → Nat) (sz : Nat) (Ad0 : Nat) (Fs0 : List Value) (Ad1 : Nat) (Fa0 : Nat → Int32) (Ka0 : ClassId) (Ad2 : Nat) (Fa1 : Nat → Int32) (Ka1 : ClassId) (Ad3 : Nat) (Fa2 : Nat → Int32) (Ka2 : ClassId) (Va0 : Int32) (Va1 : Int32) (k_Fs0 : fh Fs0 150 [(20, .int 0), (48, .ref Ad1), (63, .ref Ad2), (64, .ref Ad3)]) (hz_Fa0 : ∀ j, Fa0 j = 0) (hz_Fa1 : ∀ j, Fa1 j = 0) (hz_Fa2 : ∀ j, Fa2 j = 0) : Met l yX12_picture w_z_X12_picture ({ frames := 1, cells := 0, slots := 0, locals := 21 }) (va_Pc [.ref Ad0, .int Va0, .int Va1] (fun U => U.heap.size = sz ∧ Wd dC dI [(Ka0, .int), (Ka1, .int), (Ka2, .int)] (fun _ => True) [(Ad0, .inr (15, Fs0)), (Ad1, .inl (Ka0, 5, .inl Fa0)), (Ad2, .inl (Ka1, 5, .inl Fa1)), (Ad3, .inl (Ka2, 5, .inl Fa2))] U)) (va_Qi (fun (r : Int32) (u : List Value) => (Va0 < 0 ∧ r = (-1) ∧ ow Fs0 (u) 150 [0] [(0, .int 0), (20, .int 0), (48, .ref Ad1), (63, .ref Ad2), (64, .ref Ad3)]) ∨ (¬ Va0 < 0 ∧ 4 ≤ Va0 ∧ r = (-1) ∧ ow Fs0 (u) 150 [0] [(0, .int 0), (20, .int 0), (48, .ref Ad1), (63, .ref Ad2), (64, .ref Ad3)]) ∨ (¬ Va0 < 0 ∧ ¬ 4 ≤ Va0 ∧ Va1 < 200 ∧ Va1 < 100 ∧ ¬ Va1 = 0 ∧ ¬ Va1 = 1 ∧ ¬ Va1 = 2 ∧ ¬ Va1 = 3 ∧ ¬ Va1 = 4 ∧ ¬ Va1 = 5 ∧ r = (-1) ∧ ow Fs0 (u) 150 [0] [(0, .int 0), (20, .int 0), (48, .ref Ad1), (63, .ref Ad2), (64, .ref Ad3)]) ∨ (¬ Va0 < 0 ∧ ¬ 4 ≤ Va0 ∧ Va1 < 200 ∧ Va1 < 100 ∧ ¬ Va1 = 0 ∧ ¬ Va1 = 1 ∧ ¬ Va1 = 2 ∧ ¬ Va1 = 3 ∧ ¬ Va1 = 4 ∧ Va1 = 5 ∧ r = (-1) ∧ ow Fs0 (u) 150 [0] [(0, .int 0), (20, .int 0), (48, .ref Ad1), (63, .ref Ad2), (64, .ref Ad3)]) ∨ (¬ Va0 < 0 ∧ ¬ 4 ≤ Va0 ∧ Va1 < 200 ∧ Va1 < 100 ∧ ¬ Va1 = 0 ∧ ¬ Va1 = 1 ∧ ¬ Va1 = 2 ∧ ¬ Va1 = 3 ∧ Va1 = 4 ∧ r = 0 ∧ ow Fs0 (u) 150 [0] [(0, .int 0), (20, .int 0), (48, .ref Ad1), (63, .ref Ad2), (64, .ref Ad3)]) ∨ (¬ Va0 < 0 ∧ ¬ 4 ≤ Va0 ∧ Va1 < 200 ∧ Va1 < 100 ∧ ¬ Va1 = 0 ∧ ¬ Va1 = 1 ∧ ¬ Va1 = 2 ∧ Va1 = 3 ∧ r = 0 ∧ ow Fs0 (u) 150 [0] [(0, .int 0), (20, .int 0), (48, .ref Ad1), (63, .ref Ad2), (64, .ref Ad3)]) ∨ (¬ Va0 < 0 ∧ ¬ 4 ≤ Va0 ∧ Va1 < 200 ∧ Va1 < 100 ∧ ¬ Va1 = 0 ∧ ¬ Va1 = 1 ∧ Va1 = 2 ∧ r = 0 ∧ ow Fs0 (u) 150 [0] [(0, .int 0), (20, .int 0), (48, .ref Ad1), (63, .ref Ad2), (64, .ref Ad3)]) ∨ (¬ Va0 < 0 ∧ ¬ 4 ≤ Va0 ∧ Va1 < 200 ∧ Va1 < 100 ∧ ¬ Va1 = 0 ∧ Va1 = 1 ∧ r = 0 ∧ ow Fs0 (u) 150 [0] [(0, .int 0), (20, .int 0), (48, .ref Ad1), (63, .ref Ad2), (64, .ref Ad3)]) ∨ (¬ Va0 < 0 ∧ ¬ 4 ≤ Va0 ∧ Va1 < 200 ∧ Va1 < 100 ∧ Va1 = 0 ∧ r = 0 ∧ ow Fs0 (u) 150 [0] [(0, .int 0), (20, .int 0), (48, .ref Ad1), (63, .ref Ad2), (64, .ref Ad3)]) ∨ (¬ Va0 < 0 ∧ ¬ 4 ≤ Va0 ∧ Va1 < 200 ∧ ¬ Va1 < 100 ∧ r = (-1) ∧ ow Fs0 (u) 150 [0] [(0, .int 0), (20, .int 0), (48, .ref Ad1), (63, .ref Ad2), (64, .ref Ad3)]) ∨ (¬ Va0 < 0 ∧ ¬ 4 ≤ Va0 ∧ ¬ Va1 < 200 ∧ r = (-1) ∧ ow Fs0 (u) 150 [0] [(0, .int 0), (20, .int 0), (48, .ref Ad1), (63, .ref Ad2), (64, .ref Ad3)])) (fun (u : List Value) t => Wd dC dI [(Ka0, .int), (Ka1, .int), (Ka2, .int)] (va_A [(Ad0, .inr (15, Fs0)), (Ad1, .inl (Ka0, 5, .inl Fa0)), (Ad2, .inl (Ka1, 5, .inl Fa1)), (Ad3, .inl (Ka2, 5, .inl Fa2))] sz) [(Ad0, .inr (15, (u))), (Ad1, .inl (Ka0, 5, .inl Fa0)), (Ad2, .inl (Ka1, 5, .inl Fa1)), (Ad3, .inl (Ka2, 5, .inl Fa2))] t) (va_A [(Ad0, .inr (15, Fs0)), (Ad1, .inl (Ka0, 5, .inl Fa0)), (Ad2, .inl (Ka1, 5, .inl Fa1)), (Ad3, .inl (Ka2, 5, .inl Fa2))] sz))  0 0 (va_A [(Ad0, .inr (15, Fs0)), (Ad1, .inl (Ka0, 5, .inl Fa0)), (Ad2, .inl (Ka1, 5, .inl Fa1)), (Ad3, .inl (Ka2, 5, .inl Fa2))] sz) := by
  refine Met.ofW (cc := cX12_picture) (maxL := 10) (ret := (some .int)) (by decide) rfl ?_
  intro p e s m args below meth c s₁ B hml hv
  obtain ⟨rfl, hsz, hP, hK, hD0⟩ := hv
  have hx := B.exec
  have hb := B.bytes
  have hr := B.returns
  have hts := atoms_spec (ws := w_z_X12_picture) B.pre
  have hown : s.vm.findClass RX12 = some m.cls := findClass_of_methodNamed B.named
  have hlocks := B.notSynchronized
  subst hsz
  have hD := hD0.self (sz := s.heap.size)
  generalize hAe : va_A [(Ad0, .inr (15, Fs0)), (Ad1, .inl (Ka0, 5, .inl Fa0)), (Ad2, .inl (Ka1, 5, .inl Fa1)), (Ad3, .inl (Ka2, 5, .inl Fa2))] s.heap.size = A at hD ⊢
  have hA : ∀ q : Nat, s.heap.size ≤ q → A q := fun q h => by rw [← hAe]; exact Or.inr h
  have hS : va_S A s.heap s.heap [] := va_S.rf
  have hl := lv_entry ([.ref Ad0, .int Va0, .int Va1]) (n := 10) (Nat.le_of_ble_eq_true rfl)
  rw [lg_entry_eq]
  generalize (lg_sl ([.ref Ad0, .int Va0, .int Va1]) ++ List.replicate (10 - (lg_sl ([.ref Ad0, .int Va0, .int Va1])).length) Slot.unset).toArray = ls at hl ⊢
  have hl : lv_has ls 10 [(0, .ref Ad0), (1, .int Va0), (2, .int Va1)] := hl
  have o_Fs0 := ow_0 k_Fs0
  refine lv_aload_n hx hb dX12_picture_0 rfl (lv_at hl 0 rfl) ?_
  refine lv_iconst (v := 0) hx hb dX12_picture_1 (by decide) ?_
  refine va_put (D := (dC, dI)) (ci := 15) (v := .int 0) (ty := .int) (C := RX12) (T := TX12) (N := 150) hx hb hts (in_z_X12_picture_X12) tyX12 tyX12_ok nmX12 hown hK hP hD hS 0 rfl rfl 0 (by decide) (hts (.fieldLink RX12 388 "HeapWorksModel" "thrown" "I") (by decide +kernel)) (fun _ h9 => h9) rfl (by decide +kernel) rfl rfl (by rw [o_Fs0.2.1]; decide) dX12_picture_2 (fun H locs hP hD hS => ?_)
  have hP : va_P (dC, dI) vwCl [(Ad0, .inr (15, (Fs0.set 0 (.int 0)))), (Ad1, .inl (Ka0, 5, .inl Fa0)), (Ad2, .inl (Ka1, 5, .inl Fa1)), (Ad3, .inl (Ka2, 5, .inl Fa2))] H := hP
  have hD : va_D A [(Ad0, .inr (15, (Fs0.set 0 (.int 0)))), (Ad1, .inl (Ka0, 5, .inl Fa0)), (Ad2, .inl (Ka1, 5, .inl Fa1)), (Ad3, .inl (Ka2, 5, .inl Fa2))] := hD
  have o_s101 := ow_set o_Fs0 0 (.int 0) (by decide) (l' := [(0, .int 0), (20, .int 0), (48, .ref Ad1), (63, .ref Ad2), (64, .ref Ad3)]) (w' := [0]) rfl rfl
  generalize (Fs0.set 0 (.int 0)) = s101 at hP hD o_s101
  refine lv_aload_n hx hb dX12_picture_5 rfl (lv_at hl 0 rfl) ?_
  refine lv_iload_n hx hb dX12_picture_6 rfl (lv_at hl 1 rfl) ?_
  have hPc := hP.sub (ws' := []) [] rfl
  have hDc := hD.sub (ws' := []) [] (by decide) rfl
  have hKc := hK.sub (tys' := []) [] rfl
  have hFc := va_free (wc := []) hD hS hA [] rfl
  refine va_calli (va_runV (As := [.int Va0]) (rest := []) ⟨hx, hb, hml, hown, hts⟩ (z_X12_isPicture l dC dI H.size Ad0 Va0  ) (cwV 1 hts g_z_X12_picture_z_X12_isPicture_542 rfl rfl rfl (by decide +kernel) ⟨Nat.le_of_ble_eq_true rfl, Nat.le_of_ble_eq_true rfl⟩) ⟨fun a U g mk q => by obtain ⟨q0, q1, qP, qK, qD⟩ := q; exact ⟨q0, q1, qP, va_K.moved (u := U) (U := U.calling g mk a) (Vm.Alike.refl U.vm) qK, qD⟩, va_recv hK hP (ci := 15) (q0 := 0) rfl rfl, fun U hU hW => ⟨rfl, by rw [hU], by rw [hU]; exact hPc, va_K.moved hW.alike hKc, hDc.weaken (fun _ _ _ _ => trivial)⟩⟩ rfl rfl hl.1 rfl (lv_room (Nat.le_of_ble_eq_true rfl)) dX12_picture_7 ⟨Nat.le_of_ble_eq_true rfl, Nat.le_of_ble_eq_true rfl⟩) hS (fun q _ h => hFc q h) hFc (fun r102 u t H1 locs ht hvm hw hB hz1 hk1 hS => ?_)
  obtain ⟨hP1, hK1, hD1⟩ := hB
  rw [ht] at hP1
  try dsimp only at hw
  obtain ⟨hP, hD⟩ := va_join (wr := [(Ad0, .inr (15, s101)), (Ad1, .inl (Ka0, 5, .inl Fa0)), (Ad2, .inl (Ka1, 5, .inl Fa1)), (Ad3, .inl (Ka2, 5, .inl Fa2))]) (w1 := []) hP hD [] [0, 1, 2, 3] rfl rfl (by decide) (by decide) hk1 hFc hP1 hD1
  have hK := hK.sub (tys' := [(Ka0, .int), (Ka1, .int), (Ka2, .int)]) [0, 1, 2] rfl
  generalize H1 = H at hP hS ⊢
  have hP : va_P (dC, dI) vwCl [(Ad0, .inr (15, s101)), (Ad1, .inl (Ka0, 5, .inl Fa0)), (Ad2, .inl (Ka1, 5, .inl Fa1)), (Ad3, .inl (Ka2, 5, .inl Fa2))] H := hP
  have hD : va_D A [(Ad0, .inr (15, s101)), (Ad1, .inl (Ka0, 5, .inl Fa0)), (Ad2, .inl (Ka1, 5, .inl Fa1)), (Ad3, .inl (Ka2, 5, .inl Fa2))] := hD
  rcases hw with ⟨c103, er104⟩ | ⟨c105, c106, er107⟩ | ⟨c108, c109, er110⟩
  · skip
    subst er104
    refine lv_if_ne (tgt := 15) hx hb dX12_picture_10 (by decide) (fun c111 => absurd c111 (by decide)) (fun c111 => ?_)
    refine lv_iconst (v := (-1)) hx hb dX12_picture_13 (by decide) ?_
    have hP9 := hP.sub (ws' := [(Ad0, .inr (15, s101)), (Ad1, .inl (Ka0, 5, .inl Fa0)), (Ad2, .inl (Ka1, 5, .inl Fa1)), (Ad3, .inl (Ka2, 5, .inl Fa2))]) [0, 1, 2, 3] rfl
    have hD9 := hD.sub (ws' := [(Ad0, .inr (15, s101)), (Ad1, .inl (Ka0, 5, .inl Fa0)), (Ad2, .inl (Ka1, 5, .inl Fa1)), (Ad3, .inl (Ka2, 5, .inl Fa2))]) [0, 1, 2, 3] (by decide) rfl
    have hK9 := hK.sub (tys' := [(Ka0, .int), (Ka1, .int), (Ka2, .int)]) [0, 1, 2] rfl
    exact W.iret (v := (-1)) hx hb hr (fun t ht hW => ⟨⟨(-1), s101, rfl, (Or.inl ⟨c103, rfl, o_s101⟩), by rw [ht]; exact hP9, va_K.moved hW.alike hK9, hD9⟩, hS.F ht⟩) hS.2.2 dX12_picture_14
  · skip
    subst er107
    refine lv_if_ne (tgt := 15) hx hb dX12_picture_10 (by decide) (fun c112 => absurd c112 (by decide)) (fun c112 => ?_)
    refine lv_iconst (v := (-1)) hx hb dX12_picture_13 (by decide) ?_
    have hP9 := hP.sub (ws' := [(Ad0, .inr (15, s101)), (Ad1, .inl (Ka0, 5, .inl Fa0)), (Ad2, .inl (Ka1, 5, .inl Fa1)), (Ad3, .inl (Ka2, 5, .inl Fa2))]) [0, 1, 2, 3] rfl
    have hD9 := hD.sub (ws' := [(Ad0, .inr (15, s101)), (Ad1, .inl (Ka0, 5, .inl Fa0)), (Ad2, .inl (Ka1, 5, .inl Fa1)), (Ad3, .inl (Ka2, 5, .inl Fa2))]) [0, 1, 2, 3] (by decide) rfl
    have hK9 := hK.sub (tys' := [(Ka0, .int), (Ka1, .int), (Ka2, .int)]) [0, 1, 2] rfl
    exact W.iret (v := (-1)) hx hb hr (fun t ht hW => ⟨⟨(-1), s101, rfl, (Or.inr (Or.inl ⟨c105, c106, rfl, o_s101⟩)), by rw [ht]; exact hP9, va_K.moved hW.alike hK9, hD9⟩, hS.F ht⟩) hS.2.2 dX12_picture_14
  · skip
    subst er110
    refine lv_if_ne (tgt := 15) hx hb dX12_picture_10 (by decide) (fun c113 => ?_) (fun c113 => absurd c113 (by decide))
    refine lv_iconst (v := 0) hx hb dX12_picture_15 (by decide) ?_
    refine lv_istore_n (lv' := [(3, .int 0), (0, .ref Ad0), (1, .int Va0), (2, .int Va1)]) hx hb dX12_picture_16 rfl hl (by decide) rfl (fun ls hl => ?_)
    refine lv_iconst (v := 0) hx hb dX12_picture_17 (by decide) ?_
    refine lv_istore (lv' := [(4, .int 0), (3, .int 0), (0, .ref Ad0), (1, .int Va0), (2, .int Va1)]) hx hb dX12_picture_18 hl (by decide) rfl (fun ls hl => ?_)
    refine lv_iconst (v := (-1)) hx hb dX12_picture_20 (by decide) ?_
    refine lv_istore (lv' := [(5, .int (-1)), (4, .int 0), (3, .int 0), (0, .ref Ad0), (1, .int Va0), (2, .int Va1)]) hx hb dX12_picture_21 hl (by decide) rfl (fun ls hl => ?_)
    refine lv_iconst (v := 0) hx hb dX12_picture_23 (by decide) ?_
    refine lv_istore (lv' := [(6, .int 0), (5, .int (-1)), (4, .int 0), (3, .int 0), (0, .ref Ad0), (1, .int Va0), (2, .int Va1)]) hx hb dX12_picture_24 hl (by decide) rfl (fun ls hl => ?_)
    refine lv_iconst (v := 0) hx hb dX12_picture_26 (by decide) ?_
    refine lv_istore (lv' := [(7, .int 0), (6, .int 0), (5, .int (-1)), (4, .int 0), (3, .int 0), (0, .ref Ad0), (1, .int Va0), (2, .int Va1)]) hx hb dX12_picture_27 hl (by decide) rfl (fun ls hl => ?_)
    refine lv_iconst (v := 0) hx hb dX12_picture_29 (by decide) ?_
    refine lv_istore (lv' := [(8, .int 0), (7, .int 0), (6, .int 0), (5, .int (-1)), (4, .int 0), (3, .int 0), (0, .ref Ad0), (1, .int Va0), (2, .int Va1)]) hx hb dX12_picture_30 hl (by decide) rfl (fun ls hl => ?_)
    refine lv_iload hx hb dX12_picture_32 (lv_at hl 0 rfl) ?_
    refine lv_aload_n hx hb dX12_picture_34 rfl (lv_at hl 6 rfl) ?_
    refine va_get (D := (dC, dI)) (ci := 15) (v := .ref Ad1) (C := RX12) (T := TX12) (N := 150) hx hb hts (in_z_X12_picture_X12) hown hK hP 0 rfl rfl 48 (by decide) (hts (.fieldLink RX12 183 "HeapWorksModel" "things" "[I") (by decide +kernel)) (fun _ h9 => h9) (ow_at o_s101 2 rfl) dX12_picture_35 ?_
    refine lv_iload_n hx hb dX12_picture_38 rfl (lv_at hl 7 rfl) ?_
    refine va_iald hx hb hK hP 1 0 rfl rfl (by rw [vp_in_iff]; (try simp only [i_lt, i_le, i_eq, kc_0, kc_4] at c108 c109); omega) dX12_picture_39 ?_
    refine lv_topi (fun x114 ex114 => ?_)
    obtain rfl : x114 = 0 := ex114.trans (hz_Fa0 _)
    refine lv_icmp_ge (tgt := 224) hx hb dX12_picture_40 (by decide) (fun c115 => ?_) (fun c115 => absurd c115 (by decide))
    refine lv_iload_n hx hb dX12_picture_224 rfl (lv_at hl 8 rfl) ?_
    refine lv_sipush (v := 200) hx hb dX12_picture_225 (by decide) ?_
    refine lv_icmp_lt (tgt := 250) hx hb dX12_picture_228 (by decide) (fun c116 => ?_) (fun c116 => ?_)
    · skip
      refine lv_iload_n hx hb dX12_picture_250 rfl (lv_at hl 8 rfl) ?_
      refine lv_bipush (v := 100) hx hb dX12_picture_251 (by decide) ?_
      refine lv_icmp_lt (tgt := 274) hx hb dX12_picture_253 (by decide) (fun c117 => ?_) (fun c117 => ?_)
      · skip
        refine lv_iload_n hx hb dX12_picture_274 rfl (lv_at hl 8 rfl) ?_
        refine lv_if_ne (tgt := 287) hx hb dX12_picture_275 (by decide) (fun c118 => ?_) (fun c118 => ?_)
        · skip
          refine lv_iload_n hx hb dX12_picture_287 rfl (lv_at hl 8 rfl) ?_
          refine lv_iconst (v := 1) hx hb dX12_picture_288 (by decide) ?_
          refine lv_icmp_ne (tgt := 301) hx hb dX12_picture_289 (by decide) (fun c119 => ?_) (fun c119 => ?_)
          · skip
            refine lv_iload_n hx hb dX12_picture_301 rfl (lv_at hl 8 rfl) ?_
            refine lv_iconst (v := 2) hx hb dX12_picture_302 (by decide) ?_
            refine lv_icmp_ne (tgt := 315) hx hb dX12_picture_303 (by decide) (fun c120 => ?_) (fun c120 => ?_)
            · skip
              refine lv_iload_n hx hb dX12_picture_315 rfl (lv_at hl 8 rfl) ?_
              refine lv_iconst (v := 3) hx hb dX12_picture_316 (by decide) ?_
              refine lv_icmp_ne (tgt := 324) hx hb dX12_picture_317 (by decide) (fun c121 => ?_) (fun c121 => ?_)
              · skip
                refine lv_iload_n hx hb dX12_picture_324 rfl (lv_at hl 8 rfl) ?_
                refine lv_iconst (v := 4) hx hb dX12_picture_325 (by decide) ?_
                refine lv_icmp_ne (tgt := 334) hx hb dX12_picture_326 (by decide) (fun c122 => ?_) (fun c122 => ?_)
                · skip
                  refine lv_iload_n hx hb dX12_picture_334 rfl (lv_at hl 8 rfl) ?_
                  refine lv_iconst (v := 5) hx hb dX12_picture_335 (by decide) ?_
                  refine lv_icmp_ne (tgt := 344) hx hb dX12_picture_336 (by decide) (fun c123 => ?_) (fun c123 => ?_)
                  · skip
                    refine lv_iconst (v := (-1)) hx hb dX12_picture_344 (by decide) ?_
                    have hP9 := hP.sub (ws' := [(Ad0, .inr (15, s101)), (Ad1, .inl (Ka0, 5, .inl Fa0)), (Ad2, .inl (Ka1, 5, .inl Fa1)), (Ad3, .inl (Ka2, 5, .inl Fa2))]) [0, 1, 2, 3] rfl
                    have hD9 := hD.sub (ws' := [(Ad0, .inr (15, s101)), (Ad1, .inl (Ka0, 5, .inl Fa0)), (Ad2, .inl (Ka1, 5, .inl Fa1)), (Ad3, .inl (Ka2, 5, .inl Fa2))]) [0, 1, 2, 3] (by decide) rfl
                    have hK9 := hK.sub (tys' := [(Ka0, .int), (Ka1, .int), (Ka2, .int)]) [0, 1, 2] rfl
                    exact W.iret (v := (-1)) hx hb hr (fun t ht hW => ⟨⟨(-1), s101, rfl, (Or.inr (Or.inr (Or.inl ⟨c108, c109, c116, c117, c118, c119, c120, c121, c122, c123, rfl, o_s101⟩))), by rw [ht]; exact hP9, va_K.moved hW.alike hK9, hD9⟩, hS.F ht⟩) hS.2.2 dX12_picture_345
                  · skip
                    refine lv_iload hx hb dX12_picture_339 (lv_at hl 3 rfl) ?_
                    refine lv_goto (tgt := 345) hx hb dX12_picture_341 (by decide) ?_
                    have hP9 := hP.sub (ws' := [(Ad0, .inr (15, s101)), (Ad1, .inl (Ka0, 5, .inl Fa0)), (Ad2, .inl (Ka1, 5, .inl Fa1)), (Ad3, .inl (Ka2, 5, .inl Fa2))]) [0, 1, 2, 3] rfl
                    have hD9 := hD.sub (ws' := [(Ad0, .inr (15, s101)), (Ad1, .inl (Ka0, 5, .inl Fa0)), (Ad2, .inl (Ka1, 5, .inl Fa1)), (Ad3, .inl (Ka2, 5, .inl Fa2))]) [0, 1, 2, 3] (by decide) rfl
                    have hK9 := hK.sub (tys' := [(Ka0, .int), (Ka1, .int), (Ka2, .int)]) [0, 1, 2] rfl
                    exact W.iret (v := (-1)) hx hb hr (fun t ht hW => ⟨⟨(-1), s101, rfl, (Or.inr (Or.inr (Or.inr (Or.inl ⟨c108, c109, c116, c117, c118, c119, c120, c121, c122, c123, rfl, o_s101⟩)))), by rw [ht]; exact hP9, va_K.moved hW.alike hK9, hD9⟩, hS.F ht⟩) hS.2.2 dX12_picture_345
                · skip
                  refine lv_iload hx hb dX12_picture_329 (lv_at hl 4 rfl) ?_
                  refine lv_goto (tgt := 345) hx hb dX12_picture_331 (by decide) ?_
                  have hP9 := hP.sub (ws' := [(Ad0, .inr (15, s101)), (Ad1, .inl (Ka0, 5, .inl Fa0)), (Ad2, .inl (Ka1, 5, .inl Fa1)), (Ad3, .inl (Ka2, 5, .inl Fa2))]) [0, 1, 2, 3] rfl
                  have hD9 := hD.sub (ws' := [(Ad0, .inr (15, s101)), (Ad1, .inl (Ka0, 5, .inl Fa0)), (Ad2, .inl (Ka1, 5, .inl Fa1)), (Ad3, .inl (Ka2, 5, .inl Fa2))]) [0, 1, 2, 3] (by decide) rfl
                  have hK9 := hK.sub (tys' := [(Ka0, .int), (Ka1, .int), (Ka2, .int)]) [0, 1, 2] rfl
                  exact W.iret (v := 0) hx hb hr (fun t ht hW => ⟨⟨0, s101, rfl, (Or.inr (Or.inr (Or.inr (Or.inr (Or.inl ⟨c108, c109, c116, c117, c118, c119, c120, c121, c122, rfl, o_s101⟩))))), by rw [ht]; exact hP9, va_K.moved hW.alike hK9, hD9⟩, hS.F ht⟩) hS.2.2 dX12_picture_345
              · skip
                refine lv_iload_n hx hb dX12_picture_320 rfl (lv_at hl 5 rfl) ?_
                refine lv_goto (tgt := 345) hx hb dX12_picture_321 (by decide) ?_
                have hP9 := hP.sub (ws' := [(Ad0, .inr (15, s101)), (Ad1, .inl (Ka0, 5, .inl Fa0)), (Ad2, .inl (Ka1, 5, .inl Fa1)), (Ad3, .inl (Ka2, 5, .inl Fa2))]) [0, 1, 2, 3] rfl
                have hD9 := hD.sub (ws' := [(Ad0, .inr (15, s101)), (Ad1, .inl (Ka0, 5, .inl Fa0)), (Ad2, .inl (Ka1, 5, .inl Fa1)), (Ad3, .inl (Ka2, 5, .inl Fa2))]) [0, 1, 2, 3] (by decide) rfl
                have hK9 := hK.sub (tys' := [(Ka0, .int), (Ka1, .int), (Ka2, .int)]) [0, 1, 2] rfl
                exact W.iret (v := 0) hx hb hr (fun t ht hW => ⟨⟨0, s101, rfl, (Or.inr (Or.inr (Or.inr (Or.inr (Or.inr (Or.inl ⟨c108, c109, c116, c117, c118, c119, c120, c121, rfl, o_s101⟩)))))), by rw [ht]; exact hP9, va_K.moved hW.alike hK9, hD9⟩, hS.F ht⟩) hS.2.2 dX12_picture_345
            · skip
              refine lv_aload_n hx hb dX12_picture_306 rfl (lv_at hl 6 rfl) ?_
              refine va_get (D := (dC, dI)) (ci := 15) (v := .ref Ad3) (C := RX12) (T := TX12) (N := 150) hx hb hts (in_z_X12_picture_X12) hown hK hP 0 rfl rfl 64 (by decide) (hts (.fieldLink RX12 231 "HeapWorksModel" "groupMany" "[I") (by decide +kernel)) (fun _ h9 => h9) (ow_at o_s101 4 rfl) dX12_picture_307 ?_
              refine lv_iload_n hx hb dX12_picture_310 rfl (lv_at hl 7 rfl) ?_
              refine va_iald hx hb hK hP 3 2 rfl rfl (by rw [vp_in_iff]; (try simp only [i_lt, i_le, i_eq, kc_0, kc_4] at c108 c109); omega) dX12_picture_311 ?_
              refine lv_topi (fun x124 ex124 => ?_)
              obtain rfl : x124 = 0 := ex124.trans (hz_Fa2 _)
              refine lv_goto (tgt := 345) hx hb dX12_picture_312 (by decide) ?_
              have hP9 := hP.sub (ws' := [(Ad0, .inr (15, s101)), (Ad1, .inl (Ka0, 5, .inl Fa0)), (Ad2, .inl (Ka1, 5, .inl Fa1)), (Ad3, .inl (Ka2, 5, .inl Fa2))]) [0, 1, 2, 3] rfl
              have hD9 := hD.sub (ws' := [(Ad0, .inr (15, s101)), (Ad1, .inl (Ka0, 5, .inl Fa0)), (Ad2, .inl (Ka1, 5, .inl Fa1)), (Ad3, .inl (Ka2, 5, .inl Fa2))]) [0, 1, 2, 3] (by decide) rfl
              have hK9 := hK.sub (tys' := [(Ka0, .int), (Ka1, .int), (Ka2, .int)]) [0, 1, 2] rfl
              exact W.iret (v := 0) hx hb hr (fun t ht hW => ⟨⟨0, s101, rfl, (Or.inr (Or.inr (Or.inr (Or.inr (Or.inr (Or.inr (Or.inl ⟨c108, c109, c116, c117, c118, c119, c120, rfl, o_s101⟩))))))), by rw [ht]; exact hP9, va_K.moved hW.alike hK9, hD9⟩, hS.F ht⟩) hS.2.2 dX12_picture_345
          · skip
            refine lv_aload_n hx hb dX12_picture_292 rfl (lv_at hl 6 rfl) ?_
            refine va_get (D := (dC, dI)) (ci := 15) (v := .ref Ad2) (C := RX12) (T := TX12) (N := 150) hx hb hts (in_z_X12_picture_X12) hown hK hP 0 rfl rfl 63 (by decide) (hts (.fieldLink RX12 228 "HeapWorksModel" "ringMany" "[I") (by decide +kernel)) (fun _ h9 => h9) (ow_at o_s101 3 rfl) dX12_picture_293 ?_
            refine lv_iload_n hx hb dX12_picture_296 rfl (lv_at hl 7 rfl) ?_
            refine va_iald hx hb hK hP 2 1 rfl rfl (by rw [vp_in_iff]; (try simp only [i_lt, i_le, i_eq, kc_0, kc_4] at c108 c109); omega) dX12_picture_297 ?_
            refine lv_topi (fun x125 ex125 => ?_)
            obtain rfl : x125 = 0 := ex125.trans (hz_Fa1 _)
            refine lv_goto (tgt := 345) hx hb dX12_picture_298 (by decide) ?_
            have hP9 := hP.sub (ws' := [(Ad0, .inr (15, s101)), (Ad1, .inl (Ka0, 5, .inl Fa0)), (Ad2, .inl (Ka1, 5, .inl Fa1)), (Ad3, .inl (Ka2, 5, .inl Fa2))]) [0, 1, 2, 3] rfl
            have hD9 := hD.sub (ws' := [(Ad0, .inr (15, s101)), (Ad1, .inl (Ka0, 5, .inl Fa0)), (Ad2, .inl (Ka1, 5, .inl Fa1)), (Ad3, .inl (Ka2, 5, .inl Fa2))]) [0, 1, 2, 3] (by decide) rfl
            have hK9 := hK.sub (tys' := [(Ka0, .int), (Ka1, .int), (Ka2, .int)]) [0, 1, 2] rfl
            exact W.iret (v := 0) hx hb hr (fun t ht hW => ⟨⟨0, s101, rfl, (Or.inr (Or.inr (Or.inr (Or.inr (Or.inr (Or.inr (Or.inr (Or.inl ⟨c108, c109, c116, c117, c118, c119, rfl, o_s101⟩)))))))), by rw [ht]; exact hP9, va_K.moved hW.alike hK9, hD9⟩, hS.F ht⟩) hS.2.2 dX12_picture_345
        · skip
          refine lv_aload_n hx hb dX12_picture_278 rfl (lv_at hl 6 rfl) ?_
          refine va_get (D := (dC, dI)) (ci := 15) (v := .ref Ad1) (C := RX12) (T := TX12) (N := 150) hx hb hts (in_z_X12_picture_X12) hown hK hP 0 rfl rfl 48 (by decide) (hts (.fieldLink RX12 183 "HeapWorksModel" "things" "[I") (by decide +kernel)) (fun _ h9 => h9) (ow_at o_s101 2 rfl) dX12_picture_279 ?_
          refine lv_iload_n hx hb dX12_picture_282 rfl (lv_at hl 7 rfl) ?_
          refine va_iald hx hb hK hP 1 0 rfl rfl (by rw [vp_in_iff]; (try simp only [i_lt, i_le, i_eq, kc_0, kc_4] at c108 c109); omega) dX12_picture_283 ?_
          refine lv_topi (fun x126 ex126 => ?_)
          obtain rfl : x126 = 0 := ex126.trans (hz_Fa0 _)
          refine lv_goto (tgt := 345) hx hb dX12_picture_284 (by decide) ?_
          have hP9 := hP.sub (ws' := [(Ad0, .inr (15, s101)), (Ad1, .inl (Ka0, 5, .inl Fa0)), (Ad2, .inl (Ka1, 5, .inl Fa1)), (Ad3, .inl (Ka2, 5, .inl Fa2))]) [0, 1, 2, 3] rfl
          have hD9 := hD.sub (ws' := [(Ad0, .inr (15, s101)), (Ad1, .inl (Ka0, 5, .inl Fa0)), (Ad2, .inl (Ka1, 5, .inl Fa1)), (Ad3, .inl (Ka2, 5, .inl Fa2))]) [0, 1, 2, 3] (by decide) rfl
          have hK9 := hK.sub (tys' := [(Ka0, .int), (Ka1, .int), (Ka2, .int)]) [0, 1, 2] rfl
          exact W.iret (v := 0) hx hb hr (fun t ht hW => ⟨⟨0, s101, rfl, (Or.inr (Or.inr (Or.inr (Or.inr (Or.inr (Or.inr (Or.inr (Or.inr (Or.inl ⟨c108, c109, c116, c117, c118, rfl, o_s101⟩))))))))), by rw [ht]; exact hP9, va_K.moved hW.alike hK9, hD9⟩, hS.F ht⟩) hS.2.2 dX12_picture_345
      · skip
        refine lv_aload_n hx hb dX12_picture_256 rfl (lv_at hl 6 rfl) ?_
        refine lv_iload_n hx hb dX12_picture_257 rfl (lv_at hl 8 rfl) ?_
        refine lv_bipush (v := 100) hx hb dX12_picture_258 (by decide) ?_
        refine lv_isub hx hb dX12_picture_260  ?_
        refine lv_topi (fun x127 ex127 => ?_)
        have tx127 : x127.toInt = (Va1 : Int32).toInt - (100 : Int32).toInt := by rw [ex127]; exact i_sub (by have bd_Va1 := i_bd Va1; (try simp only [i_lt, i_le, i_eq, kc_200, kc_100] at c116 c117 ⊢); omega) (by have bd_Va1 := i_bd Va1; (try simp only [i_lt, i_le, i_eq, kc_200, kc_100] at c116 c117 ⊢); omega)
        have hPc := hP.sub (ws' := [(Ad0, .inr (15, s101))]) [0] rfl
        have hDc := hD.sub (ws' := [(Ad0, .inr (15, s101))]) [0] (by decide) rfl
        have hKc := hK.sub (tys' := []) [] rfl
        have hFc := va_free (wc := [(Ad0, .inr (15, s101))]) hD hS hA [0] rfl
        refine va_calli (va_runV (As := [.int x127]) (rest := []) ⟨hx, hb, hml, hown, hts⟩ (z_X12_isClass l dC dI H.size Ad0 s101 x127 (fh_sub o_s101.2 [1] rfl) ) (cwV 1 hts g_z_X12_picture_z_X12_isClass_416 rfl rfl rfl (by decide +kernel) ⟨Nat.le_of_ble_eq_true rfl, Nat.le_of_ble_eq_true rfl⟩) ⟨fun a U g mk q => by obtain ⟨q0, q1, qP, qK, qD⟩ := q; exact ⟨q0, q1, qP, va_K.moved (u := U) (U := U.calling g mk a) (Vm.Alike.refl U.vm) qK, qD⟩, va_recv hK hP (ci := 15) (q0 := 0) rfl rfl, fun U hU hW => ⟨rfl, by rw [hU], by rw [hU]; exact hPc, va_K.moved hW.alike hKc, hDc.weaken (fun _ _ _ _ => trivial)⟩⟩ rfl rfl hl.1 rfl (lv_room (Nat.le_of_ble_eq_true rfl)) dX12_picture_261 ⟨Nat.le_of_ble_eq_true rfl, Nat.le_of_ble_eq_true rfl⟩) hS (fun q _ h => hFc q h) hFc (fun r128 u t H1 locs ht hvm hw hB hz1 hk1 hS => ?_)
        obtain ⟨hP1, hK1, hD1⟩ := hB
        rw [ht] at hP1
        try dsimp only at hw
        obtain ⟨hP, hD⟩ := va_join (wr := [(Ad1, .inl (Ka0, 5, .inl Fa0)), (Ad2, .inl (Ka1, 5, .inl Fa1)), (Ad3, .inl (Ka2, 5, .inl Fa2))]) (w1 := [(Ad0, .inr (15, s101))]) hP hD [0] [1, 2, 3] rfl rfl (by decide) (by decide) hk1 hFc hP1 hD1
        have hK := hK.sub (tys' := [(Ka0, .int), (Ka1, .int), (Ka2, .int)]) [0, 1, 2] rfl
        generalize H1 = H at hP hS ⊢
        have hP : va_P (dC, dI) vwCl [(Ad1, .inl (Ka0, 5, .inl Fa0)), (Ad2, .inl (Ka1, 5, .inl Fa1)), (Ad3, .inl (Ka2, 5, .inl Fa2)), (Ad0, .inr (15, s101))] H := hP
        have hD : va_D A [(Ad1, .inl (Ka0, 5, .inl Fa0)), (Ad2, .inl (Ka1, 5, .inl Fa1)), (Ad3, .inl (Ka2, 5, .inl Fa2)), (Ad0, .inr (15, s101))] := hD
        rcases hw with ⟨c129, er130⟩ | ⟨c131, c132, er133⟩
        · exact (by exfalso; (try simp only [i_lt, i_le, i_eq, kc_100, kc_0, kc_200] at tx127 c129 c116 c117); omega)
        · skip
          subst er133
          refine lv_if_eq (tgt := 272) hx hb dX12_picture_264 (by decide) (fun c134 => ?_) (fun c134 => absurd c134 (by decide))
          refine lv_iconst (v := (-1)) hx hb dX12_picture_272 (by decide) ?_
          have hP9 := hP.sub (ws' := [(Ad0, .inr (15, s101)), (Ad1, .inl (Ka0, 5, .inl Fa0)), (Ad2, .inl (Ka1, 5, .inl Fa1)), (Ad3, .inl (Ka2, 5, .inl Fa2))]) [3, 0, 1, 2] rfl
          have hD9 := hD.sub (ws' := [(Ad0, .inr (15, s101)), (Ad1, .inl (Ka0, 5, .inl Fa0)), (Ad2, .inl (Ka1, 5, .inl Fa1)), (Ad3, .inl (Ka2, 5, .inl Fa2))]) [3, 0, 1, 2] (by decide) rfl
          have hK9 := hK.sub (tys' := [(Ka0, .int), (Ka1, .int), (Ka2, .int)]) [0, 1, 2] rfl
          exact W.iret (v := (-1)) hx hb hr (fun t ht hW => ⟨⟨(-1), s101, rfl, (Or.inr (Or.inr (Or.inr (Or.inr (Or.inr (Or.inr (Or.inr (Or.inr (Or.inr (Or.inl ⟨c108, c109, c116, c117, rfl, o_s101⟩)))))))))), by rw [ht]; exact hP9, va_K.moved hW.alike hK9, hD9⟩, hS.F ht⟩) hS.2.2 dX12_picture_273
    · skip
      refine lv_aload_n hx hb dX12_picture_231 rfl (lv_at hl 6 rfl) ?_
      refine lv_iload_n hx hb dX12_picture_232 rfl (lv_at hl 8 rfl) ?_
      refine lv_sipush (v := 200) hx hb dX12_picture_233 (by decide) ?_
      refine lv_isub hx hb dX12_picture_236  ?_
      refine lv_topi (fun x135 ex135 => ?_)
      have tx135 : x135.toInt = (Va1 : Int32).toInt - (200 : Int32).toInt := by rw [ex135]; exact i_sub (by have bd_Va1 := i_bd Va1; (try simp only [i_lt, i_le, i_eq, kc_200] at c116 ⊢); omega) (by have bd_Va1 := i_bd Va1; (try simp only [i_lt, i_le, i_eq, kc_200] at c116 ⊢); omega)
      have hPc := hP.sub (ws' := [(Ad0, .inr (15, s101))]) [0] rfl
      have hDc := hD.sub (ws' := [(Ad0, .inr (15, s101))]) [0] (by decide) rfl
      have hKc := hK.sub (tys' := []) [] rfl
      have hFc := va_free (wc := [(Ad0, .inr (15, s101))]) hD hS hA [0] rfl
      refine va_calli (va_runV (As := [.int x135]) (rest := []) ⟨hx, hb, hml, hown, hts⟩ (z_X12_isClass l dC dI H.size Ad0 s101 x135 (fh_sub o_s101.2 [1] rfl) ) (cwV 1 hts g_z_X12_picture_z_X12_isClass_416 rfl rfl rfl (by decide +kernel) ⟨Nat.le_of_ble_eq_true rfl, Nat.le_of_ble_eq_true rfl⟩) ⟨fun a U g mk q => by obtain ⟨q0, q1, qP, qK, qD⟩ := q; exact ⟨q0, q1, qP, va_K.moved (u := U) (U := U.calling g mk a) (Vm.Alike.refl U.vm) qK, qD⟩, va_recv hK hP (ci := 15) (q0 := 0) rfl rfl, fun U hU hW => ⟨rfl, by rw [hU], by rw [hU]; exact hPc, va_K.moved hW.alike hKc, hDc.weaken (fun _ _ _ _ => trivial)⟩⟩ rfl rfl hl.1 rfl (lv_room (Nat.le_of_ble_eq_true rfl)) dX12_picture_237 ⟨Nat.le_of_ble_eq_true rfl, Nat.le_of_ble_eq_true rfl⟩) hS (fun q _ h => hFc q h) hFc (fun r136 u t H1 locs ht hvm hw hB hz1 hk1 hS => ?_)
      obtain ⟨hP1, hK1, hD1⟩ := hB
      rw [ht] at hP1
      try dsimp only at hw
      obtain ⟨hP, hD⟩ := va_join (wr := [(Ad1, .inl (Ka0, 5, .inl Fa0)), (Ad2, .inl (Ka1, 5, .inl Fa1)), (Ad3, .inl (Ka2, 5, .inl Fa2))]) (w1 := [(Ad0, .inr (15, s101))]) hP hD [0] [1, 2, 3] rfl rfl (by decide) (by decide) hk1 hFc hP1 hD1
      have hK := hK.sub (tys' := [(Ka0, .int), (Ka1, .int), (Ka2, .int)]) [0, 1, 2] rfl
      generalize H1 = H at hP hS ⊢
      have hP : va_P (dC, dI) vwCl [(Ad1, .inl (Ka0, 5, .inl Fa0)), (Ad2, .inl (Ka1, 5, .inl Fa1)), (Ad3, .inl (Ka2, 5, .inl Fa2)), (Ad0, .inr (15, s101))] H := hP
      have hD : va_D A [(Ad1, .inl (Ka0, 5, .inl Fa0)), (Ad2, .inl (Ka1, 5, .inl Fa1)), (Ad3, .inl (Ka2, 5, .inl Fa2)), (Ad0, .inr (15, s101))] := hD
      rcases hw with ⟨c137, er138⟩ | ⟨c139, c140, er141⟩
      · exact (by exfalso; (try simp only [i_lt, i_le, i_eq, kc_200, kc_0] at tx135 c137 c116); omega)
      · skip
        subst er141
        refine lv_if_eq (tgt := 248) hx hb dX12_picture_240 (by decide) (fun c142 => ?_) (fun c142 => absurd c142 (by decide))
        refine lv_iconst (v := (-1)) hx hb dX12_picture_248 (by decide) ?_
        have hP9 := hP.sub (ws' := [(Ad0, .inr (15, s101)), (Ad1, .inl (Ka0, 5, .inl Fa0)), (Ad2, .inl (Ka1, 5, .inl Fa1)), (Ad3, .inl (Ka2, 5, .inl Fa2))]) [3, 0, 1, 2] rfl
        have hD9 := hD.sub (ws' := [(Ad0, .inr (15, s101)), (Ad1, .inl (Ka0, 5, .inl Fa0)), (Ad2, .inl (Ka1, 5, .inl Fa1)), (Ad3, .inl (Ka2, 5, .inl Fa2))]) [3, 0, 1, 2] (by decide) rfl
        have hK9 := hK.sub (tys' := [(Ka0, .int), (Ka1, .int), (Ka2, .int)]) [0, 1, 2] rfl
        exact W.iret (v := (-1)) hx hb hr (fun t ht hW => ⟨⟨(-1), s101, rfl, (Or.inr (Or.inr (Or.inr (Or.inr (Or.inr (Or.inr (Or.inr (Or.inr (Or.inr (Or.inr (⟨c108, c109, c116, rfl, o_s101⟩))))))))))), by rw [ht]; exact hP9, va_K.moved hW.alike hK9, hD9⟩, hS.F ht⟩) hS.2.2 dX12_picture_249

