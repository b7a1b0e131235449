def l_z_X12_add_1 : List Cond := [.fieldLink RX12 435 "HeapWorksModel" "objects" "I", .fieldLink RX12 125 "HeapWorksModel" "type" "[I", .fieldLink RX12 128 "HeapWorksModel" "length" "[I", .methodLink RX12 416 yX12_isClass, .instanceMethod yX12_isClass, .selects RX12 yX12_isClass yX12_isClass, .initialized RX12, .fieldLink RX12 131 "HeapWorksModel" "from" "[I", .fieldLink RX12 452 "HeapWorksModel" "valuesUsed" "I", .fieldLink RX12 134 "HeapWorksModel" "there" "[Z", .methodLink RX12 455 yX12_slotCount, .instanceMethod yX12_slotCount, .selects RX12 yX12_slotCount yX12_slotCount, .fieldLink RX12 461 "HeapWorksModel" "slotsThere" "I", .fieldLink RX12 138 "HeapWorksModel" "values" "[J", .methodLink RX12 458 yX12_kindOf, .instanceMethod yX12_kindOf, .selects RX12 yX12_kindOf yX12_kindOf, .constantLong RX12 433 (-1), .code yX12_isClass cX12_isClass 2 (some .boolean), .fieldLink RX12 413 "HeapWorksModel" "classes" "I", .code yX12_slotCount cX12_slotCount 3 (some .int), .code yX12_kindOf cX12_kindOf 3 (some .int)]
def w_z_X12_add_1 : List Cond := .code yX12_add cX12_add 6 (some .int) :: (l_z_X12_add_1 ++ (wsX120))
theorem in_z_X12_add_1_X12 : ∀ w ∈ wsX120, w ∈ w_z_X12_add_1 := fun w h => List.mem_cons_of_mem _ (List.mem_append_right _ (h))
theorem g_z_X12_add_1_z_X12_isClass_416 : GoodIn w_z_X12_add_1 (wsV RX12 416 RX12 yX12_isClass w_z_X12_isClass) := goodIn_app (goodIn_r (([.methodLink RX12 416 yX12_isClass, .instanceMethod yX12_isClass, .selects RX12 yX12_isClass yX12_isClass, .initialized RX12] : List Cond)) [4, 5, 6, 7] rfl (by decide +kernel)) (goodIn_ca (goodIn_r (.code yX12_isClass cX12_isClass 2 (some .boolean) :: l_z_X12_isClass) [20, 21] rfl (by decide +kernel)) (goodIn_in (in_z_X12_add_1_X12) gd_X12))
theorem g_z_X12_add_1_z_X12_slotCount_455 : GoodIn w_z_X12_add_1 (wsV RX12 455 RX12 yX12_slotCount w_z_X12_slotCount) := goodIn_app (goodIn_r (([.methodLink RX12 455 yX12_slotCount, .instanceMethod yX12_slotCount, .selects RX12 yX12_slotCount yX12_slotCount, .initialized RX12] : List Cond)) [11, 12, 13, 7] rfl (by decide +kernel)) (goodIn_ca (goodIn_r (.code yX12_slotCount cX12_slotCount 3 (some .int) :: l_z_X12_slotCount) [22, 4, 5, 6, 7, 20, 21] rfl (by decide +kernel)) (goodIn_in (in_z_X12_add_1_X12) gd_X12))
theorem g_z_X12_add_1_z_X12_kindOf_458 : GoodIn w_z_X12_add_1 (wsV RX12 458 RX12 yX12_kindOf w_z_X12_kindOf) := goodIn_app (goodIn_r (([.methodLink RX12 458 yX12_kindOf, .instanceMethod yX12_kindOf, .selects RX12 yX12_kindOf yX12_kindOf, .initialized RX12] : List Cond)) [16, 17, 18, 7] rfl (by decide +kernel)) (goodIn_ca (goodIn_r (.code yX12_kindOf cX12_kindOf 3 (some .int) :: l_z_X12_kindOf) [23, 4, 5, 6, 7, 20, 21] rfl (by decide +kernel)) (goodIn_in (in_z_X12_add_1_X12) gd_X12))
set_option maxHeartbeats 4000000 in
set_option maxRecDepth 100000 in
theorem z_X12_add_1 (l : Launch) (dC : Nat → ClassId) (dI : Nat → Nat → Nat) (sz : Nat) (Ad0 : Nat) (Fa0 : Nat → Int32) (Ka0 : ClassId) (Ad1 : Nat) (Fa1 : Nat → Int32) (Ka1 : ClassId) (Ad2 : Nat) (Fa2 : Nat → Int32) (Ka2 : ClassId) (Ad3 : Nat) (Fa3 : Nat → Int32) (Ka3 : ClassId) (Ad4 : Nat) (Fa4 : Nat → Int64) (Ka4 : ClassId) (Ad5 : Nat) (Fs0 : List Value) (Va0 : Int32) (Va1 : Int32) (k_Fs0 : fh Fs0 150 [(20, .int 0), (21, .ref Ad0), (22, .ref Ad1), (23, .ref Ad2), (24, .ref Ad3), (25, .ref Ad4), (26, .int 0), (27, .int 0), (28, .int 0)]) (hz_Fa2 : ∀ j, Fa2 j = 0) (gv_Va0 : (29 : Int) ≤ Va0.toInt ∧ Va0.toInt ≤ 29) (gv_Va1 : (0 : Int) ≤ Va1.toInt ∧ Va1.toInt ≤ 60) : Met l yX12_add w_z_X12_add_1 ({ frames := 2, cells := 0, slots := 0, locals := 43 }) (va_Pc [.ref Ad5, .int Va0, .int Va1] (fun U => U.heap.size = sz ∧ Wd dC dI [(Ka0, .int), (Ka1, .int), (Ka2, .int), (Ka3, .boolean), (Ka4, .long)] (fun _ => True) [(Ad0, .inl (Ka0, 400, .inl Fa0)), (Ad1, .inl (Ka1, 400, .inl Fa1)), (Ad2, .inl (Ka2, 400, .inl Fa2)), (Ad3, .inl (Ka3, 400, .inl Fa3)), (Ad4, .inl (Ka4, 38500, .inr (.inl Fa4))), (Ad5, .inr (15, Fs0))] U)) (va_Qi (fun (r : Int32) (u : (Nat → Int32) × (Nat → Int32) × (Nat → Int32) × (Nat → Int32) × (Nat → Int64) × List Value) => (¬ Va0 < 0 ∧ 0 ≤ Va0 ∧ ¬ Va0 < 0 ∧ 0 ≤ Va0 ∧ r = 0 ∧ ow Fs0 (u.2.2.2.2.2) 150 [28, 27, 26] [(28, .int Va1), (27, .int Va1), (26, .int 1), (20, .int 0), (21, .ref Ad0), (22, .ref Ad1), (23, .ref Ad2), (24, .ref Ad3), (25, .ref Ad4)] ∧ (u.1) (0 : Int32).toNatClampNeg = Va0 ∧ (u.2.1) (0 : Int32).toNatClampNeg = Va1 ∧ (∀ j, (u.2.2.1) j = 0) ∧ (u.2.2.1) (0 : Int32).toNatClampNeg = 0 ∧ (u.2.2.2.1) (0 : Int32).toNatClampNeg = 1)) (fun (u : (Nat → Int32) × (Nat → Int32) × (Nat → Int32) × (Nat → Int32) × (Nat → Int64) × List Value) t => Wd dC dI [(Ka0, .int), (Ka1, .int), (Ka2, .int), (Ka3, .boolean), (Ka4, .long)] (va_A [(Ad0, .inl (Ka0, 400, .inl Fa0)), (Ad1, .inl (Ka1, 400, .inl Fa1)), (Ad2, .inl (Ka2, 400, .inl Fa2)), (Ad3, .inl (Ka3, 400, .inl Fa3)), (Ad4, .inl (Ka4, 38500, .inr (.inl Fa4))), (Ad5, .inr (15, Fs0))] sz) [(Ad0, .inl (Ka0, 400, .inl ((u.1)))), (Ad1, .inl (Ka1, 400, .inl ((u.2.1)))), (Ad2, .inl (Ka2, 400, .inl ((u.2.2.1)))), (Ad3, .inl (Ka3, 400, .inl ((u.2.2.2.1)))), (Ad4, .inl (Ka4, 38500, .inr (.inl ((u.2.2.2.2.1))))), (Ad5, .inr (15, (u.2.2.2.2.2)))] t) (va_A [(Ad0, .inl (Ka0, 400, .inl Fa0)), (Ad1, .inl (Ka1, 400, .inl Fa1)), (Ad2, .inl (Ka2, 400, .inl Fa2)), (Ad3, .inl (Ka3, 400, .inl Fa3)), (Ad4, .inl (Ka4, 38500, .inr (.inl Fa4))), (Ad5, .inr (15, Fs0))] sz))  0 0 (va_A [(Ad0, .inl (Ka0, 400, .inl Fa0)), (Ad1, .inl (Ka1, 400, .inl Fa1)), (Ad2, .inl (Ka2, 400, .inl Fa2)), (Ad3, .inl (Ka3, 400, .inl Fa3)), (Ad4, .inl (Ka4, 38500, .inr (.inl Fa4))), (Ad5, .inr (15, Fs0))] sz) := by
  refine Met.ofW (cc := cX12_add) (maxL := 6) (ret := (some .int)) (by decide) rfl ?_
  intro p e s m args below meth c s₁ B hml hv
  obtain ⟨rfl, hsz, hP, hK, hD0⟩ := hv
  have hx := B.exec
  have hb := B.bytes
  have hr := B.returns
  have hts := atoms_spec (ws := w_z_X12_add_1) B.pre
  have hown : s.vm.findClass RX12 = some m.cls := findClass_of_methodNamed B.named
  have hlocks := B.notSynchronized
  subst hsz
  have hD := hD0.self (sz := s.heap.size)
  generalize hAe : va_A [(Ad0, .inl (Ka0, 400, .inl Fa0)), (Ad1, .inl (Ka1, 400, .inl Fa1)), (Ad2, .inl (Ka2, 400, .inl Fa2)), (Ad3, .inl (Ka3, 400, .inl Fa3)), (Ad4, .inl (Ka4, 38500, .inr (.inl Fa4))), (Ad5, .inr (15, Fs0))] s.heap.size = A at hD ⊢
  have hA : ∀ q : Nat, s.heap.size ≤ q → A q := fun q h => by rw [← hAe]; exact Or.inr h
  have hS : va_S A s.heap s.heap [] := va_S.rf
  have hl := lv_entry ([.ref Ad5, .int Va0, .int Va1]) (n := 6) (Nat.le_of_ble_eq_true rfl)
  rw [lg_entry_eq]
  generalize (lg_sl ([.ref Ad5, .int Va0, .int Va1]) ++ List.replicate (6 - (lg_sl ([.ref Ad5, .int Va0, .int Va1])).length) Slot.unset).toArray = ls at hl ⊢
  have hl : lv_has ls 6 [(0, .ref Ad5), (1, .int Va0), (2, .int Va1)] := hl
  have o_Fs0 := ow_0 k_Fs0
  refine lv_aload_n hx hb dX12_add_0 rfl (lv_at hl 0 rfl) ?_
  refine va_get (D := (dC, dI)) (ci := 15) (v := .int 0) (C := RX12) (T := TX12) (N := 150) hx hb hts (in_z_X12_add_1_X12) hown hK hP 5 rfl rfl 26 (by decide) (hts (.fieldLink RX12 435 "HeapWorksModel" "objects" "I") (by decide +kernel)) (fun _ h9 => h9) (ow_at o_Fs0 6 rfl) dX12_add_1 ?_
  refine lv_istore_n (lv' := [(3, .int 0), (0, .ref Ad5), (1, .int Va0), (2, .int Va1)]) hx hb dX12_add_4 rfl hl (by decide) rfl (fun ls hl => ?_)
  refine lv_aload_n hx hb dX12_add_5 rfl (lv_at hl 1 rfl) ?_
  refine lv_dup hx hb dX12_add_6 rfl ?_
  refine va_get (D := (dC, dI)) (ci := 15) (v := .int 0) (C := RX12) (T := TX12) (N := 150) hx hb hts (in_z_X12_add_1_X12) hown hK hP 5 rfl rfl 26 (by decide) (hts (.fieldLink RX12 435 "HeapWorksModel" "objects" "I") (by decide +kernel)) (fun _ h9 => h9) (ow_at o_Fs0 6 rfl) dX12_add_7 ?_
  refine lv_iconst (v := 1) hx hb dX12_add_10 (by decide) ?_
  refine lv_iadd hx hb dX12_add_11  ?_
  refine lv_topi (fun x101 ex101 => ?_)
  obtain rfl : x101 = 1 := ex101.trans (by decide)
  refine va_put (D := (dC, dI)) (ci := 15) (v := .int 1) (ty := .int) (C := RX12) (T := TX12) (N := 150) hx hb hts (in_z_X12_add_1_X12) tyX12 tyX12_ok nmX12 hown hK hP hD hS 5 rfl rfl 26 (by decide) (hts (.fieldLink RX12 435 "HeapWorksModel" "objects" "I") (by decide +kernel)) (fun _ h9 => h9) rfl (by decide +kernel) rfl rfl (by rw [o_Fs0.2.1]; decide) dX12_add_12 (fun H locs hP hD hS => ?_)
  have hP : va_P (dC, dI) vwCl [(Ad0, .inl (Ka0, 400, .inl Fa0)), (Ad1, .inl (Ka1, 400, .inl Fa1)), (Ad2, .inl (Ka2, 400, .inl Fa2)), (Ad3, .inl (Ka3, 400, .inl Fa3)), (Ad4, .inl (Ka4, 38500, .inr (.inl Fa4))), (Ad5, .inr (15, (Fs0.set 26 (.int 1))))] H := hP
  have hD : va_D A [(Ad0, .inl (Ka0, 400, .inl Fa0)), (Ad1, .inl (Ka1, 400, .inl Fa1)), (Ad2, .inl (Ka2, 400, .inl Fa2)), (Ad3, .inl (Ka3, 400, .inl Fa3)), (Ad4, .inl (Ka4, 38500, .inr (.inl Fa4))), (Ad5, .inr (15, (Fs0.set 26 (.int 1))))] := hD
  have o_s102 := ow_set o_Fs0 26 (.int 1) (by decide) (l' := [(26, .int 1), (20, .int 0), (21, .ref Ad0), (22, .ref Ad1), (23, .ref Ad2), (24, .ref Ad3), (25, .ref Ad4), (27, .int 0), (28, .int 0)]) (w' := [26]) rfl rfl
  generalize (Fs0.set 26 (.int 1)) = s102 at hP hD o_s102
  refine lv_aload_n hx hb dX12_add_15 rfl (lv_at hl 1 rfl) ?_
  refine va_get (D := (dC, dI)) (ci := 15) (v := .ref Ad0) (C := RX12) (T := TX12) (N := 150) hx hb hts (in_z_X12_add_1_X12) hown hK hP 5 rfl rfl 21 (by decide) (hts (.fieldLink RX12 125 "HeapWorksModel" "type" "[I") (by decide +kernel)) (fun _ h9 => h9) (ow_at o_s102 2 rfl) dX12_add_16 ?_
  refine lv_iload_n hx hb dX12_add_19 rfl (lv_at hl 0 rfl) ?_
  refine lv_iload_n hx hb dX12_add_20 rfl (lv_at hl 2 rfl) ?_
  refine va_iast hx hb hK hP hD hS 0 0 rfl rfl (show vp_in 0 400 from by unfold vp_in; decide) dX12_add_21 (fun H locs hP hD hS => ?_)
  have hP : va_P (dC, dI) vwCl [(Ad0, .inl (Ka0, 400, .inl (upd Fa0 (0 : Int32).toNatClampNeg Va0))), (Ad1, .inl (Ka1, 400, .inl Fa1)), (Ad2, .inl (Ka2, 400, .inl Fa2)), (Ad3, .inl (Ka3, 400, .inl Fa3)), (Ad4, .inl (Ka4, 38500, .inr (.inl Fa4))), (Ad5, .inr (15, s102))] H := hP
  have hD : va_D A [(Ad0, .inl (Ka0, 400, .inl (upd Fa0 (0 : Int32).toNatClampNeg Va0))), (Ad1, .inl (Ka1, 400, .inl Fa1)), (Ad2, .inl (Ka2, 400, .inl Fa2)), (Ad3, .inl (Ka3, 400, .inl Fa3)), (Ad4, .inl (Ka4, 38500, .inr (.inl Fa4))), (Ad5, .inr (15, s102))] := hD
  have q104 : (upd Fa0 (0 : Int32).toNatClampNeg Va0) (0 : Int32).toNatClampNeg = Va0 := pk_us
  generalize upd Fa0 (0 : Int32).toNatClampNeg Va0 = f103 at hP hD q104
  refine lv_aload_n hx hb dX12_add_22 rfl (lv_at hl 1 rfl) ?_
  refine va_get (D := (dC, dI)) (ci := 15) (v := .ref Ad1) (C := RX12) (T := TX12) (N := 150) hx hb hts (in_z_X12_add_1_X12) hown hK hP 5 rfl rfl 22 (by decide) (hts (.fieldLink RX12 128 "HeapWorksModel" "length" "[I") (by decide +kernel)) (fun _ h9 => h9) (ow_at o_s102 3 rfl) dX12_add_23 ?_
  refine lv_iload_n hx hb dX12_add_26 rfl (lv_at hl 0 rfl) ?_
  refine lv_aload_n hx hb dX12_add_27 rfl (lv_at hl 1 rfl) ?_
  refine lv_iload_n hx hb dX12_add_28 rfl (lv_at hl 2 rfl) ?_
  have hPc := hP.sub (ws' := [(Ad5, .inr (15, s102))]) [5] rfl
  have hDc := hD.sub (ws' := [(Ad5, .inr (15, s102))]) [5] (by decide) rfl
  have hKc := hK.sub (tys' := []) [] rfl
  have hFc := va_free (wc := [(Ad5, .inr (15, s102))]) hD hS hA [5] rfl
  refine va_calli (va_runV (As := [.int Va0]) (rest := [.int 0, .ref Ad1]) ⟨hx, hb, hml, hown, hts⟩ (z_X12_isClass l dC dI H.size Ad5 s102 Va0 (fh_sub o_s102.2 [1] rfl) ) (cwV 1 hts g_z_X12_add_1_z_X12_isClass_416 rfl rfl rfl (by decide +kernel) ⟨Nat.le_of_ble_eq_true rfl, Nat.le_of_ble_eq_true rfl⟩) ⟨fun a U g mk q => by obtain ⟨q0, q1, qP, qK, qD⟩ := q; exact ⟨q0, q1, qP, va_K.moved (u := U) (U := U.calling g mk a) (Vm.Alike.refl U.vm) qK, qD⟩, va_recv hK hP (ci := 15) (q0 := 5) rfl rfl, fun U hU hW => ⟨rfl, by rw [hU], by rw [hU]; exact hPc, va_K.moved hW.alike hKc, hDc.weaken (fun _ _ _ _ => trivial)⟩⟩ rfl rfl hl.1 rfl (lv_room (Nat.le_of_ble_eq_true rfl)) dX12_add_29 ⟨Nat.le_of_ble_eq_true rfl, Nat.le_of_ble_eq_true rfl⟩) hS (fun q _ h => hFc q h) hFc (fun r105 u t H1 locs ht hvm hw hB hz1 hk1 hS => ?_)
  obtain ⟨hP1, hK1, hD1⟩ := hB
  rw [ht] at hP1
  try dsimp only at hw
  obtain ⟨hP, hD⟩ := va_join (wr := [(Ad0, .inl (Ka0, 400, .inl f103)), (Ad1, .inl (Ka1, 400, .inl Fa1)), (Ad2, .inl (Ka2, 400, .inl Fa2)), (Ad3, .inl (Ka3, 400, .inl Fa3)), (Ad4, .inl (Ka4, 38500, .inr (.inl Fa4)))]) (w1 := [(Ad5, .inr (15, s102))]) hP hD [5] [0, 1, 2, 3, 4] rfl rfl (by decide) (by decide) hk1 hFc hP1 hD1
  have hK := hK.sub (tys' := [(Ka0, .int), (Ka1, .int), (Ka2, .int), (Ka3, .boolean), (Ka4, .long)]) [0, 1, 2, 3, 4] rfl
  generalize H1 = H at hP hS ⊢
  have hP : va_P (dC, dI) vwCl [(Ad0, .inl (Ka0, 400, .inl f103)), (Ad1, .inl (Ka1, 400, .inl Fa1)), (Ad2, .inl (Ka2, 400, .inl Fa2)), (Ad3, .inl (Ka3, 400, .inl Fa3)), (Ad4, .inl (Ka4, 38500, .inr (.inl Fa4))), (Ad5, .inr (15, s102))] H := hP
  have hD : va_D A [(Ad0, .inl (Ka0, 400, .inl f103)), (Ad1, .inl (Ka1, 400, .inl Fa1)), (Ad2, .inl (Ka2, 400, .inl Fa2)), (Ad3, .inl (Ka3, 400, .inl Fa3)), (Ad4, .inl (Ka4, 38500, .inr (.inl Fa4))), (Ad5, .inr (15, s102))] := hD
  rcases hw with ⟨c106, er107⟩ | ⟨c108, c109, er110⟩
  · exact (by exfalso; (try simp only [i_lt, i_le, i_eq, kc_0] at gv_Va0 c106); omega)
  · skip
    subst er110
    refine lv_if_eq (tgt := 39) hx hb dX12_add_32 (by decide) (fun c111 => ?_) (fun c111 => absurd c111 (by decide))
    refine lv_iload_n hx hb dX12_add_39 rfl (lv_at hl 3 rfl) ?_
    refine va_iast hx hb hK hP hD hS 1 1 rfl rfl (show vp_in 0 400 from by unfold vp_in; decide) dX12_add_40 (fun H locs hP hD hS => ?_)
    have hP : va_P (dC, dI) vwCl [(Ad0, .inl (Ka0, 400, .inl f103)), (Ad1, .inl (Ka1, 400, .inl (upd Fa1 (0 : Int32).toNatClampNeg Va1))), (Ad2, .inl (Ka2, 400, .inl Fa2)), (Ad3, .inl (Ka3, 400, .inl Fa3)), (Ad4, .inl (Ka4, 38500, .inr (.inl Fa4))), (Ad5, .inr (15, s102))] H := hP
    have hD : va_D A [(Ad0, .inl (Ka0, 400, .inl f103)), (Ad1, .inl (Ka1, 400, .inl (upd Fa1 (0 : Int32).toNatClampNeg Va1))), (Ad2, .inl (Ka2, 400, .inl Fa2)), (Ad3, .inl (Ka3, 400, .inl Fa3)), (Ad4, .inl (Ka4, 38500, .inr (.inl Fa4))), (Ad5, .inr (15, s102))] := hD
    have q113 : (upd Fa1 (0 : Int32).toNatClampNeg Va1) (0 : Int32).toNatClampNeg = Va1 := pk_us
    generalize upd Fa1 (0 : Int32).toNatClampNeg Va1 = f112 at hP hD q113
    refine lv_aload_n hx hb dX12_add_41 rfl (lv_at hl 1 rfl) ?_
    refine va_get (D := (dC, dI)) (ci := 15) (v := .ref Ad2) (C := RX12) (T := TX12) (N := 150) hx hb hts (in_z_X12_add_1_X12) hown hK hP 5 rfl rfl 23 (by decide) (hts (.fieldLink RX12 131 "HeapWorksModel" "from" "[I") (by decide +kernel)) (fun _ h9 => h9) (ow_at o_s102 4 rfl) dX12_add_42 ?_
    refine lv_iload_n hx hb dX12_add_45 rfl (lv_at hl 0 rfl) ?_
    refine lv_aload_n hx hb dX12_add_46 rfl (lv_at hl 1 rfl) ?_
    refine va_get (D := (dC, dI)) (ci := 15) (v := .int 0) (C := RX12) (T := TX12) (N := 150) hx hb hts (in_z_X12_add_1_X12) hown hK hP 5 rfl rfl 27 (by decide) (hts (.fieldLink RX12 452 "HeapWorksModel" "valuesUsed" "I") (by decide +kernel)) (fun _ h9 => h9) (ow_at o_s102 7 rfl) dX12_add_47 ?_
    refine va_iast hx hb hK hP hD hS 2 2 rfl rfl (show vp_in 0 400 from by unfold vp_in; decide) dX12_add_50 (fun H locs hP hD hS => ?_)
    have hP : va_P (dC, dI) vwCl [(Ad0, .inl (Ka0, 400, .inl f103)), (Ad1, .inl (Ka1, 400, .inl f112)), (Ad2, .inl (Ka2, 400, .inl (upd Fa2 (0 : Int32).toNatClampNeg 0))), (Ad3, .inl (Ka3, 400, .inl Fa3)), (Ad4, .inl (Ka4, 38500, .inr (.inl Fa4))), (Ad5, .inr (15, s102))] H := hP
    have hD : va_D A [(Ad0, .inl (Ka0, 400, .inl f103)), (Ad1, .inl (Ka1, 400, .inl f112)), (Ad2, .inl (Ka2, 400, .inl (upd Fa2 (0 : Int32).toNatClampNeg 0))), (Ad3, .inl (Ka3, 400, .inl Fa3)), (Ad4, .inl (Ka4, 38500, .inr (.inl Fa4))), (Ad5, .inr (15, s102))] := hD
    have q115 : (upd Fa2 (0 : Int32).toNatClampNeg 0) (0 : Int32).toNatClampNeg = 0 := pk_us
    have z116 : ∀ j, (upd Fa2 (0 : Int32).toNatClampNeg 0) j = 0 := az_up hz_Fa2 rfl
    generalize upd Fa2 (0 : Int32).toNatClampNeg 0 = f114 at hP hD q115 z116
    refine lv_aload_n hx hb dX12_add_51 rfl (lv_at hl 1 rfl) ?_
    refine va_get (D := (dC, dI)) (ci := 15) (v := .ref Ad3) (C := RX12) (T := TX12) (N := 150) hx hb hts (in_z_X12_add_1_X12) hown hK hP 5 rfl rfl 24 (by decide) (hts (.fieldLink RX12 134 "HeapWorksModel" "there" "[Z") (by decide +kernel)) (fun _ h9 => h9) (ow_at o_s102 5 rfl) dX12_add_52 ?_
    refine lv_iload_n hx hb dX12_add_55 rfl (lv_at hl 0 rfl) ?_
    refine lv_iconst (v := 1) hx hb dX12_add_56 (by decide) ?_
    refine va_zast hx hb hK hP hD hS 3 3 rfl rfl (show vp_in 0 400 from by unfold vp_in; decide) dX12_add_57 (fun H locs hP hD hS => ?_)
    have hP : va_P (dC, dI) vwCl [(Ad0, .inl (Ka0, 400, .inl f103)), (Ad1, .inl (Ka1, 400, .inl f112)), (Ad2, .inl (Ka2, 400, .inl f114)), (Ad3, .inl (Ka3, 400, .inl (upd Fa3 (0 : Int32).toNatClampNeg (vp_nar .boolean 1)))), (Ad4, .inl (Ka4, 38500, .inr (.inl Fa4))), (Ad5, .inr (15, s102))] H := hP
    have hD : va_D A [(Ad0, .inl (Ka0, 400, .inl f103)), (Ad1, .inl (Ka1, 400, .inl f112)), (Ad2, .inl (Ka2, 400, .inl f114)), (Ad3, .inl (Ka3, 400, .inl (upd Fa3 (0 : Int32).toNatClampNeg (vp_nar .boolean 1)))), (Ad4, .inl (Ka4, 38500, .inr (.inl Fa4))), (Ad5, .inr (15, s102))] := hD
    have q118 : (upd Fa3 (0 : Int32).toNatClampNeg (vp_nar .boolean 1)) (0 : Int32).toNatClampNeg = 1 := (pk_us.trans (by decide))
    generalize upd Fa3 (0 : Int32).toNatClampNeg (vp_nar .boolean 1) = f117 at hP hD q118
    refine lv_aload_n hx hb dX12_add_58 rfl (lv_at hl 1 rfl) ?_
    refine lv_iload_n hx hb dX12_add_59 rfl (lv_at hl 2 rfl) ?_
    refine lv_iload_n hx hb dX12_add_60 rfl (lv_at hl 3 rfl) ?_
    have hPc := hP.sub (ws' := [(Ad5, .inr (15, s102))]) [5] rfl
    have hDc := hD.sub (ws' := [(Ad5, .inr (15, s102))]) [5] (by decide) rfl
    have hKc := hK.sub (tys' := []) [] rfl
    have hFc := va_free (wc := [(Ad5, .inr (15, s102))]) hD hS hA [5] rfl
    refine va_calli (va_runV (As := [.int Va0, .int Va1]) (rest := []) ⟨hx, hb, hml, hown, hts⟩ (z_X12_slotCount l dC dI H.size Ad5 s102 Va0 Va1 (fh_sub o_s102.2 [1] rfl) ) (cwV 2 hts g_z_X12_add_1_z_X12_slotCount_455 rfl rfl rfl (by decide +kernel) ⟨Nat.le_of_ble_eq_true rfl, Nat.le_of_ble_eq_true rfl⟩) ⟨fun a U g mk q => by obtain ⟨q0, q1, qP, qK, qD⟩ := q; exact ⟨q0, q1, qP, va_K.moved (u := U) (U := U.calling g mk a) (Vm.Alike.refl U.vm) qK, qD⟩, va_recv hK hP (ci := 15) (q0 := 5) rfl rfl, fun U hU hW => ⟨rfl, by rw [hU], by rw [hU]; exact hPc, va_K.moved hW.alike hKc, hDc.weaken (fun _ _ _ _ => trivial)⟩⟩ rfl rfl hl.1 rfl (lv_room (Nat.le_of_ble_eq_true rfl)) dX12_add_61 ⟨Nat.le_of_ble_eq_true rfl, Nat.le_of_ble_eq_true rfl⟩) hS (fun q _ h => hFc q h) hFc (fun r119 u t H1 locs ht hvm hw hB hz1 hk1 hS => ?_)
    obtain ⟨hP1, hK1, hD1⟩ := hB
    rw [ht] at hP1
    try dsimp only at hw
    obtain ⟨hP, hD⟩ := va_join (wr := [(Ad0, .inl (Ka0, 400, .inl f103)), (Ad1, .inl (Ka1, 400, .inl f112)), (Ad2, .inl (Ka2, 400, .inl f114)), (Ad3, .inl (Ka3, 400, .inl f117)), (Ad4, .inl (Ka4, 38500, .inr (.inl Fa4)))]) (w1 := [(Ad5, .inr (15, s102))]) hP hD [5] [0, 1, 2, 3, 4] rfl rfl (by decide) (by decide) hk1 hFc hP1 hD1
    have hK := hK.sub (tys' := [(Ka0, .int), (Ka1, .int), (Ka2, .int), (Ka3, .boolean), (Ka4, .long)]) [0, 1, 2, 3, 4] rfl
    generalize H1 = H at hP hS ⊢
    have hP : va_P (dC, dI) vwCl [(Ad0, .inl (Ka0, 400, .inl f103)), (Ad1, .inl (Ka1, 400, .inl f112)), (Ad2, .inl (Ka2, 400, .inl f114)), (Ad3, .inl (Ka3, 400, .inl f117)), (Ad4, .inl (Ka4, 38500, .inr (.inl Fa4))), (Ad5, .inr (15, s102))] H := hP
    have hD : va_D A [(Ad0, .inl (Ka0, 400, .inl f103)), (Ad1, .inl (Ka1, 400, .inl f112)), (Ad2, .inl (Ka2, 400, .inl f114)), (Ad3, .inl (Ka3, 400, .inl f117)), (Ad4, .inl (Ka4, 38500, .inr (.inl Fa4))), (Ad5, .inr (15, s102))] := hD
    rcases hw with ⟨c120, er121⟩ | ⟨c122, c123, er124⟩
    · exact (by exfalso; (try simp only [i_lt, i_le, i_eq, kc_0] at gv_Va0 c108 c109 c120); omega)
    · skip
      have qer124 := er124.symm
      subst qer124
      refine lv_istore (lv' := [(4, .int Va1), (3, .int 0), (0, .ref Ad5), (1, .int Va0), (2, .int Va1)]) hx hb dX12_add_64 hl (by decide) rfl (fun ls hl => ?_)
      refine lv_iconst (v := 0) hx hb dX12_add_66 (by decide) ?_
      refine lv_istore (lv' := [(5, .int 0), (4, .int Va1), (3, .int 0), (0, .ref Ad5), (1, .int Va0), (2, .int Va1)]) hx hb dX12_add_67 hl (by decide) rfl (fun ls hl => ?_)
      have HL1 : ∀ (n j184 : Nat) (x185 : Int32) (f186 : Nat → Int64), x185 = nI j184 → 0 ≤ j184 → j184 ≤ 60 → 61 ≤ j184 + n → ∀ (H : Heap) (locs : List Loc) (ls : Array Slot), va_P (dC, dI) vwCl [(Ad0, .inl (Ka0, 400, .inl f103)), (Ad1, .inl (Ka1, 400, .inl f112)), (Ad2, .inl (Ka2, 400, .inl f114)), (Ad3, .inl (Ka3, 400, .inl f117)), (Ad4, .inl (Ka4, 38500, .inr (.inl f186))), (Ad5, .inr (15, s102))] H → va_D A [(Ad0, .inl (Ka0, 400, .inl f103)), (Ad1, .inl (Ka1, 400, .inl f112)), (Ad2, .inl (Ka2, 400, .inl f114)), (Ad3, .inl (Ka3, 400, .inl f117)), (Ad4, .inl (Ka4, 38500, .inr (.inl f186))), (Ad5, .inr (15, s102))] → va_S A s.heap H locs → lv_has ls 6 [(5, .int x185), (4, .int Va1), (3, .int 0), (0, .ref Ad5), (1, .int Va0), (2, .int Va1)] → W p l e (headSpec w_z_X12_add_1 ({ frames := 2, cells := 0, slots := 0, locals := 43 })).room s m ([.ref Ad5, .int Va0, .int Va1]).toArray below meth c H locs 0 0 (MQ below (va_Qi (fun (r : Int32) (u : (Nat → Int32) × (Nat → Int32) × (Nat → Int32) × (Nat → Int32) × (Nat → Int64) × List Value) => (¬ Va0 < 0 ∧ 0 ≤ Va0 ∧ ¬ Va0 < 0 ∧ 0 ≤ Va0 ∧ r = 0 ∧ ow Fs0 (u.2.2.2.2.2) 150 [28, 27, 26] [(28, .int Va1), (27, .int Va1), (26, .int 1), (20, .int 0), (21, .ref Ad0), (22, .ref Ad1), (23, .ref Ad2), (24, .ref Ad3), (25, .ref Ad4)] ∧ (u.1) (0 : Int32).toNatClampNeg = Va0 ∧ (u.2.1) (0 : Int32).toNatClampNeg = Va1 ∧ (∀ j, (u.2.2.1) j = 0) ∧ (u.2.2.1) (0 : Int32).toNatClampNeg = 0 ∧ (u.2.2.2.1) (0 : Int32).toNatClampNeg = 1)) (fun (u : (Nat → Int32) × (Nat → Int32) × (Nat → Int32) × (Nat → Int32) × (Nat → Int64) × List Value) t => Wd dC dI [(Ka0, .int), (Ka1, .int), (Ka2, .int), (Ka3, .boolean), (Ka4, .long)] A [(Ad0, .inl (Ka0, 400, .inl ((u.1)))), (Ad1, .inl (Ka1, 400, .inl ((u.2.1)))), (Ad2, .inl (Ka2, 400, .inl ((u.2.2.1)))), (Ad3, .inl (Ka3, 400, .inl ((u.2.2.2.1)))), (Ad4, .inl (Ka4, 38500, .inr (.inl ((u.2.2.2.2.1))))), (Ad5, .inr (15, (u.2.2.2.2.2)))] t) A) ([.ref Ad5, .int Va0, .int Va1]).toArray s 0 0 A) (F0 m 69 ls []) := by
        intro n
        induction n with
        | zero =>
          intro j184 x185 f186 e187 h189 h190 h191
          exact absurd h191 (by omega)
        | succ n ih =>
          intro j184 x185 f186 e187 h189 h190 h191 H locs ls hP hD hS hl
          have t188 : x185.toInt = (j184 : Int) := by rw [e187]; exact nI_toInt (by omega)
          refine lv_iload hx hb dX12_add_69 (lv_at hl 0 rfl) ?_
          refine lv_iload hx hb dX12_add_71 (lv_at hl 1 rfl) ?_
          refine lv_icmp_ge (tgt := 112) hx hb dX12_add_73 (by decide) (fun c192 => ?_) (fun c192 => ?_)
          · skip
            refine lv_aload_n hx hb dX12_add_112 rfl (lv_at hl 3 rfl) ?_
            refine lv_dup hx hb dX12_add_113 rfl ?_
            refine va_get (D := (dC, dI)) (ci := 15) (v := .int 0) (C := RX12) (T := TX12) (N := 150) hx hb hts (in_z_X12_add_1_X12) hown hK hP 5 rfl rfl 27 (by decide) (hts (.fieldLink RX12 452 "HeapWorksModel" "valuesUsed" "I") (by decide +kernel)) (fun _ h9 => h9) (ow_at o_s102 7 rfl) dX12_add_114 ?_
            refine lv_iload hx hb dX12_add_117 (lv_at hl 1 rfl) ?_
            refine lv_iadd hx hb dX12_add_119  ?_
            refine lv_topi (fun x193 ex193 => ?_)
            obtain rfl : Va1 = x193 := (ex193.trans (Int32.zero_add _)).symm
            refine va_put (D := (dC, dI)) (ci := 15) (v := .int Va1) (ty := .int) (C := RX12) (T := TX12) (N := 150) hx hb hts (in_z_X12_add_1_X12) tyX12 tyX12_ok nmX12 hown hK hP hD hS 5 rfl rfl 27 (by decide) (hts (.fieldLink RX12 452 "HeapWorksModel" "valuesUsed" "I") (by decide +kernel)) (fun _ h9 => h9) rfl (by decide +kernel) rfl rfl (by rw [o_s102.2.1]; decide) dX12_add_120 (fun H locs hP hD hS => ?_)
            have hP : va_P (dC, dI) vwCl [(Ad0, .inl (Ka0, 400, .inl f103)), (Ad1, .inl (Ka1, 400, .inl f112)), (Ad2, .inl (Ka2, 400, .inl f114)), (Ad3, .inl (Ka3, 400, .inl f117)), (Ad4, .inl (Ka4, 38500, .inr (.inl f186))), (Ad5, .inr (15, (s102.set 27 (.int Va1))))] H := hP
            have hD : va_D A [(Ad0, .inl (Ka0, 400, .inl f103)), (Ad1, .inl (Ka1, 400, .inl f112)), (Ad2, .inl (Ka2, 400, .inl f114)), (Ad3, .inl (Ka3, 400, .inl f117)), (Ad4, .inl (Ka4, 38500, .inr (.inl f186))), (Ad5, .inr (15, (s102.set 27 (.int Va1))))] := hD
            have o_s194 := ow_set o_s102 27 (.int Va1) (by decide) (l' := [(27, .int Va1), (26, .int 1), (20, .int 0), (21, .ref Ad0), (22, .ref Ad1), (23, .ref Ad2), (24, .ref Ad3), (25, .ref Ad4), (28, .int 0)]) (w' := [27, 26]) rfl rfl
            generalize (s102.set 27 (.int Va1)) = s194 at hP hD o_s194
            refine lv_aload_n hx hb dX12_add_123 rfl (lv_at hl 3 rfl) ?_
            refine lv_dup hx hb dX12_add_124 rfl ?_
            refine va_get (D := (dC, dI)) (ci := 15) (v := .int 0) (C := RX12) (T := TX12) (N := 150) hx hb hts (in_z_X12_add_1_X12) hown hK hP 5 rfl rfl 28 (by decide) (hts (.fieldLink RX12 461 "HeapWorksModel" "slotsThere" "I") (by decide +kernel)) (fun _ h9 => h9) (ow_at o_s194 8 rfl) dX12_add_125 ?_
            refine lv_iload hx hb dX12_add_128 (lv_at hl 1 rfl) ?_
            refine lv_iadd hx hb dX12_add_130  ?_
            refine lv_topi (fun x195 ex195 => ?_)
            obtain rfl : Va1 = x195 := (ex195.trans (Int32.zero_add _)).symm
            refine va_put (D := (dC, dI)) (ci := 15) (v := .int Va1) (ty := .int) (C := RX12) (T := TX12) (N := 150) hx hb hts (in_z_X12_add_1_X12) tyX12 tyX12_ok nmX12 hown hK hP hD hS 5 rfl rfl 28 (by decide) (hts (.fieldLink RX12 461 "HeapWorksModel" "slotsThere" "I") (by decide +kernel)) (fun _ h9 => h9) rfl (by decide +kernel) rfl rfl (by rw [o_s194.2.1]; decide) dX12_add_131 (fun H locs hP hD hS => ?_)
            have hP : va_P (dC, dI) vwCl [(Ad0, .inl (Ka0, 400, .inl f103)), (Ad1, .inl (Ka1, 400, .inl f112)), (Ad2, .inl (Ka2, 400, .inl f114)), (Ad3, .inl (Ka3, 400, .inl f117)), (Ad4, .inl (Ka4, 38500, .inr (.inl f186))), (Ad5, .inr (15, (s194.set 28 (.int Va1))))] H := hP
            have hD : va_D A [(Ad0, .inl (Ka0, 400, .inl f103)), (Ad1, .inl (Ka1, 400, .inl f112)), (Ad2, .inl (Ka2, 400, .inl f114)), (Ad3, .inl (Ka3, 400, .inl f117)), (Ad4, .inl (Ka4, 38500, .inr (.inl f186))), (Ad5, .inr (15, (s194.set 28 (.int Va1))))] := hD
            have o_s196 := ow_set o_s194 28 (.int Va1) (by decide) (l' := [(28, .int Va1), (27, .int Va1), (26, .int 1), (20, .int 0), (21, .ref Ad0), (22, .ref Ad1), (23, .ref Ad2), (24, .ref Ad3), (25, .ref Ad4)]) (w' := [28, 27, 26]) rfl rfl
            generalize (s194.set 28 (.int Va1)) = s196 at hP hD o_s196
            refine lv_iload_n hx hb dX12_add_134 rfl (lv_at hl 2 rfl) ?_
            have hP9 := hP.sub (ws' := [(Ad0, .inl (Ka0, 400, .inl f103)), (Ad1, .inl (Ka1, 400, .inl f112)), (Ad2, .inl (Ka2, 400, .inl f114)), (Ad3, .inl (Ka3, 400, .inl f117)), (Ad4, .inl (Ka4, 38500, .inr (.inl f186))), (Ad5, .inr (15, s196))]) [0, 1, 2, 3, 4, 5] rfl
            have hD9 := hD.sub (ws' := [(Ad0, .inl (Ka0, 400, .inl f103)), (Ad1, .inl (Ka1, 400, .inl f112)), (Ad2, .inl (Ka2, 400, .inl f114)), (Ad3, .inl (Ka3, 400, .inl f117)), (Ad4, .inl (Ka4, 38500, .inr (.inl f186))), (Ad5, .inr (15, s196))]) [0, 1, 2, 3, 4, 5] (by decide) rfl
            have hK9 := hK.sub (tys' := [(Ka0, .int), (Ka1, .int), (Ka2, .int), (Ka3, .boolean), (Ka4, .long)]) [0, 1, 2, 3, 4] rfl
            exact W.iret (v := 0) hx hb hr (fun t ht hW => ⟨⟨0, (f103, f112, f114, f117, f186, s196), rfl, ⟨c108, c109, c122, c123, rfl, o_s196, q104, q113, z116, q115, q118⟩, by rw [ht]; exact hP9, va_K.moved hW.alike hK9, hD9⟩, hS.F ht⟩) hS.2.2 dX12_add_135
          · skip
            refine lv_aload_n hx hb dX12_add_76 rfl (lv_at hl 3 rfl) ?_
            refine va_get (D := (dC, dI)) (ci := 15) (v := .ref Ad4) (C := RX12) (T := TX12) (N := 150) hx hb hts (in_z_X12_add_1_X12) hown hK hP 5 rfl rfl 25 (by decide) (hts (.fieldLink RX12 138 "HeapWorksModel" "values" "[J") (by decide +kernel)) (fun _ h9 => h9) (ow_at o_s102 6 rfl) dX12_add_77 ?_
            refine lv_aload_n hx hb dX12_add_80 rfl (lv_at hl 3 rfl) ?_
            refine va_get (D := (dC, dI)) (ci := 15) (v := .int 0) (C := RX12) (T := TX12) (N := 150) hx hb hts (in_z_X12_add_1_X12) hown hK hP 5 rfl rfl 27 (by decide) (hts (.fieldLink RX12 452 "HeapWorksModel" "valuesUsed" "I") (by decide +kernel)) (fun _ h9 => h9) (ow_at o_s102 7 rfl) dX12_add_81 ?_
            refine lv_iload hx hb dX12_add_84 (lv_at hl 0 rfl) ?_
            refine lv_iadd hx hb dX12_add_86  ?_
            refine lv_topi (fun x197 ex197 => ?_)
            obtain rfl : x185 = x197 := (ex197.trans (Int32.zero_add _)).symm
            refine lv_aload_n hx hb dX12_add_87 rfl (lv_at hl 3 rfl) ?_
            refine lv_iload_n hx hb dX12_add_88 rfl (lv_at hl 4 rfl) ?_
            refine lv_iload hx hb dX12_add_89 (lv_at hl 0 rfl) ?_
            have hPc := hP.sub (ws' := [(Ad5, .inr (15, s102))]) [5] rfl
            have hDc := hD.sub (ws' := [(Ad5, .inr (15, s102))]) [5] (by decide) rfl
            have hKc := hK.sub (tys' := []) [] rfl
            have hFc := va_free (wc := [(Ad5, .inr (15, s102))]) hD hS hA [5] rfl
            refine va_calli (va_runV (As := [.int Va0, .int x185]) (rest := [.int x185, .ref Ad4]) ⟨hx, hb, hml, hown, hts⟩ (z_X12_kindOf l dC dI H.size Ad5 s102 Va0 x185 (fh_sub o_s102.2 [1] rfl) ) (cwV 2 hts g_z_X12_add_1_z_X12_kindOf_458 rfl rfl rfl (by decide +kernel) ⟨Nat.le_of_ble_eq_true rfl, Nat.le_of_ble_eq_true rfl⟩) ⟨fun a U g mk q => by obtain ⟨q0, q1, qP, qK, qD⟩ := q; exact ⟨q0, q1, qP, va_K.moved (u := U) (U := U.calling g mk a) (Vm.Alike.refl U.vm) qK, qD⟩, va_recv hK hP (ci := 15) (q0 := 5) rfl rfl, fun U hU hW => ⟨rfl, by rw [hU], by rw [hU]; exact hPc, va_K.moved hW.alike hKc, hDc.weaken (fun _ _ _ _ => trivial)⟩⟩ rfl rfl hl.1 rfl (lv_room (Nat.le_of_ble_eq_true rfl)) dX12_add_91 ⟨Nat.le_of_ble_eq_true rfl, Nat.le_of_ble_eq_true rfl⟩) hS (fun q _ h => hFc q h) hFc (fun r198 u t H1 locs ht hvm hw hB hz1 hk1 hS => ?_)
            obtain ⟨hP1, hK1, hD1⟩ := hB
            rw [ht] at hP1
            try dsimp only at hw
            obtain ⟨hP, hD⟩ := va_join (wr := [(Ad0, .inl (Ka0, 400, .inl f103)), (Ad1, .inl (Ka1, 400, .inl f112)), (Ad2, .inl (Ka2, 400, .inl f114)), (Ad3, .inl (Ka3, 400, .inl f117)), (Ad4, .inl (Ka4, 38500, .inr (.inl f186)))]) (w1 := [(Ad5, .inr (15, s102))]) hP hD [5] [0, 1, 2, 3, 4] rfl rfl (by decide) (by decide) hk1 hFc hP1 hD1
            have hK := hK.sub (tys' := [(Ka0, .int), (Ka1, .int), (Ka2, .int), (Ka3, .boolean), (Ka4, .long)]) [0, 1, 2, 3, 4] rfl
            generalize H1 = H at hP hS ⊢
            have hP : va_P (dC, dI) vwCl [(Ad0, .inl (Ka0, 400, .inl f103)), (Ad1, .inl (Ka1, 400, .inl f112)), (Ad2, .inl (Ka2, 400, .inl f114)), (Ad3, .inl (Ka3, 400, .inl f117)), (Ad4, .inl (Ka4, 38500, .inr (.inl f186))), (Ad5, .inr (15, s102))] H := hP
            have hD : va_D A [(Ad0, .inl (Ka0, 400, .inl f103)), (Ad1, .inl (Ka1, 400, .inl f112)), (Ad2, .inl (Ka2, 400, .inl f114)), (Ad3, .inl (Ka3, 400, .inl f117)), (Ad4, .inl (Ka4, 38500, .inr (.inl f186))), (Ad5, .inr (15, s102))] := hD
            rcases hw with ⟨c199, c200, er201⟩ | ⟨c202, c203, c204, er205⟩ | ⟨c206, c207, c208, er209⟩
            · exact (by exfalso; (try simp only [i_lt, i_le, i_eq, kc_0, kc_29] at gv_Va0 c108 c109 c122 c123 c199 c200); omega)
            · exact (by exfalso; (try simp only [i_lt, i_le, i_eq, kc_0, kc_29] at gv_Va0 c108 c109 c122 c123 c202 c203 c204); omega)
            · skip
              subst er209
              refine lv_iconst (v := 5) hx hb dX12_add_94 (by decide) ?_
              refine lv_icmp_ne (tgt := 104) hx hb dX12_add_95 (by decide) (fun c210 => absurd c210 (by decide)) (fun c210 => ?_)
              refine lv_ldc2 (v := (-1)) hx hb hown (hts (.constantLong RX12 433 (-1)) (by decide +kernel)) dX12_add_98 ?_
              refine lv_goto (tgt := 105) hx hb dX12_add_101 (by decide) ?_
              refine va_last hx hb hK hP hD hS 4 4 rfl rfl (by rw [vp_in_iff]; (try simp only [i_lt, i_le, i_eq] at t188 h190 h189 c192 gv_Va1); omega) dX12_add_105 (fun H locs hP hD hS => ?_)
              have hP : va_P (dC, dI) vwCl [(Ad0, .inl (Ka0, 400, .inl f103)), (Ad1, .inl (Ka1, 400, .inl f112)), (Ad2, .inl (Ka2, 400, .inl f114)), (Ad3, .inl (Ka3, 400, .inl f117)), (Ad4, .inl (Ka4, 38500, .inr (.inl (vp_updL f186 (x185 : Int32).toNatClampNeg (-1))))), (Ad5, .inr (15, s102))] H := hP
              have hD : va_D A [(Ad0, .inl (Ka0, 400, .inl f103)), (Ad1, .inl (Ka1, 400, .inl f112)), (Ad2, .inl (Ka2, 400, .inl f114)), (Ad3, .inl (Ka3, 400, .inl f117)), (Ad4, .inl (Ka4, 38500, .inr (.inl (vp_updL f186 (x185 : Int32).toNatClampNeg (-1))))), (Ad5, .inr (15, s102))] := hD
              have q212 : (vp_updL f186 (x185 : Int32).toNatClampNeg (-1)) (x185 : Int32).toNatClampNeg = (-1) := pk_uLs
              generalize vp_updL f186 (x185 : Int32).toNatClampNeg (-1) = f211 at hP hD q212
              obtain ⟨x213, ex213⟩ : ∃ y : Int32, y = x185 + 1 := ⟨_, rfl⟩
              refine lv_iinc (v := x213) (lv' := [(5, .int x213), (4, .int Va1), (3, .int 0), (0, .ref Ad5), (1, .int Va0), (2, .int Va1)]) hx hb dX12_add_106 hl (k := 0) rfl (by rw [ex213]; rfl) (by decide) rfl (fun ls hl => ?_)
              have tx213 : x213.toInt = x185.toInt + (1 : Int32).toInt := by rw [ex213]; exact i_add (by have bd_x185 := i_bd x185; (try simp only [i_lt, i_le, i_eq, kc_1] at t188 h190 h189 c192 gv_Va1 ⊢); omega) (by have bd_x185 := i_bd x185; (try simp only [i_lt, i_le, i_eq, kc_1] at t188 h190 h189 c192 gv_Va1 ⊢); omega)
              refine lv_goto (tgt := 69) hx hb dX12_add_109 (by decide) ?_
              exact ih (j184 + 1) x213 f211 (by rw [ex213, e187]; exact nI_1 _) (by omega) (by (try simp only [i_lt, i_le, i_eq, kc_1] at t188 h190 h189 c192 tx213 gv_Va1); omega) (by omega)  _ _ _ (hP.sub [0, 1, 2, 3, 4, 5] rfl) (hD.sub [0, 1, 2, 3, 4, 5] (by decide) rfl) hS  (lv_sub hl [0, 1, 2, 3, 4, 5] rfl)
      exact HL1 61 0 (0) Fa4 (by decide) (by omega) (by omega) (by omega)  _ _ _ hP hD hS  hl

def l_z_X12_make : List Cond := [.methodLink RX12 416 yX12_isClass, .instanceMethod yX12_isClass, .selects RX12 yX12_isClass yX12_isClass, .initialized RX12, .methodLink RX12 464 yX12_isArrayType, .instanceMethod yX12_isArrayType, .selects RX12 yX12_isArrayType yX12_isArrayType, .fieldLink RX12 388 "HeapWorksModel" "thrown" "I", .fieldLink RX12 435 "HeapWorksModel" "objects" "I", .fieldLink RX12 461 "HeapWorksModel" "slotsThere" "I", .methodLink RX12 455 yX12_slotCount, .instanceMethod yX12_slotCount, .selects RX12 yX12_slotCount yX12_slotCount, .methodLink RX12 467 yX12_add, .instanceMethod yX12_add, .selects RX12 yX12_add yX12_add, .code yX12_isClass cX12_isClass 2 (some .boolean), .fieldLink RX12 413 "HeapWorksModel" "classes" "I", .code yX12_isArrayType cX12_isArrayType 2 (some .boolean), .code yX12_slotCount cX12_slotCount 3 (some .int), .code yX12_add cX12_add 6 (some .int), .fieldLink RX12 125 "HeapWorksModel" "type" "[I", .fieldLink RX12 128 "HeapWorksModel" "length" "[I", .fieldLink RX12 131 "HeapWorksModel" "from" "[I", .fieldLink RX12 452 "HeapWorksModel" "valuesUsed" "I", .fieldLink RX12 134 "HeapWorksModel" "there" "[Z", .fieldLink RX12 138 "HeapWorksModel" "values" "[J", .methodLink RX12 458 yX12_kindOf, .instanceMethod yX12_kindOf, .selects RX12 yX12_kindOf yX12_kindOf, .constantLong RX12 433 (-1), .code yX12_kindOf cX12_kindOf 3 (some .int)]
def w_z_X12_make : List Cond := .code yX12_make cX12_make 4 (some .int) :: (l_z_X12_make ++ (wsX120))
theorem in_z_X12_make_X12 : ∀ w ∈ wsX120, w ∈ w_z_X12_make := fun w h => List.mem_cons_of_mem _ (List.mem_append_right _ (h))
theorem g_z_X12_make_z_X12_isClass_416 : GoodIn w_z_X12_make (wsV RX12 416 RX12 yX12_isClass w_z_X12_isClass) := goodIn_app (goodIn_r (([.methodLink RX12 416 yX12_isClass, .instanceMethod yX12_isClass, .selects RX12 yX12_isClass yX12_isClass, .initialized RX12] : List Cond)) [1, 2, 3, 4] rfl (by decide +kernel)) (goodIn_ca (goodIn_r (.code yX12_isClass cX12_isClass 2 (some .boolean) :: l_z_X12_isClass) [17, 18] rfl (by decide +kernel)) (goodIn_in (in_z_X12_make_X12) gd_X12))
theorem g_z_X12_make_z_X12_isArrayType_464 : GoodIn w_z_X12_make (wsV RX12 464 RX12 yX12_isArrayType w_z_X12_isArrayType) := goodIn_app (goodIn_r (([.methodLink RX12 464 yX12_isArrayType, .instanceMethod yX12_isArrayType, .selects RX12 yX12_isArrayType yX12_isArrayType, .initialized RX12] : List Cond)) [5, 6, 7, 4] rfl (by decide +kernel)) (goodIn_ca (goodIn_r (.code yX12_isArrayType cX12_isArrayType 2 (some .boolean) :: l_z_X12_isArrayType) [19, 1, 2, 3, 4, 17, 18] rfl (by decide +kernel)) (goodIn_in (in_z_X12_make_X12) gd_X12))
theorem g_z_X12_make_z_X12_slotCount_455 : GoodIn w_z_X12_make (wsV RX12 455 RX12 yX12_slotCount w_z_X12_slotCount) := goodIn_app (goodIn_r (([.methodLink RX12 455 yX12_slotCount, .instanceMethod yX12_slotCount, .selects RX12 yX12_slotCount yX12_slotCount, .initialized RX12] : List Cond)) [11, 12, 13, 4] rfl (by decide +kernel)) (goodIn_ca (goodIn_r (.code yX12_slotCount cX12_slotCount 3 (some .int) :: l_z_X12_slotCount) [20, 1, 2, 3, 4, 17, 18] rfl (by decide +kernel)) (goodIn_in (in_z_X12_make_X12) gd_X12))
theorem g_z_X12_make_z_X12_add_467 : GoodIn w_z_X12_make (wsV RX12 467 RX12 yX12_add w_z_X12_add) := goodIn_app (goodIn_r (([.methodLink RX12 467 yX12_add, .instanceMethod yX12_add, .selects RX12 yX12_add yX12_add, .initialized RX12] : List Cond)) [14, 15, 16, 4] rfl (by decide +kernel)) (goodIn_ca (goodIn_r (.code yX12_add cX12_add 6 (some .int) :: l_z_X12_add) [21, 9, 22, 23, 1, 2, 3, 4, 24, 25, 26, 11, 12, 13, 10, 27, 28, 29, 30, 31, 17, 18, 20, 32] rfl (by decide +kernel)) (goodIn_in (in_z_X12_make_X12) gd_X12))
theorem g_z_X12_make_z_X12_add_1_467 : GoodIn w_z_X12_make (wsV RX12 467 RX12 yX12_add w_z_X12_add_1) := goodIn_app (goodIn_r (([.methodLink RX12 467 yX12_add, .instanceMethod yX12_add, .selects RX12 yX12_add yX12_add, .initialized RX12] : List Cond)) [14, 15, 16, 4] rfl (by decide +kernel)) (goodIn_ca (goodIn_r (.code yX12_add cX12_add 6 (some .int) :: l_z_X12_add_1) [21, 9, 22, 23, 1, 2, 3, 4, 24, 25, 26, 11, 12, 13, 10, 27, 28, 29, 30, 31, 17, 18, 20, 32] rfl (by decide +kernel)) (goodIn_in (in_z_X12_make_X12) gd_X12))
set_option maxHeartbeats 4000000 in
set_option maxRecDepth 100000 in
theorem z_X12_make (l : Launch) (dC : Nat → ClassId) (dI : Nat → Nat → Nat) (sz : Nat) (Ad0 : Nat) (Fs0 : List Value) (Ad1 : Nat) (Fa0 : Nat → Int32) (Ka0 : ClassId) (Ad2 : Nat) (Fa1 : Nat → Int32) (Ka1 : ClassId) (Ad3 : Nat) (Fa2 : Nat → Int32) (Ka2 : ClassId) (Ad4 : Nat) (Fa3 : Nat → Int32) (Ka3 : ClassId) (Ad5 : Nat) (Fa4 : Nat → Int64) (Ka4 : ClassId) (Va0 : Int32) (Va1 : Int32) (k_Fs0 : fh Fs0 150 [(0, .int 0), (20, .int 0), (21, .ref Ad1), (22, .ref Ad2), (23, .ref Ad3), (24, .ref Ad4), (25, .ref Ad5), (26, .int 0), (27, .int 0), (28, .int 0)]) (hz_Fa2 : ∀ j, Fa2 j = 0) (hz_Fa4 : ∀ j, Fa4 j = 0) : Met l yX12_make w_z_X12_make ({ frames := 3, cells := 0, slots := 0, locals := 68 }) (va_Pc [.ref Ad0, .int Va0, .int Va1] (fun U => U.heap.size = sz ∧ Wd dC dI [(Ka0, .int), (Ka1, .int), (Ka2, .int), (Ka3, .boolean), (Ka4, .long)] (fun _ => True) [(Ad0, .inr (15, Fs0)), (Ad1, .inl (Ka0, 400, .inl Fa0)), (Ad2, .inl (Ka1, 400, .inl Fa1)), (Ad3, .inl (Ka2, 400, .inl Fa2)), (Ad4, .inl (Ka3, 400, .inl Fa3)), (Ad5, .inl (Ka4, 38500, .inr (.inl Fa4)))] U)) (va_Qi (fun (r : Int32) (u : List Value × (Nat → Int32) × (Nat → Int32) × (Nat → Int32) × (Nat → Int32) × (Nat → Int64)) => (Va0 < 0 ∧ Va0 < 20 ∧ ¬ Va0 = 29 ∧ Va0 < 30 ∧ r = 0 ∧ ow Fs0 (u.1) 150 [0] [(0, .int 1), (20, .int 0), (21, .ref Ad1), (22, .ref Ad2), (23, .ref Ad3), (24, .ref Ad4), (25, .ref Ad5), (26, .int 0), (27, .int 0), (28, .int 0)] ∧ (∀ j, (u.2.2.2.1) j = 0) ∧ (∀ j, (u.2.2.2.2.2) j = 0)) ∨ (¬ Va0 < 0 ∧ 0 ≤ Va0 ∧ Va0 < 20 ∧ ¬ Va0 = 29 ∧ Va0 < 30 ∧ r = 0 ∧ ow Fs0 (u.1) 150 [0] [(0, .int 1), (20, .int 0), (21, .ref Ad1), (22, .ref Ad2), (23, .ref Ad3), (24, .ref Ad4), (25, .ref Ad5), (26, .int 0), (27, .int 0), (28, .int 0)] ∧ (∀ j, (u.2.2.2.1) j = 0) ∧ (∀ j, (u.2.2.2.2.2) j = 0)) ∨ (¬ Va0 < 0 ∧ 0 ≤ Va0 ∧ ¬ Va0 < 20 ∧ Va0 ≤ 24 ∧ Va1 < 0 ∧ r = 0 ∧ ow Fs0 (u.1) 150 [0] [(0, .int 1), (20, .int 0), (21, .ref Ad1), (22, .ref Ad2), (23, .ref Ad3), (24, .ref Ad4), (25, .ref Ad5), (26, .int 0), (27, .int 0), (28, .int 0)] ∧ (∀ j, (u.2.2.2.1) j = 0) ∧ (∀ j, (u.2.2.2.2.2) j = 0)) ∨ (¬ Va0 < 0 ∧ 0 ≤ Va0 ∧ ¬ Va0 < 20 ∧ Va0 ≤ 24 ∧ ¬ Va1 < 0 ∧ Va1 ≤ 60 ∧ ¬ Va0 < 0 ∧ 0 ≤ Va0 ∧ Va1 ≤ 4000 ∧ ¬ Va0 < 0 ∧ 0 ≤ Va0 ∧ ¬ Va0 < 0 ∧ 0 ≤ Va0 ∧ ¬ Va0 < 0 ∧ 0 ≤ Va0 ∧ r = 0 ∧ ow Fs0 (u.1) 150 [28, 27, 26, 0] [(28, .int Va1), (27, .int Va1), (26, .int 1), (20, .int 0), (21, .ref Ad1), (22, .ref Ad2), (23, .ref Ad3), (24, .ref Ad4), (25, .ref Ad5), (0, .int 0), (20, .int 0), (21, .ref Ad1), (22, .ref Ad2), (23, .ref Ad3), (24, .ref Ad4), (25, .ref Ad5)] ∧ (u.2.1) (0 : Int32).toNatClampNeg = Va0 ∧ (u.2.2.1) (0 : Int32).toNatClampNeg = Va1 ∧ (∀ j, (u.2.2.2.1) j = 0) ∧ (u.2.2.2.1) (0 : Int32).toNatClampNeg = 0 ∧ (u.2.2.2.2.1) (0 : Int32).toNatClampNeg = 1) ∨ (¬ Va0 < 0 ∧ 0 ≤ Va0 ∧ ¬ Va0 < 20 ∧ Va0 ≤ 24 ∧ ¬ Va1 < 0 ∧ ¬ Va1 ≤ 60 ∧ r = 0 ∧ ow Fs0 (u.1) 150 [0] [(0, .int 1), (20, .int 0), (21, .ref Ad1), (22, .ref Ad2), (23, .ref Ad3), (24, .ref Ad4), (25, .ref Ad5), (26, .int 0), (27, .int 0), (28, .int 0)] ∧ (∀ j, (u.2.2.2.1) j = 0) ∧ (∀ j, (u.2.2.2.2.2) j = 0)) ∨ (¬ Va0 < 0 ∧ 0 ≤ Va0 ∧ ¬ Va0 < 20 ∧ ¬ Va0 ≤ 24 ∧ Va0 = 29 ∧ Va1 < 0 ∧ r = 0 ∧ ow Fs0 (u.1) 150 [0] [(0, .int 1), (20, .int 0), (21, .ref Ad1), (22, .ref Ad2), (23, .ref Ad3), (24, .ref Ad4), (25, .ref Ad5), (26, .int 0), (27, .int 0), (28, .int 0)] ∧ (∀ j, (u.2.2.2.1) j = 0) ∧ (∀ j, (u.2.2.2.2.2) j = 0)) ∨ (¬ Va0 < 0 ∧ 0 ≤ Va0 ∧ ¬ Va0 < 20 ∧ ¬ Va0 ≤ 24 ∧ Va0 = 29 ∧ ¬ Va1 < 0 ∧ Va1 ≤ 60 ∧ ¬ Va0 < 0 ∧ 0 ≤ Va0 ∧ Va1 ≤ 4000 ∧ ¬ Va0 < 0 ∧ 0 ≤ Va0 ∧ ¬ Va0 < 0 ∧ 0 ≤ Va0 ∧ ¬ Va0 < 0 ∧ 0 ≤ Va0 ∧ r = 0 ∧ ow Fs0 (u.1) 150 [28, 27, 26, 0] [(28, .int Va1), (27, .int Va1), (26, .int 1), (20, .int 0), (21, .ref Ad1), (22, .ref Ad2), (23, .ref Ad3), (24, .ref Ad4), (25, .ref Ad5), (0, .int 0), (20, .int 0), (21, .ref Ad1), (22, .ref Ad2), (23, .ref Ad3), (24, .ref Ad4), (25, .ref Ad5)] ∧ (u.2.1) (0 : Int32).toNatClampNeg = Va0 ∧ (u.2.2.1) (0 : Int32).toNatClampNeg = Va1 ∧ (∀ j, (u.2.2.2.1) j = 0) ∧ (u.2.2.2.1) (0 : Int32).toNatClampNeg = 0 ∧ (u.2.2.2.2.1) (0 : Int32).toNatClampNeg = 1) ∨ (¬ Va0 < 0 ∧ 0 ≤ Va0 ∧ ¬ Va0 < 20 ∧ ¬ Va0 ≤ 24 ∧ Va0 = 29 ∧ ¬ Va1 < 0 ∧ ¬ Va1 ≤ 60 ∧ r = 0 ∧ ow Fs0 (u.1) 150 [0] [(0, .int 1), (20, .int 0), (21, .ref Ad1), (22, .ref Ad2), (23, .ref Ad3), (24, .ref Ad4), (25, .ref Ad5), (26, .int 0), (27, .int 0), (28, .int 0)] ∧ (∀ j, (u.2.2.2.1) j = 0) ∧ (∀ j, (u.2.2.2.2.2) j = 0)) ∨ (¬ Va0 < 0 ∧ 0 ≤ Va0 ∧ ¬ Va0 < 20 ∧ ¬ Va0 ≤ 24 ∧ ¬ Va0 = 29 ∧ Va0 < 30 ∧ r = 0 ∧ ow Fs0 (u.1) 150 [0] [(0, .int 1), (20, .int 0), (21, .ref Ad1), (22, .ref Ad2), (23, .ref Ad3), (24, .ref Ad4), (25, .ref Ad5), (26, .int 0), (27, .int 0), (28, .int 0)] ∧ (∀ j, (u.2.2.2.1) j = 0) ∧ (∀ j, (u.2.2.2.2.2) j = 0)) ∨ (¬ Va0 < 0 ∧ 0 ≤ Va0 ∧ ¬ Va0 < 20 ∧ ¬ Va0 ≤ 24 ∧ ¬ Va0 = 29 ∧ ¬ Va0 < 30 ∧ r = 0 ∧ ow Fs0 (u.1) 150 [0] [(0, .int 1), (20, .int 0), (21, .ref Ad1), (22, .ref Ad2), (23, .ref Ad3), (24, .ref Ad4), (25, .ref Ad5), (26, .int 0), (27, .int 0), (28, .int 0)] ∧ (∀ j, (u.2.2.2.1) j = 0) ∧ (∀ j, (u.2.2.2.2.2) j = 0))) (fun (u : List Value × (Nat → Int32) × (Nat → Int32) × (Nat → Int32) × (Nat → Int32) × (Nat → Int64)) t => Wd dC dI [(Ka0, .int), (Ka1, .int), (Ka2, .int), (Ka3, .boolean), (Ka4, .long)] (va_A [(Ad0, .inr (15, Fs0)), (Ad1, .inl (Ka0, 400, .inl Fa0)), (Ad2, .inl (Ka1, 400, .inl Fa1)), (Ad3, .inl (Ka2, 400, .inl Fa2)), (Ad4, .inl (Ka3, 400, .inl Fa3)), (Ad5, .inl (Ka4, 38500, .inr (.inl Fa4)))] sz) [(Ad0, .inr (15, (u.1))), (Ad1, .inl (Ka0, 400, .inl ((u.2.1)))), (Ad2, .inl (Ka1, 400, .inl ((u.2.2.1)))), (Ad3, .inl (Ka2, 400, .inl ((u.2.2.2.1)))), (Ad4, .inl (Ka3, 400, .inl ((u.2.2.2.2.1)))), (Ad5, .inl (Ka4, 38500, .inr (.inl ((u.2.2.2.2.2)))))] t) (va_A [(Ad0, .inr (15, Fs0)), (Ad1, .inl (Ka0, 400, .inl Fa0)), (Ad2, .inl (Ka1, 400, .inl Fa1)), (Ad3, .inl (Ka2, 400, .inl Fa2)), (Ad4, .inl (Ka3, 400, .inl Fa3)), (Ad5, .inl (Ka4, 38500, .inr (.inl Fa4)))] sz))  0 0 (va_A [(Ad0, .inr (15, Fs0)), (Ad1, .inl (Ka0, 400, .inl Fa0)), (Ad2, .inl (Ka1, 400, .inl Fa1)), (Ad3, .inl (Ka2, 400, .inl Fa2)), (Ad4, .inl (Ka3, 400, .inl Fa3)), (Ad5, .inl (Ka4, 38500, .inr (.inl Fa4)))] sz) := by
  refine Met.ofW (cc := cX12_make) (maxL := 4) (ret := (some .int)) (by decide) rfl ?_
  intro p e s m args below meth c s₁ B hml hv
  obtain ⟨rfl, hsz, hP, hK, hD0⟩ := hv
  have hx := B.exec
  have hb := B.bytes
  have hr := B.returns
  have hts := atoms_spec (ws := w_z_X12_make) B.pre
  have hown : s.vm.findClass RX12 = some m.cls := findClass_of_methodNamed B.named
  have hlocks := B.notSynchronized
  subst hsz
  have hD := hD0.self (sz := s.heap.size)
  generalize hAe : va_A [(Ad0, .inr (15, Fs0)), (Ad1, .inl (Ka0, 400, .inl Fa0)), (Ad2, .inl (Ka1, 400, .inl Fa1)), (Ad3, .inl (Ka2, 400, .inl Fa2)), (Ad4, .inl (Ka3, 400, .inl Fa3)), (Ad5, .inl (Ka4, 38500, .inr (.inl Fa4)))] s.heap.size = A at hD ⊢
  have hA : ∀ q : Nat, s.heap.size ≤ q → A q := fun q h => by rw [← hAe]; exact Or.inr h
  have hS : va_S A s.heap s.heap [] := va_S.rf
  have hl := lv_entry ([.ref Ad0, .int Va0, .int Va1]) (n := 4) (Nat.le_of_ble_eq_true rfl)
  rw [lg_entry_eq]
  generalize (lg_sl ([.ref Ad0, .int Va0, .int Va1]) ++ List.replicate (4 - (lg_sl ([.ref Ad0, .int Va0, .int Va1])).length) Slot.unset).toArray = ls at hl ⊢
  have hl : lv_has ls 4 [(0, .ref Ad0), (1, .int Va0), (2, .int Va1)] := hl
  have o_Fs0 := ow_0 k_Fs0
  refine lv_aload_n hx hb dX12_make_0 rfl (lv_at hl 0 rfl) ?_
  refine lv_aload_n hx hb dX12_make_1 rfl (lv_at hl 0 rfl) ?_
  refine lv_iload_n hx hb dX12_make_2 rfl (lv_at hl 1 rfl) ?_
  have hPc := hP.sub (ws' := [(Ad0, .inr (15, Fs0))]) [0] rfl
  have hDc := hD.sub (ws' := [(Ad0, .inr (15, Fs0))]) [0] (by decide) rfl
  have hKc := hK.sub (tys' := []) [] rfl
  have hFc := va_free (wc := [(Ad0, .inr (15, Fs0))]) hD hS hA [0] rfl
  refine va_calli (va_runV (As := [.int Va0]) (rest := [.ref Ad0]) ⟨hx, hb, hml, hown, hts⟩ (z_X12_isClass l dC dI s.heap.size Ad0 Fs0 Va0 (fh_sub o_Fs0.2 [1] rfl) ) (cwV 1 hts g_z_X12_make_z_X12_isClass_416 rfl rfl rfl (by decide +kernel) ⟨Nat.le_of_ble_eq_true rfl, Nat.le_of_ble_eq_true rfl⟩) ⟨fun a U g mk q => by obtain ⟨q0, q1, qP, qK, qD⟩ := q; exact ⟨q0, q1, qP, va_K.moved (u := U) (U := U.calling g mk a) (Vm.Alike.refl U.vm) qK, qD⟩, va_recv hK hP (ci := 15) (q0 := 0) rfl rfl, fun U hU hW => ⟨rfl, by rw [hU], by rw [hU]; exact hPc, va_K.moved hW.alike hKc, hDc.weaken (fun _ _ _ _ => trivial)⟩⟩ rfl rfl hl.1 rfl (lv_room (Nat.le_of_ble_eq_true rfl)) dX12_make_3 ⟨Nat.le_of_ble_eq_true rfl, Nat.le_of_ble_eq_true rfl⟩) hS (fun q _ h => hFc q h) hFc (fun r101 u t H1 locs ht hvm hw hB hz1 hk1 hS => ?_)
  obtain ⟨hP1, hK1, hD1⟩ := hB
  rw [ht] at hP1
  try dsimp only at hw
  obtain ⟨hP, hD⟩ := va_join (wr := [(Ad1, .inl (Ka0, 400, .inl Fa0)), (Ad2, .inl (Ka1, 400, .inl Fa1)), (Ad3, .inl (Ka2, 400, .inl Fa2)), (Ad4, .inl (Ka3, 400, .inl Fa3)), (Ad5, .inl (Ka4, 38500, .inr (.inl Fa4)))]) (w1 := [(Ad0, .inr (15, Fs0))]) hP hD [0] [1, 2, 3, 4, 5] rfl rfl (by decide) (by decide) hk1 hFc hP1 hD1
  have hK := hK.sub (tys' := [(Ka0, .int), (Ka1, .int), (Ka2, .int), (Ka3, .boolean), (Ka4, .long)]) [0, 1, 2, 3, 4] rfl
  generalize H1 = H at hP hS ⊢
  have hP : va_P (dC, dI) vwCl [(Ad1, .inl (Ka0, 400, .inl Fa0)), (Ad2, .inl (Ka1, 400, .inl Fa1)), (Ad3, .inl (Ka2, 400, .inl Fa2)), (Ad4, .inl (Ka3, 400, .inl Fa3)), (Ad5, .inl (Ka4, 38500, .inr (.inl Fa4))), (Ad0, .inr (15, Fs0))] H := hP
  have hD : va_D A [(Ad1, .inl (Ka0, 400, .inl Fa0)), (Ad2, .inl (Ka1, 400, .inl Fa1)), (Ad3, .inl (Ka2, 400, .inl Fa2)), (Ad4, .inl (Ka3, 400, .inl Fa3)), (Ad5, .inl (Ka4, 38500, .inr (.inl Fa4))), (Ad0, .inr (15, Fs0))] := hD
  rcases hw with ⟨c102, er103⟩ | ⟨c104, c105, er106⟩
  · skip
    subst er103
    refine lv_if_ne (tgt := 31) hx hb dX12_make_6 (by decide) (fun c107 => absurd c107 (by decide)) (fun c107 => ?_)
    refine lv_aload_n hx hb dX12_make_9 rfl (lv_at hl 0 rfl) ?_
    refine lv_iload_n hx hb dX12_make_10 rfl (lv_at hl 1 rfl) ?_
    have hPc := hP.sub (ws' := [(Ad0, .inr (15, Fs0))]) [5] rfl
    have hDc := hD.sub (ws' := [(Ad0, .inr (15, Fs0))]) [5] (by decide) rfl
    have hKc := hK.sub (tys' := []) [] rfl
    have hFc := va_free (wc := [(Ad0, .inr (15, Fs0))]) hD hS hA [5] rfl
    refine va_calli (va_runV (As := [.int Va0]) (rest := [.ref Ad0]) ⟨hx, hb, hml, hown, hts⟩ (z_X12_isArrayType l dC dI H.size Ad0 Fs0 Va0 (fh_sub o_Fs0.2 [1] rfl) ) (cwV 1 hts g_z_X12_make_z_X12_isArrayType_464 rfl rfl rfl (by decide +kernel) ⟨Nat.le_of_ble_eq_true rfl, Nat.le_of_ble_eq_true rfl⟩) ⟨fun a U g mk q => by obtain ⟨q0, q1, qP, qK, qD⟩ := q; exact ⟨q0, q1, qP, va_K.moved (u := U) (U := U.calling g mk a) (Vm.Alike.refl U.vm) qK, qD⟩, va_recv hK hP (ci := 15) (q0 := 5) rfl rfl, fun U hU hW => ⟨rfl, by rw [hU], by rw [hU]; exact hPc, va_K.moved hW.alike hKc, hDc.weaken (fun _ _ _ _ => trivial)⟩⟩ rfl rfl hl.1 rfl (lv_room (Nat.le_of_ble_eq_true rfl)) dX12_make_11 ⟨Nat.le_of_ble_eq_true rfl, Nat.le_of_ble_eq_true rfl⟩) hS (fun q _ h => hFc q h) hFc (fun r108 u t H1 locs ht hvm hw hB hz1 hk1 hS => ?_)
    obtain ⟨hP1, hK1, hD1⟩ := hB
    rw [ht] at hP1
    try dsimp only at hw
    obtain ⟨hP, hD⟩ := va_join (wr := [(Ad1, .inl (Ka0, 400, .inl Fa0)), (Ad2, .inl (Ka1, 400, .inl Fa1)), (Ad3, .inl (Ka2, 400, .inl Fa2)), (Ad4, .inl (Ka3, 400, .inl Fa3)), (Ad5, .inl (Ka4, 38500, .inr (.inl Fa4)))]) (w1 := [(Ad0, .inr (15, Fs0))]) hP hD [5] [0, 1, 2, 3, 4] rfl rfl (by decide) (by decide) hk1 hFc hP1 hD1
    have hK := hK.sub (tys' := [(Ka0, .int), (Ka1, .int), (Ka2, .int), (Ka3, .boolean), (Ka4, .long)]) [0, 1, 2, 3, 4] rfl
    generalize H1 = H at hP hS ⊢
    have hP : va_P (dC, dI) vwCl [(Ad1, .inl (Ka0, 400, .inl Fa0)), (Ad2, .inl (Ka1, 400, .inl Fa1)), (Ad3, .inl (Ka2, 400, .inl Fa2)), (Ad4, .inl (Ka3, 400, .inl Fa3)), (Ad5, .inl (Ka4, 38500, .inr (.inl Fa4))), (Ad0, .inr (15, Fs0))] H := hP
    have hD : va_D A [(Ad1, .inl (Ka0, 400, .inl Fa0)), (Ad2, .inl (Ka1, 400, .inl Fa1)), (Ad3, .inl (Ka2, 400, .inl Fa2)), (Ad4, .inl (Ka3, 400, .inl Fa3)), (Ad5, .inl (Ka4, 38500, .inr (.inl Fa4))), (Ad0, .inr (15, Fs0))] := hD
    rcases hw with ⟨c109, c110, c111, er112⟩ | ⟨c113, c114, er115⟩ | ⟨c116, c117, c118, er119⟩ | ⟨c120, c121, c122, c123, er124⟩ | ⟨c125, c126, c127, c128, er129⟩
    · skip
      subst er112
      refine lv_if_eq (tgt := 27) hx hb dX12_make_14 (by decide) (fun c130 => ?_) (fun c130 => absurd c130 (by decide))
      refine lv_iconst (v := 1) hx hb dX12_make_27 (by decide) ?_
      refine lv_goto (tgt := 32) hx hb dX12_make_28 (by decide) ?_
      refine va_put (D := (dC, dI)) (ci := 15) (v := .int 1) (ty := .int) (C := RX12) (T := TX12) (N := 150) hx hb hts (in_z_X12_make_X12) tyX12 tyX12_ok nmX12 hown hK hP hD hS 5 rfl rfl 0 (by decide) (hts (.fieldLink RX12 388 "HeapWorksModel" "thrown" "I") (by decide +kernel)) (fun _ h9 => h9) rfl (by decide +kernel) rfl rfl (by rw [o_Fs0.2.1]; decide) dX12_make_32 (fun H locs hP hD hS => ?_)
      have hP : va_P (dC, dI) vwCl [(Ad1, .inl (Ka0, 400, .inl Fa0)), (Ad2, .inl (Ka1, 400, .inl Fa1)), (Ad3, .inl (Ka2, 400, .inl Fa2)), (Ad4, .inl (Ka3, 400, .inl Fa3)), (Ad5, .inl (Ka4, 38500, .inr (.inl Fa4))), (Ad0, .inr (15, (Fs0.set 0 (.int 1))))] H := hP
      have hD : va_D A [(Ad1, .inl (Ka0, 400, .inl Fa0)), (Ad2, .inl (Ka1, 400, .inl Fa1)), (Ad3, .inl (Ka2, 400, .inl Fa2)), (Ad4, .inl (Ka3, 400, .inl Fa3)), (Ad5, .inl (Ka4, 38500, .inr (.inl Fa4))), (Ad0, .inr (15, (Fs0.set 0 (.int 1))))] := hD
      have o_s131 := ow_set o_Fs0 0 (.int 1) (by decide) (l' := [(0, .int 1), (20, .int 0), (21, .ref Ad1), (22, .ref Ad2), (23, .ref Ad3), (24, .ref Ad4), (25, .ref Ad5), (26, .int 0), (27, .int 0), (28, .int 0)]) (w' := [0]) rfl rfl
      generalize (Fs0.set 0 (.int 1)) = s131 at hP hD o_s131
      refine lv_aload_n hx hb dX12_make_35 rfl (lv_at hl 0 rfl) ?_
      refine va_get (D := (dC, dI)) (ci := 15) (v := .int 1) (C := RX12) (T := TX12) (N := 150) hx hb hts (in_z_X12_make_X12) hown hK hP 5 rfl rfl 0 (by decide) (hts (.fieldLink RX12 388 "HeapWorksModel" "thrown" "I") (by decide +kernel)) (fun _ h9 => h9) (ow_at o_s131 0 rfl) dX12_make_36 ?_
      refine lv_if_le (tgt := 44) hx hb dX12_make_39 (by decide) (fun c132 => absurd c132 (by decide)) (fun c132 => ?_)
      refine lv_iconst (v := 0) hx hb dX12_make_42 (by decide) ?_
      have hP9 := hP.sub (ws' := [(Ad0, .inr (15, s131)), (Ad1, .inl (Ka0, 400, .inl Fa0)), (Ad2, .inl (Ka1, 400, .inl Fa1)), (Ad3, .inl (Ka2, 400, .inl Fa2)), (Ad4, .inl (Ka3, 400, .inl Fa3)), (Ad5, .inl (Ka4, 38500, .inr (.inl Fa4)))]) [5, 0, 1, 2, 3, 4] rfl
      have hD9 := hD.sub (ws' := [(Ad0, .inr (15, s131)), (Ad1, .inl (Ka0, 400, .inl Fa0)), (Ad2, .inl (Ka1, 400, .inl Fa1)), (Ad3, .inl (Ka2, 400, .inl Fa2)), (Ad4, .inl (Ka3, 400, .inl Fa3)), (Ad5, .inl (Ka4, 38500, .inr (.inl Fa4)))]) [5, 0, 1, 2, 3, 4] (by decide) rfl
      have hK9 := hK.sub (tys' := [(Ka0, .int), (Ka1, .int), (Ka2, .int), (Ka3, .boolean), (Ka4, .long)]) [0, 1, 2, 3, 4] rfl
      exact W.iret (v := 0) hx hb hr (fun t ht hW => ⟨⟨0, (s131, Fa0, Fa1, Fa2, Fa3, Fa4), rfl, (Or.inl ⟨c102, c109, c110, c111, rfl, o_s131, hz_Fa2, hz_Fa4⟩), by rw [ht]; exact hP9, va_K.moved hW.alike hK9, hD9⟩, hS.F ht⟩) hS.2.2 dX12_make_43
    · exact (by exfalso; (try simp only [i_lt, i_le, i_eq, kc_0, kc_20, kc_24] at c102 c113 c114); omega)
    · exact (by exfalso; (try simp only [i_lt, i_le, i_eq, kc_0, kc_20, kc_24, kc_29] at c102 c116 c117 c118); omega)
    · exact (by exfalso; (try simp only [i_lt, i_le, i_eq, kc_0, kc_20, kc_24, kc_29, kc_30] at c102 c120 c121 c122 c123); omega)
    · exact (by exfalso; (try simp only [i_lt, i_le, i_eq, kc_0, kc_20, kc_24, kc_29, kc_30] at c102 c125 c126 c127 c128); omega)
  · skip
    subst er106
    refine lv_if_ne (tgt := 31) hx hb dX12_make_6 (by decide) (fun c133 => absurd c133 (by decide)) (fun c133 => ?_)
    refine lv_aload_n hx hb dX12_make_9 rfl (lv_at hl 0 rfl) ?_
    refine lv_iload_n hx hb dX12_make_10 rfl (lv_at hl 1 rfl) ?_
    have hPc := hP.sub (ws' := [(Ad0, .inr (15, Fs0))]) [5] rfl
    have hDc := hD.sub (ws' := [(Ad0, .inr (15, Fs0))]) [5] (by decide) rfl
    have hKc := hK.sub (tys' := []) [] rfl
    have hFc := va_free (wc := [(Ad0, .inr (15, Fs0))]) hD hS hA [5] rfl
    refine va_calli (va_runV (As := [.int Va0]) (rest := [.ref Ad0]) ⟨hx, hb, hml, hown, hts⟩ (z_X12_isArrayType l dC dI H.size Ad0 Fs0 Va0 (fh_sub o_Fs0.2 [1] rfl) ) (cwV 1 hts g_z_X12_make_z_X12_isArrayType_464 rfl rfl rfl (by decide +kernel) ⟨Nat.le_of_ble_eq_true rfl, Nat.le_of_ble_eq_true rfl⟩) ⟨fun a U g mk q => by obtain ⟨q0, q1, qP, qK, qD⟩ := q; exact ⟨q0, q1, qP, va_K.moved (u := U) (U := U.calling g mk a) (Vm.Alike.refl U.vm) qK, qD⟩, va_recv hK hP (ci := 15) (q0 := 5) rfl rfl, fun U hU hW => ⟨rfl, by rw [hU], by rw [hU]; exact hPc, va_K.moved hW.alike hKc, hDc.weaken (fun _ _ _ _ => trivial)⟩⟩ rfl rfl hl.1 rfl (lv_room (Nat.le_of_ble_eq_true rfl)) dX12_make_11 ⟨Nat.le_of_ble_eq_true rfl, Nat.le_of_ble_eq_true rfl⟩) hS (fun q _ h => hFc q h) hFc (fun r134 u t H1 locs ht hvm hw hB hz1 hk1 hS => ?_)
    obtain ⟨hP1, hK1, hD1⟩ := hB
    rw [ht] at hP1
    try dsimp only at hw
    obtain ⟨hP, hD⟩ := va_join (wr := [(Ad1, .inl (Ka0, 400, .inl Fa0)), (Ad2, .inl (Ka1, 400, .inl Fa1)), (Ad3, .inl (Ka2, 400, .inl Fa2)), (Ad4, .inl (Ka3, 400, .inl Fa3)), (Ad5, .inl (Ka4, 38500, .inr (.inl Fa4)))]) (w1 := [(Ad0, .inr (15, Fs0))]) hP hD [5] [0, 1, 2, 3, 4] rfl rfl (by decide) (by decide) hk1 hFc hP1 hD1
    have hK := hK.sub (tys' := [(Ka0, .int), (Ka1, .int), (Ka2, .int), (Ka3, .boolean), (Ka4, .long)]) [0, 1, 2, 3, 4] rfl
    generalize H1 = H at hP hS ⊢
    have hP : va_P (dC, dI) vwCl [(Ad1, .inl (Ka0, 400, .inl Fa0)), (Ad2, .inl (Ka1, 400, .inl Fa1)), (Ad3, .inl (Ka2, 400, .inl Fa2)), (Ad4, .inl (Ka3, 400, .inl Fa3)), (Ad5, .inl (Ka4, 38500, .inr (.inl Fa4))), (Ad0, .inr (15, Fs0))] H := hP
    have hD : va_D A [(Ad1, .inl (Ka0, 400, .inl Fa0)), (Ad2, .inl (Ka1, 400, .inl Fa1)), (Ad3, .inl (Ka2, 400, .inl Fa2)), (Ad4, .inl (Ka3, 400, .inl Fa3)), (Ad5, .inl (Ka4, 38500, .inr (.inl Fa4))), (Ad0, .inr (15, Fs0))] := hD
    rcases hw with ⟨c135, c136, c137, er138⟩ | ⟨c139, c140, er141⟩ | ⟨c142, c143, c144, er145⟩ | ⟨c146, c147, c148, c149, er150⟩ | ⟨c151, c152, c153, c154, er155⟩
    · skip
      subst er138
      refine lv_if_eq (tgt := 27) hx hb dX12_make_14 (by decide) (fun c156 => ?_) (fun c156 => absurd c156 (by decide))
      refine lv_iconst (v := 1) hx hb dX12_make_27 (by decide) ?_
      refine lv_goto (tgt := 32) hx hb dX12_make_28 (by decide) ?_
      refine va_put (D := (dC, dI)) (ci := 15) (v := .int 1) (ty := .int) (C := RX12) (T := TX12) (N := 150) hx hb hts (in_z_X12_make_X12) tyX12 tyX12_ok nmX12 hown hK hP hD hS 5 rfl rfl 0 (by decide) (hts (.fieldLink RX12 388 "HeapWorksModel" "thrown" "I") (by decide +kernel)) (fun _ h9 => h9) rfl (by decide +kernel) rfl rfl (by rw [o_Fs0.2.1]; decide) dX12_make_32 (fun H locs hP hD hS => ?_)
      have hP : va_P (dC, dI) vwCl [(Ad1, .inl (Ka0, 400, .inl Fa0)), (Ad2, .inl (Ka1, 400, .inl Fa1)), (Ad3, .inl (Ka2, 400, .inl Fa2)), (Ad4, .inl (Ka3, 400, .inl Fa3)), (Ad5, .inl (Ka4, 38500, .inr (.inl Fa4))), (Ad0, .inr (15, (Fs0.set 0 (.int 1))))] H := hP
      have hD : va_D A [(Ad1, .inl (Ka0, 400, .inl Fa0)), (Ad2, .inl (Ka1, 400, .inl Fa1)), (Ad3, .inl (Ka2, 400, .inl Fa2)), (Ad4, .inl (Ka3, 400, .inl Fa3)), (Ad5, .inl (Ka4, 38500, .inr (.inl Fa4))), (Ad0, .inr (15, (Fs0.set 0 (.int 1))))] := hD
      have o_s157 := ow_set o_Fs0 0 (.int 1) (by decide) (l' := [(0, .int 1), (20, .int 0), (21, .ref Ad1), (22, .ref Ad2), (23, .ref Ad3), (24, .ref Ad4), (25, .ref Ad5), (26, .int 0), (27, .int 0), (28, .int 0)]) (w' := [0]) rfl rfl
      generalize (Fs0.set 0 (.int 1)) = s157 at hP hD o_s157
      refine lv_aload_n hx hb dX12_make_35 rfl (lv_at hl 0 rfl) ?_
      refine va_get (D := (dC, dI)) (ci := 15) (v := .int 1) (C := RX12) (T := TX12) (N := 150) hx hb hts (in_z_X12_make_X12) hown hK hP 5 rfl rfl 0 (by decide) (hts (.fieldLink RX12 388 "HeapWorksModel" "thrown" "I") (by decide +kernel)) (fun _ h9 => h9) (ow_at o_s157 0 rfl) dX12_make_36 ?_
      refine lv_if_le (tgt := 44) hx hb dX12_make_39 (by decide) (fun c158 => absurd c158 (by decide)) (fun c158 => ?_)
      refine lv_iconst (v := 0) hx hb dX12_make_42 (by decide) ?_
      have hP9 := hP.sub (ws' := [(Ad0, .inr (15, s157)), (Ad1, .inl (Ka0, 400, .inl Fa0)), (Ad2, .inl (Ka1, 400, .inl Fa1)), (Ad3, .inl (Ka2, 400, .inl Fa2)), (Ad4, .inl (Ka3, 400, .inl Fa3)), (Ad5, .inl (Ka4, 38500, .inr (.inl Fa4)))]) [5, 0, 1, 2, 3, 4] rfl
      have hD9 := hD.sub (ws' := [(Ad0, .inr (15, s157)), (Ad1, .inl (Ka0, 400, .inl Fa0)), (Ad2, .inl (Ka1, 400, .inl Fa1)), (Ad3, .inl (Ka2, 400, .inl Fa2)), (Ad4, .inl (Ka3, 400, .inl Fa3)), (Ad5, .inl (Ka4, 38500, .inr (.inl Fa4)))]) [5, 0, 1, 2, 3, 4] (by decide) rfl
      have hK9 := hK.sub (tys' := [(Ka0, .int), (Ka1, .int), (Ka2, .int), (Ka3, .boolean), (Ka4, .long)]) [0, 1, 2, 3, 4] rfl
      exact W.iret (v := 0) hx hb hr (fun t ht hW => ⟨⟨0, (s157, Fa0, Fa1, Fa2, Fa3, Fa4), rfl, (Or.inr (Or.inl ⟨c104, c105, c135, c136, c137, rfl, o_s157, hz_Fa2, hz_Fa4⟩)), by rw [ht]; exact hP9, va_K.moved hW.alike hK9, hD9⟩, hS.F ht⟩) hS.2.2 dX12_make_43
    · skip
      subst er141
      refine lv_if_eq (tgt := 27) hx hb dX12_make_14 (by decide) (fun c159 => absurd c159 (by decide)) (fun c159 => ?_)
      refine lv_iload_n hx hb dX12_make_17 rfl (lv_at hl 2 rfl) ?_
      refine lv_if_lt (tgt := 27) hx hb dX12_make_18 (by decide) (fun c160 => ?_) (fun c160 => ?_)
      · skip
        refine lv_iconst (v := 1) hx hb dX12_make_27 (by decide) ?_
        refine lv_goto (tgt := 32) hx hb dX12_make_28 (by decide) ?_
        refine va_put (D := (dC, dI)) (ci := 15) (v := .int 1) (ty := .int) (C := RX12) (T := TX12) (N := 150) hx hb hts (in_z_X12_make_X12) tyX12 tyX12_ok nmX12 hown hK hP hD hS 5 rfl rfl 0 (by decide) (hts (.fieldLink RX12 388 "HeapWorksModel" "thrown" "I") (by decide +kernel)) (fun _ h9 => h9) rfl (by decide +kernel) rfl rfl (by rw [o_Fs0.2.1]; decide) dX12_make_32 (fun H locs hP hD hS => ?_)
        have hP : va_P (dC, dI) vwCl [(Ad1, .inl (Ka0, 400, .inl Fa0)), (Ad2, .inl (Ka1, 400, .inl Fa1)), (Ad3, .inl (Ka2, 400, .inl Fa2)), (Ad4, .inl (Ka3, 400, .inl Fa3)), (Ad5, .inl (Ka4, 38500, .inr (.inl Fa4))), (Ad0, .inr (15, (Fs0.set 0 (.int 1))))] H := hP
        have hD : va_D A [(Ad1, .inl (Ka0, 400, .inl Fa0)), (Ad2, .inl (Ka1, 400, .inl Fa1)), (Ad3, .inl (Ka2, 400, .inl Fa2)), (Ad4, .inl (Ka3, 400, .inl Fa3)), (Ad5, .inl (Ka4, 38500, .inr (.inl Fa4))), (Ad0, .inr (15, (Fs0.set 0 (.int 1))))] := hD
        have o_s161 := ow_set o_Fs0 0 (.int 1) (by decide) (l' := [(0, .int 1), (20, .int 0), (21, .ref Ad1), (22, .ref Ad2), (23, .ref Ad3), (24, .ref Ad4), (25, .ref Ad5), (26, .int 0), (27, .int 0), (28, .int 0)]) (w' := [0]) rfl rfl
        generalize (Fs0.set 0 (.int 1)) = s161 at hP hD o_s161
        refine lv_aload_n hx hb dX12_make_35 rfl (lv_at hl 0 rfl) ?_
        refine va_get (D := (dC, dI)) (ci := 15) (v := .int 1) (C := RX12) (T := TX12) (N := 150) hx hb hts (in_z_X12_make_X12) hown hK hP 5 rfl rfl 0 (by decide) (hts (.fieldLink RX12 388 "HeapWorksModel" "thrown" "I") (by decide +kernel)) (fun _ h9 => h9) (ow_at o_s161 0 rfl) dX12_make_36 ?_
        refine lv_if_le (tgt := 44) hx hb dX12_make_39 (by decide) (fun c162 => absurd c162 (by decide)) (fun c162 => ?_)
        refine lv_iconst (v := 0) hx hb dX12_make_42 (by decide) ?_
        have hP9 := hP.sub (ws' := [(Ad0, .inr (15, s161)), (Ad1, .inl (Ka0, 400, .inl Fa0)), (Ad2, .inl (Ka1, 400, .inl Fa1)), (Ad3, .inl (Ka2, 400, .inl Fa2)), (Ad4, .inl (Ka3, 400, .inl Fa3)), (Ad5, .inl (Ka4, 38500, .inr (.inl Fa4)))]) [5, 0, 1, 2, 3, 4] rfl
        have hD9 := hD.sub (ws' := [(Ad0, .inr (15, s161)), (Ad1, .inl (Ka0, 400, .inl Fa0)), (Ad2, .inl (Ka1, 400, .inl Fa1)), (Ad3, .inl (Ka2, 400, .inl Fa2)), (Ad4, .inl (Ka3, 400, .inl Fa3)), (Ad5, .inl (Ka4, 38500, .inr (.inl Fa4)))]) [5, 0, 1, 2, 3, 4] (by decide) rfl
        have hK9 := hK.sub (tys' := [(Ka0, .int), (Ka1, .int), (Ka2, .int), (Ka3, .boolean), (Ka4, .long)]) [0, 1, 2, 3, 4] rfl
        exact W.iret (v := 0) hx hb hr (fun t ht hW => ⟨⟨0, (s161, Fa0, Fa1, Fa2, Fa3, Fa4), rfl, (Or.inr (Or.inr (Or.inl ⟨c104, c105, c139, c140, c160, rfl, o_s161, hz_Fa2, hz_Fa4⟩))), by rw [ht]; exact hP9, va_K.moved hW.alike hK9, hD9⟩, hS.F ht⟩) hS.2.2 dX12_make_43
      · skip
        refine lv_iload_n hx hb dX12_make_21 rfl (lv_at hl 2 rfl) ?_
        refine lv_bipush (v := 60) hx hb dX12_make_22 (by decide) ?_
        refine lv_icmp_le (tgt := 31) hx hb dX12_make_24 (by decide) (fun c163 => ?_) (fun c163 => ?_)
        · skip
          refine lv_iconst (v := 0) hx hb dX12_make_31 (by decide) ?_
          refine va_put (D := (dC, dI)) (ci := 15) (v := .int 0) (ty := .int) (C := RX12) (T := TX12) (N := 150) hx hb hts (in_z_X12_make_X12) tyX12 tyX12_ok nmX12 hown hK hP hD hS 5 rfl rfl 0 (by decide) (hts (.fieldLink RX12 388 "HeapWorksModel" "thrown" "I") (by decide +kernel)) (fun _ h9 => h9) rfl (by decide +kernel) rfl rfl (by rw [o_Fs0.2.1]; decide) dX12_make_32 (fun H locs hP hD hS => ?_)
          have hP : va_P (dC, dI) vwCl [(Ad1, .inl (Ka0, 400, .inl Fa0)), (Ad2, .inl (Ka1, 400, .inl Fa1)), (Ad3, .inl (Ka2, 400, .inl Fa2)), (Ad4, .inl (Ka3, 400, .inl Fa3)), (Ad5, .inl (Ka4, 38500, .inr (.inl Fa4))), (Ad0, .inr (15, (Fs0.set 0 (.int 0))))] H := hP
          have hD : va_D A [(Ad1, .inl (Ka0, 400, .inl Fa0)), (Ad2, .inl (Ka1, 400, .inl Fa1)), (Ad3, .inl (Ka2, 400, .inl Fa2)), (Ad4, .inl (Ka3, 400, .inl Fa3)), (Ad5, .inl (Ka4, 38500, .inr (.inl Fa4))), (Ad0, .inr (15, (Fs0.set 0 (.int 0))))] := hD
          have o_s164 := ow_set o_Fs0 0 (.int 0) (by decide) (l' := [(0, .int 0), (20, .int 0), (21, .ref Ad1), (22, .ref Ad2), (23, .ref Ad3), (24, .ref Ad4), (25, .ref Ad5), (26, .int 0), (27, .int 0), (28, .int 0)]) (w' := [0]) rfl rfl
          generalize (Fs0.set 0 (.int 0)) = s164 at hP hD o_s164
          refine lv_aload_n hx hb dX12_make_35 rfl (lv_at hl 0 rfl) ?_
          refine va_get (D := (dC, dI)) (ci := 15) (v := .int 0) (C := RX12) (T := TX12) (N := 150) hx hb hts (in_z_X12_make_X12) hown hK hP 5 rfl rfl 0 (by decide) (hts (.fieldLink RX12 388 "HeapWorksModel" "thrown" "I") (by decide +kernel)) (fun _ h9 => h9) (ow_at o_s164 0 rfl) dX12_make_36 ?_
          refine lv_if_le (tgt := 44) hx hb dX12_make_39 (by decide) (fun c165 => ?_) (fun c165 => absurd c165 (by decide))
          refine lv_aload_n hx hb dX12_make_44 rfl (lv_at hl 0 rfl) ?_
          refine lv_aload_n hx hb dX12_make_45 rfl (lv_at hl 0 rfl) ?_
          refine va_get (D := (dC, dI)) (ci := 15) (v := .int 0) (C := RX12) (T := TX12) (N := 150) hx hb hts (in_z_X12_make_X12) hown hK hP 5 rfl rfl 26 (by decide) (hts (.fieldLink RX12 435 "HeapWorksModel" "objects" "I") (by decide +kernel)) (fun _ h9 => h9) (ow_at o_s164 7 rfl) dX12_make_46 ?_
          refine lv_sipush (v := 400) hx hb dX12_make_49 (by decide) ?_
          refine lv_icmp_eq (tgt := 72) hx hb dX12_make_52 (by decide) (fun c166 => absurd c166 (by decide)) (fun c166 => ?_)
          refine lv_aload_n hx hb dX12_make_55 rfl (lv_at hl 0 rfl) ?_
          refine va_get (D := (dC, dI)) (ci := 15) (v := .int 0) (C := RX12) (T := TX12) (N := 150) hx hb hts (in_z_X12_make_X12) hown hK hP 5 rfl rfl 28 (by decide) (hts (.fieldLink RX12 461 "HeapWorksModel" "slotsThere" "I") (by decide +kernel)) (fun _ h9 => h9) (ow_at o_s164 9 rfl) dX12_make_56 ?_
          refine lv_aload_n hx hb dX12_make_59 rfl (lv_at hl 0 rfl) ?_
          refine lv_iload_n hx hb dX12_make_60 rfl (lv_at hl 1 rfl) ?_
          refine lv_iload_n hx hb dX12_make_61 rfl (lv_at hl 2 rfl) ?_
          have hPc := hP.sub (ws' := [(Ad0, .inr (15, s164))]) [5] rfl
          have hDc := hD.sub (ws' := [(Ad0, .inr (15, s164))]) [5] (by decide) rfl
          have hKc := hK.sub (tys' := []) [] rfl
          have hFc := va_free (wc := [(Ad0, .inr (15, s164))]) hD hS hA [5] rfl
          refine va_calli (va_runV (As := [.int Va0, .int Va1]) (rest := [.int 0, .ref Ad0]) ⟨hx, hb, hml, hown, hts⟩ (z_X12_slotCount l dC dI H.size Ad0 s164 Va0 Va1 (fh_sub o_s164.2 [1] rfl) ) (cwV 2 hts g_z_X12_make_z_X12_slotCount_455 rfl rfl rfl (by decide +kernel) ⟨Nat.le_of_ble_eq_true rfl, Nat.le_of_ble_eq_true rfl⟩) ⟨fun a U g mk q => by obtain ⟨q0, q1, qP, qK, qD⟩ := q; exact ⟨q0, q1, qP, va_K.moved (u := U) (U := U.calling g mk a) (Vm.Alike.refl U.vm) qK, qD⟩, va_recv hK hP (ci := 15) (q0 := 5) rfl rfl, fun U hU hW => ⟨rfl, by rw [hU], by rw [hU]; exact hPc, va_K.moved hW.alike hKc, hDc.weaken (fun _ _ _ _ => trivial)⟩⟩ rfl rfl hl.1 rfl (lv_room (Nat.le_of_ble_eq_true rfl)) dX12_make_62 ⟨Nat.le_of_ble_eq_true rfl, Nat.le_of_ble_eq_true rfl⟩) hS (fun q _ h => hFc q h) hFc (fun r167 u t H1 locs ht hvm hw hB hz1 hk1 hS => ?_)
          obtain ⟨hP1, hK1, hD1⟩ := hB
          rw [ht] at hP1
          try dsimp only at hw
          obtain ⟨hP, hD⟩ := va_join (wr := [(Ad1, .inl (Ka0, 400, .inl Fa0)), (Ad2, .inl (Ka1, 400, .inl Fa1)), (Ad3, .inl (Ka2, 400, .inl Fa2)), (Ad4, .inl (Ka3, 400, .inl Fa3)), (Ad5, .inl (Ka4, 38500, .inr (.inl Fa4)))]) (w1 := [(Ad0, .inr (15, s164))]) hP hD [5] [0, 1, 2, 3, 4] rfl rfl (by decide) (by decide) hk1 hFc hP1 hD1
          have hK := hK.sub (tys' := [(Ka0, .int), (Ka1, .int), (Ka2, .int), (Ka3, .boolean), (Ka4, .long)]) [0, 1, 2, 3, 4] rfl
          generalize H1 = H at hP hS ⊢
          have hP : va_P (dC, dI) vwCl [(Ad1, .inl (Ka0, 400, .inl Fa0)), (Ad2, .inl (Ka1, 400, .inl Fa1)), (Ad3, .inl (Ka2, 400, .inl Fa2)), (Ad4, .inl (Ka3, 400, .inl Fa3)), (Ad5, .inl (Ka4, 38500, .inr (.inl Fa4))), (Ad0, .inr (15, s164))] H := hP
          have hD : va_D A [(Ad1, .inl (Ka0, 400, .inl Fa0)), (Ad2, .inl (Ka1, 400, .inl Fa1)), (Ad3, .inl (Ka2, 400, .inl Fa2)), (Ad4, .inl (Ka3, 400, .inl Fa3)), (Ad5, .inl (Ka4, 38500, .inr (.inl Fa4))), (Ad0, .inr (15, s164))] := hD
          rcases hw with ⟨c168, er169⟩ | ⟨c170, c171, er172⟩
          · exact (by exfalso; (try simp only [i_lt, i_le, i_eq, kc_0, kc_20, kc_24] at c104 c105 c139 c140 c168); omega)
          · skip
            have qer172 := er172.symm
            subst qer172
            refine lv_iadd hx hb dX12_make_65  ?_
            refine lv_topi (fun x173 ex173 => ?_)
            obtain rfl : Va1 = x173 := (ex173.trans (Int32.zero_add _)).symm
            refine lv_sipush (v := 4000) hx hb dX12_make_66 (by decide) ?_
            refine lv_icmp_le (tgt := 76) hx hb dX12_make_69 (by decide) (fun c174 => ?_) (fun c174 => (by exfalso; have bd_Va1 := i_bd Va1; (try simp only [i_lt, i_le, i_eq, kc_0, kc_60, kc_4000] at c160 c163 c174); omega))
            refine lv_iconst (v := 0) hx hb dX12_make_76 (by decide) ?_
            refine va_put (D := (dC, dI)) (ci := 15) (v := .int 0) (ty := .int) (C := RX12) (T := TX12) (N := 150) hx hb hts (in_z_X12_make_X12) tyX12 tyX12_ok nmX12 hown hK hP hD hS 5 rfl rfl 0 (by decide) (hts (.fieldLink RX12 388 "HeapWorksModel" "thrown" "I") (by decide +kernel)) (fun _ h9 => h9) rfl (by decide +kernel) rfl rfl (by rw [o_s164.2.1]; decide) dX12_make_77 (fun H locs hP hD hS => ?_)
            have hP : va_P (dC, dI) vwCl [(Ad1, .inl (Ka0, 400, .inl Fa0)), (Ad2, .inl (Ka1, 400, .inl Fa1)), (Ad3, .inl (Ka2, 400, .inl Fa2)), (Ad4, .inl (Ka3, 400, .inl Fa3)), (Ad5, .inl (Ka4, 38500, .inr (.inl Fa4))), (Ad0, .inr (15, (s164.set 0 (.int 0))))] H := hP
            have hD : va_D A [(Ad1, .inl (Ka0, 400, .inl Fa0)), (Ad2, .inl (Ka1, 400, .inl Fa1)), (Ad3, .inl (Ka2, 400, .inl Fa2)), (Ad4, .inl (Ka3, 400, .inl Fa3)), (Ad5, .inl (Ka4, 38500, .inr (.inl Fa4))), (Ad0, .inr (15, (s164.set 0 (.int 0))))] := hD
            have o_s175 := ow_set o_s164 0 (.int 0) (by decide) (l' := [(0, .int 0), (20, .int 0), (21, .ref Ad1), (22, .ref Ad2), (23, .ref Ad3), (24, .ref Ad4), (25, .ref Ad5), (26, .int 0), (27, .int 0), (28, .int 0)]) (w' := [0]) rfl rfl
            generalize (s164.set 0 (.int 0)) = s175 at hP hD o_s175
            refine lv_aload_n hx hb dX12_make_80 rfl (lv_at hl 0 rfl) ?_
            refine va_get (D := (dC, dI)) (ci := 15) (v := .int 0) (C := RX12) (T := TX12) (N := 150) hx hb hts (in_z_X12_make_X12) hown hK hP 5 rfl rfl 0 (by decide) (hts (.fieldLink RX12 388 "HeapWorksModel" "thrown" "I") (by decide +kernel)) (fun _ h9 => h9) (ow_at o_s175 0 rfl) dX12_make_81 ?_
            refine lv_if_le (tgt := 89) hx hb dX12_make_84 (by decide) (fun c176 => ?_) (fun c176 => absurd c176 (by decide))
            refine lv_aload_n hx hb dX12_make_89 rfl (lv_at hl 0 rfl) ?_
            refine lv_iload_n hx hb dX12_make_90 rfl (lv_at hl 1 rfl) ?_
            have hPc := hP.sub (ws' := [(Ad0, .inr (15, s175))]) [5] rfl
            have hDc := hD.sub (ws' := [(Ad0, .inr (15, s175))]) [5] (by decide) rfl
            have hKc := hK.sub (tys' := []) [] rfl
            have hFc := va_free (wc := [(Ad0, .inr (15, s175))]) hD hS hA [5] rfl
            refine va_calli (va_runV (As := [.int Va0]) (rest := []) ⟨hx, hb, hml, hown, hts⟩ (z_X12_isClass l dC dI H.size Ad0 s175 Va0 (fh_sub o_s175.2 [1] rfl) ) (cwV 1 hts g_z_X12_make_z_X12_isClass_416 rfl rfl rfl (by decide +kernel) ⟨Nat.le_of_ble_eq_true rfl, Nat.le_of_ble_eq_true rfl⟩) ⟨fun a U g mk q => by obtain ⟨q0, q1, qP, qK, qD⟩ := q; exact ⟨q0, q1, qP, va_K.moved (u := U) (U := U.calling g mk a) (Vm.Alike.refl U.vm) qK, qD⟩, va_recv hK hP (ci := 15) (q0 := 5) rfl rfl, fun U hU hW => ⟨rfl, by rw [hU], by rw [hU]; exact hPc, va_K.moved hW.alike hKc, hDc.weaken (fun _ _ _ _ => trivial)⟩⟩ rfl rfl hl.1 rfl (lv_room (Nat.le_of_ble_eq_true rfl)) dX12_make_91 ⟨Nat.le_of_ble_eq_true rfl, Nat.le_of_ble_eq_true rfl⟩) hS (fun q _ h => hFc q h) hFc (fun r177 u t H1 locs ht hvm hw hB hz1 hk1 hS => ?_)
            obtain ⟨hP1, hK1, hD1⟩ := hB
            rw [ht] at hP1
            try dsimp only at hw
            obtain ⟨hP, hD⟩ := va_join (wr := [(Ad1, .inl (Ka0, 400, .inl Fa0)), (Ad2, .inl (Ka1, 400, .inl Fa1)), (Ad3, .inl (Ka2, 400, .inl Fa2)), (Ad4, .inl (Ka3, 400, .inl Fa3)), (Ad5, .inl (Ka4, 38500, .inr (.inl Fa4)))]) (w1 := [(Ad0, .inr (15, s175))]) hP hD [5] [0, 1, 2, 3, 4] rfl rfl (by decide) (by decide) hk1 hFc hP1 hD1
            have hK := hK.sub (tys' := [(Ka0, .int), (Ka1, .int), (Ka2, .int), (Ka3, .boolean), (Ka4, .long)]) [0, 1, 2, 3, 4] rfl
            generalize H1 = H at hP hS ⊢
            have hP : va_P (dC, dI) vwCl [(Ad1, .inl (Ka0, 400, .inl Fa0)), (Ad2, .inl (Ka1, 400, .inl Fa1)), (Ad3, .inl (Ka2, 400, .inl Fa2)), (Ad4, .inl (Ka3, 400, .inl Fa3)), (Ad5, .inl (Ka4, 38500, .inr (.inl Fa4))), (Ad0, .inr (15, s175))] H := hP
            have hD : va_D A [(Ad1, .inl (Ka0, 400, .inl Fa0)), (Ad2, .inl (Ka1, 400, .inl Fa1)), (Ad3, .inl (Ka2, 400, .inl Fa2)), (Ad4, .inl (Ka3, 400, .inl Fa3)), (Ad5, .inl (Ka4, 38500, .inr (.inl Fa4))), (Ad0, .inr (15, s175))] := hD
            rcases hw with ⟨c178, er179⟩ | ⟨c180, c181, er182⟩
            · exact (by exfalso; (try simp only [i_lt, i_le, i_eq, kc_0, kc_20, kc_24] at c104 c105 c139 c140 c170 c171 c178); omega)
            · skip
              subst er182
              refine lv_if_eq (tgt := 121) hx hb dX12_make_94 (by decide) (fun c183 => ?_) (fun c183 => absurd c183 (by decide))
              refine lv_aload_n hx hb dX12_make_121 rfl (lv_at hl 0 rfl) ?_
              refine lv_iload_n hx hb dX12_make_122 rfl (lv_at hl 1 rfl) ?_
              refine lv_iload_n hx hb dX12_make_123 rfl (lv_at hl 2 rfl) ?_
              have hPc := hP.sub (ws' := [(Ad1, .inl (Ka0, 400, .inl Fa0)), (Ad2, .inl (Ka1, 400, .inl Fa1)), (Ad3, .inl (Ka2, 400, .inl Fa2)), (Ad4, .inl (Ka3, 400, .inl Fa3)), (Ad5, .inl (Ka4, 38500, .inr (.inl Fa4))), (Ad0, .inr (15, s175))]) [0, 1, 2, 3, 4, 5] rfl
              have hDc := hD.sub (ws' := [(Ad1, .inl (Ka0, 400, .inl Fa0)), (Ad2, .inl (Ka1, 400, .inl Fa1)), (Ad3, .inl (Ka2, 400, .inl Fa2)), (Ad4, .inl (Ka3, 400, .inl Fa3)), (Ad5, .inl (Ka4, 38500, .inr (.inl Fa4))), (Ad0, .inr (15, s175))]) [0, 1, 2, 3, 4, 5] (by decide) rfl
              have hKc := hK.sub (tys' := [(Ka0, .int), (Ka1, .int), (Ka2, .int), (Ka3, .boolean), (Ka4, .long)]) [0, 1, 2, 3, 4] rfl
              have hFc := va_free (wc := [(Ad1, .inl (Ka0, 400, .inl Fa0)), (Ad2, .inl (Ka1, 400, .inl Fa1)), (Ad3, .inl (Ka2, 400, .inl Fa2)), (Ad4, .inl (Ka3, 400, .inl Fa3)), (Ad5, .inl (Ka4, 38500, .inr (.inl Fa4))), (Ad0, .inr (15, s175))]) hD hS hA [0, 1, 2, 3, 4, 5] rfl
              refine va_calli (va_runV (As := [.int Va0, .int Va1]) (rest := []) ⟨hx, hb, hml, hown, hts⟩ (z_X12_add l dC dI H.size Ad1 Fa0 Ka0 Ad2 Fa1 Ka1 Ad3 Fa2 Ka2 Ad4 Fa3 Ka3 Ad5 Fa4 Ka4 Ad0 s175 Va0 Va1 (fh_sub o_s175.2 [1, 2, 3, 4, 5, 6, 7, 8, 9] rfl) hz_Fa2 hz_Fa4 (by (try simp only [i_lt, i_le, i_eq, kc_0, kc_20, kc_24] at c104 c105 c139 c140 c170 c171 c180 c181); omega) (by (try simp only [i_lt, i_le, i_eq, kc_0, kc_60, kc_4000] at c160 c163 c174); omega)) (cwV 2 hts g_z_X12_make_z_X12_add_467 rfl rfl rfl (by decide +kernel) ⟨Nat.le_of_ble_eq_true rfl, Nat.le_of_ble_eq_true rfl⟩) ⟨fun a U g mk q => by obtain ⟨q0, q1, qP, qK, qD⟩ := q; exact ⟨q0, q1, qP, va_K.moved (u := U) (U := U.calling g mk a) (Vm.Alike.refl U.vm) qK, qD⟩, va_recv hK hP (ci := 15) (q0 := 5) rfl rfl, fun U hU hW => ⟨rfl, by rw [hU], by rw [hU]; exact hPc, va_K.moved hW.alike hKc, hDc.weaken (fun _ _ _ _ => trivial)⟩⟩ rfl rfl hl.1 rfl (lv_room (Nat.le_of_ble_eq_true rfl)) dX12_make_124 ⟨Nat.le_of_ble_eq_true rfl, Nat.le_of_ble_eq_true rfl⟩) hS (fun q _ h => hFc q h) hFc (fun r184 u t H1 locs ht hvm hw hB hz1 hk1 hS => ?_)
              obtain ⟨f185, f186, f187, f188, f189, s190⟩ := u
              obtain ⟨hP1, hK1, hD1⟩ := hB
              rw [ht] at hP1
              try dsimp only at hw
              obtain ⟨hP, hD⟩ := va_join (wr := []) (w1 := [(Ad1, .inl (Ka0, 400, .inl f185)), (Ad2, .inl (Ka1, 400, .inl f186)), (Ad3, .inl (Ka2, 400, .inl f187)), (Ad4, .inl (Ka3, 400, .inl f188)), (Ad5, .inl (Ka4, 38500, .inr (.inl f189))), (Ad0, .inr (15, s190))]) hP hD [0, 1, 2, 3, 4, 5] [] rfl rfl (by decide) (by decide) hk1 hFc hP1 hD1
              have hK := hK.sub (tys' := [(Ka0, .int), (Ka1, .int), (Ka2, .int), (Ka3, .boolean), (Ka4, .long)]) [0, 1, 2, 3, 4] rfl
              generalize H1 = H at hP hS ⊢
              have hP : va_P (dC, dI) vwCl [(Ad1, .inl (Ka0, 400, .inl f185)), (Ad2, .inl (Ka1, 400, .inl f186)), (Ad3, .inl (Ka2, 400, .inl f187)), (Ad4, .inl (Ka3, 400, .inl f188)), (Ad5, .inl (Ka4, 38500, .inr (.inl f189))), (Ad0, .inr (15, s190))] H := hP
              have hD : va_D A [(Ad1, .inl (Ka0, 400, .inl f185)), (Ad2, .inl (Ka1, 400, .inl f186)), (Ad3, .inl (Ka2, 400, .inl f187)), (Ad4, .inl (Ka3, 400, .inl f188)), (Ad5, .inl (Ka4, 38500, .inr (.inl f189))), (Ad0, .inr (15, s190))] := hD
              obtain ⟨c191, c192, c193, c194, er195, o_s190, q196, q197, q198, q199, q200⟩ := hw
              subst er195
              have o_s190 := ow_on o_s175 o_s190 (l' := [(28, .int Va1), (27, .int Va1), (26, .int 1), (20, .int 0), (21, .ref Ad1), (22, .ref Ad2), (23, .ref Ad3), (24, .ref Ad4), (25, .ref Ad5), (0, .int 0), (20, .int 0), (21, .ref Ad1), (22, .ref Ad2), (23, .ref Ad3), (24, .ref Ad4), (25, .ref Ad5)]) (w' := [28, 27, 26, 0]) rfl rfl
              have hP9 := hP.sub (ws' := [(Ad0, .inr (15, s190)), (Ad1, .inl (Ka0, 400, .inl f185)), (Ad2, .inl (Ka1, 400, .inl f186)), (Ad3, .inl (Ka2, 400, .inl f187)), (Ad4, .inl (Ka3, 400, .inl f188)), (Ad5, .inl (Ka4, 38500, .inr (.inl f189)))]) [5, 0, 1, 2, 3, 4] rfl
              have hD9 := hD.sub (ws' := [(Ad0, .inr (15, s190)), (Ad1, .inl (Ka0, 400, .inl f185)), (Ad2, .inl (Ka1, 400, .inl f186)), (Ad3, .inl (Ka2, 400, .inl f187)), (Ad4, .inl (Ka3, 400, .inl f188)), (Ad5, .inl (Ka4, 38500, .inr (.inl f189)))]) [5, 0, 1, 2, 3, 4] (by decide) rfl
              have hK9 := hK.sub (tys' := [(Ka0, .int), (Ka1, .int), (Ka2, .int), (Ka3, .boolean), (Ka4, .long)]) [0, 1, 2, 3, 4] rfl
              exact W.iret (v := 0) hx hb hr (fun t ht hW => ⟨⟨0, (s190, f185, f186, f187, f188, f189), rfl, (Or.inr (Or.inr (Or.inr (Or.inl ⟨c104, c105, c139, c140, c160, c163, c170, c171, c174, c180, c181, c191, c192, c193, c194, rfl, o_s190, q196, q197, q198, q199, q200⟩)))), by rw [ht]; exact hP9, va_K.moved hW.alike hK9, hD9⟩, hS.F ht⟩) hS.2.2 dX12_make_127
        · skip
          refine lv_iconst (v := 1) hx hb dX12_make_27 (by decide) ?_
          refine lv_goto (tgt := 32) hx hb dX12_make_28 (by decide) ?_
          refine va_put (D := (dC, dI)) (ci := 15) (v := .int 1) (ty := .int) (C := RX12) (T := TX12) (N := 150) hx hb hts (in_z_X12_make_X12) tyX12 tyX12_ok nmX12 hown hK hP hD hS 5 rfl rfl 0 (by decide) (hts (.fieldLink RX12 388 "HeapWorksModel" "thrown" "I") (by decide +kernel)) (fun _ h9 => h9) rfl (by decide +kernel) rfl rfl (by rw [o_Fs0.2.1]; decide) dX12_make_32 (fun H locs hP hD hS => ?_)
          have hP : va_P (dC, dI) vwCl [(Ad1, .inl (Ka0, 400, .inl Fa0)), (Ad2, .inl (Ka1, 400, .inl Fa1)), (Ad3, .inl (Ka2, 400, .inl Fa2)), (Ad4, .inl (Ka3, 400, .inl Fa3)), (Ad5, .inl (Ka4, 38500, .inr (.inl Fa4))), (Ad0, .inr (15, (Fs0.set 0 (.int 1))))] H := hP
          have hD : va_D A [(Ad1, .inl (Ka0, 400, .inl Fa0)), (Ad2, .inl (Ka1, 400, .inl Fa1)), (Ad3, .inl (Ka2, 400, .inl Fa2)), (Ad4, .inl (Ka3, 400, .inl Fa3)), (Ad5, .inl (Ka4, 38500, .inr (.inl Fa4))), (Ad0, .inr (15, (Fs0.set 0 (.int 1))))] := hD
          have o_s201 := ow_set o_Fs0 0 (.int 1) (by decide) (l' := [(0, .int 1), (20, .int 0), (21, .ref Ad1), (22, .ref Ad2), (23, .ref Ad3), (24, .ref Ad4), (25, .ref Ad5), (26, .int 0), (27, .int 0), (28, .int 0)]) (w' := [0]) rfl rfl
          generalize (Fs0.set 0 (.int 1)) = s201 at hP hD o_s201
          refine lv_aload_n hx hb dX12_make_35 rfl (lv_at hl 0 rfl) ?_
          refine va_get (D := (dC, dI)) (ci := 15) (v := .int 1) (C := RX12) (T := TX12) (N := 150) hx hb hts (in_z_X12_make_X12) hown hK hP 5 rfl rfl 0 (by decide) (hts (.fieldLink RX12 388 "HeapWorksModel" "thrown" "I") (by decide +kernel)) (fun _ h9 => h9) (ow_at o_s201 0 rfl) dX12_make_36 ?_
          refine lv_if_le (tgt := 44) hx hb dX12_make_39 (by decide) (fun c202 => absurd c202 (by decide)) (fun c202 => ?_)
          refine lv_iconst (v := 0) hx hb dX12_make_42 (by decide) ?_
          have hP9 := hP.sub (ws' := [(Ad0, .inr (15, s201)), (Ad1, .inl (Ka0, 400, .inl Fa0)), (Ad2, .inl (Ka1, 400, .inl Fa1)), (Ad3, .inl (Ka2, 400, .inl Fa2)), (Ad4, .inl (Ka3, 400, .inl Fa3)), (Ad5, .inl (Ka4, 38500, .inr (.inl Fa4)))]) [5, 0, 1, 2, 3, 4] rfl
          have hD9 := hD.sub (ws' := [(Ad0, .inr (15, s201)), (Ad1, .inl (Ka0, 400, .inl Fa0)), (Ad2, .inl (Ka1, 400, .inl Fa1)), (Ad3, .inl (Ka2, 400, .inl Fa2)), (Ad4, .inl (Ka3, 400, .inl Fa3)), (Ad5, .inl (Ka4, 38500, .inr (.inl Fa4)))]) [5, 0, 1, 2, 3, 4] (by decide) rfl
          have hK9 := hK.sub (tys' := [(Ka0, .int), (Ka1, .int), (Ka2, .int), (Ka3, .boolean), (Ka4, .long)]) [0, 1, 2, 3, 4] rfl
          exact W.iret (v := 0) hx hb hr (fun t ht hW => ⟨⟨0, (s201, Fa0, Fa1, Fa2, Fa3, Fa4), rfl, (Or.inr (Or.inr (Or.inr (Or.inr (Or.inl ⟨c104, c105, c139, c140, c160, c163, rfl, o_s201, hz_Fa2, hz_Fa4⟩))))), by rw [ht]; exact hP9, va_K.moved hW.alike hK9, hD9⟩, hS.F ht⟩) hS.2.2 dX12_make_43
    · skip
      subst er145
      refine lv_if_eq (tgt := 27) hx hb dX12_make_14 (by decide) (fun c203 => absurd c203 (by decide)) (fun c203 => ?_)
      refine lv_iload_n hx hb dX12_make_17 rfl (lv_at hl 2 rfl) ?_
      refine lv_if_lt (tgt := 27) hx hb dX12_make_18 (by decide) (fun c204 => ?_) (fun c204 => ?_)
      · skip
        refine lv_iconst (v := 1) hx hb dX12_make_27 (by decide) ?_
        refine lv_goto (tgt := 32) hx hb dX12_make_28 (by decide) ?_
        refine va_put (D := (dC, dI)) (ci := 15) (v := .int 1) (ty := .int) (C := RX12) (T := TX12) (N := 150) hx hb hts (in_z_X12_make_X12) tyX12 tyX12_ok nmX12 hown hK hP hD hS 5 rfl rfl 0 (by decide) (hts (.fieldLink RX12 388 "HeapWorksModel" "thrown" "I") (by decide +kernel)) (fun _ h9 => h9) rfl (by decide +kernel) rfl rfl (by rw [o_Fs0.2.1]; decide) dX12_make_32 (fun H locs hP hD hS => ?_)
        have hP : va_P (dC, dI) vwCl [(Ad1, .inl (Ka0, 400, .inl Fa0)), (Ad2, .inl (Ka1, 400, .inl Fa1)), (Ad3, .inl (Ka2, 400, .inl Fa2)), (Ad4, .inl (Ka3, 400, .inl Fa3)), (Ad5, .inl (Ka4, 38500, .inr (.inl Fa4))), (Ad0, .inr (15, (Fs0.set 0 (.int 1))))] H := hP
        have hD : va_D A [(Ad1, .inl (Ka0, 400, .inl Fa0)), (Ad2, .inl (Ka1, 400, .inl Fa1)), (Ad3, .inl (Ka2, 400, .inl Fa2)), (Ad4, .inl (Ka3, 400, .inl Fa3)), (Ad5, .inl (Ka4, 38500, .inr (.inl Fa4))), (Ad0, .inr (15, (Fs0.set 0 (.int 1))))] := hD
        have o_s205 := ow_set o_Fs0 0 (.int 1) (by decide) (l' := [(0, .int 1), (20, .int 0), (21, .ref Ad1), (22, .ref Ad2), (23, .ref Ad3), (24, .ref Ad4), (25, .ref Ad5), (26, .int 0), (27, .int 0), (28, .int 0)]) (w' := [0]) rfl rfl
        generalize (Fs0.set 0 (.int 1)) = s205 at hP hD o_s205
        refine lv_aload_n hx hb dX12_make_35 rfl (lv_at hl 0 rfl) ?_
        refine va_get (D := (dC, dI)) (ci := 15) (v := .int 1) (C := RX12) (T := TX12) (N := 150) hx hb hts (in_z_X12_make_X12) hown hK hP 5 rfl rfl 0 (by decide) (hts (.fieldLink RX12 388 "HeapWorksModel" "thrown" "I") (by decide +kernel)) (fun _ h9 => h9) (ow_at o_s205 0 rfl) dX12_make_36 ?_
        refine lv_if_le (tgt := 44) hx hb dX12_make_39 (by decide) (fun c206 => absurd c206 (by decide)) (fun c206 => ?_)
        refine lv_iconst (v := 0) hx hb dX12_make_42 (by decide) ?_
        have hP9 := hP.sub (ws' := [(Ad0, .inr (15, s205)), (Ad1, .inl (Ka0, 400, .inl Fa0)), (Ad2, .inl (Ka1, 400, .inl Fa1)), (Ad3, .inl (Ka2, 400, .inl Fa2)), (Ad4, .inl (Ka3, 400, .inl Fa3)), (Ad5, .inl (Ka4, 38500, .inr (.inl Fa4)))]) [5, 0, 1, 2, 3, 4] rfl
        have hD9 := hD.sub (ws' := [(Ad0, .inr (15, s205)), (Ad1, .inl (Ka0, 400, .inl Fa0)), (Ad2, .inl (Ka1, 400, .inl Fa1)), (Ad3, .inl (Ka2, 400, .inl Fa2)), (Ad4, .inl (Ka3, 400, .inl Fa3)), (Ad5, .inl (Ka4, 38500, .inr (.inl Fa4)))]) [5, 0, 1, 2, 3, 4] (by decide) rfl
        have hK9 := hK.sub (tys' := [(Ka0, .int), (Ka1, .int), (Ka2, .int), (Ka3, .boolean), (Ka4, .long)]) [0, 1, 2, 3, 4] rfl
        exact W.iret (v := 0) hx hb hr (fun t ht hW => ⟨⟨0, (s205, Fa0, Fa1, Fa2, Fa3, Fa4), rfl, (Or.inr (Or.inr (Or.inr (Or.inr (Or.inr (Or.inl ⟨c104, c105, c142, c143, c144, c204, rfl, o_s205, hz_Fa2, hz_Fa4⟩)))))), by rw [ht]; exact hP9, va_K.moved hW.alike hK9, hD9⟩, hS.F ht⟩) hS.2.2 dX12_make_43
      · skip
        refine lv_iload_n hx hb dX12_make_21 rfl (lv_at hl 2 rfl) ?_
        refine lv_bipush (v := 60) hx hb dX12_make_22 (by decide) ?_
        refine lv_icmp_le (tgt := 31) hx hb dX12_make_24 (by decide) (fun c207 => ?_) (fun c207 => ?_)
        · skip
          refine lv_iconst (v := 0) hx hb dX12_make_31 (by decide) ?_
          refine va_put (D := (dC, dI)) (ci := 15) (v := .int 0) (ty := .int) (C := RX12) (T := TX12) (N := 150) hx hb hts (in_z_X12_make_X12) tyX12 tyX12_ok nmX12 hown hK hP hD hS 5 rfl rfl 0 (by decide) (hts (.fieldLink RX12 388 "HeapWorksModel" "thrown" "I") (by decide +kernel)) (fun _ h9 => h9) rfl (by decide +kernel) rfl rfl (by rw [o_Fs0.2.1]; decide) dX12_make_32 (fun H locs hP hD hS => ?_)
          have hP : va_P (dC, dI) vwCl [(Ad1, .inl (Ka0, 400, .inl Fa0)), (Ad2, .inl (Ka1, 400, .inl Fa1)), (Ad3, .inl (Ka2, 400, .inl Fa2)), (Ad4, .inl (Ka3, 400, .inl Fa3)), (Ad5, .inl (Ka4, 38500, .inr (.inl Fa4))), (Ad0, .inr (15, (Fs0.set 0 (.int 0))))] H := hP
          have hD : va_D A [(Ad1, .inl (Ka0, 400, .inl Fa0)), (Ad2, .inl (Ka1, 400, .inl Fa1)), (Ad3, .inl (Ka2, 400, .inl Fa2)), (Ad4, .inl (Ka3, 400, .inl Fa3)), (Ad5, .inl (Ka4, 38500, .inr (.inl Fa4))), (Ad0, .inr (15, (Fs0.set 0 (.int 0))))] := hD
          have o_s208 := ow_set o_Fs0 0 (.int 0) (by decide) (l' := [(0, .int 0), (20, .int 0), (21, .ref Ad1), (22, .ref Ad2), (23, .ref Ad3), (24, .ref Ad4), (25, .ref Ad5), (26, .int 0), (27, .int 0), (28, .int 0)]) (w' := [0]) rfl rfl
          generalize (Fs0.set 0 (.int 0)) = s208 at hP hD o_s208
          refine lv_aload_n hx hb dX12_make_35 rfl (lv_at hl 0 rfl) ?_
          refine va_get (D := (dC, dI)) (ci := 15) (v := .int 0) (C := RX12) (T := TX12) (N := 150) hx hb hts (in_z_X12_make_X12) hown hK hP 5 rfl rfl 0 (by decide) (hts (.fieldLink RX12 388 "HeapWorksModel" "thrown" "I") (by decide +kernel)) (fun _ h9 => h9) (ow_at o_s208 0 rfl) dX12_make_36 ?_
          refine lv_if_le (tgt := 44) hx hb dX12_make_39 (by decide) (fun c209 => ?_) (fun c209 => absurd c209 (by decide))
          refine lv_aload_n hx hb dX12_make_44 rfl (lv_at hl 0 rfl) ?_
          refine lv_aload_n hx hb dX12_make_45 rfl (lv_at hl 0 rfl) ?_
          refine va_get (D := (dC, dI)) (ci := 15) (v := .int 0) (C := RX12) (T := TX12) (N := 150) hx hb hts (in_z_X12_make_X12) hown hK hP 5 rfl rfl 26 (by decide) (hts (.fieldLink RX12 435 "HeapWorksModel" "objects" "I") (by decide +kernel)) (fun _ h9 => h9) (ow_at o_s208 7 rfl) dX12_make_46 ?_
          refine lv_sipush (v := 400) hx hb dX12_make_49 (by decide) ?_
          refine lv_icmp_eq (tgt := 72) hx hb dX12_make_52 (by decide) (fun c210 => absurd c210 (by decide)) (fun c210 => ?_)
          refine lv_aload_n hx hb dX12_make_55 rfl (lv_at hl 0 rfl) ?_
          refine va_get (D := (dC, dI)) (ci := 15) (v := .int 0) (C := RX12) (T := TX12) (N := 150) hx hb hts (in_z_X12_make_X12) hown hK hP 5 rfl rfl 28 (by decide) (hts (.fieldLink RX12 461 "HeapWorksModel" "slotsThere" "I") (by decide +kernel)) (fun _ h9 => h9) (ow_at o_s208 9 rfl) dX12_make_56 ?_
          refine lv_aload_n hx hb dX12_make_59 rfl (lv_at hl 0 rfl) ?_
          refine lv_iload_n hx hb dX12_make_60 rfl (lv_at hl 1 rfl) ?_
          refine lv_iload_n hx hb dX12_make_61 rfl (lv_at hl 2 rfl) ?_
          have hPc := hP.sub (ws' := [(Ad0, .inr (15, s208))]) [5] rfl
          have hDc := hD.sub (ws' := [(Ad0, .inr (15, s208))]) [5] (by decide) rfl
          have hKc := hK.sub (tys' := []) [] rfl
          have hFc := va_free (wc := [(Ad0, .inr (15, s208))]) hD hS hA [5] rfl
          refine va_calli (va_runV (As := [.int Va0, .int Va1]) (rest := [.int 0, .ref Ad0]) ⟨hx, hb, hml, hown, hts⟩ (z_X12_slotCount l dC dI H.size Ad0 s208 Va0 Va1 (fh_sub o_s208.2 [1] rfl) ) (cwV 2 hts g_z_X12_make_z_X12_slotCount_455 rfl rfl rfl (by decide +kernel) ⟨Nat.le_of_ble_eq_true rfl, Nat.le_of_ble_eq_true rfl⟩) ⟨fun a U g mk q => by obtain ⟨q0, q1, qP, qK, qD⟩ := q; exact ⟨q0, q1, qP, va_K.moved (u := U) (U := U.calling g mk a) (Vm.Alike.refl U.vm) qK, qD⟩, va_recv hK hP (ci := 15) (q0 := 5) rfl rfl, fun U hU hW => ⟨rfl, by rw [hU], by rw [hU]; exact hPc, va_K.moved hW.alike hKc, hDc.weaken (fun _ _ _ _ => trivial)⟩⟩ rfl rfl hl.1 rfl (lv_room (Nat.le_of_ble_eq_true rfl)) dX12_make_62 ⟨Nat.le_of_ble_eq_true rfl, Nat.le_of_ble_eq_true rfl⟩) hS (fun q _ h => hFc q h) hFc (fun r211 u t H1 locs ht hvm hw hB hz1 hk1 hS => ?_)
          obtain ⟨hP1, hK1, hD1⟩ := hB
          rw [ht] at hP1
          try dsimp only at hw
          obtain ⟨hP, hD⟩ := va_join (wr := [(Ad1, .inl (Ka0, 400, .inl Fa0)), (Ad2, .inl (Ka1, 400, .inl Fa1)), (Ad3, .inl (Ka2, 400, .inl Fa2)), (Ad4, .inl (Ka3, 400, .inl Fa3)), (Ad5, .inl (Ka4, 38500, .inr (.inl Fa4)))]) (w1 := [(Ad0, .inr (15, s208))]) hP hD [5] [0, 1, 2, 3, 4] rfl rfl (by decide) (by decide) hk1 hFc hP1 hD1
          have hK := hK.sub (tys' := [(Ka0, .int), (Ka1, .int), (Ka2, .int), (Ka3, .boolean), (Ka4, .long)]) [0, 1, 2, 3, 4] rfl
          generalize H1 = H at hP hS ⊢
          have hP : va_P (dC, dI) vwCl [(Ad1, .inl (Ka0, 400, .inl Fa0)), (Ad2, .inl (Ka1, 400, .inl Fa1)), (Ad3, .inl (Ka2, 400, .inl Fa2)), (Ad4, .inl (Ka3, 400, .inl Fa3)), (Ad5, .inl (Ka4, 38500, .inr (.inl Fa4))), (Ad0, .inr (15, s208))] H := hP
          have hD : va_D A [(Ad1, .inl (Ka0, 400, .inl Fa0)), (Ad2, .inl (Ka1, 400, .inl Fa1)), (Ad3, .inl (Ka2, 400, .inl Fa2)), (Ad4, .inl (Ka3, 400, .inl Fa3)), (Ad5, .inl (Ka4, 38500, .inr (.inl Fa4))), (Ad0, .inr (15, s208))] := hD
          rcases hw with ⟨c212, er213⟩ | ⟨c214, c215, er216⟩
          · exact (by exfalso; (try simp only [i_lt, i_le, i_eq, kc_0, kc_20, kc_24, kc_29] at c104 c105 c142 c143 c144 c212); omega)
          · skip
            have qer216 := er216.symm
            subst qer216
            refine lv_iadd hx hb dX12_make_65  ?_
            refine lv_topi (fun x217 ex217 => ?_)
            obtain rfl : Va1 = x217 := (ex217.trans (Int32.zero_add _)).symm
            refine lv_sipush (v := 4000) hx hb dX12_make_66 (by decide) ?_
            refine lv_icmp_le (tgt := 76) hx hb dX12_make_69 (by decide) (fun c218 => ?_) (fun c218 => (by exfalso; have bd_Va1 := i_bd Va1; (try simp only [i_lt, i_le, i_eq, kc_0, kc_60, kc_4000] at c204 c207 c218); omega))
            refine lv_iconst (v := 0) hx hb dX12_make_76 (by decide) ?_
            refine va_put (D := (dC, dI)) (ci := 15) (v := .int 0) (ty := .int) (C := RX12) (T := TX12) (N := 150) hx hb hts (in_z_X12_make_X12) tyX12 tyX12_ok nmX12 hown hK hP hD hS 5 rfl rfl 0 (by decide) (hts (.fieldLink RX12 388 "HeapWorksModel" "thrown" "I") (by decide +kernel)) (fun _ h9 => h9) rfl (by decide +kernel) rfl rfl (by rw [o_s208.2.1]; decide) dX12_make_77 (fun H locs hP hD hS => ?_)
            have hP : va_P (dC, dI) vwCl [(Ad1, .inl (Ka0, 400, .inl Fa0)), (Ad2, .inl (Ka1, 400, .inl Fa1)), (Ad3, .inl (Ka2, 400, .inl Fa2)), (Ad4, .inl (Ka3, 400, .inl Fa3)), (Ad5, .inl (Ka4, 38500, .inr (.inl Fa4))), (Ad0, .inr (15, (s208.set 0 (.int 0))))] H := hP
            have hD : va_D A [(Ad1, .inl (Ka0, 400, .inl Fa0)), (Ad2, .inl (Ka1, 400, .inl Fa1)), (Ad3, .inl (Ka2, 400, .inl Fa2)), (Ad4, .inl (Ka3, 400, .inl Fa3)), (Ad5, .inl (Ka4, 38500, .inr (.inl Fa4))), (Ad0, .inr (15, (s208.set 0 (.int 0))))] := hD
            have o_s219 := ow_set o_s208 0 (.int 0) (by decide) (l' := [(0, .int 0), (20, .int 0), (21, .ref Ad1), (22, .ref Ad2), (23, .ref Ad3), (24, .ref Ad4), (25, .ref Ad5), (26, .int 0), (27, .int 0), (28, .int 0)]) (w' := [0]) rfl rfl
            generalize (s208.set 0 (.int 0)) = s219 at hP hD o_s219
            refine lv_aload_n hx hb dX12_make_80 rfl (lv_at hl 0 rfl) ?_
            refine va_get (D := (dC, dI)) (ci := 15) (v := .int 0) (C := RX12) (T := TX12) (N := 150) hx hb hts (in_z_X12_make_X12) hown hK hP 5 rfl rfl 0 (by decide) (hts (.fieldLink RX12 388 "HeapWorksModel" "thrown" "I") (by decide +kernel)) (fun _ h9 => h9) (ow_at o_s219 0 rfl) dX12_make_81 ?_
            refine lv_if_le (tgt := 89) hx hb dX12_make_84 (by decide) (fun c220 => ?_) (fun c220 => absurd c220 (by decide))
            refine lv_aload_n hx hb dX12_make_89 rfl (lv_at hl 0 rfl) ?_
            refine lv_iload_n hx hb dX12_make_90 rfl (lv_at hl 1 rfl) ?_
            have hPc := hP.sub (ws' := [(Ad0, .inr (15, s219))]) [5] rfl
            have hDc := hD.sub (ws' := [(Ad0, .inr (15, s219))]) [5] (by decide) rfl
            have hKc := hK.sub (tys' := []) [] rfl
            have hFc := va_free (wc := [(Ad0, .inr (15, s219))]) hD hS hA [5] rfl
            refine va_calli (va_runV (As := [.int Va0]) (rest := []) ⟨hx, hb, hml, hown, hts⟩ (z_X12_isClass l dC dI H.size Ad0 s219 Va0 (fh_sub o_s219.2 [1] rfl) ) (cwV 1 hts g_z_X12_make_z_X12_isClass_416 rfl rfl rfl (by decide +kernel) ⟨Nat.le_of_ble_eq_true rfl, Nat.le_of_ble_eq_true rfl⟩) ⟨fun a U g mk q => by obtain ⟨q0, q1, qP, qK, qD⟩ := q; exact ⟨q0, q1, qP, va_K.moved (u := U) (U := U.calling g mk a) (Vm.Alike.refl U.vm) qK, qD⟩, va_recv hK hP (ci := 15) (q0 := 5) rfl rfl, fun U hU hW => ⟨rfl, by rw [hU], by rw [hU]; exact hPc, va_K.moved hW.alike hKc, hDc.weaken (fun _ _ _ _ => trivial)⟩⟩ rfl rfl hl.1 rfl (lv_room (Nat.le_of_ble_eq_true rfl)) dX12_make_91 ⟨Nat.le_of_ble_eq_true rfl, Nat.le_of_ble_eq_true rfl⟩) hS (fun q _ h => hFc q h) hFc (fun r221 u t H1 locs ht hvm hw hB hz1 hk1 hS => ?_)
            obtain ⟨hP1, hK1, hD1⟩ := hB
            rw [ht] at hP1
            try dsimp only at hw
            obtain ⟨hP, hD⟩ := va_join (wr := [(Ad1, .inl (Ka0, 400, .inl Fa0)), (Ad2, .inl (Ka1, 400, .inl Fa1)), (Ad3, .inl (Ka2, 400, .inl Fa2)), (Ad4, .inl (Ka3, 400, .inl Fa3)), (Ad5, .inl (Ka4, 38500, .inr (.inl Fa4)))]) (w1 := [(Ad0, .inr (15, s219))]) hP hD [5] [0, 1, 2, 3, 4] rfl rfl (by decide) (by decide) hk1 hFc hP1 hD1
            have hK := hK.sub (tys' := [(Ka0, .int), (Ka1, .int), (Ka2, .int), (Ka3, .boolean), (Ka4, .long)]) [0, 1, 2, 3, 4] rfl
            generalize H1 = H at hP hS ⊢
            have hP : va_P (dC, dI) vwCl [(Ad1, .inl (Ka0, 400, .inl Fa0)), (Ad2, .inl (Ka1, 400, .inl Fa1)), (Ad3, .inl (Ka2, 400, .inl Fa2)), (Ad4, .inl (Ka3, 400, .inl Fa3)), (Ad5, .inl (Ka4, 38500, .inr (.inl Fa4))), (Ad0, .inr (15, s219))] H := hP
            have hD : va_D A [(Ad1, .inl (Ka0, 400, .inl Fa0)), (Ad2, .inl (Ka1, 400, .inl Fa1)), (Ad3, .inl (Ka2, 400, .inl Fa2)), (Ad4, .inl (Ka3, 400, .inl Fa3)), (Ad5, .inl (Ka4, 38500, .inr (.inl Fa4))), (Ad0, .inr (15, s219))] := hD
            rcases hw with ⟨c222, er223⟩ | ⟨c224, c225, er226⟩
            · exact (by exfalso; (try simp only [i_lt, i_le, i_eq, kc_0, kc_20, kc_24, kc_29] at c104 c105 c142 c143 c144 c214 c215 c222); omega)
            · skip
              subst er226
              refine lv_if_eq (tgt := 121) hx hb dX12_make_94 (by decide) (fun c227 => ?_) (fun c227 => absurd c227 (by decide))
              refine lv_aload_n hx hb dX12_make_121 rfl (lv_at hl 0 rfl) ?_
              refine lv_iload_n hx hb dX12_make_122 rfl (lv_at hl 1 rfl) ?_
              refine lv_iload_n hx hb dX12_make_123 rfl (lv_at hl 2 rfl) ?_
              have hPc := hP.sub (ws' := [(Ad1, .inl (Ka0, 400, .inl Fa0)), (Ad2, .inl (Ka1, 400, .inl Fa1)), (Ad3, .inl (Ka2, 400, .inl Fa2)), (Ad4, .inl (Ka3, 400, .inl Fa3)), (Ad5, .inl (Ka4, 38500, .inr (.inl Fa4))), (Ad0, .inr (15, s219))]) [0, 1, 2, 3, 4, 5] rfl
              have hDc := hD.sub (ws' := [(Ad1, .inl (Ka0, 400, .inl Fa0)), (Ad2, .inl (Ka1, 400, .inl Fa1)), (Ad3, .inl (Ka2, 400, .inl Fa2)), (Ad4, .inl (Ka3, 400, .inl Fa3)), (Ad5, .inl (Ka4, 38500, .inr (.inl Fa4))), (Ad0, .inr (15, s219))]) [0, 1, 2, 3, 4, 5] (by decide) rfl
              have hKc := hK.sub (tys' := [(Ka0, .int), (Ka1, .int), (Ka2, .int), (Ka3, .boolean), (Ka4, .long)]) [0, 1, 2, 3, 4] rfl
              have hFc := va_free (wc := [(Ad1, .inl (Ka0, 400, .inl Fa0)), (Ad2, .inl (Ka1, 400, .inl Fa1)), (Ad3, .inl (Ka2, 400, .inl Fa2)), (Ad4, .inl (Ka3, 400, .inl Fa3)), (Ad5, .inl (Ka4, 38500, .inr (.inl Fa4))), (Ad0, .inr (15, s219))]) hD hS hA [0, 1, 2, 3, 4, 5] rfl
              refine va_calli (va_runV (As := [.int Va0, .int Va1]) (rest := []) ⟨hx, hb, hml, hown, hts⟩ (z_X12_add_1 l dC dI H.size Ad1 Fa0 Ka0 Ad2 Fa1 Ka1 Ad3 Fa2 Ka2 Ad4 Fa3 Ka3 Ad5 Fa4 Ka4 Ad0 s219 Va0 Va1 (fh_sub o_s219.2 [1, 2, 3, 4, 5, 6, 7, 8, 9] rfl) hz_Fa2 (by (try simp only [i_lt, i_le, i_eq, kc_0, kc_20, kc_24, kc_29] at c104 c105 c142 c143 c144 c214 c215 c224 c225); omega) (by (try simp only [i_lt, i_le, i_eq, kc_0, kc_60, kc_4000] at c204 c207 c218); omega)) (cwV 2 hts g_z_X12_make_z_X12_add_1_467 rfl rfl rfl (by decide +kernel) ⟨Nat.le_of_ble_eq_true rfl, Nat.le_of_ble_eq_true rfl⟩) ⟨fun a U g mk q => by obtain ⟨q0, q1, qP, qK, qD⟩ := q; exact ⟨q0, q1, qP, va_K.moved (u := U) (U := U.calling g mk a) (Vm.Alike.refl U.vm) qK, qD⟩, va_recv hK hP (ci := 15) (q0 := 5) rfl rfl, fun U hU hW => ⟨rfl, by rw [hU], by rw [hU]; exact hPc, va_K.moved hW.alike hKc, hDc.weaken (fun _ _ _ _ => trivial)⟩⟩ rfl rfl hl.1 rfl (lv_room (Nat.le_of_ble_eq_true rfl)) dX12_make_124 ⟨Nat.le_of_ble_eq_true rfl, Nat.le_of_ble_eq_true rfl⟩) hS (fun q _ h => hFc q h) hFc (fun r228 u t H1 locs ht hvm hw hB hz1 hk1 hS => ?_)
              obtain ⟨f229, f230, f231, f232, f233, s234⟩ := u
              obtain ⟨hP1, hK1, hD1⟩ := hB
              rw [ht] at hP1
              try dsimp only at hw
              obtain ⟨hP, hD⟩ := va_join (wr := []) (w1 := [(Ad1, .inl (Ka0, 400, .inl f229)), (Ad2, .inl (Ka1, 400, .inl f230)), (Ad3, .inl (Ka2, 400, .inl f231)), (Ad4, .inl (Ka3, 400, .inl f232)), (Ad5, .inl (Ka4, 38500, .inr (.inl f233))), (Ad0, .inr (15, s234))]) hP hD [0, 1, 2, 3, 4, 5] [] rfl rfl (by decide) (by decide) hk1 hFc hP1 hD1
              have hK := hK.sub (tys' := [(Ka0, .int), (Ka1, .int), (Ka2, .int), (Ka3, .boolean), (Ka4, .long)]) [0, 1, 2, 3, 4] rfl
              generalize H1 = H at hP hS ⊢
              have hP : va_P (dC, dI) vwCl [(Ad1, .inl (Ka0, 400, .inl f229)), (Ad2, .inl (Ka1, 400, .inl f230)), (Ad3, .inl (Ka2, 400, .inl f231)), (Ad4, .inl (Ka3, 400, .inl f232)), (Ad5, .inl (Ka4, 38500, .inr (.inl f233))), (Ad0, .inr (15, s234))] H := hP
              have hD : va_D A [(Ad1, .inl (Ka0, 400, .inl f229)), (Ad2, .inl (Ka1, 400, .inl f230)), (Ad3, .inl (Ka2, 400, .inl f231)), (Ad4, .inl (Ka3, 400, .inl f232)), (Ad5, .inl (Ka4, 38500, .inr (.inl f233))), (Ad0, .inr (15, s234))] := hD
              obtain ⟨c235, c236, c237, c238, er239, o_s234, q240, q241, q242, q243, q244⟩ := hw
              subst er239
              have o_s234 := ow_on o_s219 o_s234 (l' := [(28, .int Va1), (27, .int Va1), (26, .int 1), (20, .int 0), (21, .ref Ad1), (22, .ref Ad2), (23, .ref Ad3), (24, .ref Ad4), (25, .ref Ad5), (0, .int 0), (20, .int 0), (21, .ref Ad1), (22, .ref Ad2), (23, .ref Ad3), (24, .ref Ad4), (25, .ref Ad5)]) (w' := [28, 27, 26, 0]) rfl rfl
              have hP9 := hP.sub (ws' := [(Ad0, .inr (15, s234)), (Ad1, .inl (Ka0, 400, .inl f229)), (Ad2, .inl (Ka1, 400, .inl f230)), (Ad3, .inl (Ka2, 400, .inl f231)), (Ad4, .inl (Ka3, 400, .inl f232)), (Ad5, .inl (Ka4, 38500, .inr (.inl f233)))]) [5, 0, 1, 2, 3, 4] rfl
              have hD9 := hD.sub (ws' := [(Ad0, .inr (15, s234)), (Ad1, .inl (Ka0, 400, .inl f229)), (Ad2, .inl (Ka1, 400, .inl f230)), (Ad3, .inl (Ka2, 400, .inl f231)), (Ad4, .inl (Ka3, 400, .inl f232)), (Ad5, .inl (Ka4, 38500, .inr (.inl f233)))]) [5, 0, 1, 2, 3, 4] (by decide) rfl
              have hK9 := hK.sub (tys' := [(Ka0, .int), (Ka1, .int), (Ka2, .int), (Ka3, .boolean), (Ka4, .long)]) [0, 1, 2, 3, 4] rfl
              exact W.iret (v := 0) hx hb hr (fun t ht hW => ⟨⟨0, (s234, f229, f230, f231, f232, f233), rfl, (Or.inr (Or.inr (Or.inr (Or.inr (Or.inr (Or.inr (Or.inl ⟨c104, c105, c142, c143, c144, c204, c207, c214, c215, c218, c224, c225, c235, c236, c237, c238, rfl, o_s234, q240, q241, q242, q243, q244⟩))))))), by rw [ht]; exact hP9, va_K.moved hW.alike hK9, hD9⟩, hS.F ht⟩) hS.2.2 dX12_make_127
        · skip
          refine lv_iconst (v := 1) hx hb dX12_make_27 (by decide) ?_
          refine lv_goto (tgt := 32) hx hb dX12_make_28 (by decide) ?_
          refine va_put (D := (dC, dI)) (ci := 15) (v := .int 1) (ty := .int) (C := RX12) (T := TX12) (N := 150) hx hb hts (in_z_X12_make_X12) tyX12 tyX12_ok nmX12 hown hK hP hD hS 5 rfl rfl 0 (by decide) (hts (.fieldLink RX12 388 "HeapWorksModel" "thrown" "I") (by decide +kernel)) (fun _ h9 => h9) rfl (by decide +kernel) rfl rfl (by rw [o_Fs0.2.1]; decide) dX12_make_32 (fun H locs hP hD hS => ?_)
          have hP : va_P (dC, dI) vwCl [(Ad1, .inl (Ka0, 400, .inl Fa0)), (Ad2, .inl (Ka1, 400, .inl Fa1)), (Ad3, .inl (Ka2, 400, .inl Fa2)), (Ad4, .inl (Ka3, 400, .inl Fa3)), (Ad5, .inl (Ka4, 38500, .inr (.inl Fa4))), (Ad0, .inr (15, (Fs0.set 0 (.int 1))))] H := hP
          have hD : va_D A [(Ad1, .inl (Ka0, 400, .inl Fa0)), (Ad2, .inl (Ka1, 400, .inl Fa1)), (Ad3, .inl (Ka2, 400, .inl Fa2)), (Ad4, .inl (Ka3, 400, .inl Fa3)), (Ad5, .inl (Ka4, 38500, .inr (.inl Fa4))), (Ad0, .inr (15, (Fs0.set 0 (.int 1))))] := hD
          have o_s245 := ow_set o_Fs0 0 (.int 1) (by decide) (l' := [(0, .int 1), (20, .int 0), (21, .ref Ad1), (22, .ref Ad2), (23, .ref Ad3), (24, .ref Ad4), (25, .ref Ad5), (26, .int 0), (27, .int 0), (28, .int 0)]) (w' := [0]) rfl rfl
          generalize (Fs0.set 0 (.int 1)) = s245 at hP hD o_s245
          refine lv_aload_n hx hb dX12_make_35 rfl (lv_at hl 0 rfl) ?_
          refine va_get (D := (dC, dI)) (ci := 15) (v := .int 1) (C := RX12) (T := TX12) (N := 150) hx hb hts (in_z_X12_make_X12) hown hK hP 5 rfl rfl 0 (by decide) (hts (.fieldLink RX12 388 "HeapWorksModel" "thrown" "I") (by decide +kernel)) (fun _ h9 => h9) (ow_at o_s245 0 rfl) dX12_make_36 ?_
          refine lv_if_le (tgt := 44) hx hb dX12_make_39 (by decide) (fun c246 => absurd c246 (by decide)) (fun c246 => ?_)
          refine lv_iconst (v := 0) hx hb dX12_make_42 (by decide) ?_
          have hP9 := hP.sub (ws' := [(Ad0, .inr (15, s245)), (Ad1, .inl (Ka0, 400, .inl Fa0)), (Ad2, .inl (Ka1, 400, .inl Fa1)), (Ad3, .inl (Ka2, 400, .inl Fa2)), (Ad4, .inl (Ka3, 400, .inl Fa3)), (Ad5, .inl (Ka4, 38500, .inr (.inl Fa4)))]) [5, 0, 1, 2, 3, 4] rfl
          have hD9 := hD.sub (ws' := [(Ad0, .inr (15, s245)), (Ad1, .inl (Ka0, 400, .inl Fa0)), (Ad2, .inl (Ka1, 400, .inl Fa1)), (Ad3, .inl (Ka2, 400, .inl Fa2)), (Ad4, .inl (Ka3, 400, .inl Fa3)), (Ad5, .inl (Ka4, 38500, .inr (.inl Fa4)))]) [5, 0, 1, 2, 3, 4] (by decide) rfl
          have hK9 := hK.sub (tys' := [(Ka0, .int), (Ka1, .int), (Ka2, .int), (Ka3, .boolean), (Ka4, .long)]) [0, 1, 2, 3, 4] rfl
          exact W.iret (v := 0) hx hb hr (fun t ht hW => ⟨⟨0, (s245, Fa0, Fa1, Fa2, Fa3, Fa4), rfl, (Or.inr (Or.inr (Or.inr (Or.inr (Or.inr (Or.inr (Or.inr (Or.inl ⟨c104, c105, c142, c143, c144, c204, c207, rfl, o_s245, hz_Fa2, hz_Fa4⟩)))))))), by rw [ht]; exact hP9, va_K.moved hW.alike hK9, hD9⟩, hS.F ht⟩) hS.2.2 dX12_make_43
    · skip
      subst er150
      refine lv_if_eq (tgt := 27) hx hb dX12_make_14 (by decide) (fun c247 => ?_) (fun c247 => absurd c247 (by decide))
      refine lv_iconst (v := 1) hx hb dX12_make_27 (by decide) ?_
      refine lv_goto (tgt := 32) hx hb dX12_make_28 (by decide) ?_
      refine va_put (D := (dC, dI)) (ci := 15) (v := .int 1) (ty := .int) (C := RX12) (T := TX12) (N := 150) hx hb hts (in_z_X12_make_X12) tyX12 tyX12_ok nmX12 hown hK hP hD hS 5 rfl rfl 0 (by decide) (hts (.fieldLink RX12 388 "HeapWorksModel" "thrown" "I") (by decide +kernel)) (fun _ h9 => h9) rfl (by decide +kernel) rfl rfl (by rw [o_Fs0.2.1]; decide) dX12_make_32 (fun H locs hP hD hS => ?_)
      have hP : va_P (dC, dI) vwCl [(Ad1, .inl (Ka0, 400, .inl Fa0)), (Ad2, .inl (Ka1, 400, .inl Fa1)), (Ad3, .inl (Ka2, 400, .inl Fa2)), (Ad4, .inl (Ka3, 400, .inl Fa3)), (Ad5, .inl (Ka4, 38500, .inr (.inl Fa4))), (Ad0, .inr (15, (Fs0.set 0 (.int 1))))] H := hP
      have hD : va_D A [(Ad1, .inl (Ka0, 400, .inl Fa0)), (Ad2, .inl (Ka1, 400, .inl Fa1)), (Ad3, .inl (Ka2, 400, .inl Fa2)), (Ad4, .inl (Ka3, 400, .inl Fa3)), (Ad5, .inl (Ka4, 38500, .inr (.inl Fa4))), (Ad0, .inr (15, (Fs0.set 0 (.int 1))))] := hD
      have o_s248 := ow_set o_Fs0 0 (.int 1) (by decide) (l' := [(0, .int 1), (20, .int 0), (21, .ref Ad1), (22, .ref Ad2), (23, .ref Ad3), (24, .ref Ad4), (25, .ref Ad5), (26, .int 0), (27, .int 0), (28, .int 0)]) (w' := [0]) rfl rfl
      generalize (Fs0.set 0 (.int 1)) = s248 at hP hD o_s248
      refine lv_aload_n hx hb dX12_make_35 rfl (lv_at hl 0 rfl) ?_
      refine va_get (D := (dC, dI)) (ci := 15) (v := .int 1) (C := RX12) (T := TX12) (N := 150) hx hb hts (in_z_X12_make_X12) hown hK hP 5 rfl rfl 0 (by decide) (hts (.fieldLink RX12 388 "HeapWorksModel" "thrown" "I") (by decide +kernel)) (fun _ h9 => h9) (ow_at o_s248 0 rfl) dX12_make_36 ?_
      refine lv_if_le (tgt := 44) hx hb dX12_make_39 (by decide) (fun c249 => absurd c249 (by decide)) (fun c249 => ?_)
      refine lv_iconst (v := 0) hx hb dX12_make_42 (by decide) ?_
      have hP9 := hP.sub (ws' := [(Ad0, .inr (15, s248)), (Ad1, .inl (Ka0, 400, .inl Fa0)), (Ad2, .inl (Ka1, 400, .inl Fa1)), (Ad3, .inl (Ka2, 400, .inl Fa2)), (Ad4, .inl (Ka3, 400, .inl Fa3)), (Ad5, .inl (Ka4, 38500, .inr (.inl Fa4)))]) [5, 0, 1, 2, 3, 4] rfl
      have hD9 := hD.sub (ws' := [(Ad0, .inr (15, s248)), (Ad1, .inl (Ka0, 400, .inl Fa0)), (Ad2, .inl (Ka1, 400, .inl Fa1)), (Ad3, .inl (Ka2, 400, .inl Fa2)), (Ad4, .inl (Ka3, 400, .inl Fa3)), (Ad5, .inl (Ka4, 38500, .inr (.inl Fa4)))]) [5, 0, 1, 2, 3, 4] (by decide) rfl
      have hK9 := hK.sub (tys' := [(Ka0, .int), (Ka1, .int), (Ka2, .int), (Ka3, .boolean), (Ka4, .long)]) [0, 1, 2, 3, 4] rfl
      exact W.iret (v := 0) hx hb hr (fun t ht hW => ⟨⟨0, (s248, Fa0, Fa1, Fa2, Fa3, Fa4), rfl, (Or.inr (Or.inr (Or.inr (Or.inr (Or.inr (Or.inr (Or.inr (Or.inr (Or.inl ⟨c104, c105, c146, c147, c148, c149, rfl, o_s248, hz_Fa2, hz_Fa4⟩))))))))), by rw [ht]; exact hP9, va_K.moved hW.alike hK9, hD9⟩, hS.F ht⟩) hS.2.2 dX12_make_43
    · skip
      subst er155
      refine lv_if_eq (tgt := 27) hx hb dX12_make_14 (by decide) (fun c250 => ?_) (fun c250 => absurd c250 (by decide))
      refine lv_iconst (v := 1) hx hb dX12_make_27 (by decide) ?_
      refine lv_goto (tgt := 32) hx hb dX12_make_28 (by decide) ?_
      refine va_put (D := (dC, dI)) (ci := 15) (v := .int 1) (ty := .int) (C := RX12) (T := TX12) (N := 150) hx hb hts (in_z_X12_make_X12) tyX12 tyX12_ok nmX12 hown hK hP hD hS 5 rfl rfl 0 (by decide) (hts (.fieldLink RX12 388 "HeapWorksModel" "thrown" "I") (by decide +kernel)) (fun _ h9 => h9) rfl (by decide +kernel) rfl rfl (by rw [o_Fs0.2.1]; decide) dX12_make_32 (fun H locs hP hD hS => ?_)
      have hP : va_P (dC, dI) vwCl [(Ad1, .inl (Ka0, 400, .inl Fa0)), (Ad2, .inl (Ka1, 400, .inl Fa1)), (Ad3, .inl (Ka2, 400, .inl Fa2)), (Ad4, .inl (Ka3, 400, .inl Fa3)), (Ad5, .inl (Ka4, 38500, .inr (.inl Fa4))), (Ad0, .inr (15, (Fs0.set 0 (.int 1))))] H := hP
      have hD : va_D A [(Ad1, .inl (Ka0, 400, .inl Fa0)), (Ad2, .inl (Ka1, 400, .inl Fa1)), (Ad3, .inl (Ka2, 400, .inl Fa2)), (Ad4, .inl (Ka3, 400, .inl Fa3)), (Ad5, .inl (Ka4, 38500, .inr (.inl Fa4))), (Ad0, .inr (15, (Fs0.set 0 (.int 1))))] := hD
      have o_s251 := ow_set o_Fs0 0 (.int 1) (by decide) (l' := [(0, .int 1), (20, .int 0), (21, .ref Ad1), (22, .ref Ad2), (23, .ref Ad3), (24, .ref Ad4), (25, .ref Ad5), (26, .int 0), (27, .int 0), (28, .int 0)]) (w' := [0]) rfl rfl
      generalize (Fs0.set 0 (.int 1)) = s251 at hP hD o_s251
      refine lv_aload_n hx hb dX12_make_35 rfl (lv_at hl 0 rfl) ?_
      refine va_get (D := (dC, dI)) (ci := 15) (v := .int 1) (C := RX12) (T := TX12) (N := 150) hx hb hts (in_z_X12_make_X12) hown hK hP 5 rfl rfl 0 (by decide) (hts (.fieldLink RX12 388 "HeapWorksModel" "thrown" "I") (by decide +kernel)) (fun _ h9 => h9) (ow_at o_s251 0 rfl) dX12_make_36 ?_
      refine lv_if_le (tgt := 44) hx hb dX12_make_39 (by decide) (fun c252 => absurd c252 (by decide)) (fun c252 => ?_)
      refine lv_iconst (v := 0) hx hb dX12_make_42 (by decide) ?_
      have hP9 := hP.sub (ws' := [(Ad0, .inr (15, s251)), (Ad1, .inl (Ka0, 400, .inl Fa0)), (Ad2, .inl (Ka1, 400, .inl Fa1)), (Ad3, .inl (Ka2, 400, .inl Fa2)), (Ad4, .inl (Ka3, 400, .inl Fa3)), (Ad5, .inl (Ka4, 38500, .inr (.inl Fa4)))]) [5, 0, 1, 2, 3, 4] rfl
      have hD9 := hD.sub (ws' := [(Ad0, .inr (15, s251)), (Ad1, .inl (Ka0, 400, .inl Fa0)), (Ad2, .inl (Ka1, 400, .inl Fa1)), (Ad3, .inl (Ka2, 400, .inl Fa2)), (Ad4, .inl (Ka3, 400, .inl Fa3)), (Ad5, .inl (Ka4, 38500, .inr (.inl Fa4)))]) [5, 0, 1, 2, 3, 4] (by decide) rfl
      have hK9 := hK.sub (tys' := [(Ka0, .int), (Ka1, .int), (Ka2, .int), (Ka3, .boolean), (Ka4, .long)]) [0, 1, 2, 3, 4] rfl
      exact W.iret (v := 0) hx hb hr (fun t ht hW => ⟨⟨0, (s251, Fa0, Fa1, Fa2, Fa3, Fa4), rfl, (Or.inr (Or.inr (Or.inr (Or.inr (Or.inr (Or.inr (Or.inr (Or.inr (Or.inr (⟨c104, c105, c151, c152, c153, c154, rfl, o_s251, hz_Fa2, hz_Fa4⟩)))))))))), by rw [ht]; exact hP9, va_K.moved hW.alike hK9, hD9⟩, hS.F ht⟩) hS.2.2 dX12_make_43

def l_z_X12_thrown_2 : List Cond := [.fieldLink RX12 388 "HeapWorksModel" "thrown" "I"]
def w_z_X12_thrown_2 : List Cond := .code yX12_thrown cX12_thrown 1 (some .int) :: (l_z_X12_thrown_2 ++ (wsX120))
theorem in_z_X12_thrown_2_X12 : ∀ w ∈ wsX120, w ∈ w_z_X12_thrown_2 := fun w h => List.mem_cons_of_mem _ (List.mem_append_right _ (h))
set_option maxHeartbeats 4000000 in
set_option maxRecDepth 100000 in
theorem z_X12_thrown_2 (l : Launch) (dC : Nat → ClassId) (dI : Nat → Nat → Nat) (sz : Nat) (Ad0 : Nat) (Fs0 : List Value) (k_Fs0 : fh Fs0 150 [(0, .int 0)])  : Met l yX12_thrown w_z_X12_thrown_2 ({ frames := 0, cells := 0, slots := 0, locals := 0 }) (va_Pc [.ref Ad0] (fun U => U.heap.size = sz ∧ Wd dC dI [] (fun _ => True) [(Ad0, .inr (15, Fs0))] U)) (va_Qi (fun (r : Int32) (u : Unit) => r = 0) (fun (u : Unit) t => Wd dC dI [] (va_A [(Ad0, .inr (15, Fs0))] sz) [(Ad0, .inr (15, Fs0))] t) (va_A [(Ad0, .inr (15, Fs0))] sz))  0 0 (va_A [(Ad0, .inr (15, Fs0))] sz) := by
  refine Met.ofW (cc := cX12_thrown) (maxL := 1) (ret := (some .int)) (by decide) rfl ?_
  intro p e s m args below meth c s₁ B hml hv
  obtain ⟨rfl, hsz, hP, hK, hD0⟩ := hv
  have hx := B.exec
  have hb := B.bytes
  have hr := B.returns
  have hts := atoms_spec (ws := w_z_X12_thrown_2) B.pre
  have hown : s.vm.findClass RX12 = some m.cls := findClass_of_methodNamed B.named
  have hlocks := B.notSynchronized
  subst hsz
  have hD := hD0.self (sz := s.heap.size)
  generalize hAe : va_A [(Ad0, .inr (15, Fs0))] s.heap.size = A at hD ⊢
  have hA : ∀ q : Nat, s.heap.size ≤ q → A q := fun q h => by rw [← hAe]; exact Or.inr h
  have hS : va_S A s.heap s.heap [] := va_S.rf
  have hl := lv_entry ([.ref Ad0]) (n := 1) (Nat.le_of_ble_eq_true rfl)
  rw [lg_entry_eq]
  generalize (lg_sl ([.ref Ad0]) ++ List.replicate (1 - (lg_sl ([.ref Ad0])).length) Slot.unset).toArray = ls at hl ⊢
  have hl : lv_has ls 1 [(0, .ref Ad0)] := hl
  have o_Fs0 := ow_0 k_Fs0
  refine lv_aload_n hx hb dX12_thrown_0 rfl (lv_at hl 0 rfl) ?_
  refine va_get (D := (dC, dI)) (ci := 15) (v := .int 0) (C := RX12) (T := TX12) (N := 150) hx hb hts (in_z_X12_thrown_2_X12) hown hK hP 0 rfl rfl 0 (by decide) (hts (.fieldLink RX12 388 "HeapWorksModel" "thrown" "I") (by decide +kernel)) (fun _ h9 => h9) (ow_at o_Fs0 0 rfl) dX12_thrown_1 ?_
  have hP9 := hP.sub (ws' := [(Ad0, .inr (15, Fs0))]) [0] rfl
  have hD9 := hD.sub (ws' := [(Ad0, .inr (15, Fs0))]) [0] (by decide) rfl
  have hK9 := hK.sub (tys' := []) [] rfl
  exact W.iret (v := 0) hx hb hr (fun t ht hW => ⟨⟨0, (), rfl, rfl, by rw [ht]; exact hP9, va_K.moved hW.alike hK9, hD9⟩, hS.F ht⟩) hS.2.2 dX12_thrown_4

def l_z_X12_isObject : List Cond := [.fieldLink RX12 435 "HeapWorksModel" "objects" "I"]
def w_z_X12_isObject : List Cond := .code yX12_isObject cX12_isObject 2 (some .boolean) :: (l_z_X12_isObject ++ (wsX120))
theorem in_z_X12_isObject_X12 : ∀ w ∈ wsX120, w ∈ w_z_X12_isObject := fun w h => List.mem_cons_of_mem _ (List.mem_append_right _ (h))
set_option maxHeartbeats 4000000 in
set_option maxRecDepth 100000 in
theorem z_X12_isObject (l : Launch) (dC : Nat → ClassId) (dI : Nat → Nat → Nat) (sz : Nat) (Ad0 : Nat) (Fs0 : List Value) (Va0 : Int32) (k_Fs0 : fh Fs0 150 [(26, .int 0)])  : Met l yX12_isObject w_z_X12_isObject ({ frames := 0, cells := 0, slots := 0, locals := 0 }) (va_Pc [.ref Ad0, .int Va0] (fun U => U.heap.size = sz ∧ Wd dC dI [] (fun _ => True) [(Ad0, .inr (15, Fs0))] U)) (va_Qi (fun (r : Int32) (u : Unit) => (Va0 < 0 ∧ r = 0) ∨ (¬ Va0 < 0 ∧ 0 ≤ Va0 ∧ r = 0)) (fun (u : Unit) t => Wd dC dI [] (va_A [(Ad0, .inr (15, Fs0))] sz) [(Ad0, .inr (15, Fs0))] t) (va_A [(Ad0, .inr (15, Fs0))] sz))  0 0 (va_A [(Ad0, .inr (15, Fs0))] sz) := by
  refine Met.ofW (cc := cX12_isObject) (maxL := 2) (ret := (some .boolean)) (by decide) rfl ?_
  intro p e s m args below meth c s₁ B hml hv
  obtain ⟨rfl, hsz, hP, hK, hD0⟩ := hv
  have hx := B.exec
  have hb := B.bytes
  have hr := B.returns
  have hts := atoms_spec (ws := w_z_X12_isObject) B.pre
  have hown : s.vm.findClass RX12 = some m.cls := findClass_of_methodNamed B.named
  have hlocks := B.notSynchronized
  subst hsz
  have hD := hD0.self (sz := s.heap.size)
  generalize hAe : va_A [(Ad0, .inr (15, Fs0))] s.heap.size = A at hD ⊢
  have hA : ∀ q : Nat, s.heap.size ≤ q → A q := fun q h => by rw [← hAe]; exact Or.inr h
  have hS : va_S A s.heap s.heap [] := va_S.rf
  have hl := lv_entry ([.ref Ad0, .int Va0]) (n := 2) (Nat.le_of_ble_eq_true rfl)
  rw [lg_entry_eq]
  generalize (lg_sl ([.ref Ad0, .int Va0]) ++ List.replicate (2 - (lg_sl ([.ref Ad0, .int Va0])).length) Slot.unset).toArray = ls at hl ⊢
  have hl : lv_has ls 2 [(0, .ref Ad0), (1, .int Va0)] := hl
  have o_Fs0 := ow_0 k_Fs0
  refine lv_iload_n hx hb dX12_isObject_0 rfl (lv_at hl 1 rfl) ?_
  refine lv_if_lt (tgt := 25) hx hb dX12_isObject_1 (by decide) (fun c101 => ?_) (fun c101 => ?_)
  · skip
    refine lv_iconst (v := 0) hx hb dX12_isObject_25 (by decide) ?_
    have hP9 := hP.sub (ws' := [(Ad0, .inr (15, Fs0))]) [0] rfl
    have hD9 := hD.sub (ws' := [(Ad0, .inr (15, Fs0))]) [0] (by decide) rfl
    have hK9 := hK.sub (tys' := []) [] rfl
    exact W.zret (v := 0) hx hb hr rfl (fun t ht hW => ⟨⟨0, (), rfl, (Or.inl ⟨c101, rfl⟩), by rw [ht]; exact hP9, va_K.moved hW.alike hK9, hD9⟩, hS.F ht⟩) hS.2.2 dX12_isObject_26
  · skip
    refine lv_iload_n hx hb dX12_isObject_4 rfl (lv_at hl 1 rfl) ?_
    refine lv_aload_n hx hb dX12_isObject_5 rfl (lv_at hl 0 rfl) ?_
    refine va_get (D := (dC, dI)) (ci := 15) (v := .int 0) (C := RX12) (T := TX12) (N := 150) hx hb hts (in_z_X12_isObject_X12) hown hK hP 0 rfl rfl 26 (by decide) (hts (.fieldLink RX12 435 "HeapWorksModel" "objects" "I") (by decide +kernel)) (fun _ h9 => h9) (ow_at o_Fs0 0 rfl) dX12_isObject_6 ?_
    refine lv_icmp_ge (tgt := 25) hx hb dX12_isObject_9 (by decide) (fun c102 => ?_) (fun c102 => (by exfalso; have bd_Va0 := i_bd Va0; (try simp only [i_lt, i_le, i_eq, kc_0] at c101 c102); omega))
    refine lv_iconst (v := 0) hx hb dX12_isObject_25 (by decide) ?_
    have hP9 := hP.sub (ws' := [(Ad0, .inr (15, Fs0))]) [0] rfl
    have hD9 := hD.sub (ws' := [(Ad0, .inr (15, Fs0))]) [0] (by decide) rfl
    have hK9 := hK.sub (tys' := []) [] rfl
    exact W.zret (v := 0) hx hb hr rfl (fun t ht hW => ⟨⟨0, (), rfl, (Or.inr (⟨c101, c102, rfl⟩)), by rw [ht]; exact hP9, va_K.moved hW.alike hK9, hD9⟩, hS.F ht⟩) hS.2.2 dX12_isObject_26

def l_z_X12_root : List Cond := [.methodLink RX12 473 yX12_isObject, .instanceMethod yX12_isObject, .selects RX12 yX12_isObject yX12_isObject, .initialized RX12, .fieldLink RX12 388 "HeapWorksModel" "thrown" "I", .code yX12_isObject cX12_isObject 2 (some .boolean), .fieldLink RX12 435 "HeapWorksModel" "objects" "I"]
def w_z_X12_root : List Cond := .code yX12_root cX12_root 5 none :: (l_z_X12_root ++ (wsX120))
theorem in_z_X12_root_X12 : ∀ w ∈ wsX120, w ∈ w_z_X12_root := fun w h => List.mem_cons_of_mem _ (List.mem_append_right _ (h))
theorem g_z_X12_root_z_X12_isObject_473 : GoodIn w_z_X12_root (wsV RX12 473 RX12 yX12_isObject w_z_X12_isObject) := goodIn_app (goodIn_r (([.methodLink RX12 473 yX12_isObject, .instanceMethod yX12_isObject, .selects RX12 yX12_isObject yX12_isObject, .initialized RX12] : List Cond)) [1, 2, 3, 4] rfl (by decide +kernel)) (goodIn_ca (goodIn_r (.code yX12_isObject cX12_isObject 2 (some .boolean) :: l_z_X12_isObject) [6, 7] rfl (by decide +kernel)) (goodIn_in (in_z_X12_root_X12) gd_X12))
set_option maxHeartbeats 4000000 in
set_option maxRecDepth 100000 in
theorem z_X12_root (l : Launch) (dC : Nat → ClassId) (dI : Nat → Nat → Nat) (sz : Nat) (Ad0 : Nat) (Fs0 : List Value) (Va0 : Int32) (k_Fs0 : fh Fs0 150 [(0, .int 0), (26, .int 0)])  : Met l yX12_root w_z_X12_root ({ frames := 1, cells := 0, slots := 0, locals := 21 }) (va_Pc [.ref Ad0, .int Va0, .int 0] (fun U => U.heap.size = sz ∧ Wd dC dI [] (fun _ => True) [(Ad0, .inr (15, Fs0))] U)) (va_Qv (fun (u : List Value) => (Va0 < 0 ∧ ow Fs0 (u) 150 [0] [(0, .int 1), (26, .int 0)]) ∨ (¬ Va0 < 0 ∧ 0 ≤ Va0 ∧ ow Fs0 (u) 150 [0] [(0, .int 1), (26, .int 0)])) (fun (u : List Value) t => Wd dC dI [] (va_A [(Ad0, .inr (15, Fs0))] sz) [(Ad0, .inr (15, (u)))] t) (va_A [(Ad0, .inr (15, Fs0))] sz))  0 0 (va_A [(Ad0, .inr (15, Fs0))] sz) := by
  refine Met.ofW (cc := cX12_root) (maxL := 5) (ret := none) (by decide) rfl ?_
  intro p e s m args below meth c s₁ B hml hv
  obtain ⟨rfl, hsz, hP, hK, hD0⟩ := hv
  have hx := B.exec
  have hb := B.bytes
  have hr := B.returns
  have hts := atoms_spec (ws := w_z_X12_root) B.pre
  have hown : s.vm.findClass RX12 = some m.cls := findClass_of_methodNamed B.named
  have hlocks := B.notSynchronized
  subst hsz
  have hD := hD0.self (sz := s.heap.size)
  generalize hAe : va_A [(Ad0, .inr (15, Fs0))] s.heap.size = A at hD ⊢
  have hA : ∀ q : Nat, s.heap.size ≤ q → A q := fun q h => by rw [← hAe]; exact Or.inr h
  have hS : va_S A s.heap s.heap [] := va_S.rf
  have hl := lv_entry ([.ref Ad0, .int Va0, .int 0]) (n := 5) (Nat.le_of_ble_eq_true rfl)
  rw [lg_entry_eq]
  generalize (lg_sl ([.ref Ad0, .int Va0, .int 0]) ++ List.replicate (5 - (lg_sl ([.ref Ad0, .int Va0, .int 0])).length) Slot.unset).toArray = ls at hl ⊢
  have hl : lv_has ls 5 [(0, .ref Ad0), (1, .int Va0), (2, .int 0)] := hl
  have o_Fs0 := ow_0 k_Fs0
  refine lv_aload_n hx hb dX12_root_0 rfl (lv_at hl 0 rfl) ?_
  refine lv_aload_n hx hb dX12_root_1 rfl (lv_at hl 0 rfl) ?_
  refine lv_iload_n hx hb dX12_root_2 rfl (lv_at hl 1 rfl) ?_
  have hPc := hP.sub (ws' := [(Ad0, .inr (15, Fs0))]) [0] rfl
  have hDc := hD.sub (ws' := [(Ad0, .inr (15, Fs0))]) [0] (by decide) rfl
  have hKc := hK.sub (tys' := []) [] rfl
  have hFc := va_free (wc := [(Ad0, .inr (15, Fs0))]) hD hS hA [0] rfl
  refine va_calli (va_runV (As := [.int Va0]) (rest := [.ref Ad0]) ⟨hx, hb, hml, hown, hts⟩ (z_X12_isObject l dC dI s.heap.size Ad0 Fs0 Va0 (fh_sub o_Fs0.2 [1] rfl) ) (cwV 1 hts g_z_X12_root_z_X12_isObject_473 rfl rfl rfl (by decide +kernel) ⟨Nat.le_of_ble_eq_true rfl, Nat.le_of_ble_eq_true rfl⟩) ⟨fun a U g mk q => by obtain ⟨q0, q1, qP, qK, qD⟩ := q; exact ⟨q0, q1, qP, va_K.moved (u := U) (U := U.calling g mk a) (Vm.Alike.refl U.vm) qK, qD⟩, va_recv hK hP (ci := 15) (q0 := 0) rfl rfl, fun U hU hW => ⟨rfl, by rw [hU], by rw [hU]; exact hPc, va_K.moved hW.alike hKc, hDc.weaken (fun _ _ _ _ => trivial)⟩⟩ rfl rfl hl.1 rfl (lv_room (Nat.le_of_ble_eq_true rfl)) dX12_root_3 ⟨Nat.le_of_ble_eq_true rfl, Nat.le_of_ble_eq_true rfl⟩) hS (fun q _ h => hFc q h) hFc (fun r101 u t H1 locs ht hvm hw hB hz1 hk1 hS => ?_)
  obtain ⟨hP1, hK1, hD1⟩ := hB
  rw [ht] at hP1
  try dsimp only at hw
  obtain ⟨hP, hD⟩ := va_join (wr := []) (w1 := [(Ad0, .inr (15, Fs0))]) hP hD [0] [] rfl rfl (by decide) (by decide) hk1 hFc hP1 hD1
  have hK := hK.sub (tys' := []) [] rfl
  generalize H1 = H at hP hS ⊢
  have hP : va_P (dC, dI) vwCl [(Ad0, .inr (15, Fs0))] H := hP
  have hD : va_D A [(Ad0, .inr (15, Fs0))] := hD
  rcases hw with ⟨c102, er103⟩ | ⟨c104, c105, er106⟩
  · skip
    subst er103
    refine lv_if_eq (tgt := 13) hx hb dX12_root_6 (by decide) (fun c107 => ?_) (fun c107 => absurd c107 (by decide))
    refine lv_iconst (v := 1) hx hb dX12_root_13 (by decide) ?_
    refine va_put (D := (dC, dI)) (ci := 15) (v := .int 1) (ty := .int) (C := RX12) (T := TX12) (N := 150) hx hb hts (in_z_X12_root_X12) tyX12 tyX12_ok nmX12 hown hK hP hD hS 0 rfl rfl 0 (by decide) (hts (.fieldLink RX12 388 "HeapWorksModel" "thrown" "I") (by decide +kernel)) (fun _ h9 => h9) rfl (by decide +kernel) rfl rfl (by rw [o_Fs0.2.1]; decide) dX12_root_14 (fun H locs hP hD hS => ?_)
    have hP : va_P (dC, dI) vwCl [(Ad0, .inr (15, (Fs0.set 0 (.int 1))))] H := hP
    have hD : va_D A [(Ad0, .inr (15, (Fs0.set 0 (.int 1))))] := hD
    have o_s108 := ow_set o_Fs0 0 (.int 1) (by decide) (l' := [(0, .int 1), (26, .int 0)]) (w' := [0]) rfl rfl
    generalize (Fs0.set 0 (.int 1)) = s108 at hP hD o_s108
    refine lv_aload_n hx hb dX12_root_17 rfl (lv_at hl 0 rfl) ?_
    refine va_get (D := (dC, dI)) (ci := 15) (v := .int 1) (C := RX12) (T := TX12) (N := 150) hx hb hts (in_z_X12_root_X12) hown hK hP 0 rfl rfl 0 (by decide) (hts (.fieldLink RX12 388 "HeapWorksModel" "thrown" "I") (by decide +kernel)) (fun _ h9 => h9) (ow_at o_s108 0 rfl) dX12_root_18 ?_
    refine lv_if_le (tgt := 25) hx hb dX12_root_21 (by decide) (fun c109 => absurd c109 (by decide)) (fun c109 => ?_)
    have hP9 := hP.sub (ws' := [(Ad0, .inr (15, s108))]) [0] rfl
    have hD9 := hD.sub (ws' := [(Ad0, .inr (15, s108))]) [0] (by decide) rfl
    have hK9 := hK.sub (tys' := []) [] rfl
    exact W.vret hx hb hr (fun t ht hW => ⟨⟨s108, rfl, (Or.inl ⟨c102, o_s108⟩), by rw [ht]; exact hP9, va_K.moved hW.alike hK9, hD9⟩, hS.F ht⟩) hS.2.2 dX12_root_24
  · skip
    subst er106
    refine lv_if_eq (tgt := 13) hx hb dX12_root_6 (by decide) (fun c110 => ?_) (fun c110 => absurd c110 (by decide))
    refine lv_iconst (v := 1) hx hb dX12_root_13 (by decide) ?_
    refine va_put (D := (dC, dI)) (ci := 15) (v := .int 1) (ty := .int) (C := RX12) (T := TX12) (N := 150) hx hb hts (in_z_X12_root_X12) tyX12 tyX12_ok nmX12 hown hK hP hD hS 0 rfl rfl 0 (by decide) (hts (.fieldLink RX12 388 "HeapWorksModel" "thrown" "I") (by decide +kernel)) (fun _ h9 => h9) rfl (by decide +kernel) rfl rfl (by rw [o_Fs0.2.1]; decide) dX12_root_14 (fun H locs hP hD hS => ?_)
    have hP : va_P (dC, dI) vwCl [(Ad0, .inr (15, (Fs0.set 0 (.int 1))))] H := hP
    have hD : va_D A [(Ad0, .inr (15, (Fs0.set 0 (.int 1))))] := hD
    have o_s111 := ow_set o_Fs0 0 (.int 1) (by decide) (l' := [(0, .int 1), (26, .int 0)]) (w' := [0]) rfl rfl
    generalize (Fs0.set 0 (.int 1)) = s111 at hP hD o_s111
    refine lv_aload_n hx hb dX12_root_17 rfl (lv_at hl 0 rfl) ?_
    refine va_get (D := (dC, dI)) (ci := 15) (v := .int 1) (C := RX12) (T := TX12) (N := 150) hx hb hts (in_z_X12_root_X12) hown hK hP 0 rfl rfl 0 (by decide) (hts (.fieldLink RX12 388 "HeapWorksModel" "thrown" "I") (by decide +kernel)) (fun _ h9 => h9) (ow_at o_s111 0 rfl) dX12_root_18 ?_
    refine lv_if_le (tgt := 25) hx hb dX12_root_21 (by decide) (fun c112 => absurd c112 (by decide)) (fun c112 => ?_)
    have hP9 := hP.sub (ws' := [(Ad0, .inr (15, s111))]) [0] rfl
    have hD9 := hD.sub (ws' := [(Ad0, .inr (15, s111))]) [0] (by decide) rfl
    have hK9 := hK.sub (tys' := []) [] rfl
    exact W.vret hx hb hr (fun t ht hW => ⟨⟨s111, rfl, (Or.inr (⟨c104, c105, o_s111⟩)), by rw [ht]; exact hP9, va_K.moved hW.alike hK9, hD9⟩, hS.F ht⟩) hS.2.2 dX12_root_24

def l_z_X12_root_1 : List Cond := [.methodLink RX12 473 yX12_isObject, .instanceMethod yX12_isObject, .selects RX12 yX12_isObject yX12_isObject, .initialized RX12, .fieldLink RX12 388 "HeapWorksModel" "thrown" "I", .code yX12_isObject cX12_isObject 2 (some .boolean), .fieldLink RX12 435 "HeapWorksModel" "objects" "I"]
def w_z_X12_root_1 : List Cond := .code yX12_root cX12_root 5 none :: (l_z_X12_root_1 ++ (wsX120))
theorem in_z_X12_root_1_X12 : ∀ w ∈ wsX120, w ∈ w_z_X12_root_1 := fun w h => List.mem_cons_of_mem _ (List.mem_append_right _ (h))
theorem g_z_X12_root_1_z_X12_isObject_473 : GoodIn w_z_X12_root_1 (wsV RX12 473 RX12 yX12_isObject w_z_X12_isObject) := goodIn_app (goodIn_r (([.methodLink RX12 473 yX12_isObject, .instanceMethod yX12_isObject, .selects RX12 yX12_isObject yX12_isObject, .initialized RX12] : List Cond)) [1, 2, 3, 4] rfl (by decide +kernel)) (goodIn_ca (goodIn_r (.code yX12_isObject cX12_isObject 2 (some .boolean) :: l_z_X12_isObject) [6, 7] rfl (by decide +kernel)) (goodIn_in (in_z_X12_root_1_X12) gd_X12))
set_option maxHeartbeats 4000000 in
set_option maxRecDepth 100000 in
theorem z_X12_root_1 (l : Launch) (dC : Nat → ClassId) (dI : Nat → Nat → Nat) (sz : Nat) (Ad0 : Nat) (Fs0 : List Value) (Va0 : Int32) (k_Fs0 : fh Fs0 150 [(0, .int 0), (26, .int 0)])  : Met l yX12_root w_z_X12_root_1 ({ frames := 1, cells := 0, slots := 0, locals := 21 }) (va_Pc [.ref Ad0, .int Va0, .int 1] (fun U => U.heap.size = sz ∧ Wd dC dI [] (fun _ => True) [(Ad0, .inr (15, Fs0))] U)) (va_Qv (fun (u : List Value) => (Va0 < 0 ∧ ow Fs0 (u) 150 [0] [(0, .int 1), (26, .int 0)]) ∨ (¬ Va0 < 0 ∧ 0 ≤ Va0 ∧ ow Fs0 (u) 150 [0] [(0, .int 1), (26, .int 0)])) (fun (u : List Value) t => Wd dC dI [] (va_A [(Ad0, .inr (15, Fs0))] sz) [(Ad0, .inr (15, (u)))] t) (va_A [(Ad0, .inr (15, Fs0))] sz))  0 0 (va_A [(Ad0, .inr (15, Fs0))] sz) := by
  refine Met.ofW (cc := cX12_root) (maxL := 5) (ret := none) (by decide) rfl ?_
  intro p e s m args below meth c s₁ B hml hv
  obtain ⟨rfl, hsz, hP, hK, hD0⟩ := hv
  have hx := B.exec
  have hb := B.bytes
  have hr := B.returns
  have hts := atoms_spec (ws := w_z_X12_root_1) B.pre
  have hown : s.vm.findClass RX12 = some m.cls := findClass_of_methodNamed B.named
  have hlocks := B.notSynchronized
  subst hsz
  have hD := hD0.self (sz := s.heap.size)
  generalize hAe : va_A [(Ad0, .inr (15, Fs0))] s.heap.size = A at hD ⊢
  have hA : ∀ q : Nat, s.heap.size ≤ q → A q := fun q h => by rw [← hAe]; exact Or.inr h
  have hS : va_S A s.heap s.heap [] := va_S.rf
  have hl := lv_entry ([.ref Ad0, .int Va0, .int 1]) (n := 5) (Nat.le_of_ble_eq_true rfl)
  rw [lg_entry_eq]
  generalize (lg_sl ([.ref Ad0, .int Va0, .int 1]) ++ List.replicate (5 - (lg_sl ([.ref Ad0, .int Va0, .int 1])).length) Slot.unset).toArray = ls at hl ⊢
  have hl : lv_has ls 5 [(0, .ref Ad0), (1, .int Va0), (2, .int 1)] := hl
  have o_Fs0 := ow_0 k_Fs0
  refine lv_aload_n hx hb dX12_root_0 rfl (lv_at hl 0 rfl) ?_
  refine lv_aload_n hx hb dX12_root_1 rfl (lv_at hl 0 rfl) ?_
  refine lv_iload_n hx hb dX12_root_2 rfl (lv_at hl 1 rfl) ?_
  have hPc := hP.sub (ws' := [(Ad0, .inr (15, Fs0))]) [0] rfl
  have hDc := hD.sub (ws' := [(Ad0, .inr (15, Fs0))]) [0] (by decide) rfl
  have hKc := hK.sub (tys' := []) [] rfl
  have hFc := va_free (wc := [(Ad0, .inr (15, Fs0))]) hD hS hA [0] rfl
  refine va_calli (va_runV (As := [.int Va0]) (rest := [.ref Ad0]) ⟨hx, hb, hml, hown, hts⟩ (z_X12_isObject l dC dI s.heap.size Ad0 Fs0 Va0 (fh_sub o_Fs0.2 [1] rfl) ) (cwV 1 hts g_z_X12_root_1_z_X12_isObject_473 rfl rfl rfl (by decide +kernel) ⟨Nat.le_of_ble_eq_true rfl, Nat.le_of_ble_eq_true rfl⟩) ⟨fun a U g mk q => by obtain ⟨q0, q1, qP, qK, qD⟩ := q; exact ⟨q0, q1, qP, va_K.moved (u := U) (U := U.calling g mk a) (Vm.Alike.refl U.vm) qK, qD⟩, va_recv hK hP (ci := 15) (q0 := 0) rfl rfl, fun U hU hW => ⟨rfl, by rw [hU], by rw [hU]; exact hPc, va_K.moved hW.alike hKc, hDc.weaken (fun _ _ _ _ => trivial)⟩⟩ rfl rfl hl.1 rfl (lv_room (Nat.le_of_ble_eq_true rfl)) dX12_root_3 ⟨Nat.le_of_ble_eq_true rfl, Nat.le_of_ble_eq_true rfl⟩) hS (fun q _ h => hFc q h) hFc (fun r101 u t H1 locs ht hvm hw hB hz1 hk1 hS => ?_)
  obtain ⟨hP1, hK1, hD1⟩ := hB
  rw [ht] at hP1
  try dsimp only at hw
  obtain ⟨hP, hD⟩ := va_join (wr := []) (w1 := [(Ad0, .inr (15, Fs0))]) hP hD [0] [] rfl rfl (by decide) (by decide) hk1 hFc hP1 hD1
  have hK := hK.sub (tys' := []) [] rfl
  generalize H1 = H at hP hS ⊢
  have hP : va_P (dC, dI) vwCl [(Ad0, .inr (15, Fs0))] H := hP
  have hD : va_D A [(Ad0, .inr (15, Fs0))] := hD
  rcases hw with ⟨c102, er103⟩ | ⟨c104, c105, er106⟩
  · skip
    subst er103
    refine lv_if_eq (tgt := 13) hx hb dX12_root_6 (by decide) (fun c107 => ?_) (fun c107 => absurd c107 (by decide))
    refine lv_iconst (v := 1) hx hb dX12_root_13 (by decide) ?_
    refine va_put (D := (dC, dI)) (ci := 15) (v := .int 1) (ty := .int) (C := RX12) (T := TX12) (N := 150) hx hb hts (in_z_X12_root_1_X12) tyX12 tyX12_ok nmX12 hown hK hP hD hS 0 rfl rfl 0 (by decide) (hts (.fieldLink RX12 388 "HeapWorksModel" "thrown" "I") (by decide +kernel)) (fun _ h9 => h9) rfl (by decide +kernel) rfl rfl (by rw [o_Fs0.2.1]; decide) dX12_root_14 (fun H locs hP hD hS => ?_)
    have hP : va_P (dC, dI) vwCl [(Ad0, .inr (15, (Fs0.set 0 (.int 1))))] H := hP
    have hD : va_D A [(Ad0, .inr (15, (Fs0.set 0 (.int 1))))] := hD
    have o_s108 := ow_set o_Fs0 0 (.int 1) (by decide) (l' := [(0, .int 1), (26, .int 0)]) (w' := [0]) rfl rfl
    generalize (Fs0.set 0 (.int 1)) = s108 at hP hD o_s108
    refine lv_aload_n hx hb dX12_root_17 rfl (lv_at hl 0 rfl) ?_
    refine va_get (D := (dC, dI)) (ci := 15) (v := .int 1) (C := RX12) (T := TX12) (N := 150) hx hb hts (in_z_X12_root_1_X12) hown hK hP 0 rfl rfl 0 (by decide) (hts (.fieldLink RX12 388 "HeapWorksModel" "thrown" "I") (by decide +kernel)) (fun _ h9 => h9) (ow_at o_s108 0 rfl) dX12_root_18 ?_
    refine lv_if_le (tgt := 25) hx hb dX12_root_21 (by decide) (fun c109 => absurd c109 (by decide)) (fun c109 => ?_)
    have hP9 := hP.sub (ws' := [(Ad0, .inr (15, s108))]) [0] rfl
    have hD9 := hD.sub (ws' := [(Ad0, .inr (15, s108))]) [0] (by decide) rfl
    have hK9 := hK.sub (tys' := []) [] rfl
    exact W.vret hx hb hr (fun t ht hW => ⟨⟨s108, rfl, (Or.inl ⟨c102, o_s108⟩), by rw [ht]; exact hP9, va_K.moved hW.alike hK9, hD9⟩, hS.F ht⟩) hS.2.2 dX12_root_24
  · skip
    subst er106
    refine lv_if_eq (tgt := 13) hx hb dX12_root_6 (by decide) (fun c110 => ?_) (fun c110 => absurd c110 (by decide))
    refine lv_iconst (v := 1) hx hb dX12_root_13 (by decide) ?_
    refine va_put (D := (dC, dI)) (ci := 15) (v := .int 1) (ty := .int) (C := RX12) (T := TX12) (N := 150) hx hb hts (in_z_X12_root_1_X12) tyX12 tyX12_ok nmX12 hown hK hP hD hS 0 rfl rfl 0 (by decide) (hts (.fieldLink RX12 388 "HeapWorksModel" "thrown" "I") (by decide +kernel)) (fun _ h9 => h9) rfl (by decide +kernel) rfl rfl (by rw [o_Fs0.2.1]; decide) dX12_root_14 (fun H locs hP hD hS => ?_)
    have hP : va_P (dC, dI) vwCl [(Ad0, .inr (15, (Fs0.set 0 (.int 1))))] H := hP
    have hD : va_D A [(Ad0, .inr (15, (Fs0.set 0 (.int 1))))] := hD
    have o_s111 := ow_set o_Fs0 0 (.int 1) (by decide) (l' := [(0, .int 1), (26, .int 0)]) (w' := [0]) rfl rfl
    generalize (Fs0.set 0 (.int 1)) = s111 at hP hD o_s111
    refine lv_aload_n hx hb dX12_root_17 rfl (lv_at hl 0 rfl) ?_
    refine va_get (D := (dC, dI)) (ci := 15) (v := .int 1) (C := RX12) (T := TX12) (N := 150) hx hb hts (in_z_X12_root_1_X12) hown hK hP 0 rfl rfl 0 (by decide) (hts (.fieldLink RX12 388 "HeapWorksModel" "thrown" "I") (by decide +kernel)) (fun _ h9 => h9) (ow_at o_s111 0 rfl) dX12_root_18 ?_
    refine lv_if_le (tgt := 25) hx hb dX12_root_21 (by decide) (fun c112 => absurd c112 (by decide)) (fun c112 => ?_)
    have hP9 := hP.sub (ws' := [(Ad0, .inr (15, s111))]) [0] rfl
    have hD9 := hD.sub (ws' := [(Ad0, .inr (15, s111))]) [0] (by decide) rfl
    have hK9 := hK.sub (tys' := []) [] rfl
    exact W.vret hx hb hr (fun t ht hW => ⟨⟨s111, rfl, (Or.inr (⟨c104, c105, o_s111⟩)), by rw [ht]; exact hP9, va_K.moved hW.alike hK9, hD9⟩, hS.F ht⟩) hS.2.2 dX12_root_24

def l_z_X12_set : List Cond := [.methodLink RX12 473 yX12_isObject, .instanceMethod yX12_isObject, .selects RX12 yX12_isObject yX12_isObject, .initialized RX12, .fieldLink RX12 388 "HeapWorksModel" "thrown" "I", .code yX12_isObject cX12_isObject 2 (some .boolean), .fieldLink RX12 435 "HeapWorksModel" "objects" "I"]
def w_z_X12_set : List Cond := .code yX12_set cX12_set 5 (some .int) :: (l_z_X12_set ++ (wsX120))
theorem in_z_X12_set_X12 : ∀ w ∈ wsX120, w ∈ w_z_X12_set := fun w h => List.mem_cons_of_mem _ (List.mem_append_right _ (h))
theorem g_z_X12_set_z_X12_isObject_473 : GoodIn w_z_X12_set (wsV RX12 473 RX12 yX12_isObject w_z_X12_isObject) := goodIn_app (goodIn_r (([.methodLink RX12 473 yX12_isObject, .instanceMethod yX12_isObject, .selects RX12 yX12_isObject yX12_isObject, .initialized RX12] : List Cond)) [1, 2, 3, 4] rfl (by decide +kernel)) (goodIn_ca (goodIn_r (.code yX12_isObject cX12_isObject 2 (some .boolean) :: l_z_X12_isObject) [6, 7] rfl (by decide +kernel)) (goodIn_in (in_z_X12_set_X12) gd_X12))
set_option maxHeartbeats 4000000 in
set_option maxRecDepth 100000 in
theorem z_X12_set (l : Launch) (dC : Nat → ClassId) (dI : Nat → Nat → Nat) (sz : Nat) (Ad0 : Nat) (Fs0 : List Value) (Va0 : Int32) (Va1 : Int32) (Ja0 : Int64) (k_Fs0 : fh Fs0 150 [(0, .int 0), (26, .int 0)])  : Met l yX12_set w_z_X12_set ({ frames := 1, cells := 0, slots := 0, locals := 21 }) (va_Pc [.ref Ad0, .int Va0, .int Va1, .long Ja0] (fun U => U.heap.size = sz ∧ Wd dC dI [] (fun _ => True) [(Ad0, .inr (15, Fs0))] U)) (va_Qi (fun (r : Int32) (u : List Value) => (Va0 < 0 ∧ r = 0 ∧ ow Fs0 (u) 150 [0] [(0, .int 1), (26, .int 0)]) ∨ (¬ Va0 < 0 ∧ 0 ≤ Va0 ∧ r = 0 ∧ ow Fs0 (u) 150 [0] [(0, .int 1), (26, .int 0)])) (fun (u : List Value) t => Wd dC dI [] (va_A [(Ad0, .inr (15, Fs0))] sz) [(Ad0, .inr (15, (u)))] t) (va_A [(Ad0, .inr (15, Fs0))] sz))  0 0 (va_A [(Ad0, .inr (15, Fs0))] sz) := by
  refine Met.ofW (cc := cX12_set) (maxL := 5) (ret := (some .int)) (by decide) rfl ?_
  intro p e s m args below meth c s₁ B hml hv
  obtain ⟨rfl, hsz, hP, hK, hD0⟩ := hv
  have hx := B.exec
  have hb := B.bytes
  have hr := B.returns
  have hts := atoms_spec (ws := w_z_X12_set) B.pre
  have hown : s.vm.findClass RX12 = some m.cls := findClass_of_methodNamed B.named
  have hlocks := B.notSynchronized
  subst hsz
  have hD := hD0.self (sz := s.heap.size)
  generalize hAe : va_A [(Ad0, .inr (15, Fs0))] s.heap.size = A at hD ⊢
  have hA : ∀ q : Nat, s.heap.size ≤ q → A q := fun q h => by rw [← hAe]; exact Or.inr h
  have hS : va_S A s.heap s.heap [] := va_S.rf
  have hl := lv_entry ([.ref Ad0, .int Va0, .int Va1, .long Ja0]) (n := 5) (Nat.le_of_ble_eq_true rfl)
  rw [lg_entry_eq]
  generalize (lg_sl ([.ref Ad0, .int Va0, .int Va1, .long Ja0]) ++ List.replicate (5 - (lg_sl ([.ref Ad0, .int Va0, .int Va1, .long Ja0])).length) Slot.unset).toArray = ls at hl ⊢
  have hl : lv_has ls 5 [(0, .ref Ad0), (1, .int Va0), (2, .int Va1), (3, .long Ja0)] := hl
  have o_Fs0 := ow_0 k_Fs0
  refine lv_aload_n hx hb dX12_set_0 rfl (lv_at hl 0 rfl) ?_
  refine lv_aload_n hx hb dX12_set_1 rfl (lv_at hl 0 rfl) ?_
  refine lv_iload_n hx hb dX12_set_2 rfl (lv_at hl 1 rfl) ?_
  have hPc := hP.sub (ws' := [(Ad0, .inr (15, Fs0))]) [0] rfl
  have hDc := hD.sub (ws' := [(Ad0, .inr (15, Fs0))]) [0] (by decide) rfl
  have hKc := hK.sub (tys' := []) [] rfl
  have hFc := va_free (wc := [(Ad0, .inr (15, Fs0))]) hD hS hA [0] rfl
  refine va_calli (va_runV (As := [.int Va0]) (rest := [.ref Ad0]) ⟨hx, hb, hml, hown, hts⟩ (z_X12_isObject l dC dI s.heap.size Ad0 Fs0 Va0 (fh_sub o_Fs0.2 [1] rfl) ) (cwV 1 hts g_z_X12_set_z_X12_isObject_473 rfl rfl rfl (by decide +kernel) ⟨Nat.le_of_ble_eq_true rfl, Nat.le_of_ble_eq_true rfl⟩) ⟨fun a U g mk q => by obtain ⟨q0, q1, qP, qK, qD⟩ := q; exact ⟨q0, q1, qP, va_K.moved (u := U) (U := U.calling g mk a) (Vm.Alike.refl U.vm) qK, qD⟩, va_recv hK hP (ci := 15) (q0 := 0) rfl rfl, fun U hU hW => ⟨rfl, by rw [hU], by rw [hU]; exact hPc, va_K.moved hW.alike hKc, hDc.weaken (fun _ _ _ _ => trivial)⟩⟩ rfl rfl hl.1 rfl (lv_room (Nat.le_of_ble_eq_true rfl)) dX12_set_3 ⟨Nat.le_of_ble_eq_true rfl, Nat.le_of_ble_eq_true rfl⟩) hS (fun q _ h => hFc q h) hFc (fun r101 u t H1 locs ht hvm hw hB hz1 hk1 hS => ?_)
  obtain ⟨hP1, hK1, hD1⟩ := hB
  rw [ht] at hP1
  try dsimp only at hw
  obtain ⟨hP, hD⟩ := va_join (wr := []) (w1 := [(Ad0, .inr (15, Fs0))]) hP hD [0] [] rfl rfl (by decide) (by decide) hk1 hFc hP1 hD1
  have hK := hK.sub (tys' := []) [] rfl
  generalize H1 = H at hP hS ⊢
  have hP : va_P (dC, dI) vwCl [(Ad0, .inr (15, Fs0))] H := hP
  have hD : va_D A [(Ad0, .inr (15, Fs0))] := hD
  rcases hw with ⟨c102, er103⟩ | ⟨c104, c105, er106⟩
  · skip
    subst er103
    refine lv_if_eq (tgt := 33) hx hb dX12_set_6 (by decide) (fun c107 => ?_) (fun c107 => absurd c107 (by decide))
    refine lv_iconst (v := 1) hx hb dX12_set_33 (by decide) ?_
    refine lv_goto (tgt := 38) hx hb dX12_set_34 (by decide) ?_
    refine va_put (D := (dC, dI)) (ci := 15) (v := .int 1) (ty := .int) (C := RX12) (T := TX12) (N := 150) hx hb hts (in_z_X12_set_X12) tyX12 tyX12_ok nmX12 hown hK hP hD hS 0 rfl rfl 0 (by decide) (hts (.fieldLink RX12 388 "HeapWorksModel" "thrown" "I") (by decide +kernel)) (fun _ h9 => h9) rfl (by decide +kernel) rfl rfl (by rw [o_Fs0.2.1]; decide) dX12_set_38 (fun H locs hP hD hS => ?_)
    have hP : va_P (dC, dI) vwCl [(Ad0, .inr (15, (Fs0.set 0 (.int 1))))] H := hP
    have hD : va_D A [(Ad0, .inr (15, (Fs0.set 0 (.int 1))))] := hD
    have o_s108 := ow_set o_Fs0 0 (.int 1) (by decide) (l' := [(0, .int 1), (26, .int 0)]) (w' := [0]) rfl rfl
    generalize (Fs0.set 0 (.int 1)) = s108 at hP hD o_s108
    refine lv_aload_n hx hb dX12_set_41 rfl (lv_at hl 0 rfl) ?_
    refine va_get (D := (dC, dI)) (ci := 15) (v := .int 1) (C := RX12) (T := TX12) (N := 150) hx hb hts (in_z_X12_set_X12) hown hK hP 0 rfl rfl 0 (by decide) (hts (.fieldLink RX12 388 "HeapWorksModel" "thrown" "I") (by decide +kernel)) (fun _ h9 => h9) (ow_at o_s108 0 rfl) dX12_set_42 ?_
    refine lv_if_le (tgt := 50) hx hb dX12_set_45 (by decide) (fun c109 => absurd c109 (by decide)) (fun c109 => ?_)
    refine lv_iconst (v := 0) hx hb dX12_set_48 (by decide) ?_
    have hP9 := hP.sub (ws' := [(Ad0, .inr (15, s108))]) [0] rfl
    have hD9 := hD.sub (ws' := [(Ad0, .inr (15, s108))]) [0] (by decide) rfl
    have hK9 := hK.sub (tys' := []) [] rfl
    exact W.iret (v := 0) hx hb hr (fun t ht hW => ⟨⟨0, s108, rfl, (Or.inl ⟨c102, rfl, o_s108⟩), by rw [ht]; exact hP9, va_K.moved hW.alike hK9, hD9⟩, hS.F ht⟩) hS.2.2 dX12_set_49
  · skip
    subst er106
    refine lv_if_eq (tgt := 33) hx hb dX12_set_6 (by decide) (fun c110 => ?_) (fun c110 => absurd c110 (by decide))
    refine lv_iconst (v := 1) hx hb dX12_set_33 (by decide) ?_
    refine lv_goto (tgt := 38) hx hb dX12_set_34 (by decide) ?_
    refine va_put (D := (dC, dI)) (ci := 15) (v := .int 1) (ty := .int) (C := RX12) (T := TX12) (N := 150) hx hb hts (in_z_X12_set_X12) tyX12 tyX12_ok nmX12 hown hK hP hD hS 0 rfl rfl 0 (by decide) (hts (.fieldLink RX12 388 "HeapWorksModel" "thrown" "I") (by decide +kernel)) (fun _ h9 => h9) rfl (by decide +kernel) rfl rfl (by rw [o_Fs0.2.1]; decide) dX12_set_38 (fun H locs hP hD hS => ?_)
    have hP : va_P (dC, dI) vwCl [(Ad0, .inr (15, (Fs0.set 0 (.int 1))))] H := hP
    have hD : va_D A [(Ad0, .inr (15, (Fs0.set 0 (.int 1))))] := hD
    have o_s111 := ow_set o_Fs0 0 (.int 1) (by decide) (l' := [(0, .int 1), (26, .int 0)]) (w' := [0]) rfl rfl
    generalize (Fs0.set 0 (.int 1)) = s111 at hP hD o_s111
    refine lv_aload_n hx hb dX12_set_41 rfl (lv_at hl 0 rfl) ?_
    refine va_get (D := (dC, dI)) (ci := 15) (v := .int 1) (C := RX12) (T := TX12) (N := 150) hx hb hts (in_z_X12_set_X12) hown hK hP 0 rfl rfl 0 (by decide) (hts (.fieldLink RX12 388 "HeapWorksModel" "thrown" "I") (by decide +kernel)) (fun _ h9 => h9) (ow_at o_s111 0 rfl) dX12_set_42 ?_
    refine lv_if_le (tgt := 50) hx hb dX12_set_45 (by decide) (fun c112 => absurd c112 (by decide)) (fun c112 => ?_)
    refine lv_iconst (v := 0) hx hb dX12_set_48 (by decide) ?_
    have hP9 := hP.sub (ws' := [(Ad0, .inr (15, s111))]) [0] rfl
    have hD9 := hD.sub (ws' := [(Ad0, .inr (15, s111))]) [0] (by decide) rfl
    have hK9 := hK.sub (tys' := []) [] rfl
    exact W.iret (v := 0) hx hb hr (fun t ht hW => ⟨⟨0, s111, rfl, (Or.inr (⟨c104, c105, rfl, o_s111⟩)), by rw [ht]; exact hP9, va_K.moved hW.alike hK9, hD9⟩, hS.F ht⟩) hS.2.2 dX12_set_49

def l_z_X12_staticOf : List Cond := [.methodLink RX12 416 yX12_isClass, .instanceMethod yX12_isClass, .selects RX12 yX12_isClass yX12_isClass, .initialized RX12, .code yX12_isClass cX12_isClass 2 (some .boolean), .fieldLink RX12 413 "HeapWorksModel" "classes" "I"]
def w_z_X12_staticOf : List Cond := .code yX12_staticOf cX12_staticOf 5 (some .int) :: (l_z_X12_staticOf ++ (wsX120))
theorem in_z_X12_staticOf_X12 : ∀ w ∈ wsX120, w ∈ w_z_X12_staticOf := fun w h => List.mem_cons_of_mem _ (List.mem_append_right _ (h))
theorem g_z_X12_staticOf_z_X12_isClass_416 : GoodIn w_z_X12_staticOf (wsV RX12 416 RX12 yX12_isClass w_z_X12_isClass) := goodIn_app (goodIn_r (([.methodLink RX12 416 yX12_isClass, .instanceMethod yX12_isClass, .selects RX12 yX12_isClass yX12_isClass, .initialized RX12] : List Cond)) [1, 2, 3, 4] rfl (by decide +kernel)) (goodIn_ca (goodIn_r (.code yX12_isClass cX12_isClass 2 (some .boolean) :: l_z_X12_isClass) [5, 6] rfl (by decide +kernel)) (goodIn_in (in_z_X12_staticOf_X12) gd_X12))
set_option maxHeartbeats 4000000 in
set_option maxRecDepth 100000 in
theorem z_X12_staticOf (l : Launch) (dC : Nat → ClassId) (dI : Nat → Nat → Nat) (sz : Nat) (Ad0 : Nat) (Fs0 : List Value) (Va0 : Int32) (Va1 : Int32) (k_Fs0 : fh Fs0 150 [(20, .int 0)])  : Met l yX12_staticOf w_z_X12_staticOf ({ frames := 1, cells := 0, slots := 0, locals := 21 }) (va_Pc [.ref Ad0, .int Va0, .int Va1] (fun U => U.heap.size = sz ∧ Wd dC dI [] (fun _ => True) [(Ad0, .inr (15, Fs0))] U)) (va_Qi (fun (r : Int32) (u : Unit) => (Va0 < 0 ∧ r = (-1)) ∨ (¬ Va0 < 0 ∧ 0 ≤ Va0 ∧ r = (-1))) (fun (u : Unit) t => Wd dC dI [] (va_A [(Ad0, .inr (15, Fs0))] sz) [(Ad0, .inr (15, Fs0))] t) (va_A [(Ad0, .inr (15, Fs0))] sz))  0 0 (va_A [(Ad0, .inr (15, Fs0))] sz) := by
  refine Met.ofW (cc := cX12_staticOf) (maxL := 5) (ret := (some .int)) (by decide) rfl ?_
  intro p e s m args below meth c s₁ B hml hv
  obtain ⟨rfl, hsz, hP, hK, hD0⟩ := hv
  have hx := B.exec
  have hb := B.bytes
  have hr := B.returns
  have hts := atoms_spec (ws := w_z_X12_staticOf) B.pre
  have hown : s.vm.findClass RX12 = some m.cls := findClass_of_methodNamed B.named
  have hlocks := B.notSynchronized
  subst hsz
  have hD := hD0.self (sz := s.heap.size)
  generalize hAe : va_A [(Ad0, .inr (15, Fs0))] s.heap.size = A at hD ⊢
  have hA : ∀ q : Nat, s.heap.size ≤ q → A q := fun q h => by rw [← hAe]; exact Or.inr h
  have hS : va_S A s.heap s.heap [] := va_S.rf
  have hl := lv_entry ([.ref Ad0, .int Va0, .int Va1]) (n := 5) (Nat.le_of_ble_eq_true rfl)
  rw [lg_entry_eq]
  generalize (lg_sl ([.ref Ad0, .int Va0, .int Va1]) ++ List.replicate (5 - (lg_sl ([.ref Ad0, .int Va0, .int Va1])).length) Slot.unset).toArray = ls at hl ⊢
  have hl : lv_has ls 5 [(0, .ref Ad0), (1, .int Va0), (2, .int Va1)] := hl
  have o_Fs0 := ow_0 k_Fs0
  refine lv_iconst (v := (-1)) hx hb dX12_staticOf_0 (by decide) ?_
  refine lv_istore_n (lv' := [(3, .int (-1)), (0, .ref Ad0), (1, .int Va0), (2, .int Va1)]) hx hb dX12_staticOf_1 rfl hl (by decide) rfl (fun ls hl => ?_)
  refine lv_iconst (v := 0) hx hb dX12_staticOf_2 (by decide) ?_
  refine lv_istore (lv' := [(4, .int 0), (3, .int (-1)), (0, .ref Ad0), (1, .int Va0), (2, .int Va1)]) hx hb dX12_staticOf_3 hl (by decide) rfl (fun ls hl => ?_)
  refine lv_aload_n hx hb dX12_staticOf_5 rfl (lv_at hl 2 rfl) ?_
  refine lv_iload_n hx hb dX12_staticOf_6 rfl (lv_at hl 3 rfl) ?_
  have hPc := hP.sub (ws' := [(Ad0, .inr (15, Fs0))]) [0] rfl
  have hDc := hD.sub (ws' := [(Ad0, .inr (15, Fs0))]) [0] (by decide) rfl
  have hKc := hK.sub (tys' := []) [] rfl
  have hFc := va_free (wc := [(Ad0, .inr (15, Fs0))]) hD hS hA [0] rfl
  refine va_calli (va_runV (As := [.int Va0]) (rest := []) ⟨hx, hb, hml, hown, hts⟩ (z_X12_isClass l dC dI s.heap.size Ad0 Fs0 Va0 (fh_sub o_Fs0.2 [0] rfl) ) (cwV 1 hts g_z_X12_staticOf_z_X12_isClass_416 rfl rfl rfl (by decide +kernel) ⟨Nat.le_of_ble_eq_true rfl, Nat.le_of_ble_eq_true rfl⟩) ⟨fun a U g mk q => by obtain ⟨q0, q1, qP, qK, qD⟩ := q; exact ⟨q0, q1, qP, va_K.moved (u := U) (U := U.calling g mk a) (Vm.Alike.refl U.vm) qK, qD⟩, va_recv hK hP (ci := 15) (q0 := 0) rfl rfl, fun U hU hW => ⟨rfl, by rw [hU], by rw [hU]; exact hPc, va_K.moved hW.alike hKc, hDc.weaken (fun _ _ _ _ => trivial)⟩⟩ rfl rfl hl.1 rfl (lv_room (Nat.le_of_ble_eq_true rfl)) dX12_staticOf_7 ⟨Nat.le_of_ble_eq_true rfl, Nat.le_of_ble_eq_true rfl⟩) hS (fun q _ h => hFc q h) hFc (fun r101 u t H1 locs ht hvm hw hB hz1 hk1 hS => ?_)
  obtain ⟨hP1, hK1, hD1⟩ := hB
  rw [ht] at hP1
  try dsimp only at hw
  obtain ⟨hP, hD⟩ := va_join (wr := []) (w1 := [(Ad0, .inr (15, Fs0))]) hP hD [0] [] rfl rfl (by decide) (by decide) hk1 hFc hP1 hD1
  have hK := hK.sub (tys' := []) [] rfl
  generalize H1 = H at hP hS ⊢
  have hP : va_P (dC, dI) vwCl [(Ad0, .inr (15, Fs0))] H := hP
  have hD : va_D A [(Ad0, .inr (15, Fs0))] := hD
  rcases hw with ⟨c102, er103⟩ | ⟨c104, c105, er106⟩
  · skip
    subst er103
    refine lv_if_eq (tgt := 73) hx hb dX12_staticOf_10 (by decide) (fun c107 => ?_) (fun c107 => absurd c107 (by decide))
    refine lv_iload_n hx hb dX12_staticOf_73 rfl (lv_at hl 1 rfl) ?_
    have hP9 := hP.sub (ws' := [(Ad0, .inr (15, Fs0))]) [0] rfl
    have hD9 := hD.sub (ws' := [(Ad0, .inr (15, Fs0))]) [0] (by decide) rfl
    have hK9 := hK.sub (tys' := []) [] rfl
    exact W.iret (v := (-1)) hx hb hr (fun t ht hW => ⟨⟨(-1), (), rfl, (Or.inl ⟨c102, rfl⟩), by rw [ht]; exact hP9, va_K.moved hW.alike hK9, hD9⟩, hS.F ht⟩) hS.2.2 dX12_staticOf_74
  · skip
    subst er106
    refine lv_if_eq (tgt := 73) hx hb dX12_staticOf_10 (by decide) (fun c108 => ?_) (fun c108 => absurd c108 (by decide))
    refine lv_iload_n hx hb dX12_staticOf_73 rfl (lv_at hl 1 rfl) ?_
    have hP9 := hP.sub (ws' := [(Ad0, .inr (15, Fs0))]) [0] rfl
    have hD9 := hD.sub (ws' := [(Ad0, .inr (15, Fs0))]) [0] (by decide) rfl
    have hK9 := hK.sub (tys' := []) [] rfl
    exact W.iret (v := (-1)) hx hb hr (fun t ht hW => ⟨⟨(-1), (), rfl, (Or.inr (⟨c104, c105, rfl⟩)), by rw [ht]; exact hP9, va_K.moved hW.alike hK9, hD9⟩, hS.F ht⟩) hS.2.2 dX12_staticOf_74

def l_z_X12_setStatic : List Cond := [.methodLink RX12 506 yX12_staticOf, .instanceMethod yX12_staticOf, .selects RX12 yX12_staticOf yX12_staticOf, .initialized RX12, .fieldLink RX12 388 "HeapWorksModel" "thrown" "I", .code yX12_staticOf cX12_staticOf 5 (some .int), .methodLink RX12 416 yX12_isClass, .instanceMethod yX12_isClass, .selects RX12 yX12_isClass yX12_isClass, .code yX12_isClass cX12_isClass 2 (some .boolean), .fieldLink RX12 413 "HeapWorksModel" "classes" "I"]
def w_z_X12_setStatic : List Cond := .code yX12_setStatic cX12_setStatic 6 (some .int) :: (l_z_X12_setStatic ++ (wsX120))
theorem in_z_X12_setStatic_X12 : ∀ w ∈ wsX120, w ∈ w_z_X12_setStatic := fun w h => List.mem_cons_of_mem _ (List.mem_append_right _ (h))
theorem g_z_X12_setStatic_z_X12_staticOf_506 : GoodIn w_z_X12_setStatic (wsV RX12 506 RX12 yX12_staticOf w_z_X12_staticOf) := goodIn_app (goodIn_r (([.methodLink RX12 506 yX12_staticOf, .instanceMethod yX12_staticOf, .selects RX12 yX12_staticOf yX12_staticOf, .initialized RX12] : List Cond)) [1, 2, 3, 4] rfl (by decide +kernel)) (goodIn_ca (goodIn_r (.code yX12_staticOf cX12_staticOf 5 (some .int) :: l_z_X12_staticOf) [6, 7, 8, 9, 4, 10, 11] rfl (by decide +kernel)) (goodIn_in (in_z_X12_setStatic_X12) gd_X12))
set_option maxHeartbeats 4000000 in
set_option maxRecDepth 100000 in
theorem z_X12_setStatic (l : Launch) (dC : Nat → ClassId) (dI : Nat → Nat → Nat) (sz : Nat) (Ad0 : Nat) (Fs0 : List Value) (Va0 : Int32) (Va1 : Int32) (Ja0 : Int64) (k_Fs0 : fh Fs0 150 [(0, .int 0), (20, .int 0)])  : Met l yX12_setStatic w_z_X12_setStatic ({ frames := 2, cells := 0, slots := 0, locals := 45 }) (va_Pc [.ref Ad0, .int Va0, .int Va1, .long Ja0] (fun U => U.heap.size = sz ∧ Wd dC dI [] (fun _ => True) [(Ad0, .inr (15, Fs0))] U)) (va_Qi (fun (r : Int32) (u : List Value) => (Va0 < 0 ∧ r = 0 ∧ ow Fs0 (u) 150 [0] [(0, .int 1), (20, .int 0)]) ∨ (¬ Va0 < 0 ∧ 0 ≤ Va0 ∧ r = 0 ∧ ow Fs0 (u) 150 [0] [(0, .int 1), (20, .int 0)])) (fun (u : List Value) t => Wd dC dI [] (va_A [(Ad0, .inr (15, Fs0))] sz) [(Ad0, .inr (15, (u)))] t) (va_A [(Ad0, .inr (15, Fs0))] sz))  0 0 (va_A [(Ad0, .inr (15, Fs0))] sz) := by
  refine Met.ofW (cc := cX12_setStatic) (maxL := 6) (ret := (some .int)) (by decide) rfl ?_
  intro p e s m args below meth c s₁ B hml hv
  obtain ⟨rfl, hsz, hP, hK, hD0⟩ := hv
  have hx := B.exec
  have hb := B.bytes
  have hr := B.returns
  have hts := atoms_spec (ws := w_z_X12_setStatic) B.pre
  have hown : s.vm.findClass RX12 = some m.cls := findClass_of_methodNamed B.named
  have hlocks := B.notSynchronized
  subst hsz
  have hD := hD0.self (sz := s.heap.size)
  generalize hAe : va_A [(Ad0, .inr (15, Fs0))] s.heap.size = A at hD ⊢
  have hA : ∀ q : Nat, s.heap.size ≤ q → A q := fun q h => by rw [← hAe]; exact Or.inr h
  have hS : va_S A s.heap s.heap [] := va_S.rf
  have hl := lv_entry ([.ref Ad0, .int Va0, .int Va1, .long Ja0]) (n := 6) (Nat.le_of_ble_eq_true rfl)
  rw [lg_entry_eq]
  generalize (lg_sl ([.ref Ad0, .int Va0, .int Va1, .long Ja0]) ++ List.replicate (6 - (lg_sl ([.ref Ad0, .int Va0, .int Va1, .long Ja0])).length) Slot.unset).toArray = ls at hl ⊢
  have hl : lv_has ls 6 [(0, .ref Ad0), (1, .int Va0), (2, .int Va1), (3, .long Ja0)] := hl
  have o_Fs0 := ow_0 k_Fs0
  refine lv_aload_n hx hb dX12_setStatic_0 rfl (lv_at hl 0 rfl) ?_
  refine lv_iload_n hx hb dX12_setStatic_1 rfl (lv_at hl 1 rfl) ?_
  refine lv_iload_n hx hb dX12_setStatic_2 rfl (lv_at hl 2 rfl) ?_
  have hPc := hP.sub (ws' := [(Ad0, .inr (15, Fs0))]) [0] rfl
  have hDc := hD.sub (ws' := [(Ad0, .inr (15, Fs0))]) [0] (by decide) rfl
  have hKc := hK.sub (tys' := []) [] rfl
  have hFc := va_free (wc := [(Ad0, .inr (15, Fs0))]) hD hS hA [0] rfl
  refine va_calli (va_runV (As := [.int Va0, .int Va1]) (rest := []) ⟨hx, hb, hml, hown, hts⟩ (z_X12_staticOf l dC dI s.heap.size Ad0 Fs0 Va0 Va1 (fh_sub o_Fs0.2 [1] rfl) ) (cwV 2 hts g_z_X12_setStatic_z_X12_staticOf_506 rfl rfl rfl (by decide +kernel) ⟨Nat.le_of_ble_eq_true rfl, Nat.le_of_ble_eq_true rfl⟩) ⟨fun a U g mk q => by obtain ⟨q0, q1, qP, qK, qD⟩ := q; exact ⟨q0, q1, qP, va_K.moved (u := U) (U := U.calling g mk a) (Vm.Alike.refl U.vm) qK, qD⟩, va_recv hK hP (ci := 15) (q0 := 0) rfl rfl, fun U hU hW => ⟨rfl, by rw [hU], by rw [hU]; exact hPc, va_K.moved hW.alike hKc, hDc.weaken (fun _ _ _ _ => trivial)⟩⟩ rfl rfl hl.1 rfl (lv_room (Nat.le_of_ble_eq_true rfl)) dX12_setStatic_3 ⟨Nat.le_of_ble_eq_true rfl, Nat.le_of_ble_eq_true rfl⟩) hS (fun q _ h => hFc q h) hFc (fun r101 u t H1 locs ht hvm hw hB hz1 hk1 hS => ?_)
  obtain ⟨hP1, hK1, hD1⟩ := hB
  rw [ht] at hP1
  try dsimp only at hw
  obtain ⟨hP, hD⟩ := va_join (wr := []) (w1 := [(Ad0, .inr (15, Fs0))]) hP hD [0] [] rfl rfl (by decide) (by decide) hk1 hFc hP1 hD1
  have hK := hK.sub (tys' := []) [] rfl
  generalize H1 = H at hP hS ⊢
  have hP : va_P (dC, dI) vwCl [(Ad0, .inr (15, Fs0))] H := hP
  have hD : va_D A [(Ad0, .inr (15, Fs0))] := hD
  rcases hw with ⟨c102, er103⟩ | ⟨c104, c105, er106⟩
  · skip
    subst er103
    refine lv_istore (lv' := [(5, .int (-1)), (0, .ref Ad0), (1, .int Va0), (2, .int Va1), (3, .long Ja0)]) hx hb dX12_setStatic_6 hl (by decide) rfl (fun ls hl => ?_)
    refine lv_aload_n hx hb dX12_setStatic_8 rfl (lv_at hl 1 rfl) ?_
    refine lv_iload hx hb dX12_setStatic_9 (lv_at hl 0 rfl) ?_
    refine lv_iconst (v := (-1)) hx hb dX12_setStatic_11 (by decide) ?_
    refine lv_icmp_ne (tgt := 19) hx hb dX12_setStatic_12 (by decide) (fun c107 => absurd c107 (by decide)) (fun c107 => ?_)
    refine lv_iconst (v := 1) hx hb dX12_setStatic_15 (by decide) ?_
    refine lv_goto (tgt := 20) hx hb dX12_setStatic_16 (by decide) ?_
    refine va_put (D := (dC, dI)) (ci := 15) (v := .int 1) (ty := .int) (C := RX12) (T := TX12) (N := 150) hx hb hts (in_z_X12_setStatic_X12) tyX12 tyX12_ok nmX12 hown hK hP hD hS 0 rfl rfl 0 (by decide) (hts (.fieldLink RX12 388 "HeapWorksModel" "thrown" "I") (by decide +kernel)) (fun _ h9 => h9) rfl (by decide +kernel) rfl rfl (by rw [o_Fs0.2.1]; decide) dX12_setStatic_20 (fun H locs hP hD hS => ?_)
    have hP : va_P (dC, dI) vwCl [(Ad0, .inr (15, (Fs0.set 0 (.int 1))))] H := hP
    have hD : va_D A [(Ad0, .inr (15, (Fs0.set 0 (.int 1))))] := hD
    have o_s108 := ow_set o_Fs0 0 (.int 1) (by decide) (l' := [(0, .int 1), (20, .int 0)]) (w' := [0]) rfl rfl
    generalize (Fs0.set 0 (.int 1)) = s108 at hP hD o_s108
    refine lv_aload_n hx hb dX12_setStatic_23 rfl (lv_at hl 1 rfl) ?_
    refine va_get (D := (dC, dI)) (ci := 15) (v := .int 1) (C := RX12) (T := TX12) (N := 150) hx hb hts (in_z_X12_setStatic_X12) hown hK hP 0 rfl rfl 0 (by decide) (hts (.fieldLink RX12 388 "HeapWorksModel" "thrown" "I") (by decide +kernel)) (fun _ h9 => h9) (ow_at o_s108 0 rfl) dX12_setStatic_24 ?_
    refine lv_if_le (tgt := 32) hx hb dX12_setStatic_27 (by decide) (fun c109 => absurd c109 (by decide)) (fun c109 => ?_)
    refine lv_iconst (v := 0) hx hb dX12_setStatic_30 (by decide) ?_
    have hP9 := hP.sub (ws' := [(Ad0, .inr (15, s108))]) [0] rfl
    have hD9 := hD.sub (ws' := [(Ad0, .inr (15, s108))]) [0] (by decide) rfl
    have hK9 := hK.sub (tys' := []) [] rfl
    exact W.iret (v := 0) hx hb hr (fun t ht hW => ⟨⟨0, s108, rfl, (Or.inl ⟨c102, rfl, o_s108⟩), by rw [ht]; exact hP9, va_K.moved hW.alike hK9, hD9⟩, hS.F ht⟩) hS.2.2 dX12_setStatic_31
  · skip
    subst er106
    refine lv_istore (lv' := [(5, .int (-1)), (0, .ref Ad0), (1, .int Va0), (2, .int Va1), (3, .long Ja0)]) hx hb dX12_setStatic_6 hl (by decide) rfl (fun ls hl => ?_)
    refine lv_aload_n hx hb dX12_setStatic_8 rfl (lv_at hl 1 rfl) ?_
    refine lv_iload hx hb dX12_setStatic_9 (lv_at hl 0 rfl) ?_
    refine lv_iconst (v := (-1)) hx hb dX12_setStatic_11 (by decide) ?_
    refine lv_icmp_ne (tgt := 19) hx hb dX12_setStatic_12 (by decide) (fun c110 => absurd c110 (by decide)) (fun c110 => ?_)
    refine lv_iconst (v := 1) hx hb dX12_setStatic_15 (by decide) ?_
    refine lv_goto (tgt := 20) hx hb dX12_setStatic_16 (by decide) ?_
    refine va_put (D := (dC, dI)) (ci := 15) (v := .int 1) (ty := .int) (C := RX12) (T := TX12) (N := 150) hx hb hts (in_z_X12_setStatic_X12) tyX12 tyX12_ok nmX12 hown hK hP hD hS 0 rfl rfl 0 (by decide) (hts (.fieldLink RX12 388 "HeapWorksModel" "thrown" "I") (by decide +kernel)) (fun _ h9 => h9) rfl (by decide +kernel) rfl rfl (by rw [o_Fs0.2.1]; decide) dX12_setStatic_20 (fun H locs hP hD hS => ?_)
    have hP : va_P (dC, dI) vwCl [(Ad0, .inr (15, (Fs0.set 0 (.int 1))))] H := hP
    have hD : va_D A [(Ad0, .inr (15, (Fs0.set 0 (.int 1))))] := hD
    have o_s111 := ow_set o_Fs0 0 (.int 1) (by decide) (l' := [(0, .int 1), (20, .int 0)]) (w' := [0]) rfl rfl
    generalize (Fs0.set 0 (.int 1)) = s111 at hP hD o_s111
    refine lv_aload_n hx hb dX12_setStatic_23 rfl (lv_at hl 1 rfl) ?_
    refine va_get (D := (dC, dI)) (ci := 15) (v := .int 1) (C := RX12) (T := TX12) (N := 150) hx hb hts (in_z_X12_setStatic_X12) hown hK hP 0 rfl rfl 0 (by decide) (hts (.fieldLink RX12 388 "HeapWorksModel" "thrown" "I") (by decide +kernel)) (fun _ h9 => h9) (ow_at o_s111 0 rfl) dX12_setStatic_24 ?_
    refine lv_if_le (tgt := 32) hx hb dX12_setStatic_27 (by decide) (fun c112 => absurd c112 (by decide)) (fun c112 => ?_)
    refine lv_iconst (v := 0) hx hb dX12_setStatic_30 (by decide) ?_
    have hP9 := hP.sub (ws' := [(Ad0, .inr (15, s111))]) [0] rfl
    have hD9 := hD.sub (ws' := [(Ad0, .inr (15, s111))]) [0] (by decide) rfl
    have hK9 := hK.sub (tys' := []) [] rfl
    exact W.iret (v := 0) hx hb hr (fun t ht hW => ⟨⟨0, s111, rfl, (Or.inr (⟨c104, c105, rfl, o_s111⟩)), by rw [ht]; exact hP9, va_K.moved hW.alike hK9, hD9⟩, hS.F ht⟩) hS.2.2 dX12_setStatic_31

def l_z_X12_get : List Cond := [.methodLink RX12 473 yX12_isObject, .instanceMethod yX12_isObject, .selects RX12 yX12_isObject yX12_isObject, .initialized RX12, .fieldLink RX12 388 "HeapWorksModel" "thrown" "I", .code yX12_isObject cX12_isObject 2 (some .boolean), .fieldLink RX12 435 "HeapWorksModel" "objects" "I"]
def w_z_X12_get : List Cond := .code yX12_get cX12_get 3 (some .long) :: (l_z_X12_get ++ (wsX120))
theorem in_z_X12_get_X12 : ∀ w ∈ wsX120, w ∈ w_z_X12_get := fun w h => List.mem_cons_of_mem _ (List.mem_append_right _ (h))
theorem g_z_X12_get_z_X12_isObject_473 : GoodIn w_z_X12_get (wsV RX12 473 RX12 yX12_isObject w_z_X12_isObject) := goodIn_app (goodIn_r (([.methodLink RX12 473 yX12_isObject, .instanceMethod yX12_isObject, .selects RX12 yX12_isObject yX12_isObject, .initialized RX12] : List Cond)) [1, 2, 3, 4] rfl (by decide +kernel)) (goodIn_ca (goodIn_r (.code yX12_isObject cX12_isObject 2 (some .boolean) :: l_z_X12_isObject) [6, 7] rfl (by decide +kernel)) (goodIn_in (in_z_X12_get_X12) gd_X12))
set_option maxHeartbeats 4000000 in
set_option maxRecDepth 100000 in
theorem z_X12_get (l : Launch) (dC : Nat → ClassId) (dI : Nat → Nat → Nat) (sz : Nat) (Ad0 : Nat) (Fs0 : List Value) (Va0 : Int32) (Va1 : Int32) (k_Fs0 : fh Fs0 150 [(0, .int 0), (26, .int 0)])  : Met l yX12_get w_z_X12_get ({ frames := 1, cells := 0, slots := 0, locals := 21 }) (va_Pc [.ref Ad0, .int Va0, .int Va1] (fun U => U.heap.size = sz ∧ Wd dC dI [] (fun _ => True) [(Ad0, .inr (15, Fs0))] U)) (va_Ql (fun (r : Int64) (u : List Value) => (Va0 < 0 ∧ r = 0 ∧ ow Fs0 (u) 150 [0] [(0, .int 1), (26, .int 0)]) ∨ (¬ Va0 < 0 ∧ 0 ≤ Va0 ∧ r = 0 ∧ ow Fs0 (u) 150 [0] [(0, .int 1), (26, .int 0)])) (fun (u : List Value) t => Wd dC dI [] (va_A [(Ad0, .inr (15, Fs0))] sz) [(Ad0, .inr (15, (u)))] t) (va_A [(Ad0, .inr (15, Fs0))] sz))  0 0 (va_A [(Ad0, .inr (15, Fs0))] sz) := by
  refine Met.ofW (cc := cX12_get) (maxL := 3) (ret := (some .long)) (by decide) rfl ?_
  intro p e s m args below meth c s₁ B hml hv
  obtain ⟨rfl, hsz, hP, hK, hD0⟩ := hv
  have hx := B.exec
  have hb := B.bytes
  have hr := B.returns
  have hts := atoms_spec (ws := w_z_X12_get) B.pre
  have hown : s.vm.findClass RX12 = some m.cls := findClass_of_methodNamed B.named
  have hlocks := B.notSynchronized
  subst hsz
  have hD := hD0.self (sz := s.heap.size)
  generalize hAe : va_A [(Ad0, .inr (15, Fs0))] s.heap.size = A at hD ⊢
  have hA : ∀ q : Nat, s.heap.size ≤ q → A q := fun q h => by rw [← hAe]; exact Or.inr h
  have hS : va_S A s.heap s.heap [] := va_S.rf
  have hl := lv_entry ([.ref Ad0, .int Va0, .int Va1]) (n := 3) (Nat.le_of_ble_eq_true rfl)
  rw [lg_entry_eq]
  generalize (lg_sl ([.ref Ad0, .int Va0, .int Va1]) ++ List.replicate (3 - (lg_sl ([.ref Ad0, .int Va0, .int Va1])).length) Slot.unset).toArray = ls at hl ⊢
  have hl : lv_has ls 3 [(0, .ref Ad0), (1, .int Va0), (2, .int Va1)] := hl
  have o_Fs0 := ow_0 k_Fs0
  refine lv_aload_n hx hb dX12_get_0 rfl (lv_at hl 0 rfl) ?_
  refine lv_aload_n hx hb dX12_get_1 rfl (lv_at hl 0 rfl) ?_
  refine lv_iload_n hx hb dX12_get_2 rfl (lv_at hl 1 rfl) ?_
  have hPc := hP.sub (ws' := [(Ad0, .inr (15, Fs0))]) [0] rfl
  have hDc := hD.sub (ws' := [(Ad0, .inr (15, Fs0))]) [0] (by decide) rfl
  have hKc := hK.sub (tys' := []) [] rfl
  have hFc := va_free (wc := [(Ad0, .inr (15, Fs0))]) hD hS hA [0] rfl
  refine va_calli (va_runV (As := [.int Va0]) (rest := [.ref Ad0]) ⟨hx, hb, hml, hown, hts⟩ (z_X12_isObject l dC dI s.heap.size Ad0 Fs0 Va0 (fh_sub o_Fs0.2 [1] rfl) ) (cwV 1 hts g_z_X12_get_z_X12_isObject_473 rfl rfl rfl (by decide +kernel) ⟨Nat.le_of_ble_eq_true rfl, Nat.le_of_ble_eq_true rfl⟩) ⟨fun a U g mk q => by obtain ⟨q0, q1, qP, qK, qD⟩ := q; exact ⟨q0, q1, qP, va_K.moved (u := U) (U := U.calling g mk a) (Vm.Alike.refl U.vm) qK, qD⟩, va_recv hK hP (ci := 15) (q0 := 0) rfl rfl, fun U hU hW => ⟨rfl, by rw [hU], by rw [hU]; exact hPc, va_K.moved hW.alike hKc, hDc.weaken (fun _ _ _ _ => trivial)⟩⟩ rfl rfl hl.1 rfl (lv_room (Nat.le_of_ble_eq_true rfl)) dX12_get_3 ⟨Nat.le_of_ble_eq_true rfl, Nat.le_of_ble_eq_true rfl⟩) hS (fun q _ h => hFc q h) hFc (fun r101 u t H1 locs ht hvm hw hB hz1 hk1 hS => ?_)
  obtain ⟨hP1, hK1, hD1⟩ := hB
  rw [ht] at hP1
  try dsimp only at hw
  obtain ⟨hP, hD⟩ := va_join (wr := []) (w1 := [(Ad0, .inr (15, Fs0))]) hP hD [0] [] rfl rfl (by decide) (by decide) hk1 hFc hP1 hD1
  have hK := hK.sub (tys' := []) [] rfl
  generalize H1 = H at hP hS ⊢
  have hP : va_P (dC, dI) vwCl [(Ad0, .inr (15, Fs0))] H := hP
  have hD : va_D A [(Ad0, .inr (15, Fs0))] := hD
  rcases hw with ⟨c102, er103⟩ | ⟨c104, c105, er106⟩
  · skip
    subst er103
    refine lv_if_eq (tgt := 33) hx hb dX12_get_6 (by decide) (fun c107 => ?_) (fun c107 => absurd c107 (by decide))
    refine lv_iconst (v := 1) hx hb dX12_get_33 (by decide) ?_
    refine lv_goto (tgt := 38) hx hb dX12_get_34 (by decide) ?_
    refine va_put (D := (dC, dI)) (ci := 15) (v := .int 1) (ty := .int) (C := RX12) (T := TX12) (N := 150) hx hb hts (in_z_X12_get_X12) tyX12 tyX12_ok nmX12 hown hK hP hD hS 0 rfl rfl 0 (by decide) (hts (.fieldLink RX12 388 "HeapWorksModel" "thrown" "I") (by decide +kernel)) (fun _ h9 => h9) rfl (by decide +kernel) rfl rfl (by rw [o_Fs0.2.1]; decide) dX12_get_38 (fun H locs hP hD hS => ?_)
    have hP : va_P (dC, dI) vwCl [(Ad0, .inr (15, (Fs0.set 0 (.int 1))))] H := hP
    have hD : va_D A [(Ad0, .inr (15, (Fs0.set 0 (.int 1))))] := hD
    have o_s108 := ow_set o_Fs0 0 (.int 1) (by decide) (l' := [(0, .int 1), (26, .int 0)]) (w' := [0]) rfl rfl
    generalize (Fs0.set 0 (.int 1)) = s108 at hP hD o_s108
    refine lv_aload_n hx hb dX12_get_41 rfl (lv_at hl 0 rfl) ?_
    refine va_get (D := (dC, dI)) (ci := 15) (v := .int 1) (C := RX12) (T := TX12) (N := 150) hx hb hts (in_z_X12_get_X12) hown hK hP 0 rfl rfl 0 (by decide) (hts (.fieldLink RX12 388 "HeapWorksModel" "thrown" "I") (by decide +kernel)) (fun _ h9 => h9) (ow_at o_s108 0 rfl) dX12_get_42 ?_
    refine lv_if_le (tgt := 52) hx hb dX12_get_45 (by decide) (fun c109 => absurd c109 (by decide)) (fun c109 => ?_)
    refine lv_lconst (v := 0) hx hb dX12_get_48 (by decide) ?_
    refine lv_goto (tgt := 65) hx hb dX12_get_49 (by decide) ?_
    have hP9 := hP.sub (ws' := [(Ad0, .inr (15, s108))]) [0] rfl
    have hD9 := hD.sub (ws' := [(Ad0, .inr (15, s108))]) [0] (by decide) rfl
    have hK9 := hK.sub (tys' := []) [] rfl
    exact W.lret (v := 0) hx hb hr (fun t ht hW => ⟨⟨0, s108, rfl, (Or.inl ⟨c102, rfl, o_s108⟩), by rw [ht]; exact hP9, va_K.moved hW.alike hK9, hD9⟩, hS.F ht⟩) hS.2.2 dX12_get_65
  · skip
    subst er106
    refine lv_if_eq (tgt := 33) hx hb dX12_get_6 (by decide) (fun c110 => ?_) (fun c110 => absurd c110 (by decide))
    refine lv_iconst (v := 1) hx hb dX12_get_33 (by decide) ?_
    refine lv_goto (tgt := 38) hx hb dX12_get_34 (by decide) ?_
    refine va_put (D := (dC, dI)) (ci := 15) (v := .int 1) (ty := .int) (C := RX12) (T := TX12) (N := 150) hx hb hts (in_z_X12_get_X12) tyX12 tyX12_ok nmX12 hown hK hP hD hS 0 rfl rfl 0 (by decide) (hts (.fieldLink RX12 388 "HeapWorksModel" "thrown" "I") (by decide +kernel)) (fun _ h9 => h9) rfl (by decide +kernel) rfl rfl (by rw [o_Fs0.2.1]; decide) dX12_get_38 (fun H locs hP hD hS => ?_)
    have hP : va_P (dC, dI) vwCl [(Ad0, .inr (15, (Fs0.set 0 (.int 1))))] H := hP
    have hD : va_D A [(Ad0, .inr (15, (Fs0.set 0 (.int 1))))] := hD
    have o_s111 := ow_set o_Fs0 0 (.int 1) (by decide) (l' := [(0, .int 1), (26, .int 0)]) (w' := [0]) rfl rfl
    generalize (Fs0.set 0 (.int 1)) = s111 at hP hD o_s111
    refine lv_aload_n hx hb dX12_get_41 rfl (lv_at hl 0 rfl) ?_
    refine va_get (D := (dC, dI)) (ci := 15) (v := .int 1) (C := RX12) (T := TX12) (N := 150) hx hb hts (in_z_X12_get_X12) hown hK hP 0 rfl rfl 0 (by decide) (hts (.fieldLink RX12 388 "HeapWorksModel" "thrown" "I") (by decide +kernel)) (fun _ h9 => h9) (ow_at o_s111 0 rfl) dX12_get_42 ?_
    refine lv_if_le (tgt := 52) hx hb dX12_get_45 (by decide) (fun c112 => absurd c112 (by decide)) (fun c112 => ?_)
    refine lv_lconst (v := 0) hx hb dX12_get_48 (by decide) ?_
    refine lv_goto (tgt := 65) hx hb dX12_get_49 (by decide) ?_
    have hP9 := hP.sub (ws' := [(Ad0, .inr (15, s111))]) [0] rfl
    have hD9 := hD.sub (ws' := [(Ad0, .inr (15, s111))]) [0] (by decide) rfl
    have hK9 := hK.sub (tys' := []) [] rfl
    exact W.lret (v := 0) hx hb hr (fun t ht hW => ⟨⟨0, s111, rfl, (Or.inr (⟨c104, c105, rfl, o_s111⟩)), by rw [ht]; exact hP9, va_K.moved hW.alike hK9, hD9⟩, hS.F ht⟩) hS.2.2 dX12_get_65

def l_z_X12_getStatic : List Cond := [.methodLink RX12 506 yX12_staticOf, .instanceMethod yX12_staticOf, .selects RX12 yX12_staticOf yX12_staticOf, .initialized RX12, .fieldLink RX12 388 "HeapWorksModel" "thrown" "I", .code yX12_staticOf cX12_staticOf 5 (some .int), .methodLink RX12 416 yX12_isClass, .instanceMethod yX12_isClass, .selects RX12 yX12_isClass yX12_isClass, .code yX12_isClass cX12_isClass 2 (some .boolean), .fieldLink RX12 413 "HeapWorksModel" "classes" "I"]
def w_z_X12_getStatic : List Cond := .code yX12_getStatic cX12_getStatic 4 (some .long) :: (l_z_X12_getStatic ++ (wsX120))
theorem in_z_X12_getStatic_X12 : ∀ w ∈ wsX120, w ∈ w_z_X12_getStatic := fun w h => List.mem_cons_of_mem _ (List.mem_append_right _ (h))
theorem g_z_X12_getStatic_z_X12_staticOf_506 : GoodIn w_z_X12_getStatic (wsV RX12 506 RX12 yX12_staticOf w_z_X12_staticOf) := goodIn_app (goodIn_r (([.methodLink RX12 506 yX12_staticOf, .instanceMethod yX12_staticOf, .selects RX12 yX12_staticOf yX12_staticOf, .initialized RX12] : List Cond)) [1, 2, 3, 4] rfl (by decide +kernel)) (goodIn_ca (goodIn_r (.code yX12_staticOf cX12_staticOf 5 (some .int) :: l_z_X12_staticOf) [6, 7, 8, 9, 4, 10, 11] rfl (by decide +kernel)) (goodIn_in (in_z_X12_getStatic_X12) gd_X12))
set_option maxHeartbeats 4000000 in
set_option maxRecDepth 100000 in
theorem z_X12_getStatic (l : Launch) (dC : Nat → ClassId) (dI : Nat → Nat → Nat) (sz : Nat) (Ad0 : Nat) (Fs0 : List Value) (Va0 : Int32) (Va1 : Int32) (k_Fs0 : fh Fs0 150 [(0, .int 0), (20, .int 0)])  : Met l yX12_getStatic w_z_X12_getStatic ({ frames := 2, cells := 0, slots := 0, locals := 45 }) (va_Pc [.ref Ad0, .int Va0, .int Va1] (fun U => U.heap.size = sz ∧ Wd dC dI [] (fun _ => True) [(Ad0, .inr (15, Fs0))] U)) (va_Ql (fun (r : Int64) (u : List Value) => (Va0 < 0 ∧ r = 0 ∧ ow Fs0 (u) 150 [0] [(0, .int 1), (20, .int 0)]) ∨ (¬ Va0 < 0 ∧ 0 ≤ Va0 ∧ r = 0 ∧ ow Fs0 (u) 150 [0] [(0, .int 1), (20, .int 0)])) (fun (u : List Value) t => Wd dC dI [] (va_A [(Ad0, .inr (15, Fs0))] sz) [(Ad0, .inr (15, (u)))] t) (va_A [(Ad0, .inr (15, Fs0))] sz))  0 0 (va_A [(Ad0, .inr (15, Fs0))] sz) := by
  refine Met.ofW (cc := cX12_getStatic) (maxL := 4) (ret := (some .long)) (by decide) rfl ?_
  intro p e s m args below meth c s₁ B hml hv
  obtain ⟨rfl, hsz, hP, hK, hD0⟩ := hv
  have hx := B.exec
  have hb := B.bytes
  have hr := B.returns
  have hts := atoms_spec (ws := w_z_X12_getStatic) B.pre
  have hown : s.vm.findClass RX12 = some m.cls := findClass_of_methodNamed B.named
  have hlocks := B.notSynchronized
  subst hsz
  have hD := hD0.self (sz := s.heap.size)
  generalize hAe : va_A [(Ad0, .inr (15, Fs0))] s.heap.size = A at hD ⊢
  have hA : ∀ q : Nat, s.heap.size ≤ q → A q := fun q h => by rw [← hAe]; exact Or.inr h
  have hS : va_S A s.heap s.heap [] := va_S.rf
  have hl := lv_entry ([.ref Ad0, .int Va0, .int Va1]) (n := 4) (Nat.le_of_ble_eq_true rfl)
  rw [lg_entry_eq]
  generalize (lg_sl ([.ref Ad0, .int Va0, .int Va1]) ++ List.replicate (4 - (lg_sl ([.ref Ad0, .int Va0, .int Va1])).length) Slot.unset).toArray = ls at hl ⊢
  have hl : lv_has ls 4 [(0, .ref Ad0), (1, .int Va0), (2, .int Va1)] := hl
  have o_Fs0 := ow_0 k_Fs0
  refine lv_aload_n hx hb dX12_getStatic_0 rfl (lv_at hl 0 rfl) ?_
  refine lv_iload_n hx hb dX12_getStatic_1 rfl (lv_at hl 1 rfl) ?_
  refine lv_iload_n hx hb dX12_getStatic_2 rfl (lv_at hl 2 rfl) ?_
  have hPc := hP.sub (ws' := [(Ad0, .inr (15, Fs0))]) [0] rfl
  have hDc := hD.sub (ws' := [(Ad0, .inr (15, Fs0))]) [0] (by decide) rfl
  have hKc := hK.sub (tys' := []) [] rfl
  have hFc := va_free (wc := [(Ad0, .inr (15, Fs0))]) hD hS hA [0] rfl
  refine va_calli (va_runV (As := [.int Va0, .int Va1]) (rest := []) ⟨hx, hb, hml, hown, hts⟩ (z_X12_staticOf l dC dI s.heap.size Ad0 Fs0 Va0 Va1 (fh_sub o_Fs0.2 [1] rfl) ) (cwV 2 hts g_z_X12_getStatic_z_X12_staticOf_506 rfl rfl rfl (by decide +kernel) ⟨Nat.le_of_ble_eq_true rfl, Nat.le_of_ble_eq_true rfl⟩) ⟨fun a U g mk q => by obtain ⟨q0, q1, qP, qK, qD⟩ := q; exact ⟨q0, q1, qP, va_K.moved (u := U) (U := U.calling g mk a) (Vm.Alike.refl U.vm) qK, qD⟩, va_recv hK hP (ci := 15) (q0 := 0) rfl rfl, fun U hU hW => ⟨rfl, by rw [hU], by rw [hU]; exact hPc, va_K.moved hW.alike hKc, hDc.weaken (fun _ _ _ _ => trivial)⟩⟩ rfl rfl hl.1 rfl (lv_room (Nat.le_of_ble_eq_true rfl)) dX12_getStatic_3 ⟨Nat.le_of_ble_eq_true rfl, Nat.le_of_ble_eq_true rfl⟩) hS (fun q _ h => hFc q h) hFc (fun r101 u t H1 locs ht hvm hw hB hz1 hk1 hS => ?_)
  obtain ⟨hP1, hK1, hD1⟩ := hB
  rw [ht] at hP1
  try dsimp only at hw
  obtain ⟨hP, hD⟩ := va_join (wr := []) (w1 := [(Ad0, .inr (15, Fs0))]) hP hD [0] [] rfl rfl (by decide) (by decide) hk1 hFc hP1 hD1
  have hK := hK.sub (tys' := []) [] rfl
  generalize H1 = H at hP hS ⊢
  have hP : va_P (dC, dI) vwCl [(Ad0, .inr (15, Fs0))] H := hP
  have hD : va_D A [(Ad0, .inr (15, Fs0))] := hD
  rcases hw with ⟨c102, er103⟩ | ⟨c104, c105, er106⟩
  · skip
    subst er103
    refine lv_istore_n (lv' := [(3, .int (-1)), (0, .ref Ad0), (1, .int Va0), (2, .int Va1)]) hx hb dX12_getStatic_6 rfl hl (by decide) rfl (fun ls hl => ?_)
    refine lv_aload_n hx hb dX12_getStatic_7 rfl (lv_at hl 1 rfl) ?_
    refine lv_iload_n hx hb dX12_getStatic_8 rfl (lv_at hl 0 rfl) ?_
    refine lv_iconst (v := (-1)) hx hb dX12_getStatic_9 (by decide) ?_
    refine lv_icmp_ne (tgt := 17) hx hb dX12_getStatic_10 (by decide) (fun c107 => absurd c107 (by decide)) (fun c107 => ?_)
    refine lv_iconst (v := 1) hx hb dX12_getStatic_13 (by decide) ?_
    refine lv_goto (tgt := 18) hx hb dX12_getStatic_14 (by decide) ?_
    refine va_put (D := (dC, dI)) (ci := 15) (v := .int 1) (ty := .int) (C := RX12) (T := TX12) (N := 150) hx hb hts (in_z_X12_getStatic_X12) tyX12 tyX12_ok nmX12 hown hK hP hD hS 0 rfl rfl 0 (by decide) (hts (.fieldLink RX12 388 "HeapWorksModel" "thrown" "I") (by decide +kernel)) (fun _ h9 => h9) rfl (by decide +kernel) rfl rfl (by rw [o_Fs0.2.1]; decide) dX12_getStatic_18 (fun H locs hP hD hS => ?_)
    have hP : va_P (dC, dI) vwCl [(Ad0, .inr (15, (Fs0.set 0 (.int 1))))] H := hP
    have hD : va_D A [(Ad0, .inr (15, (Fs0.set 0 (.int 1))))] := hD
    have o_s108 := ow_set o_Fs0 0 (.int 1) (by decide) (l' := [(0, .int 1), (20, .int 0)]) (w' := [0]) rfl rfl
    generalize (Fs0.set 0 (.int 1)) = s108 at hP hD o_s108
    refine lv_aload_n hx hb dX12_getStatic_21 rfl (lv_at hl 1 rfl) ?_
    refine va_get (D := (dC, dI)) (ci := 15) (v := .int 1) (C := RX12) (T := TX12) (N := 150) hx hb hts (in_z_X12_getStatic_X12) hown hK hP 0 rfl rfl 0 (by decide) (hts (.fieldLink RX12 388 "HeapWorksModel" "thrown" "I") (by decide +kernel)) (fun _ h9 => h9) (ow_at o_s108 0 rfl) dX12_getStatic_22 ?_
    refine lv_if_le (tgt := 32) hx hb dX12_getStatic_25 (by decide) (fun c109 => absurd c109 (by decide)) (fun c109 => ?_)
    refine lv_lconst (v := 0) hx hb dX12_getStatic_28 (by decide) ?_
    refine lv_goto (tgt := 38) hx hb dX12_getStatic_29 (by decide) ?_
    have hP9 := hP.sub (ws' := [(Ad0, .inr (15, s108))]) [0] rfl
    have hD9 := hD.sub (ws' := [(Ad0, .inr (15, s108))]) [0] (by decide) rfl
    have hK9 := hK.sub (tys' := []) [] rfl
    exact W.lret (v := 0) hx hb hr (fun t ht hW => ⟨⟨0, s108, rfl, (Or.inl ⟨c102, rfl, o_s108⟩), by rw [ht]; exact hP9, va_K.moved hW.alike hK9, hD9⟩, hS.F ht⟩) hS.2.2 dX12_getStatic_38
  · skip
    subst er106
    refine lv_istore_n (lv' := [(3, .int (-1)), (0, .ref Ad0), (1, .int Va0), (2, .int Va1)]) hx hb dX12_getStatic_6 rfl hl (by decide) rfl (fun ls hl => ?_)
    refine lv_aload_n hx hb dX12_getStatic_7 rfl (lv_at hl 1 rfl) ?_
    refine lv_iload_n hx hb dX12_getStatic_8 rfl (lv_at hl 0 rfl) ?_
    refine lv_iconst (v := (-1)) hx hb dX12_getStatic_9 (by decide) ?_
    refine lv_icmp_ne (tgt := 17) hx hb dX12_getStatic_10 (by decide) (fun c110 => absurd c110 (by decide)) (fun c110 => ?_)
    refine lv_iconst (v := 1) hx hb dX12_getStatic_13 (by decide) ?_
    refine lv_goto (tgt := 18) hx hb dX12_getStatic_14 (by decide) ?_
    refine va_put (D := (dC, dI)) (ci := 15) (v := .int 1) (ty := .int) (C := RX12) (T := TX12) (N := 150) hx hb hts (in_z_X12_getStatic_X12) tyX12 tyX12_ok nmX12 hown hK hP hD hS 0 rfl rfl 0 (by decide) (hts (.fieldLink RX12 388 "HeapWorksModel" "thrown" "I") (by decide +kernel)) (fun _ h9 => h9) rfl (by decide +kernel) rfl rfl (by rw [o_Fs0.2.1]; decide) dX12_getStatic_18 (fun H locs hP hD hS => ?_)
    have hP : va_P (dC, dI) vwCl [(Ad0, .inr (15, (Fs0.set 0 (.int 1))))] H := hP
    have hD : va_D A [(Ad0, .inr (15, (Fs0.set 0 (.int 1))))] := hD
    have o_s111 := ow_set o_Fs0 0 (.int 1) (by decide) (l' := [(0, .int 1), (20, .int 0)]) (w' := [0]) rfl rfl
    generalize (Fs0.set 0 (.int 1)) = s111 at hP hD o_s111
    refine lv_aload_n hx hb dX12_getStatic_21 rfl (lv_at hl 1 rfl) ?_
    refine va_get (D := (dC, dI)) (ci := 15) (v := .int 1) (C := RX12) (T := TX12) (N := 150) hx hb hts (in_z_X12_getStatic_X12) hown hK hP 0 rfl rfl 0 (by decide) (hts (.fieldLink RX12 388 "HeapWorksModel" "thrown" "I") (by decide +kernel)) (fun _ h9 => h9) (ow_at o_s111 0 rfl) dX12_getStatic_22 ?_
    refine lv_if_le (tgt := 32) hx hb dX12_getStatic_25 (by decide) (fun c112 => absurd c112 (by decide)) (fun c112 => ?_)
    refine lv_lconst (v := 0) hx hb dX12_getStatic_28 (by decide) ?_
    refine lv_goto (tgt := 38) hx hb dX12_getStatic_29 (by decide) ?_
    have hP9 := hP.sub (ws' := [(Ad0, .inr (15, s111))]) [0] rfl
    have hD9 := hD.sub (ws' := [(Ad0, .inr (15, s111))]) [0] (by decide) rfl
    have hK9 := hK.sub (tys' := []) [] rfl
    exact W.lret (v := 0) hx hb hr (fun t ht hW => ⟨⟨0, s111, rfl, (Or.inr (⟨c104, c105, rfl, o_s111⟩)), by rw [ht]; exact hP9, va_K.moved hW.alike hK9, hD9⟩, hS.F ht⟩) hS.2.2 dX12_getStatic_38

def l_z_X12_object : List Cond := [.fieldLink RX12 388 "HeapWorksModel" "thrown" "I", .methodLink RX12 473 yX12_isObject, .instanceMethod yX12_isObject, .selects RX12 yX12_isObject yX12_isObject, .initialized RX12, .code yX12_isObject cX12_isObject 2 (some .boolean), .fieldLink RX12 435 "HeapWorksModel" "objects" "I"]
def w_z_X12_object : List Cond := .code yX12_object cX12_object 3 (some .int) :: (l_z_X12_object ++ (wsX120))
theorem in_z_X12_object_X12 : ∀ w ∈ wsX120, w ∈ w_z_X12_object := fun w h => List.mem_cons_of_mem _ (List.mem_append_right _ (h))
theorem g_z_X12_object_z_X12_isObject_473 : GoodIn w_z_X12_object (wsV RX12 473 RX12 yX12_isObject w_z_X12_isObject) := goodIn_app (goodIn_r (([.methodLink RX12 473 yX12_isObject, .instanceMethod yX12_isObject, .selects RX12 yX12_isObject yX12_isObject, .initialized RX12] : List Cond)) [2, 3, 4, 5] rfl (by decide +kernel)) (goodIn_ca (goodIn_r (.code yX12_isObject cX12_isObject 2 (some .boolean) :: l_z_X12_isObject) [6, 7] rfl (by decide +kernel)) (goodIn_in (in_z_X12_object_X12) gd_X12))
set_option maxHeartbeats 4000000 in
set_option maxRecDepth 100000 in
theorem z_X12_object (l : Launch) (dC : Nat → ClassId) (dI : Nat → Nat → Nat) (sz : Nat) (Ad0 : Nat) (Fs0 : List Value) (Va0 : Int32) (Va1 : Int32) (k_Fs0 : fh Fs0 150 [(26, .int 0)])  : Met l yX12_object w_z_X12_object ({ frames := 1, cells := 0, slots := 0, locals := 21 }) (va_Pc [.ref Ad0, .int Va0, .int Va1] (fun U => U.heap.size = sz ∧ Wd dC dI [] (fun _ => True) [(Ad0, .inr (15, Fs0))] U)) (va_Qi (fun (r : Int32) (u : List Value) => (Va0 < 0 ∧ r = (-1) ∧ ow Fs0 (u) 150 [0] [(0, .int 0), (26, .int 0)]) ∨ (¬ Va0 < 0 ∧ 0 ≤ Va0 ∧ r = (-1) ∧ ow Fs0 (u) 150 [0] [(0, .int 0), (26, .int 0)])) (fun (u : List Value) t => Wd dC dI [] (va_A [(Ad0, .inr (15, Fs0))] sz) [(Ad0, .inr (15, (u)))] t) (va_A [(Ad0, .inr (15, Fs0))] sz))  0 0 (va_A [(Ad0, .inr (15, Fs0))] sz) := by
  refine Met.ofW (cc := cX12_object) (maxL := 3) (ret := (some .int)) (by decide) rfl ?_
  intro p e s m args below meth c s₁ B hml hv
  obtain ⟨rfl, hsz, hP, hK, hD0⟩ := hv
  have hx := B.exec
  have hb := B.bytes
  have hr := B.returns
  have hts := atoms_spec (ws := w_z_X12_object) B.pre
  have hown : s.vm.findClass RX12 = some m.cls := findClass_of_methodNamed B.named
  have hlocks := B.notSynchronized
  subst hsz
  have hD := hD0.self (sz := s.heap.size)
  generalize hAe : va_A [(Ad0, .inr (15, Fs0))] s.heap.size = A at hD ⊢
  have hA : ∀ q : Nat, s.heap.size ≤ q → A q := fun q h => by rw [← hAe]; exact Or.inr h
  have hS : va_S A s.heap s.heap [] := va_S.rf
  have hl := lv_entry ([.ref Ad0, .int Va0, .int Va1]) (n := 3) (Nat.le_of_ble_eq_true rfl)
  rw [lg_entry_eq]
  generalize (lg_sl ([.ref Ad0, .int Va0, .int Va1]) ++ List.replicate (3 - (lg_sl ([.ref Ad0, .int Va0, .int Va1])).length) Slot.unset).toArray = ls at hl ⊢
  have hl : lv_has ls 3 [(0, .ref Ad0), (1, .int Va0), (2, .int Va1)] := hl
  have o_Fs0 := ow_0 k_Fs0
  refine lv_aload_n hx hb dX12_object_0 rfl (lv_at hl 0 rfl) ?_
  refine lv_iconst (v := 0) hx hb dX12_object_1 (by decide) ?_
  refine va_put (D := (dC, dI)) (ci := 15) (v := .int 0) (ty := .int) (C := RX12) (T := TX12) (N := 150) hx hb hts (in_z_X12_object_X12) tyX12 tyX12_ok nmX12 hown hK hP hD hS 0 rfl rfl 0 (by decide) (hts (.fieldLink RX12 388 "HeapWorksModel" "thrown" "I") (by decide +kernel)) (fun _ h9 => h9) rfl (by decide +kernel) rfl rfl (by rw [o_Fs0.2.1]; decide) dX12_object_2 (fun H locs hP hD hS => ?_)
  have hP : va_P (dC, dI) vwCl [(Ad0, .inr (15, (Fs0.set 0 (.int 0))))] H := hP
  have hD : va_D A [(Ad0, .inr (15, (Fs0.set 0 (.int 0))))] := hD
  have o_s101 := ow_set o_Fs0 0 (.int 0) (by decide) (l' := [(0, .int 0), (26, .int 0)]) (w' := [0]) rfl rfl
  generalize (Fs0.set 0 (.int 0)) = s101 at hP hD o_s101
  refine lv_aload_n hx hb dX12_object_5 rfl (lv_at hl 0 rfl) ?_
  refine lv_iload_n hx hb dX12_object_6 rfl (lv_at hl 1 rfl) ?_
  have hPc := hP.sub (ws' := [(Ad0, .inr (15, s101))]) [0] rfl
  have hDc := hD.sub (ws' := [(Ad0, .inr (15, s101))]) [0] (by decide) rfl
  have hKc := hK.sub (tys' := []) [] rfl
  have hFc := va_free (wc := [(Ad0, .inr (15, s101))]) hD hS hA [0] rfl
  refine va_calli (va_runV (As := [.int Va0]) (rest := []) ⟨hx, hb, hml, hown, hts⟩ (z_X12_isObject l dC dI H.size Ad0 s101 Va0 (fh_sub o_s101.2 [1] rfl) ) (cwV 1 hts g_z_X12_object_z_X12_isObject_473 rfl rfl rfl (by decide +kernel) ⟨Nat.le_of_ble_eq_true rfl, Nat.le_of_ble_eq_true rfl⟩) ⟨fun a U g mk q => by obtain ⟨q0, q1, qP, qK, qD⟩ := q; exact ⟨q0, q1, qP, va_K.moved (u := U) (U := U.calling g mk a) (Vm.Alike.refl U.vm) qK, qD⟩, va_recv hK hP (ci := 15) (q0 := 0) rfl rfl, fun U hU hW => ⟨rfl, by rw [hU], by rw [hU]; exact hPc, va_K.moved hW.alike hKc, hDc.weaken (fun _ _ _ _ => trivial)⟩⟩ rfl rfl hl.1 rfl (lv_room (Nat.le_of_ble_eq_true rfl)) dX12_object_7 ⟨Nat.le_of_ble_eq_true rfl, Nat.le_of_ble_eq_true rfl⟩) hS (fun q _ h => hFc q h) hFc (fun r102 u t H1 locs ht hvm hw hB hz1 hk1 hS => ?_)
  obtain ⟨hP1, hK1, hD1⟩ := hB
  rw [ht] at hP1
  try dsimp only at hw
  obtain ⟨hP, hD⟩ := va_join (wr := []) (w1 := [(Ad0, .inr (15, s101))]) hP hD [0] [] rfl rfl (by decide) (by decide) hk1 hFc hP1 hD1
  have hK := hK.sub (tys' := []) [] rfl
  generalize H1 = H at hP hS ⊢
  have hP : va_P (dC, dI) vwCl [(Ad0, .inr (15, s101))] H := hP
  have hD : va_D A [(Ad0, .inr (15, s101))] := hD
  rcases hw with ⟨c103, er104⟩ | ⟨c105, c106, er107⟩
  · skip
    subst er104
    refine lv_if_ne (tgt := 15) hx hb dX12_object_10 (by decide) (fun c108 => absurd c108 (by decide)) (fun c108 => ?_)
    refine lv_iconst (v := (-1)) hx hb dX12_object_13 (by decide) ?_
    have hP9 := hP.sub (ws' := [(Ad0, .inr (15, s101))]) [0] rfl
    have hD9 := hD.sub (ws' := [(Ad0, .inr (15, s101))]) [0] (by decide) rfl
    have hK9 := hK.sub (tys' := []) [] rfl
    exact W.iret (v := (-1)) hx hb hr (fun t ht hW => ⟨⟨(-1), s101, rfl, (Or.inl ⟨c103, rfl, o_s101⟩), by rw [ht]; exact hP9, va_K.moved hW.alike hK9, hD9⟩, hS.F ht⟩) hS.2.2 dX12_object_14
  · skip
    subst er107
    refine lv_if_ne (tgt := 15) hx hb dX12_object_10 (by decide) (fun c109 => absurd c109 (by decide)) (fun c109 => ?_)
    refine lv_iconst (v := (-1)) hx hb dX12_object_13 (by decide) ?_
    have hP9 := hP.sub (ws' := [(Ad0, .inr (15, s101))]) [0] rfl
    have hD9 := hD.sub (ws' := [(Ad0, .inr (15, s101))]) [0] (by decide) rfl
    have hK9 := hK.sub (tys' := []) [] rfl
    exact W.iret (v := (-1)) hx hb hr (fun t ht hW => ⟨⟨(-1), s101, rfl, (Or.inr (⟨c105, c106, rfl, o_s101⟩)), by rw [ht]; exact hP9, va_K.moved hW.alike hK9, hD9⟩, hS.F ht⟩) hS.2.2 dX12_object_14

def l_z_X12_beginWalk : List Cond := [.fieldLink RX12 522 "HeapWorksModel" "walkedMany" "I", .fieldLink RX12 180 "HeapWorksModel" "placeIn" "[I"]
def w_z_X12_beginWalk : List Cond := .code yX12_beginWalk cX12_beginWalk 2 none :: (l_z_X12_beginWalk ++ (wsX120))
theorem in_z_X12_beginWalk_X12 : ∀ w ∈ wsX120, w ∈ w_z_X12_beginWalk := fun w h => List.mem_cons_of_mem _ (List.mem_append_right _ (h))
set_option maxHeartbeats 4000000 in
set_option maxRecDepth 100000 in
theorem z_X12_beginWalk (l : Launch) (dC : Nat → ClassId) (dI : Nat → Nat → Nat) (sz : Nat) (Ad0 : Nat) (Fs0 : List Value) (Ad1 : Nat) (Fa0 : Nat → Int32) (Ka0 : ClassId) (k_Fs0 : fh Fs0 150 [(46, .ref Ad1)])  : Met l yX12_beginWalk w_z_X12_beginWalk ({ frames := 0, cells := 0, slots := 0, locals := 0 }) (va_Pc [.ref Ad0] (fun U => U.heap.size = sz ∧ Wd dC dI [(Ka0, .int)] (fun _ => True) [(Ad0, .inr (15, Fs0)), (Ad1, .inl (Ka0, 400, .inl Fa0))] U)) (va_Qv (fun (u : List Value × (Nat → Int32)) => ow Fs0 (u.1) 150 [47] [(47, .int 0), (46, .ref Ad1)]) (fun (u : List Value × (Nat → Int32)) t => Wd dC dI [(Ka0, .int)] (va_A [(Ad0, .inr (15, Fs0)), (Ad1, .inl (Ka0, 400, .inl Fa0))] sz) [(Ad0, .inr (15, (u.1))), (Ad1, .inl (Ka0, 400, .inl ((u.2))))] t) (va_A [(Ad0, .inr (15, Fs0)), (Ad1, .inl (Ka0, 400, .inl Fa0))] sz))  0 0 (va_A [(Ad0, .inr (15, Fs0)), (Ad1, .inl (Ka0, 400, .inl Fa0))] sz) := by
  refine Met.ofW (cc := cX12_beginWalk) (maxL := 2) (ret := none) (by decide) rfl ?_
  intro p e s m args below meth c s₁ B hml hv
  obtain ⟨rfl, hsz, hP, hK, hD0⟩ := hv
  have hx := B.exec
  have hb := B.bytes
  have hr := B.returns
  have hts := atoms_spec (ws := w_z_X12_beginWalk) B.pre
  have hown : s.vm.findClass RX12 = some m.cls := findClass_of_methodNamed B.named
  have hlocks := B.notSynchronized
  subst hsz
  have hD := hD0.self (sz := s.heap.size)
  generalize hAe : va_A [(Ad0, .inr (15, Fs0)), (Ad1, .inl (Ka0, 400, .inl Fa0))] s.heap.size = A at hD ⊢
  have hA : ∀ q : Nat, s.heap.size ≤ q → A q := fun q h => by rw [← hAe]; exact Or.inr h
  have hS : va_S A s.heap s.heap [] := va_S.rf
  have hl := lv_entry ([.ref Ad0]) (n := 2) (Nat.le_of_ble_eq_true rfl)
  rw [lg_entry_eq]
  generalize (lg_sl ([.ref Ad0]) ++ List.replicate (2 - (lg_sl ([.ref Ad0])).length) Slot.unset).toArray = ls at hl ⊢
  have hl : lv_has ls 2 [(0, .ref Ad0)] := hl
  have o_Fs0 := ow_0 k_Fs0
  refine lv_aload_n hx hb dX12_beginWalk_0 rfl (lv_at hl 0 rfl) ?_
  refine lv_iconst (v := 0) hx hb dX12_beginWalk_1 (by decide) ?_
  refine va_put (D := (dC, dI)) (ci := 15) (v := .int 0) (ty := .int) (C := RX12) (T := TX12) (N := 150) hx hb hts (in_z_X12_beginWalk_X12) tyX12 tyX12_ok nmX12 hown hK hP hD hS 0 rfl rfl 47 (by decide) (hts (.fieldLink RX12 522 "HeapWorksModel" "walkedMany" "I") (by decide +kernel)) (fun _ h9 => h9) rfl (by decide +kernel) rfl rfl (by rw [o_Fs0.2.1]; decide) dX12_beginWalk_2 (fun H locs hP hD hS => ?_)
  have hP : va_P (dC, dI) vwCl [(Ad0, .inr (15, (Fs0.set 47 (.int 0)))), (Ad1, .inl (Ka0, 400, .inl Fa0))] H := hP
  have hD : va_D A [(Ad0, .inr (15, (Fs0.set 47 (.int 0)))), (Ad1, .inl (Ka0, 400, .inl Fa0))] := hD
  have o_s101 := ow_set o_Fs0 47 (.int 0) (by decide) (l' := [(47, .int 0), (46, .ref Ad1)]) (w' := [47]) rfl rfl
  generalize (Fs0.set 47 (.int 0)) = s101 at hP hD o_s101
  refine lv_iconst (v := 0) hx hb dX12_beginWalk_5 (by decide) ?_
  refine lv_istore_n (lv' := [(1, .int 0), (0, .ref Ad0)]) hx hb dX12_beginWalk_6 rfl hl (by decide) rfl (fun ls hl => ?_)
  have HL1 : ∀ (n j125 : Nat) (x126 : Int32) (f127 : Nat → Int32), x126 = nI j125 → 0 ≤ j125 → j125 ≤ 400 → 401 ≤ j125 + n → ∀ (H : Heap) (locs : List Loc) (ls : Array Slot), va_P (dC, dI) vwCl [(Ad0, .inr (15, s101)), (Ad1, .inl (Ka0, 400, .inl f127))] H → va_D A [(Ad0, .inr (15, s101)), (Ad1, .inl (Ka0, 400, .inl f127))] → va_S A s.heap H locs → lv_has ls 2 [(1, .int x126), (0, .ref Ad0)] → W p l e (headSpec w_z_X12_beginWalk ({ frames := 0, cells := 0, slots := 0, locals := 0 })).room s m ([.ref Ad0]).toArray below meth c H locs 0 0 (MQ below (va_Qv (fun (u : List Value × (Nat → Int32)) => ow Fs0 (u.1) 150 [47] [(47, .int 0), (46, .ref Ad1)]) (fun (u : List Value × (Nat → Int32)) t => Wd dC dI [(Ka0, .int)] A [(Ad0, .inr (15, (u.1))), (Ad1, .inl (Ka0, 400, .inl ((u.2))))] t) A) ([.ref Ad0]).toArray s 0 0 A) (F0 m 7 ls []) := by
    intro n
    induction n with
    | zero =>
      intro j125 x126 f127 e128 h130 h131 h132
      exact absurd h132 (by omega)
    | succ n ih =>
      intro j125 x126 f127 e128 h130 h131 h132 H locs ls hP hD hS hl
      have t129 : x126.toInt = (j125 : Int) := by rw [e128]; exact nI_toInt (by omega)
      refine lv_iload_n hx hb dX12_beginWalk_7 rfl (lv_at hl 0 rfl) ?_
      refine lv_sipush (v := 400) hx hb dX12_beginWalk_8 (by decide) ?_
      refine lv_icmp_ge (tgt := 27) hx hb dX12_beginWalk_11 (by decide) (fun c133 => ?_) (fun c133 => ?_)
      · skip
        have hP9 := hP.sub (ws' := [(Ad0, .inr (15, s101)), (Ad1, .inl (Ka0, 400, .inl f127))]) [0, 1] rfl
        have hD9 := hD.sub (ws' := [(Ad0, .inr (15, s101)), (Ad1, .inl (Ka0, 400, .inl f127))]) [0, 1] (by decide) rfl
        have hK9 := hK.sub (tys' := [(Ka0, .int)]) [0] rfl
        exact W.vret hx hb hr (fun t ht hW => ⟨⟨(s101, f127), rfl, o_s101, by rw [ht]; exact hP9, va_K.moved hW.alike hK9, hD9⟩, hS.F ht⟩) hS.2.2 dX12_beginWalk_27
      · skip
        refine lv_aload_n hx hb dX12_beginWalk_14 rfl (lv_at hl 1 rfl) ?_
        refine va_get (D := (dC, dI)) (ci := 15) (v := .ref Ad1) (C := RX12) (T := TX12) (N := 150) hx hb hts (in_z_X12_beginWalk_X12) hown hK hP 0 rfl rfl 46 (by decide) (hts (.fieldLink RX12 180 "HeapWorksModel" "placeIn" "[I") (by decide +kernel)) (fun _ h9 => h9) (ow_at o_s101 1 rfl) dX12_beginWalk_15 ?_
        refine lv_iload_n hx hb dX12_beginWalk_18 rfl (lv_at hl 0 rfl) ?_
        refine lv_iconst (v := (-1)) hx hb dX12_beginWalk_19 (by decide) ?_
        refine va_iast hx hb hK hP hD hS 1 0 rfl rfl (by rw [vp_in_iff]; (try simp only [i_lt, i_le, i_eq, kc_400] at t129 h131 h130 c133); omega) dX12_beginWalk_20 (fun H locs hP hD hS => ?_)
        have hP : va_P (dC, dI) vwCl [(Ad0, .inr (15, s101)), (Ad1, .inl (Ka0, 400, .inl (upd f127 (x126 : Int32).toNatClampNeg (-1))))] H := hP
        have hD : va_D A [(Ad0, .inr (15, s101)), (Ad1, .inl (Ka0, 400, .inl (upd f127 (x126 : Int32).toNatClampNeg (-1))))] := hD
        have q135 : (upd f127 (x126 : Int32).toNatClampNeg (-1)) (x126 : Int32).toNatClampNeg = (-1) := pk_us
        generalize upd f127 (x126 : Int32).toNatClampNeg (-1) = f134 at hP hD q135
        obtain ⟨x136, ex136⟩ : ∃ y : Int32, y = x126 + 1 := ⟨_, rfl⟩
        refine lv_iinc (v := x136) (lv' := [(1, .int x136), (0, .ref Ad0)]) hx hb dX12_beginWalk_21 hl (k := 0) rfl (by rw [ex136]; rfl) (by decide) rfl (fun ls hl => ?_)
        have tx136 : x136.toInt = x126.toInt + (1 : Int32).toInt := by rw [ex136]; exact i_add (by have bd_x126 := i_bd x126; (try simp only [i_lt, i_le, i_eq, kc_400, kc_1] at t129 h131 h130 c133 ⊢); omega) (by have bd_x126 := i_bd x126; (try simp only [i_lt, i_le, i_eq, kc_400, kc_1] at t129 h131 h130 c133 ⊢); omega)
        refine lv_goto (tgt := 7) hx hb dX12_beginWalk_24 (by decide) ?_
        exact ih (j125 + 1) x136 f134 (by rw [ex136, e128]; exact nI_1 _) (by omega) (by (try simp only [i_lt, i_le, i_eq, kc_400, kc_1] at t129 h131 h130 c133 tx136); omega) (by omega)  _ _ _ (hP.sub [0, 1] rfl) (hD.sub [0, 1] (by decide) rfl) hS  (lv_sub hl [0, 1] rfl)
  exact HL1 401 0 (0) Fa0 (by decide) (by omega) (by omega) (by omega)  _ _ _ hP hD hS  hl

def l_z_X12_walkRoots : List Cond := [.methodLink RX12 532 yX12_beginWalk, .instanceMethod yX12_beginWalk, .selects RX12 yX12_beginWalk yX12_beginWalk, .initialized RX12, .fieldLink RX12 470 "HeapWorksModel" "toldMany" "I", .fieldLink RX12 413 "HeapWorksModel" "classes" "I", .fieldLink RX12 522 "HeapWorksModel" "walkedMany" "I", .code yX12_beginWalk cX12_beginWalk 2 none, .fieldLink RX12 180 "HeapWorksModel" "placeIn" "[I"]
def w_z_X12_walkRoots : List Cond := .code yX12_walkRoots cX12_walkRoots 2 none :: (l_z_X12_walkRoots ++ (wsX120))
theorem in_z_X12_walkRoots_X12 : ∀ w ∈ wsX120, w ∈ w_z_X12_walkRoots := fun w h => List.mem_cons_of_mem _ (List.mem_append_right _ (h))
theorem g_z_X12_walkRoots_z_X12_beginWalk_532 : GoodIn w_z_X12_walkRoots (wsV RX12 532 RX12 yX12_beginWalk w_z_X12_beginWalk) := goodIn_app (goodIn_r (([.methodLink RX12 532 yX12_beginWalk, .instanceMethod yX12_beginWalk, .selects RX12 yX12_beginWalk yX12_beginWalk, .initialized RX12] : List Cond)) [1, 2, 3, 4] rfl (by decide +kernel)) (goodIn_ca (goodIn_r (.code yX12_beginWalk cX12_beginWalk 2 none :: l_z_X12_beginWalk) [8, 7, 9] rfl (by decide +kernel)) (goodIn_in (in_z_X12_walkRoots_X12) gd_X12))
set_option maxHeartbeats 4000000 in
set_option maxRecDepth 100000 in
theorem z_X12_walkRoots (l : Launch) (dC : Nat → ClassId) (dI : Nat → Nat → Nat) (sz : Nat) (Ad0 : Nat) (Fs0 : List Value) (Ad1 : Nat) (Fa0 : Nat → Int32) (Ka0 : ClassId) (k_Fs0 : fh Fs0 150 [(20, .int 0), (31, .int 0), (46, .ref Ad1), (47, .int 0)])  : Met l yX12_walkRoots w_z_X12_walkRoots ({ frames := 1, cells := 0, slots := 0, locals := 21 }) (va_Pc [.ref Ad0] (fun U => U.heap.size = sz ∧ Wd dC dI [(Ka0, .int)] (fun _ => True) [(Ad0, .inr (15, Fs0)), (Ad1, .inl (Ka0, 400, .inl Fa0))] U)) (va_Qv (fun (u : List Value × (Nat → Int32)) => ow Fs0 (u.1) 150 [47] [(47, .int 0), (46, .ref Ad1), (20, .int 0), (31, .int 0), (46, .ref Ad1)]) (fun (u : List Value × (Nat → Int32)) t => Wd dC dI [(Ka0, .int)] (va_A [(Ad0, .inr (15, Fs0)), (Ad1, .inl (Ka0, 400, .inl Fa0))] sz) [(Ad0, .inr (15, (u.1))), (Ad1, .inl (Ka0, 400, .inl ((u.2))))] t) (va_A [(Ad0, .inr (15, Fs0)), (Ad1, .inl (Ka0, 400, .inl Fa0))] sz))  0 0 (va_A [(Ad0, .inr (15, Fs0)), (Ad1, .inl (Ka0, 400, .inl Fa0))] sz) := by
  refine Met.ofW (cc := cX12_walkRoots) (maxL := 2) (ret := none) (by decide) rfl ?_
  intro p e s m args below meth c s₁ B hml hv
  obtain ⟨rfl, hsz, hP, hK, hD0⟩ := hv
  have hx := B.exec
  have hb := B.bytes
  have hr := B.returns
  have hts := atoms_spec (ws := w_z_X12_walkRoots) B.pre
  have hown : s.vm.findClass RX12 = some m.cls := findClass_of_methodNamed B.named
  have hlocks := B.notSynchronized
  subst hsz
  have hD := hD0.self (sz := s.heap.size)
  generalize hAe : va_A [(Ad0, .inr (15, Fs0)), (Ad1, .inl (Ka0, 400, .inl Fa0))] s.heap.size = A at hD ⊢
  have hA : ∀ q : Nat, s.heap.size ≤ q → A q := fun q h => by rw [← hAe]; exact Or.inr h
  have hS : va_S A s.heap s.heap [] := va_S.rf
  have hl := lv_entry ([.ref Ad0]) (n := 2) (Nat.le_of_ble_eq_true rfl)
  rw [lg_entry_eq]
  generalize (lg_sl ([.ref Ad0]) ++ List.replicate (2 - (lg_sl ([.ref Ad0])).length) Slot.unset).toArray = ls at hl ⊢
  have hl : lv_has ls 2 [(0, .ref Ad0)] := hl
  have o_Fs0 := ow_0 k_Fs0
  refine lv_aload_n hx hb dX12_walkRoots_0 rfl (lv_at hl 0 rfl) ?_
  have hPc := hP.sub (ws' := [(Ad0, .inr (15, Fs0)), (Ad1, .inl (Ka0, 400, .inl Fa0))]) [0, 1] rfl
  have hDc := hD.sub (ws' := [(Ad0, .inr (15, Fs0)), (Ad1, .inl (Ka0, 400, .inl Fa0))]) [0, 1] (by decide) rfl
  have hKc := hK.sub (tys' := [(Ka0, .int)]) [0] rfl
  have hFc := va_free (wc := [(Ad0, .inr (15, Fs0)), (Ad1, .inl (Ka0, 400, .inl Fa0))]) hD hS hA [0, 1] rfl
  refine va_callv (va_runV (As := []) (rest := []) ⟨hx, hb, hml, hown, hts⟩ (z_X12_beginWalk l dC dI s.heap.size Ad0 Fs0 Ad1 Fa0 Ka0 (fh_sub o_Fs0.2 [2] rfl) ) (cwV 0 hts g_z_X12_walkRoots_z_X12_beginWalk_532 rfl rfl rfl (by decide +kernel) ⟨Nat.le_of_ble_eq_true rfl, Nat.le_of_ble_eq_true rfl⟩) ⟨fun a U g mk q => by obtain ⟨q0, q1, qP, qK, qD⟩ := q; exact ⟨q0, q1, qP, va_K.moved (u := U) (U := U.calling g mk a) (Vm.Alike.refl U.vm) qK, qD⟩, va_recv hK hP (ci := 15) (q0 := 0) rfl rfl, fun U hU hW => ⟨rfl, by rw [hU], by rw [hU]; exact hPc, va_K.moved hW.alike hKc, hDc.weaken (fun _ _ _ _ => trivial)⟩⟩ rfl rfl hl.1 rfl (lv_room (Nat.le_of_ble_eq_true rfl)) dX12_walkRoots_1 ⟨Nat.le_of_ble_eq_true rfl, Nat.le_of_ble_eq_true rfl⟩) hS (fun q _ h => hFc q h) hFc (fun u t H1 locs ht hvm hw hB hz1 hk1 hS => ?_)
  obtain ⟨s101, f102⟩ := u
  obtain ⟨hP1, hK1, hD1⟩ := hB
  rw [ht] at hP1
  try dsimp only at hw
  obtain ⟨hP, hD⟩ := va_join (wr := []) (w1 := [(Ad0, .inr (15, s101)), (Ad1, .inl (Ka0, 400, .inl f102))]) hP hD [0, 1] [] rfl rfl (by decide) (by decide) hk1 hFc hP1 hD1
  have hK := hK.sub (tys' := [(Ka0, .int)]) [0] rfl
  generalize H1 = H at hP hS ⊢
  have hP : va_P (dC, dI) vwCl [(Ad0, .inr (15, s101)), (Ad1, .inl (Ka0, 400, .inl f102))] H := hP
  have hD : va_D A [(Ad0, .inr (15, s101)), (Ad1, .inl (Ka0, 400, .inl f102))] := hD
  have o_s101 := hw
  have o_s101 := ow_on o_Fs0 o_s101 (l' := [(47, .int 0), (46, .ref Ad1), (20, .int 0), (31, .int 0), (46, .ref Ad1)]) (w' := [47]) rfl rfl
  refine lv_iconst (v := 0) hx hb dX12_walkRoots_4 (by decide) ?_
  refine lv_istore_n (lv' := [(1, .int 0), (0, .ref Ad0)]) hx hb dX12_walkRoots_5 rfl hl (by decide) rfl (fun ls hl => ?_)
  refine lv_iload_n hx hb dX12_walkRoots_6 rfl (lv_at hl 0 rfl) ?_
  refine lv_aload_n hx hb dX12_walkRoots_7 rfl (lv_at hl 1 rfl) ?_
  refine va_get (D := (dC, dI)) (ci := 15) (v := .int 0) (C := RX12) (T := TX12) (N := 150) hx hb hts (in_z_X12_walkRoots_X12) hown hK hP 0 rfl rfl 31 (by decide) (hts (.fieldLink RX12 470 "HeapWorksModel" "toldMany" "I") (by decide +kernel)) (fun _ h9 => h9) (ow_at o_s101 3 rfl) dX12_walkRoots_8 ?_
  refine lv_icmp_ge (tgt := 31) hx hb dX12_walkRoots_11 (by decide) (fun c103 => ?_) (fun c103 => absurd c103 (by decide))
  refine lv_iconst (v := 0) hx hb dX12_walkRoots_31 (by decide) ?_
  refine lv_istore_n (lv' := [(1, .int 0), (0, .ref Ad0)]) hx hb dX12_walkRoots_32 rfl hl (by decide) rfl (fun ls hl => ?_)
  refine lv_iload_n hx hb dX12_walkRoots_33 rfl (lv_at hl 0 rfl) ?_
  refine lv_bipush (v := 6) hx hb dX12_walkRoots_34 (by decide) ?_
  refine lv_aload_n hx hb dX12_walkRoots_36 rfl (lv_at hl 1 rfl) ?_
  refine va_get (D := (dC, dI)) (ci := 15) (v := .int 0) (C := RX12) (T := TX12) (N := 150) hx hb hts (in_z_X12_walkRoots_X12) hown hK hP 0 rfl rfl 20 (by decide) (hts (.fieldLink RX12 413 "HeapWorksModel" "classes" "I") (by decide +kernel)) (fun _ h9 => h9) (ow_at o_s101 2 rfl) dX12_walkRoots_37 ?_
  refine lv_imul hx hb dX12_walkRoots_40  ?_
  refine lv_topi (fun x104 ex104 => ?_)
  obtain rfl : x104 = 0 := ex104.trans (by decide)
  refine lv_icmp_ge (tgt := 68) hx hb dX12_walkRoots_41 (by decide) (fun c105 => ?_) (fun c105 => absurd c105 (by decide))
  refine lv_iconst (v := 0) hx hb dX12_walkRoots_68 (by decide) ?_
  refine lv_istore_n (lv' := [(1, .int 0), (0, .ref Ad0)]) hx hb dX12_walkRoots_69 rfl hl (by decide) rfl (fun ls hl => ?_)
  refine lv_iload_n hx hb dX12_walkRoots_70 rfl (lv_at hl 0 rfl) ?_
  refine lv_aload_n hx hb dX12_walkRoots_71 rfl (lv_at hl 1 rfl) ?_
  refine va_get (D := (dC, dI)) (ci := 15) (v := .int 0) (C := RX12) (T := TX12) (N := 150) hx hb hts (in_z_X12_walkRoots_X12) hown hK hP 0 rfl rfl 47 (by decide) (hts (.fieldLink RX12 522 "HeapWorksModel" "walkedMany" "I") (by decide +kernel)) (fun _ h9 => h9) (ow_at o_s101 0 rfl) dX12_walkRoots_72 ?_
  refine lv_icmp_ge (tgt := 95) hx hb dX12_walkRoots_75 (by decide) (fun c106 => ?_) (fun c106 => absurd c106 (by decide))
  have hP9 := hP.sub (ws' := [(Ad0, .inr (15, s101)), (Ad1, .inl (Ka0, 400, .inl f102))]) [0, 1] rfl
  have hD9 := hD.sub (ws' := [(Ad0, .inr (15, s101)), (Ad1, .inl (Ka0, 400, .inl f102))]) [0, 1] (by decide) rfl
  have hK9 := hK.sub (tys' := [(Ka0, .int)]) [0] rfl
  exact W.vret hx hb hr (fun t ht hW => ⟨⟨(s101, f102), rfl, o_s101, by rw [ht]; exact hP9, va_K.moved hW.alike hK9, hD9⟩, hS.F ht⟩) hS.2.2 dX12_walkRoots_95

