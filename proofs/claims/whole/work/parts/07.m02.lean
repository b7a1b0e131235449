def l_z_X12_add : List Cond := [.fieldLink RX12 435 "HeapWorksModel" "objects" "I", .fieldLink RX12 125 "HeapWorksModel" "type" "[I", .fieldLink RX12 128 "HeapWorksModel" "length" "[I", .methodLink RX12 416 yX12_isClass, .instanceMethod yX12_isClass, .selects RX12 yX12_isClass yX12_isClass, .initialized RX12, .fieldLink RX12 131 "HeapWorksModel" "from" "[I", .fieldLink RX12 452 "HeapWorksModel" "valuesUsed" "I", .fieldLink RX12 134 "HeapWorksModel" "there" "[Z", .methodLink RX12 455 yX12_slotCount, .instanceMethod yX12_slotCount, .selects RX12 yX12_slotCount yX12_slotCount, .fieldLink RX12 461 "HeapWorksModel" "slotsThere" "I", .fieldLink RX12 138 "HeapWorksModel" "values" "[J", .methodLink RX12 458 yX12_kindOf, .instanceMethod yX12_kindOf, .selects RX12 yX12_kindOf yX12_kindOf, .constantLong RX12 433 (-1), .code yX12_isClass cX12_isClass 2 (some .boolean), .fieldLink RX12 413 "HeapWorksModel" "classes" "I", .code yX12_slotCount cX12_slotCount 3 (some .int), .code yX12_kindOf cX12_kindOf 3 (some .int)]
def w_z_X12_add : List Cond := .code yX12_add cX12_add 6 (some .int) :: (l_z_X12_add ++ (wsX120))
theorem in_z_X12_add_X12 : ∀ w ∈ wsX120, w ∈ w_z_X12_add := fun w h => List.mem_cons_of_mem _ (List.mem_append_right _ (h))
theorem g_z_X12_add_z_X12_isClass_416 : GoodIn w_z_X12_add (wsV RX12 416 RX12 yX12_isClass w_z_X12_isClass) := goodIn_app (goodIn_sub (by decide +kernel) (by decide +kernel)) (goodIn_ca (goodIn_sub (by decide +kernel) (by decide +kernel)) (goodIn_in in_z_X12_add_X12 gd_X12))
theorem g_z_X12_add_z_X12_slotCount_455 : GoodIn w_z_X12_add (wsV RX12 455 RX12 yX12_slotCount w_z_X12_slotCount) := goodIn_app (goodIn_sub (by decide +kernel) (by decide +kernel)) (goodIn_ca (goodIn_sub (by decide +kernel) (by decide +kernel)) (goodIn_in in_z_X12_add_X12 gd_X12))
theorem g_z_X12_add_z_X12_kindOf_458 : GoodIn w_z_X12_add (wsV RX12 458 RX12 yX12_kindOf w_z_X12_kindOf) := goodIn_app (goodIn_sub (by decide +kernel) (by decide +kernel)) (goodIn_ca (goodIn_sub (by decide +kernel) (by decide +kernel)) (goodIn_in in_z_X12_add_X12 gd_X12))
set_option maxHeartbeats 4000000 in
set_option maxRecDepth 100000 in
theorem z_X12_add (l : Launch) (dC : Nat → ClassId) (dI : Nat → Nat → Nat) (sz : Nat) (Ad0 : Nat) (Fa0 : Nat → Int32) (Ka0 : ClassId) (Ad1 : Nat) (Fa1 : Nat → Int32) (Ka1 : ClassId) (Ad2 : Nat) (Fa2 : Nat → Int32) (Ka2 : ClassId) (Ad3 : Nat) (Fa3 : Nat → Int32) (Ka3 : ClassId) (Ad4 : Nat) (Fa4 : Nat → Int64) (Ka4 : ClassId) (Ad5 : Nat) (Fs0 : List Value) (Va0 : Int32) (Va1 : Int32) (k_Fs0 : fh Fs0 150 [(20, .int 0), (21, .ref Ad0), (22, .ref Ad1), (23, .ref Ad2), (24, .ref Ad3), (25, .ref Ad4), (26, .int 0), (27, .int 0), (28, .int 0)]) (hz_Fa2 : ∀ j, Fa2 j = 0) (hz_Fa4 : ∀ j, Fa4 j = 0) (gv_Va0 : (20 : Int) ≤ Va0.toInt ∧ Va0.toInt ≤ 24) (gv_Va1 : (0 : Int) ≤ Va1.toInt ∧ Va1.toInt ≤ 60) : Met l yX12_add w_z_X12_add ({ frames := 2, cells := 0, slots := 0, locals := 43 }) (va_Pc [.ref Ad5, .int Va0, .int Va1] (fun U => U.heap.size = sz ∧ Wd dC dI [(Ka0, .int), (Ka1, .int), (Ka2, .int), (Ka3, .boolean), (Ka4, .long)] (fun _ => True) [(Ad0, .inl (Ka0, 400, .inl Fa0)), (Ad1, .inl (Ka1, 400, .inl Fa1)), (Ad2, .inl (Ka2, 400, .inl Fa2)), (Ad3, .inl (Ka3, 400, .inl Fa3)), (Ad4, .inl (Ka4, 38500, .inr (.inl Fa4))), (Ad5, .inr (15, Fs0))] U)) (va_Qi (fun (r : Int32) (u : (Nat → Int32) × (Nat → Int32) × (Nat → Int32) × (Nat → Int32) × (Nat → Int64) × List Value) => (¬ Va0 < 0 ∧ 0 ≤ Va0 ∧ ¬ Va0 < 0 ∧ 0 ≤ Va0 ∧ r = 0 ∧ ow Fs0 (u.2.2.2.2.2) 150 [28, 27, 26] [(26, .int 1), (20, .int 0), (21, .ref Ad0), (22, .ref Ad1), (23, .ref Ad2), (24, .ref Ad3), (25, .ref Ad4)] ∧ (u.1) (0 : Int32).toNatClampNeg = Va0 ∧ (u.2.1) (0 : Int32).toNatClampNeg = Va1 ∧ (∀ j, (u.2.2.1) j = 0) ∧ (u.2.2.1) (0 : Int32).toNatClampNeg = 0 ∧ (u.2.2.2.1) (0 : Int32).toNatClampNeg = 1)) (fun (u : (Nat → Int32) × (Nat → Int32) × (Nat → Int32) × (Nat → Int32) × (Nat → Int64) × List Value) t => Wd dC dI [(Ka0, .int), (Ka1, .int), (Ka2, .int), (Ka3, .boolean), (Ka4, .long)] (va_A [(Ad0, .inl (Ka0, 400, .inl Fa0)), (Ad1, .inl (Ka1, 400, .inl Fa1)), (Ad2, .inl (Ka2, 400, .inl Fa2)), (Ad3, .inl (Ka3, 400, .inl Fa3)), (Ad4, .inl (Ka4, 38500, .inr (.inl Fa4))), (Ad5, .inr (15, Fs0))] sz) [(Ad0, .inl (Ka0, 400, .inl ((u.1)))), (Ad1, .inl (Ka1, 400, .inl ((u.2.1)))), (Ad2, .inl (Ka2, 400, .inl ((u.2.2.1)))), (Ad3, .inl (Ka3, 400, .inl ((u.2.2.2.1)))), (Ad4, .inl (Ka4, 38500, .inr (.inl ((u.2.2.2.2.1))))), (Ad5, .inr (15, (u.2.2.2.2.2)))] t) (va_A [(Ad0, .inl (Ka0, 400, .inl Fa0)), (Ad1, .inl (Ka1, 400, .inl Fa1)), (Ad2, .inl (Ka2, 400, .inl Fa2)), (Ad3, .inl (Ka3, 400, .inl Fa3)), (Ad4, .inl (Ka4, 38500, .inr (.inl Fa4))), (Ad5, .inr (15, Fs0))] sz))  0 0 (va_A [(Ad0, .inl (Ka0, 400, .inl Fa0)), (Ad1, .inl (Ka1, 400, .inl Fa1)), (Ad2, .inl (Ka2, 400, .inl Fa2)), (Ad3, .inl (Ka3, 400, .inl Fa3)), (Ad4, .inl (Ka4, 38500, .inr (.inl Fa4))), (Ad5, .inr (15, Fs0))] sz) := by
  refine Met.ofW (cc := cX12_add) (maxL := 6) (ret := (some .int)) (by decide) rfl ?_
  intro p e s m args below meth c s₁ B hml hv
  obtain ⟨rfl, hsz, hP, hK, hD0⟩ := hv
  have hx := B.exec
  have hb := B.bytes
  have hr := B.returns
  have hts := atoms_spec (ws := w_z_X12_add) B.pre
  have hown : s.vm.findClass RX12 = some m.cls := findClass_of_methodNamed B.named
  have hlocks := B.notSynchronized
  subst hsz
  have hD := hD0.self (sz := s.heap.size)
  generalize hAe : va_A [(Ad0, .inl (Ka0, 400, .inl Fa0)), (Ad1, .inl (Ka1, 400, .inl Fa1)), (Ad2, .inl (Ka2, 400, .inl Fa2)), (Ad3, .inl (Ka3, 400, .inl Fa3)), (Ad4, .inl (Ka4, 38500, .inr (.inl Fa4))), (Ad5, .inr (15, Fs0))] s.heap.size = A at hD ⊢
  have hA : ∀ q : Nat, s.heap.size ≤ q → A q := fun q h => by rw [← hAe]; exact Or.inr h
  have hS : va_S A s.heap s.heap [] := va_S.rf
  have hl := lv_entry ([.ref Ad5, .int Va0, .int Va1]) (n := 6) (Nat.le_of_ble_eq_true rfl)
  rw [lg_entry_eq]
  generalize (lg_sl ([.ref Ad5, .int Va0, .int Va1]) ++ List.replicate (6 - (lg_sl ([.ref Ad5, .int Va0, .int Va1])).length) Slot.unset).toArray = ls at hl ⊢
  have hl : lv_has ls 6 [(0, .ref Ad5), (1, .int Va0), (2, .int Va1)] := hl
  have o_Fs0 := ow_0 k_Fs0
  refine lv_aload_n hx hb dX12_add_0 rfl (lv_at hl 0 rfl) ?_
  refine va_get (D := (dC, dI)) (ci := 15) (v := .int 0) (C := RX12) (T := TX12) (N := 150) hx hb hts (in_z_X12_add_X12) hown hK hP 5 rfl rfl 26 (by decide) (hts (.fieldLink RX12 435 "HeapWorksModel" "objects" "I") (by decide +kernel)) (fun _ h9 => h9) (ow_at o_Fs0 6 rfl) dX12_add_1 ?_
  refine lv_istore_n (lv' := [(3, .int 0), (0, .ref Ad5), (1, .int Va0), (2, .int Va1)]) hx hb dX12_add_4 rfl hl (by decide) rfl (fun ls hl => ?_)
  refine lv_aload_n hx hb dX12_add_5 rfl (lv_at hl 1 rfl) ?_
  refine lv_dup hx hb dX12_add_6 rfl ?_
  refine va_get (D := (dC, dI)) (ci := 15) (v := .int 0) (C := RX12) (T := TX12) (N := 150) hx hb hts (in_z_X12_add_X12) hown hK hP 5 rfl rfl 26 (by decide) (hts (.fieldLink RX12 435 "HeapWorksModel" "objects" "I") (by decide +kernel)) (fun _ h9 => h9) (ow_at o_Fs0 6 rfl) dX12_add_7 ?_
  refine lv_iconst (v := 1) hx hb dX12_add_10 (by decide) ?_
  refine lv_iadd hx hb dX12_add_11  ?_
  refine lv_topi (fun x1044 ex1044 => ?_)
  obtain rfl : x1044 = 1 := ex1044.trans (by decide)
  refine va_put (D := (dC, dI)) (ci := 15) (v := .int 1) (ty := .int) (C := RX12) (T := TX12) (N := 150) hx hb hts (in_z_X12_add_X12) tyX12 tyX12_ok nmX12 hown hK hP hD hS 5 rfl rfl 26 (by decide) (hts (.fieldLink RX12 435 "HeapWorksModel" "objects" "I") (by decide +kernel)) (fun _ h9 => h9) rfl (by decide +kernel) rfl rfl (by rw [o_Fs0.2.1]; decide) dX12_add_12 (fun H locs hP hD hS => ?_)
  have hP : va_P (dC, dI) vwCl [(Ad0, .inl (Ka0, 400, .inl Fa0)), (Ad1, .inl (Ka1, 400, .inl Fa1)), (Ad2, .inl (Ka2, 400, .inl Fa2)), (Ad3, .inl (Ka3, 400, .inl Fa3)), (Ad4, .inl (Ka4, 38500, .inr (.inl Fa4))), (Ad5, .inr (15, (Fs0.set 26 (.int 1))))] H := hP
  have hD : va_D A [(Ad0, .inl (Ka0, 400, .inl Fa0)), (Ad1, .inl (Ka1, 400, .inl Fa1)), (Ad2, .inl (Ka2, 400, .inl Fa2)), (Ad3, .inl (Ka3, 400, .inl Fa3)), (Ad4, .inl (Ka4, 38500, .inr (.inl Fa4))), (Ad5, .inr (15, (Fs0.set 26 (.int 1))))] := hD
  have o_s1045 := ow_set o_Fs0 26 (.int 1) (by decide) (l' := [(26, .int 1), (20, .int 0), (21, .ref Ad0), (22, .ref Ad1), (23, .ref Ad2), (24, .ref Ad3), (25, .ref Ad4), (27, .int 0), (28, .int 0)]) (w' := [26]) rfl rfl
  generalize (Fs0.set 26 (.int 1)) = s1045 at hP hD o_s1045
  refine lv_aload_n hx hb dX12_add_15 rfl (lv_at hl 1 rfl) ?_
  refine va_get (D := (dC, dI)) (ci := 15) (v := .ref Ad0) (C := RX12) (T := TX12) (N := 150) hx hb hts (in_z_X12_add_X12) hown hK hP 5 rfl rfl 21 (by decide) (hts (.fieldLink RX12 125 "HeapWorksModel" "type" "[I") (by decide +kernel)) (fun _ h9 => h9) (ow_at o_s1045 2 rfl) dX12_add_16 ?_
  refine lv_iload_n hx hb dX12_add_19 rfl (lv_at hl 0 rfl) ?_
  refine lv_iload_n hx hb dX12_add_20 rfl (lv_at hl 2 rfl) ?_
  refine va_iast hx hb hK hP hD hS 0 0 rfl rfl (show vp_in 0 400 from by unfold vp_in; decide) dX12_add_21 (fun H locs hP hD hS => ?_)
  have hP : va_P (dC, dI) vwCl [(Ad0, .inl (Ka0, 400, .inl (upd Fa0 (0 : Int32).toNatClampNeg Va0))), (Ad1, .inl (Ka1, 400, .inl Fa1)), (Ad2, .inl (Ka2, 400, .inl Fa2)), (Ad3, .inl (Ka3, 400, .inl Fa3)), (Ad4, .inl (Ka4, 38500, .inr (.inl Fa4))), (Ad5, .inr (15, s1045))] H := hP
  have hD : va_D A [(Ad0, .inl (Ka0, 400, .inl (upd Fa0 (0 : Int32).toNatClampNeg Va0))), (Ad1, .inl (Ka1, 400, .inl Fa1)), (Ad2, .inl (Ka2, 400, .inl Fa2)), (Ad3, .inl (Ka3, 400, .inl Fa3)), (Ad4, .inl (Ka4, 38500, .inr (.inl Fa4))), (Ad5, .inr (15, s1045))] := hD
  have q1047 : (upd Fa0 (0 : Int32).toNatClampNeg Va0) (0 : Int32).toNatClampNeg = Va0 := pk_us
  generalize upd Fa0 (0 : Int32).toNatClampNeg Va0 = f1046 at hP hD q1047
  refine lv_aload_n hx hb dX12_add_22 rfl (lv_at hl 1 rfl) ?_
  refine va_get (D := (dC, dI)) (ci := 15) (v := .ref Ad1) (C := RX12) (T := TX12) (N := 150) hx hb hts (in_z_X12_add_X12) hown hK hP 5 rfl rfl 22 (by decide) (hts (.fieldLink RX12 128 "HeapWorksModel" "length" "[I") (by decide +kernel)) (fun _ h9 => h9) (ow_at o_s1045 3 rfl) dX12_add_23 ?_
  refine lv_iload_n hx hb dX12_add_26 rfl (lv_at hl 0 rfl) ?_
  refine lv_aload_n hx hb dX12_add_27 rfl (lv_at hl 1 rfl) ?_
  refine lv_iload_n hx hb dX12_add_28 rfl (lv_at hl 2 rfl) ?_
  have hPc := hP.sub (ws' := [(Ad5, .inr (15, s1045))]) [5] rfl
  have hDc := hD.sub (ws' := [(Ad5, .inr (15, s1045))]) [5] (by decide) rfl
  have hKc := hK.sub (tys' := []) [] rfl
  have hFc := va_free (wc := [(Ad5, .inr (15, s1045))]) hD hS hA [5] rfl
  refine va_calli (va_runV (As := [.int Va0]) (rest := [.int 0, .ref Ad1]) ⟨hx, hb, hml, hown, hts⟩ (z_X12_isClass l dC dI H.size Ad5 s1045 Va0 (fh_sub o_s1045.2 [1] rfl) ) (cwV 1 hts g_z_X12_add_z_X12_isClass_416 rfl rfl rfl (by decide +kernel) ⟨Nat.le_of_ble_eq_true rfl, Nat.le_of_ble_eq_true rfl⟩) ⟨fun a U g mk q => by obtain ⟨q0, q1, qP, qK, qD⟩ := q; exact ⟨q0, q1, qP, va_K.moved (u := U) (U := U.calling g mk a) (Vm.Alike.refl U.vm) qK, qD⟩, va_recv hK hP (ci := 15) (q0 := 5) rfl rfl, fun U hU hW => ⟨rfl, by rw [hU], by rw [hU]; exact hPc, va_K.moved hW.alike hKc, hDc.weaken (fun _ _ _ _ => trivial)⟩⟩ rfl rfl hl.1 rfl (lv_room (Nat.le_of_ble_eq_true rfl)) dX12_add_29 ⟨Nat.le_of_ble_eq_true rfl, Nat.le_of_ble_eq_true rfl⟩) hS (fun q _ h => hFc q h) hFc (fun r1050 u t H1 locs ht hvm hw hB hz1 hk1 hS => ?_)
  obtain ⟨hP1, hK1, hD1⟩ := hB
  rw [ht] at hP1
  try dsimp only at hw
  obtain ⟨hP, hD⟩ := va_join (wr := [(Ad0, .inl (Ka0, 400, .inl f1046)), (Ad1, .inl (Ka1, 400, .inl Fa1)), (Ad2, .inl (Ka2, 400, .inl Fa2)), (Ad3, .inl (Ka3, 400, .inl Fa3)), (Ad4, .inl (Ka4, 38500, .inr (.inl Fa4)))]) (w1 := [(Ad5, .inr (15, s1045))]) hP hD [5] [0, 1, 2, 3, 4] rfl rfl (by decide) (by decide) hk1 hFc hP1 hD1
  have hK := hK.sub (tys' := [(Ka0, .int), (Ka1, .int), (Ka2, .int), (Ka3, .boolean), (Ka4, .long)]) [0, 1, 2, 3, 4] rfl
  generalize H1 = H at hP hS ⊢
  have hP : va_P (dC, dI) vwCl [(Ad0, .inl (Ka0, 400, .inl f1046)), (Ad1, .inl (Ka1, 400, .inl Fa1)), (Ad2, .inl (Ka2, 400, .inl Fa2)), (Ad3, .inl (Ka3, 400, .inl Fa3)), (Ad4, .inl (Ka4, 38500, .inr (.inl Fa4))), (Ad5, .inr (15, s1045))] H := hP
  have hD : va_D A [(Ad0, .inl (Ka0, 400, .inl f1046)), (Ad1, .inl (Ka1, 400, .inl Fa1)), (Ad2, .inl (Ka2, 400, .inl Fa2)), (Ad3, .inl (Ka3, 400, .inl Fa3)), (Ad4, .inl (Ka4, 38500, .inr (.inl Fa4))), (Ad5, .inr (15, s1045))] := hD
  rcases hw with ⟨c1051, er1052⟩ | ⟨c1053, c1054, er1055⟩
  · exact (by exfalso; (try simp only [i_lt, i_le, i_eq, kc_0] at gv_Va0 c1051); omega)
  · skip
    subst er1055
    refine lv_if_eq (tgt := 39) hx hb dX12_add_32 (by decide) (fun c1056 => ?_) (fun c1056 => absurd c1056 (by decide))
    refine lv_iload_n hx hb dX12_add_39 rfl (lv_at hl 3 rfl) ?_
    refine va_iast hx hb hK hP hD hS 1 1 rfl rfl (show vp_in 0 400 from by unfold vp_in; decide) dX12_add_40 (fun H locs hP hD hS => ?_)
    have hP : va_P (dC, dI) vwCl [(Ad0, .inl (Ka0, 400, .inl f1046)), (Ad1, .inl (Ka1, 400, .inl (upd Fa1 (0 : Int32).toNatClampNeg Va1))), (Ad2, .inl (Ka2, 400, .inl Fa2)), (Ad3, .inl (Ka3, 400, .inl Fa3)), (Ad4, .inl (Ka4, 38500, .inr (.inl Fa4))), (Ad5, .inr (15, s1045))] H := hP
    have hD : va_D A [(Ad0, .inl (Ka0, 400, .inl f1046)), (Ad1, .inl (Ka1, 400, .inl (upd Fa1 (0 : Int32).toNatClampNeg Va1))), (Ad2, .inl (Ka2, 400, .inl Fa2)), (Ad3, .inl (Ka3, 400, .inl Fa3)), (Ad4, .inl (Ka4, 38500, .inr (.inl Fa4))), (Ad5, .inr (15, s1045))] := hD
    have q1058 : (upd Fa1 (0 : Int32).toNatClampNeg Va1) (0 : Int32).toNatClampNeg = Va1 := pk_us
    generalize upd Fa1 (0 : Int32).toNatClampNeg Va1 = f1057 at hP hD q1058
    refine lv_aload_n hx hb dX12_add_41 rfl (lv_at hl 1 rfl) ?_
    refine va_get (D := (dC, dI)) (ci := 15) (v := .ref Ad2) (C := RX12) (T := TX12) (N := 150) hx hb hts (in_z_X12_add_X12) hown hK hP 5 rfl rfl 23 (by decide) (hts (.fieldLink RX12 131 "HeapWorksModel" "from" "[I") (by decide +kernel)) (fun _ h9 => h9) (ow_at o_s1045 4 rfl) dX12_add_42 ?_
    refine lv_iload_n hx hb dX12_add_45 rfl (lv_at hl 0 rfl) ?_
    refine lv_aload_n hx hb dX12_add_46 rfl (lv_at hl 1 rfl) ?_
    refine va_get (D := (dC, dI)) (ci := 15) (v := .int 0) (C := RX12) (T := TX12) (N := 150) hx hb hts (in_z_X12_add_X12) hown hK hP 5 rfl rfl 27 (by decide) (hts (.fieldLink RX12 452 "HeapWorksModel" "valuesUsed" "I") (by decide +kernel)) (fun _ h9 => h9) (ow_at o_s1045 7 rfl) dX12_add_47 ?_
    refine va_iast hx hb hK hP hD hS 2 2 rfl rfl (show vp_in 0 400 from by unfold vp_in; decide) dX12_add_50 (fun H locs hP hD hS => ?_)
    have hP : va_P (dC, dI) vwCl [(Ad0, .inl (Ka0, 400, .inl f1046)), (Ad1, .inl (Ka1, 400, .inl f1057)), (Ad2, .inl (Ka2, 400, .inl (upd Fa2 (0 : Int32).toNatClampNeg 0))), (Ad3, .inl (Ka3, 400, .inl Fa3)), (Ad4, .inl (Ka4, 38500, .inr (.inl Fa4))), (Ad5, .inr (15, s1045))] H := hP
    have hD : va_D A [(Ad0, .inl (Ka0, 400, .inl f1046)), (Ad1, .inl (Ka1, 400, .inl f1057)), (Ad2, .inl (Ka2, 400, .inl (upd Fa2 (0 : Int32).toNatClampNeg 0))), (Ad3, .inl (Ka3, 400, .inl Fa3)), (Ad4, .inl (Ka4, 38500, .inr (.inl Fa4))), (Ad5, .inr (15, s1045))] := hD
    have q1060 : (upd Fa2 (0 : Int32).toNatClampNeg 0) (0 : Int32).toNatClampNeg = 0 := pk_us
    have z1061 : ∀ j, (upd Fa2 (0 : Int32).toNatClampNeg 0) j = 0 := az_up hz_Fa2 rfl
    generalize upd Fa2 (0 : Int32).toNatClampNeg 0 = f1059 at hP hD q1060 z1061
    refine lv_aload_n hx hb dX12_add_51 rfl (lv_at hl 1 rfl) ?_
    refine va_get (D := (dC, dI)) (ci := 15) (v := .ref Ad3) (C := RX12) (T := TX12) (N := 150) hx hb hts (in_z_X12_add_X12) hown hK hP 5 rfl rfl 24 (by decide) (hts (.fieldLink RX12 134 "HeapWorksModel" "there" "[Z") (by decide +kernel)) (fun _ h9 => h9) (ow_at o_s1045 5 rfl) dX12_add_52 ?_
    refine lv_iload_n hx hb dX12_add_55 rfl (lv_at hl 0 rfl) ?_
    refine lv_iconst (v := 1) hx hb dX12_add_56 (by decide) ?_
    refine va_zast hx hb hK hP hD hS 3 3 rfl rfl (show vp_in 0 400 from by unfold vp_in; decide) dX12_add_57 (fun H locs hP hD hS => ?_)
    have hP : va_P (dC, dI) vwCl [(Ad0, .inl (Ka0, 400, .inl f1046)), (Ad1, .inl (Ka1, 400, .inl f1057)), (Ad2, .inl (Ka2, 400, .inl f1059)), (Ad3, .inl (Ka3, 400, .inl (upd Fa3 (0 : Int32).toNatClampNeg (vp_nar .boolean 1)))), (Ad4, .inl (Ka4, 38500, .inr (.inl Fa4))), (Ad5, .inr (15, s1045))] H := hP
    have hD : va_D A [(Ad0, .inl (Ka0, 400, .inl f1046)), (Ad1, .inl (Ka1, 400, .inl f1057)), (Ad2, .inl (Ka2, 400, .inl f1059)), (Ad3, .inl (Ka3, 400, .inl (upd Fa3 (0 : Int32).toNatClampNeg (vp_nar .boolean 1)))), (Ad4, .inl (Ka4, 38500, .inr (.inl Fa4))), (Ad5, .inr (15, s1045))] := hD
    have q1063 : (upd Fa3 (0 : Int32).toNatClampNeg (vp_nar .boolean 1)) (0 : Int32).toNatClampNeg = 1 := (pk_us.trans (by decide))
    generalize upd Fa3 (0 : Int32).toNatClampNeg (vp_nar .boolean 1) = f1062 at hP hD q1063
    refine lv_aload_n hx hb dX12_add_58 rfl (lv_at hl 1 rfl) ?_
    refine lv_iload_n hx hb dX12_add_59 rfl (lv_at hl 2 rfl) ?_
    refine lv_iload_n hx hb dX12_add_60 rfl (lv_at hl 3 rfl) ?_
    have hPc := hP.sub (ws' := [(Ad5, .inr (15, s1045))]) [5] rfl
    have hDc := hD.sub (ws' := [(Ad5, .inr (15, s1045))]) [5] (by decide) rfl
    have hKc := hK.sub (tys' := []) [] rfl
    have hFc := va_free (wc := [(Ad5, .inr (15, s1045))]) hD hS hA [5] rfl
    refine va_calli (va_runV (As := [.int Va0, .int Va1]) (rest := []) ⟨hx, hb, hml, hown, hts⟩ (z_X12_slotCount l dC dI H.size Ad5 s1045 Va0 Va1 (fh_sub o_s1045.2 [1] rfl) ) (cwV 2 hts g_z_X12_add_z_X12_slotCount_455 rfl rfl rfl (by decide +kernel) ⟨Nat.le_of_ble_eq_true rfl, Nat.le_of_ble_eq_true rfl⟩) ⟨fun a U g mk q => by obtain ⟨q0, q1, qP, qK, qD⟩ := q; exact ⟨q0, q1, qP, va_K.moved (u := U) (U := U.calling g mk a) (Vm.Alike.refl U.vm) qK, qD⟩, va_recv hK hP (ci := 15) (q0 := 5) rfl rfl, fun U hU hW => ⟨rfl, by rw [hU], by rw [hU]; exact hPc, va_K.moved hW.alike hKc, hDc.weaken (fun _ _ _ _ => trivial)⟩⟩ rfl rfl hl.1 rfl (lv_room (Nat.le_of_ble_eq_true rfl)) dX12_add_61 ⟨Nat.le_of_ble_eq_true rfl, Nat.le_of_ble_eq_true rfl⟩) hS (fun q _ h => hFc q h) hFc (fun r1074 u t H1 locs ht hvm hw hB hz1 hk1 hS => ?_)
    obtain ⟨hP1, hK1, hD1⟩ := hB
    rw [ht] at hP1
    try dsimp only at hw
    obtain ⟨hP, hD⟩ := va_join (wr := [(Ad0, .inl (Ka0, 400, .inl f1046)), (Ad1, .inl (Ka1, 400, .inl f1057)), (Ad2, .inl (Ka2, 400, .inl f1059)), (Ad3, .inl (Ka3, 400, .inl f1062)), (Ad4, .inl (Ka4, 38500, .inr (.inl Fa4)))]) (w1 := [(Ad5, .inr (15, s1045))]) hP hD [5] [0, 1, 2, 3, 4] rfl rfl (by decide) (by decide) hk1 hFc hP1 hD1
    have hK := hK.sub (tys' := [(Ka0, .int), (Ka1, .int), (Ka2, .int), (Ka3, .boolean), (Ka4, .long)]) [0, 1, 2, 3, 4] rfl
    generalize H1 = H at hP hS ⊢
    have hP : va_P (dC, dI) vwCl [(Ad0, .inl (Ka0, 400, .inl f1046)), (Ad1, .inl (Ka1, 400, .inl f1057)), (Ad2, .inl (Ka2, 400, .inl f1059)), (Ad3, .inl (Ka3, 400, .inl f1062)), (Ad4, .inl (Ka4, 38500, .inr (.inl Fa4))), (Ad5, .inr (15, s1045))] H := hP
    have hD : va_D A [(Ad0, .inl (Ka0, 400, .inl f1046)), (Ad1, .inl (Ka1, 400, .inl f1057)), (Ad2, .inl (Ka2, 400, .inl f1059)), (Ad3, .inl (Ka3, 400, .inl f1062)), (Ad4, .inl (Ka4, 38500, .inr (.inl Fa4))), (Ad5, .inr (15, s1045))] := hD
    rcases hw with ⟨c1075, er1076⟩ | ⟨c1077, c1078, er1079⟩
    · exact (by exfalso; (try simp only [i_lt, i_le, i_eq, kc_0] at gv_Va0 c1053 c1054 c1075); omega)
    · skip
      have qer1079 := er1079.symm
      subst qer1079
      refine lv_istore (lv' := [(4, .int Va1), (3, .int 0), (0, .ref Ad5), (1, .int Va0), (2, .int Va1)]) hx hb dX12_add_64 hl (by decide) rfl (fun ls hl => ?_)
      refine lv_iconst (v := 0) hx hb dX12_add_66 (by decide) ?_
      refine lv_istore (lv' := [(5, .int 0), (4, .int Va1), (3, .int 0), (0, .ref Ad5), (1, .int Va0), (2, .int Va1)]) hx hb dX12_add_67 hl (by decide) rfl (fun ls hl => ?_)
      have HL1 : ∀ (n j1174 : Nat) (x1175 : Int32) (f1176 : Nat → Int64), x1175 = nI j1174 → 0 ≤ j1174 → j1174 ≤ 60 → 61 ≤ j1174 + n → ∀ (H : Heap) (locs : List Loc) (ls : Array Slot), va_P (dC, dI) vwCl [(Ad0, .inl (Ka0, 400, .inl f1046)), (Ad1, .inl (Ka1, 400, .inl f1057)), (Ad2, .inl (Ka2, 400, .inl f1059)), (Ad3, .inl (Ka3, 400, .inl f1062)), (Ad4, .inl (Ka4, 38500, .inr (.inl f1176))), (Ad5, .inr (15, s1045))] H → va_D A [(Ad0, .inl (Ka0, 400, .inl f1046)), (Ad1, .inl (Ka1, 400, .inl f1057)), (Ad2, .inl (Ka2, 400, .inl f1059)), (Ad3, .inl (Ka3, 400, .inl f1062)), (Ad4, .inl (Ka4, 38500, .inr (.inl f1176))), (Ad5, .inr (15, s1045))] → va_S A s.heap H locs → lv_has ls 6 [(5, .int x1175), (4, .int Va1), (3, .int 0), (0, .ref Ad5), (1, .int Va0), (2, .int Va1)] → W p l e (headSpec w_z_X12_add ({ frames := 2, cells := 0, slots := 0, locals := 43 })).room s m ([.ref Ad5, .int Va0, .int Va1]).toArray below meth c H locs 0 0 (MQ below (va_Qi (fun (r : Int32) (u : (Nat → Int32) × (Nat → Int32) × (Nat → Int32) × (Nat → Int32) × (Nat → Int64) × List Value) => (¬ Va0 < 0 ∧ 0 ≤ Va0 ∧ ¬ Va0 < 0 ∧ 0 ≤ Va0 ∧ r = 0 ∧ ow Fs0 (u.2.2.2.2.2) 150 [28, 27, 26] [(26, .int 1), (20, .int 0), (21, .ref Ad0), (22, .ref Ad1), (23, .ref Ad2), (24, .ref Ad3), (25, .ref Ad4)] ∧ (u.1) (0 : Int32).toNatClampNeg = Va0 ∧ (u.2.1) (0 : Int32).toNatClampNeg = Va1 ∧ (∀ j, (u.2.2.1) j = 0) ∧ (u.2.2.1) (0 : Int32).toNatClampNeg = 0 ∧ (u.2.2.2.1) (0 : Int32).toNatClampNeg = 1)) (fun (u : (Nat → Int32) × (Nat → Int32) × (Nat → Int32) × (Nat → Int32) × (Nat → Int64) × List Value) t => Wd dC dI [(Ka0, .int), (Ka1, .int), (Ka2, .int), (Ka3, .boolean), (Ka4, .long)] A [(Ad0, .inl (Ka0, 400, .inl ((u.1)))), (Ad1, .inl (Ka1, 400, .inl ((u.2.1)))), (Ad2, .inl (Ka2, 400, .inl ((u.2.2.1)))), (Ad3, .inl (Ka3, 400, .inl ((u.2.2.2.1)))), (Ad4, .inl (Ka4, 38500, .inr (.inl ((u.2.2.2.2.1))))), (Ad5, .inr (15, (u.2.2.2.2.2)))] t) A) ([.ref Ad5, .int Va0, .int Va1]).toArray s 0 0 A) (F0 m 69 ls []) := by
        intro n
        induction n with
        | zero =>
          intro j1174 x1175 f1176 e1177 h1179 h1180 h1181
          exact absurd h1181 (by omega)
        | succ n ih =>
          intro j1174 x1175 f1176 e1177 h1179 h1180 h1181 H locs ls hP hD hS hl
          have t1178 : x1175.toInt = (j1174 : Int) := by rw [e1177]; exact nI_toInt (by omega)
          refine lv_iload hx hb dX12_add_69 (lv_at hl 0 rfl) ?_
          refine lv_iload hx hb dX12_add_71 (lv_at hl 1 rfl) ?_
          refine lv_icmp_ge (tgt := 112) hx hb dX12_add_73 (by decide) (fun c1182 => ?_) (fun c1182 => ?_)
          · skip
            refine lv_aload_n hx hb dX12_add_112 rfl (lv_at hl 3 rfl) ?_
            refine lv_dup hx hb dX12_add_113 rfl ?_
            refine va_get (D := (dC, dI)) (ci := 15) (v := .int 0) (C := RX12) (T := TX12) (N := 150) hx hb hts (in_z_X12_add_X12) hown hK hP 5 rfl rfl 27 (by decide) (hts (.fieldLink RX12 452 "HeapWorksModel" "valuesUsed" "I") (by decide +kernel)) (fun _ h9 => h9) (ow_at o_s1045 7 rfl) dX12_add_114 ?_
            refine lv_iload hx hb dX12_add_117 (lv_at hl 1 rfl) ?_
            refine lv_iadd hx hb dX12_add_119  ?_
            refine lv_topi (fun x1183 ex1183 => ?_)
            have tx1183 : x1183.toInt = (0 : Int32).toInt + (Va1 : Int32).toInt := by rw [ex1183]; exact i_add (by have bd_Va1 := i_bd Va1; (try simp only [i_lt, i_le, i_eq, kc_0] at gv_Va1 c1182 t1178 h1180 h1179 ⊢); omega) (by have bd_Va1 := i_bd Va1; (try simp only [i_lt, i_le, i_eq, kc_0] at gv_Va1 c1182 t1178 h1180 h1179 ⊢); omega)
            refine va_put (D := (dC, dI)) (ci := 15) (v := .int x1183) (ty := .int) (C := RX12) (T := TX12) (N := 150) hx hb hts (in_z_X12_add_X12) tyX12 tyX12_ok nmX12 hown hK hP hD hS 5 rfl rfl 27 (by decide) (hts (.fieldLink RX12 452 "HeapWorksModel" "valuesUsed" "I") (by decide +kernel)) (fun _ h9 => h9) rfl (by decide +kernel) rfl rfl (by rw [o_s1045.2.1]; decide) dX12_add_120 (fun H locs hP hD hS => ?_)
            have hP : va_P (dC, dI) vwCl [(Ad0, .inl (Ka0, 400, .inl f1046)), (Ad1, .inl (Ka1, 400, .inl f1057)), (Ad2, .inl (Ka2, 400, .inl f1059)), (Ad3, .inl (Ka3, 400, .inl f1062)), (Ad4, .inl (Ka4, 38500, .inr (.inl f1176))), (Ad5, .inr (15, (s1045.set 27 (.int x1183))))] H := hP
            have hD : va_D A [(Ad0, .inl (Ka0, 400, .inl f1046)), (Ad1, .inl (Ka1, 400, .inl f1057)), (Ad2, .inl (Ka2, 400, .inl f1059)), (Ad3, .inl (Ka3, 400, .inl f1062)), (Ad4, .inl (Ka4, 38500, .inr (.inl f1176))), (Ad5, .inr (15, (s1045.set 27 (.int x1183))))] := hD
            have o_s1184 := ow_set o_s1045 27 (.int x1183) (by decide) (l' := [(27, .int x1183), (26, .int 1), (20, .int 0), (21, .ref Ad0), (22, .ref Ad1), (23, .ref Ad2), (24, .ref Ad3), (25, .ref Ad4), (28, .int 0)]) (w' := [27, 26]) rfl rfl
            generalize (s1045.set 27 (.int x1183)) = s1184 at hP hD o_s1184
            refine lv_aload_n hx hb dX12_add_123 rfl (lv_at hl 3 rfl) ?_
            refine lv_dup hx hb dX12_add_124 rfl ?_
            refine va_get (D := (dC, dI)) (ci := 15) (v := .int 0) (C := RX12) (T := TX12) (N := 150) hx hb hts (in_z_X12_add_X12) hown hK hP 5 rfl rfl 28 (by decide) (hts (.fieldLink RX12 461 "HeapWorksModel" "slotsThere" "I") (by decide +kernel)) (fun _ h9 => h9) (ow_at o_s1184 8 rfl) dX12_add_125 ?_
            refine lv_iload hx hb dX12_add_128 (lv_at hl 1 rfl) ?_
            refine lv_iadd hx hb dX12_add_130  ?_
            refine lv_topi (fun x1185 ex1185 => ?_)
            have tx1185 : x1185.toInt = (0 : Int32).toInt + (Va1 : Int32).toInt := by rw [ex1185]; exact i_add (by have bd_Va1 := i_bd Va1; (try simp only [i_lt, i_le, i_eq, kc_0] at gv_Va1 c1182 tx1183 t1178 h1180 h1179 ⊢); omega) (by have bd_Va1 := i_bd Va1; (try simp only [i_lt, i_le, i_eq, kc_0] at gv_Va1 c1182 tx1183 t1178 h1180 h1179 ⊢); omega)
            refine va_put (D := (dC, dI)) (ci := 15) (v := .int x1185) (ty := .int) (C := RX12) (T := TX12) (N := 150) hx hb hts (in_z_X12_add_X12) tyX12 tyX12_ok nmX12 hown hK hP hD hS 5 rfl rfl 28 (by decide) (hts (.fieldLink RX12 461 "HeapWorksModel" "slotsThere" "I") (by decide +kernel)) (fun _ h9 => h9) rfl (by decide +kernel) rfl rfl (by rw [o_s1184.2.1]; decide) dX12_add_131 (fun H locs hP hD hS => ?_)
            have hP : va_P (dC, dI) vwCl [(Ad0, .inl (Ka0, 400, .inl f1046)), (Ad1, .inl (Ka1, 400, .inl f1057)), (Ad2, .inl (Ka2, 400, .inl f1059)), (Ad3, .inl (Ka3, 400, .inl f1062)), (Ad4, .inl (Ka4, 38500, .inr (.inl f1176))), (Ad5, .inr (15, (s1184.set 28 (.int x1185))))] H := hP
            have hD : va_D A [(Ad0, .inl (Ka0, 400, .inl f1046)), (Ad1, .inl (Ka1, 400, .inl f1057)), (Ad2, .inl (Ka2, 400, .inl f1059)), (Ad3, .inl (Ka3, 400, .inl f1062)), (Ad4, .inl (Ka4, 38500, .inr (.inl f1176))), (Ad5, .inr (15, (s1184.set 28 (.int x1185))))] := hD
            have o_s1186 := ow_set o_s1184 28 (.int x1185) (by decide) (l' := [(28, .int x1185), (27, .int x1183), (26, .int 1), (20, .int 0), (21, .ref Ad0), (22, .ref Ad1), (23, .ref Ad2), (24, .ref Ad3), (25, .ref Ad4)]) (w' := [28, 27, 26]) rfl rfl
            generalize (s1184.set 28 (.int x1185)) = s1186 at hP hD o_s1186
            refine lv_iload_n hx hb dX12_add_134 rfl (lv_at hl 2 rfl) ?_
            have hP9 := hP.sub (ws' := [(Ad0, .inl (Ka0, 400, .inl f1046)), (Ad1, .inl (Ka1, 400, .inl f1057)), (Ad2, .inl (Ka2, 400, .inl f1059)), (Ad3, .inl (Ka3, 400, .inl f1062)), (Ad4, .inl (Ka4, 38500, .inr (.inl f1176))), (Ad5, .inr (15, s1186))]) [0, 1, 2, 3, 4, 5] rfl
            have hD9 := hD.sub (ws' := [(Ad0, .inl (Ka0, 400, .inl f1046)), (Ad1, .inl (Ka1, 400, .inl f1057)), (Ad2, .inl (Ka2, 400, .inl f1059)), (Ad3, .inl (Ka3, 400, .inl f1062)), (Ad4, .inl (Ka4, 38500, .inr (.inl f1176))), (Ad5, .inr (15, s1186))]) [0, 1, 2, 3, 4, 5] (by decide) rfl
            have hK9 := hK.sub (tys' := [(Ka0, .int), (Ka1, .int), (Ka2, .int), (Ka3, .boolean), (Ka4, .long)]) [0, 1, 2, 3, 4] rfl
            exact W.iret (v := 0) hx hb hr (fun t ht hW => ⟨⟨0, (f1046, f1057, f1059, f1062, f1176, s1186), rfl, ⟨c1053, c1054, c1077, c1078, rfl, (ow_sub o_s1186 [2, 3, 4, 5, 6, 7, 8] rfl), q1047, q1058, z1061, q1060, q1063⟩, by rw [ht]; exact hP9, va_K.moved hW.alike hK9, hD9⟩, hS.F ht⟩) hS.2.2 dX12_add_135
          · skip
            refine lv_aload_n hx hb dX12_add_76 rfl (lv_at hl 3 rfl) ?_
            refine va_get (D := (dC, dI)) (ci := 15) (v := .ref Ad4) (C := RX12) (T := TX12) (N := 150) hx hb hts (in_z_X12_add_X12) hown hK hP 5 rfl rfl 25 (by decide) (hts (.fieldLink RX12 138 "HeapWorksModel" "values" "[J") (by decide +kernel)) (fun _ h9 => h9) (ow_at o_s1045 6 rfl) dX12_add_77 ?_
            refine lv_aload_n hx hb dX12_add_80 rfl (lv_at hl 3 rfl) ?_
            refine va_get (D := (dC, dI)) (ci := 15) (v := .int 0) (C := RX12) (T := TX12) (N := 150) hx hb hts (in_z_X12_add_X12) hown hK hP 5 rfl rfl 27 (by decide) (hts (.fieldLink RX12 452 "HeapWorksModel" "valuesUsed" "I") (by decide +kernel)) (fun _ h9 => h9) (ow_at o_s1045 7 rfl) dX12_add_81 ?_
            refine lv_iload hx hb dX12_add_84 (lv_at hl 0 rfl) ?_
            refine lv_iadd hx hb dX12_add_86  ?_
            refine lv_topi (fun x1187 ex1187 => ?_)
            have tx1187 : x1187.toInt = (0 : Int32).toInt + (x1175 : Int32).toInt := by rw [ex1187]; exact i_add (by have bd_x1175 := i_bd x1175; (try simp only [i_lt, i_le, i_eq, kc_0] at t1178 h1180 h1179 c1182 gv_Va1 ⊢); omega) (by have bd_x1175 := i_bd x1175; (try simp only [i_lt, i_le, i_eq, kc_0] at t1178 h1180 h1179 c1182 gv_Va1 ⊢); omega)
            refine lv_aload_n hx hb dX12_add_87 rfl (lv_at hl 3 rfl) ?_
            refine lv_iload_n hx hb dX12_add_88 rfl (lv_at hl 4 rfl) ?_
            refine lv_iload hx hb dX12_add_89 (lv_at hl 0 rfl) ?_
            have hPc := hP.sub (ws' := [(Ad5, .inr (15, s1045))]) [5] rfl
            have hDc := hD.sub (ws' := [(Ad5, .inr (15, s1045))]) [5] (by decide) rfl
            have hKc := hK.sub (tys' := []) [] rfl
            have hFc := va_free (wc := [(Ad5, .inr (15, s1045))]) hD hS hA [5] rfl
            refine va_calli (va_runV (As := [.int Va0, .int x1175]) (rest := [.int x1187, .ref Ad4]) ⟨hx, hb, hml, hown, hts⟩ (z_X12_kindOf l dC dI H.size Ad5 s1045 Va0 x1175 (fh_sub o_s1045.2 [1] rfl) ) (cwV 2 hts g_z_X12_add_z_X12_kindOf_458 rfl rfl rfl (by decide +kernel) ⟨Nat.le_of_ble_eq_true rfl, Nat.le_of_ble_eq_true rfl⟩) ⟨fun a U g mk q => by obtain ⟨q0, q1, qP, qK, qD⟩ := q; exact ⟨q0, q1, qP, va_K.moved (u := U) (U := U.calling g mk a) (Vm.Alike.refl U.vm) qK, qD⟩, va_recv hK hP (ci := 15) (q0 := 5) rfl rfl, fun U hU hW => ⟨rfl, by rw [hU], by rw [hU]; exact hPc, va_K.moved hW.alike hKc, hDc.weaken (fun _ _ _ _ => trivial)⟩⟩ rfl rfl hl.1 rfl (lv_room (Nat.le_of_ble_eq_true rfl)) dX12_add_91 ⟨Nat.le_of_ble_eq_true rfl, Nat.le_of_ble_eq_true rfl⟩) hS (fun q _ h => hFc q h) hFc (fun r1202 u t H1 locs ht hvm hw hB hz1 hk1 hS => ?_)
            obtain ⟨hP1, hK1, hD1⟩ := hB
            rw [ht] at hP1
            try dsimp only at hw
            obtain ⟨hP, hD⟩ := va_join (wr := [(Ad0, .inl (Ka0, 400, .inl f1046)), (Ad1, .inl (Ka1, 400, .inl f1057)), (Ad2, .inl (Ka2, 400, .inl f1059)), (Ad3, .inl (Ka3, 400, .inl f1062)), (Ad4, .inl (Ka4, 38500, .inr (.inl f1176)))]) (w1 := [(Ad5, .inr (15, s1045))]) hP hD [5] [0, 1, 2, 3, 4] rfl rfl (by decide) (by decide) hk1 hFc hP1 hD1
            have hK := hK.sub (tys' := [(Ka0, .int), (Ka1, .int), (Ka2, .int), (Ka3, .boolean), (Ka4, .long)]) [0, 1, 2, 3, 4] rfl
            generalize H1 = H at hP hS ⊢
            have hP : va_P (dC, dI) vwCl [(Ad0, .inl (Ka0, 400, .inl f1046)), (Ad1, .inl (Ka1, 400, .inl f1057)), (Ad2, .inl (Ka2, 400, .inl f1059)), (Ad3, .inl (Ka3, 400, .inl f1062)), (Ad4, .inl (Ka4, 38500, .inr (.inl f1176))), (Ad5, .inr (15, s1045))] H := hP
            have hD : va_D A [(Ad0, .inl (Ka0, 400, .inl f1046)), (Ad1, .inl (Ka1, 400, .inl f1057)), (Ad2, .inl (Ka2, 400, .inl f1059)), (Ad3, .inl (Ka3, 400, .inl f1062)), (Ad4, .inl (Ka4, 38500, .inr (.inl f1176))), (Ad5, .inr (15, s1045))] := hD
            rcases hw with ⟨c1203, c1204, er1205⟩ | ⟨c1206, c1207, c1208, er1209⟩ | ⟨c1210, c1211, c1212, er1213⟩
            · exact (by exfalso; (try simp only [i_lt, i_le, i_eq, kc_0, kc_29] at gv_Va0 c1053 c1054 c1077 c1078 c1203 c1204); omega)
            · skip
              have er1202 := er1209
              refine lv_iconst (v := 5) hx hb dX12_add_94 (by decide) ?_
              refine lv_icmp_ne (tgt := 104) hx hb dX12_add_95 (by decide) (fun c1214 => ?_) (fun c1214 => ?_)
              · skip
                refine lv_lconst (v := 0) hx hb dX12_add_104 (by decide) ?_
                refine va_last hx hb hK hP hD hS 4 4 rfl rfl (by rw [vp_in_iff]; (try simp only [i_lt, i_le, i_eq, kc_0] at tx1187 t1178 h1180 h1179 c1182 gv_Va1); omega) dX12_add_105 (fun H locs hP hD hS => ?_)
                have hP : va_P (dC, dI) vwCl [(Ad0, .inl (Ka0, 400, .inl f1046)), (Ad1, .inl (Ka1, 400, .inl f1057)), (Ad2, .inl (Ka2, 400, .inl f1059)), (Ad3, .inl (Ka3, 400, .inl f1062)), (Ad4, .inl (Ka4, 38500, .inr (.inl (vp_updL f1176 (x1187 : Int32).toNatClampNeg 0)))), (Ad5, .inr (15, s1045))] H := hP
                have hD : va_D A [(Ad0, .inl (Ka0, 400, .inl f1046)), (Ad1, .inl (Ka1, 400, .inl f1057)), (Ad2, .inl (Ka2, 400, .inl f1059)), (Ad3, .inl (Ka3, 400, .inl f1062)), (Ad4, .inl (Ka4, 38500, .inr (.inl (vp_updL f1176 (x1187 : Int32).toNatClampNeg 0)))), (Ad5, .inr (15, s1045))] := hD
                have q1216 : (vp_updL f1176 (x1187 : Int32).toNatClampNeg 0) (x1187 : Int32).toNatClampNeg = 0 := pk_uLs
                generalize vp_updL f1176 (x1187 : Int32).toNatClampNeg 0 = f1215 at hP hD q1216
                obtain ⟨x1217, ex1217⟩ : ∃ y : Int32, y = x1175 + 1 := ⟨_, rfl⟩
                refine lv_iinc (v := x1217) (lv' := [(5, .int x1217), (4, .int Va1), (3, .int 0), (0, .ref Ad5), (1, .int Va0), (2, .int Va1)]) hx hb dX12_add_106 hl (k := 0) rfl (by rw [ex1217]; rfl) (by decide) rfl (fun ls hl => ?_)
                have tx1217 : x1217.toInt = x1175.toInt + (1 : Int32).toInt := by rw [ex1217]; exact i_add (by have bd_x1175 := i_bd x1175; (try simp only [i_lt, i_le, i_eq, kc_0, kc_1] at t1178 h1180 h1179 c1182 tx1187 gv_Va1 ⊢); omega) (by have bd_x1175 := i_bd x1175; (try simp only [i_lt, i_le, i_eq, kc_0, kc_1] at t1178 h1180 h1179 c1182 tx1187 gv_Va1 ⊢); omega)
                refine lv_goto (tgt := 69) hx hb dX12_add_109 (by decide) ?_
                exact ih (j1174 + 1) x1217 f1215 (by rw [ex1217, e1177]; exact nI_1 _) (by omega) (by (try simp only [i_lt, i_le, i_eq, kc_0, kc_1] at t1178 h1180 h1179 c1182 tx1187 tx1217 gv_Va1); omega) (by omega)  _ _ _ (hP.sub [0, 1, 2, 3, 4, 5] rfl) (hD.sub [0, 1, 2, 3, 4, 5] (by decide) rfl) hS  (lv_sub hl [0, 1, 2, 3, 4, 5] rfl)
              · skip
                refine lv_ldc2 (v := (-1)) hx hb hown (hts (.constantLong RX12 433 (-1)) (by decide +kernel)) dX12_add_98 ?_
                refine lv_goto (tgt := 105) hx hb dX12_add_101 (by decide) ?_
                refine va_last hx hb hK hP hD hS 4 4 rfl rfl (by rw [vp_in_iff]; (try simp only [i_lt, i_le, i_eq, kc_0] at tx1187 t1178 h1180 h1179 c1182 gv_Va1); omega) dX12_add_105 (fun H locs hP hD hS => ?_)
                have hP : va_P (dC, dI) vwCl [(Ad0, .inl (Ka0, 400, .inl f1046)), (Ad1, .inl (Ka1, 400, .inl f1057)), (Ad2, .inl (Ka2, 400, .inl f1059)), (Ad3, .inl (Ka3, 400, .inl f1062)), (Ad4, .inl (Ka4, 38500, .inr (.inl (vp_updL f1176 (x1187 : Int32).toNatClampNeg (-1))))), (Ad5, .inr (15, s1045))] H := hP
                have hD : va_D A [(Ad0, .inl (Ka0, 400, .inl f1046)), (Ad1, .inl (Ka1, 400, .inl f1057)), (Ad2, .inl (Ka2, 400, .inl f1059)), (Ad3, .inl (Ka3, 400, .inl f1062)), (Ad4, .inl (Ka4, 38500, .inr (.inl (vp_updL f1176 (x1187 : Int32).toNatClampNeg (-1))))), (Ad5, .inr (15, s1045))] := hD
                have q1219 : (vp_updL f1176 (x1187 : Int32).toNatClampNeg (-1)) (x1187 : Int32).toNatClampNeg = (-1) := pk_uLs
                generalize vp_updL f1176 (x1187 : Int32).toNatClampNeg (-1) = f1218 at hP hD q1219
                obtain ⟨x1220, ex1220⟩ : ∃ y : Int32, y = x1175 + 1 := ⟨_, rfl⟩
                refine lv_iinc (v := x1220) (lv' := [(5, .int x1220), (4, .int Va1), (3, .int 0), (0, .ref Ad5), (1, .int Va0), (2, .int Va1)]) hx hb dX12_add_106 hl (k := 0) rfl (by rw [ex1220]; rfl) (by decide) rfl (fun ls hl => ?_)
                have tx1220 : x1220.toInt = x1175.toInt + (1 : Int32).toInt := by rw [ex1220]; exact i_add (by have bd_x1175 := i_bd x1175; (try simp only [i_lt, i_le, i_eq, kc_0, kc_1] at t1178 h1180 h1179 c1182 tx1187 gv_Va1 ⊢); omega) (by have bd_x1175 := i_bd x1175; (try simp only [i_lt, i_le, i_eq, kc_0, kc_1] at t1178 h1180 h1179 c1182 tx1187 gv_Va1 ⊢); omega)
                refine lv_goto (tgt := 69) hx hb dX12_add_109 (by decide) ?_
                exact ih (j1174 + 1) x1220 f1218 (by rw [ex1220, e1177]; exact nI_1 _) (by omega) (by (try simp only [i_lt, i_le, i_eq, kc_0, kc_1] at t1178 h1180 h1179 c1182 tx1187 tx1220 gv_Va1); omega) (by omega)  _ _ _ (hP.sub [0, 1, 2, 3, 4, 5] rfl) (hD.sub [0, 1, 2, 3, 4, 5] (by decide) rfl) hS  (lv_sub hl [0, 1, 2, 3, 4, 5] rfl)
            · exact (by exfalso; (try simp only [i_lt, i_le, i_eq, kc_0, kc_29] at gv_Va0 c1053 c1054 c1077 c1078 c1210 c1211 c1212); omega)
      exact HL1 61 0 (0) Fa4 (by decide) (by omega) (by omega) (by omega)  _ _ _ hP hD hS  hl

def l_z_X12_add_1 : List Cond := [.fieldLink RX12 435 "HeapWorksModel" "objects" "I", .fieldLink RX12 125 "HeapWorksModel" "type" "[I", .fieldLink RX12 128 "HeapWorksModel" "length" "[I", .methodLink RX12 416 yX12_isClass, .instanceMethod yX12_isClass, .selects RX12 yX12_isClass yX12_isClass, .initialized RX12, .fieldLink RX12 131 "HeapWorksModel" "from" "[I", .fieldLink RX12 452 "HeapWorksModel" "valuesUsed" "I", .fieldLink RX12 134 "HeapWorksModel" "there" "[Z", .methodLink RX12 455 yX12_slotCount, .instanceMethod yX12_slotCount, .selects RX12 yX12_slotCount yX12_slotCount, .fieldLink RX12 461 "HeapWorksModel" "slotsThere" "I", .fieldLink RX12 138 "HeapWorksModel" "values" "[J", .methodLink RX12 458 yX12_kindOf, .instanceMethod yX12_kindOf, .selects RX12 yX12_kindOf yX12_kindOf, .constantLong RX12 433 (-1), .code yX12_isClass cX12_isClass 2 (some .boolean), .fieldLink RX12 413 "HeapWorksModel" "classes" "I", .code yX12_slotCount cX12_slotCount 3 (some .int), .code yX12_kindOf cX12_kindOf 3 (some .int)]
def w_z_X12_add_1 : List Cond := .code yX12_add cX12_add 6 (some .int) :: (l_z_X12_add_1 ++ (wsX120))
theorem in_z_X12_add_1_X12 : ∀ w ∈ wsX120, w ∈ w_z_X12_add_1 := fun w h => List.mem_cons_of_mem _ (List.mem_append_right _ (h))
theorem g_z_X12_add_1_z_X12_isClass_416 : GoodIn w_z_X12_add_1 (wsV RX12 416 RX12 yX12_isClass w_z_X12_isClass) := goodIn_app (goodIn_sub (by decide +kernel) (by decide +kernel)) (goodIn_ca (goodIn_sub (by decide +kernel) (by decide +kernel)) (goodIn_in in_z_X12_add_1_X12 gd_X12))
theorem g_z_X12_add_1_z_X12_slotCount_455 : GoodIn w_z_X12_add_1 (wsV RX12 455 RX12 yX12_slotCount w_z_X12_slotCount) := goodIn_app (goodIn_sub (by decide +kernel) (by decide +kernel)) (goodIn_ca (goodIn_sub (by decide +kernel) (by decide +kernel)) (goodIn_in in_z_X12_add_1_X12 gd_X12))
theorem g_z_X12_add_1_z_X12_kindOf_458 : GoodIn w_z_X12_add_1 (wsV RX12 458 RX12 yX12_kindOf w_z_X12_kindOf) := goodIn_app (goodIn_sub (by decide +kernel) (by decide +kernel)) (goodIn_ca (goodIn_sub (by decide +kernel) (by decide +kernel)) (goodIn_in in_z_X12_add_1_X12 gd_X12))
set_option maxHeartbeats 4000000 in
set_option maxRecDepth 100000 in
theorem z_X12_add_1 (l : Launch) (dC : Nat → ClassId) (dI : Nat → Nat → Nat) (sz : Nat) (Ad0 : Nat) (Fa0 : Nat → Int32) (Ka0 : ClassId) (Ad1 : Nat) (Fa1 : Nat → Int32) (Ka1 : ClassId) (Ad2 : Nat) (Fa2 : Nat → Int32) (Ka2 : ClassId) (Ad3 : Nat) (Fa3 : Nat → Int32) (Ka3 : ClassId) (Ad4 : Nat) (Fa4 : Nat → Int64) (Ka4 : ClassId) (Ad5 : Nat) (Fs0 : List Value) (Va0 : Int32) (Va1 : Int32) (k_Fs0 : fh Fs0 150 [(20, .int 0), (21, .ref Ad0), (22, .ref Ad1), (23, .ref Ad2), (24, .ref Ad3), (25, .ref Ad4), (26, .int 0), (27, .int 0), (28, .int 0)]) (hz_Fa2 : ∀ j, Fa2 j = 0) (gv_Va0 : (29 : Int) ≤ Va0.toInt ∧ Va0.toInt ≤ 29) (gv_Va1 : (0 : Int) ≤ Va1.toInt ∧ Va1.toInt ≤ 60) : Met l yX12_add w_z_X12_add_1 ({ frames := 2, cells := 0, slots := 0, locals := 43 }) (va_Pc [.ref Ad5, .int Va0, .int Va1] (fun U => U.heap.size = sz ∧ Wd dC dI [(Ka0, .int), (Ka1, .int), (Ka2, .int), (Ka3, .boolean), (Ka4, .long)] (fun _ => True) [(Ad0, .inl (Ka0, 400, .inl Fa0)), (Ad1, .inl (Ka1, 400, .inl Fa1)), (Ad2, .inl (Ka2, 400, .inl Fa2)), (Ad3, .inl (Ka3, 400, .inl Fa3)), (Ad4, .inl (Ka4, 38500, .inr (.inl Fa4))), (Ad5, .inr (15, Fs0))] U)) (va_Qi (fun (r : Int32) (u : (Nat → Int32) × (Nat → Int32) × (Nat → Int32) × (Nat → Int32) × (Nat → Int64) × List Value) => (¬ Va0 < 0 ∧ 0 ≤ Va0 ∧ ¬ Va0 < 0 ∧ 0 ≤ Va0 ∧ r = 0 ∧ ow Fs0 (u.2.2.2.2.2) 150 [28, 27, 26] [(26, .int 1), (20, .int 0), (21, .ref Ad0), (22, .ref Ad1), (23, .ref Ad2), (24, .ref Ad3), (25, .ref Ad4)] ∧ (u.1) (0 : Int32).toNatClampNeg = Va0 ∧ (u.2.1) (0 : Int32).toNatClampNeg = Va1 ∧ (∀ j, (u.2.2.1) j = 0) ∧ (u.2.2.1) (0 : Int32).toNatClampNeg = 0 ∧ (u.2.2.2.1) (0 : Int32).toNatClampNeg = 1)) (fun (u : (Nat → Int32) × (Nat → Int32) × (Nat → Int32) × (Nat → Int32) × (Nat → Int64) × List Value) t => Wd dC dI [(Ka0, .int), (Ka1, .int), (Ka2, .int), (Ka3, .boolean), (Ka4, .long)] (va_A [(Ad0, .inl (Ka0, 400, .inl Fa0)), (Ad1, .inl (Ka1, 400, .inl Fa1)), (Ad2, .inl (Ka2, 400, .inl Fa2)), (Ad3, .inl (Ka3, 400, .inl Fa3)), (Ad4, .inl (Ka4, 38500, .inr (.inl Fa4))), (Ad5, .inr (15, Fs0))] sz) [(Ad0, .inl (Ka0, 400, .inl ((u.1)))), (Ad1, .inl (Ka1, 400, .inl ((u.2.1)))), (Ad2, .inl (Ka2, 400, .inl ((u.2.2.1)))), (Ad3, .inl (Ka3, 400, .inl ((u.2.2.2.1)))), (Ad4, .inl (Ka4, 38500, .inr (.inl ((u.2.2.2.2.1))))), (Ad5, .inr (15, (u.2.2.2.2.2)))] t) (va_A [(Ad0, .inl (Ka0, 400, .inl Fa0)), (Ad1, .inl (Ka1, 400, .inl Fa1)), (Ad2, .inl (Ka2, 400, .inl Fa2)), (Ad3, .inl (Ka3, 400, .inl Fa3)), (Ad4, .inl (Ka4, 38500, .inr (.inl Fa4))), (Ad5, .inr (15, Fs0))] sz))  0 0 (va_A [(Ad0, .inl (Ka0, 400, .inl Fa0)), (Ad1, .inl (Ka1, 400, .inl Fa1)), (Ad2, .inl (Ka2, 400, .inl Fa2)), (Ad3, .inl (Ka3, 400, .inl Fa3)), (Ad4, .inl (Ka4, 38500, .inr (.inl Fa4))), (Ad5, .inr (15, Fs0))] sz) := by
  refine Met.ofW (cc := cX12_add) (maxL := 6) (ret := (some .int)) (by decide) rfl ?_
  intro p e s m args below meth c s₁ B hml hv
  obtain ⟨rfl, hsz, hP, hK, hD0⟩ := hv
  have hx := B.exec
  have hb := B.bytes
  have hr := B.returns
  have hts := atoms_spec (ws := w_z_X12_add_1) B.pre
  have hown : s.vm.findClass RX12 = some m.cls := findClass_of_methodNamed B.named
  have hlocks := B.notSynchronized
  subst hsz
  have hD := hD0.self (sz := s.heap.size)
  generalize hAe : va_A [(Ad0, .inl (Ka0, 400, .inl Fa0)), (Ad1, .inl (Ka1, 400, .inl Fa1)), (Ad2, .inl (Ka2, 400, .inl Fa2)), (Ad3, .inl (Ka3, 400, .inl Fa3)), (Ad4, .inl (Ka4, 38500, .inr (.inl Fa4))), (Ad5, .inr (15, Fs0))] s.heap.size = A at hD ⊢
  have hA : ∀ q : Nat, s.heap.size ≤ q → A q := fun q h => by rw [← hAe]; exact Or.inr h
  have hS : va_S A s.heap s.heap [] := va_S.rf
  have hl := lv_entry ([.ref Ad5, .int Va0, .int Va1]) (n := 6) (Nat.le_of_ble_eq_true rfl)
  rw [lg_entry_eq]
  generalize (lg_sl ([.ref Ad5, .int Va0, .int Va1]) ++ List.replicate (6 - (lg_sl ([.ref Ad5, .int Va0, .int Va1])).length) Slot.unset).toArray = ls at hl ⊢
  have hl : lv_has ls 6 [(0, .ref Ad5), (1, .int Va0), (2, .int Va1)] := hl
  have o_Fs0 := ow_0 k_Fs0
  refine lv_aload_n hx hb dX12_add_0 rfl (lv_at hl 0 rfl) ?_
  refine va_get (D := (dC, dI)) (ci := 15) (v := .int 0) (C := RX12) (T := TX12) (N := 150) hx hb hts (in_z_X12_add_1_X12) hown hK hP 5 rfl rfl 26 (by decide) (hts (.fieldLink RX12 435 "HeapWorksModel" "objects" "I") (by decide +kernel)) (fun _ h9 => h9) (ow_at o_Fs0 6 rfl) dX12_add_1 ?_
  refine lv_istore_n (lv' := [(3, .int 0), (0, .ref Ad5), (1, .int Va0), (2, .int Va1)]) hx hb dX12_add_4 rfl hl (by decide) rfl (fun ls hl => ?_)
  refine lv_aload_n hx hb dX12_add_5 rfl (lv_at hl 1 rfl) ?_
  refine lv_dup hx hb dX12_add_6 rfl ?_
  refine va_get (D := (dC, dI)) (ci := 15) (v := .int 0) (C := RX12) (T := TX12) (N := 150) hx hb hts (in_z_X12_add_1_X12) hown hK hP 5 rfl rfl 26 (by decide) (hts (.fieldLink RX12 435 "HeapWorksModel" "objects" "I") (by decide +kernel)) (fun _ h9 => h9) (ow_at o_Fs0 6 rfl) dX12_add_7 ?_
  refine lv_iconst (v := 1) hx hb dX12_add_10 (by decide) ?_
  refine lv_iadd hx hb dX12_add_11  ?_
  refine lv_topi (fun x1480 ex1480 => ?_)
  obtain rfl : x1480 = 1 := ex1480.trans (by decide)
  refine va_put (D := (dC, dI)) (ci := 15) (v := .int 1) (ty := .int) (C := RX12) (T := TX12) (N := 150) hx hb hts (in_z_X12_add_1_X12) tyX12 tyX12_ok nmX12 hown hK hP hD hS 5 rfl rfl 26 (by decide) (hts (.fieldLink RX12 435 "HeapWorksModel" "objects" "I") (by decide +kernel)) (fun _ h9 => h9) rfl (by decide +kernel) rfl rfl (by rw [o_Fs0.2.1]; decide) dX12_add_12 (fun H locs hP hD hS => ?_)
  have hP : va_P (dC, dI) vwCl [(Ad0, .inl (Ka0, 400, .inl Fa0)), (Ad1, .inl (Ka1, 400, .inl Fa1)), (Ad2, .inl (Ka2, 400, .inl Fa2)), (Ad3, .inl (Ka3, 400, .inl Fa3)), (Ad4, .inl (Ka4, 38500, .inr (.inl Fa4))), (Ad5, .inr (15, (Fs0.set 26 (.int 1))))] H := hP
  have hD : va_D A [(Ad0, .inl (Ka0, 400, .inl Fa0)), (Ad1, .inl (Ka1, 400, .inl Fa1)), (Ad2, .inl (Ka2, 400, .inl Fa2)), (Ad3, .inl (Ka3, 400, .inl Fa3)), (Ad4, .inl (Ka4, 38500, .inr (.inl Fa4))), (Ad5, .inr (15, (Fs0.set 26 (.int 1))))] := hD
  have o_s1481 := ow_set o_Fs0 26 (.int 1) (by decide) (l' := [(26, .int 1), (20, .int 0), (21, .ref Ad0), (22, .ref Ad1), (23, .ref Ad2), (24, .ref Ad3), (25, .ref Ad4), (27, .int 0), (28, .int 0)]) (w' := [26]) rfl rfl
  generalize (Fs0.set 26 (.int 1)) = s1481 at hP hD o_s1481
  refine lv_aload_n hx hb dX12_add_15 rfl (lv_at hl 1 rfl) ?_
  refine va_get (D := (dC, dI)) (ci := 15) (v := .ref Ad0) (C := RX12) (T := TX12) (N := 150) hx hb hts (in_z_X12_add_1_X12) hown hK hP 5 rfl rfl 21 (by decide) (hts (.fieldLink RX12 125 "HeapWorksModel" "type" "[I") (by decide +kernel)) (fun _ h9 => h9) (ow_at o_s1481 2 rfl) dX12_add_16 ?_
  refine lv_iload_n hx hb dX12_add_19 rfl (lv_at hl 0 rfl) ?_
  refine lv_iload_n hx hb dX12_add_20 rfl (lv_at hl 2 rfl) ?_
  refine va_iast hx hb hK hP hD hS 0 0 rfl rfl (show vp_in 0 400 from by unfold vp_in; decide) dX12_add_21 (fun H locs hP hD hS => ?_)
  have hP : va_P (dC, dI) vwCl [(Ad0, .inl (Ka0, 400, .inl (upd Fa0 (0 : Int32).toNatClampNeg Va0))), (Ad1, .inl (Ka1, 400, .inl Fa1)), (Ad2, .inl (Ka2, 400, .inl Fa2)), (Ad3, .inl (Ka3, 400, .inl Fa3)), (Ad4, .inl (Ka4, 38500, .inr (.inl Fa4))), (Ad5, .inr (15, s1481))] H := hP
  have hD : va_D A [(Ad0, .inl (Ka0, 400, .inl (upd Fa0 (0 : Int32).toNatClampNeg Va0))), (Ad1, .inl (Ka1, 400, .inl Fa1)), (Ad2, .inl (Ka2, 400, .inl Fa2)), (Ad3, .inl (Ka3, 400, .inl Fa3)), (Ad4, .inl (Ka4, 38500, .inr (.inl Fa4))), (Ad5, .inr (15, s1481))] := hD
  have q1483 : (upd Fa0 (0 : Int32).toNatClampNeg Va0) (0 : Int32).toNatClampNeg = Va0 := pk_us
  generalize upd Fa0 (0 : Int32).toNatClampNeg Va0 = f1482 at hP hD q1483
  refine lv_aload_n hx hb dX12_add_22 rfl (lv_at hl 1 rfl) ?_
  refine va_get (D := (dC, dI)) (ci := 15) (v := .ref Ad1) (C := RX12) (T := TX12) (N := 150) hx hb hts (in_z_X12_add_1_X12) hown hK hP 5 rfl rfl 22 (by decide) (hts (.fieldLink RX12 128 "HeapWorksModel" "length" "[I") (by decide +kernel)) (fun _ h9 => h9) (ow_at o_s1481 3 rfl) dX12_add_23 ?_
  refine lv_iload_n hx hb dX12_add_26 rfl (lv_at hl 0 rfl) ?_
  refine lv_aload_n hx hb dX12_add_27 rfl (lv_at hl 1 rfl) ?_
  refine lv_iload_n hx hb dX12_add_28 rfl (lv_at hl 2 rfl) ?_
  have hPc := hP.sub (ws' := [(Ad5, .inr (15, s1481))]) [5] rfl
  have hDc := hD.sub (ws' := [(Ad5, .inr (15, s1481))]) [5] (by decide) rfl
  have hKc := hK.sub (tys' := []) [] rfl
  have hFc := va_free (wc := [(Ad5, .inr (15, s1481))]) hD hS hA [5] rfl
  refine va_calli (va_runV (As := [.int Va0]) (rest := [.int 0, .ref Ad1]) ⟨hx, hb, hml, hown, hts⟩ (z_X12_isClass l dC dI H.size Ad5 s1481 Va0 (fh_sub o_s1481.2 [1] rfl) ) (cwV 1 hts g_z_X12_add_1_z_X12_isClass_416 rfl rfl rfl (by decide +kernel) ⟨Nat.le_of_ble_eq_true rfl, Nat.le_of_ble_eq_true rfl⟩) ⟨fun a U g mk q => by obtain ⟨q0, q1, qP, qK, qD⟩ := q; exact ⟨q0, q1, qP, va_K.moved (u := U) (U := U.calling g mk a) (Vm.Alike.refl U.vm) qK, qD⟩, va_recv hK hP (ci := 15) (q0 := 5) rfl rfl, fun U hU hW => ⟨rfl, by rw [hU], by rw [hU]; exact hPc, va_K.moved hW.alike hKc, hDc.weaken (fun _ _ _ _ => trivial)⟩⟩ rfl rfl hl.1 rfl (lv_room (Nat.le_of_ble_eq_true rfl)) dX12_add_29 ⟨Nat.le_of_ble_eq_true rfl, Nat.le_of_ble_eq_true rfl⟩) hS (fun q _ h => hFc q h) hFc (fun r1486 u t H1 locs ht hvm hw hB hz1 hk1 hS => ?_)
  obtain ⟨hP1, hK1, hD1⟩ := hB
  rw [ht] at hP1
  try dsimp only at hw
  obtain ⟨hP, hD⟩ := va_join (wr := [(Ad0, .inl (Ka0, 400, .inl f1482)), (Ad1, .inl (Ka1, 400, .inl Fa1)), (Ad2, .inl (Ka2, 400, .inl Fa2)), (Ad3, .inl (Ka3, 400, .inl Fa3)), (Ad4, .inl (Ka4, 38500, .inr (.inl Fa4)))]) (w1 := [(Ad5, .inr (15, s1481))]) hP hD [5] [0, 1, 2, 3, 4] rfl rfl (by decide) (by decide) hk1 hFc hP1 hD1
  have hK := hK.sub (tys' := [(Ka0, .int), (Ka1, .int), (Ka2, .int), (Ka3, .boolean), (Ka4, .long)]) [0, 1, 2, 3, 4] rfl
  generalize H1 = H at hP hS ⊢
  have hP : va_P (dC, dI) vwCl [(Ad0, .inl (Ka0, 400, .inl f1482)), (Ad1, .inl (Ka1, 400, .inl Fa1)), (Ad2, .inl (Ka2, 400, .inl Fa2)), (Ad3, .inl (Ka3, 400, .inl Fa3)), (Ad4, .inl (Ka4, 38500, .inr (.inl Fa4))), (Ad5, .inr (15, s1481))] H := hP
  have hD : va_D A [(Ad0, .inl (Ka0, 400, .inl f1482)), (Ad1, .inl (Ka1, 400, .inl Fa1)), (Ad2, .inl (Ka2, 400, .inl Fa2)), (Ad3, .inl (Ka3, 400, .inl Fa3)), (Ad4, .inl (Ka4, 38500, .inr (.inl Fa4))), (Ad5, .inr (15, s1481))] := hD
  rcases hw with ⟨c1487, er1488⟩ | ⟨c1489, c1490, er1491⟩
  · exact (by exfalso; (try simp only [i_lt, i_le, i_eq, kc_0] at gv_Va0 c1487); omega)
  · skip
    subst er1491
    refine lv_if_eq (tgt := 39) hx hb dX12_add_32 (by decide) (fun c1492 => ?_) (fun c1492 => absurd c1492 (by decide))
    refine lv_iload_n hx hb dX12_add_39 rfl (lv_at hl 3 rfl) ?_
    refine va_iast hx hb hK hP hD hS 1 1 rfl rfl (show vp_in 0 400 from by unfold vp_in; decide) dX12_add_40 (fun H locs hP hD hS => ?_)
    have hP : va_P (dC, dI) vwCl [(Ad0, .inl (Ka0, 400, .inl f1482)), (Ad1, .inl (Ka1, 400, .inl (upd Fa1 (0 : Int32).toNatClampNeg Va1))), (Ad2, .inl (Ka2, 400, .inl Fa2)), (Ad3, .inl (Ka3, 400, .inl Fa3)), (Ad4, .inl (Ka4, 38500, .inr (.inl Fa4))), (Ad5, .inr (15, s1481))] H := hP
    have hD : va_D A [(Ad0, .inl (Ka0, 400, .inl f1482)), (Ad1, .inl (Ka1, 400, .inl (upd Fa1 (0 : Int32).toNatClampNeg Va1))), (Ad2, .inl (Ka2, 400, .inl Fa2)), (Ad3, .inl (Ka3, 400, .inl Fa3)), (Ad4, .inl (Ka4, 38500, .inr (.inl Fa4))), (Ad5, .inr (15, s1481))] := hD
    have q1494 : (upd Fa1 (0 : Int32).toNatClampNeg Va1) (0 : Int32).toNatClampNeg = Va1 := pk_us
    generalize upd Fa1 (0 : Int32).toNatClampNeg Va1 = f1493 at hP hD q1494
    refine lv_aload_n hx hb dX12_add_41 rfl (lv_at hl 1 rfl) ?_
    refine va_get (D := (dC, dI)) (ci := 15) (v := .ref Ad2) (C := RX12) (T := TX12) (N := 150) hx hb hts (in_z_X12_add_1_X12) hown hK hP 5 rfl rfl 23 (by decide) (hts (.fieldLink RX12 131 "HeapWorksModel" "from" "[I") (by decide +kernel)) (fun _ h9 => h9) (ow_at o_s1481 4 rfl) dX12_add_42 ?_
    refine lv_iload_n hx hb dX12_add_45 rfl (lv_at hl 0 rfl) ?_
    refine lv_aload_n hx hb dX12_add_46 rfl (lv_at hl 1 rfl) ?_
    refine va_get (D := (dC, dI)) (ci := 15) (v := .int 0) (C := RX12) (T := TX12) (N := 150) hx hb hts (in_z_X12_add_1_X12) hown hK hP 5 rfl rfl 27 (by decide) (hts (.fieldLink RX12 452 "HeapWorksModel" "valuesUsed" "I") (by decide +kernel)) (fun _ h9 => h9) (ow_at o_s1481 7 rfl) dX12_add_47 ?_
    refine va_iast hx hb hK hP hD hS 2 2 rfl rfl (show vp_in 0 400 from by unfold vp_in; decide) dX12_add_50 (fun H locs hP hD hS => ?_)
    have hP : va_P (dC, dI) vwCl [(Ad0, .inl (Ka0, 400, .inl f1482)), (Ad1, .inl (Ka1, 400, .inl f1493)), (Ad2, .inl (Ka2, 400, .inl (upd Fa2 (0 : Int32).toNatClampNeg 0))), (Ad3, .inl (Ka3, 400, .inl Fa3)), (Ad4, .inl (Ka4, 38500, .inr (.inl Fa4))), (Ad5, .inr (15, s1481))] H := hP
    have hD : va_D A [(Ad0, .inl (Ka0, 400, .inl f1482)), (Ad1, .inl (Ka1, 400, .inl f1493)), (Ad2, .inl (Ka2, 400, .inl (upd Fa2 (0 : Int32).toNatClampNeg 0))), (Ad3, .inl (Ka3, 400, .inl Fa3)), (Ad4, .inl (Ka4, 38500, .inr (.inl Fa4))), (Ad5, .inr (15, s1481))] := hD
    have q1496 : (upd Fa2 (0 : Int32).toNatClampNeg 0) (0 : Int32).toNatClampNeg = 0 := pk_us
    have z1497 : ∀ j, (upd Fa2 (0 : Int32).toNatClampNeg 0) j = 0 := az_up hz_Fa2 rfl
    generalize upd Fa2 (0 : Int32).toNatClampNeg 0 = f1495 at hP hD q1496 z1497
    refine lv_aload_n hx hb dX12_add_51 rfl (lv_at hl 1 rfl) ?_
    refine va_get (D := (dC, dI)) (ci := 15) (v := .ref Ad3) (C := RX12) (T := TX12) (N := 150) hx hb hts (in_z_X12_add_1_X12) hown hK hP 5 rfl rfl 24 (by decide) (hts (.fieldLink RX12 134 "HeapWorksModel" "there" "[Z") (by decide +kernel)) (fun _ h9 => h9) (ow_at o_s1481 5 rfl) dX12_add_52 ?_
    refine lv_iload_n hx hb dX12_add_55 rfl (lv_at hl 0 rfl) ?_
    refine lv_iconst (v := 1) hx hb dX12_add_56 (by decide) ?_
    refine va_zast hx hb hK hP hD hS 3 3 rfl rfl (show vp_in 0 400 from by unfold vp_in; decide) dX12_add_57 (fun H locs hP hD hS => ?_)
    have hP : va_P (dC, dI) vwCl [(Ad0, .inl (Ka0, 400, .inl f1482)), (Ad1, .inl (Ka1, 400, .inl f1493)), (Ad2, .inl (Ka2, 400, .inl f1495)), (Ad3, .inl (Ka3, 400, .inl (upd Fa3 (0 : Int32).toNatClampNeg (vp_nar .boolean 1)))), (Ad4, .inl (Ka4, 38500, .inr (.inl Fa4))), (Ad5, .inr (15, s1481))] H := hP
    have hD : va_D A [(Ad0, .inl (Ka0, 400, .inl f1482)), (Ad1, .inl (Ka1, 400, .inl f1493)), (Ad2, .inl (Ka2, 400, .inl f1495)), (Ad3, .inl (Ka3, 400, .inl (upd Fa3 (0 : Int32).toNatClampNeg (vp_nar .boolean 1)))), (Ad4, .inl (Ka4, 38500, .inr (.inl Fa4))), (Ad5, .inr (15, s1481))] := hD
    have q1499 : (upd Fa3 (0 : Int32).toNatClampNeg (vp_nar .boolean 1)) (0 : Int32).toNatClampNeg = 1 := (pk_us.trans (by decide))
    generalize upd Fa3 (0 : Int32).toNatClampNeg (vp_nar .boolean 1) = f1498 at hP hD q1499
    refine lv_aload_n hx hb dX12_add_58 rfl (lv_at hl 1 rfl) ?_
    refine lv_iload_n hx hb dX12_add_59 rfl (lv_at hl 2 rfl) ?_
    refine lv_iload_n hx hb dX12_add_60 rfl (lv_at hl 3 rfl) ?_
    have hPc := hP.sub (ws' := [(Ad5, .inr (15, s1481))]) [5] rfl
    have hDc := hD.sub (ws' := [(Ad5, .inr (15, s1481))]) [5] (by decide) rfl
    have hKc := hK.sub (tys' := []) [] rfl
    have hFc := va_free (wc := [(Ad5, .inr (15, s1481))]) hD hS hA [5] rfl
    refine va_calli (va_runV (As := [.int Va0, .int Va1]) (rest := []) ⟨hx, hb, hml, hown, hts⟩ (z_X12_slotCount l dC dI H.size Ad5 s1481 Va0 Va1 (fh_sub o_s1481.2 [1] rfl) ) (cwV 2 hts g_z_X12_add_1_z_X12_slotCount_455 rfl rfl rfl (by decide +kernel) ⟨Nat.le_of_ble_eq_true rfl, Nat.le_of_ble_eq_true rfl⟩) ⟨fun a U g mk q => by obtain ⟨q0, q1, qP, qK, qD⟩ := q; exact ⟨q0, q1, qP, va_K.moved (u := U) (U := U.calling g mk a) (Vm.Alike.refl U.vm) qK, qD⟩, va_recv hK hP (ci := 15) (q0 := 5) rfl rfl, fun U hU hW => ⟨rfl, by rw [hU], by rw [hU]; exact hPc, va_K.moved hW.alike hKc, hDc.weaken (fun _ _ _ _ => trivial)⟩⟩ rfl rfl hl.1 rfl (lv_room (Nat.le_of_ble_eq_true rfl)) dX12_add_61 ⟨Nat.le_of_ble_eq_true rfl, Nat.le_of_ble_eq_true rfl⟩) hS (fun q _ h => hFc q h) hFc (fun r1510 u t H1 locs ht hvm hw hB hz1 hk1 hS => ?_)
    obtain ⟨hP1, hK1, hD1⟩ := hB
    rw [ht] at hP1
    try dsimp only at hw
    obtain ⟨hP, hD⟩ := va_join (wr := [(Ad0, .inl (Ka0, 400, .inl f1482)), (Ad1, .inl (Ka1, 400, .inl f1493)), (Ad2, .inl (Ka2, 400, .inl f1495)), (Ad3, .inl (Ka3, 400, .inl f1498)), (Ad4, .inl (Ka4, 38500, .inr (.inl Fa4)))]) (w1 := [(Ad5, .inr (15, s1481))]) hP hD [5] [0, 1, 2, 3, 4] rfl rfl (by decide) (by decide) hk1 hFc hP1 hD1
    have hK := hK.sub (tys' := [(Ka0, .int), (Ka1, .int), (Ka2, .int), (Ka3, .boolean), (Ka4, .long)]) [0, 1, 2, 3, 4] rfl
    generalize H1 = H at hP hS ⊢
    have hP : va_P (dC, dI) vwCl [(Ad0, .inl (Ka0, 400, .inl f1482)), (Ad1, .inl (Ka1, 400, .inl f1493)), (Ad2, .inl (Ka2, 400, .inl f1495)), (Ad3, .inl (Ka3, 400, .inl f1498)), (Ad4, .inl (Ka4, 38500, .inr (.inl Fa4))), (Ad5, .inr (15, s1481))] H := hP
    have hD : va_D A [(Ad0, .inl (Ka0, 400, .inl f1482)), (Ad1, .inl (Ka1, 400, .inl f1493)), (Ad2, .inl (Ka2, 400, .inl f1495)), (Ad3, .inl (Ka3, 400, .inl f1498)), (Ad4, .inl (Ka4, 38500, .inr (.inl Fa4))), (Ad5, .inr (15, s1481))] := hD
    rcases hw with ⟨c1511, er1512⟩ | ⟨c1513, c1514, er1515⟩
    · exact (by exfalso; (try simp only [i_lt, i_le, i_eq, kc_0] at gv_Va0 c1489 c1490 c1511); omega)
    · skip
      have qer1515 := er1515.symm
      subst qer1515
      refine lv_istore (lv' := [(4, .int Va1), (3, .int 0), (0, .ref Ad5), (1, .int Va0), (2, .int Va1)]) hx hb dX12_add_64 hl (by decide) rfl (fun ls hl => ?_)
      refine lv_iconst (v := 0) hx hb dX12_add_66 (by decide) ?_
      refine lv_istore (lv' := [(5, .int 0), (4, .int Va1), (3, .int 0), (0, .ref Ad5), (1, .int Va0), (2, .int Va1)]) hx hb dX12_add_67 hl (by decide) rfl (fun ls hl => ?_)
      have HL1 : ∀ (n j1603 : Nat) (x1604 : Int32) (f1605 : Nat → Int64), x1604 = nI j1603 → 0 ≤ j1603 → j1603 ≤ 60 → 61 ≤ j1603 + n → ∀ (H : Heap) (locs : List Loc) (ls : Array Slot), va_P (dC, dI) vwCl [(Ad0, .inl (Ka0, 400, .inl f1482)), (Ad1, .inl (Ka1, 400, .inl f1493)), (Ad2, .inl (Ka2, 400, .inl f1495)), (Ad3, .inl (Ka3, 400, .inl f1498)), (Ad4, .inl (Ka4, 38500, .inr (.inl f1605))), (Ad5, .inr (15, s1481))] H → va_D A [(Ad0, .inl (Ka0, 400, .inl f1482)), (Ad1, .inl (Ka1, 400, .inl f1493)), (Ad2, .inl (Ka2, 400, .inl f1495)), (Ad3, .inl (Ka3, 400, .inl f1498)), (Ad4, .inl (Ka4, 38500, .inr (.inl f1605))), (Ad5, .inr (15, s1481))] → va_S A s.heap H locs → lv_has ls 6 [(5, .int x1604), (4, .int Va1), (3, .int 0), (0, .ref Ad5), (1, .int Va0), (2, .int Va1)] → W p l e (headSpec w_z_X12_add_1 ({ frames := 2, cells := 0, slots := 0, locals := 43 })).room s m ([.ref Ad5, .int Va0, .int Va1]).toArray below meth c H locs 0 0 (MQ below (va_Qi (fun (r : Int32) (u : (Nat → Int32) × (Nat → Int32) × (Nat → Int32) × (Nat → Int32) × (Nat → Int64) × List Value) => (¬ Va0 < 0 ∧ 0 ≤ Va0 ∧ ¬ Va0 < 0 ∧ 0 ≤ Va0 ∧ r = 0 ∧ ow Fs0 (u.2.2.2.2.2) 150 [28, 27, 26] [(26, .int 1), (20, .int 0), (21, .ref Ad0), (22, .ref Ad1), (23, .ref Ad2), (24, .ref Ad3), (25, .ref Ad4)] ∧ (u.1) (0 : Int32).toNatClampNeg = Va0 ∧ (u.2.1) (0 : Int32).toNatClampNeg = Va1 ∧ (∀ j, (u.2.2.1) j = 0) ∧ (u.2.2.1) (0 : Int32).toNatClampNeg = 0 ∧ (u.2.2.2.1) (0 : Int32).toNatClampNeg = 1)) (fun (u : (Nat → Int32) × (Nat → Int32) × (Nat → Int32) × (Nat → Int32) × (Nat → Int64) × List Value) t => Wd dC dI [(Ka0, .int), (Ka1, .int), (Ka2, .int), (Ka3, .boolean), (Ka4, .long)] A [(Ad0, .inl (Ka0, 400, .inl ((u.1)))), (Ad1, .inl (Ka1, 400, .inl ((u.2.1)))), (Ad2, .inl (Ka2, 400, .inl ((u.2.2.1)))), (Ad3, .inl (Ka3, 400, .inl ((u.2.2.2.1)))), (Ad4, .inl (Ka4, 38500, .inr (.inl ((u.2.2.2.2.1))))), (Ad5, .inr (15, (u.2.2.2.2.2)))] t) A) ([.ref Ad5, .int Va0, .int Va1]).toArray s 0 0 A) (F0 m 69 ls []) := by
        intro n
        induction n with
        | zero =>
          intro j1603 x1604 f1605 e1606 h1608 h1609 h1610
          exact absurd h1610 (by omega)
        | succ n ih =>
          intro j1603 x1604 f1605 e1606 h1608 h1609 h1610 H locs ls hP hD hS hl
          have t1607 : x1604.toInt = (j1603 : Int) := by rw [e1606]; exact nI_toInt (by omega)
          refine lv_iload hx hb dX12_add_69 (lv_at hl 0 rfl) ?_
          refine lv_iload hx hb dX12_add_71 (lv_at hl 1 rfl) ?_
          refine lv_icmp_ge (tgt := 112) hx hb dX12_add_73 (by decide) (fun c1611 => ?_) (fun c1611 => ?_)
          · skip
            refine lv_aload_n hx hb dX12_add_112 rfl (lv_at hl 3 rfl) ?_
            refine lv_dup hx hb dX12_add_113 rfl ?_
            refine va_get (D := (dC, dI)) (ci := 15) (v := .int 0) (C := RX12) (T := TX12) (N := 150) hx hb hts (in_z_X12_add_1_X12) hown hK hP 5 rfl rfl 27 (by decide) (hts (.fieldLink RX12 452 "HeapWorksModel" "valuesUsed" "I") (by decide +kernel)) (fun _ h9 => h9) (ow_at o_s1481 7 rfl) dX12_add_114 ?_
            refine lv_iload hx hb dX12_add_117 (lv_at hl 1 rfl) ?_
            refine lv_iadd hx hb dX12_add_119  ?_
            refine lv_topi (fun x1612 ex1612 => ?_)
            have tx1612 : x1612.toInt = (0 : Int32).toInt + (Va1 : Int32).toInt := by rw [ex1612]; exact i_add (by have bd_Va1 := i_bd Va1; (try simp only [i_lt, i_le, i_eq, kc_0] at gv_Va1 c1611 t1607 h1609 h1608 ⊢); omega) (by have bd_Va1 := i_bd Va1; (try simp only [i_lt, i_le, i_eq, kc_0] at gv_Va1 c1611 t1607 h1609 h1608 ⊢); omega)
            refine va_put (D := (dC, dI)) (ci := 15) (v := .int x1612) (ty := .int) (C := RX12) (T := TX12) (N := 150) hx hb hts (in_z_X12_add_1_X12) tyX12 tyX12_ok nmX12 hown hK hP hD hS 5 rfl rfl 27 (by decide) (hts (.fieldLink RX12 452 "HeapWorksModel" "valuesUsed" "I") (by decide +kernel)) (fun _ h9 => h9) rfl (by decide +kernel) rfl rfl (by rw [o_s1481.2.1]; decide) dX12_add_120 (fun H locs hP hD hS => ?_)
            have hP : va_P (dC, dI) vwCl [(Ad0, .inl (Ka0, 400, .inl f1482)), (Ad1, .inl (Ka1, 400, .inl f1493)), (Ad2, .inl (Ka2, 400, .inl f1495)), (Ad3, .inl (Ka3, 400, .inl f1498)), (Ad4, .inl (Ka4, 38500, .inr (.inl f1605))), (Ad5, .inr (15, (s1481.set 27 (.int x1612))))] H := hP
            have hD : va_D A [(Ad0, .inl (Ka0, 400, .inl f1482)), (Ad1, .inl (Ka1, 400, .inl f1493)), (Ad2, .inl (Ka2, 400, .inl f1495)), (Ad3, .inl (Ka3, 400, .inl f1498)), (Ad4, .inl (Ka4, 38500, .inr (.inl f1605))), (Ad5, .inr (15, (s1481.set 27 (.int x1612))))] := hD
            have o_s1613 := ow_set o_s1481 27 (.int x1612) (by decide) (l' := [(27, .int x1612), (26, .int 1), (20, .int 0), (21, .ref Ad0), (22, .ref Ad1), (23, .ref Ad2), (24, .ref Ad3), (25, .ref Ad4), (28, .int 0)]) (w' := [27, 26]) rfl rfl
            generalize (s1481.set 27 (.int x1612)) = s1613 at hP hD o_s1613
            refine lv_aload_n hx hb dX12_add_123 rfl (lv_at hl 3 rfl) ?_
            refine lv_dup hx hb dX12_add_124 rfl ?_
            refine va_get (D := (dC, dI)) (ci := 15) (v := .int 0) (C := RX12) (T := TX12) (N := 150) hx hb hts (in_z_X12_add_1_X12) hown hK hP 5 rfl rfl 28 (by decide) (hts (.fieldLink RX12 461 "HeapWorksModel" "slotsThere" "I") (by decide +kernel)) (fun _ h9 => h9) (ow_at o_s1613 8 rfl) dX12_add_125 ?_
            refine lv_iload hx hb dX12_add_128 (lv_at hl 1 rfl) ?_
            refine lv_iadd hx hb dX12_add_130  ?_
            refine lv_topi (fun x1614 ex1614 => ?_)
            have tx1614 : x1614.toInt = (0 : Int32).toInt + (Va1 : Int32).toInt := by rw [ex1614]; exact i_add (by have bd_Va1 := i_bd Va1; (try simp only [i_lt, i_le, i_eq, kc_0] at gv_Va1 c1611 tx1612 t1607 h1609 h1608 ⊢); omega) (by have bd_Va1 := i_bd Va1; (try simp only [i_lt, i_le, i_eq, kc_0] at gv_Va1 c1611 tx1612 t1607 h1609 h1608 ⊢); omega)
            refine va_put (D := (dC, dI)) (ci := 15) (v := .int x1614) (ty := .int) (C := RX12) (T := TX12) (N := 150) hx hb hts (in_z_X12_add_1_X12) tyX12 tyX12_ok nmX12 hown hK hP hD hS 5 rfl rfl 28 (by decide) (hts (.fieldLink RX12 461 "HeapWorksModel" "slotsThere" "I") (by decide +kernel)) (fun _ h9 => h9) rfl (by decide +kernel) rfl rfl (by rw [o_s1613.2.1]; decide) dX12_add_131 (fun H locs hP hD hS => ?_)
            have hP : va_P (dC, dI) vwCl [(Ad0, .inl (Ka0, 400, .inl f1482)), (Ad1, .inl (Ka1, 400, .inl f1493)), (Ad2, .inl (Ka2, 400, .inl f1495)), (Ad3, .inl (Ka3, 400, .inl f1498)), (Ad4, .inl (Ka4, 38500, .inr (.inl f1605))), (Ad5, .inr (15, (s1613.set 28 (.int x1614))))] H := hP
            have hD : va_D A [(Ad0, .inl (Ka0, 400, .inl f1482)), (Ad1, .inl (Ka1, 400, .inl f1493)), (Ad2, .inl (Ka2, 400, .inl f1495)), (Ad3, .inl (Ka3, 400, .inl f1498)), (Ad4, .inl (Ka4, 38500, .inr (.inl f1605))), (Ad5, .inr (15, (s1613.set 28 (.int x1614))))] := hD
            have o_s1615 := ow_set o_s1613 28 (.int x1614) (by decide) (l' := [(28, .int x1614), (27, .int x1612), (26, .int 1), (20, .int 0), (21, .ref Ad0), (22, .ref Ad1), (23, .ref Ad2), (24, .ref Ad3), (25, .ref Ad4)]) (w' := [28, 27, 26]) rfl rfl
            generalize (s1613.set 28 (.int x1614)) = s1615 at hP hD o_s1615
            refine lv_iload_n hx hb dX12_add_134 rfl (lv_at hl 2 rfl) ?_
            have hP9 := hP.sub (ws' := [(Ad0, .inl (Ka0, 400, .inl f1482)), (Ad1, .inl (Ka1, 400, .inl f1493)), (Ad2, .inl (Ka2, 400, .inl f1495)), (Ad3, .inl (Ka3, 400, .inl f1498)), (Ad4, .inl (Ka4, 38500, .inr (.inl f1605))), (Ad5, .inr (15, s1615))]) [0, 1, 2, 3, 4, 5] rfl
            have hD9 := hD.sub (ws' := [(Ad0, .inl (Ka0, 400, .inl f1482)), (Ad1, .inl (Ka1, 400, .inl f1493)), (Ad2, .inl (Ka2, 400, .inl f1495)), (Ad3, .inl (Ka3, 400, .inl f1498)), (Ad4, .inl (Ka4, 38500, .inr (.inl f1605))), (Ad5, .inr (15, s1615))]) [0, 1, 2, 3, 4, 5] (by decide) rfl
            have hK9 := hK.sub (tys' := [(Ka0, .int), (Ka1, .int), (Ka2, .int), (Ka3, .boolean), (Ka4, .long)]) [0, 1, 2, 3, 4] rfl
            exact W.iret (v := 0) hx hb hr (fun t ht hW => ⟨⟨0, (f1482, f1493, f1495, f1498, f1605, s1615), rfl, ⟨c1489, c1490, c1513, c1514, rfl, (ow_sub o_s1615 [2, 3, 4, 5, 6, 7, 8] rfl), q1483, q1494, z1497, q1496, q1499⟩, by rw [ht]; exact hP9, va_K.moved hW.alike hK9, hD9⟩, hS.F ht⟩) hS.2.2 dX12_add_135
          · skip
            refine lv_aload_n hx hb dX12_add_76 rfl (lv_at hl 3 rfl) ?_
            refine va_get (D := (dC, dI)) (ci := 15) (v := .ref Ad4) (C := RX12) (T := TX12) (N := 150) hx hb hts (in_z_X12_add_1_X12) hown hK hP 5 rfl rfl 25 (by decide) (hts (.fieldLink RX12 138 "HeapWorksModel" "values" "[J") (by decide +kernel)) (fun _ h9 => h9) (ow_at o_s1481 6 rfl) dX12_add_77 ?_
            refine lv_aload_n hx hb dX12_add_80 rfl (lv_at hl 3 rfl) ?_
            refine va_get (D := (dC, dI)) (ci := 15) (v := .int 0) (C := RX12) (T := TX12) (N := 150) hx hb hts (in_z_X12_add_1_X12) hown hK hP 5 rfl rfl 27 (by decide) (hts (.fieldLink RX12 452 "HeapWorksModel" "valuesUsed" "I") (by decide +kernel)) (fun _ h9 => h9) (ow_at o_s1481 7 rfl) dX12_add_81 ?_
            refine lv_iload hx hb dX12_add_84 (lv_at hl 0 rfl) ?_
            refine lv_iadd hx hb dX12_add_86  ?_
            refine lv_topi (fun x1616 ex1616 => ?_)
            have tx1616 : x1616.toInt = (0 : Int32).toInt + (x1604 : Int32).toInt := by rw [ex1616]; exact i_add (by have bd_x1604 := i_bd x1604; (try simp only [i_lt, i_le, i_eq, kc_0] at t1607 h1609 h1608 c1611 gv_Va1 ⊢); omega) (by have bd_x1604 := i_bd x1604; (try simp only [i_lt, i_le, i_eq, kc_0] at t1607 h1609 h1608 c1611 gv_Va1 ⊢); omega)
            refine lv_aload_n hx hb dX12_add_87 rfl (lv_at hl 3 rfl) ?_
            refine lv_iload_n hx hb dX12_add_88 rfl (lv_at hl 4 rfl) ?_
            refine lv_iload hx hb dX12_add_89 (lv_at hl 0 rfl) ?_
            have hPc := hP.sub (ws' := [(Ad5, .inr (15, s1481))]) [5] rfl
            have hDc := hD.sub (ws' := [(Ad5, .inr (15, s1481))]) [5] (by decide) rfl
            have hKc := hK.sub (tys' := []) [] rfl
            have hFc := va_free (wc := [(Ad5, .inr (15, s1481))]) hD hS hA [5] rfl
            refine va_calli (va_runV (As := [.int Va0, .int x1604]) (rest := [.int x1616, .ref Ad4]) ⟨hx, hb, hml, hown, hts⟩ (z_X12_kindOf l dC dI H.size Ad5 s1481 Va0 x1604 (fh_sub o_s1481.2 [1] rfl) ) (cwV 2 hts g_z_X12_add_1_z_X12_kindOf_458 rfl rfl rfl (by decide +kernel) ⟨Nat.le_of_ble_eq_true rfl, Nat.le_of_ble_eq_true rfl⟩) ⟨fun a U g mk q => by obtain ⟨q0, q1, qP, qK, qD⟩ := q; exact ⟨q0, q1, qP, va_K.moved (u := U) (U := U.calling g mk a) (Vm.Alike.refl U.vm) qK, qD⟩, va_recv hK hP (ci := 15) (q0 := 5) rfl rfl, fun U hU hW => ⟨rfl, by rw [hU], by rw [hU]; exact hPc, va_K.moved hW.alike hKc, hDc.weaken (fun _ _ _ _ => trivial)⟩⟩ rfl rfl hl.1 rfl (lv_room (Nat.le_of_ble_eq_true rfl)) dX12_add_91 ⟨Nat.le_of_ble_eq_true rfl, Nat.le_of_ble_eq_true rfl⟩) hS (fun q _ h => hFc q h) hFc (fun r1631 u t H1 locs ht hvm hw hB hz1 hk1 hS => ?_)
            obtain ⟨hP1, hK1, hD1⟩ := hB
            rw [ht] at hP1
            try dsimp only at hw
            obtain ⟨hP, hD⟩ := va_join (wr := [(Ad0, .inl (Ka0, 400, .inl f1482)), (Ad1, .inl (Ka1, 400, .inl f1493)), (Ad2, .inl (Ka2, 400, .inl f1495)), (Ad3, .inl (Ka3, 400, .inl f1498)), (Ad4, .inl (Ka4, 38500, .inr (.inl f1605)))]) (w1 := [(Ad5, .inr (15, s1481))]) hP hD [5] [0, 1, 2, 3, 4] rfl rfl (by decide) (by decide) hk1 hFc hP1 hD1
            have hK := hK.sub (tys' := [(Ka0, .int), (Ka1, .int), (Ka2, .int), (Ka3, .boolean), (Ka4, .long)]) [0, 1, 2, 3, 4] rfl
            generalize H1 = H at hP hS ⊢
            have hP : va_P (dC, dI) vwCl [(Ad0, .inl (Ka0, 400, .inl f1482)), (Ad1, .inl (Ka1, 400, .inl f1493)), (Ad2, .inl (Ka2, 400, .inl f1495)), (Ad3, .inl (Ka3, 400, .inl f1498)), (Ad4, .inl (Ka4, 38500, .inr (.inl f1605))), (Ad5, .inr (15, s1481))] H := hP
            have hD : va_D A [(Ad0, .inl (Ka0, 400, .inl f1482)), (Ad1, .inl (Ka1, 400, .inl f1493)), (Ad2, .inl (Ka2, 400, .inl f1495)), (Ad3, .inl (Ka3, 400, .inl f1498)), (Ad4, .inl (Ka4, 38500, .inr (.inl f1605))), (Ad5, .inr (15, s1481))] := hD
            rcases hw with ⟨c1632, c1633, er1634⟩ | ⟨c1635, c1636, c1637, er1638⟩ | ⟨c1639, c1640, c1641, er1642⟩
            · exact (by exfalso; (try simp only [i_lt, i_le, i_eq, kc_0, kc_29] at gv_Va0 c1489 c1490 c1513 c1514 c1632 c1633); omega)
            · exact (by exfalso; (try simp only [i_lt, i_le, i_eq, kc_0, kc_29] at gv_Va0 c1489 c1490 c1513 c1514 c1635 c1636 c1637); omega)
            · skip
              subst er1642
              refine lv_iconst (v := 5) hx hb dX12_add_94 (by decide) ?_
              refine lv_icmp_ne (tgt := 104) hx hb dX12_add_95 (by decide) (fun c1643 => absurd c1643 (by decide)) (fun c1643 => ?_)
              refine lv_ldc2 (v := (-1)) hx hb hown (hts (.constantLong RX12 433 (-1)) (by decide +kernel)) dX12_add_98 ?_
              refine lv_goto (tgt := 105) hx hb dX12_add_101 (by decide) ?_
              refine va_last hx hb hK hP hD hS 4 4 rfl rfl (by rw [vp_in_iff]; (try simp only [i_lt, i_le, i_eq, kc_0] at tx1616 t1607 h1609 h1608 c1611 gv_Va1); omega) dX12_add_105 (fun H locs hP hD hS => ?_)
              have hP : va_P (dC, dI) vwCl [(Ad0, .inl (Ka0, 400, .inl f1482)), (Ad1, .inl (Ka1, 400, .inl f1493)), (Ad2, .inl (Ka2, 400, .inl f1495)), (Ad3, .inl (Ka3, 400, .inl f1498)), (Ad4, .inl (Ka4, 38500, .inr (.inl (vp_updL f1605 (x1616 : Int32).toNatClampNeg (-1))))), (Ad5, .inr (15, s1481))] H := hP
              have hD : va_D A [(Ad0, .inl (Ka0, 400, .inl f1482)), (Ad1, .inl (Ka1, 400, .inl f1493)), (Ad2, .inl (Ka2, 400, .inl f1495)), (Ad3, .inl (Ka3, 400, .inl f1498)), (Ad4, .inl (Ka4, 38500, .inr (.inl (vp_updL f1605 (x1616 : Int32).toNatClampNeg (-1))))), (Ad5, .inr (15, s1481))] := hD
              have q1645 : (vp_updL f1605 (x1616 : Int32).toNatClampNeg (-1)) (x1616 : Int32).toNatClampNeg = (-1) := pk_uLs
              generalize vp_updL f1605 (x1616 : Int32).toNatClampNeg (-1) = f1644 at hP hD q1645
              obtain ⟨x1646, ex1646⟩ : ∃ y : Int32, y = x1604 + 1 := ⟨_, rfl⟩
              refine lv_iinc (v := x1646) (lv' := [(5, .int x1646), (4, .int Va1), (3, .int 0), (0, .ref Ad5), (1, .int Va0), (2, .int Va1)]) hx hb dX12_add_106 hl (k := 0) rfl (by rw [ex1646]; rfl) (by decide) rfl (fun ls hl => ?_)
              have tx1646 : x1646.toInt = x1604.toInt + (1 : Int32).toInt := by rw [ex1646]; exact i_add (by have bd_x1604 := i_bd x1604; (try simp only [i_lt, i_le, i_eq, kc_0, kc_1] at t1607 h1609 h1608 c1611 tx1616 gv_Va1 ⊢); omega) (by have bd_x1604 := i_bd x1604; (try simp only [i_lt, i_le, i_eq, kc_0, kc_1] at t1607 h1609 h1608 c1611 tx1616 gv_Va1 ⊢); omega)
              refine lv_goto (tgt := 69) hx hb dX12_add_109 (by decide) ?_
              exact ih (j1603 + 1) x1646 f1644 (by rw [ex1646, e1606]; exact nI_1 _) (by omega) (by (try simp only [i_lt, i_le, i_eq, kc_0, kc_1] at t1607 h1609 h1608 c1611 tx1616 tx1646 gv_Va1); omega) (by omega)  _ _ _ (hP.sub [0, 1, 2, 3, 4, 5] rfl) (hD.sub [0, 1, 2, 3, 4, 5] (by decide) rfl) hS  (lv_sub hl [0, 1, 2, 3, 4, 5] rfl)
      exact HL1 61 0 (0) Fa4 (by decide) (by omega) (by omega) (by omega)  _ _ _ hP hD hS  hl

def l_n_make : List Cond := [.methodLink RX12 416 yX12_isClass, .instanceMethod yX12_isClass, .selects RX12 yX12_isClass yX12_isClass, .initialized RX12, .methodLink RX12 464 yX12_isArrayType, .instanceMethod yX12_isArrayType, .selects RX12 yX12_isArrayType yX12_isArrayType, .fieldLink RX12 388 "HeapWorksModel" "thrown" "I", .fieldLink RX12 435 "HeapWorksModel" "objects" "I", .fieldLink RX12 461 "HeapWorksModel" "slotsThere" "I", .methodLink RX12 455 yX12_slotCount, .instanceMethod yX12_slotCount, .selects RX12 yX12_slotCount yX12_slotCount, .methodLink RX12 467 yX12_add, .instanceMethod yX12_add, .selects RX12 yX12_add yX12_add, .code yX12_isClass cX12_isClass 2 (some .boolean), .fieldLink RX12 413 "HeapWorksModel" "classes" "I", .code yX12_isArrayType cX12_isArrayType 2 (some .boolean), .code yX12_slotCount cX12_slotCount 3 (some .int), .code yX12_add cX12_add 6 (some .int), .fieldLink RX12 125 "HeapWorksModel" "type" "[I", .fieldLink RX12 128 "HeapWorksModel" "length" "[I", .fieldLink RX12 131 "HeapWorksModel" "from" "[I", .fieldLink RX12 452 "HeapWorksModel" "valuesUsed" "I", .fieldLink RX12 134 "HeapWorksModel" "there" "[Z", .fieldLink RX12 138 "HeapWorksModel" "values" "[J", .methodLink RX12 458 yX12_kindOf, .instanceMethod yX12_kindOf, .selects RX12 yX12_kindOf yX12_kindOf, .constantLong RX12 433 (-1), .code yX12_kindOf cX12_kindOf 3 (some .int)]
def w_n_make : List Cond := .code yX12_make cX12_make 4 (some .int) :: (l_n_make ++ (wsX120))
theorem in_n_make_X12 : ∀ w ∈ wsX120, w ∈ w_n_make := fun w h => List.mem_cons_of_mem _ (List.mem_append_right _ (h))
theorem g_n_make_z_X12_isClass_416 : GoodIn w_n_make (wsV RX12 416 RX12 yX12_isClass w_z_X12_isClass) := goodIn_app (goodIn_sub (by decide +kernel) (by decide +kernel)) (goodIn_ca (goodIn_sub (by decide +kernel) (by decide +kernel)) (goodIn_in in_n_make_X12 gd_X12))
theorem g_n_make_z_X12_isArrayType_464 : GoodIn w_n_make (wsV RX12 464 RX12 yX12_isArrayType w_z_X12_isArrayType) := goodIn_app (goodIn_sub (by decide +kernel) (by decide +kernel)) (goodIn_ca (goodIn_sub (by decide +kernel) (by decide +kernel)) (goodIn_in in_n_make_X12 gd_X12))
theorem g_n_make_z_X12_slotCount_455 : GoodIn w_n_make (wsV RX12 455 RX12 yX12_slotCount w_z_X12_slotCount) := goodIn_app (goodIn_sub (by decide +kernel) (by decide +kernel)) (goodIn_ca (goodIn_sub (by decide +kernel) (by decide +kernel)) (goodIn_in in_n_make_X12 gd_X12))
theorem g_n_make_z_X12_add_467 : GoodIn w_n_make (wsV RX12 467 RX12 yX12_add w_z_X12_add) := goodIn_app (goodIn_sub (by decide +kernel) (by decide +kernel)) (goodIn_ca (goodIn_sub (by decide +kernel) (by decide +kernel)) (goodIn_in in_n_make_X12 gd_X12))
theorem g_n_make_z_X12_add_1_467 : GoodIn w_n_make (wsV RX12 467 RX12 yX12_add w_z_X12_add_1) := goodIn_app (goodIn_sub (by decide +kernel) (by decide +kernel)) (goodIn_ca (goodIn_sub (by decide +kernel) (by decide +kernel)) (goodIn_in in_n_make_X12 gd_X12))
set_option maxHeartbeats 4000000 in
set_option maxRecDepth 100000 in
theorem n_make (l : Launch) (dC : Nat → ClassId) (dI : Nat → Nat → Nat) (sz : Nat) (aR : Nat) (fsR : List Value) (q_type : Nat) (f_type : Nat → Int32) (k_type : ClassId) (q_length : Nat) (f_length : Nat → Int32) (k_length : ClassId) (q_from : Nat) (f_from : Nat → Int32) (k_from : ClassId) (q_there : Nat) (f_there : Nat → Int32) (k_there : ClassId) (q_values : Nat) (f_values : Nat → Int64) (k_values : ClassId) (p0 : Int32) (p1 : Int32) (k_fsR : fh fsR 150 [(0, .int 0), (20, .int 0), (21, .ref q_type), (22, .ref q_length), (23, .ref q_from), (24, .ref q_there), (25, .ref q_values), (26, .int 0), (27, .int 0), (28, .int 0)]) (hz_f_from : ∀ j, f_from j = 0) (hz_f_values : ∀ j, f_values j = 0) : Met l yX12_make w_n_make ({ frames := 3, cells := 0, slots := 0, locals := 68 }) (va_Pc [.ref aR, .int p0, .int p1] (fun U => U.heap.size = sz ∧ Wd dC dI [(k_type, .int), (k_length, .int), (k_from, .int), (k_there, .boolean), (k_values, .long)] (fun _ => True) [(aR, .inr (15, fsR)), (q_type, .inl (k_type, 400, .inl f_type)), (q_length, .inl (k_length, 400, .inl f_length)), (q_from, .inl (k_from, 400, .inl f_from)), (q_there, .inl (k_there, 400, .inl f_there)), (q_values, .inl (k_values, 38500, .inr (.inl f_values)))] U)) (va_Qi (fun (r : Int32) (u : List Value × (Nat → Int32) × (Nat → Int32) × (Nat → Int32) × (Nat → Int32) × (Nat → Int64)) => (p0 < 0 ∧ p0 < 20 ∧ ¬ p0 = 29 ∧ p0 < 30 ∧ r = 0 ∧ ow fsR (u.1) 150 [0] [(0, .int 1), (20, .int 0), (21, .ref q_type), (22, .ref q_length), (23, .ref q_from), (24, .ref q_there), (25, .ref q_values), (26, .int 0), (27, .int 0), (28, .int 0)] ∧ (∀ j, (u.2.2.2.1) j = 0) ∧ (∀ j, (u.2.2.2.2.2) j = 0)) ∨ (¬ p0 < 0 ∧ 0 ≤ p0 ∧ p0 < 20 ∧ ¬ p0 = 29 ∧ p0 < 30 ∧ r = 0 ∧ ow fsR (u.1) 150 [0] [(0, .int 1), (20, .int 0), (21, .ref q_type), (22, .ref q_length), (23, .ref q_from), (24, .ref q_there), (25, .ref q_values), (26, .int 0), (27, .int 0), (28, .int 0)] ∧ (∀ j, (u.2.2.2.1) j = 0) ∧ (∀ j, (u.2.2.2.2.2) j = 0)) ∨ (¬ p0 < 0 ∧ 0 ≤ p0 ∧ ¬ p0 < 20 ∧ p0 ≤ 24 ∧ p1 < 0 ∧ r = 0 ∧ ow fsR (u.1) 150 [0] [(0, .int 1), (20, .int 0), (21, .ref q_type), (22, .ref q_length), (23, .ref q_from), (24, .ref q_there), (25, .ref q_values), (26, .int 0), (27, .int 0), (28, .int 0)] ∧ (∀ j, (u.2.2.2.1) j = 0) ∧ (∀ j, (u.2.2.2.2.2) j = 0)) ∨ (¬ p0 < 0 ∧ 0 ≤ p0 ∧ ¬ p0 < 20 ∧ p0 ≤ 24 ∧ ¬ p1 < 0 ∧ p1 ≤ 60 ∧ ¬ p0 < 0 ∧ 0 ≤ p0 ∧ ¬ p0 < 0 ∧ 0 ≤ p0 ∧ ¬ p0 < 0 ∧ 0 ≤ p0 ∧ ¬ p0 < 0 ∧ 0 ≤ p0 ∧ r = 0 ∧ ow fsR (u.1) 150 [28, 27, 26, 0] [(26, .int 1), (20, .int 0), (21, .ref q_type), (22, .ref q_length), (23, .ref q_from), (24, .ref q_there), (25, .ref q_values), (0, .int 0), (20, .int 0), (21, .ref q_type), (22, .ref q_length), (23, .ref q_from), (24, .ref q_there), (25, .ref q_values)] ∧ (u.2.1) (0 : Int32).toNatClampNeg = p0 ∧ (u.2.2.1) (0 : Int32).toNatClampNeg = p1 ∧ (∀ j, (u.2.2.2.1) j = 0) ∧ (u.2.2.2.1) (0 : Int32).toNatClampNeg = 0 ∧ (u.2.2.2.2.1) (0 : Int32).toNatClampNeg = 1) ∨ (¬ p0 < 0 ∧ 0 ≤ p0 ∧ ¬ p0 < 20 ∧ p0 ≤ 24 ∧ ¬ p1 < 0 ∧ ¬ p1 ≤ 60 ∧ r = 0 ∧ ow fsR (u.1) 150 [0] [(0, .int 1), (20, .int 0), (21, .ref q_type), (22, .ref q_length), (23, .ref q_from), (24, .ref q_there), (25, .ref q_values), (26, .int 0), (27, .int 0), (28, .int 0)] ∧ (∀ j, (u.2.2.2.1) j = 0) ∧ (∀ j, (u.2.2.2.2.2) j = 0)) ∨ (¬ p0 < 0 ∧ 0 ≤ p0 ∧ ¬ p0 < 20 ∧ ¬ p0 ≤ 24 ∧ p0 = 29 ∧ p1 < 0 ∧ r = 0 ∧ ow fsR (u.1) 150 [0] [(0, .int 1), (20, .int 0), (21, .ref q_type), (22, .ref q_length), (23, .ref q_from), (24, .ref q_there), (25, .ref q_values), (26, .int 0), (27, .int 0), (28, .int 0)] ∧ (∀ j, (u.2.2.2.1) j = 0) ∧ (∀ j, (u.2.2.2.2.2) j = 0)) ∨ (¬ p0 < 0 ∧ 0 ≤ p0 ∧ ¬ p0 < 20 ∧ ¬ p0 ≤ 24 ∧ p0 = 29 ∧ ¬ p1 < 0 ∧ p1 ≤ 60 ∧ ¬ p0 < 0 ∧ 0 ≤ p0 ∧ ¬ p0 < 0 ∧ 0 ≤ p0 ∧ ¬ p0 < 0 ∧ 0 ≤ p0 ∧ ¬ p0 < 0 ∧ 0 ≤ p0 ∧ r = 0 ∧ ow fsR (u.1) 150 [28, 27, 26, 0] [(26, .int 1), (20, .int 0), (21, .ref q_type), (22, .ref q_length), (23, .ref q_from), (24, .ref q_there), (25, .ref q_values), (0, .int 0), (20, .int 0), (21, .ref q_type), (22, .ref q_length), (23, .ref q_from), (24, .ref q_there), (25, .ref q_values)] ∧ (u.2.1) (0 : Int32).toNatClampNeg = p0 ∧ (u.2.2.1) (0 : Int32).toNatClampNeg = p1 ∧ (∀ j, (u.2.2.2.1) j = 0) ∧ (u.2.2.2.1) (0 : Int32).toNatClampNeg = 0 ∧ (u.2.2.2.2.1) (0 : Int32).toNatClampNeg = 1) ∨ (¬ p0 < 0 ∧ 0 ≤ p0 ∧ ¬ p0 < 20 ∧ ¬ p0 ≤ 24 ∧ p0 = 29 ∧ ¬ p1 < 0 ∧ ¬ p1 ≤ 60 ∧ r = 0 ∧ ow fsR (u.1) 150 [0] [(0, .int 1), (20, .int 0), (21, .ref q_type), (22, .ref q_length), (23, .ref q_from), (24, .ref q_there), (25, .ref q_values), (26, .int 0), (27, .int 0), (28, .int 0)] ∧ (∀ j, (u.2.2.2.1) j = 0) ∧ (∀ j, (u.2.2.2.2.2) j = 0)) ∨ (¬ p0 < 0 ∧ 0 ≤ p0 ∧ ¬ p0 < 20 ∧ ¬ p0 ≤ 24 ∧ ¬ p0 = 29 ∧ p0 < 30 ∧ r = 0 ∧ ow fsR (u.1) 150 [0] [(0, .int 1), (20, .int 0), (21, .ref q_type), (22, .ref q_length), (23, .ref q_from), (24, .ref q_there), (25, .ref q_values), (26, .int 0), (27, .int 0), (28, .int 0)] ∧ (∀ j, (u.2.2.2.1) j = 0) ∧ (∀ j, (u.2.2.2.2.2) j = 0)) ∨ (¬ p0 < 0 ∧ 0 ≤ p0 ∧ ¬ p0 < 20 ∧ ¬ p0 ≤ 24 ∧ ¬ p0 = 29 ∧ ¬ p0 < 30 ∧ r = 0 ∧ ow fsR (u.1) 150 [0] [(0, .int 1), (20, .int 0), (21, .ref q_type), (22, .ref q_length), (23, .ref q_from), (24, .ref q_there), (25, .ref q_values), (26, .int 0), (27, .int 0), (28, .int 0)] ∧ (∀ j, (u.2.2.2.1) j = 0) ∧ (∀ j, (u.2.2.2.2.2) j = 0))) (fun (u : List Value × (Nat → Int32) × (Nat → Int32) × (Nat → Int32) × (Nat → Int32) × (Nat → Int64)) t => Wd dC dI [(k_type, .int), (k_length, .int), (k_from, .int), (k_there, .boolean), (k_values, .long)] (va_A [(aR, .inr (15, fsR)), (q_type, .inl (k_type, 400, .inl f_type)), (q_length, .inl (k_length, 400, .inl f_length)), (q_from, .inl (k_from, 400, .inl f_from)), (q_there, .inl (k_there, 400, .inl f_there)), (q_values, .inl (k_values, 38500, .inr (.inl f_values)))] sz) [(aR, .inr (15, (u.1))), (q_type, .inl (k_type, 400, .inl ((u.2.1)))), (q_length, .inl (k_length, 400, .inl ((u.2.2.1)))), (q_from, .inl (k_from, 400, .inl ((u.2.2.2.1)))), (q_there, .inl (k_there, 400, .inl ((u.2.2.2.2.1)))), (q_values, .inl (k_values, 38500, .inr (.inl ((u.2.2.2.2.2)))))] t) (va_A [(aR, .inr (15, fsR)), (q_type, .inl (k_type, 400, .inl f_type)), (q_length, .inl (k_length, 400, .inl f_length)), (q_from, .inl (k_from, 400, .inl f_from)), (q_there, .inl (k_there, 400, .inl f_there)), (q_values, .inl (k_values, 38500, .inr (.inl f_values)))] sz))  0 0 (va_A [(aR, .inr (15, fsR)), (q_type, .inl (k_type, 400, .inl f_type)), (q_length, .inl (k_length, 400, .inl f_length)), (q_from, .inl (k_from, 400, .inl f_from)), (q_there, .inl (k_there, 400, .inl f_there)), (q_values, .inl (k_values, 38500, .inr (.inl f_values)))] sz) := by
  refine Met.ofW (cc := cX12_make) (maxL := 4) (ret := (some .int)) (by decide) rfl ?_
  intro p e s m args below meth c s₁ B hml hv
  obtain ⟨rfl, hsz, hP, hK, hD0⟩ := hv
  have hx := B.exec
  have hb := B.bytes
  have hr := B.returns
  have hts := atoms_spec (ws := w_n_make) B.pre
  have hown : s.vm.findClass RX12 = some m.cls := findClass_of_methodNamed B.named
  have hlocks := B.notSynchronized
  subst hsz
  have hD := hD0.self (sz := s.heap.size)
  generalize hAe : va_A [(aR, .inr (15, fsR)), (q_type, .inl (k_type, 400, .inl f_type)), (q_length, .inl (k_length, 400, .inl f_length)), (q_from, .inl (k_from, 400, .inl f_from)), (q_there, .inl (k_there, 400, .inl f_there)), (q_values, .inl (k_values, 38500, .inr (.inl f_values)))] s.heap.size = A at hD ⊢
  have hA : ∀ q : Nat, s.heap.size ≤ q → A q := fun q h => by rw [← hAe]; exact Or.inr h
  have hS : va_S A s.heap s.heap [] := va_S.rf
  have hl := lv_entry ([.ref aR, .int p0, .int p1]) (n := 4) (Nat.le_of_ble_eq_true rfl)
  rw [lg_entry_eq]
  generalize (lg_sl ([.ref aR, .int p0, .int p1]) ++ List.replicate (4 - (lg_sl ([.ref aR, .int p0, .int p1])).length) Slot.unset).toArray = ls at hl ⊢
  have hl : lv_has ls 4 [(0, .ref aR), (1, .int p0), (2, .int p1)] := hl
  have o_fsR := ow_0 k_fsR
  refine lv_aload_n hx hb dX12_make_0 rfl (lv_at hl 0 rfl) ?_
  refine lv_aload_n hx hb dX12_make_1 rfl (lv_at hl 0 rfl) ?_
  refine lv_iload_n hx hb dX12_make_2 rfl (lv_at hl 1 rfl) ?_
  have hPc := hP.sub (ws' := [(aR, .inr (15, fsR))]) [0] rfl
  have hDc := hD.sub (ws' := [(aR, .inr (15, fsR))]) [0] (by decide) rfl
  have hKc := hK.sub (tys' := []) [] rfl
  have hFc := va_free (wc := [(aR, .inr (15, fsR))]) hD hS hA [0] rfl
  refine va_calli (va_runV (As := [.int p0]) (rest := [.ref aR]) ⟨hx, hb, hml, hown, hts⟩ (z_X12_isClass l dC dI s.heap.size aR fsR p0 (fh_sub o_fsR.2 [1] rfl) ) (cwV 1 hts g_n_make_z_X12_isClass_416 rfl rfl rfl (by decide +kernel) ⟨Nat.le_of_ble_eq_true rfl, Nat.le_of_ble_eq_true rfl⟩) ⟨fun a U g mk q => by obtain ⟨q0, q1, qP, qK, qD⟩ := q; exact ⟨q0, q1, qP, va_K.moved (u := U) (U := U.calling g mk a) (Vm.Alike.refl U.vm) qK, qD⟩, va_recv hK hP (ci := 15) (q0 := 0) rfl rfl, fun U hU hW => ⟨rfl, by rw [hU], by rw [hU]; exact hPc, va_K.moved hW.alike hKc, hDc.weaken (fun _ _ _ _ => trivial)⟩⟩ rfl rfl hl.1 rfl (lv_room (Nat.le_of_ble_eq_true rfl)) dX12_make_3 ⟨Nat.le_of_ble_eq_true rfl, Nat.le_of_ble_eq_true rfl⟩) hS (fun q _ h => hFc q h) hFc (fun r1674 u t H1 locs ht hvm hw hB hz1 hk1 hS => ?_)
  obtain ⟨hP1, hK1, hD1⟩ := hB
  rw [ht] at hP1
  try dsimp only at hw
  obtain ⟨hP, hD⟩ := va_join (wr := [(q_type, .inl (k_type, 400, .inl f_type)), (q_length, .inl (k_length, 400, .inl f_length)), (q_from, .inl (k_from, 400, .inl f_from)), (q_there, .inl (k_there, 400, .inl f_there)), (q_values, .inl (k_values, 38500, .inr (.inl f_values)))]) (w1 := [(aR, .inr (15, fsR))]) hP hD [0] [1, 2, 3, 4, 5] rfl rfl (by decide) (by decide) hk1 hFc hP1 hD1
  have hK := hK.sub (tys' := [(k_type, .int), (k_length, .int), (k_from, .int), (k_there, .boolean), (k_values, .long)]) [0, 1, 2, 3, 4] rfl
  generalize H1 = H at hP hS ⊢
  have hP : va_P (dC, dI) vwCl [(q_type, .inl (k_type, 400, .inl f_type)), (q_length, .inl (k_length, 400, .inl f_length)), (q_from, .inl (k_from, 400, .inl f_from)), (q_there, .inl (k_there, 400, .inl f_there)), (q_values, .inl (k_values, 38500, .inr (.inl f_values))), (aR, .inr (15, fsR))] H := hP
  have hD : va_D A [(q_type, .inl (k_type, 400, .inl f_type)), (q_length, .inl (k_length, 400, .inl f_length)), (q_from, .inl (k_from, 400, .inl f_from)), (q_there, .inl (k_there, 400, .inl f_there)), (q_values, .inl (k_values, 38500, .inr (.inl f_values))), (aR, .inr (15, fsR))] := hD
  rcases hw with ⟨c1675, er1676⟩ | ⟨c1677, c1678, er1679⟩
  · skip
    subst er1676
    refine lv_if_ne (tgt := 31) hx hb dX12_make_6 (by decide) (fun c1680 => absurd c1680 (by decide)) (fun c1680 => ?_)
    refine lv_aload_n hx hb dX12_make_9 rfl (lv_at hl 0 rfl) ?_
    refine lv_iload_n hx hb dX12_make_10 rfl (lv_at hl 1 rfl) ?_
    have hPc := hP.sub (ws' := [(aR, .inr (15, fsR))]) [5] rfl
    have hDc := hD.sub (ws' := [(aR, .inr (15, fsR))]) [5] (by decide) rfl
    have hKc := hK.sub (tys' := []) [] rfl
    have hFc := va_free (wc := [(aR, .inr (15, fsR))]) hD hS hA [5] rfl
    refine va_calli (va_runV (As := [.int p0]) (rest := [.ref aR]) ⟨hx, hb, hml, hown, hts⟩ (z_X12_isArrayType l dC dI H.size aR fsR p0 (fh_sub o_fsR.2 [1] rfl) ) (cwV 1 hts g_n_make_z_X12_isArrayType_464 rfl rfl rfl (by decide +kernel) ⟨Nat.le_of_ble_eq_true rfl, Nat.le_of_ble_eq_true rfl⟩) ⟨fun a U g mk q => by obtain ⟨q0, q1, qP, qK, qD⟩ := q; exact ⟨q0, q1, qP, va_K.moved (u := U) (U := U.calling g mk a) (Vm.Alike.refl U.vm) qK, qD⟩, va_recv hK hP (ci := 15) (q0 := 5) rfl rfl, fun U hU hW => ⟨rfl, by rw [hU], by rw [hU]; exact hPc, va_K.moved hW.alike hKc, hDc.weaken (fun _ _ _ _ => trivial)⟩⟩ rfl rfl hl.1 rfl (lv_room (Nat.le_of_ble_eq_true rfl)) dX12_make_11 ⟨Nat.le_of_ble_eq_true rfl, Nat.le_of_ble_eq_true rfl⟩) hS (fun q _ h => hFc q h) hFc (fun r1697 u t H1 locs ht hvm hw hB hz1 hk1 hS => ?_)
    obtain ⟨hP1, hK1, hD1⟩ := hB
    rw [ht] at hP1
    try dsimp only at hw
    obtain ⟨hP, hD⟩ := va_join (wr := [(q_type, .inl (k_type, 400, .inl f_type)), (q_length, .inl (k_length, 400, .inl f_length)), (q_from, .inl (k_from, 400, .inl f_from)), (q_there, .inl (k_there, 400, .inl f_there)), (q_values, .inl (k_values, 38500, .inr (.inl f_values)))]) (w1 := [(aR, .inr (15, fsR))]) hP hD [5] [0, 1, 2, 3, 4] rfl rfl (by decide) (by decide) hk1 hFc hP1 hD1
    have hK := hK.sub (tys' := [(k_type, .int), (k_length, .int), (k_from, .int), (k_there, .boolean), (k_values, .long)]) [0, 1, 2, 3, 4] rfl
    generalize H1 = H at hP hS ⊢
    have hP : va_P (dC, dI) vwCl [(q_type, .inl (k_type, 400, .inl f_type)), (q_length, .inl (k_length, 400, .inl f_length)), (q_from, .inl (k_from, 400, .inl f_from)), (q_there, .inl (k_there, 400, .inl f_there)), (q_values, .inl (k_values, 38500, .inr (.inl f_values))), (aR, .inr (15, fsR))] H := hP
    have hD : va_D A [(q_type, .inl (k_type, 400, .inl f_type)), (q_length, .inl (k_length, 400, .inl f_length)), (q_from, .inl (k_from, 400, .inl f_from)), (q_there, .inl (k_there, 400, .inl f_there)), (q_values, .inl (k_values, 38500, .inr (.inl f_values))), (aR, .inr (15, fsR))] := hD
    rcases hw with ⟨c1698, c1699, c1700, er1701⟩ | ⟨c1702, c1703, er1704⟩ | ⟨c1705, c1706, c1707, er1708⟩ | ⟨c1709, c1710, c1711, c1712, er1713⟩ | ⟨c1714, c1715, c1716, c1717, er1718⟩
    · skip
      subst er1701
      refine lv_if_eq (tgt := 27) hx hb dX12_make_14 (by decide) (fun c1719 => ?_) (fun c1719 => absurd c1719 (by decide))
      refine lv_iconst (v := 1) hx hb dX12_make_27 (by decide) ?_
      refine lv_goto (tgt := 32) hx hb dX12_make_28 (by decide) ?_
      refine va_put (D := (dC, dI)) (ci := 15) (v := .int 1) (ty := .int) (C := RX12) (T := TX12) (N := 150) hx hb hts (in_n_make_X12) tyX12 tyX12_ok nmX12 hown hK hP hD hS 5 rfl rfl 0 (by decide) (hts (.fieldLink RX12 388 "HeapWorksModel" "thrown" "I") (by decide +kernel)) (fun _ h9 => h9) rfl (by decide +kernel) rfl rfl (by rw [o_fsR.2.1]; decide) dX12_make_32 (fun H locs hP hD hS => ?_)
      have hP : va_P (dC, dI) vwCl [(q_type, .inl (k_type, 400, .inl f_type)), (q_length, .inl (k_length, 400, .inl f_length)), (q_from, .inl (k_from, 400, .inl f_from)), (q_there, .inl (k_there, 400, .inl f_there)), (q_values, .inl (k_values, 38500, .inr (.inl f_values))), (aR, .inr (15, (fsR.set 0 (.int 1))))] H := hP
      have hD : va_D A [(q_type, .inl (k_type, 400, .inl f_type)), (q_length, .inl (k_length, 400, .inl f_length)), (q_from, .inl (k_from, 400, .inl f_from)), (q_there, .inl (k_there, 400, .inl f_there)), (q_values, .inl (k_values, 38500, .inr (.inl f_values))), (aR, .inr (15, (fsR.set 0 (.int 1))))] := hD
      have o_s1720 := ow_set o_fsR 0 (.int 1) (by decide) (l' := [(0, .int 1), (20, .int 0), (21, .ref q_type), (22, .ref q_length), (23, .ref q_from), (24, .ref q_there), (25, .ref q_values), (26, .int 0), (27, .int 0), (28, .int 0)]) (w' := [0]) rfl rfl
      generalize (fsR.set 0 (.int 1)) = s1720 at hP hD o_s1720
      refine lv_aload_n hx hb dX12_make_35 rfl (lv_at hl 0 rfl) ?_
      refine va_get (D := (dC, dI)) (ci := 15) (v := .int 1) (C := RX12) (T := TX12) (N := 150) hx hb hts (in_n_make_X12) hown hK hP 5 rfl rfl 0 (by decide) (hts (.fieldLink RX12 388 "HeapWorksModel" "thrown" "I") (by decide +kernel)) (fun _ h9 => h9) (ow_at o_s1720 0 rfl) dX12_make_36 ?_
      refine lv_if_le (tgt := 44) hx hb dX12_make_39 (by decide) (fun c1721 => absurd c1721 (by decide)) (fun c1721 => ?_)
      refine lv_iconst (v := 0) hx hb dX12_make_42 (by decide) ?_
      have hP9 := hP.sub (ws' := [(aR, .inr (15, s1720)), (q_type, .inl (k_type, 400, .inl f_type)), (q_length, .inl (k_length, 400, .inl f_length)), (q_from, .inl (k_from, 400, .inl f_from)), (q_there, .inl (k_there, 400, .inl f_there)), (q_values, .inl (k_values, 38500, .inr (.inl f_values)))]) [5, 0, 1, 2, 3, 4] rfl
      have hD9 := hD.sub (ws' := [(aR, .inr (15, s1720)), (q_type, .inl (k_type, 400, .inl f_type)), (q_length, .inl (k_length, 400, .inl f_length)), (q_from, .inl (k_from, 400, .inl f_from)), (q_there, .inl (k_there, 400, .inl f_there)), (q_values, .inl (k_values, 38500, .inr (.inl f_values)))]) [5, 0, 1, 2, 3, 4] (by decide) rfl
      have hK9 := hK.sub (tys' := [(k_type, .int), (k_length, .int), (k_from, .int), (k_there, .boolean), (k_values, .long)]) [0, 1, 2, 3, 4] rfl
      exact W.iret (v := 0) hx hb hr (fun t ht hW => ⟨⟨0, (s1720, f_type, f_length, f_from, f_there, f_values), rfl, (Or.inl ⟨c1675, c1698, c1699, c1700, rfl, o_s1720, hz_f_from, hz_f_values⟩), by rw [ht]; exact hP9, va_K.moved hW.alike hK9, hD9⟩, hS.F ht⟩) hS.2.2 dX12_make_43
    · exact (by exfalso; (try simp only [i_lt, i_le, i_eq, kc_0, kc_20, kc_24] at c1675 c1702 c1703); omega)
    · exact (by exfalso; (try simp only [i_lt, i_le, i_eq, kc_0, kc_20, kc_24, kc_29] at c1675 c1705 c1706 c1707); omega)
    · exact (by exfalso; (try simp only [i_lt, i_le, i_eq, kc_0, kc_20, kc_24, kc_29, kc_30] at c1675 c1709 c1710 c1711 c1712); omega)
    · exact (by exfalso; (try simp only [i_lt, i_le, i_eq, kc_0, kc_20, kc_24, kc_29, kc_30] at c1675 c1714 c1715 c1716 c1717); omega)
  · skip
    subst er1679
    refine lv_if_ne (tgt := 31) hx hb dX12_make_6 (by decide) (fun c1722 => absurd c1722 (by decide)) (fun c1722 => ?_)
    refine lv_aload_n hx hb dX12_make_9 rfl (lv_at hl 0 rfl) ?_
    refine lv_iload_n hx hb dX12_make_10 rfl (lv_at hl 1 rfl) ?_
    have hPc := hP.sub (ws' := [(aR, .inr (15, fsR))]) [5] rfl
    have hDc := hD.sub (ws' := [(aR, .inr (15, fsR))]) [5] (by decide) rfl
    have hKc := hK.sub (tys' := []) [] rfl
    have hFc := va_free (wc := [(aR, .inr (15, fsR))]) hD hS hA [5] rfl
    refine va_calli (va_runV (As := [.int p0]) (rest := [.ref aR]) ⟨hx, hb, hml, hown, hts⟩ (z_X12_isArrayType l dC dI H.size aR fsR p0 (fh_sub o_fsR.2 [1] rfl) ) (cwV 1 hts g_n_make_z_X12_isArrayType_464 rfl rfl rfl (by decide +kernel) ⟨Nat.le_of_ble_eq_true rfl, Nat.le_of_ble_eq_true rfl⟩) ⟨fun a U g mk q => by obtain ⟨q0, q1, qP, qK, qD⟩ := q; exact ⟨q0, q1, qP, va_K.moved (u := U) (U := U.calling g mk a) (Vm.Alike.refl U.vm) qK, qD⟩, va_recv hK hP (ci := 15) (q0 := 5) rfl rfl, fun U hU hW => ⟨rfl, by rw [hU], by rw [hU]; exact hPc, va_K.moved hW.alike hKc, hDc.weaken (fun _ _ _ _ => trivial)⟩⟩ rfl rfl hl.1 rfl (lv_room (Nat.le_of_ble_eq_true rfl)) dX12_make_11 ⟨Nat.le_of_ble_eq_true rfl, Nat.le_of_ble_eq_true rfl⟩) hS (fun q _ h => hFc q h) hFc (fun r1739 u t H1 locs ht hvm hw hB hz1 hk1 hS => ?_)
    obtain ⟨hP1, hK1, hD1⟩ := hB
    rw [ht] at hP1
    try dsimp only at hw
    obtain ⟨hP, hD⟩ := va_join (wr := [(q_type, .inl (k_type, 400, .inl f_type)), (q_length, .inl (k_length, 400, .inl f_length)), (q_from, .inl (k_from, 400, .inl f_from)), (q_there, .inl (k_there, 400, .inl f_there)), (q_values, .inl (k_values, 38500, .inr (.inl f_values)))]) (w1 := [(aR, .inr (15, fsR))]) hP hD [5] [0, 1, 2, 3, 4] rfl rfl (by decide) (by decide) hk1 hFc hP1 hD1
    have hK := hK.sub (tys' := [(k_type, .int), (k_length, .int), (k_from, .int), (k_there, .boolean), (k_values, .long)]) [0, 1, 2, 3, 4] rfl
    generalize H1 = H at hP hS ⊢
    have hP : va_P (dC, dI) vwCl [(q_type, .inl (k_type, 400, .inl f_type)), (q_length, .inl (k_length, 400, .inl f_length)), (q_from, .inl (k_from, 400, .inl f_from)), (q_there, .inl (k_there, 400, .inl f_there)), (q_values, .inl (k_values, 38500, .inr (.inl f_values))), (aR, .inr (15, fsR))] H := hP
    have hD : va_D A [(q_type, .inl (k_type, 400, .inl f_type)), (q_length, .inl (k_length, 400, .inl f_length)), (q_from, .inl (k_from, 400, .inl f_from)), (q_there, .inl (k_there, 400, .inl f_there)), (q_values, .inl (k_values, 38500, .inr (.inl f_values))), (aR, .inr (15, fsR))] := hD
    rcases hw with ⟨c1740, c1741, c1742, er1743⟩ | ⟨c1744, c1745, er1746⟩ | ⟨c1747, c1748, c1749, er1750⟩ | ⟨c1751, c1752, c1753, c1754, er1755⟩ | ⟨c1756, c1757, c1758, c1759, er1760⟩
    · skip
      subst er1743
      refine lv_if_eq (tgt := 27) hx hb dX12_make_14 (by decide) (fun c1761 => ?_) (fun c1761 => absurd c1761 (by decide))
      refine lv_iconst (v := 1) hx hb dX12_make_27 (by decide) ?_
      refine lv_goto (tgt := 32) hx hb dX12_make_28 (by decide) ?_
      refine va_put (D := (dC, dI)) (ci := 15) (v := .int 1) (ty := .int) (C := RX12) (T := TX12) (N := 150) hx hb hts (in_n_make_X12) tyX12 tyX12_ok nmX12 hown hK hP hD hS 5 rfl rfl 0 (by decide) (hts (.fieldLink RX12 388 "HeapWorksModel" "thrown" "I") (by decide +kernel)) (fun _ h9 => h9) rfl (by decide +kernel) rfl rfl (by rw [o_fsR.2.1]; decide) dX12_make_32 (fun H locs hP hD hS => ?_)
      have hP : va_P (dC, dI) vwCl [(q_type, .inl (k_type, 400, .inl f_type)), (q_length, .inl (k_length, 400, .inl f_length)), (q_from, .inl (k_from, 400, .inl f_from)), (q_there, .inl (k_there, 400, .inl f_there)), (q_values, .inl (k_values, 38500, .inr (.inl f_values))), (aR, .inr (15, (fsR.set 0 (.int 1))))] H := hP
      have hD : va_D A [(q_type, .inl (k_type, 400, .inl f_type)), (q_length, .inl (k_length, 400, .inl f_length)), (q_from, .inl (k_from, 400, .inl f_from)), (q_there, .inl (k_there, 400, .inl f_there)), (q_values, .inl (k_values, 38500, .inr (.inl f_values))), (aR, .inr (15, (fsR.set 0 (.int 1))))] := hD
      have o_s1762 := ow_set o_fsR 0 (.int 1) (by decide) (l' := [(0, .int 1), (20, .int 0), (21, .ref q_type), (22, .ref q_length), (23, .ref q_from), (24, .ref q_there), (25, .ref q_values), (26, .int 0), (27, .int 0), (28, .int 0)]) (w' := [0]) rfl rfl
      generalize (fsR.set 0 (.int 1)) = s1762 at hP hD o_s1762
      refine lv_aload_n hx hb dX12_make_35 rfl (lv_at hl 0 rfl) ?_
      refine va_get (D := (dC, dI)) (ci := 15) (v := .int 1) (C := RX12) (T := TX12) (N := 150) hx hb hts (in_n_make_X12) hown hK hP 5 rfl rfl 0 (by decide) (hts (.fieldLink RX12 388 "HeapWorksModel" "thrown" "I") (by decide +kernel)) (fun _ h9 => h9) (ow_at o_s1762 0 rfl) dX12_make_36 ?_
      refine lv_if_le (tgt := 44) hx hb dX12_make_39 (by decide) (fun c1763 => absurd c1763 (by decide)) (fun c1763 => ?_)
      refine lv_iconst (v := 0) hx hb dX12_make_42 (by decide) ?_
      have hP9 := hP.sub (ws' := [(aR, .inr (15, s1762)), (q_type, .inl (k_type, 400, .inl f_type)), (q_length, .inl (k_length, 400, .inl f_length)), (q_from, .inl (k_from, 400, .inl f_from)), (q_there, .inl (k_there, 400, .inl f_there)), (q_values, .inl (k_values, 38500, .inr (.inl f_values)))]) [5, 0, 1, 2, 3, 4] rfl
      have hD9 := hD.sub (ws' := [(aR, .inr (15, s1762)), (q_type, .inl (k_type, 400, .inl f_type)), (q_length, .inl (k_length, 400, .inl f_length)), (q_from, .inl (k_from, 400, .inl f_from)), (q_there, .inl (k_there, 400, .inl f_there)), (q_values, .inl (k_values, 38500, .inr (.inl f_values)))]) [5, 0, 1, 2, 3, 4] (by decide) rfl
      have hK9 := hK.sub (tys' := [(k_type, .int), (k_length, .int), (k_from, .int), (k_there, .boolean), (k_values, .long)]) [0, 1, 2, 3, 4] rfl
      exact W.iret (v := 0) hx hb hr (fun t ht hW => ⟨⟨0, (s1762, f_type, f_length, f_from, f_there, f_values), rfl, (Or.inr (Or.inl ⟨c1677, c1678, c1740, c1741, c1742, rfl, o_s1762, hz_f_from, hz_f_values⟩)), by rw [ht]; exact hP9, va_K.moved hW.alike hK9, hD9⟩, hS.F ht⟩) hS.2.2 dX12_make_43
    · skip
      subst er1746
      refine lv_if_eq (tgt := 27) hx hb dX12_make_14 (by decide) (fun c1764 => absurd c1764 (by decide)) (fun c1764 => ?_)
      refine lv_iload_n hx hb dX12_make_17 rfl (lv_at hl 2 rfl) ?_
      refine lv_if_lt (tgt := 27) hx hb dX12_make_18 (by decide) (fun c1765 => ?_) (fun c1765 => ?_)
      · skip
        refine lv_iconst (v := 1) hx hb dX12_make_27 (by decide) ?_
        refine lv_goto (tgt := 32) hx hb dX12_make_28 (by decide) ?_
        refine va_put (D := (dC, dI)) (ci := 15) (v := .int 1) (ty := .int) (C := RX12) (T := TX12) (N := 150) hx hb hts (in_n_make_X12) tyX12 tyX12_ok nmX12 hown hK hP hD hS 5 rfl rfl 0 (by decide) (hts (.fieldLink RX12 388 "HeapWorksModel" "thrown" "I") (by decide +kernel)) (fun _ h9 => h9) rfl (by decide +kernel) rfl rfl (by rw [o_fsR.2.1]; decide) dX12_make_32 (fun H locs hP hD hS => ?_)
        have hP : va_P (dC, dI) vwCl [(q_type, .inl (k_type, 400, .inl f_type)), (q_length, .inl (k_length, 400, .inl f_length)), (q_from, .inl (k_from, 400, .inl f_from)), (q_there, .inl (k_there, 400, .inl f_there)), (q_values, .inl (k_values, 38500, .inr (.inl f_values))), (aR, .inr (15, (fsR.set 0 (.int 1))))] H := hP
        have hD : va_D A [(q_type, .inl (k_type, 400, .inl f_type)), (q_length, .inl (k_length, 400, .inl f_length)), (q_from, .inl (k_from, 400, .inl f_from)), (q_there, .inl (k_there, 400, .inl f_there)), (q_values, .inl (k_values, 38500, .inr (.inl f_values))), (aR, .inr (15, (fsR.set 0 (.int 1))))] := hD
        have o_s1766 := ow_set o_fsR 0 (.int 1) (by decide) (l' := [(0, .int 1), (20, .int 0), (21, .ref q_type), (22, .ref q_length), (23, .ref q_from), (24, .ref q_there), (25, .ref q_values), (26, .int 0), (27, .int 0), (28, .int 0)]) (w' := [0]) rfl rfl
        generalize (fsR.set 0 (.int 1)) = s1766 at hP hD o_s1766
        refine lv_aload_n hx hb dX12_make_35 rfl (lv_at hl 0 rfl) ?_
        refine va_get (D := (dC, dI)) (ci := 15) (v := .int 1) (C := RX12) (T := TX12) (N := 150) hx hb hts (in_n_make_X12) hown hK hP 5 rfl rfl 0 (by decide) (hts (.fieldLink RX12 388 "HeapWorksModel" "thrown" "I") (by decide +kernel)) (fun _ h9 => h9) (ow_at o_s1766 0 rfl) dX12_make_36 ?_
        refine lv_if_le (tgt := 44) hx hb dX12_make_39 (by decide) (fun c1767 => absurd c1767 (by decide)) (fun c1767 => ?_)
        refine lv_iconst (v := 0) hx hb dX12_make_42 (by decide) ?_
        have hP9 := hP.sub (ws' := [(aR, .inr (15, s1766)), (q_type, .inl (k_type, 400, .inl f_type)), (q_length, .inl (k_length, 400, .inl f_length)), (q_from, .inl (k_from, 400, .inl f_from)), (q_there, .inl (k_there, 400, .inl f_there)), (q_values, .inl (k_values, 38500, .inr (.inl f_values)))]) [5, 0, 1, 2, 3, 4] rfl
        have hD9 := hD.sub (ws' := [(aR, .inr (15, s1766)), (q_type, .inl (k_type, 400, .inl f_type)), (q_length, .inl (k_length, 400, .inl f_length)), (q_from, .inl (k_from, 400, .inl f_from)), (q_there, .inl (k_there, 400, .inl f_there)), (q_values, .inl (k_values, 38500, .inr (.inl f_values)))]) [5, 0, 1, 2, 3, 4] (by decide) rfl
        have hK9 := hK.sub (tys' := [(k_type, .int), (k_length, .int), (k_from, .int), (k_there, .boolean), (k_values, .long)]) [0, 1, 2, 3, 4] rfl
        exact W.iret (v := 0) hx hb hr (fun t ht hW => ⟨⟨0, (s1766, f_type, f_length, f_from, f_there, f_values), rfl, (Or.inr (Or.inr (Or.inl ⟨c1677, c1678, c1744, c1745, c1765, rfl, o_s1766, hz_f_from, hz_f_values⟩))), by rw [ht]; exact hP9, va_K.moved hW.alike hK9, hD9⟩, hS.F ht⟩) hS.2.2 dX12_make_43
      · skip
        refine lv_iload_n hx hb dX12_make_21 rfl (lv_at hl 2 rfl) ?_
        refine lv_bipush (v := 60) hx hb dX12_make_22 (by decide) ?_
        refine lv_icmp_le (tgt := 31) hx hb dX12_make_24 (by decide) (fun c1768 => ?_) (fun c1768 => ?_)
        · skip
          refine lv_iconst (v := 0) hx hb dX12_make_31 (by decide) ?_
          refine va_put (D := (dC, dI)) (ci := 15) (v := .int 0) (ty := .int) (C := RX12) (T := TX12) (N := 150) hx hb hts (in_n_make_X12) tyX12 tyX12_ok nmX12 hown hK hP hD hS 5 rfl rfl 0 (by decide) (hts (.fieldLink RX12 388 "HeapWorksModel" "thrown" "I") (by decide +kernel)) (fun _ h9 => h9) rfl (by decide +kernel) rfl rfl (by rw [o_fsR.2.1]; decide) dX12_make_32 (fun H locs hP hD hS => ?_)
          have hP : va_P (dC, dI) vwCl [(q_type, .inl (k_type, 400, .inl f_type)), (q_length, .inl (k_length, 400, .inl f_length)), (q_from, .inl (k_from, 400, .inl f_from)), (q_there, .inl (k_there, 400, .inl f_there)), (q_values, .inl (k_values, 38500, .inr (.inl f_values))), (aR, .inr (15, (fsR.set 0 (.int 0))))] H := hP
          have hD : va_D A [(q_type, .inl (k_type, 400, .inl f_type)), (q_length, .inl (k_length, 400, .inl f_length)), (q_from, .inl (k_from, 400, .inl f_from)), (q_there, .inl (k_there, 400, .inl f_there)), (q_values, .inl (k_values, 38500, .inr (.inl f_values))), (aR, .inr (15, (fsR.set 0 (.int 0))))] := hD
          have o_s1769 := ow_set o_fsR 0 (.int 0) (by decide) (l' := [(0, .int 0), (20, .int 0), (21, .ref q_type), (22, .ref q_length), (23, .ref q_from), (24, .ref q_there), (25, .ref q_values), (26, .int 0), (27, .int 0), (28, .int 0)]) (w' := [0]) rfl rfl
          generalize (fsR.set 0 (.int 0)) = s1769 at hP hD o_s1769
          refine lv_aload_n hx hb dX12_make_35 rfl (lv_at hl 0 rfl) ?_
          refine va_get (D := (dC, dI)) (ci := 15) (v := .int 0) (C := RX12) (T := TX12) (N := 150) hx hb hts (in_n_make_X12) hown hK hP 5 rfl rfl 0 (by decide) (hts (.fieldLink RX12 388 "HeapWorksModel" "thrown" "I") (by decide +kernel)) (fun _ h9 => h9) (ow_at o_s1769 0 rfl) dX12_make_36 ?_
          refine lv_if_le (tgt := 44) hx hb dX12_make_39 (by decide) (fun c1770 => ?_) (fun c1770 => absurd c1770 (by decide))
          refine lv_aload_n hx hb dX12_make_44 rfl (lv_at hl 0 rfl) ?_
          refine lv_aload_n hx hb dX12_make_45 rfl (lv_at hl 0 rfl) ?_
          refine va_get (D := (dC, dI)) (ci := 15) (v := .int 0) (C := RX12) (T := TX12) (N := 150) hx hb hts (in_n_make_X12) hown hK hP 5 rfl rfl 26 (by decide) (hts (.fieldLink RX12 435 "HeapWorksModel" "objects" "I") (by decide +kernel)) (fun _ h9 => h9) (ow_at o_s1769 7 rfl) dX12_make_46 ?_
          refine lv_sipush (v := 400) hx hb dX12_make_49 (by decide) ?_
          refine lv_icmp_eq (tgt := 72) hx hb dX12_make_52 (by decide) (fun c1771 => absurd c1771 (by decide)) (fun c1771 => ?_)
          refine lv_aload_n hx hb dX12_make_55 rfl (lv_at hl 0 rfl) ?_
          refine va_get (D := (dC, dI)) (ci := 15) (v := .int 0) (C := RX12) (T := TX12) (N := 150) hx hb hts (in_n_make_X12) hown hK hP 5 rfl rfl 28 (by decide) (hts (.fieldLink RX12 461 "HeapWorksModel" "slotsThere" "I") (by decide +kernel)) (fun _ h9 => h9) (ow_at o_s1769 9 rfl) dX12_make_56 ?_
          refine lv_aload_n hx hb dX12_make_59 rfl (lv_at hl 0 rfl) ?_
          refine lv_iload_n hx hb dX12_make_60 rfl (lv_at hl 1 rfl) ?_
          refine lv_iload_n hx hb dX12_make_61 rfl (lv_at hl 2 rfl) ?_
          have hPc := hP.sub (ws' := [(aR, .inr (15, s1769))]) [5] rfl
          have hDc := hD.sub (ws' := [(aR, .inr (15, s1769))]) [5] (by decide) rfl
          have hKc := hK.sub (tys' := []) [] rfl
          have hFc := va_free (wc := [(aR, .inr (15, s1769))]) hD hS hA [5] rfl
          refine va_calli (va_runV (As := [.int p0, .int p1]) (rest := [.int 0, .ref aR]) ⟨hx, hb, hml, hown, hts⟩ (z_X12_slotCount l dC dI H.size aR s1769 p0 p1 (fh_sub o_s1769.2 [1] rfl) ) (cwV 2 hts g_n_make_z_X12_slotCount_455 rfl rfl rfl (by decide +kernel) ⟨Nat.le_of_ble_eq_true rfl, Nat.le_of_ble_eq_true rfl⟩) ⟨fun a U g mk q => by obtain ⟨q0, q1, qP, qK, qD⟩ := q; exact ⟨q0, q1, qP, va_K.moved (u := U) (U := U.calling g mk a) (Vm.Alike.refl U.vm) qK, qD⟩, va_recv hK hP (ci := 15) (q0 := 5) rfl rfl, fun U hU hW => ⟨rfl, by rw [hU], by rw [hU]; exact hPc, va_K.moved hW.alike hKc, hDc.weaken (fun _ _ _ _ => trivial)⟩⟩ rfl rfl hl.1 rfl (lv_room (Nat.le_of_ble_eq_true rfl)) dX12_make_62 ⟨Nat.le_of_ble_eq_true rfl, Nat.le_of_ble_eq_true rfl⟩) hS (fun q _ h => hFc q h) hFc (fun r1782 u t H1 locs ht hvm hw hB hz1 hk1 hS => ?_)
          obtain ⟨hP1, hK1, hD1⟩ := hB
          rw [ht] at hP1
          try dsimp only at hw
          obtain ⟨hP, hD⟩ := va_join (wr := [(q_type, .inl (k_type, 400, .inl f_type)), (q_length, .inl (k_length, 400, .inl f_length)), (q_from, .inl (k_from, 400, .inl f_from)), (q_there, .inl (k_there, 400, .inl f_there)), (q_values, .inl (k_values, 38500, .inr (.inl f_values)))]) (w1 := [(aR, .inr (15, s1769))]) hP hD [5] [0, 1, 2, 3, 4] rfl rfl (by decide) (by decide) hk1 hFc hP1 hD1
          have hK := hK.sub (tys' := [(k_type, .int), (k_length, .int), (k_from, .int), (k_there, .boolean), (k_values, .long)]) [0, 1, 2, 3, 4] rfl
          generalize H1 = H at hP hS ⊢
          have hP : va_P (dC, dI) vwCl [(q_type, .inl (k_type, 400, .inl f_type)), (q_length, .inl (k_length, 400, .inl f_length)), (q_from, .inl (k_from, 400, .inl f_from)), (q_there, .inl (k_there, 400, .inl f_there)), (q_values, .inl (k_values, 38500, .inr (.inl f_values))), (aR, .inr (15, s1769))] H := hP
          have hD : va_D A [(q_type, .inl (k_type, 400, .inl f_type)), (q_length, .inl (k_length, 400, .inl f_length)), (q_from, .inl (k_from, 400, .inl f_from)), (q_there, .inl (k_there, 400, .inl f_there)), (q_values, .inl (k_values, 38500, .inr (.inl f_values))), (aR, .inr (15, s1769))] := hD
          rcases hw with ⟨c1783, er1784⟩ | ⟨c1785, c1786, er1787⟩
          · exact (by exfalso; (try simp only [i_lt, i_le, i_eq, kc_0, kc_20, kc_24] at c1677 c1678 c1744 c1745 c1783); omega)
          · skip
            have qer1787 := er1787.symm
            subst qer1787
            refine lv_iadd hx hb dX12_make_65  ?_
            refine lv_topi (fun x1788 ex1788 => ?_)
            have tx1788 : x1788.toInt = (0 : Int32).toInt + (p1 : Int32).toInt := by rw [ex1788]; exact i_add (by have bd_p1 := i_bd p1; (try simp only [i_lt, i_le, i_eq, kc_0, kc_60] at c1765 c1768 ⊢); omega) (by have bd_p1 := i_bd p1; (try simp only [i_lt, i_le, i_eq, kc_0, kc_60] at c1765 c1768 ⊢); omega)
            refine lv_sipush (v := 4000) hx hb dX12_make_66 (by decide) ?_
            refine lv_icmp_le (tgt := 76) hx hb dX12_make_69 (by decide) (fun c1789 => ?_) (fun c1789 => (by exfalso; have bd_x1788 := i_bd x1788; (try simp only [i_lt, i_le, i_eq, kc_0, kc_60, kc_4000] at tx1788 c1765 c1768 c1789); omega))
            refine lv_iconst (v := 0) hx hb dX12_make_76 (by decide) ?_
            refine va_put (D := (dC, dI)) (ci := 15) (v := .int 0) (ty := .int) (C := RX12) (T := TX12) (N := 150) hx hb hts (in_n_make_X12) tyX12 tyX12_ok nmX12 hown hK hP hD hS 5 rfl rfl 0 (by decide) (hts (.fieldLink RX12 388 "HeapWorksModel" "thrown" "I") (by decide +kernel)) (fun _ h9 => h9) rfl (by decide +kernel) rfl rfl (by rw [o_s1769.2.1]; decide) dX12_make_77 (fun H locs hP hD hS => ?_)
            have hP : va_P (dC, dI) vwCl [(q_type, .inl (k_type, 400, .inl f_type)), (q_length, .inl (k_length, 400, .inl f_length)), (q_from, .inl (k_from, 400, .inl f_from)), (q_there, .inl (k_there, 400, .inl f_there)), (q_values, .inl (k_values, 38500, .inr (.inl f_values))), (aR, .inr (15, (s1769.set 0 (.int 0))))] H := hP
            have hD : va_D A [(q_type, .inl (k_type, 400, .inl f_type)), (q_length, .inl (k_length, 400, .inl f_length)), (q_from, .inl (k_from, 400, .inl f_from)), (q_there, .inl (k_there, 400, .inl f_there)), (q_values, .inl (k_values, 38500, .inr (.inl f_values))), (aR, .inr (15, (s1769.set 0 (.int 0))))] := hD
            have o_s1790 := ow_set o_s1769 0 (.int 0) (by decide) (l' := [(0, .int 0), (20, .int 0), (21, .ref q_type), (22, .ref q_length), (23, .ref q_from), (24, .ref q_there), (25, .ref q_values), (26, .int 0), (27, .int 0), (28, .int 0)]) (w' := [0]) rfl rfl
            generalize (s1769.set 0 (.int 0)) = s1790 at hP hD o_s1790
            refine lv_aload_n hx hb dX12_make_80 rfl (lv_at hl 0 rfl) ?_
            refine va_get (D := (dC, dI)) (ci := 15) (v := .int 0) (C := RX12) (T := TX12) (N := 150) hx hb hts (in_n_make_X12) hown hK hP 5 rfl rfl 0 (by decide) (hts (.fieldLink RX12 388 "HeapWorksModel" "thrown" "I") (by decide +kernel)) (fun _ h9 => h9) (ow_at o_s1790 0 rfl) dX12_make_81 ?_
            refine lv_if_le (tgt := 89) hx hb dX12_make_84 (by decide) (fun c1791 => ?_) (fun c1791 => absurd c1791 (by decide))
            refine lv_aload_n hx hb dX12_make_89 rfl (lv_at hl 0 rfl) ?_
            refine lv_iload_n hx hb dX12_make_90 rfl (lv_at hl 1 rfl) ?_
            have hPc := hP.sub (ws' := [(aR, .inr (15, s1790))]) [5] rfl
            have hDc := hD.sub (ws' := [(aR, .inr (15, s1790))]) [5] (by decide) rfl
            have hKc := hK.sub (tys' := []) [] rfl
            have hFc := va_free (wc := [(aR, .inr (15, s1790))]) hD hS hA [5] rfl
            refine va_calli (va_runV (As := [.int p0]) (rest := []) ⟨hx, hb, hml, hown, hts⟩ (z_X12_isClass l dC dI H.size aR s1790 p0 (fh_sub o_s1790.2 [1] rfl) ) (cwV 1 hts g_n_make_z_X12_isClass_416 rfl rfl rfl (by decide +kernel) ⟨Nat.le_of_ble_eq_true rfl, Nat.le_of_ble_eq_true rfl⟩) ⟨fun a U g mk q => by obtain ⟨q0, q1, qP, qK, qD⟩ := q; exact ⟨q0, q1, qP, va_K.moved (u := U) (U := U.calling g mk a) (Vm.Alike.refl U.vm) qK, qD⟩, va_recv hK hP (ci := 15) (q0 := 5) rfl rfl, fun U hU hW => ⟨rfl, by rw [hU], by rw [hU]; exact hPc, va_K.moved hW.alike hKc, hDc.weaken (fun _ _ _ _ => trivial)⟩⟩ rfl rfl hl.1 rfl (lv_room (Nat.le_of_ble_eq_true rfl)) dX12_make_91 ⟨Nat.le_of_ble_eq_true rfl, Nat.le_of_ble_eq_true rfl⟩) hS (fun q _ h => hFc q h) hFc (fun r1794 u t H1 locs ht hvm hw hB hz1 hk1 hS => ?_)
            obtain ⟨hP1, hK1, hD1⟩ := hB
            rw [ht] at hP1
            try dsimp only at hw
            obtain ⟨hP, hD⟩ := va_join (wr := [(q_type, .inl (k_type, 400, .inl f_type)), (q_length, .inl (k_length, 400, .inl f_length)), (q_from, .inl (k_from, 400, .inl f_from)), (q_there, .inl (k_there, 400, .inl f_there)), (q_values, .inl (k_values, 38500, .inr (.inl f_values)))]) (w1 := [(aR, .inr (15, s1790))]) hP hD [5] [0, 1, 2, 3, 4] rfl rfl (by decide) (by decide) hk1 hFc hP1 hD1
            have hK := hK.sub (tys' := [(k_type, .int), (k_length, .int), (k_from, .int), (k_there, .boolean), (k_values, .long)]) [0, 1, 2, 3, 4] rfl
            generalize H1 = H at hP hS ⊢
            have hP : va_P (dC, dI) vwCl [(q_type, .inl (k_type, 400, .inl f_type)), (q_length, .inl (k_length, 400, .inl f_length)), (q_from, .inl (k_from, 400, .inl f_from)), (q_there, .inl (k_there, 400, .inl f_there)), (q_values, .inl (k_values, 38500, .inr (.inl f_values))), (aR, .inr (15, s1790))] H := hP
            have hD : va_D A [(q_type, .inl (k_type, 400, .inl f_type)), (q_length, .inl (k_length, 400, .inl f_length)), (q_from, .inl (k_from, 400, .inl f_from)), (q_there, .inl (k_there, 400, .inl f_there)), (q_values, .inl (k_values, 38500, .inr (.inl f_values))), (aR, .inr (15, s1790))] := hD
            rcases hw with ⟨c1795, er1796⟩ | ⟨c1797, c1798, er1799⟩
            · exact (by exfalso; (try simp only [i_lt, i_le, i_eq, kc_0, kc_20, kc_24] at c1677 c1678 c1744 c1745 c1785 c1786 c1795); omega)
            · skip
              subst er1799
              refine lv_if_eq (tgt := 121) hx hb dX12_make_94 (by decide) (fun c1800 => ?_) (fun c1800 => absurd c1800 (by decide))
              refine lv_aload_n hx hb dX12_make_121 rfl (lv_at hl 0 rfl) ?_
              refine lv_iload_n hx hb dX12_make_122 rfl (lv_at hl 1 rfl) ?_
              refine lv_iload_n hx hb dX12_make_123 rfl (lv_at hl 2 rfl) ?_
              have hPc := hP.sub (ws' := [(q_type, .inl (k_type, 400, .inl f_type)), (q_length, .inl (k_length, 400, .inl f_length)), (q_from, .inl (k_from, 400, .inl f_from)), (q_there, .inl (k_there, 400, .inl f_there)), (q_values, .inl (k_values, 38500, .inr (.inl f_values))), (aR, .inr (15, s1790))]) [0, 1, 2, 3, 4, 5] rfl
              have hDc := hD.sub (ws' := [(q_type, .inl (k_type, 400, .inl f_type)), (q_length, .inl (k_length, 400, .inl f_length)), (q_from, .inl (k_from, 400, .inl f_from)), (q_there, .inl (k_there, 400, .inl f_there)), (q_values, .inl (k_values, 38500, .inr (.inl f_values))), (aR, .inr (15, s1790))]) [0, 1, 2, 3, 4, 5] (by decide) rfl
              have hKc := hK.sub (tys' := [(k_type, .int), (k_length, .int), (k_from, .int), (k_there, .boolean), (k_values, .long)]) [0, 1, 2, 3, 4] rfl
              have hFc := va_free (wc := [(q_type, .inl (k_type, 400, .inl f_type)), (q_length, .inl (k_length, 400, .inl f_length)), (q_from, .inl (k_from, 400, .inl f_from)), (q_there, .inl (k_there, 400, .inl f_there)), (q_values, .inl (k_values, 38500, .inr (.inl f_values))), (aR, .inr (15, s1790))]) hD hS hA [0, 1, 2, 3, 4, 5] rfl
              refine va_calli (va_runV (As := [.int p0, .int p1]) (rest := []) ⟨hx, hb, hml, hown, hts⟩ (z_X12_add l dC dI H.size q_type f_type k_type q_length f_length k_length q_from f_from k_from q_there f_there k_there q_values f_values k_values aR s1790 p0 p1 (fh_sub o_s1790.2 [1, 2, 3, 4, 5, 6, 7, 8, 9] rfl) hz_f_from hz_f_values (by (try simp only [i_lt, i_le, i_eq, kc_0, kc_20, kc_24] at c1677 c1678 c1744 c1745 c1785 c1786 c1797 c1798); omega) (by (try simp only [i_lt, i_le, i_eq, kc_0, kc_60, kc_4000] at c1765 c1768 tx1788 c1789); omega)) (cwV 2 hts g_n_make_z_X12_add_467 rfl rfl rfl (by decide +kernel) ⟨Nat.le_of_ble_eq_true rfl, Nat.le_of_ble_eq_true rfl⟩) ⟨fun a U g mk q => by obtain ⟨q0, q1, qP, qK, qD⟩ := q; exact ⟨q0, q1, qP, va_K.moved (u := U) (U := U.calling g mk a) (Vm.Alike.refl U.vm) qK, qD⟩, va_recv hK hP (ci := 15) (q0 := 5) rfl rfl, fun U hU hW => ⟨rfl, by rw [hU], by rw [hU]; exact hPc, va_K.moved hW.alike hKc, hDc.weaken (fun _ _ _ _ => trivial)⟩⟩ rfl rfl hl.1 rfl (lv_room (Nat.le_of_ble_eq_true rfl)) dX12_make_124 ⟨Nat.le_of_ble_eq_true rfl, Nat.le_of_ble_eq_true rfl⟩) hS (fun q _ h => hFc q h) hFc (fun r2014 u t H1 locs ht hvm hw hB hz1 hk1 hS => ?_)
              obtain ⟨f2015, f2016, f2017, f2018, f2019, s2020⟩ := u
              obtain ⟨hP1, hK1, hD1⟩ := hB
              rw [ht] at hP1
              try dsimp only at hw
              obtain ⟨hP, hD⟩ := va_join (wr := []) (w1 := [(q_type, .inl (k_type, 400, .inl f2015)), (q_length, .inl (k_length, 400, .inl f2016)), (q_from, .inl (k_from, 400, .inl f2017)), (q_there, .inl (k_there, 400, .inl f2018)), (q_values, .inl (k_values, 38500, .inr (.inl f2019))), (aR, .inr (15, s2020))]) hP hD [0, 1, 2, 3, 4, 5] [] rfl rfl (by decide) (by decide) hk1 hFc hP1 hD1
              have hK := hK.sub (tys' := [(k_type, .int), (k_length, .int), (k_from, .int), (k_there, .boolean), (k_values, .long)]) [0, 1, 2, 3, 4] rfl
              generalize H1 = H at hP hS ⊢
              have hP : va_P (dC, dI) vwCl [(q_type, .inl (k_type, 400, .inl f2015)), (q_length, .inl (k_length, 400, .inl f2016)), (q_from, .inl (k_from, 400, .inl f2017)), (q_there, .inl (k_there, 400, .inl f2018)), (q_values, .inl (k_values, 38500, .inr (.inl f2019))), (aR, .inr (15, s2020))] H := hP
              have hD : va_D A [(q_type, .inl (k_type, 400, .inl f2015)), (q_length, .inl (k_length, 400, .inl f2016)), (q_from, .inl (k_from, 400, .inl f2017)), (q_there, .inl (k_there, 400, .inl f2018)), (q_values, .inl (k_values, 38500, .inr (.inl f2019))), (aR, .inr (15, s2020))] := hD
              obtain ⟨c2021, c2022, c2023, c2024, er2025, o_s2020, q2026, q2027, q2028, q2029, q2030⟩ := hw
              subst er2025
              have o_s2020 := ow_on o_s1790 o_s2020 (l' := [(26, .int 1), (20, .int 0), (21, .ref q_type), (22, .ref q_length), (23, .ref q_from), (24, .ref q_there), (25, .ref q_values), (0, .int 0), (20, .int 0), (21, .ref q_type), (22, .ref q_length), (23, .ref q_from), (24, .ref q_there), (25, .ref q_values)]) (w' := [28, 27, 26, 0]) rfl rfl
              have hP9 := hP.sub (ws' := [(aR, .inr (15, s2020)), (q_type, .inl (k_type, 400, .inl f2015)), (q_length, .inl (k_length, 400, .inl f2016)), (q_from, .inl (k_from, 400, .inl f2017)), (q_there, .inl (k_there, 400, .inl f2018)), (q_values, .inl (k_values, 38500, .inr (.inl f2019)))]) [5, 0, 1, 2, 3, 4] rfl
              have hD9 := hD.sub (ws' := [(aR, .inr (15, s2020)), (q_type, .inl (k_type, 400, .inl f2015)), (q_length, .inl (k_length, 400, .inl f2016)), (q_from, .inl (k_from, 400, .inl f2017)), (q_there, .inl (k_there, 400, .inl f2018)), (q_values, .inl (k_values, 38500, .inr (.inl f2019)))]) [5, 0, 1, 2, 3, 4] (by decide) rfl
              have hK9 := hK.sub (tys' := [(k_type, .int), (k_length, .int), (k_from, .int), (k_there, .boolean), (k_values, .long)]) [0, 1, 2, 3, 4] rfl
              exact W.iret (v := 0) hx hb hr (fun t ht hW => ⟨⟨0, (s2020, f2015, f2016, f2017, f2018, f2019), rfl, (Or.inr (Or.inr (Or.inr (Or.inl ⟨c1677, c1678, c1744, c1745, c1765, c1768, c1785, c1786, c1797, c1798, c2021, c2022, c2023, c2024, rfl, o_s2020, q2026, q2027, q2028, q2029, q2030⟩)))), by rw [ht]; exact hP9, va_K.moved hW.alike hK9, hD9⟩, hS.F ht⟩) hS.2.2 dX12_make_127
        · skip
          refine lv_iconst (v := 1) hx hb dX12_make_27 (by decide) ?_
          refine lv_goto (tgt := 32) hx hb dX12_make_28 (by decide) ?_
          refine va_put (D := (dC, dI)) (ci := 15) (v := .int 1) (ty := .int) (C := RX12) (T := TX12) (N := 150) hx hb hts (in_n_make_X12) tyX12 tyX12_ok nmX12 hown hK hP hD hS 5 rfl rfl 0 (by decide) (hts (.fieldLink RX12 388 "HeapWorksModel" "thrown" "I") (by decide +kernel)) (fun _ h9 => h9) rfl (by decide +kernel) rfl rfl (by rw [o_fsR.2.1]; decide) dX12_make_32 (fun H locs hP hD hS => ?_)
          have hP : va_P (dC, dI) vwCl [(q_type, .inl (k_type, 400, .inl f_type)), (q_length, .inl (k_length, 400, .inl f_length)), (q_from, .inl (k_from, 400, .inl f_from)), (q_there, .inl (k_there, 400, .inl f_there)), (q_values, .inl (k_values, 38500, .inr (.inl f_values))), (aR, .inr (15, (fsR.set 0 (.int 1))))] H := hP
          have hD : va_D A [(q_type, .inl (k_type, 400, .inl f_type)), (q_length, .inl (k_length, 400, .inl f_length)), (q_from, .inl (k_from, 400, .inl f_from)), (q_there, .inl (k_there, 400, .inl f_there)), (q_values, .inl (k_values, 38500, .inr (.inl f_values))), (aR, .inr (15, (fsR.set 0 (.int 1))))] := hD
          have o_s2031 := ow_set o_fsR 0 (.int 1) (by decide) (l' := [(0, .int 1), (20, .int 0), (21, .ref q_type), (22, .ref q_length), (23, .ref q_from), (24, .ref q_there), (25, .ref q_values), (26, .int 0), (27, .int 0), (28, .int 0)]) (w' := [0]) rfl rfl
          generalize (fsR.set 0 (.int 1)) = s2031 at hP hD o_s2031
          refine lv_aload_n hx hb dX12_make_35 rfl (lv_at hl 0 rfl) ?_
          refine va_get (D := (dC, dI)) (ci := 15) (v := .int 1) (C := RX12) (T := TX12) (N := 150) hx hb hts (in_n_make_X12) hown hK hP 5 rfl rfl 0 (by decide) (hts (.fieldLink RX12 388 "HeapWorksModel" "thrown" "I") (by decide +kernel)) (fun _ h9 => h9) (ow_at o_s2031 0 rfl) dX12_make_36 ?_
          refine lv_if_le (tgt := 44) hx hb dX12_make_39 (by decide) (fun c2032 => absurd c2032 (by decide)) (fun c2032 => ?_)
          refine lv_iconst (v := 0) hx hb dX12_make_42 (by decide) ?_
          have hP9 := hP.sub (ws' := [(aR, .inr (15, s2031)), (q_type, .inl (k_type, 400, .inl f_type)), (q_length, .inl (k_length, 400, .inl f_length)), (q_from, .inl (k_from, 400, .inl f_from)), (q_there, .inl (k_there, 400, .inl f_there)), (q_values, .inl (k_values, 38500, .inr (.inl f_values)))]) [5, 0, 1, 2, 3, 4] rfl
          have hD9 := hD.sub (ws' := [(aR, .inr (15, s2031)), (q_type, .inl (k_type, 400, .inl f_type)), (q_length, .inl (k_length, 400, .inl f_length)), (q_from, .inl (k_from, 400, .inl f_from)), (q_there, .inl (k_there, 400, .inl f_there)), (q_values, .inl (k_values, 38500, .inr (.inl f_values)))]) [5, 0, 1, 2, 3, 4] (by decide) rfl
          have hK9 := hK.sub (tys' := [(k_type, .int), (k_length, .int), (k_from, .int), (k_there, .boolean), (k_values, .long)]) [0, 1, 2, 3, 4] rfl
          exact W.iret (v := 0) hx hb hr (fun t ht hW => ⟨⟨0, (s2031, f_type, f_length, f_from, f_there, f_values), rfl, (Or.inr (Or.inr (Or.inr (Or.inr (Or.inl ⟨c1677, c1678, c1744, c1745, c1765, c1768, rfl, o_s2031, hz_f_from, hz_f_values⟩))))), by rw [ht]; exact hP9, va_K.moved hW.alike hK9, hD9⟩, hS.F ht⟩) hS.2.2 dX12_make_43
    · skip
      subst er1750
      refine lv_if_eq (tgt := 27) hx hb dX12_make_14 (by decide) (fun c2033 => absurd c2033 (by decide)) (fun c2033 => ?_)
      refine lv_iload_n hx hb dX12_make_17 rfl (lv_at hl 2 rfl) ?_
      refine lv_if_lt (tgt := 27) hx hb dX12_make_18 (by decide) (fun c2034 => ?_) (fun c2034 => ?_)
      · skip
        refine lv_iconst (v := 1) hx hb dX12_make_27 (by decide) ?_
        refine lv_goto (tgt := 32) hx hb dX12_make_28 (by decide) ?_
        refine va_put (D := (dC, dI)) (ci := 15) (v := .int 1) (ty := .int) (C := RX12) (T := TX12) (N := 150) hx hb hts (in_n_make_X12) tyX12 tyX12_ok nmX12 hown hK hP hD hS 5 rfl rfl 0 (by decide) (hts (.fieldLink RX12 388 "HeapWorksModel" "thrown" "I") (by decide +kernel)) (fun _ h9 => h9) rfl (by decide +kernel) rfl rfl (by rw [o_fsR.2.1]; decide) dX12_make_32 (fun H locs hP hD hS => ?_)
        have hP : va_P (dC, dI) vwCl [(q_type, .inl (k_type, 400, .inl f_type)), (q_length, .inl (k_length, 400, .inl f_length)), (q_from, .inl (k_from, 400, .inl f_from)), (q_there, .inl (k_there, 400, .inl f_there)), (q_values, .inl (k_values, 38500, .inr (.inl f_values))), (aR, .inr (15, (fsR.set 0 (.int 1))))] H := hP
        have hD : va_D A [(q_type, .inl (k_type, 400, .inl f_type)), (q_length, .inl (k_length, 400, .inl f_length)), (q_from, .inl (k_from, 400, .inl f_from)), (q_there, .inl (k_there, 400, .inl f_there)), (q_values, .inl (k_values, 38500, .inr (.inl f_values))), (aR, .inr (15, (fsR.set 0 (.int 1))))] := hD
        have o_s2035 := ow_set o_fsR 0 (.int 1) (by decide) (l' := [(0, .int 1), (20, .int 0), (21, .ref q_type), (22, .ref q_length), (23, .ref q_from), (24, .ref q_there), (25, .ref q_values), (26, .int 0), (27, .int 0), (28, .int 0)]) (w' := [0]) rfl rfl
        generalize (fsR.set 0 (.int 1)) = s2035 at hP hD o_s2035
        refine lv_aload_n hx hb dX12_make_35 rfl (lv_at hl 0 rfl) ?_
        refine va_get (D := (dC, dI)) (ci := 15) (v := .int 1) (C := RX12) (T := TX12) (N := 150) hx hb hts (in_n_make_X12) hown hK hP 5 rfl rfl 0 (by decide) (hts (.fieldLink RX12 388 "HeapWorksModel" "thrown" "I") (by decide +kernel)) (fun _ h9 => h9) (ow_at o_s2035 0 rfl) dX12_make_36 ?_
        refine lv_if_le (tgt := 44) hx hb dX12_make_39 (by decide) (fun c2036 => absurd c2036 (by decide)) (fun c2036 => ?_)
        refine lv_iconst (v := 0) hx hb dX12_make_42 (by decide) ?_
        have hP9 := hP.sub (ws' := [(aR, .inr (15, s2035)), (q_type, .inl (k_type, 400, .inl f_type)), (q_length, .inl (k_length, 400, .inl f_length)), (q_from, .inl (k_from, 400, .inl f_from)), (q_there, .inl (k_there, 400, .inl f_there)), (q_values, .inl (k_values, 38500, .inr (.inl f_values)))]) [5, 0, 1, 2, 3, 4] rfl
        have hD9 := hD.sub (ws' := [(aR, .inr (15, s2035)), (q_type, .inl (k_type, 400, .inl f_type)), (q_length, .inl (k_length, 400, .inl f_length)), (q_from, .inl (k_from, 400, .inl f_from)), (q_there, .inl (k_there, 400, .inl f_there)), (q_values, .inl (k_values, 38500, .inr (.inl f_values)))]) [5, 0, 1, 2, 3, 4] (by decide) rfl
        have hK9 := hK.sub (tys' := [(k_type, .int), (k_length, .int), (k_from, .int), (k_there, .boolean), (k_values, .long)]) [0, 1, 2, 3, 4] rfl
        exact W.iret (v := 0) hx hb hr (fun t ht hW => ⟨⟨0, (s2035, f_type, f_length, f_from, f_there, f_values), rfl, (Or.inr (Or.inr (Or.inr (Or.inr (Or.inr (Or.inl ⟨c1677, c1678, c1747, c1748, c1749, c2034, rfl, o_s2035, hz_f_from, hz_f_values⟩)))))), by rw [ht]; exact hP9, va_K.moved hW.alike hK9, hD9⟩, hS.F ht⟩) hS.2.2 dX12_make_43
      · skip
        refine lv_iload_n hx hb dX12_make_21 rfl (lv_at hl 2 rfl) ?_
        refine lv_bipush (v := 60) hx hb dX12_make_22 (by decide) ?_
        refine lv_icmp_le (tgt := 31) hx hb dX12_make_24 (by decide) (fun c2037 => ?_) (fun c2037 => ?_)
        · skip
          refine lv_iconst (v := 0) hx hb dX12_make_31 (by decide) ?_
          refine va_put (D := (dC, dI)) (ci := 15) (v := .int 0) (ty := .int) (C := RX12) (T := TX12) (N := 150) hx hb hts (in_n_make_X12) tyX12 tyX12_ok nmX12 hown hK hP hD hS 5 rfl rfl 0 (by decide) (hts (.fieldLink RX12 388 "HeapWorksModel" "thrown" "I") (by decide +kernel)) (fun _ h9 => h9) rfl (by decide +kernel) rfl rfl (by rw [o_fsR.2.1]; decide) dX12_make_32 (fun H locs hP hD hS => ?_)
          have hP : va_P (dC, dI) vwCl [(q_type, .inl (k_type, 400, .inl f_type)), (q_length, .inl (k_length, 400, .inl f_length)), (q_from, .inl (k_from, 400, .inl f_from)), (q_there, .inl (k_there, 400, .inl f_there)), (q_values, .inl (k_values, 38500, .inr (.inl f_values))), (aR, .inr (15, (fsR.set 0 (.int 0))))] H := hP
          have hD : va_D A [(q_type, .inl (k_type, 400, .inl f_type)), (q_length, .inl (k_length, 400, .inl f_length)), (q_from, .inl (k_from, 400, .inl f_from)), (q_there, .inl (k_there, 400, .inl f_there)), (q_values, .inl (k_values, 38500, .inr (.inl f_values))), (aR, .inr (15, (fsR.set 0 (.int 0))))] := hD
          have o_s2038 := ow_set o_fsR 0 (.int 0) (by decide) (l' := [(0, .int 0), (20, .int 0), (21, .ref q_type), (22, .ref q_length), (23, .ref q_from), (24, .ref q_there), (25, .ref q_values), (26, .int 0), (27, .int 0), (28, .int 0)]) (w' := [0]) rfl rfl
          generalize (fsR.set 0 (.int 0)) = s2038 at hP hD o_s2038
          refine lv_aload_n hx hb dX12_make_35 rfl (lv_at hl 0 rfl) ?_
          refine va_get (D := (dC, dI)) (ci := 15) (v := .int 0) (C := RX12) (T := TX12) (N := 150) hx hb hts (in_n_make_X12) hown hK hP 5 rfl rfl 0 (by decide) (hts (.fieldLink RX12 388 "HeapWorksModel" "thrown" "I") (by decide +kernel)) (fun _ h9 => h9) (ow_at o_s2038 0 rfl) dX12_make_36 ?_
          refine lv_if_le (tgt := 44) hx hb dX12_make_39 (by decide) (fun c2039 => ?_) (fun c2039 => absurd c2039 (by decide))
          refine lv_aload_n hx hb dX12_make_44 rfl (lv_at hl 0 rfl) ?_
          refine lv_aload_n hx hb dX12_make_45 rfl (lv_at hl 0 rfl) ?_
          refine va_get (D := (dC, dI)) (ci := 15) (v := .int 0) (C := RX12) (T := TX12) (N := 150) hx hb hts (in_n_make_X12) hown hK hP 5 rfl rfl 26 (by decide) (hts (.fieldLink RX12 435 "HeapWorksModel" "objects" "I") (by decide +kernel)) (fun _ h9 => h9) (ow_at o_s2038 7 rfl) dX12_make_46 ?_
          refine lv_sipush (v := 400) hx hb dX12_make_49 (by decide) ?_
          refine lv_icmp_eq (tgt := 72) hx hb dX12_make_52 (by decide) (fun c2040 => absurd c2040 (by decide)) (fun c2040 => ?_)
          refine lv_aload_n hx hb dX12_make_55 rfl (lv_at hl 0 rfl) ?_
          refine va_get (D := (dC, dI)) (ci := 15) (v := .int 0) (C := RX12) (T := TX12) (N := 150) hx hb hts (in_n_make_X12) hown hK hP 5 rfl rfl 28 (by decide) (hts (.fieldLink RX12 461 "HeapWorksModel" "slotsThere" "I") (by decide +kernel)) (fun _ h9 => h9) (ow_at o_s2038 9 rfl) dX12_make_56 ?_
          refine lv_aload_n hx hb dX12_make_59 rfl (lv_at hl 0 rfl) ?_
          refine lv_iload_n hx hb dX12_make_60 rfl (lv_at hl 1 rfl) ?_
          refine lv_iload_n hx hb dX12_make_61 rfl (lv_at hl 2 rfl) ?_
          have hPc := hP.sub (ws' := [(aR, .inr (15, s2038))]) [5] rfl
          have hDc := hD.sub (ws' := [(aR, .inr (15, s2038))]) [5] (by decide) rfl
          have hKc := hK.sub (tys' := []) [] rfl
          have hFc := va_free (wc := [(aR, .inr (15, s2038))]) hD hS hA [5] rfl
          refine va_calli (va_runV (As := [.int p0, .int p1]) (rest := [.int 0, .ref aR]) ⟨hx, hb, hml, hown, hts⟩ (z_X12_slotCount l dC dI H.size aR s2038 p0 p1 (fh_sub o_s2038.2 [1] rfl) ) (cwV 2 hts g_n_make_z_X12_slotCount_455 rfl rfl rfl (by decide +kernel) ⟨Nat.le_of_ble_eq_true rfl, Nat.le_of_ble_eq_true rfl⟩) ⟨fun a U g mk q => by obtain ⟨q0, q1, qP, qK, qD⟩ := q; exact ⟨q0, q1, qP, va_K.moved (u := U) (U := U.calling g mk a) (Vm.Alike.refl U.vm) qK, qD⟩, va_recv hK hP (ci := 15) (q0 := 5) rfl rfl, fun U hU hW => ⟨rfl, by rw [hU], by rw [hU]; exact hPc, va_K.moved hW.alike hKc, hDc.weaken (fun _ _ _ _ => trivial)⟩⟩ rfl rfl hl.1 rfl (lv_room (Nat.le_of_ble_eq_true rfl)) dX12_make_62 ⟨Nat.le_of_ble_eq_true rfl, Nat.le_of_ble_eq_true rfl⟩) hS (fun q _ h => hFc q h) hFc (fun r2051 u t H1 locs ht hvm hw hB hz1 hk1 hS => ?_)
          obtain ⟨hP1, hK1, hD1⟩ := hB
          rw [ht] at hP1
          try dsimp only at hw
          obtain ⟨hP, hD⟩ := va_join (wr := [(q_type, .inl (k_type, 400, .inl f_type)), (q_length, .inl (k_length, 400, .inl f_length)), (q_from, .inl (k_from, 400, .inl f_from)), (q_there, .inl (k_there, 400, .inl f_there)), (q_values, .inl (k_values, 38500, .inr (.inl f_values)))]) (w1 := [(aR, .inr (15, s2038))]) hP hD [5] [0, 1, 2, 3, 4] rfl rfl (by decide) (by decide) hk1 hFc hP1 hD1
          have hK := hK.sub (tys' := [(k_type, .int), (k_length, .int), (k_from, .int), (k_there, .boolean), (k_values, .long)]) [0, 1, 2, 3, 4] rfl
          generalize H1 = H at hP hS ⊢
          have hP : va_P (dC, dI) vwCl [(q_type, .inl (k_type, 400, .inl f_type)), (q_length, .inl (k_length, 400, .inl f_length)), (q_from, .inl (k_from, 400, .inl f_from)), (q_there, .inl (k_there, 400, .inl f_there)), (q_values, .inl (k_values, 38500, .inr (.inl f_values))), (aR, .inr (15, s2038))] H := hP
          have hD : va_D A [(q_type, .inl (k_type, 400, .inl f_type)), (q_length, .inl (k_length, 400, .inl f_length)), (q_from, .inl (k_from, 400, .inl f_from)), (q_there, .inl (k_there, 400, .inl f_there)), (q_values, .inl (k_values, 38500, .inr (.inl f_values))), (aR, .inr (15, s2038))] := hD
          rcases hw with ⟨c2052, er2053⟩ | ⟨c2054, c2055, er2056⟩
          · exact (by exfalso; (try simp only [i_lt, i_le, i_eq, kc_0, kc_20, kc_24, kc_29] at c1677 c1678 c1747 c1748 c1749 c2052); omega)
          · skip
            have qer2056 := er2056.symm
            subst qer2056
            refine lv_iadd hx hb dX12_make_65  ?_
            refine lv_topi (fun x2057 ex2057 => ?_)
            have tx2057 : x2057.toInt = (0 : Int32).toInt + (p1 : Int32).toInt := by rw [ex2057]; exact i_add (by have bd_p1 := i_bd p1; (try simp only [i_lt, i_le, i_eq, kc_0, kc_60] at c2034 c2037 ⊢); omega) (by have bd_p1 := i_bd p1; (try simp only [i_lt, i_le, i_eq, kc_0, kc_60] at c2034 c2037 ⊢); omega)
            refine lv_sipush (v := 4000) hx hb dX12_make_66 (by decide) ?_
            refine lv_icmp_le (tgt := 76) hx hb dX12_make_69 (by decide) (fun c2058 => ?_) (fun c2058 => (by exfalso; have bd_x2057 := i_bd x2057; (try simp only [i_lt, i_le, i_eq, kc_0, kc_60, kc_4000] at tx2057 c2034 c2037 c2058); omega))
            refine lv_iconst (v := 0) hx hb dX12_make_76 (by decide) ?_
            refine va_put (D := (dC, dI)) (ci := 15) (v := .int 0) (ty := .int) (C := RX12) (T := TX12) (N := 150) hx hb hts (in_n_make_X12) tyX12 tyX12_ok nmX12 hown hK hP hD hS 5 rfl rfl 0 (by decide) (hts (.fieldLink RX12 388 "HeapWorksModel" "thrown" "I") (by decide +kernel)) (fun _ h9 => h9) rfl (by decide +kernel) rfl rfl (by rw [o_s2038.2.1]; decide) dX12_make_77 (fun H locs hP hD hS => ?_)
            have hP : va_P (dC, dI) vwCl [(q_type, .inl (k_type, 400, .inl f_type)), (q_length, .inl (k_length, 400, .inl f_length)), (q_from, .inl (k_from, 400, .inl f_from)), (q_there, .inl (k_there, 400, .inl f_there)), (q_values, .inl (k_values, 38500, .inr (.inl f_values))), (aR, .inr (15, (s2038.set 0 (.int 0))))] H := hP
            have hD : va_D A [(q_type, .inl (k_type, 400, .inl f_type)), (q_length, .inl (k_length, 400, .inl f_length)), (q_from, .inl (k_from, 400, .inl f_from)), (q_there, .inl (k_there, 400, .inl f_there)), (q_values, .inl (k_values, 38500, .inr (.inl f_values))), (aR, .inr (15, (s2038.set 0 (.int 0))))] := hD
            have o_s2059 := ow_set o_s2038 0 (.int 0) (by decide) (l' := [(0, .int 0), (20, .int 0), (21, .ref q_type), (22, .ref q_length), (23, .ref q_from), (24, .ref q_there), (25, .ref q_values), (26, .int 0), (27, .int 0), (28, .int 0)]) (w' := [0]) rfl rfl
            generalize (s2038.set 0 (.int 0)) = s2059 at hP hD o_s2059
            refine lv_aload_n hx hb dX12_make_80 rfl (lv_at hl 0 rfl) ?_
            refine va_get (D := (dC, dI)) (ci := 15) (v := .int 0) (C := RX12) (T := TX12) (N := 150) hx hb hts (in_n_make_X12) hown hK hP 5 rfl rfl 0 (by decide) (hts (.fieldLink RX12 388 "HeapWorksModel" "thrown" "I") (by decide +kernel)) (fun _ h9 => h9) (ow_at o_s2059 0 rfl) dX12_make_81 ?_
            refine lv_if_le (tgt := 89) hx hb dX12_make_84 (by decide) (fun c2060 => ?_) (fun c2060 => absurd c2060 (by decide))
            refine lv_aload_n hx hb dX12_make_89 rfl (lv_at hl 0 rfl) ?_
            refine lv_iload_n hx hb dX12_make_90 rfl (lv_at hl 1 rfl) ?_
            have hPc := hP.sub (ws' := [(aR, .inr (15, s2059))]) [5] rfl
            have hDc := hD.sub (ws' := [(aR, .inr (15, s2059))]) [5] (by decide) rfl
            have hKc := hK.sub (tys' := []) [] rfl
            have hFc := va_free (wc := [(aR, .inr (15, s2059))]) hD hS hA [5] rfl
            refine va_calli (va_runV (As := [.int p0]) (rest := []) ⟨hx, hb, hml, hown, hts⟩ (z_X12_isClass l dC dI H.size aR s2059 p0 (fh_sub o_s2059.2 [1] rfl) ) (cwV 1 hts g_n_make_z_X12_isClass_416 rfl rfl rfl (by decide +kernel) ⟨Nat.le_of_ble_eq_true rfl, Nat.le_of_ble_eq_true rfl⟩) ⟨fun a U g mk q => by obtain ⟨q0, q1, qP, qK, qD⟩ := q; exact ⟨q0, q1, qP, va_K.moved (u := U) (U := U.calling g mk a) (Vm.Alike.refl U.vm) qK, qD⟩, va_recv hK hP (ci := 15) (q0 := 5) rfl rfl, fun U hU hW => ⟨rfl, by rw [hU], by rw [hU]; exact hPc, va_K.moved hW.alike hKc, hDc.weaken (fun _ _ _ _ => trivial)⟩⟩ rfl rfl hl.1 rfl (lv_room (Nat.le_of_ble_eq_true rfl)) dX12_make_91 ⟨Nat.le_of_ble_eq_true rfl, Nat.le_of_ble_eq_true rfl⟩) hS (fun q _ h => hFc q h) hFc (fun r2063 u t H1 locs ht hvm hw hB hz1 hk1 hS => ?_)
            obtain ⟨hP1, hK1, hD1⟩ := hB
            rw [ht] at hP1
            try dsimp only at hw
            obtain ⟨hP, hD⟩ := va_join (wr := [(q_type, .inl (k_type, 400, .inl f_type)), (q_length, .inl (k_length, 400, .inl f_length)), (q_from, .inl (k_from, 400, .inl f_from)), (q_there, .inl (k_there, 400, .inl f_there)), (q_values, .inl (k_values, 38500, .inr (.inl f_values)))]) (w1 := [(aR, .inr (15, s2059))]) hP hD [5] [0, 1, 2, 3, 4] rfl rfl (by decide) (by decide) hk1 hFc hP1 hD1
            have hK := hK.sub (tys' := [(k_type, .int), (k_length, .int), (k_from, .int), (k_there, .boolean), (k_values, .long)]) [0, 1, 2, 3, 4] rfl
            generalize H1 = H at hP hS ⊢
            have hP : va_P (dC, dI) vwCl [(q_type, .inl (k_type, 400, .inl f_type)), (q_length, .inl (k_length, 400, .inl f_length)), (q_from, .inl (k_from, 400, .inl f_from)), (q_there, .inl (k_there, 400, .inl f_there)), (q_values, .inl (k_values, 38500, .inr (.inl f_values))), (aR, .inr (15, s2059))] H := hP
            have hD : va_D A [(q_type, .inl (k_type, 400, .inl f_type)), (q_length, .inl (k_length, 400, .inl f_length)), (q_from, .inl (k_from, 400, .inl f_from)), (q_there, .inl (k_there, 400, .inl f_there)), (q_values, .inl (k_values, 38500, .inr (.inl f_values))), (aR, .inr (15, s2059))] := hD
            rcases hw with ⟨c2064, er2065⟩ | ⟨c2066, c2067, er2068⟩
            · exact (by exfalso; (try simp only [i_lt, i_le, i_eq, kc_0, kc_20, kc_24, kc_29] at c1677 c1678 c1747 c1748 c1749 c2054 c2055 c2064); omega)
            · skip
              subst er2068
              refine lv_if_eq (tgt := 121) hx hb dX12_make_94 (by decide) (fun c2069 => ?_) (fun c2069 => absurd c2069 (by decide))
              refine lv_aload_n hx hb dX12_make_121 rfl (lv_at hl 0 rfl) ?_
              refine lv_iload_n hx hb dX12_make_122 rfl (lv_at hl 1 rfl) ?_
              refine lv_iload_n hx hb dX12_make_123 rfl (lv_at hl 2 rfl) ?_
              have hPc := hP.sub (ws' := [(q_type, .inl (k_type, 400, .inl f_type)), (q_length, .inl (k_length, 400, .inl f_length)), (q_from, .inl (k_from, 400, .inl f_from)), (q_there, .inl (k_there, 400, .inl f_there)), (q_values, .inl (k_values, 38500, .inr (.inl f_values))), (aR, .inr (15, s2059))]) [0, 1, 2, 3, 4, 5] rfl
              have hDc := hD.sub (ws' := [(q_type, .inl (k_type, 400, .inl f_type)), (q_length, .inl (k_length, 400, .inl f_length)), (q_from, .inl (k_from, 400, .inl f_from)), (q_there, .inl (k_there, 400, .inl f_there)), (q_values, .inl (k_values, 38500, .inr (.inl f_values))), (aR, .inr (15, s2059))]) [0, 1, 2, 3, 4, 5] (by decide) rfl
              have hKc := hK.sub (tys' := [(k_type, .int), (k_length, .int), (k_from, .int), (k_there, .boolean), (k_values, .long)]) [0, 1, 2, 3, 4] rfl
              have hFc := va_free (wc := [(q_type, .inl (k_type, 400, .inl f_type)), (q_length, .inl (k_length, 400, .inl f_length)), (q_from, .inl (k_from, 400, .inl f_from)), (q_there, .inl (k_there, 400, .inl f_there)), (q_values, .inl (k_values, 38500, .inr (.inl f_values))), (aR, .inr (15, s2059))]) hD hS hA [0, 1, 2, 3, 4, 5] rfl
              refine va_calli (va_runV (As := [.int p0, .int p1]) (rest := []) ⟨hx, hb, hml, hown, hts⟩ (z_X12_add_1 l dC dI H.size q_type f_type k_type q_length f_length k_length q_from f_from k_from q_there f_there k_there q_values f_values k_values aR s2059 p0 p1 (fh_sub o_s2059.2 [1, 2, 3, 4, 5, 6, 7, 8, 9] rfl) hz_f_from (by (try simp only [i_lt, i_le, i_eq, kc_0, kc_20, kc_24, kc_29] at c1677 c1678 c1747 c1748 c1749 c2054 c2055 c2066 c2067); omega) (by (try simp only [i_lt, i_le, i_eq, kc_0, kc_60, kc_4000] at c2034 c2037 tx2057 c2058); omega)) (cwV 2 hts g_n_make_z_X12_add_1_467 rfl rfl rfl (by decide +kernel) ⟨Nat.le_of_ble_eq_true rfl, Nat.le_of_ble_eq_true rfl⟩) ⟨fun a U g mk q => by obtain ⟨q0, q1, qP, qK, qD⟩ := q; exact ⟨q0, q1, qP, va_K.moved (u := U) (U := U.calling g mk a) (Vm.Alike.refl U.vm) qK, qD⟩, va_recv hK hP (ci := 15) (q0 := 5) rfl rfl, fun U hU hW => ⟨rfl, by rw [hU], by rw [hU]; exact hPc, va_K.moved hW.alike hKc, hDc.weaken (fun _ _ _ _ => trivial)⟩⟩ rfl rfl hl.1 rfl (lv_room (Nat.le_of_ble_eq_true rfl)) dX12_make_124 ⟨Nat.le_of_ble_eq_true rfl, Nat.le_of_ble_eq_true rfl⟩) hS (fun q _ h => hFc q h) hFc (fun r2273 u t H1 locs ht hvm hw hB hz1 hk1 hS => ?_)
              obtain ⟨f2274, f2275, f2276, f2277, f2278, s2279⟩ := u
              obtain ⟨hP1, hK1, hD1⟩ := hB
              rw [ht] at hP1
              try dsimp only at hw
              obtain ⟨hP, hD⟩ := va_join (wr := []) (w1 := [(q_type, .inl (k_type, 400, .inl f2274)), (q_length, .inl (k_length, 400, .inl f2275)), (q_from, .inl (k_from, 400, .inl f2276)), (q_there, .inl (k_there, 400, .inl f2277)), (q_values, .inl (k_values, 38500, .inr (.inl f2278))), (aR, .inr (15, s2279))]) hP hD [0, 1, 2, 3, 4, 5] [] rfl rfl (by decide) (by decide) hk1 hFc hP1 hD1
              have hK := hK.sub (tys' := [(k_type, .int), (k_length, .int), (k_from, .int), (k_there, .boolean), (k_values, .long)]) [0, 1, 2, 3, 4] rfl
              generalize H1 = H at hP hS ⊢
              have hP : va_P (dC, dI) vwCl [(q_type, .inl (k_type, 400, .inl f2274)), (q_length, .inl (k_length, 400, .inl f2275)), (q_from, .inl (k_from, 400, .inl f2276)), (q_there, .inl (k_there, 400, .inl f2277)), (q_values, .inl (k_values, 38500, .inr (.inl f2278))), (aR, .inr (15, s2279))] H := hP
              have hD : va_D A [(q_type, .inl (k_type, 400, .inl f2274)), (q_length, .inl (k_length, 400, .inl f2275)), (q_from, .inl (k_from, 400, .inl f2276)), (q_there, .inl (k_there, 400, .inl f2277)), (q_values, .inl (k_values, 38500, .inr (.inl f2278))), (aR, .inr (15, s2279))] := hD
              obtain ⟨c2280, c2281, c2282, c2283, er2284, o_s2279, q2285, q2286, q2287, q2288, q2289⟩ := hw
              subst er2284
              have o_s2279 := ow_on o_s2059 o_s2279 (l' := [(26, .int 1), (20, .int 0), (21, .ref q_type), (22, .ref q_length), (23, .ref q_from), (24, .ref q_there), (25, .ref q_values), (0, .int 0), (20, .int 0), (21, .ref q_type), (22, .ref q_length), (23, .ref q_from), (24, .ref q_there), (25, .ref q_values)]) (w' := [28, 27, 26, 0]) rfl rfl
              have hP9 := hP.sub (ws' := [(aR, .inr (15, s2279)), (q_type, .inl (k_type, 400, .inl f2274)), (q_length, .inl (k_length, 400, .inl f2275)), (q_from, .inl (k_from, 400, .inl f2276)), (q_there, .inl (k_there, 400, .inl f2277)), (q_values, .inl (k_values, 38500, .inr (.inl f2278)))]) [5, 0, 1, 2, 3, 4] rfl
              have hD9 := hD.sub (ws' := [(aR, .inr (15, s2279)), (q_type, .inl (k_type, 400, .inl f2274)), (q_length, .inl (k_length, 400, .inl f2275)), (q_from, .inl (k_from, 400, .inl f2276)), (q_there, .inl (k_there, 400, .inl f2277)), (q_values, .inl (k_values, 38500, .inr (.inl f2278)))]) [5, 0, 1, 2, 3, 4] (by decide) rfl
              have hK9 := hK.sub (tys' := [(k_type, .int), (k_length, .int), (k_from, .int), (k_there, .boolean), (k_values, .long)]) [0, 1, 2, 3, 4] rfl
              exact W.iret (v := 0) hx hb hr (fun t ht hW => ⟨⟨0, (s2279, f2274, f2275, f2276, f2277, f2278), rfl, (Or.inr (Or.inr (Or.inr (Or.inr (Or.inr (Or.inr (Or.inl ⟨c1677, c1678, c1747, c1748, c1749, c2034, c2037, c2054, c2055, c2066, c2067, c2280, c2281, c2282, c2283, rfl, o_s2279, q2285, q2286, q2287, q2288, q2289⟩))))))), by rw [ht]; exact hP9, va_K.moved hW.alike hK9, hD9⟩, hS.F ht⟩) hS.2.2 dX12_make_127
        · skip
          refine lv_iconst (v := 1) hx hb dX12_make_27 (by decide) ?_
          refine lv_goto (tgt := 32) hx hb dX12_make_28 (by decide) ?_
          refine va_put (D := (dC, dI)) (ci := 15) (v := .int 1) (ty := .int) (C := RX12) (T := TX12) (N := 150) hx hb hts (in_n_make_X12) tyX12 tyX12_ok nmX12 hown hK hP hD hS 5 rfl rfl 0 (by decide) (hts (.fieldLink RX12 388 "HeapWorksModel" "thrown" "I") (by decide +kernel)) (fun _ h9 => h9) rfl (by decide +kernel) rfl rfl (by rw [o_fsR.2.1]; decide) dX12_make_32 (fun H locs hP hD hS => ?_)
          have hP : va_P (dC, dI) vwCl [(q_type, .inl (k_type, 400, .inl f_type)), (q_length, .inl (k_length, 400, .inl f_length)), (q_from, .inl (k_from, 400, .inl f_from)), (q_there, .inl (k_there, 400, .inl f_there)), (q_values, .inl (k_values, 38500, .inr (.inl f_values))), (aR, .inr (15, (fsR.set 0 (.int 1))))] H := hP
          have hD : va_D A [(q_type, .inl (k_type, 400, .inl f_type)), (q_length, .inl (k_length, 400, .inl f_length)), (q_from, .inl (k_from, 400, .inl f_from)), (q_there, .inl (k_there, 400, .inl f_there)), (q_values, .inl (k_values, 38500, .inr (.inl f_values))), (aR, .inr (15, (fsR.set 0 (.int 1))))] := hD
          have o_s2290 := ow_set o_fsR 0 (.int 1) (by decide) (l' := [(0, .int 1), (20, .int 0), (21, .ref q_type), (22, .ref q_length), (23, .ref q_from), (24, .ref q_there), (25, .ref q_values), (26, .int 0), (27, .int 0), (28, .int 0)]) (w' := [0]) rfl rfl
          generalize (fsR.set 0 (.int 1)) = s2290 at hP hD o_s2290
          refine lv_aload_n hx hb dX12_make_35 rfl (lv_at hl 0 rfl) ?_
          refine va_get (D := (dC, dI)) (ci := 15) (v := .int 1) (C := RX12) (T := TX12) (N := 150) hx hb hts (in_n_make_X12) hown hK hP 5 rfl rfl 0 (by decide) (hts (.fieldLink RX12 388 "HeapWorksModel" "thrown" "I") (by decide +kernel)) (fun _ h9 => h9) (ow_at o_s2290 0 rfl) dX12_make_36 ?_
          refine lv_if_le (tgt := 44) hx hb dX12_make_39 (by decide) (fun c2291 => absurd c2291 (by decide)) (fun c2291 => ?_)
          refine lv_iconst (v := 0) hx hb dX12_make_42 (by decide) ?_
          have hP9 := hP.sub (ws' := [(aR, .inr (15, s2290)), (q_type, .inl (k_type, 400, .inl f_type)), (q_length, .inl (k_length, 400, .inl f_length)), (q_from, .inl (k_from, 400, .inl f_from)), (q_there, .inl (k_there, 400, .inl f_there)), (q_values, .inl (k_values, 38500, .inr (.inl f_values)))]) [5, 0, 1, 2, 3, 4] rfl
          have hD9 := hD.sub (ws' := [(aR, .inr (15, s2290)), (q_type, .inl (k_type, 400, .inl f_type)), (q_length, .inl (k_length, 400, .inl f_length)), (q_from, .inl (k_from, 400, .inl f_from)), (q_there, .inl (k_there, 400, .inl f_there)), (q_values, .inl (k_values, 38500, .inr (.inl f_values)))]) [5, 0, 1, 2, 3, 4] (by decide) rfl
          have hK9 := hK.sub (tys' := [(k_type, .int), (k_length, .int), (k_from, .int), (k_there, .boolean), (k_values, .long)]) [0, 1, 2, 3, 4] rfl
          exact W.iret (v := 0) hx hb hr (fun t ht hW => ⟨⟨0, (s2290, f_type, f_length, f_from, f_there, f_values), rfl, (Or.inr (Or.inr (Or.inr (Or.inr (Or.inr (Or.inr (Or.inr (Or.inl ⟨c1677, c1678, c1747, c1748, c1749, c2034, c2037, rfl, o_s2290, hz_f_from, hz_f_values⟩)))))))), by rw [ht]; exact hP9, va_K.moved hW.alike hK9, hD9⟩, hS.F ht⟩) hS.2.2 dX12_make_43
    · skip
      subst er1755
      refine lv_if_eq (tgt := 27) hx hb dX12_make_14 (by decide) (fun c2292 => ?_) (fun c2292 => absurd c2292 (by decide))
      refine lv_iconst (v := 1) hx hb dX12_make_27 (by decide) ?_
      refine lv_goto (tgt := 32) hx hb dX12_make_28 (by decide) ?_
      refine va_put (D := (dC, dI)) (ci := 15) (v := .int 1) (ty := .int) (C := RX12) (T := TX12) (N := 150) hx hb hts (in_n_make_X12) tyX12 tyX12_ok nmX12 hown hK hP hD hS 5 rfl rfl 0 (by decide) (hts (.fieldLink RX12 388 "HeapWorksModel" "thrown" "I") (by decide +kernel)) (fun _ h9 => h9) rfl (by decide +kernel) rfl rfl (by rw [o_fsR.2.1]; decide) dX12_make_32 (fun H locs hP hD hS => ?_)
      have hP : va_P (dC, dI) vwCl [(q_type, .inl (k_type, 400, .inl f_type)), (q_length, .inl (k_length, 400, .inl f_length)), (q_from, .inl (k_from, 400, .inl f_from)), (q_there, .inl (k_there, 400, .inl f_there)), (q_values, .inl (k_values, 38500, .inr (.inl f_values))), (aR, .inr (15, (fsR.set 0 (.int 1))))] H := hP
      have hD : va_D A [(q_type, .inl (k_type, 400, .inl f_type)), (q_length, .inl (k_length, 400, .inl f_length)), (q_from, .inl (k_from, 400, .inl f_from)), (q_there, .inl (k_there, 400, .inl f_there)), (q_values, .inl (k_values, 38500, .inr (.inl f_values))), (aR, .inr (15, (fsR.set 0 (.int 1))))] := hD
      have o_s2293 := ow_set o_fsR 0 (.int 1) (by decide) (l' := [(0, .int 1), (20, .int 0), (21, .ref q_type), (22, .ref q_length), (23, .ref q_from), (24, .ref q_there), (25, .ref q_values), (26, .int 0), (27, .int 0), (28, .int 0)]) (w' := [0]) rfl rfl
      generalize (fsR.set 0 (.int 1)) = s2293 at hP hD o_s2293
      refine lv_aload_n hx hb dX12_make_35 rfl (lv_at hl 0 rfl) ?_
      refine va_get (D := (dC, dI)) (ci := 15) (v := .int 1) (C := RX12) (T := TX12) (N := 150) hx hb hts (in_n_make_X12) hown hK hP 5 rfl rfl 0 (by decide) (hts (.fieldLink RX12 388 "HeapWorksModel" "thrown" "I") (by decide +kernel)) (fun _ h9 => h9) (ow_at o_s2293 0 rfl) dX12_make_36 ?_
      refine lv_if_le (tgt := 44) hx hb dX12_make_39 (by decide) (fun c2294 => absurd c2294 (by decide)) (fun c2294 => ?_)
      refine lv_iconst (v := 0) hx hb dX12_make_42 (by decide) ?_
      have hP9 := hP.sub (ws' := [(aR, .inr (15, s2293)), (q_type, .inl (k_type, 400, .inl f_type)), (q_length, .inl (k_length, 400, .inl f_length)), (q_from, .inl (k_from, 400, .inl f_from)), (q_there, .inl (k_there, 400, .inl f_there)), (q_values, .inl (k_values, 38500, .inr (.inl f_values)))]) [5, 0, 1, 2, 3, 4] rfl
      have hD9 := hD.sub (ws' := [(aR, .inr (15, s2293)), (q_type, .inl (k_type, 400, .inl f_type)), (q_length, .inl (k_length, 400, .inl f_length)), (q_from, .inl (k_from, 400, .inl f_from)), (q_there, .inl (k_there, 400, .inl f_there)), (q_values, .inl (k_values, 38500, .inr (.inl f_values)))]) [5, 0, 1, 2, 3, 4] (by decide) rfl
      have hK9 := hK.sub (tys' := [(k_type, .int), (k_length, .int), (k_from, .int), (k_there, .boolean), (k_values, .long)]) [0, 1, 2, 3, 4] rfl
      exact W.iret (v := 0) hx hb hr (fun t ht hW => ⟨⟨0, (s2293, f_type, f_length, f_from, f_there, f_values), rfl, (Or.inr (Or.inr (Or.inr (Or.inr (Or.inr (Or.inr (Or.inr (Or.inr (Or.inl ⟨c1677, c1678, c1751, c1752, c1753, c1754, rfl, o_s2293, hz_f_from, hz_f_values⟩))))))))), by rw [ht]; exact hP9, va_K.moved hW.alike hK9, hD9⟩, hS.F ht⟩) hS.2.2 dX12_make_43
    · skip
      subst er1760
      refine lv_if_eq (tgt := 27) hx hb dX12_make_14 (by decide) (fun c2295 => ?_) (fun c2295 => absurd c2295 (by decide))
      refine lv_iconst (v := 1) hx hb dX12_make_27 (by decide) ?_
      refine lv_goto (tgt := 32) hx hb dX12_make_28 (by decide) ?_
      refine va_put (D := (dC, dI)) (ci := 15) (v := .int 1) (ty := .int) (C := RX12) (T := TX12) (N := 150) hx hb hts (in_n_make_X12) tyX12 tyX12_ok nmX12 hown hK hP hD hS 5 rfl rfl 0 (by decide) (hts (.fieldLink RX12 388 "HeapWorksModel" "thrown" "I") (by decide +kernel)) (fun _ h9 => h9) rfl (by decide +kernel) rfl rfl (by rw [o_fsR.2.1]; decide) dX12_make_32 (fun H locs hP hD hS => ?_)
      have hP : va_P (dC, dI) vwCl [(q_type, .inl (k_type, 400, .inl f_type)), (q_length, .inl (k_length, 400, .inl f_length)), (q_from, .inl (k_from, 400, .inl f_from)), (q_there, .inl (k_there, 400, .inl f_there)), (q_values, .inl (k_values, 38500, .inr (.inl f_values))), (aR, .inr (15, (fsR.set 0 (.int 1))))] H := hP
      have hD : va_D A [(q_type, .inl (k_type, 400, .inl f_type)), (q_length, .inl (k_length, 400, .inl f_length)), (q_from, .inl (k_from, 400, .inl f_from)), (q_there, .inl (k_there, 400, .inl f_there)), (q_values, .inl (k_values, 38500, .inr (.inl f_values))), (aR, .inr (15, (fsR.set 0 (.int 1))))] := hD
      have o_s2296 := ow_set o_fsR 0 (.int 1) (by decide) (l' := [(0, .int 1), (20, .int 0), (21, .ref q_type), (22, .ref q_length), (23, .ref q_from), (24, .ref q_there), (25, .ref q_values), (26, .int 0), (27, .int 0), (28, .int 0)]) (w' := [0]) rfl rfl
      generalize (fsR.set 0 (.int 1)) = s2296 at hP hD o_s2296
      refine lv_aload_n hx hb dX12_make_35 rfl (lv_at hl 0 rfl) ?_
      refine va_get (D := (dC, dI)) (ci := 15) (v := .int 1) (C := RX12) (T := TX12) (N := 150) hx hb hts (in_n_make_X12) hown hK hP 5 rfl rfl 0 (by decide) (hts (.fieldLink RX12 388 "HeapWorksModel" "thrown" "I") (by decide +kernel)) (fun _ h9 => h9) (ow_at o_s2296 0 rfl) dX12_make_36 ?_
      refine lv_if_le (tgt := 44) hx hb dX12_make_39 (by decide) (fun c2297 => absurd c2297 (by decide)) (fun c2297 => ?_)
      refine lv_iconst (v := 0) hx hb dX12_make_42 (by decide) ?_
      have hP9 := hP.sub (ws' := [(aR, .inr (15, s2296)), (q_type, .inl (k_type, 400, .inl f_type)), (q_length, .inl (k_length, 400, .inl f_length)), (q_from, .inl (k_from, 400, .inl f_from)), (q_there, .inl (k_there, 400, .inl f_there)), (q_values, .inl (k_values, 38500, .inr (.inl f_values)))]) [5, 0, 1, 2, 3, 4] rfl
      have hD9 := hD.sub (ws' := [(aR, .inr (15, s2296)), (q_type, .inl (k_type, 400, .inl f_type)), (q_length, .inl (k_length, 400, .inl f_length)), (q_from, .inl (k_from, 400, .inl f_from)), (q_there, .inl (k_there, 400, .inl f_there)), (q_values, .inl (k_values, 38500, .inr (.inl f_values)))]) [5, 0, 1, 2, 3, 4] (by decide) rfl
      have hK9 := hK.sub (tys' := [(k_type, .int), (k_length, .int), (k_from, .int), (k_there, .boolean), (k_values, .long)]) [0, 1, 2, 3, 4] rfl
      exact W.iret (v := 0) hx hb hr (fun t ht hW => ⟨⟨0, (s2296, f_type, f_length, f_from, f_there, f_values), rfl, (Or.inr (Or.inr (Or.inr (Or.inr (Or.inr (Or.inr (Or.inr (Or.inr (Or.inr (⟨c1677, c1678, c1756, c1757, c1758, c1759, rfl, o_s2296, hz_f_from, hz_f_values⟩)))))))))), by rw [ht]; exact hP9, va_K.moved hW.alike hK9, hD9⟩, hS.F ht⟩) hS.2.2 dX12_make_43

def l_z_X12_isObject : List Cond := [.fieldLink RX12 435 "HeapWorksModel" "objects" "I"]
def w_z_X12_isObject : List Cond := .code yX12_isObject cX12_isObject 2 (some .boolean) :: (l_z_X12_isObject ++ (wsX120))
theorem in_z_X12_isObject_X12 : ∀ w ∈ wsX120, w ∈ w_z_X12_isObject := fun w h => List.mem_cons_of_mem _ (List.mem_append_right _ (h))
set_option maxHeartbeats 4000000 in
set_option maxRecDepth 100000 in
theorem z_X12_isObject (l : Launch) (dC : Nat → ClassId) (dI : Nat → Nat → Nat) (sz : Nat) (Ad0 : Nat) (Fs0 : List Value) (Va0 : Int32) (k_Fs0 : fh Fs0 150 [(26, .int 0)])  : Met l yX12_isObject w_z_X12_isObject ({ frames := 0, cells := 0, slots := 0, locals := 0 }) (va_Pc [.ref Ad0, .int Va0] (fun U => U.heap.size = sz ∧ Wd dC dI [] (fun _ => True) [(Ad0, .inr (15, Fs0))] U)) (va_Qi (fun (r : Int32) (u : Unit) => (Va0 < 0 ∧ r = 0) ∨ (¬ Va0 < 0 ∧ 0 ≤ Va0 ∧ r = 0)) (fun (u : Unit) t => Wd dC dI [] (va_A [(Ad0, .inr (15, Fs0))] sz) [(Ad0, .inr (15, Fs0))] t) (va_A [(Ad0, .inr (15, Fs0))] sz))  0 0 (va_A [(Ad0, .inr (15, Fs0))] sz) := by
  refine Met.ofW (cc := cX12_isObject) (maxL := 2) (ret := (some .boolean)) (by decide) rfl ?_
  intro p e s m args below meth c s₁ B hml hv
  obtain ⟨rfl, hsz, hP, hK, hD0⟩ := hv
  have hx := B.exec
  have hb := B.bytes
  have hr := B.returns
  have hts := atoms_spec (ws := w_z_X12_isObject) B.pre
  have hown : s.vm.findClass RX12 = some m.cls := findClass_of_methodNamed B.named
  have hlocks := B.notSynchronized
  subst hsz
  have hD := hD0.self (sz := s.heap.size)
  generalize hAe : va_A [(Ad0, .inr (15, Fs0))] s.heap.size = A at hD ⊢
  have hA : ∀ q : Nat, s.heap.size ≤ q → A q := fun q h => by rw [← hAe]; exact Or.inr h
  have hS : va_S A s.heap s.heap [] := va_S.rf
  have hl := lv_entry ([.ref Ad0, .int Va0]) (n := 2) (Nat.le_of_ble_eq_true rfl)
  rw [lg_entry_eq]
  generalize (lg_sl ([.ref Ad0, .int Va0]) ++ List.replicate (2 - (lg_sl ([.ref Ad0, .int Va0])).length) Slot.unset).toArray = ls at hl ⊢
  have hl : lv_has ls 2 [(0, .ref Ad0), (1, .int Va0)] := hl
  have o_Fs0 := ow_0 k_Fs0
  refine lv_iload_n hx hb dX12_isObject_0 rfl (lv_at hl 1 rfl) ?_
  refine lv_if_lt (tgt := 25) hx hb dX12_isObject_1 (by decide) (fun c2300 => ?_) (fun c2300 => ?_)
  · skip
    refine lv_iconst (v := 0) hx hb dX12_isObject_25 (by decide) ?_
    have hP9 := hP.sub (ws' := [(Ad0, .inr (15, Fs0))]) [0] rfl
    have hD9 := hD.sub (ws' := [(Ad0, .inr (15, Fs0))]) [0] (by decide) rfl
    have hK9 := hK.sub (tys' := []) [] rfl
    exact W.zret (v := 0) hx hb hr rfl (fun t ht hW => ⟨⟨0, (), rfl, (Or.inl ⟨c2300, rfl⟩), by rw [ht]; exact hP9, va_K.moved hW.alike hK9, hD9⟩, hS.F ht⟩) hS.2.2 dX12_isObject_26
  · skip
    refine lv_iload_n hx hb dX12_isObject_4 rfl (lv_at hl 1 rfl) ?_
    refine lv_aload_n hx hb dX12_isObject_5 rfl (lv_at hl 0 rfl) ?_
    refine va_get (D := (dC, dI)) (ci := 15) (v := .int 0) (C := RX12) (T := TX12) (N := 150) hx hb hts (in_z_X12_isObject_X12) hown hK hP 0 rfl rfl 26 (by decide) (hts (.fieldLink RX12 435 "HeapWorksModel" "objects" "I") (by decide +kernel)) (fun _ h9 => h9) (ow_at o_Fs0 0 rfl) dX12_isObject_6 ?_
    refine lv_icmp_ge (tgt := 25) hx hb dX12_isObject_9 (by decide) (fun c2301 => ?_) (fun c2301 => (by exfalso; have bd_Va0 := i_bd Va0; (try simp only [i_lt, i_le, i_eq, kc_0] at c2300 c2301); omega))
    refine lv_iconst (v := 0) hx hb dX12_isObject_25 (by decide) ?_
    have hP9 := hP.sub (ws' := [(Ad0, .inr (15, Fs0))]) [0] rfl
    have hD9 := hD.sub (ws' := [(Ad0, .inr (15, Fs0))]) [0] (by decide) rfl
    have hK9 := hK.sub (tys' := []) [] rfl
    exact W.zret (v := 0) hx hb hr rfl (fun t ht hW => ⟨⟨0, (), rfl, (Or.inr (⟨c2300, c2301, rfl⟩)), by rw [ht]; exact hP9, va_K.moved hW.alike hK9, hD9⟩, hS.F ht⟩) hS.2.2 dX12_isObject_26

def l_n_root : List Cond := [.methodLink RX12 473 yX12_isObject, .instanceMethod yX12_isObject, .selects RX12 yX12_isObject yX12_isObject, .initialized RX12, .fieldLink RX12 388 "HeapWorksModel" "thrown" "I", .code yX12_isObject cX12_isObject 2 (some .boolean), .fieldLink RX12 435 "HeapWorksModel" "objects" "I"]
def w_n_root : List Cond := .code yX12_root cX12_root 5 none :: (l_n_root ++ (wsX120))
theorem in_n_root_X12 : ∀ w ∈ wsX120, w ∈ w_n_root := fun w h => List.mem_cons_of_mem _ (List.mem_append_right _ (h))
theorem g_n_root_z_X12_isObject_473 : GoodIn w_n_root (wsV RX12 473 RX12 yX12_isObject w_z_X12_isObject) := goodIn_app (goodIn_sub (by decide +kernel) (by decide +kernel)) (goodIn_ca (goodIn_sub (by decide +kernel) (by decide +kernel)) (goodIn_in in_n_root_X12 gd_X12))
set_option maxHeartbeats 4000000 in
set_option maxRecDepth 100000 in
theorem n_root (l : Launch) (dC : Nat → ClassId) (dI : Nat → Nat → Nat) (sz : Nat) (aR : Nat) (fsR : List Value) (p0 : Int32) (p1 : Int32) (k_fsR : fh fsR 150 [(0, .int 0), (26, .int 0)])  : Met l yX12_root w_n_root ({ frames := 1, cells := 0, slots := 0, locals := 21 }) (va_Pc [.ref aR, .int p0, .int p1] (fun U => U.heap.size = sz ∧ Wd dC dI [] (fun _ => True) [(aR, .inr (15, fsR))] U)) (va_Qv (fun (u : List Value) => (p0 < 0 ∧ ow fsR (u) 150 [0] [(0, .int 1), (26, .int 0)]) ∨ (¬ p0 < 0 ∧ 0 ≤ p0 ∧ ow fsR (u) 150 [0] [(0, .int 1), (26, .int 0)])) (fun (u : List Value) t => Wd dC dI [] (va_A [(aR, .inr (15, fsR))] sz) [(aR, .inr (15, (u)))] t) (va_A [(aR, .inr (15, fsR))] sz))  0 0 (va_A [(aR, .inr (15, fsR))] sz) := by
  refine Met.ofW (cc := cX12_root) (maxL := 5) (ret := none) (by decide) rfl ?_
  intro p e s m args below meth c s₁ B hml hv
  obtain ⟨rfl, hsz, hP, hK, hD0⟩ := hv
  have hx := B.exec
  have hb := B.bytes
  have hr := B.returns
  have hts := atoms_spec (ws := w_n_root) B.pre
  have hown : s.vm.findClass RX12 = some m.cls := findClass_of_methodNamed B.named
  have hlocks := B.notSynchronized
  subst hsz
  have hD := hD0.self (sz := s.heap.size)
  generalize hAe : va_A [(aR, .inr (15, fsR))] s.heap.size = A at hD ⊢
  have hA : ∀ q : Nat, s.heap.size ≤ q → A q := fun q h => by rw [← hAe]; exact Or.inr h
  have hS : va_S A s.heap s.heap [] := va_S.rf
  have hl := lv_entry ([.ref aR, .int p0, .int p1]) (n := 5) (Nat.le_of_ble_eq_true rfl)
  rw [lg_entry_eq]
  generalize (lg_sl ([.ref aR, .int p0, .int p1]) ++ List.replicate (5 - (lg_sl ([.ref aR, .int p0, .int p1])).length) Slot.unset).toArray = ls at hl ⊢
  have hl : lv_has ls 5 [(0, .ref aR), (1, .int p0), (2, .int p1)] := hl
  have o_fsR := ow_0 k_fsR
  refine lv_aload_n hx hb dX12_root_0 rfl (lv_at hl 0 rfl) ?_
  refine lv_aload_n hx hb dX12_root_1 rfl (lv_at hl 0 rfl) ?_
  refine lv_iload_n hx hb dX12_root_2 rfl (lv_at hl 1 rfl) ?_
  have hPc := hP.sub (ws' := [(aR, .inr (15, fsR))]) [0] rfl
  have hDc := hD.sub (ws' := [(aR, .inr (15, fsR))]) [0] (by decide) rfl
  have hKc := hK.sub (tys' := []) [] rfl
  have hFc := va_free (wc := [(aR, .inr (15, fsR))]) hD hS hA [0] rfl
  refine va_calli (va_runV (As := [.int p0]) (rest := [.ref aR]) ⟨hx, hb, hml, hown, hts⟩ (z_X12_isObject l dC dI s.heap.size aR fsR p0 (fh_sub o_fsR.2 [1] rfl) ) (cwV 1 hts g_n_root_z_X12_isObject_473 rfl rfl rfl (by decide +kernel) ⟨Nat.le_of_ble_eq_true rfl, Nat.le_of_ble_eq_true rfl⟩) ⟨fun a U g mk q => by obtain ⟨q0, q1, qP, qK, qD⟩ := q; exact ⟨q0, q1, qP, va_K.moved (u := U) (U := U.calling g mk a) (Vm.Alike.refl U.vm) qK, qD⟩, va_recv hK hP (ci := 15) (q0 := 0) rfl rfl, fun U hU hW => ⟨rfl, by rw [hU], by rw [hU]; exact hPc, va_K.moved hW.alike hKc, hDc.weaken (fun _ _ _ _ => trivial)⟩⟩ rfl rfl hl.1 rfl (lv_room (Nat.le_of_ble_eq_true rfl)) dX12_root_3 ⟨Nat.le_of_ble_eq_true rfl, Nat.le_of_ble_eq_true rfl⟩) hS (fun q _ h => hFc q h) hFc (fun r2316 u t H1 locs ht hvm hw hB hz1 hk1 hS => ?_)
  obtain ⟨hP1, hK1, hD1⟩ := hB
  rw [ht] at hP1
  try dsimp only at hw
  obtain ⟨hP, hD⟩ := va_join (wr := []) (w1 := [(aR, .inr (15, fsR))]) hP hD [0] [] rfl rfl (by decide) (by decide) hk1 hFc hP1 hD1
  have hK := hK.sub (tys' := []) [] rfl
  generalize H1 = H at hP hS ⊢
  have hP : va_P (dC, dI) vwCl [(aR, .inr (15, fsR))] H := hP
  have hD : va_D A [(aR, .inr (15, fsR))] := hD
  rcases hw with ⟨c2317, er2318⟩ | ⟨c2319, c2320, er2321⟩
  · skip
    subst er2318
    refine lv_if_eq (tgt := 13) hx hb dX12_root_6 (by decide) (fun c2322 => ?_) (fun c2322 => absurd c2322 (by decide))
    refine lv_iconst (v := 1) hx hb dX12_root_13 (by decide) ?_
    refine va_put (D := (dC, dI)) (ci := 15) (v := .int 1) (ty := .int) (C := RX12) (T := TX12) (N := 150) hx hb hts (in_n_root_X12) tyX12 tyX12_ok nmX12 hown hK hP hD hS 0 rfl rfl 0 (by decide) (hts (.fieldLink RX12 388 "HeapWorksModel" "thrown" "I") (by decide +kernel)) (fun _ h9 => h9) rfl (by decide +kernel) rfl rfl (by rw [o_fsR.2.1]; decide) dX12_root_14 (fun H locs hP hD hS => ?_)
    have hP : va_P (dC, dI) vwCl [(aR, .inr (15, (fsR.set 0 (.int 1))))] H := hP
    have hD : va_D A [(aR, .inr (15, (fsR.set 0 (.int 1))))] := hD
    have o_s2323 := ow_set o_fsR 0 (.int 1) (by decide) (l' := [(0, .int 1), (26, .int 0)]) (w' := [0]) rfl rfl
    generalize (fsR.set 0 (.int 1)) = s2323 at hP hD o_s2323
    refine lv_aload_n hx hb dX12_root_17 rfl (lv_at hl 0 rfl) ?_
    refine va_get (D := (dC, dI)) (ci := 15) (v := .int 1) (C := RX12) (T := TX12) (N := 150) hx hb hts (in_n_root_X12) hown hK hP 0 rfl rfl 0 (by decide) (hts (.fieldLink RX12 388 "HeapWorksModel" "thrown" "I") (by decide +kernel)) (fun _ h9 => h9) (ow_at o_s2323 0 rfl) dX12_root_18 ?_
    refine lv_if_le (tgt := 25) hx hb dX12_root_21 (by decide) (fun c2324 => absurd c2324 (by decide)) (fun c2324 => ?_)
    have hP9 := hP.sub (ws' := [(aR, .inr (15, s2323))]) [0] rfl
    have hD9 := hD.sub (ws' := [(aR, .inr (15, s2323))]) [0] (by decide) rfl
    have hK9 := hK.sub (tys' := []) [] rfl
    exact W.vret hx hb hr (fun t ht hW => ⟨⟨s2323, rfl, (Or.inl ⟨c2317, o_s2323⟩), by rw [ht]; exact hP9, va_K.moved hW.alike hK9, hD9⟩, hS.F ht⟩) hS.2.2 dX12_root_24
  · skip
    subst er2321
    refine lv_if_eq (tgt := 13) hx hb dX12_root_6 (by decide) (fun c2325 => ?_) (fun c2325 => absurd c2325 (by decide))
    refine lv_iconst (v := 1) hx hb dX12_root_13 (by decide) ?_
    refine va_put (D := (dC, dI)) (ci := 15) (v := .int 1) (ty := .int) (C := RX12) (T := TX12) (N := 150) hx hb hts (in_n_root_X12) tyX12 tyX12_ok nmX12 hown hK hP hD hS 0 rfl rfl 0 (by decide) (hts (.fieldLink RX12 388 "HeapWorksModel" "thrown" "I") (by decide +kernel)) (fun _ h9 => h9) rfl (by decide +kernel) rfl rfl (by rw [o_fsR.2.1]; decide) dX12_root_14 (fun H locs hP hD hS => ?_)
    have hP : va_P (dC, dI) vwCl [(aR, .inr (15, (fsR.set 0 (.int 1))))] H := hP
    have hD : va_D A [(aR, .inr (15, (fsR.set 0 (.int 1))))] := hD
    have o_s2326 := ow_set o_fsR 0 (.int 1) (by decide) (l' := [(0, .int 1), (26, .int 0)]) (w' := [0]) rfl rfl
    generalize (fsR.set 0 (.int 1)) = s2326 at hP hD o_s2326
    refine lv_aload_n hx hb dX12_root_17 rfl (lv_at hl 0 rfl) ?_
    refine va_get (D := (dC, dI)) (ci := 15) (v := .int 1) (C := RX12) (T := TX12) (N := 150) hx hb hts (in_n_root_X12) hown hK hP 0 rfl rfl 0 (by decide) (hts (.fieldLink RX12 388 "HeapWorksModel" "thrown" "I") (by decide +kernel)) (fun _ h9 => h9) (ow_at o_s2326 0 rfl) dX12_root_18 ?_
    refine lv_if_le (tgt := 25) hx hb dX12_root_21 (by decide) (fun c2327 => absurd c2327 (by decide)) (fun c2327 => ?_)
    have hP9 := hP.sub (ws' := [(aR, .inr (15, s2326))]) [0] rfl
    have hD9 := hD.sub (ws' := [(aR, .inr (15, s2326))]) [0] (by decide) rfl
    have hK9 := hK.sub (tys' := []) [] rfl
    exact W.vret hx hb hr (fun t ht hW => ⟨⟨s2326, rfl, (Or.inr (⟨c2319, c2320, o_s2326⟩)), by rw [ht]; exact hP9, va_K.moved hW.alike hK9, hD9⟩, hS.F ht⟩) hS.2.2 dX12_root_24

def l_n_set : List Cond := [.methodLink RX12 473 yX12_isObject, .instanceMethod yX12_isObject, .selects RX12 yX12_isObject yX12_isObject, .initialized RX12, .fieldLink RX12 388 "HeapWorksModel" "thrown" "I", .code yX12_isObject cX12_isObject 2 (some .boolean), .fieldLink RX12 435 "HeapWorksModel" "objects" "I"]
def w_n_set : List Cond := .code yX12_set cX12_set 5 (some .int) :: (l_n_set ++ (wsX120))
theorem in_n_set_X12 : ∀ w ∈ wsX120, w ∈ w_n_set := fun w h => List.mem_cons_of_mem _ (List.mem_append_right _ (h))
theorem g_n_set_z_X12_isObject_473 : GoodIn w_n_set (wsV RX12 473 RX12 yX12_isObject w_z_X12_isObject) := goodIn_app (goodIn_sub (by decide +kernel) (by decide +kernel)) (goodIn_ca (goodIn_sub (by decide +kernel) (by decide +kernel)) (goodIn_in in_n_set_X12 gd_X12))
set_option maxHeartbeats 4000000 in
set_option maxRecDepth 100000 in
theorem n_set (l : Launch) (dC : Nat → ClassId) (dI : Nat → Nat → Nat) (sz : Nat) (aR : Nat) (fsR : List Value) (p0 : Int32) (p1 : Int32) (p2 : Int64) (k_fsR : fh fsR 150 [(0, .int 0), (26, .int 0)])  : Met l yX12_set w_n_set ({ frames := 1, cells := 0, slots := 0, locals := 21 }) (va_Pc [.ref aR, .int p0, .int p1, .long p2] (fun U => U.heap.size = sz ∧ Wd dC dI [] (fun _ => True) [(aR, .inr (15, fsR))] U)) (va_Qi (fun (r : Int32) (u : List Value) => (p0 < 0 ∧ r = 0 ∧ ow fsR (u) 150 [0] [(0, .int 1), (26, .int 0)]) ∨ (¬ p0 < 0 ∧ 0 ≤ p0 ∧ r = 0 ∧ ow fsR (u) 150 [0] [(0, .int 1), (26, .int 0)])) (fun (u : List Value) t => Wd dC dI [] (va_A [(aR, .inr (15, fsR))] sz) [(aR, .inr (15, (u)))] t) (va_A [(aR, .inr (15, fsR))] sz))  0 0 (va_A [(aR, .inr (15, fsR))] sz) := by
  refine Met.ofW (cc := cX12_set) (maxL := 5) (ret := (some .int)) (by decide) rfl ?_
  intro p e s m args below meth c s₁ B hml hv
  obtain ⟨rfl, hsz, hP, hK, hD0⟩ := hv
  have hx := B.exec
  have hb := B.bytes
  have hr := B.returns
  have hts := atoms_spec (ws := w_n_set) B.pre
  have hown : s.vm.findClass RX12 = some m.cls := findClass_of_methodNamed B.named
  have hlocks := B.notSynchronized
  subst hsz
  have hD := hD0.self (sz := s.heap.size)
  generalize hAe : va_A [(aR, .inr (15, fsR))] s.heap.size = A at hD ⊢
  have hA : ∀ q : Nat, s.heap.size ≤ q → A q := fun q h => by rw [← hAe]; exact Or.inr h
  have hS : va_S A s.heap s.heap [] := va_S.rf
  have hl := lv_entry ([.ref aR, .int p0, .int p1, .long p2]) (n := 5) (Nat.le_of_ble_eq_true rfl)
  rw [lg_entry_eq]
  generalize (lg_sl ([.ref aR, .int p0, .int p1, .long p2]) ++ List.replicate (5 - (lg_sl ([.ref aR, .int p0, .int p1, .long p2])).length) Slot.unset).toArray = ls at hl ⊢
  have hl : lv_has ls 5 [(0, .ref aR), (1, .int p0), (2, .int p1), (3, .long p2)] := hl
  have o_fsR := ow_0 k_fsR
  refine lv_aload_n hx hb dX12_set_0 rfl (lv_at hl 0 rfl) ?_
  refine lv_aload_n hx hb dX12_set_1 rfl (lv_at hl 0 rfl) ?_
  refine lv_iload_n hx hb dX12_set_2 rfl (lv_at hl 1 rfl) ?_
  have hPc := hP.sub (ws' := [(aR, .inr (15, fsR))]) [0] rfl
  have hDc := hD.sub (ws' := [(aR, .inr (15, fsR))]) [0] (by decide) rfl
  have hKc := hK.sub (tys' := []) [] rfl
  have hFc := va_free (wc := [(aR, .inr (15, fsR))]) hD hS hA [0] rfl
  refine va_calli (va_runV (As := [.int p0]) (rest := [.ref aR]) ⟨hx, hb, hml, hown, hts⟩ (z_X12_isObject l dC dI s.heap.size aR fsR p0 (fh_sub o_fsR.2 [1] rfl) ) (cwV 1 hts g_n_set_z_X12_isObject_473 rfl rfl rfl (by decide +kernel) ⟨Nat.le_of_ble_eq_true rfl, Nat.le_of_ble_eq_true rfl⟩) ⟨fun a U g mk q => by obtain ⟨q0, q1, qP, qK, qD⟩ := q; exact ⟨q0, q1, qP, va_K.moved (u := U) (U := U.calling g mk a) (Vm.Alike.refl U.vm) qK, qD⟩, va_recv hK hP (ci := 15) (q0 := 0) rfl rfl, fun U hU hW => ⟨rfl, by rw [hU], by rw [hU]; exact hPc, va_K.moved hW.alike hKc, hDc.weaken (fun _ _ _ _ => trivial)⟩⟩ rfl rfl hl.1 rfl (lv_room (Nat.le_of_ble_eq_true rfl)) dX12_set_3 ⟨Nat.le_of_ble_eq_true rfl, Nat.le_of_ble_eq_true rfl⟩) hS (fun q _ h => hFc q h) hFc (fun r2344 u t H1 locs ht hvm hw hB hz1 hk1 hS => ?_)
  obtain ⟨hP1, hK1, hD1⟩ := hB
  rw [ht] at hP1
  try dsimp only at hw
  obtain ⟨hP, hD⟩ := va_join (wr := []) (w1 := [(aR, .inr (15, fsR))]) hP hD [0] [] rfl rfl (by decide) (by decide) hk1 hFc hP1 hD1
  have hK := hK.sub (tys' := []) [] rfl
  generalize H1 = H at hP hS ⊢
  have hP : va_P (dC, dI) vwCl [(aR, .inr (15, fsR))] H := hP
  have hD : va_D A [(aR, .inr (15, fsR))] := hD
  rcases hw with ⟨c2345, er2346⟩ | ⟨c2347, c2348, er2349⟩
  · skip
    subst er2346
    refine lv_if_eq (tgt := 33) hx hb dX12_set_6 (by decide) (fun c2350 => ?_) (fun c2350 => absurd c2350 (by decide))
    refine lv_iconst (v := 1) hx hb dX12_set_33 (by decide) ?_
    refine lv_goto (tgt := 38) hx hb dX12_set_34 (by decide) ?_
    refine va_put (D := (dC, dI)) (ci := 15) (v := .int 1) (ty := .int) (C := RX12) (T := TX12) (N := 150) hx hb hts (in_n_set_X12) tyX12 tyX12_ok nmX12 hown hK hP hD hS 0 rfl rfl 0 (by decide) (hts (.fieldLink RX12 388 "HeapWorksModel" "thrown" "I") (by decide +kernel)) (fun _ h9 => h9) rfl (by decide +kernel) rfl rfl (by rw [o_fsR.2.1]; decide) dX12_set_38 (fun H locs hP hD hS => ?_)
    have hP : va_P (dC, dI) vwCl [(aR, .inr (15, (fsR.set 0 (.int 1))))] H := hP
    have hD : va_D A [(aR, .inr (15, (fsR.set 0 (.int 1))))] := hD
    have o_s2351 := ow_set o_fsR 0 (.int 1) (by decide) (l' := [(0, .int 1), (26, .int 0)]) (w' := [0]) rfl rfl
    generalize (fsR.set 0 (.int 1)) = s2351 at hP hD o_s2351
    refine lv_aload_n hx hb dX12_set_41 rfl (lv_at hl 0 rfl) ?_
    refine va_get (D := (dC, dI)) (ci := 15) (v := .int 1) (C := RX12) (T := TX12) (N := 150) hx hb hts (in_n_set_X12) hown hK hP 0 rfl rfl 0 (by decide) (hts (.fieldLink RX12 388 "HeapWorksModel" "thrown" "I") (by decide +kernel)) (fun _ h9 => h9) (ow_at o_s2351 0 rfl) dX12_set_42 ?_
    refine lv_if_le (tgt := 50) hx hb dX12_set_45 (by decide) (fun c2352 => absurd c2352 (by decide)) (fun c2352 => ?_)
    refine lv_iconst (v := 0) hx hb dX12_set_48 (by decide) ?_
    have hP9 := hP.sub (ws' := [(aR, .inr (15, s2351))]) [0] rfl
    have hD9 := hD.sub (ws' := [(aR, .inr (15, s2351))]) [0] (by decide) rfl
    have hK9 := hK.sub (tys' := []) [] rfl
    exact W.iret (v := 0) hx hb hr (fun t ht hW => ⟨⟨0, s2351, rfl, (Or.inl ⟨c2345, rfl, o_s2351⟩), by rw [ht]; exact hP9, va_K.moved hW.alike hK9, hD9⟩, hS.F ht⟩) hS.2.2 dX12_set_49
  · skip
    subst er2349
    refine lv_if_eq (tgt := 33) hx hb dX12_set_6 (by decide) (fun c2353 => ?_) (fun c2353 => absurd c2353 (by decide))
    refine lv_iconst (v := 1) hx hb dX12_set_33 (by decide) ?_
    refine lv_goto (tgt := 38) hx hb dX12_set_34 (by decide) ?_
    refine va_put (D := (dC, dI)) (ci := 15) (v := .int 1) (ty := .int) (C := RX12) (T := TX12) (N := 150) hx hb hts (in_n_set_X12) tyX12 tyX12_ok nmX12 hown hK hP hD hS 0 rfl rfl 0 (by decide) (hts (.fieldLink RX12 388 "HeapWorksModel" "thrown" "I") (by decide +kernel)) (fun _ h9 => h9) rfl (by decide +kernel) rfl rfl (by rw [o_fsR.2.1]; decide) dX12_set_38 (fun H locs hP hD hS => ?_)
    have hP : va_P (dC, dI) vwCl [(aR, .inr (15, (fsR.set 0 (.int 1))))] H := hP
    have hD : va_D A [(aR, .inr (15, (fsR.set 0 (.int 1))))] := hD
    have o_s2354 := ow_set o_fsR 0 (.int 1) (by decide) (l' := [(0, .int 1), (26, .int 0)]) (w' := [0]) rfl rfl
    generalize (fsR.set 0 (.int 1)) = s2354 at hP hD o_s2354
    refine lv_aload_n hx hb dX12_set_41 rfl (lv_at hl 0 rfl) ?_
    refine va_get (D := (dC, dI)) (ci := 15) (v := .int 1) (C := RX12) (T := TX12) (N := 150) hx hb hts (in_n_set_X12) hown hK hP 0 rfl rfl 0 (by decide) (hts (.fieldLink RX12 388 "HeapWorksModel" "thrown" "I") (by decide +kernel)) (fun _ h9 => h9) (ow_at o_s2354 0 rfl) dX12_set_42 ?_
    refine lv_if_le (tgt := 50) hx hb dX12_set_45 (by decide) (fun c2355 => absurd c2355 (by decide)) (fun c2355 => ?_)
    refine lv_iconst (v := 0) hx hb dX12_set_48 (by decide) ?_
    have hP9 := hP.sub (ws' := [(aR, .inr (15, s2354))]) [0] rfl
    have hD9 := hD.sub (ws' := [(aR, .inr (15, s2354))]) [0] (by decide) rfl
    have hK9 := hK.sub (tys' := []) [] rfl
    exact W.iret (v := 0) hx hb hr (fun t ht hW => ⟨⟨0, s2354, rfl, (Or.inr (⟨c2347, c2348, rfl, o_s2354⟩)), by rw [ht]; exact hP9, va_K.moved hW.alike hK9, hD9⟩, hS.F ht⟩) hS.2.2 dX12_set_49

def l_z_X12_staticOf : List Cond := [.methodLink RX12 416 yX12_isClass, .instanceMethod yX12_isClass, .selects RX12 yX12_isClass yX12_isClass, .initialized RX12, .code yX12_isClass cX12_isClass 2 (some .boolean), .fieldLink RX12 413 "HeapWorksModel" "classes" "I"]
def w_z_X12_staticOf : List Cond := .code yX12_staticOf cX12_staticOf 5 (some .int) :: (l_z_X12_staticOf ++ (wsX120))
theorem in_z_X12_staticOf_X12 : ∀ w ∈ wsX120, w ∈ w_z_X12_staticOf := fun w h => List.mem_cons_of_mem _ (List.mem_append_right _ (h))
theorem g_z_X12_staticOf_z_X12_isClass_416 : GoodIn w_z_X12_staticOf (wsV RX12 416 RX12 yX12_isClass w_z_X12_isClass) := goodIn_app (goodIn_sub (by decide +kernel) (by decide +kernel)) (goodIn_ca (goodIn_sub (by decide +kernel) (by decide +kernel)) (goodIn_in in_z_X12_staticOf_X12 gd_X12))
set_option maxHeartbeats 4000000 in
set_option maxRecDepth 100000 in
theorem z_X12_staticOf (l : Launch) (dC : Nat → ClassId) (dI : Nat → Nat → Nat) (sz : Nat) (Ad0 : Nat) (Fs0 : List Value) (Va0 : Int32) (Va1 : Int32) (k_Fs0 : fh Fs0 150 [(20, .int 0)])  : Met l yX12_staticOf w_z_X12_staticOf ({ frames := 1, cells := 0, slots := 0, locals := 21 }) (va_Pc [.ref Ad0, .int Va0, .int Va1] (fun U => U.heap.size = sz ∧ Wd dC dI [] (fun _ => True) [(Ad0, .inr (15, Fs0))] U)) (va_Qi (fun (r : Int32) (u : Unit) => (Va0 < 0 ∧ r = (-1)) ∨ (¬ Va0 < 0 ∧ 0 ≤ Va0 ∧ r = (-1))) (fun (u : Unit) t => Wd dC dI [] (va_A [(Ad0, .inr (15, Fs0))] sz) [(Ad0, .inr (15, Fs0))] t) (va_A [(Ad0, .inr (15, Fs0))] sz))  0 0 (va_A [(Ad0, .inr (15, Fs0))] sz) := by
  refine Met.ofW (cc := cX12_staticOf) (maxL := 5) (ret := (some .int)) (by decide) rfl ?_
  intro p e s m args below meth c s₁ B hml hv
  obtain ⟨rfl, hsz, hP, hK, hD0⟩ := hv
  have hx := B.exec
  have hb := B.bytes
  have hr := B.returns
  have hts := atoms_spec (ws := w_z_X12_staticOf) B.pre
  have hown : s.vm.findClass RX12 = some m.cls := findClass_of_methodNamed B.named
  have hlocks := B.notSynchronized
  subst hsz
  have hD := hD0.self (sz := s.heap.size)
  generalize hAe : va_A [(Ad0, .inr (15, Fs0))] s.heap.size = A at hD ⊢
  have hA : ∀ q : Nat, s.heap.size ≤ q → A q := fun q h => by rw [← hAe]; exact Or.inr h
  have hS : va_S A s.heap s.heap [] := va_S.rf
  have hl := lv_entry ([.ref Ad0, .int Va0, .int Va1]) (n := 5) (Nat.le_of_ble_eq_true rfl)
  rw [lg_entry_eq]
  generalize (lg_sl ([.ref Ad0, .int Va0, .int Va1]) ++ List.replicate (5 - (lg_sl ([.ref Ad0, .int Va0, .int Va1])).length) Slot.unset).toArray = ls at hl ⊢
  have hl : lv_has ls 5 [(0, .ref Ad0), (1, .int Va0), (2, .int Va1)] := hl
  have o_Fs0 := ow_0 k_Fs0
  refine lv_iconst (v := (-1)) hx hb dX12_staticOf_0 (by decide) ?_
  refine lv_istore_n (lv' := [(3, .int (-1)), (0, .ref Ad0), (1, .int Va0), (2, .int Va1)]) hx hb dX12_staticOf_1 rfl hl (by decide) rfl (fun ls hl => ?_)
  refine lv_iconst (v := 0) hx hb dX12_staticOf_2 (by decide) ?_
  refine lv_istore (lv' := [(4, .int 0), (3, .int (-1)), (0, .ref Ad0), (1, .int Va0), (2, .int Va1)]) hx hb dX12_staticOf_3 hl (by decide) rfl (fun ls hl => ?_)
  refine lv_aload_n hx hb dX12_staticOf_5 rfl (lv_at hl 2 rfl) ?_
  refine lv_iload_n hx hb dX12_staticOf_6 rfl (lv_at hl 3 rfl) ?_
  have hPc := hP.sub (ws' := [(Ad0, .inr (15, Fs0))]) [0] rfl
  have hDc := hD.sub (ws' := [(Ad0, .inr (15, Fs0))]) [0] (by decide) rfl
  have hKc := hK.sub (tys' := []) [] rfl
  have hFc := va_free (wc := [(Ad0, .inr (15, Fs0))]) hD hS hA [0] rfl
  refine va_calli (va_runV (As := [.int Va0]) (rest := []) ⟨hx, hb, hml, hown, hts⟩ (z_X12_isClass l dC dI s.heap.size Ad0 Fs0 Va0 (fh_sub o_Fs0.2 [0] rfl) ) (cwV 1 hts g_z_X12_staticOf_z_X12_isClass_416 rfl rfl rfl (by decide +kernel) ⟨Nat.le_of_ble_eq_true rfl, Nat.le_of_ble_eq_true rfl⟩) ⟨fun a U g mk q => by obtain ⟨q0, q1, qP, qK, qD⟩ := q; exact ⟨q0, q1, qP, va_K.moved (u := U) (U := U.calling g mk a) (Vm.Alike.refl U.vm) qK, qD⟩, va_recv hK hP (ci := 15) (q0 := 0) rfl rfl, fun U hU hW => ⟨rfl, by rw [hU], by rw [hU]; exact hPc, va_K.moved hW.alike hKc, hDc.weaken (fun _ _ _ _ => trivial)⟩⟩ rfl rfl hl.1 rfl (lv_room (Nat.le_of_ble_eq_true rfl)) dX12_staticOf_7 ⟨Nat.le_of_ble_eq_true rfl, Nat.le_of_ble_eq_true rfl⟩) hS (fun q _ h => hFc q h) hFc (fun r2368 u t H1 locs ht hvm hw hB hz1 hk1 hS => ?_)
  obtain ⟨hP1, hK1, hD1⟩ := hB
  rw [ht] at hP1
  try dsimp only at hw
  obtain ⟨hP, hD⟩ := va_join (wr := []) (w1 := [(Ad0, .inr (15, Fs0))]) hP hD [0] [] rfl rfl (by decide) (by decide) hk1 hFc hP1 hD1
  have hK := hK.sub (tys' := []) [] rfl
  generalize H1 = H at hP hS ⊢
  have hP : va_P (dC, dI) vwCl [(Ad0, .inr (15, Fs0))] H := hP
  have hD : va_D A [(Ad0, .inr (15, Fs0))] := hD
  rcases hw with ⟨c2369, er2370⟩ | ⟨c2371, c2372, er2373⟩
  · skip
    subst er2370
    refine lv_if_eq (tgt := 73) hx hb dX12_staticOf_10 (by decide) (fun c2374 => ?_) (fun c2374 => absurd c2374 (by decide))
    refine lv_iload_n hx hb dX12_staticOf_73 rfl (lv_at hl 1 rfl) ?_
    have hP9 := hP.sub (ws' := [(Ad0, .inr (15, Fs0))]) [0] rfl
    have hD9 := hD.sub (ws' := [(Ad0, .inr (15, Fs0))]) [0] (by decide) rfl
    have hK9 := hK.sub (tys' := []) [] rfl
    exact W.iret (v := (-1)) hx hb hr (fun t ht hW => ⟨⟨(-1), (), rfl, (Or.inl ⟨c2369, rfl⟩), by rw [ht]; exact hP9, va_K.moved hW.alike hK9, hD9⟩, hS.F ht⟩) hS.2.2 dX12_staticOf_74
  · skip
    subst er2373
    refine lv_if_eq (tgt := 73) hx hb dX12_staticOf_10 (by decide) (fun c2375 => ?_) (fun c2375 => absurd c2375 (by decide))
    refine lv_iload_n hx hb dX12_staticOf_73 rfl (lv_at hl 1 rfl) ?_
    have hP9 := hP.sub (ws' := [(Ad0, .inr (15, Fs0))]) [0] rfl
    have hD9 := hD.sub (ws' := [(Ad0, .inr (15, Fs0))]) [0] (by decide) rfl
    have hK9 := hK.sub (tys' := []) [] rfl
    exact W.iret (v := (-1)) hx hb hr (fun t ht hW => ⟨⟨(-1), (), rfl, (Or.inr (⟨c2371, c2372, rfl⟩)), by rw [ht]; exact hP9, va_K.moved hW.alike hK9, hD9⟩, hS.F ht⟩) hS.2.2 dX12_staticOf_74

def l_n_setStatic : List Cond := [.methodLink RX12 506 yX12_staticOf, .instanceMethod yX12_staticOf, .selects RX12 yX12_staticOf yX12_staticOf, .initialized RX12, .fieldLink RX12 388 "HeapWorksModel" "thrown" "I", .code yX12_staticOf cX12_staticOf 5 (some .int), .methodLink RX12 416 yX12_isClass, .instanceMethod yX12_isClass, .selects RX12 yX12_isClass yX12_isClass, .code yX12_isClass cX12_isClass 2 (some .boolean), .fieldLink RX12 413 "HeapWorksModel" "classes" "I"]
def w_n_setStatic : List Cond := .code yX12_setStatic cX12_setStatic 6 (some .int) :: (l_n_setStatic ++ (wsX120))
theorem in_n_setStatic_X12 : ∀ w ∈ wsX120, w ∈ w_n_setStatic := fun w h => List.mem_cons_of_mem _ (List.mem_append_right _ (h))
theorem g_n_setStatic_z_X12_staticOf_506 : GoodIn w_n_setStatic (wsV RX12 506 RX12 yX12_staticOf w_z_X12_staticOf) := goodIn_app (goodIn_sub (by decide +kernel) (by decide +kernel)) (goodIn_ca (goodIn_sub (by decide +kernel) (by decide +kernel)) (goodIn_in in_n_setStatic_X12 gd_X12))
set_option maxHeartbeats 4000000 in
set_option maxRecDepth 100000 in
theorem n_setStatic (l : Launch) (dC : Nat → ClassId) (dI : Nat → Nat → Nat) (sz : Nat) (aR : Nat) (fsR : List Value) (p0 : Int32) (p1 : Int32) (p2 : Int64) (k_fsR : fh fsR 150 [(0, .int 0), (20, .int 0)])  : Met l yX12_setStatic w_n_setStatic ({ frames := 2, cells := 0, slots := 0, locals := 45 }) (va_Pc [.ref aR, .int p0, .int p1, .long p2] (fun U => U.heap.size = sz ∧ Wd dC dI [] (fun _ => True) [(aR, .inr (15, fsR))] U)) (va_Qi (fun (r : Int32) (u : List Value) => (p0 < 0 ∧ r = 0 ∧ ow fsR (u) 150 [0] [(0, .int 1), (20, .int 0)]) ∨ (¬ p0 < 0 ∧ 0 ≤ p0 ∧ r = 0 ∧ ow fsR (u) 150 [0] [(0, .int 1), (20, .int 0)])) (fun (u : List Value) t => Wd dC dI [] (va_A [(aR, .inr (15, fsR))] sz) [(aR, .inr (15, (u)))] t) (va_A [(aR, .inr (15, fsR))] sz))  0 0 (va_A [(aR, .inr (15, fsR))] sz) := by
  refine Met.ofW (cc := cX12_setStatic) (maxL := 6) (ret := (some .int)) (by decide) rfl ?_
  intro p e s m args below meth c s₁ B hml hv
  obtain ⟨rfl, hsz, hP, hK, hD0⟩ := hv
  have hx := B.exec
  have hb := B.bytes
  have hr := B.returns
  have hts := atoms_spec (ws := w_n_setStatic) B.pre
  have hown : s.vm.findClass RX12 = some m.cls := findClass_of_methodNamed B.named
  have hlocks := B.notSynchronized
  subst hsz
  have hD := hD0.self (sz := s.heap.size)
  generalize hAe : va_A [(aR, .inr (15, fsR))] s.heap.size = A at hD ⊢
  have hA : ∀ q : Nat, s.heap.size ≤ q → A q := fun q h => by rw [← hAe]; exact Or.inr h
  have hS : va_S A s.heap s.heap [] := va_S.rf
  have hl := lv_entry ([.ref aR, .int p0, .int p1, .long p2]) (n := 6) (Nat.le_of_ble_eq_true rfl)
  rw [lg_entry_eq]
  generalize (lg_sl ([.ref aR, .int p0, .int p1, .long p2]) ++ List.replicate (6 - (lg_sl ([.ref aR, .int p0, .int p1, .long p2])).length) Slot.unset).toArray = ls at hl ⊢
  have hl : lv_has ls 6 [(0, .ref aR), (1, .int p0), (2, .int p1), (3, .long p2)] := hl
  have o_fsR := ow_0 k_fsR
  refine lv_aload_n hx hb dX12_setStatic_0 rfl (lv_at hl 0 rfl) ?_
  refine lv_iload_n hx hb dX12_setStatic_1 rfl (lv_at hl 1 rfl) ?_
  refine lv_iload_n hx hb dX12_setStatic_2 rfl (lv_at hl 2 rfl) ?_
  have hPc := hP.sub (ws' := [(aR, .inr (15, fsR))]) [0] rfl
  have hDc := hD.sub (ws' := [(aR, .inr (15, fsR))]) [0] (by decide) rfl
  have hKc := hK.sub (tys' := []) [] rfl
  have hFc := va_free (wc := [(aR, .inr (15, fsR))]) hD hS hA [0] rfl
  refine va_calli (va_runV (As := [.int p0, .int p1]) (rest := []) ⟨hx, hb, hml, hown, hts⟩ (z_X12_staticOf l dC dI s.heap.size aR fsR p0 p1 (fh_sub o_fsR.2 [1] rfl) ) (cwV 2 hts g_n_setStatic_z_X12_staticOf_506 rfl rfl rfl (by decide +kernel) ⟨Nat.le_of_ble_eq_true rfl, Nat.le_of_ble_eq_true rfl⟩) ⟨fun a U g mk q => by obtain ⟨q0, q1, qP, qK, qD⟩ := q; exact ⟨q0, q1, qP, va_K.moved (u := U) (U := U.calling g mk a) (Vm.Alike.refl U.vm) qK, qD⟩, va_recv hK hP (ci := 15) (q0 := 0) rfl rfl, fun U hU hW => ⟨rfl, by rw [hU], by rw [hU]; exact hPc, va_K.moved hW.alike hKc, hDc.weaken (fun _ _ _ _ => trivial)⟩⟩ rfl rfl hl.1 rfl (lv_room (Nat.le_of_ble_eq_true rfl)) dX12_setStatic_3 ⟨Nat.le_of_ble_eq_true rfl, Nat.le_of_ble_eq_true rfl⟩) hS (fun q _ h => hFc q h) hFc (fun r2398 u t H1 locs ht hvm hw hB hz1 hk1 hS => ?_)
  obtain ⟨hP1, hK1, hD1⟩ := hB
  rw [ht] at hP1
  try dsimp only at hw
  obtain ⟨hP, hD⟩ := va_join (wr := []) (w1 := [(aR, .inr (15, fsR))]) hP hD [0] [] rfl rfl (by decide) (by decide) hk1 hFc hP1 hD1
  have hK := hK.sub (tys' := []) [] rfl
  generalize H1 = H at hP hS ⊢
  have hP : va_P (dC, dI) vwCl [(aR, .inr (15, fsR))] H := hP
  have hD : va_D A [(aR, .inr (15, fsR))] := hD
  rcases hw with ⟨c2399, er2400⟩ | ⟨c2401, c2402, er2403⟩
  · skip
    subst er2400
    refine lv_istore (lv' := [(5, .int (-1)), (0, .ref aR), (1, .int p0), (2, .int p1), (3, .long p2)]) hx hb dX12_setStatic_6 hl (by decide) rfl (fun ls hl => ?_)
    refine lv_aload_n hx hb dX12_setStatic_8 rfl (lv_at hl 1 rfl) ?_
    refine lv_iload hx hb dX12_setStatic_9 (lv_at hl 0 rfl) ?_
    refine lv_iconst (v := (-1)) hx hb dX12_setStatic_11 (by decide) ?_
    refine lv_icmp_ne (tgt := 19) hx hb dX12_setStatic_12 (by decide) (fun c2404 => absurd c2404 (by decide)) (fun c2404 => ?_)
    refine lv_iconst (v := 1) hx hb dX12_setStatic_15 (by decide) ?_
    refine lv_goto (tgt := 20) hx hb dX12_setStatic_16 (by decide) ?_
    refine va_put (D := (dC, dI)) (ci := 15) (v := .int 1) (ty := .int) (C := RX12) (T := TX12) (N := 150) hx hb hts (in_n_setStatic_X12) tyX12 tyX12_ok nmX12 hown hK hP hD hS 0 rfl rfl 0 (by decide) (hts (.fieldLink RX12 388 "HeapWorksModel" "thrown" "I") (by decide +kernel)) (fun _ h9 => h9) rfl (by decide +kernel) rfl rfl (by rw [o_fsR.2.1]; decide) dX12_setStatic_20 (fun H locs hP hD hS => ?_)
    have hP : va_P (dC, dI) vwCl [(aR, .inr (15, (fsR.set 0 (.int 1))))] H := hP
    have hD : va_D A [(aR, .inr (15, (fsR.set 0 (.int 1))))] := hD
    have o_s2405 := ow_set o_fsR 0 (.int 1) (by decide) (l' := [(0, .int 1), (20, .int 0)]) (w' := [0]) rfl rfl
    generalize (fsR.set 0 (.int 1)) = s2405 at hP hD o_s2405
    refine lv_aload_n hx hb dX12_setStatic_23 rfl (lv_at hl 1 rfl) ?_
    refine va_get (D := (dC, dI)) (ci := 15) (v := .int 1) (C := RX12) (T := TX12) (N := 150) hx hb hts (in_n_setStatic_X12) hown hK hP 0 rfl rfl 0 (by decide) (hts (.fieldLink RX12 388 "HeapWorksModel" "thrown" "I") (by decide +kernel)) (fun _ h9 => h9) (ow_at o_s2405 0 rfl) dX12_setStatic_24 ?_
    refine lv_if_le (tgt := 32) hx hb dX12_setStatic_27 (by decide) (fun c2406 => absurd c2406 (by decide)) (fun c2406 => ?_)
    refine lv_iconst (v := 0) hx hb dX12_setStatic_30 (by decide) ?_
    have hP9 := hP.sub (ws' := [(aR, .inr (15, s2405))]) [0] rfl
    have hD9 := hD.sub (ws' := [(aR, .inr (15, s2405))]) [0] (by decide) rfl
    have hK9 := hK.sub (tys' := []) [] rfl
    exact W.iret (v := 0) hx hb hr (fun t ht hW => ⟨⟨0, s2405, rfl, (Or.inl ⟨c2399, rfl, o_s2405⟩), by rw [ht]; exact hP9, va_K.moved hW.alike hK9, hD9⟩, hS.F ht⟩) hS.2.2 dX12_setStatic_31
  · skip
    subst er2403
    refine lv_istore (lv' := [(5, .int (-1)), (0, .ref aR), (1, .int p0), (2, .int p1), (3, .long p2)]) hx hb dX12_setStatic_6 hl (by decide) rfl (fun ls hl => ?_)
    refine lv_aload_n hx hb dX12_setStatic_8 rfl (lv_at hl 1 rfl) ?_
    refine lv_iload hx hb dX12_setStatic_9 (lv_at hl 0 rfl) ?_
    refine lv_iconst (v := (-1)) hx hb dX12_setStatic_11 (by decide) ?_
    refine lv_icmp_ne (tgt := 19) hx hb dX12_setStatic_12 (by decide) (fun c2407 => absurd c2407 (by decide)) (fun c2407 => ?_)
    refine lv_iconst (v := 1) hx hb dX12_setStatic_15 (by decide) ?_
    refine lv_goto (tgt := 20) hx hb dX12_setStatic_16 (by decide) ?_
    refine va_put (D := (dC, dI)) (ci := 15) (v := .int 1) (ty := .int) (C := RX12) (T := TX12) (N := 150) hx hb hts (in_n_setStatic_X12) tyX12 tyX12_ok nmX12 hown hK hP hD hS 0 rfl rfl 0 (by decide) (hts (.fieldLink RX12 388 "HeapWorksModel" "thrown" "I") (by decide +kernel)) (fun _ h9 => h9) rfl (by decide +kernel) rfl rfl (by rw [o_fsR.2.1]; decide) dX12_setStatic_20 (fun H locs hP hD hS => ?_)
    have hP : va_P (dC, dI) vwCl [(aR, .inr (15, (fsR.set 0 (.int 1))))] H := hP
    have hD : va_D A [(aR, .inr (15, (fsR.set 0 (.int 1))))] := hD
    have o_s2408 := ow_set o_fsR 0 (.int 1) (by decide) (l' := [(0, .int 1), (20, .int 0)]) (w' := [0]) rfl rfl
    generalize (fsR.set 0 (.int 1)) = s2408 at hP hD o_s2408
    refine lv_aload_n hx hb dX12_setStatic_23 rfl (lv_at hl 1 rfl) ?_
    refine va_get (D := (dC, dI)) (ci := 15) (v := .int 1) (C := RX12) (T := TX12) (N := 150) hx hb hts (in_n_setStatic_X12) hown hK hP 0 rfl rfl 0 (by decide) (hts (.fieldLink RX12 388 "HeapWorksModel" "thrown" "I") (by decide +kernel)) (fun _ h9 => h9) (ow_at o_s2408 0 rfl) dX12_setStatic_24 ?_
    refine lv_if_le (tgt := 32) hx hb dX12_setStatic_27 (by decide) (fun c2409 => absurd c2409 (by decide)) (fun c2409 => ?_)
    refine lv_iconst (v := 0) hx hb dX12_setStatic_30 (by decide) ?_
    have hP9 := hP.sub (ws' := [(aR, .inr (15, s2408))]) [0] rfl
    have hD9 := hD.sub (ws' := [(aR, .inr (15, s2408))]) [0] (by decide) rfl
    have hK9 := hK.sub (tys' := []) [] rfl
    exact W.iret (v := 0) hx hb hr (fun t ht hW => ⟨⟨0, s2408, rfl, (Or.inr (⟨c2401, c2402, rfl, o_s2408⟩)), by rw [ht]; exact hP9, va_K.moved hW.alike hK9, hD9⟩, hS.F ht⟩) hS.2.2 dX12_setStatic_31

def l_n_get : List Cond := [.methodLink RX12 473 yX12_isObject, .instanceMethod yX12_isObject, .selects RX12 yX12_isObject yX12_isObject, .initialized RX12, .fieldLink RX12 388 "HeapWorksModel" "thrown" "I", .code yX12_isObject cX12_isObject 2 (some .boolean), .fieldLink RX12 435 "HeapWorksModel" "objects" "I"]
def w_n_get : List Cond := .code yX12_get cX12_get 3 (some .long) :: (l_n_get ++ (wsX120))
theorem in_n_get_X12 : ∀ w ∈ wsX120, w ∈ w_n_get := fun w h => List.mem_cons_of_mem _ (List.mem_append_right _ (h))
theorem g_n_get_z_X12_isObject_473 : GoodIn w_n_get (wsV RX12 473 RX12 yX12_isObject w_z_X12_isObject) := goodIn_app (goodIn_sub (by decide +kernel) (by decide +kernel)) (goodIn_ca (goodIn_sub (by decide +kernel) (by decide +kernel)) (goodIn_in in_n_get_X12 gd_X12))
set_option maxHeartbeats 4000000 in
set_option maxRecDepth 100000 in
theorem n_get (l : Launch) (dC : Nat → ClassId) (dI : Nat → Nat → Nat) (sz : Nat) (aR : Nat) (fsR : List Value) (p0 : Int32) (p1 : Int32) (k_fsR : fh fsR 150 [(0, .int 0), (26, .int 0)])  : Met l yX12_get w_n_get ({ frames := 1, cells := 0, slots := 0, locals := 21 }) (va_Pc [.ref aR, .int p0, .int p1] (fun U => U.heap.size = sz ∧ Wd dC dI [] (fun _ => True) [(aR, .inr (15, fsR))] U)) (va_Ql (fun (r : Int64) (u : List Value) => (p0 < 0 ∧ r = 0 ∧ ow fsR (u) 150 [0] [(0, .int 1), (26, .int 0)]) ∨ (¬ p0 < 0 ∧ 0 ≤ p0 ∧ r = 0 ∧ ow fsR (u) 150 [0] [(0, .int 1), (26, .int 0)])) (fun (u : List Value) t => Wd dC dI [] (va_A [(aR, .inr (15, fsR))] sz) [(aR, .inr (15, (u)))] t) (va_A [(aR, .inr (15, fsR))] sz))  0 0 (va_A [(aR, .inr (15, fsR))] sz) := by
  refine Met.ofW (cc := cX12_get) (maxL := 3) (ret := (some .long)) (by decide) rfl ?_
  intro p e s m args below meth c s₁ B hml hv
  obtain ⟨rfl, hsz, hP, hK, hD0⟩ := hv
  have hx := B.exec
  have hb := B.bytes
  have hr := B.returns
  have hts := atoms_spec (ws := w_n_get) B.pre
  have hown : s.vm.findClass RX12 = some m.cls := findClass_of_methodNamed B.named
  have hlocks := B.notSynchronized
  subst hsz
  have hD := hD0.self (sz := s.heap.size)
  generalize hAe : va_A [(aR, .inr (15, fsR))] s.heap.size = A at hD ⊢
  have hA : ∀ q : Nat, s.heap.size ≤ q → A q := fun q h => by rw [← hAe]; exact Or.inr h
  have hS : va_S A s.heap s.heap [] := va_S.rf
  have hl := lv_entry ([.ref aR, .int p0, .int p1]) (n := 3) (Nat.le_of_ble_eq_true rfl)
  rw [lg_entry_eq]
  generalize (lg_sl ([.ref aR, .int p0, .int p1]) ++ List.replicate (3 - (lg_sl ([.ref aR, .int p0, .int p1])).length) Slot.unset).toArray = ls at hl ⊢
  have hl : lv_has ls 3 [(0, .ref aR), (1, .int p0), (2, .int p1)] := hl
  have o_fsR := ow_0 k_fsR
  refine lv_aload_n hx hb dX12_get_0 rfl (lv_at hl 0 rfl) ?_
  refine lv_aload_n hx hb dX12_get_1 rfl (lv_at hl 0 rfl) ?_
  refine lv_iload_n hx hb dX12_get_2 rfl (lv_at hl 1 rfl) ?_
  have hPc := hP.sub (ws' := [(aR, .inr (15, fsR))]) [0] rfl
  have hDc := hD.sub (ws' := [(aR, .inr (15, fsR))]) [0] (by decide) rfl
  have hKc := hK.sub (tys' := []) [] rfl
  have hFc := va_free (wc := [(aR, .inr (15, fsR))]) hD hS hA [0] rfl
  refine va_calli (va_runV (As := [.int p0]) (rest := [.ref aR]) ⟨hx, hb, hml, hown, hts⟩ (z_X12_isObject l dC dI s.heap.size aR fsR p0 (fh_sub o_fsR.2 [1] rfl) ) (cwV 1 hts g_n_get_z_X12_isObject_473 rfl rfl rfl (by decide +kernel) ⟨Nat.le_of_ble_eq_true rfl, Nat.le_of_ble_eq_true rfl⟩) ⟨fun a U g mk q => by obtain ⟨q0, q1, qP, qK, qD⟩ := q; exact ⟨q0, q1, qP, va_K.moved (u := U) (U := U.calling g mk a) (Vm.Alike.refl U.vm) qK, qD⟩, va_recv hK hP (ci := 15) (q0 := 0) rfl rfl, fun U hU hW => ⟨rfl, by rw [hU], by rw [hU]; exact hPc, va_K.moved hW.alike hKc, hDc.weaken (fun _ _ _ _ => trivial)⟩⟩ rfl rfl hl.1 rfl (lv_room (Nat.le_of_ble_eq_true rfl)) dX12_get_3 ⟨Nat.le_of_ble_eq_true rfl, Nat.le_of_ble_eq_true rfl⟩) hS (fun q _ h => hFc q h) hFc (fun r2426 u t H1 locs ht hvm hw hB hz1 hk1 hS => ?_)
  obtain ⟨hP1, hK1, hD1⟩ := hB
  rw [ht] at hP1
  try dsimp only at hw
  obtain ⟨hP, hD⟩ := va_join (wr := []) (w1 := [(aR, .inr (15, fsR))]) hP hD [0] [] rfl rfl (by decide) (by decide) hk1 hFc hP1 hD1
  have hK := hK.sub (tys' := []) [] rfl
  generalize H1 = H at hP hS ⊢
  have hP : va_P (dC, dI) vwCl [(aR, .inr (15, fsR))] H := hP
  have hD : va_D A [(aR, .inr (15, fsR))] := hD
  rcases hw with ⟨c2427, er2428⟩ | ⟨c2429, c2430, er2431⟩
  · skip
    subst er2428
    refine lv_if_eq (tgt := 33) hx hb dX12_get_6 (by decide) (fun c2432 => ?_) (fun c2432 => absurd c2432 (by decide))
    refine lv_iconst (v := 1) hx hb dX12_get_33 (by decide) ?_
    refine lv_goto (tgt := 38) hx hb dX12_get_34 (by decide) ?_
    refine va_put (D := (dC, dI)) (ci := 15) (v := .int 1) (ty := .int) (C := RX12) (T := TX12) (N := 150) hx hb hts (in_n_get_X12) tyX12 tyX12_ok nmX12 hown hK hP hD hS 0 rfl rfl 0 (by decide) (hts (.fieldLink RX12 388 "HeapWorksModel" "thrown" "I") (by decide +kernel)) (fun _ h9 => h9) rfl (by decide +kernel) rfl rfl (by rw [o_fsR.2.1]; decide) dX12_get_38 (fun H locs hP hD hS => ?_)
    have hP : va_P (dC, dI) vwCl [(aR, .inr (15, (fsR.set 0 (.int 1))))] H := hP
    have hD : va_D A [(aR, .inr (15, (fsR.set 0 (.int 1))))] := hD
    have o_s2433 := ow_set o_fsR 0 (.int 1) (by decide) (l' := [(0, .int 1), (26, .int 0)]) (w' := [0]) rfl rfl
    generalize (fsR.set 0 (.int 1)) = s2433 at hP hD o_s2433
    refine lv_aload_n hx hb dX12_get_41 rfl (lv_at hl 0 rfl) ?_
    refine va_get (D := (dC, dI)) (ci := 15) (v := .int 1) (C := RX12) (T := TX12) (N := 150) hx hb hts (in_n_get_X12) hown hK hP 0 rfl rfl 0 (by decide) (hts (.fieldLink RX12 388 "HeapWorksModel" "thrown" "I") (by decide +kernel)) (fun _ h9 => h9) (ow_at o_s2433 0 rfl) dX12_get_42 ?_
    refine lv_if_le (tgt := 52) hx hb dX12_get_45 (by decide) (fun c2434 => absurd c2434 (by decide)) (fun c2434 => ?_)
    refine lv_lconst (v := 0) hx hb dX12_get_48 (by decide) ?_
    refine lv_goto (tgt := 65) hx hb dX12_get_49 (by decide) ?_
    have hP9 := hP.sub (ws' := [(aR, .inr (15, s2433))]) [0] rfl
    have hD9 := hD.sub (ws' := [(aR, .inr (15, s2433))]) [0] (by decide) rfl
    have hK9 := hK.sub (tys' := []) [] rfl
    exact W.lret (v := 0) hx hb hr (fun t ht hW => ⟨⟨0, s2433, rfl, (Or.inl ⟨c2427, rfl, o_s2433⟩), by rw [ht]; exact hP9, va_K.moved hW.alike hK9, hD9⟩, hS.F ht⟩) hS.2.2 dX12_get_65
  · skip
    subst er2431
    refine lv_if_eq (tgt := 33) hx hb dX12_get_6 (by decide) (fun c2435 => ?_) (fun c2435 => absurd c2435 (by decide))
    refine lv_iconst (v := 1) hx hb dX12_get_33 (by decide) ?_
    refine lv_goto (tgt := 38) hx hb dX12_get_34 (by decide) ?_
    refine va_put (D := (dC, dI)) (ci := 15) (v := .int 1) (ty := .int) (C := RX12) (T := TX12) (N := 150) hx hb hts (in_n_get_X12) tyX12 tyX12_ok nmX12 hown hK hP hD hS 0 rfl rfl 0 (by decide) (hts (.fieldLink RX12 388 "HeapWorksModel" "thrown" "I") (by decide +kernel)) (fun _ h9 => h9) rfl (by decide +kernel) rfl rfl (by rw [o_fsR.2.1]; decide) dX12_get_38 (fun H locs hP hD hS => ?_)
    have hP : va_P (dC, dI) vwCl [(aR, .inr (15, (fsR.set 0 (.int 1))))] H := hP
    have hD : va_D A [(aR, .inr (15, (fsR.set 0 (.int 1))))] := hD
    have o_s2436 := ow_set o_fsR 0 (.int 1) (by decide) (l' := [(0, .int 1), (26, .int 0)]) (w' := [0]) rfl rfl
    generalize (fsR.set 0 (.int 1)) = s2436 at hP hD o_s2436
    refine lv_aload_n hx hb dX12_get_41 rfl (lv_at hl 0 rfl) ?_
    refine va_get (D := (dC, dI)) (ci := 15) (v := .int 1) (C := RX12) (T := TX12) (N := 150) hx hb hts (in_n_get_X12) hown hK hP 0 rfl rfl 0 (by decide) (hts (.fieldLink RX12 388 "HeapWorksModel" "thrown" "I") (by decide +kernel)) (fun _ h9 => h9) (ow_at o_s2436 0 rfl) dX12_get_42 ?_
    refine lv_if_le (tgt := 52) hx hb dX12_get_45 (by decide) (fun c2437 => absurd c2437 (by decide)) (fun c2437 => ?_)
    refine lv_lconst (v := 0) hx hb dX12_get_48 (by decide) ?_
    refine lv_goto (tgt := 65) hx hb dX12_get_49 (by decide) ?_
    have hP9 := hP.sub (ws' := [(aR, .inr (15, s2436))]) [0] rfl
    have hD9 := hD.sub (ws' := [(aR, .inr (15, s2436))]) [0] (by decide) rfl
    have hK9 := hK.sub (tys' := []) [] rfl
    exact W.lret (v := 0) hx hb hr (fun t ht hW => ⟨⟨0, s2436, rfl, (Or.inr (⟨c2429, c2430, rfl, o_s2436⟩)), by rw [ht]; exact hP9, va_K.moved hW.alike hK9, hD9⟩, hS.F ht⟩) hS.2.2 dX12_get_65

def l_n_getStatic : List Cond := [.methodLink RX12 506 yX12_staticOf, .instanceMethod yX12_staticOf, .selects RX12 yX12_staticOf yX12_staticOf, .initialized RX12, .fieldLink RX12 388 "HeapWorksModel" "thrown" "I", .code yX12_staticOf cX12_staticOf 5 (some .int), .methodLink RX12 416 yX12_isClass, .instanceMethod yX12_isClass, .selects RX12 yX12_isClass yX12_isClass, .code yX12_isClass cX12_isClass 2 (some .boolean), .fieldLink RX12 413 "HeapWorksModel" "classes" "I"]
def w_n_getStatic : List Cond := .code yX12_getStatic cX12_getStatic 4 (some .long) :: (l_n_getStatic ++ (wsX120))
theorem in_n_getStatic_X12 : ∀ w ∈ wsX120, w ∈ w_n_getStatic := fun w h => List.mem_cons_of_mem _ (List.mem_append_right _ (h))
theorem g_n_getStatic_z_X12_staticOf_506 : GoodIn w_n_getStatic (wsV RX12 506 RX12 yX12_staticOf w_z_X12_staticOf) := goodIn_app (goodIn_sub (by decide +kernel) (by decide +kernel)) (goodIn_ca (goodIn_sub (by decide +kernel) (by decide +kernel)) (goodIn_in in_n_getStatic_X12 gd_X12))
set_option maxHeartbeats 4000000 in
set_option maxRecDepth 100000 in
theorem n_getStatic (l : Launch) (dC : Nat → ClassId) (dI : Nat → Nat → Nat) (sz : Nat) (aR : Nat) (fsR : List Value) (p0 : Int32) (p1 : Int32) (k_fsR : fh fsR 150 [(0, .int 0), (20, .int 0)])  : Met l yX12_getStatic w_n_getStatic ({ frames := 2, cells := 0, slots := 0, locals := 45 }) (va_Pc [.ref aR, .int p0, .int p1] (fun U => U.heap.size = sz ∧ Wd dC dI [] (fun _ => True) [(aR, .inr (15, fsR))] U)) (va_Ql (fun (r : Int64) (u : List Value) => (p0 < 0 ∧ r = 0 ∧ ow fsR (u) 150 [0] [(0, .int 1), (20, .int 0)]) ∨ (¬ p0 < 0 ∧ 0 ≤ p0 ∧ r = 0 ∧ ow fsR (u) 150 [0] [(0, .int 1), (20, .int 0)])) (fun (u : List Value) t => Wd dC dI [] (va_A [(aR, .inr (15, fsR))] sz) [(aR, .inr (15, (u)))] t) (va_A [(aR, .inr (15, fsR))] sz))  0 0 (va_A [(aR, .inr (15, fsR))] sz) := by
  refine Met.ofW (cc := cX12_getStatic) (maxL := 4) (ret := (some .long)) (by decide) rfl ?_
  intro p e s m args below meth c s₁ B hml hv
  obtain ⟨rfl, hsz, hP, hK, hD0⟩ := hv
  have hx := B.exec
  have hb := B.bytes
  have hr := B.returns
  have hts := atoms_spec (ws := w_n_getStatic) B.pre
  have hown : s.vm.findClass RX12 = some m.cls := findClass_of_methodNamed B.named
  have hlocks := B.notSynchronized
  subst hsz
  have hD := hD0.self (sz := s.heap.size)
  generalize hAe : va_A [(aR, .inr (15, fsR))] s.heap.size = A at hD ⊢
  have hA : ∀ q : Nat, s.heap.size ≤ q → A q := fun q h => by rw [← hAe]; exact Or.inr h
  have hS : va_S A s.heap s.heap [] := va_S.rf
  have hl := lv_entry ([.ref aR, .int p0, .int p1]) (n := 4) (Nat.le_of_ble_eq_true rfl)
  rw [lg_entry_eq]
  generalize (lg_sl ([.ref aR, .int p0, .int p1]) ++ List.replicate (4 - (lg_sl ([.ref aR, .int p0, .int p1])).length) Slot.unset).toArray = ls at hl ⊢
  have hl : lv_has ls 4 [(0, .ref aR), (1, .int p0), (2, .int p1)] := hl
  have o_fsR := ow_0 k_fsR
  refine lv_aload_n hx hb dX12_getStatic_0 rfl (lv_at hl 0 rfl) ?_
  refine lv_iload_n hx hb dX12_getStatic_1 rfl (lv_at hl 1 rfl) ?_
  refine lv_iload_n hx hb dX12_getStatic_2 rfl (lv_at hl 2 rfl) ?_
  have hPc := hP.sub (ws' := [(aR, .inr (15, fsR))]) [0] rfl
  have hDc := hD.sub (ws' := [(aR, .inr (15, fsR))]) [0] (by decide) rfl
  have hKc := hK.sub (tys' := []) [] rfl
  have hFc := va_free (wc := [(aR, .inr (15, fsR))]) hD hS hA [0] rfl
  refine va_calli (va_runV (As := [.int p0, .int p1]) (rest := []) ⟨hx, hb, hml, hown, hts⟩ (z_X12_staticOf l dC dI s.heap.size aR fsR p0 p1 (fh_sub o_fsR.2 [1] rfl) ) (cwV 2 hts g_n_getStatic_z_X12_staticOf_506 rfl rfl rfl (by decide +kernel) ⟨Nat.le_of_ble_eq_true rfl, Nat.le_of_ble_eq_true rfl⟩) ⟨fun a U g mk q => by obtain ⟨q0, q1, qP, qK, qD⟩ := q; exact ⟨q0, q1, qP, va_K.moved (u := U) (U := U.calling g mk a) (Vm.Alike.refl U.vm) qK, qD⟩, va_recv hK hP (ci := 15) (q0 := 0) rfl rfl, fun U hU hW => ⟨rfl, by rw [hU], by rw [hU]; exact hPc, va_K.moved hW.alike hKc, hDc.weaken (fun _ _ _ _ => trivial)⟩⟩ rfl rfl hl.1 rfl (lv_room (Nat.le_of_ble_eq_true rfl)) dX12_getStatic_3 ⟨Nat.le_of_ble_eq_true rfl, Nat.le_of_ble_eq_true rfl⟩) hS (fun q _ h => hFc q h) hFc (fun r2470 u t H1 locs ht hvm hw hB hz1 hk1 hS => ?_)
  obtain ⟨hP1, hK1, hD1⟩ := hB
  rw [ht] at hP1
  try dsimp only at hw
  obtain ⟨hP, hD⟩ := va_join (wr := []) (w1 := [(aR, .inr (15, fsR))]) hP hD [0] [] rfl rfl (by decide) (by decide) hk1 hFc hP1 hD1
  have hK := hK.sub (tys' := []) [] rfl
  generalize H1 = H at hP hS ⊢
  have hP : va_P (dC, dI) vwCl [(aR, .inr (15, fsR))] H := hP
  have hD : va_D A [(aR, .inr (15, fsR))] := hD
  rcases hw with ⟨c2471, er2472⟩ | ⟨c2473, c2474, er2475⟩
  · skip
    subst er2472
    refine lv_istore_n (lv' := [(3, .int (-1)), (0, .ref aR), (1, .int p0), (2, .int p1)]) hx hb dX12_getStatic_6 rfl hl (by decide) rfl (fun ls hl => ?_)
    refine lv_aload_n hx hb dX12_getStatic_7 rfl (lv_at hl 1 rfl) ?_
    refine lv_iload_n hx hb dX12_getStatic_8 rfl (lv_at hl 0 rfl) ?_
    refine lv_iconst (v := (-1)) hx hb dX12_getStatic_9 (by decide) ?_
    refine lv_icmp_ne (tgt := 17) hx hb dX12_getStatic_10 (by decide) (fun c2476 => absurd c2476 (by decide)) (fun c2476 => ?_)
    refine lv_iconst (v := 1) hx hb dX12_getStatic_13 (by decide) ?_
    refine lv_goto (tgt := 18) hx hb dX12_getStatic_14 (by decide) ?_
    refine va_put (D := (dC, dI)) (ci := 15) (v := .int 1) (ty := .int) (C := RX12) (T := TX12) (N := 150) hx hb hts (in_n_getStatic_X12) tyX12 tyX12_ok nmX12 hown hK hP hD hS 0 rfl rfl 0 (by decide) (hts (.fieldLink RX12 388 "HeapWorksModel" "thrown" "I") (by decide +kernel)) (fun _ h9 => h9) rfl (by decide +kernel) rfl rfl (by rw [o_fsR.2.1]; decide) dX12_getStatic_18 (fun H locs hP hD hS => ?_)
    have hP : va_P (dC, dI) vwCl [(aR, .inr (15, (fsR.set 0 (.int 1))))] H := hP
    have hD : va_D A [(aR, .inr (15, (fsR.set 0 (.int 1))))] := hD
    have o_s2477 := ow_set o_fsR 0 (.int 1) (by decide) (l' := [(0, .int 1), (20, .int 0)]) (w' := [0]) rfl rfl
    generalize (fsR.set 0 (.int 1)) = s2477 at hP hD o_s2477
    refine lv_aload_n hx hb dX12_getStatic_21 rfl (lv_at hl 1 rfl) ?_
    refine va_get (D := (dC, dI)) (ci := 15) (v := .int 1) (C := RX12) (T := TX12) (N := 150) hx hb hts (in_n_getStatic_X12) hown hK hP 0 rfl rfl 0 (by decide) (hts (.fieldLink RX12 388 "HeapWorksModel" "thrown" "I") (by decide +kernel)) (fun _ h9 => h9) (ow_at o_s2477 0 rfl) dX12_getStatic_22 ?_
    refine lv_if_le (tgt := 32) hx hb dX12_getStatic_25 (by decide) (fun c2478 => absurd c2478 (by decide)) (fun c2478 => ?_)
    refine lv_lconst (v := 0) hx hb dX12_getStatic_28 (by decide) ?_
    refine lv_goto (tgt := 38) hx hb dX12_getStatic_29 (by decide) ?_
    have hP9 := hP.sub (ws' := [(aR, .inr (15, s2477))]) [0] rfl
    have hD9 := hD.sub (ws' := [(aR, .inr (15, s2477))]) [0] (by decide) rfl
    have hK9 := hK.sub (tys' := []) [] rfl
    exact W.lret (v := 0) hx hb hr (fun t ht hW => ⟨⟨0, s2477, rfl, (Or.inl ⟨c2471, rfl, o_s2477⟩), by rw [ht]; exact hP9, va_K.moved hW.alike hK9, hD9⟩, hS.F ht⟩) hS.2.2 dX12_getStatic_38
  · skip
    subst er2475
    refine lv_istore_n (lv' := [(3, .int (-1)), (0, .ref aR), (1, .int p0), (2, .int p1)]) hx hb dX12_getStatic_6 rfl hl (by decide) rfl (fun ls hl => ?_)
    refine lv_aload_n hx hb dX12_getStatic_7 rfl (lv_at hl 1 rfl) ?_
    refine lv_iload_n hx hb dX12_getStatic_8 rfl (lv_at hl 0 rfl) ?_
    refine lv_iconst (v := (-1)) hx hb dX12_getStatic_9 (by decide) ?_
    refine lv_icmp_ne (tgt := 17) hx hb dX12_getStatic_10 (by decide) (fun c2479 => absurd c2479 (by decide)) (fun c2479 => ?_)
    refine lv_iconst (v := 1) hx hb dX12_getStatic_13 (by decide) ?_
    refine lv_goto (tgt := 18) hx hb dX12_getStatic_14 (by decide) ?_
    refine va_put (D := (dC, dI)) (ci := 15) (v := .int 1) (ty := .int) (C := RX12) (T := TX12) (N := 150) hx hb hts (in_n_getStatic_X12) tyX12 tyX12_ok nmX12 hown hK hP hD hS 0 rfl rfl 0 (by decide) (hts (.fieldLink RX12 388 "HeapWorksModel" "thrown" "I") (by decide +kernel)) (fun _ h9 => h9) rfl (by decide +kernel) rfl rfl (by rw [o_fsR.2.1]; decide) dX12_getStatic_18 (fun H locs hP hD hS => ?_)
    have hP : va_P (dC, dI) vwCl [(aR, .inr (15, (fsR.set 0 (.int 1))))] H := hP
    have hD : va_D A [(aR, .inr (15, (fsR.set 0 (.int 1))))] := hD
    have o_s2480 := ow_set o_fsR 0 (.int 1) (by decide) (l' := [(0, .int 1), (20, .int 0)]) (w' := [0]) rfl rfl
    generalize (fsR.set 0 (.int 1)) = s2480 at hP hD o_s2480
    refine lv_aload_n hx hb dX12_getStatic_21 rfl (lv_at hl 1 rfl) ?_
    refine va_get (D := (dC, dI)) (ci := 15) (v := .int 1) (C := RX12) (T := TX12) (N := 150) hx hb hts (in_n_getStatic_X12) hown hK hP 0 rfl rfl 0 (by decide) (hts (.fieldLink RX12 388 "HeapWorksModel" "thrown" "I") (by decide +kernel)) (fun _ h9 => h9) (ow_at o_s2480 0 rfl) dX12_getStatic_22 ?_
    refine lv_if_le (tgt := 32) hx hb dX12_getStatic_25 (by decide) (fun c2481 => absurd c2481 (by decide)) (fun c2481 => ?_)
    refine lv_lconst (v := 0) hx hb dX12_getStatic_28 (by decide) ?_
    refine lv_goto (tgt := 38) hx hb dX12_getStatic_29 (by decide) ?_
    have hP9 := hP.sub (ws' := [(aR, .inr (15, s2480))]) [0] rfl
    have hD9 := hD.sub (ws' := [(aR, .inr (15, s2480))]) [0] (by decide) rfl
    have hK9 := hK.sub (tys' := []) [] rfl
    exact W.lret (v := 0) hx hb hr (fun t ht hW => ⟨⟨0, s2480, rfl, (Or.inr (⟨c2473, c2474, rfl, o_s2480⟩)), by rw [ht]; exact hP9, va_K.moved hW.alike hK9, hD9⟩, hS.F ht⟩) hS.2.2 dX12_getStatic_38

def l_n_object : List Cond := [.fieldLink RX12 388 "HeapWorksModel" "thrown" "I", .methodLink RX12 473 yX12_isObject, .instanceMethod yX12_isObject, .selects RX12 yX12_isObject yX12_isObject, .initialized RX12, .code yX12_isObject cX12_isObject 2 (some .boolean), .fieldLink RX12 435 "HeapWorksModel" "objects" "I"]
def w_n_object : List Cond := .code yX12_object cX12_object 3 (some .int) :: (l_n_object ++ (wsX120))
theorem in_n_object_X12 : ∀ w ∈ wsX120, w ∈ w_n_object := fun w h => List.mem_cons_of_mem _ (List.mem_append_right _ (h))
theorem g_n_object_z_X12_isObject_473 : GoodIn w_n_object (wsV RX12 473 RX12 yX12_isObject w_z_X12_isObject) := goodIn_app (goodIn_sub (by decide +kernel) (by decide +kernel)) (goodIn_ca (goodIn_sub (by decide +kernel) (by decide +kernel)) (goodIn_in in_n_object_X12 gd_X12))
set_option maxHeartbeats 4000000 in
set_option maxRecDepth 100000 in
theorem n_object (l : Launch) (dC : Nat → ClassId) (dI : Nat → Nat → Nat) (sz : Nat) (aR : Nat) (fsR : List Value) (p0 : Int32) (p1 : Int32) (k_fsR : fh fsR 150 [(26, .int 0)])  : Met l yX12_object w_n_object ({ frames := 1, cells := 0, slots := 0, locals := 21 }) (va_Pc [.ref aR, .int p0, .int p1] (fun U => U.heap.size = sz ∧ Wd dC dI [] (fun _ => True) [(aR, .inr (15, fsR))] U)) (va_Qi (fun (r : Int32) (u : List Value) => (p0 < 0 ∧ r = (-1) ∧ ow fsR (u) 150 [0] [(0, .int 0), (26, .int 0)]) ∨ (¬ p0 < 0 ∧ 0 ≤ p0 ∧ r = (-1) ∧ ow fsR (u) 150 [0] [(0, .int 0), (26, .int 0)])) (fun (u : List Value) t => Wd dC dI [] (va_A [(aR, .inr (15, fsR))] sz) [(aR, .inr (15, (u)))] t) (va_A [(aR, .inr (15, fsR))] sz))  0 0 (va_A [(aR, .inr (15, fsR))] sz) := by
  refine Met.ofW (cc := cX12_object) (maxL := 3) (ret := (some .int)) (by decide) rfl ?_
  intro p e s m args below meth c s₁ B hml hv
  obtain ⟨rfl, hsz, hP, hK, hD0⟩ := hv
  have hx := B.exec
  have hb := B.bytes
  have hr := B.returns
  have hts := atoms_spec (ws := w_n_object) B.pre
  have hown : s.vm.findClass RX12 = some m.cls := findClass_of_methodNamed B.named
  have hlocks := B.notSynchronized
  subst hsz
  have hD := hD0.self (sz := s.heap.size)
  generalize hAe : va_A [(aR, .inr (15, fsR))] s.heap.size = A at hD ⊢
  have hA : ∀ q : Nat, s.heap.size ≤ q → A q := fun q h => by rw [← hAe]; exact Or.inr h
  have hS : va_S A s.heap s.heap [] := va_S.rf
  have hl := lv_entry ([.ref aR, .int p0, .int p1]) (n := 3) (Nat.le_of_ble_eq_true rfl)
  rw [lg_entry_eq]
  generalize (lg_sl ([.ref aR, .int p0, .int p1]) ++ List.replicate (3 - (lg_sl ([.ref aR, .int p0, .int p1])).length) Slot.unset).toArray = ls at hl ⊢
  have hl : lv_has ls 3 [(0, .ref aR), (1, .int p0), (2, .int p1)] := hl
  have o_fsR := ow_0 k_fsR
  refine lv_aload_n hx hb dX12_object_0 rfl (lv_at hl 0 rfl) ?_
  refine lv_iconst (v := 0) hx hb dX12_object_1 (by decide) ?_
  refine va_put (D := (dC, dI)) (ci := 15) (v := .int 0) (ty := .int) (C := RX12) (T := TX12) (N := 150) hx hb hts (in_n_object_X12) tyX12 tyX12_ok nmX12 hown hK hP hD hS 0 rfl rfl 0 (by decide) (hts (.fieldLink RX12 388 "HeapWorksModel" "thrown" "I") (by decide +kernel)) (fun _ h9 => h9) rfl (by decide +kernel) rfl rfl (by rw [o_fsR.2.1]; decide) dX12_object_2 (fun H locs hP hD hS => ?_)
  have hP : va_P (dC, dI) vwCl [(aR, .inr (15, (fsR.set 0 (.int 0))))] H := hP
  have hD : va_D A [(aR, .inr (15, (fsR.set 0 (.int 0))))] := hD
  have o_s2493 := ow_set o_fsR 0 (.int 0) (by decide) (l' := [(0, .int 0), (26, .int 0)]) (w' := [0]) rfl rfl
  generalize (fsR.set 0 (.int 0)) = s2493 at hP hD o_s2493
  refine lv_aload_n hx hb dX12_object_5 rfl (lv_at hl 0 rfl) ?_
  refine lv_iload_n hx hb dX12_object_6 rfl (lv_at hl 1 rfl) ?_
  have hPc := hP.sub (ws' := [(aR, .inr (15, s2493))]) [0] rfl
  have hDc := hD.sub (ws' := [(aR, .inr (15, s2493))]) [0] (by decide) rfl
  have hKc := hK.sub (tys' := []) [] rfl
  have hFc := va_free (wc := [(aR, .inr (15, s2493))]) hD hS hA [0] rfl
  refine va_calli (va_runV (As := [.int p0]) (rest := []) ⟨hx, hb, hml, hown, hts⟩ (z_X12_isObject l dC dI H.size aR s2493 p0 (fh_sub o_s2493.2 [1] rfl) ) (cwV 1 hts g_n_object_z_X12_isObject_473 rfl rfl rfl (by decide +kernel) ⟨Nat.le_of_ble_eq_true rfl, Nat.le_of_ble_eq_true rfl⟩) ⟨fun a U g mk q => by obtain ⟨q0, q1, qP, qK, qD⟩ := q; exact ⟨q0, q1, qP, va_K.moved (u := U) (U := U.calling g mk a) (Vm.Alike.refl U.vm) qK, qD⟩, va_recv hK hP (ci := 15) (q0 := 0) rfl rfl, fun U hU hW => ⟨rfl, by rw [hU], by rw [hU]; exact hPc, va_K.moved hW.alike hKc, hDc.weaken (fun _ _ _ _ => trivial)⟩⟩ rfl rfl hl.1 rfl (lv_room (Nat.le_of_ble_eq_true rfl)) dX12_object_7 ⟨Nat.le_of_ble_eq_true rfl, Nat.le_of_ble_eq_true rfl⟩) hS (fun q _ h => hFc q h) hFc (fun r2496 u t H1 locs ht hvm hw hB hz1 hk1 hS => ?_)
  obtain ⟨hP1, hK1, hD1⟩ := hB
  rw [ht] at hP1
  try dsimp only at hw
  obtain ⟨hP, hD⟩ := va_join (wr := []) (w1 := [(aR, .inr (15, s2493))]) hP hD [0] [] rfl rfl (by decide) (by decide) hk1 hFc hP1 hD1
  have hK := hK.sub (tys' := []) [] rfl
  generalize H1 = H at hP hS ⊢
  have hP : va_P (dC, dI) vwCl [(aR, .inr (15, s2493))] H := hP
  have hD : va_D A [(aR, .inr (15, s2493))] := hD
  rcases hw with ⟨c2497, er2498⟩ | ⟨c2499, c2500, er2501⟩
  · skip
    subst er2498
    refine lv_if_ne (tgt := 15) hx hb dX12_object_10 (by decide) (fun c2502 => absurd c2502 (by decide)) (fun c2502 => ?_)
    refine lv_iconst (v := (-1)) hx hb dX12_object_13 (by decide) ?_
    have hP9 := hP.sub (ws' := [(aR, .inr (15, s2493))]) [0] rfl
    have hD9 := hD.sub (ws' := [(aR, .inr (15, s2493))]) [0] (by decide) rfl
    have hK9 := hK.sub (tys' := []) [] rfl
    exact W.iret (v := (-1)) hx hb hr (fun t ht hW => ⟨⟨(-1), s2493, rfl, (Or.inl ⟨c2497, rfl, o_s2493⟩), by rw [ht]; exact hP9, va_K.moved hW.alike hK9, hD9⟩, hS.F ht⟩) hS.2.2 dX12_object_14
  · skip
    subst er2501
    refine lv_if_ne (tgt := 15) hx hb dX12_object_10 (by decide) (fun c2503 => absurd c2503 (by decide)) (fun c2503 => ?_)
    refine lv_iconst (v := (-1)) hx hb dX12_object_13 (by decide) ?_
    have hP9 := hP.sub (ws' := [(aR, .inr (15, s2493))]) [0] rfl
    have hD9 := hD.sub (ws' := [(aR, .inr (15, s2493))]) [0] (by decide) rfl
    have hK9 := hK.sub (tys' := []) [] rfl
    exact W.iret (v := (-1)) hx hb hr (fun t ht hW => ⟨⟨(-1), s2493, rfl, (Or.inr (⟨c2499, c2500, rfl, o_s2493⟩)), by rw [ht]; exact hP9, va_K.moved hW.alike hK9, hD9⟩, hS.F ht⟩) hS.2.2 dX12_object_14
