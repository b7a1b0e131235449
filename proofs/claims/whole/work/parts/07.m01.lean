theorem kc_0 : (0 : Int32).toInt = 0 := by decide
theorem kc_1 : (1 : Int32).toInt = 1 := by decide
theorem kc_2 : (2 : Int32).toInt = 2 := by decide
theorem kc_3 : (3 : Int32).toInt = 3 := by decide
theorem kc_4 : (4 : Int32).toInt = 4 := by decide
theorem kc_5 : (5 : Int32).toInt = 5 := by decide
theorem kc_6 : (6 : Int32).toInt = 6 := by decide
theorem kc_7 : (7 : Int32).toInt = 7 := by decide
theorem kc_8 : (8 : Int32).toInt = 8 := by decide
theorem kc_9 : (9 : Int32).toInt = 9 := by decide
theorem kc_10 : (10 : Int32).toInt = 10 := by decide
theorem kc_11 : (11 : Int32).toInt = 11 := by decide
theorem kc_12 : (12 : Int32).toInt = 12 := by decide
theorem kc_20 : (20 : Int32).toInt = 20 := by decide
theorem kc_24 : (24 : Int32).toInt = 24 := by decide
theorem kc_29 : (29 : Int32).toInt = 29 := by decide
theorem kc_30 : (30 : Int32).toInt = 30 := by decide
theorem kc_60 : (60 : Int32).toInt = 60 := by decide
theorem kc_100 : (100 : Int32).toInt = 100 := by decide
theorem kc_200 : (200 : Int32).toInt = 200 := by decide
theorem kc_240 : (240 : Int32).toInt = 240 := by decide
theorem kc_400 : (400 : Int32).toInt = 400 := by decide
theorem kc_4000 : (4000 : Int32).toInt = 4000 := by decide
def l_n_feed : List Cond := [.fieldLink RX12 388 "HeapWorksModel" "thrown" "I", .fieldLink RX12 13 "HeapWorksModel" "ready" "[B"]
def w_n_feed : List Cond := .code yX12_feed cX12_feed 8 none :: (l_n_feed ++ (wsX120))
theorem in_n_feed_X12 : ∀ w ∈ wsX120, w ∈ w_n_feed := fun w h => List.mem_cons_of_mem _ (List.mem_append_right _ (h))
set_option maxHeartbeats 4000000 in
set_option maxRecDepth 100000 in
theorem n_feed (l : Launch) (dC : Nat → ClassId) (dI : Nat → Nat → Nat) (sz : Nat) (aR : Nat) (fsR : List Value) (q_ready : Nat) (f_ready : Nat → Int32) (k_ready : ClassId) (p0 : Int32) (p1 : Int32) (p2 : Int32) (p3 : Int32) (p4 : Int32) (k_fsR : fh fsR 150 [(2, .ref q_ready)])  : Met l yX12_feed w_n_feed ({ frames := 0, cells := 0, slots := 0, locals := 0 }) (va_Pc [.ref aR, .int p0, .int p1, .int p2, .int p3, .int p4] (fun U => U.heap.size = sz ∧ Wd dC dI [(k_ready, .byte)] (fun _ => True) [(aR, .inr (15, fsR)), (q_ready, .inl (k_ready, 20, .inl f_ready))] U)) (va_Qv (fun (u : List Value × (Nat → Int32)) => ow fsR (u.1) 150 [0] [(0, .int 0), (2, .ref q_ready)]) (fun (u : List Value × (Nat → Int32)) t => Wd dC dI [(k_ready, .byte)] (va_A [(aR, .inr (15, fsR)), (q_ready, .inl (k_ready, 20, .inl f_ready))] sz) [(aR, .inr (15, (u.1))), (q_ready, .inl (k_ready, 20, .inl ((u.2))))] t) (va_A [(aR, .inr (15, fsR)), (q_ready, .inl (k_ready, 20, .inl f_ready))] sz))  0 0 (va_A [(aR, .inr (15, fsR)), (q_ready, .inl (k_ready, 20, .inl f_ready))] sz) := by
  refine Met.ofW (cc := cX12_feed) (maxL := 8) (ret := none) (by decide) rfl ?_
  intro p e s m args below meth c s₁ B hml hv
  obtain ⟨rfl, hsz, hP, hK, hD0⟩ := hv
  have hx := B.exec
  have hb := B.bytes
  have hr := B.returns
  have hts := atoms_spec (ws := w_n_feed) B.pre
  have hown : s.vm.findClass RX12 = some m.cls := findClass_of_methodNamed B.named
  have hlocks := B.notSynchronized
  subst hsz
  have hD := hD0.self (sz := s.heap.size)
  generalize hAe : va_A [(aR, .inr (15, fsR)), (q_ready, .inl (k_ready, 20, .inl f_ready))] s.heap.size = A at hD ⊢
  have hA : ∀ q : Nat, s.heap.size ≤ q → A q := fun q h => by rw [← hAe]; exact Or.inr h
  have hS : va_S A s.heap s.heap [] := va_S.rf
  have hl := lv_entry ([.ref aR, .int p0, .int p1, .int p2, .int p3, .int p4]) (n := 8) (Nat.le_of_ble_eq_true rfl)
  rw [lg_entry_eq]
  generalize (lg_sl ([.ref aR, .int p0, .int p1, .int p2, .int p3, .int p4]) ++ List.replicate (8 - (lg_sl ([.ref aR, .int p0, .int p1, .int p2, .int p3, .int p4])).length) Slot.unset).toArray = ls at hl ⊢
  have hl : lv_has ls 8 [(0, .ref aR), (1, .int p0), (2, .int p1), (3, .int p2), (4, .int p3), (5, .int p4)] := hl
  have o_fsR := ow_0 k_fsR
  refine lv_aload_n hx hb dX12_feed_0 rfl (lv_at hl 0 rfl) ?_
  refine lv_iconst (v := 0) hx hb dX12_feed_1 (by decide) ?_
  refine va_put (D := (dC, dI)) (ci := 15) (v := .int 0) (ty := .int) (C := RX12) (T := TX12) (N := 150) hx hb hts (in_n_feed_X12) tyX12 tyX12_ok nmX12 hown hK hP hD hS 0 rfl rfl 0 (by decide) (hts (.fieldLink RX12 388 "HeapWorksModel" "thrown" "I") (by decide +kernel)) (fun _ h9 => h9) rfl (by decide +kernel) rfl rfl (by rw [o_fsR.2.1]; decide) dX12_feed_2 (fun H locs hP hD hS => ?_)
  have hP : va_P (dC, dI) vwCl [(aR, .inr (15, (fsR.set 0 (.int 0)))), (q_ready, .inl (k_ready, 20, .inl f_ready))] H := hP
  have hD : va_D A [(aR, .inr (15, (fsR.set 0 (.int 0)))), (q_ready, .inl (k_ready, 20, .inl f_ready))] := hD
  have o_s91 := ow_set o_fsR 0 (.int 0) (by decide) (l' := [(0, .int 0), (2, .ref q_ready)]) (w' := [0]) rfl rfl
  generalize (fsR.set 0 (.int 0)) = s91 at hP hD o_s91
  refine lv_iconst (v := 0) hx hb dX12_feed_5 (by decide) ?_
  refine lv_istore (lv' := [(6, .int 0), (0, .ref aR), (1, .int p0), (2, .int p1), (3, .int p2), (4, .int p3), (5, .int p4)]) hx hb dX12_feed_6 hl (by decide) rfl (fun ls hl => ?_)
  refine lv_iload hx hb dX12_feed_8 (lv_at hl 0 rfl) ?_
  refine lv_iconst (v := 4) hx hb dX12_feed_10 (by decide) ?_
  refine lv_icmp_ge (tgt := 103) hx hb dX12_feed_11 (by decide) (fun c92 => absurd c92 (by decide)) (fun c92 => ?_)
  refine lv_bipush (v := 24) hx hb dX12_feed_14 (by decide) ?_
  refine lv_bipush (v := 8) hx hb dX12_feed_16 (by decide) ?_
  refine lv_iload hx hb dX12_feed_18 (lv_at hl 0 rfl) ?_
  refine lv_imul hx hb dX12_feed_20  ?_
  refine lv_topi (fun x93 ex93 => ?_)
  obtain rfl : x93 = 0 := ex93.trans (by decide)
  refine lv_isub hx hb dX12_feed_21  ?_
  refine lv_topi (fun x94 ex94 => ?_)
  obtain rfl : x94 = 24 := ex94.trans (by decide)
  refine lv_istore (lv' := [(7, .int 24), (6, .int 0), (0, .ref aR), (1, .int p0), (2, .int p1), (3, .int p2), (4, .int p3), (5, .int p4)]) hx hb dX12_feed_22 hl (by decide) rfl (fun ls hl => ?_)
  refine lv_aload_n hx hb dX12_feed_24 rfl (lv_at hl 2 rfl) ?_
  refine va_get (D := (dC, dI)) (ci := 15) (v := .ref q_ready) (C := RX12) (T := TX12) (N := 150) hx hb hts (in_n_feed_X12) hown hK hP 0 rfl rfl 2 (by decide) (hts (.fieldLink RX12 13 "HeapWorksModel" "ready" "[B") (by decide +kernel)) (fun _ h9 => h9) (ow_at o_s91 1 rfl) dX12_feed_25 ?_
  refine lv_iload hx hb dX12_feed_28 (lv_at hl 1 rfl) ?_
  refine lv_iload_n hx hb dX12_feed_30 rfl (lv_at hl 3 rfl) ?_
  refine lv_iload hx hb dX12_feed_31 (lv_at hl 0 rfl) ?_
  refine lv_ishr hx hb dX12_feed_33  ?_
  refine lv_topi (fun x95 ex95 => ?_)
  refine lv_i2b hx hb dX12_feed_34 rfl ?_
  refine lv_topi (fun x96 ex96 => ?_)
  refine va_bast hx hb hK hP hD hS 1 0 rfl rfl (show vp_in 0 20 from by unfold vp_in; decide) dX12_feed_35 (fun H locs hP hD hS => ?_)
  have hP : va_P (dC, dI) vwCl [(aR, .inr (15, s91)), (q_ready, .inl (k_ready, 20, .inl (upd f_ready (0 : Int32).toNatClampNeg (vp_nar .byte x96))))] H := hP
  have hD : va_D A [(aR, .inr (15, s91)), (q_ready, .inl (k_ready, 20, .inl (upd f_ready (0 : Int32).toNatClampNeg (vp_nar .byte x96))))] := hD
  generalize upd f_ready (0 : Int32).toNatClampNeg (vp_nar .byte x96) = f97 at hP hD
  refine lv_aload_n hx hb dX12_feed_36 rfl (lv_at hl 2 rfl) ?_
  refine va_get (D := (dC, dI)) (ci := 15) (v := .ref q_ready) (C := RX12) (T := TX12) (N := 150) hx hb hts (in_n_feed_X12) hown hK hP 0 rfl rfl 2 (by decide) (hts (.fieldLink RX12 13 "HeapWorksModel" "ready" "[B") (by decide +kernel)) (fun _ h9 => h9) (ow_at o_s91 1 rfl) dX12_feed_37 ?_
  refine lv_iconst (v := 4) hx hb dX12_feed_40 (by decide) ?_
  refine lv_iload hx hb dX12_feed_41 (lv_at hl 1 rfl) ?_
  refine lv_iadd hx hb dX12_feed_43  ?_
  refine lv_topi (fun x98 ex98 => ?_)
  obtain rfl : x98 = 4 := ex98.trans (by decide)
  refine lv_iload_n hx hb dX12_feed_44 rfl (lv_at hl 4 rfl) ?_
  refine lv_iload hx hb dX12_feed_45 (lv_at hl 0 rfl) ?_
  refine lv_ishr hx hb dX12_feed_47  ?_
  refine lv_topi (fun x99 ex99 => ?_)
  refine lv_i2b hx hb dX12_feed_48 rfl ?_
  refine lv_topi (fun x100 ex100 => ?_)
  refine va_bast hx hb hK hP hD hS 1 0 rfl rfl (show vp_in 4 20 from by unfold vp_in; decide) dX12_feed_49 (fun H locs hP hD hS => ?_)
  have hP : va_P (dC, dI) vwCl [(aR, .inr (15, s91)), (q_ready, .inl (k_ready, 20, .inl (upd f97 (4 : Int32).toNatClampNeg (vp_nar .byte x100))))] H := hP
  have hD : va_D A [(aR, .inr (15, s91)), (q_ready, .inl (k_ready, 20, .inl (upd f97 (4 : Int32).toNatClampNeg (vp_nar .byte x100))))] := hD
  generalize upd f97 (4 : Int32).toNatClampNeg (vp_nar .byte x100) = f101 at hP hD
  refine lv_aload_n hx hb dX12_feed_50 rfl (lv_at hl 2 rfl) ?_
  refine va_get (D := (dC, dI)) (ci := 15) (v := .ref q_ready) (C := RX12) (T := TX12) (N := 150) hx hb hts (in_n_feed_X12) hown hK hP 0 rfl rfl 2 (by decide) (hts (.fieldLink RX12 13 "HeapWorksModel" "ready" "[B") (by decide +kernel)) (fun _ h9 => h9) (ow_at o_s91 1 rfl) dX12_feed_51 ?_
  refine lv_bipush (v := 8) hx hb dX12_feed_54 (by decide) ?_
  refine lv_iload hx hb dX12_feed_56 (lv_at hl 1 rfl) ?_
  refine lv_iadd hx hb dX12_feed_58  ?_
  refine lv_topi (fun x102 ex102 => ?_)
  obtain rfl : x102 = 8 := ex102.trans (by decide)
  refine lv_iload_n hx hb dX12_feed_59 rfl (lv_at hl 5 rfl) ?_
  refine lv_iload hx hb dX12_feed_60 (lv_at hl 0 rfl) ?_
  refine lv_ishr hx hb dX12_feed_62  ?_
  refine lv_topi (fun x103 ex103 => ?_)
  refine lv_i2b hx hb dX12_feed_63 rfl ?_
  refine lv_topi (fun x104 ex104 => ?_)
  refine va_bast hx hb hK hP hD hS 1 0 rfl rfl (show vp_in 8 20 from by unfold vp_in; decide) dX12_feed_64 (fun H locs hP hD hS => ?_)
  have hP : va_P (dC, dI) vwCl [(aR, .inr (15, s91)), (q_ready, .inl (k_ready, 20, .inl (upd f101 (8 : Int32).toNatClampNeg (vp_nar .byte x104))))] H := hP
  have hD : va_D A [(aR, .inr (15, s91)), (q_ready, .inl (k_ready, 20, .inl (upd f101 (8 : Int32).toNatClampNeg (vp_nar .byte x104))))] := hD
  generalize upd f101 (8 : Int32).toNatClampNeg (vp_nar .byte x104) = f105 at hP hD
  refine lv_aload_n hx hb dX12_feed_65 rfl (lv_at hl 2 rfl) ?_
  refine va_get (D := (dC, dI)) (ci := 15) (v := .ref q_ready) (C := RX12) (T := TX12) (N := 150) hx hb hts (in_n_feed_X12) hown hK hP 0 rfl rfl 2 (by decide) (hts (.fieldLink RX12 13 "HeapWorksModel" "ready" "[B") (by decide +kernel)) (fun _ h9 => h9) (ow_at o_s91 1 rfl) dX12_feed_66 ?_
  refine lv_bipush (v := 12) hx hb dX12_feed_69 (by decide) ?_
  refine lv_iload hx hb dX12_feed_71 (lv_at hl 1 rfl) ?_
  refine lv_iadd hx hb dX12_feed_73  ?_
  refine lv_topi (fun x106 ex106 => ?_)
  obtain rfl : x106 = 12 := ex106.trans (by decide)
  refine lv_iload hx hb dX12_feed_74 (lv_at hl 6 rfl) ?_
  refine lv_iload hx hb dX12_feed_76 (lv_at hl 0 rfl) ?_
  refine lv_ishr hx hb dX12_feed_78  ?_
  refine lv_topi (fun x107 ex107 => ?_)
  refine lv_i2b hx hb dX12_feed_79 rfl ?_
  refine lv_topi (fun x108 ex108 => ?_)
  refine va_bast hx hb hK hP hD hS 1 0 rfl rfl (show vp_in 12 20 from by unfold vp_in; decide) dX12_feed_80 (fun H locs hP hD hS => ?_)
  have hP : va_P (dC, dI) vwCl [(aR, .inr (15, s91)), (q_ready, .inl (k_ready, 20, .inl (upd f105 (12 : Int32).toNatClampNeg (vp_nar .byte x108))))] H := hP
  have hD : va_D A [(aR, .inr (15, s91)), (q_ready, .inl (k_ready, 20, .inl (upd f105 (12 : Int32).toNatClampNeg (vp_nar .byte x108))))] := hD
  generalize upd f105 (12 : Int32).toNatClampNeg (vp_nar .byte x108) = f109 at hP hD
  refine lv_aload_n hx hb dX12_feed_81 rfl (lv_at hl 2 rfl) ?_
  refine va_get (D := (dC, dI)) (ci := 15) (v := .ref q_ready) (C := RX12) (T := TX12) (N := 150) hx hb hts (in_n_feed_X12) hown hK hP 0 rfl rfl 2 (by decide) (hts (.fieldLink RX12 13 "HeapWorksModel" "ready" "[B") (by decide +kernel)) (fun _ h9 => h9) (ow_at o_s91 1 rfl) dX12_feed_82 ?_
  refine lv_bipush (v := 16) hx hb dX12_feed_85 (by decide) ?_
  refine lv_iload hx hb dX12_feed_87 (lv_at hl 1 rfl) ?_
  refine lv_iadd hx hb dX12_feed_89  ?_
  refine lv_topi (fun x110 ex110 => ?_)
  obtain rfl : x110 = 16 := ex110.trans (by decide)
  refine lv_iload hx hb dX12_feed_90 (lv_at hl 7 rfl) ?_
  refine lv_iload hx hb dX12_feed_92 (lv_at hl 0 rfl) ?_
  refine lv_ishr hx hb dX12_feed_94  ?_
  refine lv_topi (fun x111 ex111 => ?_)
  refine lv_i2b hx hb dX12_feed_95 rfl ?_
  refine lv_topi (fun x112 ex112 => ?_)
  refine va_bast hx hb hK hP hD hS 1 0 rfl rfl (show vp_in 16 20 from by unfold vp_in; decide) dX12_feed_96 (fun H locs hP hD hS => ?_)
  have hP : va_P (dC, dI) vwCl [(aR, .inr (15, s91)), (q_ready, .inl (k_ready, 20, .inl (upd f109 (16 : Int32).toNatClampNeg (vp_nar .byte x112))))] H := hP
  have hD : va_D A [(aR, .inr (15, s91)), (q_ready, .inl (k_ready, 20, .inl (upd f109 (16 : Int32).toNatClampNeg (vp_nar .byte x112))))] := hD
  generalize upd f109 (16 : Int32).toNatClampNeg (vp_nar .byte x112) = f113 at hP hD
  refine lv_iinc (v := 1) (lv' := [(6, .int 1), (7, .int 24), (0, .ref aR), (1, .int p0), (2, .int p1), (3, .int p2), (4, .int p3), (5, .int p4)]) hx hb dX12_feed_97 hl (k := 1) rfl (by decide) (by decide) rfl (fun ls hl => ?_)
  refine lv_goto (tgt := 8) hx hb dX12_feed_100 (by decide) ?_
  refine lv_iload hx hb dX12_feed_8 (lv_at hl 0 rfl) ?_
  refine lv_iconst (v := 4) hx hb dX12_feed_10 (by decide) ?_
  refine lv_icmp_ge (tgt := 103) hx hb dX12_feed_11 (by decide) (fun c114 => absurd c114 (by decide)) (fun c114 => ?_)
  refine lv_bipush (v := 24) hx hb dX12_feed_14 (by decide) ?_
  refine lv_bipush (v := 8) hx hb dX12_feed_16 (by decide) ?_
  refine lv_iload hx hb dX12_feed_18 (lv_at hl 0 rfl) ?_
  refine lv_imul hx hb dX12_feed_20  ?_
  refine lv_topi (fun x115 ex115 => ?_)
  obtain rfl : x115 = 8 := ex115.trans (by decide)
  refine lv_isub hx hb dX12_feed_21  ?_
  refine lv_topi (fun x116 ex116 => ?_)
  obtain rfl : x116 = 16 := ex116.trans (by decide)
  refine lv_istore (lv' := [(7, .int 16), (6, .int 1), (0, .ref aR), (1, .int p0), (2, .int p1), (3, .int p2), (4, .int p3), (5, .int p4)]) hx hb dX12_feed_22 hl (by decide) rfl (fun ls hl => ?_)
  refine lv_aload_n hx hb dX12_feed_24 rfl (lv_at hl 2 rfl) ?_
  refine va_get (D := (dC, dI)) (ci := 15) (v := .ref q_ready) (C := RX12) (T := TX12) (N := 150) hx hb hts (in_n_feed_X12) hown hK hP 0 rfl rfl 2 (by decide) (hts (.fieldLink RX12 13 "HeapWorksModel" "ready" "[B") (by decide +kernel)) (fun _ h9 => h9) (ow_at o_s91 1 rfl) dX12_feed_25 ?_
  refine lv_iload hx hb dX12_feed_28 (lv_at hl 1 rfl) ?_
  refine lv_iload_n hx hb dX12_feed_30 rfl (lv_at hl 3 rfl) ?_
  refine lv_iload hx hb dX12_feed_31 (lv_at hl 0 rfl) ?_
  refine lv_ishr hx hb dX12_feed_33  ?_
  refine lv_topi (fun x117 ex117 => ?_)
  refine lv_i2b hx hb dX12_feed_34 rfl ?_
  refine lv_topi (fun x118 ex118 => ?_)
  refine va_bast hx hb hK hP hD hS 1 0 rfl rfl (show vp_in 1 20 from by unfold vp_in; decide) dX12_feed_35 (fun H locs hP hD hS => ?_)
  have hP : va_P (dC, dI) vwCl [(aR, .inr (15, s91)), (q_ready, .inl (k_ready, 20, .inl (upd f113 (1 : Int32).toNatClampNeg (vp_nar .byte x118))))] H := hP
  have hD : va_D A [(aR, .inr (15, s91)), (q_ready, .inl (k_ready, 20, .inl (upd f113 (1 : Int32).toNatClampNeg (vp_nar .byte x118))))] := hD
  generalize upd f113 (1 : Int32).toNatClampNeg (vp_nar .byte x118) = f119 at hP hD
  refine lv_aload_n hx hb dX12_feed_36 rfl (lv_at hl 2 rfl) ?_
  refine va_get (D := (dC, dI)) (ci := 15) (v := .ref q_ready) (C := RX12) (T := TX12) (N := 150) hx hb hts (in_n_feed_X12) hown hK hP 0 rfl rfl 2 (by decide) (hts (.fieldLink RX12 13 "HeapWorksModel" "ready" "[B") (by decide +kernel)) (fun _ h9 => h9) (ow_at o_s91 1 rfl) dX12_feed_37 ?_
  refine lv_iconst (v := 4) hx hb dX12_feed_40 (by decide) ?_
  refine lv_iload hx hb dX12_feed_41 (lv_at hl 1 rfl) ?_
  refine lv_iadd hx hb dX12_feed_43  ?_
  refine lv_topi (fun x120 ex120 => ?_)
  obtain rfl : x120 = 5 := ex120.trans (by decide)
  refine lv_iload_n hx hb dX12_feed_44 rfl (lv_at hl 4 rfl) ?_
  refine lv_iload hx hb dX12_feed_45 (lv_at hl 0 rfl) ?_
  refine lv_ishr hx hb dX12_feed_47  ?_
  refine lv_topi (fun x121 ex121 => ?_)
  refine lv_i2b hx hb dX12_feed_48 rfl ?_
  refine lv_topi (fun x122 ex122 => ?_)
  refine va_bast hx hb hK hP hD hS 1 0 rfl rfl (show vp_in 5 20 from by unfold vp_in; decide) dX12_feed_49 (fun H locs hP hD hS => ?_)
  have hP : va_P (dC, dI) vwCl [(aR, .inr (15, s91)), (q_ready, .inl (k_ready, 20, .inl (upd f119 (5 : Int32).toNatClampNeg (vp_nar .byte x122))))] H := hP
  have hD : va_D A [(aR, .inr (15, s91)), (q_ready, .inl (k_ready, 20, .inl (upd f119 (5 : Int32).toNatClampNeg (vp_nar .byte x122))))] := hD
  generalize upd f119 (5 : Int32).toNatClampNeg (vp_nar .byte x122) = f123 at hP hD
  refine lv_aload_n hx hb dX12_feed_50 rfl (lv_at hl 2 rfl) ?_
  refine va_get (D := (dC, dI)) (ci := 15) (v := .ref q_ready) (C := RX12) (T := TX12) (N := 150) hx hb hts (in_n_feed_X12) hown hK hP 0 rfl rfl 2 (by decide) (hts (.fieldLink RX12 13 "HeapWorksModel" "ready" "[B") (by decide +kernel)) (fun _ h9 => h9) (ow_at o_s91 1 rfl) dX12_feed_51 ?_
  refine lv_bipush (v := 8) hx hb dX12_feed_54 (by decide) ?_
  refine lv_iload hx hb dX12_feed_56 (lv_at hl 1 rfl) ?_
  refine lv_iadd hx hb dX12_feed_58  ?_
  refine lv_topi (fun x124 ex124 => ?_)
  obtain rfl : x124 = 9 := ex124.trans (by decide)
  refine lv_iload_n hx hb dX12_feed_59 rfl (lv_at hl 5 rfl) ?_
  refine lv_iload hx hb dX12_feed_60 (lv_at hl 0 rfl) ?_
  refine lv_ishr hx hb dX12_feed_62  ?_
  refine lv_topi (fun x125 ex125 => ?_)
  refine lv_i2b hx hb dX12_feed_63 rfl ?_
  refine lv_topi (fun x126 ex126 => ?_)
  refine va_bast hx hb hK hP hD hS 1 0 rfl rfl (show vp_in 9 20 from by unfold vp_in; decide) dX12_feed_64 (fun H locs hP hD hS => ?_)
  have hP : va_P (dC, dI) vwCl [(aR, .inr (15, s91)), (q_ready, .inl (k_ready, 20, .inl (upd f123 (9 : Int32).toNatClampNeg (vp_nar .byte x126))))] H := hP
  have hD : va_D A [(aR, .inr (15, s91)), (q_ready, .inl (k_ready, 20, .inl (upd f123 (9 : Int32).toNatClampNeg (vp_nar .byte x126))))] := hD
  generalize upd f123 (9 : Int32).toNatClampNeg (vp_nar .byte x126) = f127 at hP hD
  refine lv_aload_n hx hb dX12_feed_65 rfl (lv_at hl 2 rfl) ?_
  refine va_get (D := (dC, dI)) (ci := 15) (v := .ref q_ready) (C := RX12) (T := TX12) (N := 150) hx hb hts (in_n_feed_X12) hown hK hP 0 rfl rfl 2 (by decide) (hts (.fieldLink RX12 13 "HeapWorksModel" "ready" "[B") (by decide +kernel)) (fun _ h9 => h9) (ow_at o_s91 1 rfl) dX12_feed_66 ?_
  refine lv_bipush (v := 12) hx hb dX12_feed_69 (by decide) ?_
  refine lv_iload hx hb dX12_feed_71 (lv_at hl 1 rfl) ?_
  refine lv_iadd hx hb dX12_feed_73  ?_
  refine lv_topi (fun x128 ex128 => ?_)
  obtain rfl : x128 = 13 := ex128.trans (by decide)
  refine lv_iload hx hb dX12_feed_74 (lv_at hl 6 rfl) ?_
  refine lv_iload hx hb dX12_feed_76 (lv_at hl 0 rfl) ?_
  refine lv_ishr hx hb dX12_feed_78  ?_
  refine lv_topi (fun x129 ex129 => ?_)
  refine lv_i2b hx hb dX12_feed_79 rfl ?_
  refine lv_topi (fun x130 ex130 => ?_)
  refine va_bast hx hb hK hP hD hS 1 0 rfl rfl (show vp_in 13 20 from by unfold vp_in; decide) dX12_feed_80 (fun H locs hP hD hS => ?_)
  have hP : va_P (dC, dI) vwCl [(aR, .inr (15, s91)), (q_ready, .inl (k_ready, 20, .inl (upd f127 (13 : Int32).toNatClampNeg (vp_nar .byte x130))))] H := hP
  have hD : va_D A [(aR, .inr (15, s91)), (q_ready, .inl (k_ready, 20, .inl (upd f127 (13 : Int32).toNatClampNeg (vp_nar .byte x130))))] := hD
  generalize upd f127 (13 : Int32).toNatClampNeg (vp_nar .byte x130) = f131 at hP hD
  refine lv_aload_n hx hb dX12_feed_81 rfl (lv_at hl 2 rfl) ?_
  refine va_get (D := (dC, dI)) (ci := 15) (v := .ref q_ready) (C := RX12) (T := TX12) (N := 150) hx hb hts (in_n_feed_X12) hown hK hP 0 rfl rfl 2 (by decide) (hts (.fieldLink RX12 13 "HeapWorksModel" "ready" "[B") (by decide +kernel)) (fun _ h9 => h9) (ow_at o_s91 1 rfl) dX12_feed_82 ?_
  refine lv_bipush (v := 16) hx hb dX12_feed_85 (by decide) ?_
  refine lv_iload hx hb dX12_feed_87 (lv_at hl 1 rfl) ?_
  refine lv_iadd hx hb dX12_feed_89  ?_
  refine lv_topi (fun x132 ex132 => ?_)
  obtain rfl : x132 = 17 := ex132.trans (by decide)
  refine lv_iload hx hb dX12_feed_90 (lv_at hl 7 rfl) ?_
  refine lv_iload hx hb dX12_feed_92 (lv_at hl 0 rfl) ?_
  refine lv_ishr hx hb dX12_feed_94  ?_
  refine lv_topi (fun x133 ex133 => ?_)
  refine lv_i2b hx hb dX12_feed_95 rfl ?_
  refine lv_topi (fun x134 ex134 => ?_)
  refine va_bast hx hb hK hP hD hS 1 0 rfl rfl (show vp_in 17 20 from by unfold vp_in; decide) dX12_feed_96 (fun H locs hP hD hS => ?_)
  have hP : va_P (dC, dI) vwCl [(aR, .inr (15, s91)), (q_ready, .inl (k_ready, 20, .inl (upd f131 (17 : Int32).toNatClampNeg (vp_nar .byte x134))))] H := hP
  have hD : va_D A [(aR, .inr (15, s91)), (q_ready, .inl (k_ready, 20, .inl (upd f131 (17 : Int32).toNatClampNeg (vp_nar .byte x134))))] := hD
  generalize upd f131 (17 : Int32).toNatClampNeg (vp_nar .byte x134) = f135 at hP hD
  refine lv_iinc (v := 2) (lv' := [(6, .int 2), (7, .int 16), (0, .ref aR), (1, .int p0), (2, .int p1), (3, .int p2), (4, .int p3), (5, .int p4)]) hx hb dX12_feed_97 hl (k := 1) rfl (by decide) (by decide) rfl (fun ls hl => ?_)
  refine lv_goto (tgt := 8) hx hb dX12_feed_100 (by decide) ?_
  refine lv_iload hx hb dX12_feed_8 (lv_at hl 0 rfl) ?_
  refine lv_iconst (v := 4) hx hb dX12_feed_10 (by decide) ?_
  refine lv_icmp_ge (tgt := 103) hx hb dX12_feed_11 (by decide) (fun c136 => absurd c136 (by decide)) (fun c136 => ?_)
  refine lv_bipush (v := 24) hx hb dX12_feed_14 (by decide) ?_
  refine lv_bipush (v := 8) hx hb dX12_feed_16 (by decide) ?_
  refine lv_iload hx hb dX12_feed_18 (lv_at hl 0 rfl) ?_
  refine lv_imul hx hb dX12_feed_20  ?_
  refine lv_topi (fun x137 ex137 => ?_)
  obtain rfl : x137 = 16 := ex137.trans (by decide)
  refine lv_isub hx hb dX12_feed_21  ?_
  refine lv_topi (fun x138 ex138 => ?_)
  obtain rfl : x138 = 8 := ex138.trans (by decide)
  refine lv_istore (lv' := [(7, .int 8), (6, .int 2), (0, .ref aR), (1, .int p0), (2, .int p1), (3, .int p2), (4, .int p3), (5, .int p4)]) hx hb dX12_feed_22 hl (by decide) rfl (fun ls hl => ?_)
  refine lv_aload_n hx hb dX12_feed_24 rfl (lv_at hl 2 rfl) ?_
  refine va_get (D := (dC, dI)) (ci := 15) (v := .ref q_ready) (C := RX12) (T := TX12) (N := 150) hx hb hts (in_n_feed_X12) hown hK hP 0 rfl rfl 2 (by decide) (hts (.fieldLink RX12 13 "HeapWorksModel" "ready" "[B") (by decide +kernel)) (fun _ h9 => h9) (ow_at o_s91 1 rfl) dX12_feed_25 ?_
  refine lv_iload hx hb dX12_feed_28 (lv_at hl 1 rfl) ?_
  refine lv_iload_n hx hb dX12_feed_30 rfl (lv_at hl 3 rfl) ?_
  refine lv_iload hx hb dX12_feed_31 (lv_at hl 0 rfl) ?_
  refine lv_ishr hx hb dX12_feed_33  ?_
  refine lv_topi (fun x139 ex139 => ?_)
  refine lv_i2b hx hb dX12_feed_34 rfl ?_
  refine lv_topi (fun x140 ex140 => ?_)
  refine va_bast hx hb hK hP hD hS 1 0 rfl rfl (show vp_in 2 20 from by unfold vp_in; decide) dX12_feed_35 (fun H locs hP hD hS => ?_)
  have hP : va_P (dC, dI) vwCl [(aR, .inr (15, s91)), (q_ready, .inl (k_ready, 20, .inl (upd f135 (2 : Int32).toNatClampNeg (vp_nar .byte x140))))] H := hP
  have hD : va_D A [(aR, .inr (15, s91)), (q_ready, .inl (k_ready, 20, .inl (upd f135 (2 : Int32).toNatClampNeg (vp_nar .byte x140))))] := hD
  generalize upd f135 (2 : Int32).toNatClampNeg (vp_nar .byte x140) = f141 at hP hD
  refine lv_aload_n hx hb dX12_feed_36 rfl (lv_at hl 2 rfl) ?_
  refine va_get (D := (dC, dI)) (ci := 15) (v := .ref q_ready) (C := RX12) (T := TX12) (N := 150) hx hb hts (in_n_feed_X12) hown hK hP 0 rfl rfl 2 (by decide) (hts (.fieldLink RX12 13 "HeapWorksModel" "ready" "[B") (by decide +kernel)) (fun _ h9 => h9) (ow_at o_s91 1 rfl) dX12_feed_37 ?_
  refine lv_iconst (v := 4) hx hb dX12_feed_40 (by decide) ?_
  refine lv_iload hx hb dX12_feed_41 (lv_at hl 1 rfl) ?_
  refine lv_iadd hx hb dX12_feed_43  ?_
  refine lv_topi (fun x142 ex142 => ?_)
  obtain rfl : x142 = 6 := ex142.trans (by decide)
  refine lv_iload_n hx hb dX12_feed_44 rfl (lv_at hl 4 rfl) ?_
  refine lv_iload hx hb dX12_feed_45 (lv_at hl 0 rfl) ?_
  refine lv_ishr hx hb dX12_feed_47  ?_
  refine lv_topi (fun x143 ex143 => ?_)
  refine lv_i2b hx hb dX12_feed_48 rfl ?_
  refine lv_topi (fun x144 ex144 => ?_)
  refine va_bast hx hb hK hP hD hS 1 0 rfl rfl (show vp_in 6 20 from by unfold vp_in; decide) dX12_feed_49 (fun H locs hP hD hS => ?_)
  have hP : va_P (dC, dI) vwCl [(aR, .inr (15, s91)), (q_ready, .inl (k_ready, 20, .inl (upd f141 (6 : Int32).toNatClampNeg (vp_nar .byte x144))))] H := hP
  have hD : va_D A [(aR, .inr (15, s91)), (q_ready, .inl (k_ready, 20, .inl (upd f141 (6 : Int32).toNatClampNeg (vp_nar .byte x144))))] := hD
  generalize upd f141 (6 : Int32).toNatClampNeg (vp_nar .byte x144) = f145 at hP hD
  refine lv_aload_n hx hb dX12_feed_50 rfl (lv_at hl 2 rfl) ?_
  refine va_get (D := (dC, dI)) (ci := 15) (v := .ref q_ready) (C := RX12) (T := TX12) (N := 150) hx hb hts (in_n_feed_X12) hown hK hP 0 rfl rfl 2 (by decide) (hts (.fieldLink RX12 13 "HeapWorksModel" "ready" "[B") (by decide +kernel)) (fun _ h9 => h9) (ow_at o_s91 1 rfl) dX12_feed_51 ?_
  refine lv_bipush (v := 8) hx hb dX12_feed_54 (by decide) ?_
  refine lv_iload hx hb dX12_feed_56 (lv_at hl 1 rfl) ?_
  refine lv_iadd hx hb dX12_feed_58  ?_
  refine lv_topi (fun x146 ex146 => ?_)
  obtain rfl : x146 = 10 := ex146.trans (by decide)
  refine lv_iload_n hx hb dX12_feed_59 rfl (lv_at hl 5 rfl) ?_
  refine lv_iload hx hb dX12_feed_60 (lv_at hl 0 rfl) ?_
  refine lv_ishr hx hb dX12_feed_62  ?_
  refine lv_topi (fun x147 ex147 => ?_)
  refine lv_i2b hx hb dX12_feed_63 rfl ?_
  refine lv_topi (fun x148 ex148 => ?_)
  refine va_bast hx hb hK hP hD hS 1 0 rfl rfl (show vp_in 10 20 from by unfold vp_in; decide) dX12_feed_64 (fun H locs hP hD hS => ?_)
  have hP : va_P (dC, dI) vwCl [(aR, .inr (15, s91)), (q_ready, .inl (k_ready, 20, .inl (upd f145 (10 : Int32).toNatClampNeg (vp_nar .byte x148))))] H := hP
  have hD : va_D A [(aR, .inr (15, s91)), (q_ready, .inl (k_ready, 20, .inl (upd f145 (10 : Int32).toNatClampNeg (vp_nar .byte x148))))] := hD
  generalize upd f145 (10 : Int32).toNatClampNeg (vp_nar .byte x148) = f149 at hP hD
  refine lv_aload_n hx hb dX12_feed_65 rfl (lv_at hl 2 rfl) ?_
  refine va_get (D := (dC, dI)) (ci := 15) (v := .ref q_ready) (C := RX12) (T := TX12) (N := 150) hx hb hts (in_n_feed_X12) hown hK hP 0 rfl rfl 2 (by decide) (hts (.fieldLink RX12 13 "HeapWorksModel" "ready" "[B") (by decide +kernel)) (fun _ h9 => h9) (ow_at o_s91 1 rfl) dX12_feed_66 ?_
  refine lv_bipush (v := 12) hx hb dX12_feed_69 (by decide) ?_
  refine lv_iload hx hb dX12_feed_71 (lv_at hl 1 rfl) ?_
  refine lv_iadd hx hb dX12_feed_73  ?_
  refine lv_topi (fun x150 ex150 => ?_)
  obtain rfl : x150 = 14 := ex150.trans (by decide)
  refine lv_iload hx hb dX12_feed_74 (lv_at hl 6 rfl) ?_
  refine lv_iload hx hb dX12_feed_76 (lv_at hl 0 rfl) ?_
  refine lv_ishr hx hb dX12_feed_78  ?_
  refine lv_topi (fun x151 ex151 => ?_)
  refine lv_i2b hx hb dX12_feed_79 rfl ?_
  refine lv_topi (fun x152 ex152 => ?_)
  refine va_bast hx hb hK hP hD hS 1 0 rfl rfl (show vp_in 14 20 from by unfold vp_in; decide) dX12_feed_80 (fun H locs hP hD hS => ?_)
  have hP : va_P (dC, dI) vwCl [(aR, .inr (15, s91)), (q_ready, .inl (k_ready, 20, .inl (upd f149 (14 : Int32).toNatClampNeg (vp_nar .byte x152))))] H := hP
  have hD : va_D A [(aR, .inr (15, s91)), (q_ready, .inl (k_ready, 20, .inl (upd f149 (14 : Int32).toNatClampNeg (vp_nar .byte x152))))] := hD
  generalize upd f149 (14 : Int32).toNatClampNeg (vp_nar .byte x152) = f153 at hP hD
  refine lv_aload_n hx hb dX12_feed_81 rfl (lv_at hl 2 rfl) ?_
  refine va_get (D := (dC, dI)) (ci := 15) (v := .ref q_ready) (C := RX12) (T := TX12) (N := 150) hx hb hts (in_n_feed_X12) hown hK hP 0 rfl rfl 2 (by decide) (hts (.fieldLink RX12 13 "HeapWorksModel" "ready" "[B") (by decide +kernel)) (fun _ h9 => h9) (ow_at o_s91 1 rfl) dX12_feed_82 ?_
  refine lv_bipush (v := 16) hx hb dX12_feed_85 (by decide) ?_
  refine lv_iload hx hb dX12_feed_87 (lv_at hl 1 rfl) ?_
  refine lv_iadd hx hb dX12_feed_89  ?_
  refine lv_topi (fun x154 ex154 => ?_)
  obtain rfl : x154 = 18 := ex154.trans (by decide)
  refine lv_iload hx hb dX12_feed_90 (lv_at hl 7 rfl) ?_
  refine lv_iload hx hb dX12_feed_92 (lv_at hl 0 rfl) ?_
  refine lv_ishr hx hb dX12_feed_94  ?_
  refine lv_topi (fun x155 ex155 => ?_)
  refine lv_i2b hx hb dX12_feed_95 rfl ?_
  refine lv_topi (fun x156 ex156 => ?_)
  refine va_bast hx hb hK hP hD hS 1 0 rfl rfl (show vp_in 18 20 from by unfold vp_in; decide) dX12_feed_96 (fun H locs hP hD hS => ?_)
  have hP : va_P (dC, dI) vwCl [(aR, .inr (15, s91)), (q_ready, .inl (k_ready, 20, .inl (upd f153 (18 : Int32).toNatClampNeg (vp_nar .byte x156))))] H := hP
  have hD : va_D A [(aR, .inr (15, s91)), (q_ready, .inl (k_ready, 20, .inl (upd f153 (18 : Int32).toNatClampNeg (vp_nar .byte x156))))] := hD
  generalize upd f153 (18 : Int32).toNatClampNeg (vp_nar .byte x156) = f157 at hP hD
  refine lv_iinc (v := 3) (lv' := [(6, .int 3), (7, .int 8), (0, .ref aR), (1, .int p0), (2, .int p1), (3, .int p2), (4, .int p3), (5, .int p4)]) hx hb dX12_feed_97 hl (k := 1) rfl (by decide) (by decide) rfl (fun ls hl => ?_)
  refine lv_goto (tgt := 8) hx hb dX12_feed_100 (by decide) ?_
  refine lv_iload hx hb dX12_feed_8 (lv_at hl 0 rfl) ?_
  refine lv_iconst (v := 4) hx hb dX12_feed_10 (by decide) ?_
  refine lv_icmp_ge (tgt := 103) hx hb dX12_feed_11 (by decide) (fun c158 => absurd c158 (by decide)) (fun c158 => ?_)
  refine lv_bipush (v := 24) hx hb dX12_feed_14 (by decide) ?_
  refine lv_bipush (v := 8) hx hb dX12_feed_16 (by decide) ?_
  refine lv_iload hx hb dX12_feed_18 (lv_at hl 0 rfl) ?_
  refine lv_imul hx hb dX12_feed_20  ?_
  refine lv_topi (fun x159 ex159 => ?_)
  obtain rfl : x159 = 24 := ex159.trans (by decide)
  refine lv_isub hx hb dX12_feed_21  ?_
  refine lv_topi (fun x160 ex160 => ?_)
  obtain rfl : x160 = 0 := ex160.trans (by decide)
  refine lv_istore (lv' := [(7, .int 0), (6, .int 3), (0, .ref aR), (1, .int p0), (2, .int p1), (3, .int p2), (4, .int p3), (5, .int p4)]) hx hb dX12_feed_22 hl (by decide) rfl (fun ls hl => ?_)
  refine lv_aload_n hx hb dX12_feed_24 rfl (lv_at hl 2 rfl) ?_
  refine va_get (D := (dC, dI)) (ci := 15) (v := .ref q_ready) (C := RX12) (T := TX12) (N := 150) hx hb hts (in_n_feed_X12) hown hK hP 0 rfl rfl 2 (by decide) (hts (.fieldLink RX12 13 "HeapWorksModel" "ready" "[B") (by decide +kernel)) (fun _ h9 => h9) (ow_at o_s91 1 rfl) dX12_feed_25 ?_
  refine lv_iload hx hb dX12_feed_28 (lv_at hl 1 rfl) ?_
  refine lv_iload_n hx hb dX12_feed_30 rfl (lv_at hl 3 rfl) ?_
  refine lv_iload hx hb dX12_feed_31 (lv_at hl 0 rfl) ?_
  refine lv_ishr hx hb dX12_feed_33  ?_
  refine lv_topi (fun x161 ex161 => ?_)
  refine lv_i2b hx hb dX12_feed_34 rfl ?_
  refine lv_topi (fun x162 ex162 => ?_)
  refine va_bast hx hb hK hP hD hS 1 0 rfl rfl (show vp_in 3 20 from by unfold vp_in; decide) dX12_feed_35 (fun H locs hP hD hS => ?_)
  have hP : va_P (dC, dI) vwCl [(aR, .inr (15, s91)), (q_ready, .inl (k_ready, 20, .inl (upd f157 (3 : Int32).toNatClampNeg (vp_nar .byte x162))))] H := hP
  have hD : va_D A [(aR, .inr (15, s91)), (q_ready, .inl (k_ready, 20, .inl (upd f157 (3 : Int32).toNatClampNeg (vp_nar .byte x162))))] := hD
  generalize upd f157 (3 : Int32).toNatClampNeg (vp_nar .byte x162) = f163 at hP hD
  refine lv_aload_n hx hb dX12_feed_36 rfl (lv_at hl 2 rfl) ?_
  refine va_get (D := (dC, dI)) (ci := 15) (v := .ref q_ready) (C := RX12) (T := TX12) (N := 150) hx hb hts (in_n_feed_X12) hown hK hP 0 rfl rfl 2 (by decide) (hts (.fieldLink RX12 13 "HeapWorksModel" "ready" "[B") (by decide +kernel)) (fun _ h9 => h9) (ow_at o_s91 1 rfl) dX12_feed_37 ?_
  refine lv_iconst (v := 4) hx hb dX12_feed_40 (by decide) ?_
  refine lv_iload hx hb dX12_feed_41 (lv_at hl 1 rfl) ?_
  refine lv_iadd hx hb dX12_feed_43  ?_
  refine lv_topi (fun x164 ex164 => ?_)
  obtain rfl : x164 = 7 := ex164.trans (by decide)
  refine lv_iload_n hx hb dX12_feed_44 rfl (lv_at hl 4 rfl) ?_
  refine lv_iload hx hb dX12_feed_45 (lv_at hl 0 rfl) ?_
  refine lv_ishr hx hb dX12_feed_47  ?_
  refine lv_topi (fun x165 ex165 => ?_)
  refine lv_i2b hx hb dX12_feed_48 rfl ?_
  refine lv_topi (fun x166 ex166 => ?_)
  refine va_bast hx hb hK hP hD hS 1 0 rfl rfl (show vp_in 7 20 from by unfold vp_in; decide) dX12_feed_49 (fun H locs hP hD hS => ?_)
  have hP : va_P (dC, dI) vwCl [(aR, .inr (15, s91)), (q_ready, .inl (k_ready, 20, .inl (upd f163 (7 : Int32).toNatClampNeg (vp_nar .byte x166))))] H := hP
  have hD : va_D A [(aR, .inr (15, s91)), (q_ready, .inl (k_ready, 20, .inl (upd f163 (7 : Int32).toNatClampNeg (vp_nar .byte x166))))] := hD
  generalize upd f163 (7 : Int32).toNatClampNeg (vp_nar .byte x166) = f167 at hP hD
  refine lv_aload_n hx hb dX12_feed_50 rfl (lv_at hl 2 rfl) ?_
  refine va_get (D := (dC, dI)) (ci := 15) (v := .ref q_ready) (C := RX12) (T := TX12) (N := 150) hx hb hts (in_n_feed_X12) hown hK hP 0 rfl rfl 2 (by decide) (hts (.fieldLink RX12 13 "HeapWorksModel" "ready" "[B") (by decide +kernel)) (fun _ h9 => h9) (ow_at o_s91 1 rfl) dX12_feed_51 ?_
  refine lv_bipush (v := 8) hx hb dX12_feed_54 (by decide) ?_
  refine lv_iload hx hb dX12_feed_56 (lv_at hl 1 rfl) ?_
  refine lv_iadd hx hb dX12_feed_58  ?_
  refine lv_topi (fun x168 ex168 => ?_)
  obtain rfl : x168 = 11 := ex168.trans (by decide)
  refine lv_iload_n hx hb dX12_feed_59 rfl (lv_at hl 5 rfl) ?_
  refine lv_iload hx hb dX12_feed_60 (lv_at hl 0 rfl) ?_
  refine lv_ishr hx hb dX12_feed_62  ?_
  refine lv_topi (fun x169 ex169 => ?_)
  refine lv_i2b hx hb dX12_feed_63 rfl ?_
  refine lv_topi (fun x170 ex170 => ?_)
  refine va_bast hx hb hK hP hD hS 1 0 rfl rfl (show vp_in 11 20 from by unfold vp_in; decide) dX12_feed_64 (fun H locs hP hD hS => ?_)
  have hP : va_P (dC, dI) vwCl [(aR, .inr (15, s91)), (q_ready, .inl (k_ready, 20, .inl (upd f167 (11 : Int32).toNatClampNeg (vp_nar .byte x170))))] H := hP
  have hD : va_D A [(aR, .inr (15, s91)), (q_ready, .inl (k_ready, 20, .inl (upd f167 (11 : Int32).toNatClampNeg (vp_nar .byte x170))))] := hD
  generalize upd f167 (11 : Int32).toNatClampNeg (vp_nar .byte x170) = f171 at hP hD
  refine lv_aload_n hx hb dX12_feed_65 rfl (lv_at hl 2 rfl) ?_
  refine va_get (D := (dC, dI)) (ci := 15) (v := .ref q_ready) (C := RX12) (T := TX12) (N := 150) hx hb hts (in_n_feed_X12) hown hK hP 0 rfl rfl 2 (by decide) (hts (.fieldLink RX12 13 "HeapWorksModel" "ready" "[B") (by decide +kernel)) (fun _ h9 => h9) (ow_at o_s91 1 rfl) dX12_feed_66 ?_
  refine lv_bipush (v := 12) hx hb dX12_feed_69 (by decide) ?_
  refine lv_iload hx hb dX12_feed_71 (lv_at hl 1 rfl) ?_
  refine lv_iadd hx hb dX12_feed_73  ?_
  refine lv_topi (fun x172 ex172 => ?_)
  obtain rfl : x172 = 15 := ex172.trans (by decide)
  refine lv_iload hx hb dX12_feed_74 (lv_at hl 6 rfl) ?_
  refine lv_iload hx hb dX12_feed_76 (lv_at hl 0 rfl) ?_
  refine lv_ishr hx hb dX12_feed_78  ?_
  refine lv_topi (fun x173 ex173 => ?_)
  refine lv_i2b hx hb dX12_feed_79 rfl ?_
  refine lv_topi (fun x174 ex174 => ?_)
  refine va_bast hx hb hK hP hD hS 1 0 rfl rfl (show vp_in 15 20 from by unfold vp_in; decide) dX12_feed_80 (fun H locs hP hD hS => ?_)
  have hP : va_P (dC, dI) vwCl [(aR, .inr (15, s91)), (q_ready, .inl (k_ready, 20, .inl (upd f171 (15 : Int32).toNatClampNeg (vp_nar .byte x174))))] H := hP
  have hD : va_D A [(aR, .inr (15, s91)), (q_ready, .inl (k_ready, 20, .inl (upd f171 (15 : Int32).toNatClampNeg (vp_nar .byte x174))))] := hD
  generalize upd f171 (15 : Int32).toNatClampNeg (vp_nar .byte x174) = f175 at hP hD
  refine lv_aload_n hx hb dX12_feed_81 rfl (lv_at hl 2 rfl) ?_
  refine va_get (D := (dC, dI)) (ci := 15) (v := .ref q_ready) (C := RX12) (T := TX12) (N := 150) hx hb hts (in_n_feed_X12) hown hK hP 0 rfl rfl 2 (by decide) (hts (.fieldLink RX12 13 "HeapWorksModel" "ready" "[B") (by decide +kernel)) (fun _ h9 => h9) (ow_at o_s91 1 rfl) dX12_feed_82 ?_
  refine lv_bipush (v := 16) hx hb dX12_feed_85 (by decide) ?_
  refine lv_iload hx hb dX12_feed_87 (lv_at hl 1 rfl) ?_
  refine lv_iadd hx hb dX12_feed_89  ?_
  refine lv_topi (fun x176 ex176 => ?_)
  obtain rfl : x176 = 19 := ex176.trans (by decide)
  refine lv_iload hx hb dX12_feed_90 (lv_at hl 7 rfl) ?_
  refine lv_iload hx hb dX12_feed_92 (lv_at hl 0 rfl) ?_
  refine lv_ishr hx hb dX12_feed_94  ?_
  refine lv_topi (fun x177 ex177 => ?_)
  refine lv_i2b hx hb dX12_feed_95 rfl ?_
  refine lv_topi (fun x178 ex178 => ?_)
  refine va_bast hx hb hK hP hD hS 1 0 rfl rfl (show vp_in 19 20 from by unfold vp_in; decide) dX12_feed_96 (fun H locs hP hD hS => ?_)
  have hP : va_P (dC, dI) vwCl [(aR, .inr (15, s91)), (q_ready, .inl (k_ready, 20, .inl (upd f175 (19 : Int32).toNatClampNeg (vp_nar .byte x178))))] H := hP
  have hD : va_D A [(aR, .inr (15, s91)), (q_ready, .inl (k_ready, 20, .inl (upd f175 (19 : Int32).toNatClampNeg (vp_nar .byte x178))))] := hD
  generalize upd f175 (19 : Int32).toNatClampNeg (vp_nar .byte x178) = f179 at hP hD
  refine lv_iinc (v := 4) (lv' := [(6, .int 4), (7, .int 0), (0, .ref aR), (1, .int p0), (2, .int p1), (3, .int p2), (4, .int p3), (5, .int p4)]) hx hb dX12_feed_97 hl (k := 1) rfl (by decide) (by decide) rfl (fun ls hl => ?_)
  refine lv_goto (tgt := 8) hx hb dX12_feed_100 (by decide) ?_
  refine lv_iload hx hb dX12_feed_8 (lv_at hl 0 rfl) ?_
  refine lv_iconst (v := 4) hx hb dX12_feed_10 (by decide) ?_
  refine lv_icmp_ge (tgt := 103) hx hb dX12_feed_11 (by decide) (fun c180 => ?_) (fun c180 => absurd c180 (by decide))
  have hP9 := hP.sub (ws' := [(aR, .inr (15, s91)), (q_ready, .inl (k_ready, 20, .inl f179))]) [0, 1] rfl
  have hD9 := hD.sub (ws' := [(aR, .inr (15, s91)), (q_ready, .inl (k_ready, 20, .inl f179))]) [0, 1] (by decide) rfl
  have hK9 := hK.sub (tys' := [(k_ready, .byte)]) [0] rfl
  exact W.vret hx hb hr (fun t ht hW => ⟨⟨(s91, f179), rfl, o_s91, by rw [ht]; exact hP9, va_K.moved hW.alike hK9, hD9⟩, hS.F ht⟩) hS.2.2 dX12_feed_103

def l_n_end : List Cond := [.fieldLink RX12 388 "HeapWorksModel" "thrown" "I", .fieldLink RX12 391 "HeapWorksModel" "taped" "I", .fieldLink RX12 13 "HeapWorksModel" "ready" "[B", .fieldLink RX12 7 "HeapWorksModel" "tape" "[B"]
def w_n_end : List Cond := .code yX12_end cX12_end 3 (some .int) :: (l_n_end ++ (wsX120))
theorem in_n_end_X12 : ∀ w ∈ wsX120, w ∈ w_n_end := fun w h => List.mem_cons_of_mem _ (List.mem_append_right _ (h))
set_option maxHeartbeats 4000000 in
set_option maxRecDepth 100000 in
theorem n_end (l : Launch) (dC : Nat → ClassId) (dI : Nat → Nat → Nat) (sz : Nat) (aR : Nat) (fsR : List Value) (q_tape : Nat) (f_tape : Nat → Int32) (k_tape : ClassId) (q_ready : Nat) (f_ready : Nat → Int32) (k_ready : ClassId) (p0 : Int32) (k_fsR : fh fsR 150 [(1, .ref q_tape), (2, .ref q_ready), (3, .int 0)]) (hz_f_tape : ∀ j, f_tape j = 0) (hz_f_ready : ∀ j, f_ready j = 0) : Met l yX12_end w_n_end ({ frames := 0, cells := 0, slots := 0, locals := 0 }) (va_Pc [.ref aR, .int p0] (fun U => U.heap.size = sz ∧ Wd dC dI [(k_tape, .byte), (k_ready, .byte)] (fun _ => True) [(aR, .inr (15, fsR)), (q_tape, .inl (k_tape, 4000, .inl f_tape)), (q_ready, .inl (k_ready, 20, .inl f_ready))] U)) (va_Qi (fun (r : Int32) (u : List Value × (Nat → Int32) × (Nat → Int32)) => (p0 < 0 ∧ r = (-1) ∧ ow fsR (u.1) 150 [0] [(0, .int 0), (1, .ref q_tape), (2, .ref q_ready), (3, .int 0)] ∧ (∀ j, (u.2.1) j = 0) ∧ (∀ j, (u.2.2) j = 0)) ∨ (¬ p0 < 0 ∧ 20 < p0 ∧ r = (-1) ∧ ow fsR (u.1) 150 [0] [(0, .int 0), (1, .ref q_tape), (2, .ref q_ready), (3, .int 0)] ∧ (∀ j, (u.2.1) j = 0) ∧ (∀ j, (u.2.2) j = 0)) ∨ (¬ p0 < 0 ∧ ¬ 20 < p0 ∧ r = (0 + p0) ∧ ow fsR (u.1) 150 [3, 0] [(0, .int 0), (1, .ref q_tape), (2, .ref q_ready)])) (fun (u : List Value × (Nat → Int32) × (Nat → Int32)) t => Wd dC dI [(k_tape, .byte), (k_ready, .byte)] (va_A [(aR, .inr (15, fsR)), (q_tape, .inl (k_tape, 4000, .inl f_tape)), (q_ready, .inl (k_ready, 20, .inl f_ready))] sz) [(aR, .inr (15, (u.1))), (q_tape, .inl (k_tape, 4000, .inl ((u.2.1)))), (q_ready, .inl (k_ready, 20, .inl ((u.2.2))))] t) (va_A [(aR, .inr (15, fsR)), (q_tape, .inl (k_tape, 4000, .inl f_tape)), (q_ready, .inl (k_ready, 20, .inl f_ready))] sz))  0 0 (va_A [(aR, .inr (15, fsR)), (q_tape, .inl (k_tape, 4000, .inl f_tape)), (q_ready, .inl (k_ready, 20, .inl f_ready))] sz) := by
  refine Met.ofW (cc := cX12_end) (maxL := 3) (ret := (some .int)) (by decide) rfl ?_
  intro p e s m args below meth c s₁ B hml hv
  obtain ⟨rfl, hsz, hP, hK, hD0⟩ := hv
  have hx := B.exec
  have hb := B.bytes
  have hr := B.returns
  have hts := atoms_spec (ws := w_n_end) B.pre
  have hown : s.vm.findClass RX12 = some m.cls := findClass_of_methodNamed B.named
  have hlocks := B.notSynchronized
  subst hsz
  have hD := hD0.self (sz := s.heap.size)
  generalize hAe : va_A [(aR, .inr (15, fsR)), (q_tape, .inl (k_tape, 4000, .inl f_tape)), (q_ready, .inl (k_ready, 20, .inl f_ready))] s.heap.size = A at hD ⊢
  have hA : ∀ q : Nat, s.heap.size ≤ q → A q := fun q h => by rw [← hAe]; exact Or.inr h
  have hS : va_S A s.heap s.heap [] := va_S.rf
  have hl := lv_entry ([.ref aR, .int p0]) (n := 3) (Nat.le_of_ble_eq_true rfl)
  rw [lg_entry_eq]
  generalize (lg_sl ([.ref aR, .int p0]) ++ List.replicate (3 - (lg_sl ([.ref aR, .int p0])).length) Slot.unset).toArray = ls at hl ⊢
  have hl : lv_has ls 3 [(0, .ref aR), (1, .int p0)] := hl
  have o_fsR := ow_0 k_fsR
  refine lv_aload_n hx hb dX12_end_0 rfl (lv_at hl 0 rfl) ?_
  refine lv_iconst (v := 0) hx hb dX12_end_1 (by decide) ?_
  refine va_put (D := (dC, dI)) (ci := 15) (v := .int 0) (ty := .int) (C := RX12) (T := TX12) (N := 150) hx hb hts (in_n_end_X12) tyX12 tyX12_ok nmX12 hown hK hP hD hS 0 rfl rfl 0 (by decide) (hts (.fieldLink RX12 388 "HeapWorksModel" "thrown" "I") (by decide +kernel)) (fun _ h9 => h9) rfl (by decide +kernel) rfl rfl (by rw [o_fsR.2.1]; decide) dX12_end_2 (fun H locs hP hD hS => ?_)
  have hP : va_P (dC, dI) vwCl [(aR, .inr (15, (fsR.set 0 (.int 0)))), (q_tape, .inl (k_tape, 4000, .inl f_tape)), (q_ready, .inl (k_ready, 20, .inl f_ready))] H := hP
  have hD : va_D A [(aR, .inr (15, (fsR.set 0 (.int 0)))), (q_tape, .inl (k_tape, 4000, .inl f_tape)), (q_ready, .inl (k_ready, 20, .inl f_ready))] := hD
  have o_s342 := ow_set o_fsR 0 (.int 0) (by decide) (l' := [(0, .int 0), (1, .ref q_tape), (2, .ref q_ready), (3, .int 0)]) (w' := [0]) rfl rfl
  generalize (fsR.set 0 (.int 0)) = s342 at hP hD o_s342
  refine lv_iload_n hx hb dX12_end_5 rfl (lv_at hl 1 rfl) ?_
  refine lv_if_lt (tgt := 27) hx hb dX12_end_6 (by decide) (fun c343 => ?_) (fun c343 => ?_)
  · skip
    refine lv_iconst (v := (-1)) hx hb dX12_end_27 (by decide) ?_
    have hP9 := hP.sub (ws' := [(aR, .inr (15, s342)), (q_tape, .inl (k_tape, 4000, .inl f_tape)), (q_ready, .inl (k_ready, 20, .inl f_ready))]) [0, 1, 2] rfl
    have hD9 := hD.sub (ws' := [(aR, .inr (15, s342)), (q_tape, .inl (k_tape, 4000, .inl f_tape)), (q_ready, .inl (k_ready, 20, .inl f_ready))]) [0, 1, 2] (by decide) rfl
    have hK9 := hK.sub (tys' := [(k_tape, .byte), (k_ready, .byte)]) [0, 1] rfl
    exact W.iret (v := (-1)) hx hb hr (fun t ht hW => ⟨⟨(-1), (s342, f_tape, f_ready), rfl, (Or.inl ⟨c343, rfl, o_s342, hz_f_tape, hz_f_ready⟩), by rw [ht]; exact hP9, va_K.moved hW.alike hK9, hD9⟩, hS.F ht⟩) hS.2.2 dX12_end_28
  · skip
    refine lv_iload_n hx hb dX12_end_9 rfl (lv_at hl 1 rfl) ?_
    refine lv_bipush (v := 20) hx hb dX12_end_10 (by decide) ?_
    refine lv_icmp_gt (tgt := 27) hx hb dX12_end_12 (by decide) (fun c344 => ?_) (fun c344 => ?_)
    · skip
      refine lv_iconst (v := (-1)) hx hb dX12_end_27 (by decide) ?_
      have hP9 := hP.sub (ws' := [(aR, .inr (15, s342)), (q_tape, .inl (k_tape, 4000, .inl f_tape)), (q_ready, .inl (k_ready, 20, .inl f_ready))]) [0, 1, 2] rfl
      have hD9 := hD.sub (ws' := [(aR, .inr (15, s342)), (q_tape, .inl (k_tape, 4000, .inl f_tape)), (q_ready, .inl (k_ready, 20, .inl f_ready))]) [0, 1, 2] (by decide) rfl
      have hK9 := hK.sub (tys' := [(k_tape, .byte), (k_ready, .byte)]) [0, 1] rfl
      exact W.iret (v := (-1)) hx hb hr (fun t ht hW => ⟨⟨(-1), (s342, f_tape, f_ready), rfl, (Or.inr (Or.inl ⟨c343, c344, rfl, o_s342, hz_f_tape, hz_f_ready⟩)), by rw [ht]; exact hP9, va_K.moved hW.alike hK9, hD9⟩, hS.F ht⟩) hS.2.2 dX12_end_28
    · skip
      refine lv_aload_n hx hb dX12_end_15 rfl (lv_at hl 0 rfl) ?_
      refine va_get (D := (dC, dI)) (ci := 15) (v := .int 0) (C := RX12) (T := TX12) (N := 150) hx hb hts (in_n_end_X12) hown hK hP 0 rfl rfl 3 (by decide) (hts (.fieldLink RX12 391 "HeapWorksModel" "taped" "I") (by decide +kernel)) (fun _ h9 => h9) (ow_at o_s342 3 rfl) dX12_end_16 ?_
      refine lv_iload_n hx hb dX12_end_19 rfl (lv_at hl 1 rfl) ?_
      refine lv_iadd hx hb dX12_end_20  ?_
      refine lv_topi (fun x345 ex345 => ?_)
      have tx345 : x345.toInt = (0 : Int32).toInt + (p0 : Int32).toInt := by rw [ex345]; exact i_add (by have bd_p0 := i_bd p0; (try simp only [i_lt, i_le, i_eq, kc_0, kc_20] at c343 c344 ⊢); omega) (by have bd_p0 := i_bd p0; (try simp only [i_lt, i_le, i_eq, kc_0, kc_20] at c343 c344 ⊢); omega)
      refine lv_sipush (v := 4000) hx hb dX12_end_21 (by decide) ?_
      refine lv_icmp_le (tgt := 29) hx hb dX12_end_24 (by decide) (fun c346 => ?_) (fun c346 => (by exfalso; have bd_x345 := i_bd x345; (try simp only [i_lt, i_le, i_eq, kc_0, kc_20, kc_4000] at tx345 c343 c344 c346); omega))
      refine lv_iconst (v := 0) hx hb dX12_end_29 (by decide) ?_
      refine lv_istore_n (lv' := [(2, .int 0), (0, .ref aR), (1, .int p0)]) hx hb dX12_end_30 rfl hl (by decide) rfl (fun ls hl => ?_)
      have HL3 : ∀ (n j451 : Nat) (x452 : Int32) (f453 : Nat → Int32), x452 = nI j451 → 0 ≤ j451 → j451 ≤ 20 → 21 ≤ j451 + n → ∀ (H : Heap) (locs : List Loc) (ls : Array Slot), va_P (dC, dI) vwCl [(aR, .inr (15, s342)), (q_tape, .inl (k_tape, 4000, .inl f453)), (q_ready, .inl (k_ready, 20, .inl f_ready))] H → va_D A [(aR, .inr (15, s342)), (q_tape, .inl (k_tape, 4000, .inl f453)), (q_ready, .inl (k_ready, 20, .inl f_ready))] → va_S A s.heap H locs → lv_has ls 3 [(2, .int x452), (0, .ref aR), (1, .int p0)] → W p l e (headSpec w_n_end ({ frames := 0, cells := 0, slots := 0, locals := 0 })).room s m ([.ref aR, .int p0]).toArray below meth c H locs 0 0 (MQ below (va_Qi (fun (r : Int32) (u : List Value × (Nat → Int32) × (Nat → Int32)) => (p0 < 0 ∧ r = (-1) ∧ ow fsR (u.1) 150 [0] [(0, .int 0), (1, .ref q_tape), (2, .ref q_ready), (3, .int 0)] ∧ (∀ j, (u.2.1) j = 0) ∧ (∀ j, (u.2.2) j = 0)) ∨ (¬ p0 < 0 ∧ 20 < p0 ∧ r = (-1) ∧ ow fsR (u.1) 150 [0] [(0, .int 0), (1, .ref q_tape), (2, .ref q_ready), (3, .int 0)] ∧ (∀ j, (u.2.1) j = 0) ∧ (∀ j, (u.2.2) j = 0)) ∨ (¬ p0 < 0 ∧ ¬ 20 < p0 ∧ r = (0 + p0) ∧ ow fsR (u.1) 150 [3, 0] [(0, .int 0), (1, .ref q_tape), (2, .ref q_ready)])) (fun (u : List Value × (Nat → Int32) × (Nat → Int32)) t => Wd dC dI [(k_tape, .byte), (k_ready, .byte)] A [(aR, .inr (15, (u.1))), (q_tape, .inl (k_tape, 4000, .inl ((u.2.1)))), (q_ready, .inl (k_ready, 20, .inl ((u.2.2))))] t) A) ([.ref aR, .int p0]).toArray s 0 0 A) (F0 m 31 ls []) := by
        intro n
        induction n with
        | zero =>
          intro j451 x452 f453 e454 h456 h457 h458
          exact absurd h458 (by omega)
        | succ n ih =>
          intro j451 x452 f453 e454 h456 h457 h458 H locs ls hP hD hS hl
          have t455 : x452.toInt = (j451 : Int) := by rw [e454]; exact nI_toInt (by omega)
          refine lv_iload_n hx hb dX12_end_31 rfl (lv_at hl 0 rfl) ?_
          refine lv_iload_n hx hb dX12_end_32 rfl (lv_at hl 2 rfl) ?_
          refine lv_icmp_ge (tgt := 59) hx hb dX12_end_33 (by decide) (fun c459 => ?_) (fun c459 => ?_)
          · skip
            refine lv_aload_n hx hb dX12_end_59 rfl (lv_at hl 1 rfl) ?_
            refine lv_dup hx hb dX12_end_60 rfl ?_
            refine va_get (D := (dC, dI)) (ci := 15) (v := .int 0) (C := RX12) (T := TX12) (N := 150) hx hb hts (in_n_end_X12) hown hK hP 0 rfl rfl 3 (by decide) (hts (.fieldLink RX12 391 "HeapWorksModel" "taped" "I") (by decide +kernel)) (fun _ h9 => h9) (ow_at o_s342 3 rfl) dX12_end_61 ?_
            refine lv_iload_n hx hb dX12_end_64 rfl (lv_at hl 2 rfl) ?_
            refine lv_iadd hx hb dX12_end_65  ?_
            refine lv_topi (fun x460 ex460 => ?_)
            have tx460 : x460.toInt = (0 : Int32).toInt + (p0 : Int32).toInt := by rw [ex460]; exact i_add (by have bd_p0 := i_bd p0; (try simp only [i_lt, i_le, i_eq, kc_0, kc_20, kc_4000] at c343 c344 tx345 c346 c459 t455 h457 h456 ⊢); omega) (by have bd_p0 := i_bd p0; (try simp only [i_lt, i_le, i_eq, kc_0, kc_20, kc_4000] at c343 c344 tx345 c346 c459 t455 h457 h456 ⊢); omega)
            refine va_put (D := (dC, dI)) (ci := 15) (v := .int x460) (ty := .int) (C := RX12) (T := TX12) (N := 150) hx hb hts (in_n_end_X12) tyX12 tyX12_ok nmX12 hown hK hP hD hS 0 rfl rfl 3 (by decide) (hts (.fieldLink RX12 391 "HeapWorksModel" "taped" "I") (by decide +kernel)) (fun _ h9 => h9) rfl (by decide +kernel) rfl rfl (by rw [o_s342.2.1]; decide) dX12_end_66 (fun H locs hP hD hS => ?_)
            have hP : va_P (dC, dI) vwCl [(aR, .inr (15, (s342.set 3 (.int x460)))), (q_tape, .inl (k_tape, 4000, .inl f453)), (q_ready, .inl (k_ready, 20, .inl f_ready))] H := hP
            have hD : va_D A [(aR, .inr (15, (s342.set 3 (.int x460)))), (q_tape, .inl (k_tape, 4000, .inl f453)), (q_ready, .inl (k_ready, 20, .inl f_ready))] := hD
            have o_s461 := ow_set o_s342 3 (.int x460) (by decide) (l' := [(3, .int x460), (0, .int 0), (1, .ref q_tape), (2, .ref q_ready)]) (w' := [3, 0]) rfl rfl
            generalize (s342.set 3 (.int x460)) = s461 at hP hD o_s461
            refine lv_iconst (v := 0) hx hb dX12_end_69 (by decide) ?_
            refine lv_istore_n (lv' := [(2, .int 0), (0, .ref aR), (1, .int p0)]) hx hb dX12_end_70 rfl hl (by decide) rfl (fun ls hl => ?_)
            have HL4 : ∀ (n j486 : Nat) (x487 : Int32) (f488 : Nat → Int32), x487 = nI j486 → 0 ≤ j486 → j486 ≤ 20 → 21 ≤ j486 + n → ∀ (H : Heap) (locs : List Loc) (ls : Array Slot), va_P (dC, dI) vwCl [(aR, .inr (15, s461)), (q_tape, .inl (k_tape, 4000, .inl f453)), (q_ready, .inl (k_ready, 20, .inl f488))] H → va_D A [(aR, .inr (15, s461)), (q_tape, .inl (k_tape, 4000, .inl f453)), (q_ready, .inl (k_ready, 20, .inl f488))] → va_S A s.heap H locs → lv_has ls 3 [(2, .int x487), (0, .ref aR), (1, .int p0)] → W p l e (headSpec w_n_end ({ frames := 0, cells := 0, slots := 0, locals := 0 })).room s m ([.ref aR, .int p0]).toArray below meth c H locs 0 0 (MQ below (va_Qi (fun (r : Int32) (u : List Value × (Nat → Int32) × (Nat → Int32)) => (p0 < 0 ∧ r = (-1) ∧ ow fsR (u.1) 150 [0] [(0, .int 0), (1, .ref q_tape), (2, .ref q_ready), (3, .int 0)] ∧ (∀ j, (u.2.1) j = 0) ∧ (∀ j, (u.2.2) j = 0)) ∨ (¬ p0 < 0 ∧ 20 < p0 ∧ r = (-1) ∧ ow fsR (u.1) 150 [0] [(0, .int 0), (1, .ref q_tape), (2, .ref q_ready), (3, .int 0)] ∧ (∀ j, (u.2.1) j = 0) ∧ (∀ j, (u.2.2) j = 0)) ∨ (¬ p0 < 0 ∧ ¬ 20 < p0 ∧ r = (0 + p0) ∧ ow fsR (u.1) 150 [3, 0] [(0, .int 0), (1, .ref q_tape), (2, .ref q_ready)])) (fun (u : List Value × (Nat → Int32) × (Nat → Int32)) t => Wd dC dI [(k_tape, .byte), (k_ready, .byte)] A [(aR, .inr (15, (u.1))), (q_tape, .inl (k_tape, 4000, .inl ((u.2.1)))), (q_ready, .inl (k_ready, 20, .inl ((u.2.2))))] t) A) ([.ref aR, .int p0]).toArray s 0 0 A) (F0 m 71 ls []) := by
              intro n
              induction n with
              | zero =>
                intro j486 x487 f488 e489 h491 h492 h493
                exact absurd h493 (by omega)
              | succ n ih =>
                intro j486 x487 f488 e489 h491 h492 h493 H locs ls hP hD hS hl
                have t490 : x487.toInt = (j486 : Int) := by rw [e489]; exact nI_toInt (by omega)
                refine lv_iload_n hx hb dX12_end_71 rfl (lv_at hl 0 rfl) ?_
                refine lv_bipush (v := 20) hx hb dX12_end_72 (by decide) ?_
                refine lv_icmp_ge (tgt := 90) hx hb dX12_end_74 (by decide) (fun c494 => ?_) (fun c494 => ?_)
                · skip
                  refine lv_aload_n hx hb dX12_end_90 rfl (lv_at hl 1 rfl) ?_
                  refine va_get (D := (dC, dI)) (ci := 15) (v := .int x460) (C := RX12) (T := TX12) (N := 150) hx hb hts (in_n_end_X12) hown hK hP 0 rfl rfl 3 (by decide) (hts (.fieldLink RX12 391 "HeapWorksModel" "taped" "I") (by decide +kernel)) (fun _ h9 => h9) (ow_at o_s461 0 rfl) dX12_end_91 ?_
                  have hP9 := hP.sub (ws' := [(aR, .inr (15, s461)), (q_tape, .inl (k_tape, 4000, .inl f453)), (q_ready, .inl (k_ready, 20, .inl f488))]) [0, 1, 2] rfl
                  have hD9 := hD.sub (ws' := [(aR, .inr (15, s461)), (q_tape, .inl (k_tape, 4000, .inl f453)), (q_ready, .inl (k_ready, 20, .inl f488))]) [0, 1, 2] (by decide) rfl
                  have hK9 := hK.sub (tys' := [(k_tape, .byte), (k_ready, .byte)]) [0, 1] rfl
                  exact W.iret (v := x460) hx hb hr (fun t ht hW => ⟨⟨x460, (s461, f453, f488), rfl, (Or.inr (Or.inr (⟨c343, c344, (by subst_vars; rfl), (ow_sub o_s461 [1, 2, 3] rfl)⟩))), by rw [ht]; exact hP9, va_K.moved hW.alike hK9, hD9⟩, hS.F ht⟩) hS.2.2 dX12_end_94
                · skip
                  refine lv_aload_n hx hb dX12_end_77 rfl (lv_at hl 1 rfl) ?_
                  refine va_get (D := (dC, dI)) (ci := 15) (v := .ref q_ready) (C := RX12) (T := TX12) (N := 150) hx hb hts (in_n_end_X12) hown hK hP 0 rfl rfl 2 (by decide) (hts (.fieldLink RX12 13 "HeapWorksModel" "ready" "[B") (by decide +kernel)) (fun _ h9 => h9) (ow_at o_s461 3 rfl) dX12_end_78 ?_
                  refine lv_iload_n hx hb dX12_end_81 rfl (lv_at hl 0 rfl) ?_
                  refine lv_iconst (v := 0) hx hb dX12_end_82 (by decide) ?_
                  refine va_bast hx hb hK hP hD hS 2 1 rfl rfl (by rw [vp_in_iff]; (try simp only [i_lt, i_le, i_eq, kc_20] at t490 h492 h491 c494); omega) dX12_end_83 (fun H locs hP hD hS => ?_)
                  have hP : va_P (dC, dI) vwCl [(aR, .inr (15, s461)), (q_tape, .inl (k_tape, 4000, .inl f453)), (q_ready, .inl (k_ready, 20, .inl (upd f488 (x487 : Int32).toNatClampNeg (vp_nar .byte 0))))] H := hP
                  have hD : va_D A [(aR, .inr (15, s461)), (q_tape, .inl (k_tape, 4000, .inl f453)), (q_ready, .inl (k_ready, 20, .inl (upd f488 (x487 : Int32).toNatClampNeg (vp_nar .byte 0))))] := hD
                  have q496 : (upd f488 (x487 : Int32).toNatClampNeg (vp_nar .byte 0)) (x487 : Int32).toNatClampNeg = 0 := (pk_us.trans (by decide))
                  generalize upd f488 (x487 : Int32).toNatClampNeg (vp_nar .byte 0) = f495 at hP hD q496
                  obtain ⟨x497, ex497⟩ : ∃ y : Int32, y = x487 + 1 := ⟨_, rfl⟩
                  refine lv_iinc (v := x497) (lv' := [(2, .int x497), (0, .ref aR), (1, .int p0)]) hx hb dX12_end_84 hl (k := 0) rfl (by rw [ex497]; rfl) (by decide) rfl (fun ls hl => ?_)
                  have tx497 : x497.toInt = x487.toInt + (1 : Int32).toInt := by rw [ex497]; exact i_add (by have bd_x487 := i_bd x487; (try simp only [i_lt, i_le, i_eq, kc_20, kc_1] at t490 h492 h491 c494 ⊢); omega) (by have bd_x487 := i_bd x487; (try simp only [i_lt, i_le, i_eq, kc_20, kc_1] at t490 h492 h491 c494 ⊢); omega)
                  refine lv_goto (tgt := 71) hx hb dX12_end_87 (by decide) ?_
                  exact ih (j486 + 1) x497 f495 (by rw [ex497, e489]; exact nI_1 _) (by omega) (by (try simp only [i_lt, i_le, i_eq, kc_20, kc_1] at t490 h492 h491 c494 tx497); omega) (by omega)  _ _ _ (hP.sub [0, 1, 2] rfl) (hD.sub [0, 1, 2] (by decide) rfl) hS  (lv_sub hl [0, 1, 2] rfl)
            exact HL4 21 0 (0) f_ready (by decide) (by omega) (by omega) (by omega)  _ _ _ hP hD hS  hl
          · skip
            refine lv_aload_n hx hb dX12_end_36 rfl (lv_at hl 1 rfl) ?_
            refine va_get (D := (dC, dI)) (ci := 15) (v := .ref q_tape) (C := RX12) (T := TX12) (N := 150) hx hb hts (in_n_end_X12) hown hK hP 0 rfl rfl 1 (by decide) (hts (.fieldLink RX12 7 "HeapWorksModel" "tape" "[B") (by decide +kernel)) (fun _ h9 => h9) (ow_at o_s342 1 rfl) dX12_end_37 ?_
            refine lv_aload_n hx hb dX12_end_40 rfl (lv_at hl 1 rfl) ?_
            refine va_get (D := (dC, dI)) (ci := 15) (v := .int 0) (C := RX12) (T := TX12) (N := 150) hx hb hts (in_n_end_X12) hown hK hP 0 rfl rfl 3 (by decide) (hts (.fieldLink RX12 391 "HeapWorksModel" "taped" "I") (by decide +kernel)) (fun _ h9 => h9) (ow_at o_s342 3 rfl) dX12_end_41 ?_
            refine lv_iload_n hx hb dX12_end_44 rfl (lv_at hl 0 rfl) ?_
            refine lv_iadd hx hb dX12_end_45  ?_
            refine lv_topi (fun x498 ex498 => ?_)
            have tx498 : x498.toInt = (0 : Int32).toInt + (x452 : Int32).toInt := by rw [ex498]; exact i_add (by have bd_x452 := i_bd x452; (try simp only [i_lt, i_le, i_eq, kc_0, kc_20, kc_4000] at t455 h457 h456 c459 c343 c344 tx345 c346 ⊢); omega) (by have bd_x452 := i_bd x452; (try simp only [i_lt, i_le, i_eq, kc_0, kc_20, kc_4000] at t455 h457 h456 c459 c343 c344 tx345 c346 ⊢); omega)
            refine lv_aload_n hx hb dX12_end_46 rfl (lv_at hl 1 rfl) ?_
            refine va_get (D := (dC, dI)) (ci := 15) (v := .ref q_ready) (C := RX12) (T := TX12) (N := 150) hx hb hts (in_n_end_X12) hown hK hP 0 rfl rfl 2 (by decide) (hts (.fieldLink RX12 13 "HeapWorksModel" "ready" "[B") (by decide +kernel)) (fun _ h9 => h9) (ow_at o_s342 2 rfl) dX12_end_47 ?_
            refine lv_iload_n hx hb dX12_end_50 rfl (lv_at hl 0 rfl) ?_
            refine va_bald hx hb hK hP 2 1 rfl rfl (by rw [vp_in_iff]; (try simp only [i_lt, i_le, i_eq, kc_0, kc_20, kc_4000] at t455 h457 h456 c459 tx498 c343 c344 tx345 c346); omega) dX12_end_51 ?_
            refine lv_topi (fun x499 ex499 => ?_)
            obtain rfl : x499 = 0 := ex499.trans (hz_f_ready _)
            refine va_bast hx hb hK hP hD hS 1 0 rfl rfl (by rw [vp_in_iff]; (try simp only [i_lt, i_le, i_eq, kc_0, kc_20, kc_4000] at tx498 t455 h457 h456 c459 c343 c344 tx345 c346); omega) dX12_end_52 (fun H locs hP hD hS => ?_)
            have hP : va_P (dC, dI) vwCl [(aR, .inr (15, s342)), (q_tape, .inl (k_tape, 4000, .inl (upd f453 (x498 : Int32).toNatClampNeg (vp_nar .byte 0)))), (q_ready, .inl (k_ready, 20, .inl f_ready))] H := hP
            have hD : va_D A [(aR, .inr (15, s342)), (q_tape, .inl (k_tape, 4000, .inl (upd f453 (x498 : Int32).toNatClampNeg (vp_nar .byte 0)))), (q_ready, .inl (k_ready, 20, .inl f_ready))] := hD
            have q501 : (upd f453 (x498 : Int32).toNatClampNeg (vp_nar .byte 0)) (x498 : Int32).toNatClampNeg = 0 := (pk_us.trans (by decide))
            generalize upd f453 (x498 : Int32).toNatClampNeg (vp_nar .byte 0) = f500 at hP hD q501
            obtain ⟨x502, ex502⟩ : ∃ y : Int32, y = x452 + 1 := ⟨_, rfl⟩
            refine lv_iinc (v := x502) (lv' := [(2, .int x502), (0, .ref aR), (1, .int p0)]) hx hb dX12_end_53 hl (k := 0) rfl (by rw [ex502]; rfl) (by decide) rfl (fun ls hl => ?_)
            have tx502 : x502.toInt = x452.toInt + (1 : Int32).toInt := by rw [ex502]; exact i_add (by have bd_x452 := i_bd x452; (try simp only [i_lt, i_le, i_eq, kc_0, kc_20, kc_4000, kc_1] at t455 h457 h456 c459 tx498 c343 c344 tx345 c346 ⊢); omega) (by have bd_x452 := i_bd x452; (try simp only [i_lt, i_le, i_eq, kc_0, kc_20, kc_4000, kc_1] at t455 h457 h456 c459 tx498 c343 c344 tx345 c346 ⊢); omega)
            refine lv_goto (tgt := 31) hx hb dX12_end_56 (by decide) ?_
            exact ih (j451 + 1) x502 f500 (by rw [ex502, e454]; exact nI_1 _) (by omega) (by (try simp only [i_lt, i_le, i_eq, kc_0, kc_1, kc_20, kc_4000] at t455 h457 h456 c459 tx498 tx502 c343 c344 tx345 c346); omega) (by omega)  _ _ _ (hP.sub [0, 1, 2] rfl) (hD.sub [0, 1, 2] (by decide) rfl) hS  (lv_sub hl [0, 1, 2] rfl)
      exact HL3 21 0 (0) f_tape (by decide) (by omega) (by omega) (by omega)  _ _ _ hP hD hS  hl

def l_n_wipe : List Cond := [.fieldLink RX12 388 "HeapWorksModel" "thrown" "I", .fieldLink RX12 391 "HeapWorksModel" "taped" "I"]
def w_n_wipe : List Cond := .code yX12_wipe cX12_wipe 1 none :: (l_n_wipe ++ (wsX120))
theorem in_n_wipe_X12 : ∀ w ∈ wsX120, w ∈ w_n_wipe := fun w h => List.mem_cons_of_mem _ (List.mem_append_right _ (h))
set_option maxHeartbeats 4000000 in
set_option maxRecDepth 100000 in
theorem n_wipe (l : Launch) (dC : Nat → ClassId) (dI : Nat → Nat → Nat) (sz : Nat) (aR : Nat) (fsR : List Value) (k_fsR : fh fsR 150 [])  : Met l yX12_wipe w_n_wipe ({ frames := 0, cells := 0, slots := 0, locals := 0 }) (va_Pc [.ref aR] (fun U => U.heap.size = sz ∧ Wd dC dI [] (fun _ => True) [(aR, .inr (15, fsR))] U)) (va_Qv (fun (u : List Value) => ow fsR (u) 150 [3, 0] [(3, .int 0), (0, .int 0)]) (fun (u : List Value) t => Wd dC dI [] (va_A [(aR, .inr (15, fsR))] sz) [(aR, .inr (15, (u)))] t) (va_A [(aR, .inr (15, fsR))] sz))  0 0 (va_A [(aR, .inr (15, fsR))] sz) := by
  refine Met.ofW (cc := cX12_wipe) (maxL := 1) (ret := none) (by decide) rfl ?_
  intro p e s m args below meth c s₁ B hml hv
  obtain ⟨rfl, hsz, hP, hK, hD0⟩ := hv
  have hx := B.exec
  have hb := B.bytes
  have hr := B.returns
  have hts := atoms_spec (ws := w_n_wipe) B.pre
  have hown : s.vm.findClass RX12 = some m.cls := findClass_of_methodNamed B.named
  have hlocks := B.notSynchronized
  subst hsz
  have hD := hD0.self (sz := s.heap.size)
  generalize hAe : va_A [(aR, .inr (15, fsR))] s.heap.size = A at hD ⊢
  have hA : ∀ q : Nat, s.heap.size ≤ q → A q := fun q h => by rw [← hAe]; exact Or.inr h
  have hS : va_S A s.heap s.heap [] := va_S.rf
  have hl := lv_entry ([.ref aR]) (n := 1) (Nat.le_of_ble_eq_true rfl)
  rw [lg_entry_eq]
  generalize (lg_sl ([.ref aR]) ++ List.replicate (1 - (lg_sl ([.ref aR])).length) Slot.unset).toArray = ls at hl ⊢
  have hl : lv_has ls 1 [(0, .ref aR)] := hl
  have o_fsR := ow_0 k_fsR
  refine lv_aload_n hx hb dX12_wipe_0 rfl (lv_at hl 0 rfl) ?_
  refine lv_iconst (v := 0) hx hb dX12_wipe_1 (by decide) ?_
  refine va_put (D := (dC, dI)) (ci := 15) (v := .int 0) (ty := .int) (C := RX12) (T := TX12) (N := 150) hx hb hts (in_n_wipe_X12) tyX12 tyX12_ok nmX12 hown hK hP hD hS 0 rfl rfl 0 (by decide) (hts (.fieldLink RX12 388 "HeapWorksModel" "thrown" "I") (by decide +kernel)) (fun _ h9 => h9) rfl (by decide +kernel) rfl rfl (by rw [o_fsR.2.1]; decide) dX12_wipe_2 (fun H locs hP hD hS => ?_)
  have hP : va_P (dC, dI) vwCl [(aR, .inr (15, (fsR.set 0 (.int 0))))] H := hP
  have hD : va_D A [(aR, .inr (15, (fsR.set 0 (.int 0))))] := hD
  have o_s505 := ow_set o_fsR 0 (.int 0) (by decide) (l' := [(0, .int 0)]) (w' := [0]) rfl rfl
  generalize (fsR.set 0 (.int 0)) = s505 at hP hD o_s505
  refine lv_aload_n hx hb dX12_wipe_5 rfl (lv_at hl 0 rfl) ?_
  refine lv_iconst (v := 0) hx hb dX12_wipe_6 (by decide) ?_
  refine va_put (D := (dC, dI)) (ci := 15) (v := .int 0) (ty := .int) (C := RX12) (T := TX12) (N := 150) hx hb hts (in_n_wipe_X12) tyX12 tyX12_ok nmX12 hown hK hP hD hS 0 rfl rfl 3 (by decide) (hts (.fieldLink RX12 391 "HeapWorksModel" "taped" "I") (by decide +kernel)) (fun _ h9 => h9) rfl (by decide +kernel) rfl rfl (by rw [o_s505.2.1]; decide) dX12_wipe_7 (fun H locs hP hD hS => ?_)
  have hP : va_P (dC, dI) vwCl [(aR, .inr (15, (s505.set 3 (.int 0))))] H := hP
  have hD : va_D A [(aR, .inr (15, (s505.set 3 (.int 0))))] := hD
  have o_s506 := ow_set o_s505 3 (.int 0) (by decide) (l' := [(3, .int 0), (0, .int 0)]) (w' := [3, 0]) rfl rfl
  generalize (s505.set 3 (.int 0)) = s506 at hP hD o_s506
  have hP9 := hP.sub (ws' := [(aR, .inr (15, s506))]) [0] rfl
  have hD9 := hD.sub (ws' := [(aR, .inr (15, s506))]) [0] (by decide) rfl
  have hK9 := hK.sub (tys' := []) [] rfl
  exact W.vret hx hb hr (fun t ht hW => ⟨⟨s506, rfl, o_s506, by rw [ht]; exact hP9, va_K.moved hW.alike hK9, hD9⟩, hS.F ht⟩) hS.2.2 dX12_wipe_10

def l_n_flip : List Cond := [.fieldLink RX12 388 "HeapWorksModel" "thrown" "I", .fieldLink RX12 391 "HeapWorksModel" "taped" "I"]
def w_n_flip : List Cond := .code yX12_flip cX12_flip 3 (some .boolean) :: (l_n_flip ++ (wsX120))
theorem in_n_flip_X12 : ∀ w ∈ wsX120, w ∈ w_n_flip := fun w h => List.mem_cons_of_mem _ (List.mem_append_right _ (h))
set_option maxHeartbeats 4000000 in
set_option maxRecDepth 100000 in
theorem n_flip (l : Launch) (dC : Nat → ClassId) (dI : Nat → Nat → Nat) (sz : Nat) (aR : Nat) (fsR : List Value) (p0 : Int32) (p1 : Int32) (k_fsR : fh fsR 150 [(3, .int 0)])  : Met l yX12_flip w_n_flip ({ frames := 0, cells := 0, slots := 0, locals := 0 }) (va_Pc [.ref aR, .int p0, .int p1] (fun U => U.heap.size = sz ∧ Wd dC dI [] (fun _ => True) [(aR, .inr (15, fsR))] U)) (va_Qi (fun (r : Int32) (u : List Value) => (p0 < 0 ∧ r = 0 ∧ ow fsR (u) 150 [0] [(0, .int 0), (3, .int 0)]) ∨ (¬ p0 < 0 ∧ 0 ≤ p0 ∧ r = 0 ∧ ow fsR (u) 150 [0] [(0, .int 0), (3, .int 0)])) (fun (u : List Value) t => Wd dC dI [] (va_A [(aR, .inr (15, fsR))] sz) [(aR, .inr (15, (u)))] t) (va_A [(aR, .inr (15, fsR))] sz))  0 0 (va_A [(aR, .inr (15, fsR))] sz) := by
  refine Met.ofW (cc := cX12_flip) (maxL := 3) (ret := (some .boolean)) (by decide) rfl ?_
  intro p e s m args below meth c s₁ B hml hv
  obtain ⟨rfl, hsz, hP, hK, hD0⟩ := hv
  have hx := B.exec
  have hb := B.bytes
  have hr := B.returns
  have hts := atoms_spec (ws := w_n_flip) B.pre
  have hown : s.vm.findClass RX12 = some m.cls := findClass_of_methodNamed B.named
  have hlocks := B.notSynchronized
  subst hsz
  have hD := hD0.self (sz := s.heap.size)
  generalize hAe : va_A [(aR, .inr (15, fsR))] s.heap.size = A at hD ⊢
  have hA : ∀ q : Nat, s.heap.size ≤ q → A q := fun q h => by rw [← hAe]; exact Or.inr h
  have hS : va_S A s.heap s.heap [] := va_S.rf
  have hl := lv_entry ([.ref aR, .int p0, .int p1]) (n := 3) (Nat.le_of_ble_eq_true rfl)
  rw [lg_entry_eq]
  generalize (lg_sl ([.ref aR, .int p0, .int p1]) ++ List.replicate (3 - (lg_sl ([.ref aR, .int p0, .int p1])).length) Slot.unset).toArray = ls at hl ⊢
  have hl : lv_has ls 3 [(0, .ref aR), (1, .int p0), (2, .int p1)] := hl
  have o_fsR := ow_0 k_fsR
  refine lv_aload_n hx hb dX12_flip_0 rfl (lv_at hl 0 rfl) ?_
  refine lv_iconst (v := 0) hx hb dX12_flip_1 (by decide) ?_
  refine va_put (D := (dC, dI)) (ci := 15) (v := .int 0) (ty := .int) (C := RX12) (T := TX12) (N := 150) hx hb hts (in_n_flip_X12) tyX12 tyX12_ok nmX12 hown hK hP hD hS 0 rfl rfl 0 (by decide) (hts (.fieldLink RX12 388 "HeapWorksModel" "thrown" "I") (by decide +kernel)) (fun _ h9 => h9) rfl (by decide +kernel) rfl rfl (by rw [o_fsR.2.1]; decide) dX12_flip_2 (fun H locs hP hD hS => ?_)
  have hP : va_P (dC, dI) vwCl [(aR, .inr (15, (fsR.set 0 (.int 0))))] H := hP
  have hD : va_D A [(aR, .inr (15, (fsR.set 0 (.int 0))))] := hD
  have o_s510 := ow_set o_fsR 0 (.int 0) (by decide) (l' := [(0, .int 0), (3, .int 0)]) (w' := [0]) rfl rfl
  generalize (fsR.set 0 (.int 0)) = s510 at hP hD o_s510
  refine lv_iload_n hx hb dX12_flip_5 rfl (lv_at hl 1 rfl) ?_
  refine lv_if_lt (tgt := 27) hx hb dX12_flip_6 (by decide) (fun c511 => ?_) (fun c511 => ?_)
  · skip
    refine lv_iconst (v := 0) hx hb dX12_flip_27 (by decide) ?_
    have hP9 := hP.sub (ws' := [(aR, .inr (15, s510))]) [0] rfl
    have hD9 := hD.sub (ws' := [(aR, .inr (15, s510))]) [0] (by decide) rfl
    have hK9 := hK.sub (tys' := []) [] rfl
    exact W.zret (v := 0) hx hb hr rfl (fun t ht hW => ⟨⟨0, s510, rfl, (Or.inl ⟨c511, rfl, o_s510⟩), by rw [ht]; exact hP9, va_K.moved hW.alike hK9, hD9⟩, hS.F ht⟩) hS.2.2 dX12_flip_28
  · skip
    refine lv_iload_n hx hb dX12_flip_9 rfl (lv_at hl 1 rfl) ?_
    refine lv_aload_n hx hb dX12_flip_10 rfl (lv_at hl 0 rfl) ?_
    refine va_get (D := (dC, dI)) (ci := 15) (v := .int 0) (C := RX12) (T := TX12) (N := 150) hx hb hts (in_n_flip_X12) hown hK hP 0 rfl rfl 3 (by decide) (hts (.fieldLink RX12 391 "HeapWorksModel" "taped" "I") (by decide +kernel)) (fun _ h9 => h9) (ow_at o_s510 1 rfl) dX12_flip_11 ?_
    refine lv_icmp_ge (tgt := 27) hx hb dX12_flip_14 (by decide) (fun c512 => ?_) (fun c512 => (by exfalso; have bd_p0 := i_bd p0; (try simp only [i_lt, i_le, i_eq, kc_0] at c511 c512); omega))
    refine lv_iconst (v := 0) hx hb dX12_flip_27 (by decide) ?_
    have hP9 := hP.sub (ws' := [(aR, .inr (15, s510))]) [0] rfl
    have hD9 := hD.sub (ws' := [(aR, .inr (15, s510))]) [0] (by decide) rfl
    have hK9 := hK.sub (tys' := []) [] rfl
    exact W.zret (v := 0) hx hb hr rfl (fun t ht hW => ⟨⟨0, s510, rfl, (Or.inr (⟨c511, c512, rfl, o_s510⟩)), by rw [ht]; exact hP9, va_K.moved hW.alike hK9, hD9⟩, hS.F ht⟩) hS.2.2 dX12_flip_28

def l_n_cut : List Cond := [.fieldLink RX12 388 "HeapWorksModel" "thrown" "I", .fieldLink RX12 391 "HeapWorksModel" "taped" "I"]
def w_n_cut : List Cond := .code yX12_cut cX12_cut 2 (some .boolean) :: (l_n_cut ++ (wsX120))
theorem in_n_cut_X12 : ∀ w ∈ wsX120, w ∈ w_n_cut := fun w h => List.mem_cons_of_mem _ (List.mem_append_right _ (h))
set_option maxHeartbeats 4000000 in
set_option maxRecDepth 100000 in
theorem n_cut (l : Launch) (dC : Nat → ClassId) (dI : Nat → Nat → Nat) (sz : Nat) (aR : Nat) (fsR : List Value) (p0 : Int32) (k_fsR : fh fsR 150 [(3, .int 0)])  : Met l yX12_cut w_n_cut ({ frames := 0, cells := 0, slots := 0, locals := 0 }) (va_Pc [.ref aR, .int p0] (fun U => U.heap.size = sz ∧ Wd dC dI [] (fun _ => True) [(aR, .inr (15, fsR))] U)) (va_Qi (fun (r : Int32) (u : List Value) => (p0 < 0 ∧ r = 0 ∧ ow fsR (u) 150 [0] [(0, .int 0), (3, .int 0)]) ∨ (¬ p0 < 0 ∧ p0 ≤ 0 ∧ r = 1 ∧ ow fsR (u) 150 [3, 0] [(3, .int p0), (0, .int 0)]) ∨ (¬ p0 < 0 ∧ ¬ p0 ≤ 0 ∧ r = 0 ∧ ow fsR (u) 150 [0] [(0, .int 0), (3, .int 0)])) (fun (u : List Value) t => Wd dC dI [] (va_A [(aR, .inr (15, fsR))] sz) [(aR, .inr (15, (u)))] t) (va_A [(aR, .inr (15, fsR))] sz))  0 0 (va_A [(aR, .inr (15, fsR))] sz) := by
  refine Met.ofW (cc := cX12_cut) (maxL := 2) (ret := (some .boolean)) (by decide) rfl ?_
  intro p e s m args below meth c s₁ B hml hv
  obtain ⟨rfl, hsz, hP, hK, hD0⟩ := hv
  have hx := B.exec
  have hb := B.bytes
  have hr := B.returns
  have hts := atoms_spec (ws := w_n_cut) B.pre
  have hown : s.vm.findClass RX12 = some m.cls := findClass_of_methodNamed B.named
  have hlocks := B.notSynchronized
  subst hsz
  have hD := hD0.self (sz := s.heap.size)
  generalize hAe : va_A [(aR, .inr (15, fsR))] s.heap.size = A at hD ⊢
  have hA : ∀ q : Nat, s.heap.size ≤ q → A q := fun q h => by rw [← hAe]; exact Or.inr h
  have hS : va_S A s.heap s.heap [] := va_S.rf
  have hl := lv_entry ([.ref aR, .int p0]) (n := 2) (Nat.le_of_ble_eq_true rfl)
  rw [lg_entry_eq]
  generalize (lg_sl ([.ref aR, .int p0]) ++ List.replicate (2 - (lg_sl ([.ref aR, .int p0])).length) Slot.unset).toArray = ls at hl ⊢
  have hl : lv_has ls 2 [(0, .ref aR), (1, .int p0)] := hl
  have o_fsR := ow_0 k_fsR
  refine lv_aload_n hx hb dX12_cut_0 rfl (lv_at hl 0 rfl) ?_
  refine lv_iconst (v := 0) hx hb dX12_cut_1 (by decide) ?_
  refine va_put (D := (dC, dI)) (ci := 15) (v := .int 0) (ty := .int) (C := RX12) (T := TX12) (N := 150) hx hb hts (in_n_cut_X12) tyX12 tyX12_ok nmX12 hown hK hP hD hS 0 rfl rfl 0 (by decide) (hts (.fieldLink RX12 388 "HeapWorksModel" "thrown" "I") (by decide +kernel)) (fun _ h9 => h9) rfl (by decide +kernel) rfl rfl (by rw [o_fsR.2.1]; decide) dX12_cut_2 (fun H locs hP hD hS => ?_)
  have hP : va_P (dC, dI) vwCl [(aR, .inr (15, (fsR.set 0 (.int 0))))] H := hP
  have hD : va_D A [(aR, .inr (15, (fsR.set 0 (.int 0))))] := hD
  have o_s517 := ow_set o_fsR 0 (.int 0) (by decide) (l' := [(0, .int 0), (3, .int 0)]) (w' := [0]) rfl rfl
  generalize (fsR.set 0 (.int 0)) = s517 at hP hD o_s517
  refine lv_iload_n hx hb dX12_cut_5 rfl (lv_at hl 1 rfl) ?_
  refine lv_if_lt (tgt := 17) hx hb dX12_cut_6 (by decide) (fun c518 => ?_) (fun c518 => ?_)
  · skip
    refine lv_iconst (v := 0) hx hb dX12_cut_17 (by decide) ?_
    have hP9 := hP.sub (ws' := [(aR, .inr (15, s517))]) [0] rfl
    have hD9 := hD.sub (ws' := [(aR, .inr (15, s517))]) [0] (by decide) rfl
    have hK9 := hK.sub (tys' := []) [] rfl
    exact W.zret (v := 0) hx hb hr rfl (fun t ht hW => ⟨⟨0, s517, rfl, (Or.inl ⟨c518, rfl, o_s517⟩), by rw [ht]; exact hP9, va_K.moved hW.alike hK9, hD9⟩, hS.F ht⟩) hS.2.2 dX12_cut_18
  · skip
    refine lv_iload_n hx hb dX12_cut_9 rfl (lv_at hl 1 rfl) ?_
    refine lv_aload_n hx hb dX12_cut_10 rfl (lv_at hl 0 rfl) ?_
    refine va_get (D := (dC, dI)) (ci := 15) (v := .int 0) (C := RX12) (T := TX12) (N := 150) hx hb hts (in_n_cut_X12) hown hK hP 0 rfl rfl 3 (by decide) (hts (.fieldLink RX12 391 "HeapWorksModel" "taped" "I") (by decide +kernel)) (fun _ h9 => h9) (ow_at o_s517 1 rfl) dX12_cut_11 ?_
    refine lv_icmp_le (tgt := 19) hx hb dX12_cut_14 (by decide) (fun c519 => ?_) (fun c519 => ?_)
    · skip
      refine lv_aload_n hx hb dX12_cut_19 rfl (lv_at hl 0 rfl) ?_
      refine lv_iload_n hx hb dX12_cut_20 rfl (lv_at hl 1 rfl) ?_
      refine va_put (D := (dC, dI)) (ci := 15) (v := .int p0) (ty := .int) (C := RX12) (T := TX12) (N := 150) hx hb hts (in_n_cut_X12) tyX12 tyX12_ok nmX12 hown hK hP hD hS 0 rfl rfl 3 (by decide) (hts (.fieldLink RX12 391 "HeapWorksModel" "taped" "I") (by decide +kernel)) (fun _ h9 => h9) rfl (by decide +kernel) rfl rfl (by rw [o_s517.2.1]; decide) dX12_cut_21 (fun H locs hP hD hS => ?_)
      have hP : va_P (dC, dI) vwCl [(aR, .inr (15, (s517.set 3 (.int p0))))] H := hP
      have hD : va_D A [(aR, .inr (15, (s517.set 3 (.int p0))))] := hD
      have o_s520 := ow_set o_s517 3 (.int p0) (by decide) (l' := [(3, .int p0), (0, .int 0)]) (w' := [3, 0]) rfl rfl
      generalize (s517.set 3 (.int p0)) = s520 at hP hD o_s520
      refine lv_iconst (v := 1) hx hb dX12_cut_24 (by decide) ?_
      have hP9 := hP.sub (ws' := [(aR, .inr (15, s520))]) [0] rfl
      have hD9 := hD.sub (ws' := [(aR, .inr (15, s520))]) [0] (by decide) rfl
      have hK9 := hK.sub (tys' := []) [] rfl
      exact W.zret (v := 1) hx hb hr rfl (fun t ht hW => ⟨⟨1, s520, rfl, (Or.inr (Or.inl ⟨c518, c519, rfl, o_s520⟩)), by rw [ht]; exact hP9, va_K.moved hW.alike hK9, hD9⟩, hS.F ht⟩) hS.2.2 dX12_cut_25
    · skip
      refine lv_iconst (v := 0) hx hb dX12_cut_17 (by decide) ?_
      have hP9 := hP.sub (ws' := [(aR, .inr (15, s517))]) [0] rfl
      have hD9 := hD.sub (ws' := [(aR, .inr (15, s517))]) [0] (by decide) rfl
      have hK9 := hK.sub (tys' := []) [] rfl
      exact W.zret (v := 0) hx hb hr rfl (fun t ht hW => ⟨⟨0, s517, rfl, (Or.inr (Or.inr (⟨c518, c519, rfl, o_s517⟩))), by rw [ht]; exact hP9, va_K.moved hW.alike hK9, hD9⟩, hS.F ht⟩) hS.2.2 dX12_cut_18

def l_z_X12_tapeName : List Cond := [.fieldLink RX12 391 "HeapWorksModel" "taped" "I"]
def w_z_X12_tapeName : List Cond := .code yX12_tapeName cX12_tapeName 5 (some .long) :: (l_z_X12_tapeName ++ (wsX120))
theorem in_z_X12_tapeName_X12 : ∀ w ∈ wsX120, w ∈ w_z_X12_tapeName := fun w h => List.mem_cons_of_mem _ (List.mem_append_right _ (h))
set_option maxHeartbeats 4000000 in
set_option maxRecDepth 100000 in
theorem z_X12_tapeName (l : Launch) (dC : Nat → ClassId) (dI : Nat → Nat → Nat) (sz : Nat) (Ad0 : Nat) (Fs0 : List Value) (k_Fs0 : fh Fs0 150 [(3, .int 0)])  : Met l yX12_tapeName w_z_X12_tapeName ({ frames := 0, cells := 0, slots := 0, locals := 0 }) (va_Pc [.ref Ad0] (fun U => U.heap.size = sz ∧ Wd dC dI [] (fun _ => True) [(Ad0, .inr (15, Fs0))] U)) (va_Ql (fun (r : Int64) (u : Unit) => r = 0) (fun (u : Unit) t => Wd dC dI [] (va_A [(Ad0, .inr (15, Fs0))] sz) [(Ad0, .inr (15, Fs0))] t) (va_A [(Ad0, .inr (15, Fs0))] sz))  0 0 (va_A [(Ad0, .inr (15, Fs0))] sz) := by
  refine Met.ofW (cc := cX12_tapeName) (maxL := 5) (ret := (some .long)) (by decide) rfl ?_
  intro p e s m args below meth c s₁ B hml hv
  obtain ⟨rfl, hsz, hP, hK, hD0⟩ := hv
  have hx := B.exec
  have hb := B.bytes
  have hr := B.returns
  have hts := atoms_spec (ws := w_z_X12_tapeName) B.pre
  have hown : s.vm.findClass RX12 = some m.cls := findClass_of_methodNamed B.named
  have hlocks := B.notSynchronized
  subst hsz
  have hD := hD0.self (sz := s.heap.size)
  generalize hAe : va_A [(Ad0, .inr (15, Fs0))] s.heap.size = A at hD ⊢
  have hA : ∀ q : Nat, s.heap.size ≤ q → A q := fun q h => by rw [← hAe]; exact Or.inr h
  have hS : va_S A s.heap s.heap [] := va_S.rf
  have hl := lv_entry ([.ref Ad0]) (n := 5) (Nat.le_of_ble_eq_true rfl)
  rw [lg_entry_eq]
  generalize (lg_sl ([.ref Ad0]) ++ List.replicate (5 - (lg_sl ([.ref Ad0])).length) Slot.unset).toArray = ls at hl ⊢
  have hl : lv_has ls 5 [(0, .ref Ad0)] := hl
  have o_Fs0 := ow_0 k_Fs0
  refine lv_lconst (v := 0) hx hb dX12_tapeName_0 (by decide) ?_
  refine lv_lstore_n (lv' := [(1, .long 0), (0, .ref Ad0)]) hx hb dX12_tapeName_1 rfl hl (by decide) rfl (fun ls hl => ?_)
  refine lv_aload_n hx hb dX12_tapeName_2 rfl (lv_at hl 1 rfl) ?_
  refine va_get (D := (dC, dI)) (ci := 15) (v := .int 0) (C := RX12) (T := TX12) (N := 150) hx hb hts (in_z_X12_tapeName_X12) hown hK hP 0 rfl rfl 3 (by decide) (hts (.fieldLink RX12 391 "HeapWorksModel" "taped" "I") (by decide +kernel)) (fun _ h9 => h9) (ow_at o_Fs0 0 rfl) dX12_tapeName_3 ?_
  refine lv_if_le (tgt := 34) hx hb dX12_tapeName_6 (by decide) (fun c531 => ?_) (fun c531 => absurd c531 (by decide))
  refine lv_iconst (v := 0) hx hb dX12_tapeName_34 (by decide) ?_
  refine lv_istore_n (lv' := [(3, .int 0), (1, .long 0), (0, .ref Ad0)]) hx hb dX12_tapeName_35 rfl hl (by decide) rfl (fun ls hl => ?_)
  refine lv_iconst (v := 0) hx hb dX12_tapeName_36 (by decide) ?_
  refine lv_istore (lv' := [(4, .int 0), (3, .int 0), (1, .long 0), (0, .ref Ad0)]) hx hb dX12_tapeName_37 hl (by decide) rfl (fun ls hl => ?_)
  refine lv_iload hx hb dX12_tapeName_39 (lv_at hl 0 rfl) ?_
  refine lv_aload_n hx hb dX12_tapeName_41 rfl (lv_at hl 3 rfl) ?_
  refine va_get (D := (dC, dI)) (ci := 15) (v := .int 0) (C := RX12) (T := TX12) (N := 150) hx hb hts (in_z_X12_tapeName_X12) hown hK hP 0 rfl rfl 3 (by decide) (hts (.fieldLink RX12 391 "HeapWorksModel" "taped" "I") (by decide +kernel)) (fun _ h9 => h9) (ow_at o_Fs0 0 rfl) dX12_tapeName_42 ?_
  refine lv_icmp_ge (tgt := 116) hx hb dX12_tapeName_45 (by decide) (fun c532 => ?_) (fun c532 => absurd c532 (by decide))
  refine lv_iload_n hx hb dX12_tapeName_116 rfl (lv_at hl 1 rfl) ?_
  refine lv_if_eq (tgt := 133) hx hb dX12_tapeName_117 (by decide) (fun c533 => ?_) (fun c533 => absurd c533 (by decide))
  refine lv_lconst (v := 0) hx hb dX12_tapeName_133 (by decide) ?_
  have hP9 := hP.sub (ws' := [(Ad0, .inr (15, Fs0))]) [0] rfl
  have hD9 := hD.sub (ws' := [(Ad0, .inr (15, Fs0))]) [0] (by decide) rfl
  have hK9 := hK.sub (tys' := []) [] rfl
  exact W.lret (v := 0) hx hb hr (fun t ht hW => ⟨⟨0, (), rfl, rfl, by rw [ht]; exact hP9, va_K.moved hW.alike hK9, hD9⟩, hS.F ht⟩) hS.2.2 dX12_tapeName_134

def l_z_X12_isClass : List Cond := [.fieldLink RX12 413 "HeapWorksModel" "classes" "I"]
def w_z_X12_isClass : List Cond := .code yX12_isClass cX12_isClass 2 (some .boolean) :: (l_z_X12_isClass ++ (wsX120))
theorem in_z_X12_isClass_X12 : ∀ w ∈ wsX120, w ∈ w_z_X12_isClass := fun w h => List.mem_cons_of_mem _ (List.mem_append_right _ (h))
set_option maxHeartbeats 4000000 in
set_option maxRecDepth 100000 in
theorem z_X12_isClass (l : Launch) (dC : Nat → ClassId) (dI : Nat → Nat → Nat) (sz : Nat) (Ad0 : Nat) (Fs0 : List Value) (Va0 : Int32) (k_Fs0 : fh Fs0 150 [(20, .int 0)])  : Met l yX12_isClass w_z_X12_isClass ({ frames := 0, cells := 0, slots := 0, locals := 0 }) (va_Pc [.ref Ad0, .int Va0] (fun U => U.heap.size = sz ∧ Wd dC dI [] (fun _ => True) [(Ad0, .inr (15, Fs0))] U)) (va_Qi (fun (r : Int32) (u : Unit) => (Va0 < 0 ∧ r = 0) ∨ (¬ Va0 < 0 ∧ 0 ≤ Va0 ∧ r = 0)) (fun (u : Unit) t => Wd dC dI [] (va_A [(Ad0, .inr (15, Fs0))] sz) [(Ad0, .inr (15, Fs0))] t) (va_A [(Ad0, .inr (15, Fs0))] sz))  0 0 (va_A [(Ad0, .inr (15, Fs0))] sz) := by
  refine Met.ofW (cc := cX12_isClass) (maxL := 2) (ret := (some .boolean)) (by decide) rfl ?_
  intro p e s m args below meth c s₁ B hml hv
  obtain ⟨rfl, hsz, hP, hK, hD0⟩ := hv
  have hx := B.exec
  have hb := B.bytes
  have hr := B.returns
  have hts := atoms_spec (ws := w_z_X12_isClass) B.pre
  have hown : s.vm.findClass RX12 = some m.cls := findClass_of_methodNamed B.named
  have hlocks := B.notSynchronized
  subst hsz
  have hD := hD0.self (sz := s.heap.size)
  generalize hAe : va_A [(Ad0, .inr (15, Fs0))] s.heap.size = A at hD ⊢
  have hA : ∀ q : Nat, s.heap.size ≤ q → A q := fun q h => by rw [← hAe]; exact Or.inr h
  have hS : va_S A s.heap s.heap [] := va_S.rf
  have hl := lv_entry ([.ref Ad0, .int Va0]) (n := 2) (Nat.le_of_ble_eq_true rfl)
  rw [lg_entry_eq]
  generalize (lg_sl ([.ref Ad0, .int Va0]) ++ List.replicate (2 - (lg_sl ([.ref Ad0, .int Va0])).length) Slot.unset).toArray = ls at hl ⊢
  have hl : lv_has ls 2 [(0, .ref Ad0), (1, .int Va0)] := hl
  have o_Fs0 := ow_0 k_Fs0
  refine lv_iload_n hx hb dX12_isClass_0 rfl (lv_at hl 1 rfl) ?_
  refine lv_if_lt (tgt := 16) hx hb dX12_isClass_1 (by decide) (fun c544 => ?_) (fun c544 => ?_)
  · skip
    refine lv_iconst (v := 0) hx hb dX12_isClass_16 (by decide) ?_
    have hP9 := hP.sub (ws' := [(Ad0, .inr (15, Fs0))]) [0] rfl
    have hD9 := hD.sub (ws' := [(Ad0, .inr (15, Fs0))]) [0] (by decide) rfl
    have hK9 := hK.sub (tys' := []) [] rfl
    exact W.zret (v := 0) hx hb hr rfl (fun t ht hW => ⟨⟨0, (), rfl, (Or.inl ⟨c544, rfl⟩), by rw [ht]; exact hP9, va_K.moved hW.alike hK9, hD9⟩, hS.F ht⟩) hS.2.2 dX12_isClass_17
  · skip
    refine lv_iload_n hx hb dX12_isClass_4 rfl (lv_at hl 1 rfl) ?_
    refine lv_aload_n hx hb dX12_isClass_5 rfl (lv_at hl 0 rfl) ?_
    refine va_get (D := (dC, dI)) (ci := 15) (v := .int 0) (C := RX12) (T := TX12) (N := 150) hx hb hts (in_z_X12_isClass_X12) hown hK hP 0 rfl rfl 20 (by decide) (hts (.fieldLink RX12 413 "HeapWorksModel" "classes" "I") (by decide +kernel)) (fun _ h9 => h9) (ow_at o_Fs0 0 rfl) dX12_isClass_6 ?_
    refine lv_icmp_ge (tgt := 16) hx hb dX12_isClass_9 (by decide) (fun c545 => ?_) (fun c545 => (by exfalso; have bd_Va0 := i_bd Va0; (try simp only [i_lt, i_le, i_eq, kc_0] at c544 c545); omega))
    refine lv_iconst (v := 0) hx hb dX12_isClass_16 (by decide) ?_
    have hP9 := hP.sub (ws' := [(Ad0, .inr (15, Fs0))]) [0] rfl
    have hD9 := hD.sub (ws' := [(Ad0, .inr (15, Fs0))]) [0] (by decide) rfl
    have hK9 := hK.sub (tys' := []) [] rfl
    exact W.zret (v := 0) hx hb hr rfl (fun t ht hW => ⟨⟨0, (), rfl, (Or.inr (⟨c544, c545, rfl⟩)), by rw [ht]; exact hP9, va_K.moved hW.alike hK9, hD9⟩, hS.F ht⟩) hS.2.2 dX12_isClass_17

def l_n_type : List Cond := [.fieldLink RX12 388 "HeapWorksModel" "thrown" "I", .methodLink RX12 419 yX12_tapeName, .instanceMethod yX12_tapeName, .selects RX12 yX12_tapeName yX12_tapeName, .initialized RX12, .methodLink RX12 416 yX12_isClass, .instanceMethod yX12_isClass, .selects RX12 yX12_isClass yX12_isClass, .code yX12_tapeName cX12_tapeName 5 (some .long), .fieldLink RX12 391 "HeapWorksModel" "taped" "I", .code yX12_isClass cX12_isClass 2 (some .boolean), .fieldLink RX12 413 "HeapWorksModel" "classes" "I"]
def w_n_type : List Cond := .code yX12_type cX12_type 7 (some .int) :: (l_n_type ++ (wsX120))
theorem in_n_type_X12 : ∀ w ∈ wsX120, w ∈ w_n_type := fun w h => List.mem_cons_of_mem _ (List.mem_append_right _ (h))
theorem g_n_type_z_X12_tapeName_419 : GoodIn w_n_type (wsV RX12 419 RX12 yX12_tapeName w_z_X12_tapeName) := goodIn_app (goodIn_sub (by decide +kernel) (by decide +kernel)) (goodIn_ca (goodIn_sub (by decide +kernel) (by decide +kernel)) (goodIn_in in_n_type_X12 gd_X12))
theorem g_n_type_z_X12_isClass_416 : GoodIn w_n_type (wsV RX12 416 RX12 yX12_isClass w_z_X12_isClass) := goodIn_app (goodIn_sub (by decide +kernel) (by decide +kernel)) (goodIn_ca (goodIn_sub (by decide +kernel) (by decide +kernel)) (goodIn_in in_n_type_X12 gd_X12))
set_option maxHeartbeats 4000000 in
set_option maxRecDepth 100000 in
theorem n_type (l : Launch) (dC : Nat → ClassId) (dI : Nat → Nat → Nat) (sz : Nat) (aR : Nat) (fsR : List Value) (p0 : Int32) (p1 : Int32) (k_fsR : fh fsR 150 [(0, .int 0), (3, .int 0), (20, .int 0)])  : Met l yX12_type w_n_type ({ frames := 1, cells := 0, slots := 0, locals := 24 }) (va_Pc [.ref aR, .int p0, .int p1] (fun U => U.heap.size = sz ∧ Wd dC dI [] (fun _ => True) [(aR, .inr (15, fsR))] U)) (va_Qi (fun (r : Int32) (u : List Value) => (p0 = (-1) ∧ p1 < 0 ∧ r = 0 ∧ ow fsR (u) 150 [0] [(0, .int 1), (3, .int 0), (20, .int 0)]) ∨ (p0 = (-1) ∧ ¬ p1 < 0 ∧ p1 ≤ 3 ∧ r = 0 ∧ ow fsR (u) 150 [0] [(0, .int 2), (3, .int 0), (20, .int 0)]) ∨ (p0 = (-1) ∧ ¬ p1 < 0 ∧ ¬ p1 ≤ 3 ∧ r = 0 ∧ ow fsR (u) 150 [0] [(0, .int 1), (3, .int 0), (20, .int 0)]) ∨ (¬ p0 = (-1) ∧ p0 < 0 ∧ r = 0 ∧ ow fsR (u) 150 [0] [(0, .int 1), (3, .int 0), (20, .int 0)]) ∨ (¬ p0 = (-1) ∧ ¬ p0 < 0 ∧ 0 ≤ p0 ∧ r = 0 ∧ ow fsR (u) 150 [0] [(0, .int 1), (3, .int 0), (20, .int 0)])) (fun (u : List Value) t => Wd dC dI [] (va_A [(aR, .inr (15, fsR))] sz) [(aR, .inr (15, (u)))] t) (va_A [(aR, .inr (15, fsR))] sz))  0 0 (va_A [(aR, .inr (15, fsR))] sz) := by
  refine Met.ofW (cc := cX12_type) (maxL := 7) (ret := (some .int)) (by decide) rfl ?_
  intro p e s m args below meth c s₁ B hml hv
  obtain ⟨rfl, hsz, hP, hK, hD0⟩ := hv
  have hx := B.exec
  have hb := B.bytes
  have hr := B.returns
  have hts := atoms_spec (ws := w_n_type) B.pre
  have hown : s.vm.findClass RX12 = some m.cls := findClass_of_methodNamed B.named
  have hlocks := B.notSynchronized
  subst hsz
  have hD := hD0.self (sz := s.heap.size)
  generalize hAe : va_A [(aR, .inr (15, fsR))] s.heap.size = A at hD ⊢
  have hA : ∀ q : Nat, s.heap.size ≤ q → A q := fun q h => by rw [← hAe]; exact Or.inr h
  have hS : va_S A s.heap s.heap [] := va_S.rf
  have hl := lv_entry ([.ref aR, .int p0, .int p1]) (n := 7) (Nat.le_of_ble_eq_true rfl)
  rw [lg_entry_eq]
  generalize (lg_sl ([.ref aR, .int p0, .int p1]) ++ List.replicate (7 - (lg_sl ([.ref aR, .int p0, .int p1])).length) Slot.unset).toArray = ls at hl ⊢
  have hl : lv_has ls 7 [(0, .ref aR), (1, .int p0), (2, .int p1)] := hl
  have o_fsR := ow_0 k_fsR
  refine lv_aload_n hx hb dX12_type_0 rfl (lv_at hl 0 rfl) ?_
  refine lv_iload_n hx hb dX12_type_1 rfl (lv_at hl 1 rfl) ?_
  refine lv_iconst (v := (-1)) hx hb dX12_type_2 (by decide) ?_
  refine lv_icmp_eq (tgt := 14) hx hb dX12_type_3 (by decide) (fun c558 => ?_) (fun c558 => ?_)
  · skip
    refine lv_iload_n hx hb dX12_type_14 rfl (lv_at hl 2 rfl) ?_
    refine lv_if_lt (tgt := 23) hx hb dX12_type_15 (by decide) (fun c559 => ?_) (fun c559 => ?_)
    · skip
      refine lv_iconst (v := 1) hx hb dX12_type_23 (by decide) ?_
      refine lv_goto (tgt := 28) hx hb dX12_type_24 (by decide) ?_
      refine va_put (D := (dC, dI)) (ci := 15) (v := .int 1) (ty := .int) (C := RX12) (T := TX12) (N := 150) hx hb hts (in_n_type_X12) tyX12 tyX12_ok nmX12 hown hK hP hD hS 0 rfl rfl 0 (by decide) (hts (.fieldLink RX12 388 "HeapWorksModel" "thrown" "I") (by decide +kernel)) (fun _ h9 => h9) rfl (by decide +kernel) rfl rfl (by rw [o_fsR.2.1]; decide) dX12_type_28 (fun H locs hP hD hS => ?_)
      have hP : va_P (dC, dI) vwCl [(aR, .inr (15, (fsR.set 0 (.int 1))))] H := hP
      have hD : va_D A [(aR, .inr (15, (fsR.set 0 (.int 1))))] := hD
      have o_s560 := ow_set o_fsR 0 (.int 1) (by decide) (l' := [(0, .int 1), (3, .int 0), (20, .int 0)]) (w' := [0]) rfl rfl
      generalize (fsR.set 0 (.int 1)) = s560 at hP hD o_s560
      refine lv_aload_n hx hb dX12_type_31 rfl (lv_at hl 0 rfl) ?_
      refine va_get (D := (dC, dI)) (ci := 15) (v := .int 1) (C := RX12) (T := TX12) (N := 150) hx hb hts (in_n_type_X12) hown hK hP 0 rfl rfl 0 (by decide) (hts (.fieldLink RX12 388 "HeapWorksModel" "thrown" "I") (by decide +kernel)) (fun _ h9 => h9) (ow_at o_s560 0 rfl) dX12_type_32 ?_
      refine lv_if_le (tgt := 40) hx hb dX12_type_35 (by decide) (fun c561 => absurd c561 (by decide)) (fun c561 => ?_)
      refine lv_iconst (v := 0) hx hb dX12_type_38 (by decide) ?_
      have hP9 := hP.sub (ws' := [(aR, .inr (15, s560))]) [0] rfl
      have hD9 := hD.sub (ws' := [(aR, .inr (15, s560))]) [0] (by decide) rfl
      have hK9 := hK.sub (tys' := []) [] rfl
      exact W.iret (v := 0) hx hb hr (fun t ht hW => ⟨⟨0, s560, rfl, (Or.inl ⟨c558, c559, rfl, o_s560⟩), by rw [ht]; exact hP9, va_K.moved hW.alike hK9, hD9⟩, hS.F ht⟩) hS.2.2 dX12_type_39
    · skip
      refine lv_iload_n hx hb dX12_type_18 rfl (lv_at hl 2 rfl) ?_
      refine lv_iconst (v := 3) hx hb dX12_type_19 (by decide) ?_
      refine lv_icmp_le (tgt := 27) hx hb dX12_type_20 (by decide) (fun c562 => ?_) (fun c562 => ?_)
      · skip
        refine lv_iconst (v := 0) hx hb dX12_type_27 (by decide) ?_
        refine va_put (D := (dC, dI)) (ci := 15) (v := .int 0) (ty := .int) (C := RX12) (T := TX12) (N := 150) hx hb hts (in_n_type_X12) tyX12 tyX12_ok nmX12 hown hK hP hD hS 0 rfl rfl 0 (by decide) (hts (.fieldLink RX12 388 "HeapWorksModel" "thrown" "I") (by decide +kernel)) (fun _ h9 => h9) rfl (by decide +kernel) rfl rfl (by rw [o_fsR.2.1]; decide) dX12_type_28 (fun H locs hP hD hS => ?_)
        have hP : va_P (dC, dI) vwCl [(aR, .inr (15, (fsR.set 0 (.int 0))))] H := hP
        have hD : va_D A [(aR, .inr (15, (fsR.set 0 (.int 0))))] := hD
        have o_s563 := ow_set o_fsR 0 (.int 0) (by decide) (l' := [(0, .int 0), (3, .int 0), (20, .int 0)]) (w' := [0]) rfl rfl
        generalize (fsR.set 0 (.int 0)) = s563 at hP hD o_s563
        refine lv_aload_n hx hb dX12_type_31 rfl (lv_at hl 0 rfl) ?_
        refine va_get (D := (dC, dI)) (ci := 15) (v := .int 0) (C := RX12) (T := TX12) (N := 150) hx hb hts (in_n_type_X12) hown hK hP 0 rfl rfl 0 (by decide) (hts (.fieldLink RX12 388 "HeapWorksModel" "thrown" "I") (by decide +kernel)) (fun _ h9 => h9) (ow_at o_s563 0 rfl) dX12_type_32 ?_
        refine lv_if_le (tgt := 40) hx hb dX12_type_35 (by decide) (fun c564 => ?_) (fun c564 => absurd c564 (by decide))
        refine lv_aload_n hx hb dX12_type_40 rfl (lv_at hl 0 rfl) ?_
        have hPc := hP.sub (ws' := [(aR, .inr (15, s563))]) [0] rfl
        have hDc := hD.sub (ws' := [(aR, .inr (15, s563))]) [0] (by decide) rfl
        have hKc := hK.sub (tys' := []) [] rfl
        have hFc := va_free (wc := [(aR, .inr (15, s563))]) hD hS hA [0] rfl
        refine va_calll (va_runV (As := []) (rest := []) ⟨hx, hb, hml, hown, hts⟩ (z_X12_tapeName l dC dI H.size aR s563 (fh_sub o_s563.2 [1] rfl) ) (cwV 0 hts g_n_type_z_X12_tapeName_419 rfl rfl rfl (by decide +kernel) ⟨Nat.le_of_ble_eq_true rfl, Nat.le_of_ble_eq_true rfl⟩) ⟨fun a U g mk q => by obtain ⟨q0, q1, qP, qK, qD⟩ := q; exact ⟨q0, q1, qP, va_K.moved (u := U) (U := U.calling g mk a) (Vm.Alike.refl U.vm) qK, qD⟩, va_recv hK hP (ci := 15) (q0 := 0) rfl rfl, fun U hU hW => ⟨rfl, by rw [hU], by rw [hU]; exact hPc, va_K.moved hW.alike hKc, hDc.weaken (fun _ _ _ _ => trivial)⟩⟩ rfl rfl hl.1 rfl (lv_room (Nat.le_of_ble_eq_true rfl)) dX12_type_41 ⟨Nat.le_of_ble_eq_true rfl, Nat.le_of_ble_eq_true rfl⟩) hS (fun q _ h => hFc q h) hFc (fun r568 u t H1 locs ht hvm hw hB hz1 hk1 hS => ?_)
        obtain ⟨hP1, hK1, hD1⟩ := hB
        rw [ht] at hP1
        try dsimp only at hw
        obtain ⟨hP, hD⟩ := va_join (wr := []) (w1 := [(aR, .inr (15, s563))]) hP hD [0] [] rfl rfl (by decide) (by decide) hk1 hFc hP1 hD1
        have hK := hK.sub (tys' := []) [] rfl
        generalize H1 = H at hP hS ⊢
        have hP : va_P (dC, dI) vwCl [(aR, .inr (15, s563))] H := hP
        have hD : va_D A [(aR, .inr (15, s563))] := hD
        have er569 := hw
        subst er569
        refine lv_lstore_n (lv' := [(3, .long 0), (0, .ref aR), (1, .int p0), (2, .int p1)]) hx hb dX12_type_44 rfl hl (by decide) rfl (fun ls hl => ?_)
        refine lv_aload_n hx hb dX12_type_45 rfl (lv_at hl 1 rfl) ?_
        refine lv_lload_n hx hb dX12_type_46 rfl (lv_at hl 0 rfl) ?_
        refine lv_lconst (v := 0) hx hb dX12_type_47 (by decide) ?_
        refine W.lcmp hx hb dX12_type_48  ?_
        refine lv_topi (fun x570 ex570 => ?_)
        obtain rfl : x570 = 0 := ex570.trans (by decide)
        refine lv_if_ne (tgt := 56) hx hb dX12_type_49 (by decide) (fun c571 => absurd c571 (by decide)) (fun c571 => ?_)
        refine lv_iconst (v := 2) hx hb dX12_type_52 (by decide) ?_
        refine lv_goto (tgt := 57) hx hb dX12_type_53 (by decide) ?_
        refine va_put (D := (dC, dI)) (ci := 15) (v := .int 2) (ty := .int) (C := RX12) (T := TX12) (N := 150) hx hb hts (in_n_type_X12) tyX12 tyX12_ok nmX12 hown hK hP hD hS 0 rfl rfl 0 (by decide) (hts (.fieldLink RX12 388 "HeapWorksModel" "thrown" "I") (by decide +kernel)) (fun _ h9 => h9) rfl (by decide +kernel) rfl rfl (by rw [o_s563.2.1]; decide) dX12_type_57 (fun H locs hP hD hS => ?_)
        have hP : va_P (dC, dI) vwCl [(aR, .inr (15, (s563.set 0 (.int 2))))] H := hP
        have hD : va_D A [(aR, .inr (15, (s563.set 0 (.int 2))))] := hD
        have o_s572 := ow_set o_s563 0 (.int 2) (by decide) (l' := [(0, .int 2), (3, .int 0), (20, .int 0)]) (w' := [0]) rfl rfl
        generalize (s563.set 0 (.int 2)) = s572 at hP hD o_s572
        refine lv_aload_n hx hb dX12_type_60 rfl (lv_at hl 1 rfl) ?_
        refine va_get (D := (dC, dI)) (ci := 15) (v := .int 2) (C := RX12) (T := TX12) (N := 150) hx hb hts (in_n_type_X12) hown hK hP 0 rfl rfl 0 (by decide) (hts (.fieldLink RX12 388 "HeapWorksModel" "thrown" "I") (by decide +kernel)) (fun _ h9 => h9) (ow_at o_s572 0 rfl) dX12_type_61 ?_
        refine lv_if_le (tgt := 69) hx hb dX12_type_64 (by decide) (fun c573 => absurd c573 (by decide)) (fun c573 => ?_)
        refine lv_iconst (v := 0) hx hb dX12_type_67 (by decide) ?_
        have hP9 := hP.sub (ws' := [(aR, .inr (15, s572))]) [0] rfl
        have hD9 := hD.sub (ws' := [(aR, .inr (15, s572))]) [0] (by decide) rfl
        have hK9 := hK.sub (tys' := []) [] rfl
        exact W.iret (v := 0) hx hb hr (fun t ht hW => ⟨⟨0, s572, rfl, (Or.inr (Or.inl ⟨c558, c559, c562, rfl, o_s572⟩)), by rw [ht]; exact hP9, va_K.moved hW.alike hK9, hD9⟩, hS.F ht⟩) hS.2.2 dX12_type_68
      · skip
        refine lv_iconst (v := 1) hx hb dX12_type_23 (by decide) ?_
        refine lv_goto (tgt := 28) hx hb dX12_type_24 (by decide) ?_
        refine va_put (D := (dC, dI)) (ci := 15) (v := .int 1) (ty := .int) (C := RX12) (T := TX12) (N := 150) hx hb hts (in_n_type_X12) tyX12 tyX12_ok nmX12 hown hK hP hD hS 0 rfl rfl 0 (by decide) (hts (.fieldLink RX12 388 "HeapWorksModel" "thrown" "I") (by decide +kernel)) (fun _ h9 => h9) rfl (by decide +kernel) rfl rfl (by rw [o_fsR.2.1]; decide) dX12_type_28 (fun H locs hP hD hS => ?_)
        have hP : va_P (dC, dI) vwCl [(aR, .inr (15, (fsR.set 0 (.int 1))))] H := hP
        have hD : va_D A [(aR, .inr (15, (fsR.set 0 (.int 1))))] := hD
        have o_s574 := ow_set o_fsR 0 (.int 1) (by decide) (l' := [(0, .int 1), (3, .int 0), (20, .int 0)]) (w' := [0]) rfl rfl
        generalize (fsR.set 0 (.int 1)) = s574 at hP hD o_s574
        refine lv_aload_n hx hb dX12_type_31 rfl (lv_at hl 0 rfl) ?_
        refine va_get (D := (dC, dI)) (ci := 15) (v := .int 1) (C := RX12) (T := TX12) (N := 150) hx hb hts (in_n_type_X12) hown hK hP 0 rfl rfl 0 (by decide) (hts (.fieldLink RX12 388 "HeapWorksModel" "thrown" "I") (by decide +kernel)) (fun _ h9 => h9) (ow_at o_s574 0 rfl) dX12_type_32 ?_
        refine lv_if_le (tgt := 40) hx hb dX12_type_35 (by decide) (fun c575 => absurd c575 (by decide)) (fun c575 => ?_)
        refine lv_iconst (v := 0) hx hb dX12_type_38 (by decide) ?_
        have hP9 := hP.sub (ws' := [(aR, .inr (15, s574))]) [0] rfl
        have hD9 := hD.sub (ws' := [(aR, .inr (15, s574))]) [0] (by decide) rfl
        have hK9 := hK.sub (tys' := []) [] rfl
        exact W.iret (v := 0) hx hb hr (fun t ht hW => ⟨⟨0, s574, rfl, (Or.inr (Or.inr (Or.inl ⟨c558, c559, c562, rfl, o_s574⟩))), by rw [ht]; exact hP9, va_K.moved hW.alike hK9, hD9⟩, hS.F ht⟩) hS.2.2 dX12_type_39
  · skip
    refine lv_aload_n hx hb dX12_type_6 rfl (lv_at hl 0 rfl) ?_
    refine lv_iload_n hx hb dX12_type_7 rfl (lv_at hl 1 rfl) ?_
    have hPc := hP.sub (ws' := [(aR, .inr (15, fsR))]) [0] rfl
    have hDc := hD.sub (ws' := [(aR, .inr (15, fsR))]) [0] (by decide) rfl
    have hKc := hK.sub (tys' := []) [] rfl
    have hFc := va_free (wc := [(aR, .inr (15, fsR))]) hD hS hA [0] rfl
    refine va_calli (va_runV (As := [.int p0]) (rest := [.ref aR]) ⟨hx, hb, hml, hown, hts⟩ (z_X12_isClass l dC dI s.heap.size aR fsR p0 (fh_sub o_fsR.2 [2] rfl) ) (cwV 1 hts g_n_type_z_X12_isClass_416 rfl rfl rfl (by decide +kernel) ⟨Nat.le_of_ble_eq_true rfl, Nat.le_of_ble_eq_true rfl⟩) ⟨fun a U g mk q => by obtain ⟨q0, q1, qP, qK, qD⟩ := q; exact ⟨q0, q1, qP, va_K.moved (u := U) (U := U.calling g mk a) (Vm.Alike.refl U.vm) qK, qD⟩, va_recv hK hP (ci := 15) (q0 := 0) rfl rfl, fun U hU hW => ⟨rfl, by rw [hU], by rw [hU]; exact hPc, va_K.moved hW.alike hKc, hDc.weaken (fun _ _ _ _ => trivial)⟩⟩ rfl rfl hl.1 rfl (lv_room (Nat.le_of_ble_eq_true rfl)) dX12_type_8 ⟨Nat.le_of_ble_eq_true rfl, Nat.le_of_ble_eq_true rfl⟩) hS (fun q _ h => hFc q h) hFc (fun r578 u t H1 locs ht hvm hw hB hz1 hk1 hS => ?_)
    obtain ⟨hP1, hK1, hD1⟩ := hB
    rw [ht] at hP1
    try dsimp only at hw
    obtain ⟨hP, hD⟩ := va_join (wr := []) (w1 := [(aR, .inr (15, fsR))]) hP hD [0] [] rfl rfl (by decide) (by decide) hk1 hFc hP1 hD1
    have hK := hK.sub (tys' := []) [] rfl
    generalize H1 = H at hP hS ⊢
    have hP : va_P (dC, dI) vwCl [(aR, .inr (15, fsR))] H := hP
    have hD : va_D A [(aR, .inr (15, fsR))] := hD
    rcases hw with ⟨c579, er580⟩ | ⟨c581, c582, er583⟩
    · skip
      subst er580
      refine lv_if_eq (tgt := 23) hx hb dX12_type_11 (by decide) (fun c584 => ?_) (fun c584 => absurd c584 (by decide))
      refine lv_iconst (v := 1) hx hb dX12_type_23 (by decide) ?_
      refine lv_goto (tgt := 28) hx hb dX12_type_24 (by decide) ?_
      refine va_put (D := (dC, dI)) (ci := 15) (v := .int 1) (ty := .int) (C := RX12) (T := TX12) (N := 150) hx hb hts (in_n_type_X12) tyX12 tyX12_ok nmX12 hown hK hP hD hS 0 rfl rfl 0 (by decide) (hts (.fieldLink RX12 388 "HeapWorksModel" "thrown" "I") (by decide +kernel)) (fun _ h9 => h9) rfl (by decide +kernel) rfl rfl (by rw [o_fsR.2.1]; decide) dX12_type_28 (fun H locs hP hD hS => ?_)
      have hP : va_P (dC, dI) vwCl [(aR, .inr (15, (fsR.set 0 (.int 1))))] H := hP
      have hD : va_D A [(aR, .inr (15, (fsR.set 0 (.int 1))))] := hD
      have o_s585 := ow_set o_fsR 0 (.int 1) (by decide) (l' := [(0, .int 1), (3, .int 0), (20, .int 0)]) (w' := [0]) rfl rfl
      generalize (fsR.set 0 (.int 1)) = s585 at hP hD o_s585
      refine lv_aload_n hx hb dX12_type_31 rfl (lv_at hl 0 rfl) ?_
      refine va_get (D := (dC, dI)) (ci := 15) (v := .int 1) (C := RX12) (T := TX12) (N := 150) hx hb hts (in_n_type_X12) hown hK hP 0 rfl rfl 0 (by decide) (hts (.fieldLink RX12 388 "HeapWorksModel" "thrown" "I") (by decide +kernel)) (fun _ h9 => h9) (ow_at o_s585 0 rfl) dX12_type_32 ?_
      refine lv_if_le (tgt := 40) hx hb dX12_type_35 (by decide) (fun c586 => absurd c586 (by decide)) (fun c586 => ?_)
      refine lv_iconst (v := 0) hx hb dX12_type_38 (by decide) ?_
      have hP9 := hP.sub (ws' := [(aR, .inr (15, s585))]) [0] rfl
      have hD9 := hD.sub (ws' := [(aR, .inr (15, s585))]) [0] (by decide) rfl
      have hK9 := hK.sub (tys' := []) [] rfl
      exact W.iret (v := 0) hx hb hr (fun t ht hW => ⟨⟨0, s585, rfl, (Or.inr (Or.inr (Or.inr (Or.inl ⟨c558, c579, rfl, o_s585⟩)))), by rw [ht]; exact hP9, va_K.moved hW.alike hK9, hD9⟩, hS.F ht⟩) hS.2.2 dX12_type_39
    · skip
      subst er583
      refine lv_if_eq (tgt := 23) hx hb dX12_type_11 (by decide) (fun c587 => ?_) (fun c587 => absurd c587 (by decide))
      refine lv_iconst (v := 1) hx hb dX12_type_23 (by decide) ?_
      refine lv_goto (tgt := 28) hx hb dX12_type_24 (by decide) ?_
      refine va_put (D := (dC, dI)) (ci := 15) (v := .int 1) (ty := .int) (C := RX12) (T := TX12) (N := 150) hx hb hts (in_n_type_X12) tyX12 tyX12_ok nmX12 hown hK hP hD hS 0 rfl rfl 0 (by decide) (hts (.fieldLink RX12 388 "HeapWorksModel" "thrown" "I") (by decide +kernel)) (fun _ h9 => h9) rfl (by decide +kernel) rfl rfl (by rw [o_fsR.2.1]; decide) dX12_type_28 (fun H locs hP hD hS => ?_)
      have hP : va_P (dC, dI) vwCl [(aR, .inr (15, (fsR.set 0 (.int 1))))] H := hP
      have hD : va_D A [(aR, .inr (15, (fsR.set 0 (.int 1))))] := hD
      have o_s588 := ow_set o_fsR 0 (.int 1) (by decide) (l' := [(0, .int 1), (3, .int 0), (20, .int 0)]) (w' := [0]) rfl rfl
      generalize (fsR.set 0 (.int 1)) = s588 at hP hD o_s588
      refine lv_aload_n hx hb dX12_type_31 rfl (lv_at hl 0 rfl) ?_
      refine va_get (D := (dC, dI)) (ci := 15) (v := .int 1) (C := RX12) (T := TX12) (N := 150) hx hb hts (in_n_type_X12) hown hK hP 0 rfl rfl 0 (by decide) (hts (.fieldLink RX12 388 "HeapWorksModel" "thrown" "I") (by decide +kernel)) (fun _ h9 => h9) (ow_at o_s588 0 rfl) dX12_type_32 ?_
      refine lv_if_le (tgt := 40) hx hb dX12_type_35 (by decide) (fun c589 => absurd c589 (by decide)) (fun c589 => ?_)
      refine lv_iconst (v := 0) hx hb dX12_type_38 (by decide) ?_
      have hP9 := hP.sub (ws' := [(aR, .inr (15, s588))]) [0] rfl
      have hD9 := hD.sub (ws' := [(aR, .inr (15, s588))]) [0] (by decide) rfl
      have hK9 := hK.sub (tys' := []) [] rfl
      exact W.iret (v := 0) hx hb hr (fun t ht hW => ⟨⟨0, s588, rfl, (Or.inr (Or.inr (Or.inr (Or.inr (⟨c558, c581, c582, rfl, o_s588⟩))))), by rw [ht]; exact hP9, va_K.moved hW.alike hK9, hD9⟩, hS.F ht⟩) hS.2.2 dX12_type_39

def l_n_field : List Cond := [.methodLink RX12 416 yX12_isClass, .instanceMethod yX12_isClass, .selects RX12 yX12_isClass yX12_isClass, .initialized RX12, .fieldLink RX12 388 "HeapWorksModel" "thrown" "I", .code yX12_isClass cX12_isClass 2 (some .boolean), .fieldLink RX12 413 "HeapWorksModel" "classes" "I"]
def w_n_field : List Cond := .code yX12_field cX12_field 9 (some .int) :: (l_n_field ++ (wsX120))
theorem in_n_field_X12 : ∀ w ∈ wsX120, w ∈ w_n_field := fun w h => List.mem_cons_of_mem _ (List.mem_append_right _ (h))
theorem g_n_field_z_X12_isClass_416 : GoodIn w_n_field (wsV RX12 416 RX12 yX12_isClass w_z_X12_isClass) := goodIn_app (goodIn_sub (by decide +kernel) (by decide +kernel)) (goodIn_ca (goodIn_sub (by decide +kernel) (by decide +kernel)) (goodIn_in in_n_field_X12 gd_X12))
set_option maxHeartbeats 4000000 in
set_option maxRecDepth 100000 in
theorem n_field (l : Launch) (dC : Nat → ClassId) (dI : Nat → Nat → Nat) (sz : Nat) (aR : Nat) (fsR : List Value) (p0 : Int32) (p1 : Int32) (p2 : Int32) (p3 : Int32) (k_fsR : fh fsR 150 [(0, .int 0), (20, .int 0)])  : Met l yX12_field w_n_field ({ frames := 1, cells := 0, slots := 0, locals := 21 }) (va_Pc [.ref aR, .int p0, .int p1, .int p2, .int p3] (fun U => U.heap.size = sz ∧ Wd dC dI [] (fun _ => True) [(aR, .inr (15, fsR))] U)) (va_Qi (fun (r : Int32) (u : List Value) => (p0 < 0 ∧ r = 0 ∧ ow fsR (u) 150 [0] [(0, .int 1), (20, .int 0)]) ∨ (¬ p0 < 0 ∧ 0 ≤ p0 ∧ r = 0 ∧ ow fsR (u) 150 [0] [(0, .int 1), (20, .int 0)])) (fun (u : List Value) t => Wd dC dI [] (va_A [(aR, .inr (15, fsR))] sz) [(aR, .inr (15, (u)))] t) (va_A [(aR, .inr (15, fsR))] sz))  0 0 (va_A [(aR, .inr (15, fsR))] sz) := by
  refine Met.ofW (cc := cX12_field) (maxL := 9) (ret := (some .int)) (by decide) rfl ?_
  intro p e s m args below meth c s₁ B hml hv
  obtain ⟨rfl, hsz, hP, hK, hD0⟩ := hv
  have hx := B.exec
  have hb := B.bytes
  have hr := B.returns
  have hts := atoms_spec (ws := w_n_field) B.pre
  have hown : s.vm.findClass RX12 = some m.cls := findClass_of_methodNamed B.named
  have hlocks := B.notSynchronized
  subst hsz
  have hD := hD0.self (sz := s.heap.size)
  generalize hAe : va_A [(aR, .inr (15, fsR))] s.heap.size = A at hD ⊢
  have hA : ∀ q : Nat, s.heap.size ≤ q → A q := fun q h => by rw [← hAe]; exact Or.inr h
  have hS : va_S A s.heap s.heap [] := va_S.rf
  have hl := lv_entry ([.ref aR, .int p0, .int p1, .int p2, .int p3]) (n := 9) (Nat.le_of_ble_eq_true rfl)
  rw [lg_entry_eq]
  generalize (lg_sl ([.ref aR, .int p0, .int p1, .int p2, .int p3]) ++ List.replicate (9 - (lg_sl ([.ref aR, .int p0, .int p1, .int p2, .int p3])).length) Slot.unset).toArray = ls at hl ⊢
  have hl : lv_has ls 9 [(0, .ref aR), (1, .int p0), (2, .int p1), (3, .int p2), (4, .int p3)] := hl
  have o_fsR := ow_0 k_fsR
  refine lv_aload_n hx hb dX12_field_0 rfl (lv_at hl 0 rfl) ?_
  refine lv_aload_n hx hb dX12_field_1 rfl (lv_at hl 0 rfl) ?_
  refine lv_iload_n hx hb dX12_field_2 rfl (lv_at hl 1 rfl) ?_
  have hPc := hP.sub (ws' := [(aR, .inr (15, fsR))]) [0] rfl
  have hDc := hD.sub (ws' := [(aR, .inr (15, fsR))]) [0] (by decide) rfl
  have hKc := hK.sub (tys' := []) [] rfl
  have hFc := va_free (wc := [(aR, .inr (15, fsR))]) hD hS hA [0] rfl
  refine va_calli (va_runV (As := [.int p0]) (rest := [.ref aR]) ⟨hx, hb, hml, hown, hts⟩ (z_X12_isClass l dC dI s.heap.size aR fsR p0 (fh_sub o_fsR.2 [1] rfl) ) (cwV 1 hts g_n_field_z_X12_isClass_416 rfl rfl rfl (by decide +kernel) ⟨Nat.le_of_ble_eq_true rfl, Nat.le_of_ble_eq_true rfl⟩) ⟨fun a U g mk q => by obtain ⟨q0, q1, qP, qK, qD⟩ := q; exact ⟨q0, q1, qP, va_K.moved (u := U) (U := U.calling g mk a) (Vm.Alike.refl U.vm) qK, qD⟩, va_recv hK hP (ci := 15) (q0 := 0) rfl rfl, fun U hU hW => ⟨rfl, by rw [hU], by rw [hU]; exact hPc, va_K.moved hW.alike hKc, hDc.weaken (fun _ _ _ _ => trivial)⟩⟩ rfl rfl hl.1 rfl (lv_room (Nat.le_of_ble_eq_true rfl)) dX12_field_3 ⟨Nat.le_of_ble_eq_true rfl, Nat.le_of_ble_eq_true rfl⟩) hS (fun q _ h => hFc q h) hFc (fun r606 u t H1 locs ht hvm hw hB hz1 hk1 hS => ?_)
  obtain ⟨hP1, hK1, hD1⟩ := hB
  rw [ht] at hP1
  try dsimp only at hw
  obtain ⟨hP, hD⟩ := va_join (wr := []) (w1 := [(aR, .inr (15, fsR))]) hP hD [0] [] rfl rfl (by decide) (by decide) hk1 hFc hP1 hD1
  have hK := hK.sub (tys' := []) [] rfl
  generalize H1 = H at hP hS ⊢
  have hP : va_P (dC, dI) vwCl [(aR, .inr (15, fsR))] H := hP
  have hD : va_D A [(aR, .inr (15, fsR))] := hD
  rcases hw with ⟨c607, er608⟩ | ⟨c609, c610, er611⟩
  · skip
    subst er608
    refine lv_if_eq (tgt := 13) hx hb dX12_field_6 (by decide) (fun c612 => ?_) (fun c612 => absurd c612 (by decide))
    refine lv_iconst (v := 1) hx hb dX12_field_13 (by decide) ?_
    refine va_put (D := (dC, dI)) (ci := 15) (v := .int 1) (ty := .int) (C := RX12) (T := TX12) (N := 150) hx hb hts (in_n_field_X12) tyX12 tyX12_ok nmX12 hown hK hP hD hS 0 rfl rfl 0 (by decide) (hts (.fieldLink RX12 388 "HeapWorksModel" "thrown" "I") (by decide +kernel)) (fun _ h9 => h9) rfl (by decide +kernel) rfl rfl (by rw [o_fsR.2.1]; decide) dX12_field_14 (fun H locs hP hD hS => ?_)
    have hP : va_P (dC, dI) vwCl [(aR, .inr (15, (fsR.set 0 (.int 1))))] H := hP
    have hD : va_D A [(aR, .inr (15, (fsR.set 0 (.int 1))))] := hD
    have o_s613 := ow_set o_fsR 0 (.int 1) (by decide) (l' := [(0, .int 1), (20, .int 0)]) (w' := [0]) rfl rfl
    generalize (fsR.set 0 (.int 1)) = s613 at hP hD o_s613
    refine lv_aload_n hx hb dX12_field_17 rfl (lv_at hl 0 rfl) ?_
    refine va_get (D := (dC, dI)) (ci := 15) (v := .int 1) (C := RX12) (T := TX12) (N := 150) hx hb hts (in_n_field_X12) hown hK hP 0 rfl rfl 0 (by decide) (hts (.fieldLink RX12 388 "HeapWorksModel" "thrown" "I") (by decide +kernel)) (fun _ h9 => h9) (ow_at o_s613 0 rfl) dX12_field_18 ?_
    refine lv_if_le (tgt := 26) hx hb dX12_field_21 (by decide) (fun c614 => absurd c614 (by decide)) (fun c614 => ?_)
    refine lv_iconst (v := 0) hx hb dX12_field_24 (by decide) ?_
    have hP9 := hP.sub (ws' := [(aR, .inr (15, s613))]) [0] rfl
    have hD9 := hD.sub (ws' := [(aR, .inr (15, s613))]) [0] (by decide) rfl
    have hK9 := hK.sub (tys' := []) [] rfl
    exact W.iret (v := 0) hx hb hr (fun t ht hW => ⟨⟨0, s613, rfl, (Or.inl ⟨c607, rfl, o_s613⟩), by rw [ht]; exact hP9, va_K.moved hW.alike hK9, hD9⟩, hS.F ht⟩) hS.2.2 dX12_field_25
  · skip
    subst er611
    refine lv_if_eq (tgt := 13) hx hb dX12_field_6 (by decide) (fun c615 => ?_) (fun c615 => absurd c615 (by decide))
    refine lv_iconst (v := 1) hx hb dX12_field_13 (by decide) ?_
    refine va_put (D := (dC, dI)) (ci := 15) (v := .int 1) (ty := .int) (C := RX12) (T := TX12) (N := 150) hx hb hts (in_n_field_X12) tyX12 tyX12_ok nmX12 hown hK hP hD hS 0 rfl rfl 0 (by decide) (hts (.fieldLink RX12 388 "HeapWorksModel" "thrown" "I") (by decide +kernel)) (fun _ h9 => h9) rfl (by decide +kernel) rfl rfl (by rw [o_fsR.2.1]; decide) dX12_field_14 (fun H locs hP hD hS => ?_)
    have hP : va_P (dC, dI) vwCl [(aR, .inr (15, (fsR.set 0 (.int 1))))] H := hP
    have hD : va_D A [(aR, .inr (15, (fsR.set 0 (.int 1))))] := hD
    have o_s616 := ow_set o_fsR 0 (.int 1) (by decide) (l' := [(0, .int 1), (20, .int 0)]) (w' := [0]) rfl rfl
    generalize (fsR.set 0 (.int 1)) = s616 at hP hD o_s616
    refine lv_aload_n hx hb dX12_field_17 rfl (lv_at hl 0 rfl) ?_
    refine va_get (D := (dC, dI)) (ci := 15) (v := .int 1) (C := RX12) (T := TX12) (N := 150) hx hb hts (in_n_field_X12) hown hK hP 0 rfl rfl 0 (by decide) (hts (.fieldLink RX12 388 "HeapWorksModel" "thrown" "I") (by decide +kernel)) (fun _ h9 => h9) (ow_at o_s616 0 rfl) dX12_field_18 ?_
    refine lv_if_le (tgt := 26) hx hb dX12_field_21 (by decide) (fun c617 => absurd c617 (by decide)) (fun c617 => ?_)
    refine lv_iconst (v := 0) hx hb dX12_field_24 (by decide) ?_
    have hP9 := hP.sub (ws' := [(aR, .inr (15, s616))]) [0] rfl
    have hD9 := hD.sub (ws' := [(aR, .inr (15, s616))]) [0] (by decide) rfl
    have hK9 := hK.sub (tys' := []) [] rfl
    exact W.iret (v := 0) hx hb hr (fun t ht hW => ⟨⟨0, s616, rfl, (Or.inr (⟨c609, c610, rfl, o_s616⟩)), by rw [ht]; exact hP9, va_K.moved hW.alike hK9, hD9⟩, hS.F ht⟩) hS.2.2 dX12_field_25

def l_n_typeLook : List Cond := [.fieldLink RX12 388 "HeapWorksModel" "thrown" "I", .methodLink RX12 416 yX12_isClass, .instanceMethod yX12_isClass, .selects RX12 yX12_isClass yX12_isClass, .initialized RX12, .code yX12_isClass cX12_isClass 2 (some .boolean), .fieldLink RX12 413 "HeapWorksModel" "classes" "I"]
def w_n_typeLook : List Cond := .code yX12_typeLook cX12_typeLook 6 (some .int) :: (l_n_typeLook ++ (wsX120))
theorem in_n_typeLook_X12 : ∀ w ∈ wsX120, w ∈ w_n_typeLook := fun w h => List.mem_cons_of_mem _ (List.mem_append_right _ (h))
theorem g_n_typeLook_z_X12_isClass_416 : GoodIn w_n_typeLook (wsV RX12 416 RX12 yX12_isClass w_z_X12_isClass) := goodIn_app (goodIn_sub (by decide +kernel) (by decide +kernel)) (goodIn_ca (goodIn_sub (by decide +kernel) (by decide +kernel)) (goodIn_in in_n_typeLook_X12 gd_X12))
set_option maxHeartbeats 4000000 in
set_option maxRecDepth 100000 in
theorem n_typeLook (l : Launch) (dC : Nat → ClassId) (dI : Nat → Nat → Nat) (sz : Nat) (aR : Nat) (fsR : List Value) (p0 : Int32) (p1 : Int32) (k_fsR : fh fsR 150 [(20, .int 0)])  : Met l yX12_typeLook w_n_typeLook ({ frames := 1, cells := 0, slots := 0, locals := 21 }) (va_Pc [.ref aR, .int p0, .int p1] (fun U => U.heap.size = sz ∧ Wd dC dI [] (fun _ => True) [(aR, .inr (15, fsR))] U)) (va_Qi (fun (r : Int32) (u : List Value) => (p0 < 0 ∧ r = (-1) ∧ ow fsR (u) 150 [0] [(0, .int 0), (20, .int 0)]) ∨ (¬ p0 < 0 ∧ 0 ≤ p0 ∧ r = (-1) ∧ ow fsR (u) 150 [0] [(0, .int 0), (20, .int 0)])) (fun (u : List Value) t => Wd dC dI [] (va_A [(aR, .inr (15, fsR))] sz) [(aR, .inr (15, (u)))] t) (va_A [(aR, .inr (15, fsR))] sz))  0 0 (va_A [(aR, .inr (15, fsR))] sz) := by
  refine Met.ofW (cc := cX12_typeLook) (maxL := 6) (ret := (some .int)) (by decide) rfl ?_
  intro p e s m args below meth c s₁ B hml hv
  obtain ⟨rfl, hsz, hP, hK, hD0⟩ := hv
  have hx := B.exec
  have hb := B.bytes
  have hr := B.returns
  have hts := atoms_spec (ws := w_n_typeLook) B.pre
  have hown : s.vm.findClass RX12 = some m.cls := findClass_of_methodNamed B.named
  have hlocks := B.notSynchronized
  subst hsz
  have hD := hD0.self (sz := s.heap.size)
  generalize hAe : va_A [(aR, .inr (15, fsR))] s.heap.size = A at hD ⊢
  have hA : ∀ q : Nat, s.heap.size ≤ q → A q := fun q h => by rw [← hAe]; exact Or.inr h
  have hS : va_S A s.heap s.heap [] := va_S.rf
  have hl := lv_entry ([.ref aR, .int p0, .int p1]) (n := 6) (Nat.le_of_ble_eq_true rfl)
  rw [lg_entry_eq]
  generalize (lg_sl ([.ref aR, .int p0, .int p1]) ++ List.replicate (6 - (lg_sl ([.ref aR, .int p0, .int p1])).length) Slot.unset).toArray = ls at hl ⊢
  have hl : lv_has ls 6 [(0, .ref aR), (1, .int p0), (2, .int p1)] := hl
  have o_fsR := ow_0 k_fsR
  refine lv_aload_n hx hb dX12_typeLook_0 rfl (lv_at hl 0 rfl) ?_
  refine lv_iconst (v := 0) hx hb dX12_typeLook_1 (by decide) ?_
  refine va_put (D := (dC, dI)) (ci := 15) (v := .int 0) (ty := .int) (C := RX12) (T := TX12) (N := 150) hx hb hts (in_n_typeLook_X12) tyX12 tyX12_ok nmX12 hown hK hP hD hS 0 rfl rfl 0 (by decide) (hts (.fieldLink RX12 388 "HeapWorksModel" "thrown" "I") (by decide +kernel)) (fun _ h9 => h9) rfl (by decide +kernel) rfl rfl (by rw [o_fsR.2.1]; decide) dX12_typeLook_2 (fun H locs hP hD hS => ?_)
  have hP : va_P (dC, dI) vwCl [(aR, .inr (15, (fsR.set 0 (.int 0))))] H := hP
  have hD : va_D A [(aR, .inr (15, (fsR.set 0 (.int 0))))] := hD
  have o_s629 := ow_set o_fsR 0 (.int 0) (by decide) (l' := [(0, .int 0), (20, .int 0)]) (w' := [0]) rfl rfl
  generalize (fsR.set 0 (.int 0)) = s629 at hP hD o_s629
  refine lv_aload_n hx hb dX12_typeLook_5 rfl (lv_at hl 0 rfl) ?_
  refine lv_iload_n hx hb dX12_typeLook_6 rfl (lv_at hl 1 rfl) ?_
  have hPc := hP.sub (ws' := [(aR, .inr (15, s629))]) [0] rfl
  have hDc := hD.sub (ws' := [(aR, .inr (15, s629))]) [0] (by decide) rfl
  have hKc := hK.sub (tys' := []) [] rfl
  have hFc := va_free (wc := [(aR, .inr (15, s629))]) hD hS hA [0] rfl
  refine va_calli (va_runV (As := [.int p0]) (rest := []) ⟨hx, hb, hml, hown, hts⟩ (z_X12_isClass l dC dI H.size aR s629 p0 (fh_sub o_s629.2 [1] rfl) ) (cwV 1 hts g_n_typeLook_z_X12_isClass_416 rfl rfl rfl (by decide +kernel) ⟨Nat.le_of_ble_eq_true rfl, Nat.le_of_ble_eq_true rfl⟩) ⟨fun a U g mk q => by obtain ⟨q0, q1, qP, qK, qD⟩ := q; exact ⟨q0, q1, qP, va_K.moved (u := U) (U := U.calling g mk a) (Vm.Alike.refl U.vm) qK, qD⟩, va_recv hK hP (ci := 15) (q0 := 0) rfl rfl, fun U hU hW => ⟨rfl, by rw [hU], by rw [hU]; exact hPc, va_K.moved hW.alike hKc, hDc.weaken (fun _ _ _ _ => trivial)⟩⟩ rfl rfl hl.1 rfl (lv_room (Nat.le_of_ble_eq_true rfl)) dX12_typeLook_7 ⟨Nat.le_of_ble_eq_true rfl, Nat.le_of_ble_eq_true rfl⟩) hS (fun q _ h => hFc q h) hFc (fun r632 u t H1 locs ht hvm hw hB hz1 hk1 hS => ?_)
  obtain ⟨hP1, hK1, hD1⟩ := hB
  rw [ht] at hP1
  try dsimp only at hw
  obtain ⟨hP, hD⟩ := va_join (wr := []) (w1 := [(aR, .inr (15, s629))]) hP hD [0] [] rfl rfl (by decide) (by decide) hk1 hFc hP1 hD1
  have hK := hK.sub (tys' := []) [] rfl
  generalize H1 = H at hP hS ⊢
  have hP : va_P (dC, dI) vwCl [(aR, .inr (15, s629))] H := hP
  have hD : va_D A [(aR, .inr (15, s629))] := hD
  rcases hw with ⟨c633, er634⟩ | ⟨c635, c636, er637⟩
  · skip
    subst er634
    refine lv_if_ne (tgt := 15) hx hb dX12_typeLook_10 (by decide) (fun c638 => absurd c638 (by decide)) (fun c638 => ?_)
    refine lv_iconst (v := (-1)) hx hb dX12_typeLook_13 (by decide) ?_
    have hP9 := hP.sub (ws' := [(aR, .inr (15, s629))]) [0] rfl
    have hD9 := hD.sub (ws' := [(aR, .inr (15, s629))]) [0] (by decide) rfl
    have hK9 := hK.sub (tys' := []) [] rfl
    exact W.iret (v := (-1)) hx hb hr (fun t ht hW => ⟨⟨(-1), s629, rfl, (Or.inl ⟨c633, rfl, o_s629⟩), by rw [ht]; exact hP9, va_K.moved hW.alike hK9, hD9⟩, hS.F ht⟩) hS.2.2 dX12_typeLook_14
  · skip
    subst er637
    refine lv_if_ne (tgt := 15) hx hb dX12_typeLook_10 (by decide) (fun c639 => absurd c639 (by decide)) (fun c639 => ?_)
    refine lv_iconst (v := (-1)) hx hb dX12_typeLook_13 (by decide) ?_
    have hP9 := hP.sub (ws' := [(aR, .inr (15, s629))]) [0] rfl
    have hD9 := hD.sub (ws' := [(aR, .inr (15, s629))]) [0] (by decide) rfl
    have hK9 := hK.sub (tys' := []) [] rfl
    exact W.iret (v := (-1)) hx hb hr (fun t ht hW => ⟨⟨(-1), s629, rfl, (Or.inr (⟨c635, c636, rfl, o_s629⟩)), by rw [ht]; exact hP9, va_K.moved hW.alike hK9, hD9⟩, hS.F ht⟩) hS.2.2 dX12_typeLook_14

def l_n_fieldLook : List Cond := [.fieldLink RX12 388 "HeapWorksModel" "thrown" "I", .methodLink RX12 416 yX12_isClass, .instanceMethod yX12_isClass, .selects RX12 yX12_isClass yX12_isClass, .initialized RX12, .code yX12_isClass cX12_isClass 2 (some .boolean), .fieldLink RX12 413 "HeapWorksModel" "classes" "I"]
def w_n_fieldLook : List Cond := .code yX12_fieldLook cX12_fieldLook 5 (some .int) :: (l_n_fieldLook ++ (wsX120))
theorem in_n_fieldLook_X12 : ∀ w ∈ wsX120, w ∈ w_n_fieldLook := fun w h => List.mem_cons_of_mem _ (List.mem_append_right _ (h))
theorem g_n_fieldLook_z_X12_isClass_416 : GoodIn w_n_fieldLook (wsV RX12 416 RX12 yX12_isClass w_z_X12_isClass) := goodIn_app (goodIn_sub (by decide +kernel) (by decide +kernel)) (goodIn_ca (goodIn_sub (by decide +kernel) (by decide +kernel)) (goodIn_in in_n_fieldLook_X12 gd_X12))
set_option maxHeartbeats 4000000 in
set_option maxRecDepth 100000 in
theorem n_fieldLook (l : Launch) (dC : Nat → ClassId) (dI : Nat → Nat → Nat) (sz : Nat) (aR : Nat) (fsR : List Value) (p0 : Int32) (p1 : Int32) (p2 : Int32) (k_fsR : fh fsR 150 [(20, .int 0)])  : Met l yX12_fieldLook w_n_fieldLook ({ frames := 1, cells := 0, slots := 0, locals := 21 }) (va_Pc [.ref aR, .int p0, .int p1, .int p2] (fun U => U.heap.size = sz ∧ Wd dC dI [] (fun _ => True) [(aR, .inr (15, fsR))] U)) (va_Qi (fun (r : Int32) (u : List Value) => (p0 < 0 ∧ r = (-1) ∧ ow fsR (u) 150 [0] [(0, .int 0), (20, .int 0)]) ∨ (¬ p0 < 0 ∧ 0 ≤ p0 ∧ r = (-1) ∧ ow fsR (u) 150 [0] [(0, .int 0), (20, .int 0)])) (fun (u : List Value) t => Wd dC dI [] (va_A [(aR, .inr (15, fsR))] sz) [(aR, .inr (15, (u)))] t) (va_A [(aR, .inr (15, fsR))] sz))  0 0 (va_A [(aR, .inr (15, fsR))] sz) := by
  refine Met.ofW (cc := cX12_fieldLook) (maxL := 5) (ret := (some .int)) (by decide) rfl ?_
  intro p e s m args below meth c s₁ B hml hv
  obtain ⟨rfl, hsz, hP, hK, hD0⟩ := hv
  have hx := B.exec
  have hb := B.bytes
  have hr := B.returns
  have hts := atoms_spec (ws := w_n_fieldLook) B.pre
  have hown : s.vm.findClass RX12 = some m.cls := findClass_of_methodNamed B.named
  have hlocks := B.notSynchronized
  subst hsz
  have hD := hD0.self (sz := s.heap.size)
  generalize hAe : va_A [(aR, .inr (15, fsR))] s.heap.size = A at hD ⊢
  have hA : ∀ q : Nat, s.heap.size ≤ q → A q := fun q h => by rw [← hAe]; exact Or.inr h
  have hS : va_S A s.heap s.heap [] := va_S.rf
  have hl := lv_entry ([.ref aR, .int p0, .int p1, .int p2]) (n := 5) (Nat.le_of_ble_eq_true rfl)
  rw [lg_entry_eq]
  generalize (lg_sl ([.ref aR, .int p0, .int p1, .int p2]) ++ List.replicate (5 - (lg_sl ([.ref aR, .int p0, .int p1, .int p2])).length) Slot.unset).toArray = ls at hl ⊢
  have hl : lv_has ls 5 [(0, .ref aR), (1, .int p0), (2, .int p1), (3, .int p2)] := hl
  have o_fsR := ow_0 k_fsR
  refine lv_aload_n hx hb dX12_fieldLook_0 rfl (lv_at hl 0 rfl) ?_
  refine lv_iconst (v := 0) hx hb dX12_fieldLook_1 (by decide) ?_
  refine va_put (D := (dC, dI)) (ci := 15) (v := .int 0) (ty := .int) (C := RX12) (T := TX12) (N := 150) hx hb hts (in_n_fieldLook_X12) tyX12 tyX12_ok nmX12 hown hK hP hD hS 0 rfl rfl 0 (by decide) (hts (.fieldLink RX12 388 "HeapWorksModel" "thrown" "I") (by decide +kernel)) (fun _ h9 => h9) rfl (by decide +kernel) rfl rfl (by rw [o_fsR.2.1]; decide) dX12_fieldLook_2 (fun H locs hP hD hS => ?_)
  have hP : va_P (dC, dI) vwCl [(aR, .inr (15, (fsR.set 0 (.int 0))))] H := hP
  have hD : va_D A [(aR, .inr (15, (fsR.set 0 (.int 0))))] := hD
  have o_s651 := ow_set o_fsR 0 (.int 0) (by decide) (l' := [(0, .int 0), (20, .int 0)]) (w' := [0]) rfl rfl
  generalize (fsR.set 0 (.int 0)) = s651 at hP hD o_s651
  refine lv_aload_n hx hb dX12_fieldLook_5 rfl (lv_at hl 0 rfl) ?_
  refine lv_iload_n hx hb dX12_fieldLook_6 rfl (lv_at hl 1 rfl) ?_
  have hPc := hP.sub (ws' := [(aR, .inr (15, s651))]) [0] rfl
  have hDc := hD.sub (ws' := [(aR, .inr (15, s651))]) [0] (by decide) rfl
  have hKc := hK.sub (tys' := []) [] rfl
  have hFc := va_free (wc := [(aR, .inr (15, s651))]) hD hS hA [0] rfl
  refine va_calli (va_runV (As := [.int p0]) (rest := []) ⟨hx, hb, hml, hown, hts⟩ (z_X12_isClass l dC dI H.size aR s651 p0 (fh_sub o_s651.2 [1] rfl) ) (cwV 1 hts g_n_fieldLook_z_X12_isClass_416 rfl rfl rfl (by decide +kernel) ⟨Nat.le_of_ble_eq_true rfl, Nat.le_of_ble_eq_true rfl⟩) ⟨fun a U g mk q => by obtain ⟨q0, q1, qP, qK, qD⟩ := q; exact ⟨q0, q1, qP, va_K.moved (u := U) (U := U.calling g mk a) (Vm.Alike.refl U.vm) qK, qD⟩, va_recv hK hP (ci := 15) (q0 := 0) rfl rfl, fun U hU hW => ⟨rfl, by rw [hU], by rw [hU]; exact hPc, va_K.moved hW.alike hKc, hDc.weaken (fun _ _ _ _ => trivial)⟩⟩ rfl rfl hl.1 rfl (lv_room (Nat.le_of_ble_eq_true rfl)) dX12_fieldLook_7 ⟨Nat.le_of_ble_eq_true rfl, Nat.le_of_ble_eq_true rfl⟩) hS (fun q _ h => hFc q h) hFc (fun r654 u t H1 locs ht hvm hw hB hz1 hk1 hS => ?_)
  obtain ⟨hP1, hK1, hD1⟩ := hB
  rw [ht] at hP1
  try dsimp only at hw
  obtain ⟨hP, hD⟩ := va_join (wr := []) (w1 := [(aR, .inr (15, s651))]) hP hD [0] [] rfl rfl (by decide) (by decide) hk1 hFc hP1 hD1
  have hK := hK.sub (tys' := []) [] rfl
  generalize H1 = H at hP hS ⊢
  have hP : va_P (dC, dI) vwCl [(aR, .inr (15, s651))] H := hP
  have hD : va_D A [(aR, .inr (15, s651))] := hD
  rcases hw with ⟨c655, er656⟩ | ⟨c657, c658, er659⟩
  · skip
    subst er656
    refine lv_if_eq (tgt := 27) hx hb dX12_fieldLook_10 (by decide) (fun c660 => ?_) (fun c660 => absurd c660 (by decide))
    refine lv_iconst (v := (-1)) hx hb dX12_fieldLook_27 (by decide) ?_
    have hP9 := hP.sub (ws' := [(aR, .inr (15, s651))]) [0] rfl
    have hD9 := hD.sub (ws' := [(aR, .inr (15, s651))]) [0] (by decide) rfl
    have hK9 := hK.sub (tys' := []) [] rfl
    exact W.iret (v := (-1)) hx hb hr (fun t ht hW => ⟨⟨(-1), s651, rfl, (Or.inl ⟨c655, rfl, o_s651⟩), by rw [ht]; exact hP9, va_K.moved hW.alike hK9, hD9⟩, hS.F ht⟩) hS.2.2 dX12_fieldLook_28
  · skip
    subst er659
    refine lv_if_eq (tgt := 27) hx hb dX12_fieldLook_10 (by decide) (fun c661 => ?_) (fun c661 => absurd c661 (by decide))
    refine lv_iconst (v := (-1)) hx hb dX12_fieldLook_27 (by decide) ?_
    have hP9 := hP.sub (ws' := [(aR, .inr (15, s651))]) [0] rfl
    have hD9 := hD.sub (ws' := [(aR, .inr (15, s651))]) [0] (by decide) rfl
    have hK9 := hK.sub (tys' := []) [] rfl
    exact W.iret (v := (-1)) hx hb hr (fun t ht hW => ⟨⟨(-1), s651, rfl, (Or.inr (⟨c657, c658, rfl, o_s651⟩)), by rw [ht]; exact hP9, va_K.moved hW.alike hK9, hD9⟩, hS.F ht⟩) hS.2.2 dX12_fieldLook_28

def l_z_X12_isArrayType : List Cond := [.methodLink RX12 416 yX12_isClass, .instanceMethod yX12_isClass, .selects RX12 yX12_isClass yX12_isClass, .initialized RX12, .code yX12_isClass cX12_isClass 2 (some .boolean), .fieldLink RX12 413 "HeapWorksModel" "classes" "I"]
def w_z_X12_isArrayType : List Cond := .code yX12_isArrayType cX12_isArrayType 2 (some .boolean) :: (l_z_X12_isArrayType ++ (wsX120))
theorem in_z_X12_isArrayType_X12 : ∀ w ∈ wsX120, w ∈ w_z_X12_isArrayType := fun w h => List.mem_cons_of_mem _ (List.mem_append_right _ (h))
theorem g_z_X12_isArrayType_z_X12_isClass_416 : GoodIn w_z_X12_isArrayType (wsV RX12 416 RX12 yX12_isClass w_z_X12_isClass) := goodIn_app (goodIn_sub (by decide +kernel) (by decide +kernel)) (goodIn_ca (goodIn_sub (by decide +kernel) (by decide +kernel)) (goodIn_in in_z_X12_isArrayType_X12 gd_X12))
set_option maxHeartbeats 4000000 in
set_option maxRecDepth 100000 in
theorem z_X12_isArrayType (l : Launch) (dC : Nat → ClassId) (dI : Nat → Nat → Nat) (sz : Nat) (Ad0 : Nat) (Fs0 : List Value) (Va0 : Int32) (k_Fs0 : fh Fs0 150 [(20, .int 0)])  : Met l yX12_isArrayType w_z_X12_isArrayType ({ frames := 1, cells := 0, slots := 0, locals := 21 }) (va_Pc [.ref Ad0, .int Va0] (fun U => U.heap.size = sz ∧ Wd dC dI [] (fun _ => True) [(Ad0, .inr (15, Fs0))] U)) (va_Qi (fun (r : Int32) (u : Unit) => (Va0 < 20 ∧ ¬ Va0 = 29 ∧ Va0 < 30 ∧ r = 0) ∨ (¬ Va0 < 20 ∧ Va0 ≤ 24 ∧ r = 1) ∨ (¬ Va0 < 20 ∧ ¬ Va0 ≤ 24 ∧ Va0 = 29 ∧ r = 1) ∨ (¬ Va0 < 20 ∧ ¬ Va0 ≤ 24 ∧ ¬ Va0 = 29 ∧ Va0 < 30 ∧ r = 0) ∨ (¬ Va0 < 20 ∧ ¬ Va0 ≤ 24 ∧ ¬ Va0 = 29 ∧ ¬ Va0 < 30 ∧ r = 0)) (fun (u : Unit) t => Wd dC dI [] (va_A [(Ad0, .inr (15, Fs0))] sz) [(Ad0, .inr (15, Fs0))] t) (va_A [(Ad0, .inr (15, Fs0))] sz))  0 0 (va_A [(Ad0, .inr (15, Fs0))] sz) := by
  refine Met.ofW (cc := cX12_isArrayType) (maxL := 2) (ret := (some .boolean)) (by decide) rfl ?_
  intro p e s m args below meth c s₁ B hml hv
  obtain ⟨rfl, hsz, hP, hK, hD0⟩ := hv
  have hx := B.exec
  have hb := B.bytes
  have hr := B.returns
  have hts := atoms_spec (ws := w_z_X12_isArrayType) B.pre
  have hown : s.vm.findClass RX12 = some m.cls := findClass_of_methodNamed B.named
  have hlocks := B.notSynchronized
  subst hsz
  have hD := hD0.self (sz := s.heap.size)
  generalize hAe : va_A [(Ad0, .inr (15, Fs0))] s.heap.size = A at hD ⊢
  have hA : ∀ q : Nat, s.heap.size ≤ q → A q := fun q h => by rw [← hAe]; exact Or.inr h
  have hS : va_S A s.heap s.heap [] := va_S.rf
  have hl := lv_entry ([.ref Ad0, .int Va0]) (n := 2) (Nat.le_of_ble_eq_true rfl)
  rw [lg_entry_eq]
  generalize (lg_sl ([.ref Ad0, .int Va0]) ++ List.replicate (2 - (lg_sl ([.ref Ad0, .int Va0])).length) Slot.unset).toArray = ls at hl ⊢
  have hl : lv_has ls 2 [(0, .ref Ad0), (1, .int Va0)] := hl
  have o_Fs0 := ow_0 k_Fs0
  refine lv_iload_n hx hb dX12_isArrayType_0 rfl (lv_at hl 1 rfl) ?_
  refine lv_bipush (v := 20) hx hb dX12_isArrayType_1 (by decide) ?_
  refine lv_icmp_lt (tgt := 12) hx hb dX12_isArrayType_3 (by decide) (fun c687 => ?_) (fun c687 => ?_)
  · skip
    refine lv_iload_n hx hb dX12_isArrayType_12 rfl (lv_at hl 1 rfl) ?_
    refine lv_bipush (v := 29) hx hb dX12_isArrayType_13 (by decide) ?_
    refine lv_icmp_eq (tgt := 35) hx hb dX12_isArrayType_15 (by decide) (fun c688 => (by exfalso; have bd_Va0 := i_bd Va0; (try simp only [i_lt, i_le, i_eq, kc_20, kc_29] at c687 c688); omega)) (fun c688 => ?_)
    refine lv_iload_n hx hb dX12_isArrayType_18 rfl (lv_at hl 1 rfl) ?_
    refine lv_bipush (v := 30) hx hb dX12_isArrayType_19 (by decide) ?_
    refine lv_icmp_lt (tgt := 39) hx hb dX12_isArrayType_21 (by decide) (fun c689 => ?_) (fun c689 => (by exfalso; have bd_Va0 := i_bd Va0; (try simp only [i_lt, i_le, i_eq, kc_20, kc_29, kc_30] at c687 c688 c689); omega))
    refine lv_iconst (v := 0) hx hb dX12_isArrayType_39 (by decide) ?_
    have hP9 := hP.sub (ws' := [(Ad0, .inr (15, Fs0))]) [0] rfl
    have hD9 := hD.sub (ws' := [(Ad0, .inr (15, Fs0))]) [0] (by decide) rfl
    have hK9 := hK.sub (tys' := []) [] rfl
    exact W.zret (v := 0) hx hb hr rfl (fun t ht hW => ⟨⟨0, (), rfl, (Or.inl ⟨c687, c688, c689, rfl⟩), by rw [ht]; exact hP9, va_K.moved hW.alike hK9, hD9⟩, hS.F ht⟩) hS.2.2 dX12_isArrayType_40
  · skip
    refine lv_iload_n hx hb dX12_isArrayType_6 rfl (lv_at hl 1 rfl) ?_
    refine lv_bipush (v := 24) hx hb dX12_isArrayType_7 (by decide) ?_
    refine lv_icmp_le (tgt := 35) hx hb dX12_isArrayType_9 (by decide) (fun c690 => ?_) (fun c690 => ?_)
    · skip
      refine lv_iconst (v := 1) hx hb dX12_isArrayType_35 (by decide) ?_
      refine lv_goto (tgt := 40) hx hb dX12_isArrayType_36 (by decide) ?_
      have hP9 := hP.sub (ws' := [(Ad0, .inr (15, Fs0))]) [0] rfl
      have hD9 := hD.sub (ws' := [(Ad0, .inr (15, Fs0))]) [0] (by decide) rfl
      have hK9 := hK.sub (tys' := []) [] rfl
      exact W.zret (v := 1) hx hb hr rfl (fun t ht hW => ⟨⟨1, (), rfl, (Or.inr (Or.inl ⟨c687, c690, rfl⟩)), by rw [ht]; exact hP9, va_K.moved hW.alike hK9, hD9⟩, hS.F ht⟩) hS.2.2 dX12_isArrayType_40
    · skip
      refine lv_iload_n hx hb dX12_isArrayType_12 rfl (lv_at hl 1 rfl) ?_
      refine lv_bipush (v := 29) hx hb dX12_isArrayType_13 (by decide) ?_
      refine lv_icmp_eq (tgt := 35) hx hb dX12_isArrayType_15 (by decide) (fun c691 => ?_) (fun c691 => ?_)
      · skip
        refine lv_iconst (v := 1) hx hb dX12_isArrayType_35 (by decide) ?_
        refine lv_goto (tgt := 40) hx hb dX12_isArrayType_36 (by decide) ?_
        have hP9 := hP.sub (ws' := [(Ad0, .inr (15, Fs0))]) [0] rfl
        have hD9 := hD.sub (ws' := [(Ad0, .inr (15, Fs0))]) [0] (by decide) rfl
        have hK9 := hK.sub (tys' := []) [] rfl
        exact W.zret (v := 1) hx hb hr rfl (fun t ht hW => ⟨⟨1, (), rfl, (Or.inr (Or.inr (Or.inl ⟨c687, c690, c691, rfl⟩))), by rw [ht]; exact hP9, va_K.moved hW.alike hK9, hD9⟩, hS.F ht⟩) hS.2.2 dX12_isArrayType_40
      · skip
        refine lv_iload_n hx hb dX12_isArrayType_18 rfl (lv_at hl 1 rfl) ?_
        refine lv_bipush (v := 30) hx hb dX12_isArrayType_19 (by decide) ?_
        refine lv_icmp_lt (tgt := 39) hx hb dX12_isArrayType_21 (by decide) (fun c692 => ?_) (fun c692 => ?_)
        · skip
          refine lv_iconst (v := 0) hx hb dX12_isArrayType_39 (by decide) ?_
          have hP9 := hP.sub (ws' := [(Ad0, .inr (15, Fs0))]) [0] rfl
          have hD9 := hD.sub (ws' := [(Ad0, .inr (15, Fs0))]) [0] (by decide) rfl
          have hK9 := hK.sub (tys' := []) [] rfl
          exact W.zret (v := 0) hx hb hr rfl (fun t ht hW => ⟨⟨0, (), rfl, (Or.inr (Or.inr (Or.inr (Or.inl ⟨c687, c690, c691, c692, rfl⟩)))), by rw [ht]; exact hP9, va_K.moved hW.alike hK9, hD9⟩, hS.F ht⟩) hS.2.2 dX12_isArrayType_40
        · skip
          refine lv_aload_n hx hb dX12_isArrayType_24 rfl (lv_at hl 0 rfl) ?_
          refine lv_iload_n hx hb dX12_isArrayType_25 rfl (lv_at hl 1 rfl) ?_
          refine lv_bipush (v := 30) hx hb dX12_isArrayType_26 (by decide) ?_
          refine lv_isub hx hb dX12_isArrayType_28  ?_
          refine lv_topi (fun x693 ex693 => ?_)
          have tx693 : x693.toInt = (Va0 : Int32).toInt - (30 : Int32).toInt := by rw [ex693]; exact i_sub (by have bd_Va0 := i_bd Va0; (try simp only [i_lt, i_le, i_eq, kc_20, kc_24, kc_29, kc_30] at c687 c690 c691 c692 ⊢); omega) (by have bd_Va0 := i_bd Va0; (try simp only [i_lt, i_le, i_eq, kc_20, kc_24, kc_29, kc_30] at c687 c690 c691 c692 ⊢); omega)
          have hPc := hP.sub (ws' := [(Ad0, .inr (15, Fs0))]) [0] rfl
          have hDc := hD.sub (ws' := [(Ad0, .inr (15, Fs0))]) [0] (by decide) rfl
          have hKc := hK.sub (tys' := []) [] rfl
          have hFc := va_free (wc := [(Ad0, .inr (15, Fs0))]) hD hS hA [0] rfl
          refine va_calli (va_runV (As := [.int x693]) (rest := []) ⟨hx, hb, hml, hown, hts⟩ (z_X12_isClass l dC dI s.heap.size Ad0 Fs0 x693 (fh_sub o_Fs0.2 [0] rfl) ) (cwV 1 hts g_z_X12_isArrayType_z_X12_isClass_416 rfl rfl rfl (by decide +kernel) ⟨Nat.le_of_ble_eq_true rfl, Nat.le_of_ble_eq_true rfl⟩) ⟨fun a U g mk q => by obtain ⟨q0, q1, qP, qK, qD⟩ := q; exact ⟨q0, q1, qP, va_K.moved (u := U) (U := U.calling g mk a) (Vm.Alike.refl U.vm) qK, qD⟩, va_recv hK hP (ci := 15) (q0 := 0) rfl rfl, fun U hU hW => ⟨rfl, by rw [hU], by rw [hU]; exact hPc, va_K.moved hW.alike hKc, hDc.weaken (fun _ _ _ _ => trivial)⟩⟩ rfl rfl hl.1 rfl (lv_room (Nat.le_of_ble_eq_true rfl)) dX12_isArrayType_29 ⟨Nat.le_of_ble_eq_true rfl, Nat.le_of_ble_eq_true rfl⟩) hS (fun q _ h => hFc q h) hFc (fun r696 u t H1 locs ht hvm hw hB hz1 hk1 hS => ?_)
          obtain ⟨hP1, hK1, hD1⟩ := hB
          rw [ht] at hP1
          try dsimp only at hw
          obtain ⟨hP, hD⟩ := va_join (wr := []) (w1 := [(Ad0, .inr (15, Fs0))]) hP hD [0] [] rfl rfl (by decide) (by decide) hk1 hFc hP1 hD1
          have hK := hK.sub (tys' := []) [] rfl
          generalize H1 = H at hP hS ⊢
          have hP : va_P (dC, dI) vwCl [(Ad0, .inr (15, Fs0))] H := hP
          have hD : va_D A [(Ad0, .inr (15, Fs0))] := hD
          rcases hw with ⟨c697, er698⟩ | ⟨c699, c700, er701⟩
          · exact (by exfalso; (try simp only [i_lt, i_le, i_eq, kc_30, kc_0, kc_20, kc_24, kc_29] at tx693 c697 c687 c690 c691 c692); omega)
          · skip
            subst er701
            refine lv_if_eq (tgt := 39) hx hb dX12_isArrayType_32 (by decide) (fun c702 => ?_) (fun c702 => absurd c702 (by decide))
            refine lv_iconst (v := 0) hx hb dX12_isArrayType_39 (by decide) ?_
            have hP9 := hP.sub (ws' := [(Ad0, .inr (15, Fs0))]) [0] rfl
            have hD9 := hD.sub (ws' := [(Ad0, .inr (15, Fs0))]) [0] (by decide) rfl
            have hK9 := hK.sub (tys' := []) [] rfl
            exact W.zret (v := 0) hx hb hr rfl (fun t ht hW => ⟨⟨0, (), rfl, (Or.inr (Or.inr (Or.inr (Or.inr (⟨c687, c690, c691, c692, rfl⟩))))), by rw [ht]; exact hP9, va_K.moved hW.alike hK9, hD9⟩, hS.F ht⟩) hS.2.2 dX12_isArrayType_40

def l_z_X12_slotCount : List Cond := [.methodLink RX12 416 yX12_isClass, .instanceMethod yX12_isClass, .selects RX12 yX12_isClass yX12_isClass, .initialized RX12, .code yX12_isClass cX12_isClass 2 (some .boolean), .fieldLink RX12 413 "HeapWorksModel" "classes" "I"]
def w_z_X12_slotCount : List Cond := .code yX12_slotCount cX12_slotCount 3 (some .int) :: (l_z_X12_slotCount ++ (wsX120))
theorem in_z_X12_slotCount_X12 : ∀ w ∈ wsX120, w ∈ w_z_X12_slotCount := fun w h => List.mem_cons_of_mem _ (List.mem_append_right _ (h))
theorem g_z_X12_slotCount_z_X12_isClass_416 : GoodIn w_z_X12_slotCount (wsV RX12 416 RX12 yX12_isClass w_z_X12_isClass) := goodIn_app (goodIn_sub (by decide +kernel) (by decide +kernel)) (goodIn_ca (goodIn_sub (by decide +kernel) (by decide +kernel)) (goodIn_in in_z_X12_slotCount_X12 gd_X12))
set_option maxHeartbeats 4000000 in
set_option maxRecDepth 100000 in
theorem z_X12_slotCount (l : Launch) (dC : Nat → ClassId) (dI : Nat → Nat → Nat) (sz : Nat) (Ad0 : Nat) (Fs0 : List Value) (Va0 : Int32) (Va1 : Int32) (k_Fs0 : fh Fs0 150 [(20, .int 0)])  : Met l yX12_slotCount w_z_X12_slotCount ({ frames := 1, cells := 0, slots := 0, locals := 21 }) (va_Pc [.ref Ad0, .int Va0, .int Va1] (fun U => U.heap.size = sz ∧ Wd dC dI [] (fun _ => True) [(Ad0, .inr (15, Fs0))] U)) (va_Qi (fun (r : Int32) (u : Unit) => (Va0 < 0 ∧ r = Va1) ∨ (¬ Va0 < 0 ∧ 0 ≤ Va0 ∧ r = Va1)) (fun (u : Unit) t => Wd dC dI [] (va_A [(Ad0, .inr (15, Fs0))] sz) [(Ad0, .inr (15, Fs0))] t) (va_A [(Ad0, .inr (15, Fs0))] sz))  0 0 (va_A [(Ad0, .inr (15, Fs0))] sz) := by
  refine Met.ofW (cc := cX12_slotCount) (maxL := 3) (ret := (some .int)) (by decide) rfl ?_
  intro p e s m args below meth c s₁ B hml hv
  obtain ⟨rfl, hsz, hP, hK, hD0⟩ := hv
  have hx := B.exec
  have hb := B.bytes
  have hr := B.returns
  have hts := atoms_spec (ws := w_z_X12_slotCount) B.pre
  have hown : s.vm.findClass RX12 = some m.cls := findClass_of_methodNamed B.named
  have hlocks := B.notSynchronized
  subst hsz
  have hD := hD0.self (sz := s.heap.size)
  generalize hAe : va_A [(Ad0, .inr (15, Fs0))] s.heap.size = A at hD ⊢
  have hA : ∀ q : Nat, s.heap.size ≤ q → A q := fun q h => by rw [← hAe]; exact Or.inr h
  have hS : va_S A s.heap s.heap [] := va_S.rf
  have hl := lv_entry ([.ref Ad0, .int Va0, .int Va1]) (n := 3) (Nat.le_of_ble_eq_true rfl)
  rw [lg_entry_eq]
  generalize (lg_sl ([.ref Ad0, .int Va0, .int Va1]) ++ List.replicate (3 - (lg_sl ([.ref Ad0, .int Va0, .int Va1])).length) Slot.unset).toArray = ls at hl ⊢
  have hl : lv_has ls 3 [(0, .ref Ad0), (1, .int Va0), (2, .int Va1)] := hl
  have o_Fs0 := ow_0 k_Fs0
  refine lv_aload_n hx hb dX12_slotCount_0 rfl (lv_at hl 0 rfl) ?_
  refine lv_iload_n hx hb dX12_slotCount_1 rfl (lv_at hl 1 rfl) ?_
  have hPc := hP.sub (ws' := [(Ad0, .inr (15, Fs0))]) [0] rfl
  have hDc := hD.sub (ws' := [(Ad0, .inr (15, Fs0))]) [0] (by decide) rfl
  have hKc := hK.sub (tys' := []) [] rfl
  have hFc := va_free (wc := [(Ad0, .inr (15, Fs0))]) hD hS hA [0] rfl
  refine va_calli (va_runV (As := [.int Va0]) (rest := []) ⟨hx, hb, hml, hown, hts⟩ (z_X12_isClass l dC dI s.heap.size Ad0 Fs0 Va0 (fh_sub o_Fs0.2 [0] rfl) ) (cwV 1 hts g_z_X12_slotCount_z_X12_isClass_416 rfl rfl rfl (by decide +kernel) ⟨Nat.le_of_ble_eq_true rfl, Nat.le_of_ble_eq_true rfl⟩) ⟨fun a U g mk q => by obtain ⟨q0, q1, qP, qK, qD⟩ := q; exact ⟨q0, q1, qP, va_K.moved (u := U) (U := U.calling g mk a) (Vm.Alike.refl U.vm) qK, qD⟩, va_recv hK hP (ci := 15) (q0 := 0) rfl rfl, fun U hU hW => ⟨rfl, by rw [hU], by rw [hU]; exact hPc, va_K.moved hW.alike hKc, hDc.weaken (fun _ _ _ _ => trivial)⟩⟩ rfl rfl hl.1 rfl (lv_room (Nat.le_of_ble_eq_true rfl)) dX12_slotCount_2 ⟨Nat.le_of_ble_eq_true rfl, Nat.le_of_ble_eq_true rfl⟩) hS (fun q _ h => hFc q h) hFc (fun r790 u t H1 locs ht hvm hw hB hz1 hk1 hS => ?_)
  obtain ⟨hP1, hK1, hD1⟩ := hB
  rw [ht] at hP1
  try dsimp only at hw
  obtain ⟨hP, hD⟩ := va_join (wr := []) (w1 := [(Ad0, .inr (15, Fs0))]) hP hD [0] [] rfl rfl (by decide) (by decide) hk1 hFc hP1 hD1
  have hK := hK.sub (tys' := []) [] rfl
  generalize H1 = H at hP hS ⊢
  have hP : va_P (dC, dI) vwCl [(Ad0, .inr (15, Fs0))] H := hP
  have hD : va_D A [(Ad0, .inr (15, Fs0))] := hD
  rcases hw with ⟨c791, er792⟩ | ⟨c793, c794, er795⟩
  · skip
    subst er792
    refine lv_if_eq (tgt := 17) hx hb dX12_slotCount_5 (by decide) (fun c796 => ?_) (fun c796 => absurd c796 (by decide))
    refine lv_iload_n hx hb dX12_slotCount_17 rfl (lv_at hl 2 rfl) ?_
    have hP9 := hP.sub (ws' := [(Ad0, .inr (15, Fs0))]) [0] rfl
    have hD9 := hD.sub (ws' := [(Ad0, .inr (15, Fs0))]) [0] (by decide) rfl
    have hK9 := hK.sub (tys' := []) [] rfl
    exact W.iret (v := Va1) hx hb hr (fun t ht hW => ⟨⟨Va1, (), rfl, (Or.inl ⟨c791, rfl⟩), by rw [ht]; exact hP9, va_K.moved hW.alike hK9, hD9⟩, hS.F ht⟩) hS.2.2 dX12_slotCount_18
  · skip
    subst er795
    refine lv_if_eq (tgt := 17) hx hb dX12_slotCount_5 (by decide) (fun c797 => ?_) (fun c797 => absurd c797 (by decide))
    refine lv_iload_n hx hb dX12_slotCount_17 rfl (lv_at hl 2 rfl) ?_
    have hP9 := hP.sub (ws' := [(Ad0, .inr (15, Fs0))]) [0] rfl
    have hD9 := hD.sub (ws' := [(Ad0, .inr (15, Fs0))]) [0] (by decide) rfl
    have hK9 := hK.sub (tys' := []) [] rfl
    exact W.iret (v := Va1) hx hb hr (fun t ht hW => ⟨⟨Va1, (), rfl, (Or.inr (⟨c793, c794, rfl⟩)), by rw [ht]; exact hP9, va_K.moved hW.alike hK9, hD9⟩, hS.F ht⟩) hS.2.2 dX12_slotCount_18

def l_z_X12_kindOf : List Cond := [.methodLink RX12 416 yX12_isClass, .instanceMethod yX12_isClass, .selects RX12 yX12_isClass yX12_isClass, .initialized RX12, .code yX12_isClass cX12_isClass 2 (some .boolean), .fieldLink RX12 413 "HeapWorksModel" "classes" "I"]
def w_z_X12_kindOf : List Cond := .code yX12_kindOf cX12_kindOf 3 (some .int) :: (l_z_X12_kindOf ++ (wsX120))
theorem in_z_X12_kindOf_X12 : ∀ w ∈ wsX120, w ∈ w_z_X12_kindOf := fun w h => List.mem_cons_of_mem _ (List.mem_append_right _ (h))
theorem g_z_X12_kindOf_z_X12_isClass_416 : GoodIn w_z_X12_kindOf (wsV RX12 416 RX12 yX12_isClass w_z_X12_isClass) := goodIn_app (goodIn_sub (by decide +kernel) (by decide +kernel)) (goodIn_ca (goodIn_sub (by decide +kernel) (by decide +kernel)) (goodIn_in in_z_X12_kindOf_X12 gd_X12))
set_option maxHeartbeats 4000000 in
set_option maxRecDepth 100000 in
theorem z_X12_kindOf (l : Launch) (dC : Nat → ClassId) (dI : Nat → Nat → Nat) (sz : Nat) (Ad0 : Nat) (Fs0 : List Value) (Va0 : Int32) (Va1 : Int32) (k_Fs0 : fh Fs0 150 [(20, .int 0)])  : Met l yX12_kindOf w_z_X12_kindOf ({ frames := 1, cells := 0, slots := 0, locals := 21 }) (va_Pc [.ref Ad0, .int Va0, .int Va1] (fun U => U.heap.size = sz ∧ Wd dC dI [] (fun _ => True) [(Ad0, .inr (15, Fs0))] U)) (va_Qi (fun (r : Int32) (u : Unit) => (Va0 < 0 ∧ Va0 < 29 ∧ r = (Va0 - 20)) ∨ (¬ Va0 < 0 ∧ 0 ≤ Va0 ∧ Va0 < 29 ∧ r = (Va0 - 20)) ∨ (¬ Va0 < 0 ∧ 0 ≤ Va0 ∧ ¬ Va0 < 29 ∧ r = 5)) (fun (u : Unit) t => Wd dC dI [] (va_A [(Ad0, .inr (15, Fs0))] sz) [(Ad0, .inr (15, Fs0))] t) (va_A [(Ad0, .inr (15, Fs0))] sz))  0 0 (va_A [(Ad0, .inr (15, Fs0))] sz) := by
  refine Met.ofW (cc := cX12_kindOf) (maxL := 3) (ret := (some .int)) (by decide) rfl ?_
  intro p e s m args below meth c s₁ B hml hv
  obtain ⟨rfl, hsz, hP, hK, hD0⟩ := hv
  have hx := B.exec
  have hb := B.bytes
  have hr := B.returns
  have hts := atoms_spec (ws := w_z_X12_kindOf) B.pre
  have hown : s.vm.findClass RX12 = some m.cls := findClass_of_methodNamed B.named
  have hlocks := B.notSynchronized
  subst hsz
  have hD := hD0.self (sz := s.heap.size)
  generalize hAe : va_A [(Ad0, .inr (15, Fs0))] s.heap.size = A at hD ⊢
  have hA : ∀ q : Nat, s.heap.size ≤ q → A q := fun q h => by rw [← hAe]; exact Or.inr h
  have hS : va_S A s.heap s.heap [] := va_S.rf
  have hl := lv_entry ([.ref Ad0, .int Va0, .int Va1]) (n := 3) (Nat.le_of_ble_eq_true rfl)
  rw [lg_entry_eq]
  generalize (lg_sl ([.ref Ad0, .int Va0, .int Va1]) ++ List.replicate (3 - (lg_sl ([.ref Ad0, .int Va0, .int Va1])).length) Slot.unset).toArray = ls at hl ⊢
  have hl : lv_has ls 3 [(0, .ref Ad0), (1, .int Va0), (2, .int Va1)] := hl
  have o_Fs0 := ow_0 k_Fs0
  refine lv_aload_n hx hb dX12_kindOf_0 rfl (lv_at hl 0 rfl) ?_
  refine lv_iload_n hx hb dX12_kindOf_1 rfl (lv_at hl 1 rfl) ?_
  have hPc := hP.sub (ws' := [(Ad0, .inr (15, Fs0))]) [0] rfl
  have hDc := hD.sub (ws' := [(Ad0, .inr (15, Fs0))]) [0] (by decide) rfl
  have hKc := hK.sub (tys' := []) [] rfl
  have hFc := va_free (wc := [(Ad0, .inr (15, Fs0))]) hD hS hA [0] rfl
  refine va_calli (va_runV (As := [.int Va0]) (rest := []) ⟨hx, hb, hml, hown, hts⟩ (z_X12_isClass l dC dI s.heap.size Ad0 Fs0 Va0 (fh_sub o_Fs0.2 [0] rfl) ) (cwV 1 hts g_z_X12_kindOf_z_X12_isClass_416 rfl rfl rfl (by decide +kernel) ⟨Nat.le_of_ble_eq_true rfl, Nat.le_of_ble_eq_true rfl⟩) ⟨fun a U g mk q => by obtain ⟨q0, q1, qP, qK, qD⟩ := q; exact ⟨q0, q1, qP, va_K.moved (u := U) (U := U.calling g mk a) (Vm.Alike.refl U.vm) qK, qD⟩, va_recv hK hP (ci := 15) (q0 := 0) rfl rfl, fun U hU hW => ⟨rfl, by rw [hU], by rw [hU]; exact hPc, va_K.moved hW.alike hKc, hDc.weaken (fun _ _ _ _ => trivial)⟩⟩ rfl rfl hl.1 rfl (lv_room (Nat.le_of_ble_eq_true rfl)) dX12_kindOf_2 ⟨Nat.le_of_ble_eq_true rfl, Nat.le_of_ble_eq_true rfl⟩) hS (fun q _ h => hFc q h) hFc (fun r918 u t H1 locs ht hvm hw hB hz1 hk1 hS => ?_)
  obtain ⟨hP1, hK1, hD1⟩ := hB
  rw [ht] at hP1
  try dsimp only at hw
  obtain ⟨hP, hD⟩ := va_join (wr := []) (w1 := [(Ad0, .inr (15, Fs0))]) hP hD [0] [] rfl rfl (by decide) (by decide) hk1 hFc hP1 hD1
  have hK := hK.sub (tys' := []) [] rfl
  generalize H1 = H at hP hS ⊢
  have hP : va_P (dC, dI) vwCl [(Ad0, .inr (15, Fs0))] H := hP
  have hD : va_D A [(Ad0, .inr (15, Fs0))] := hD
  rcases hw with ⟨c919, er920⟩ | ⟨c921, c922, er923⟩
  · skip
    subst er920
    refine lv_if_eq (tgt := 22) hx hb dX12_kindOf_5 (by decide) (fun c924 => ?_) (fun c924 => absurd c924 (by decide))
    refine lv_iload_n hx hb dX12_kindOf_22 rfl (lv_at hl 1 rfl) ?_
    refine lv_bipush (v := 29) hx hb dX12_kindOf_23 (by decide) ?_
    refine lv_icmp_lt (tgt := 32) hx hb dX12_kindOf_25 (by decide) (fun c925 => ?_) (fun c925 => (by exfalso; have bd_Va0 := i_bd Va0; (try simp only [i_lt, i_le, i_eq, kc_0, kc_29] at c919 c925); omega))
    refine lv_iload_n hx hb dX12_kindOf_32 rfl (lv_at hl 1 rfl) ?_
    refine lv_bipush (v := 20) hx hb dX12_kindOf_33 (by decide) ?_
    refine lv_isub hx hb dX12_kindOf_35  ?_
    refine lv_topi (fun x926 ex926 => ?_)
    have hP9 := hP.sub (ws' := [(Ad0, .inr (15, Fs0))]) [0] rfl
    have hD9 := hD.sub (ws' := [(Ad0, .inr (15, Fs0))]) [0] (by decide) rfl
    have hK9 := hK.sub (tys' := []) [] rfl
    exact W.iret (v := x926) hx hb hr (fun t ht hW => ⟨⟨x926, (), rfl, (Or.inl ⟨c919, c925, (by subst_vars; rfl)⟩), by rw [ht]; exact hP9, va_K.moved hW.alike hK9, hD9⟩, hS.F ht⟩) hS.2.2 dX12_kindOf_36
  · skip
    subst er923
    refine lv_if_eq (tgt := 22) hx hb dX12_kindOf_5 (by decide) (fun c927 => ?_) (fun c927 => absurd c927 (by decide))
    refine lv_iload_n hx hb dX12_kindOf_22 rfl (lv_at hl 1 rfl) ?_
    refine lv_bipush (v := 29) hx hb dX12_kindOf_23 (by decide) ?_
    refine lv_icmp_lt (tgt := 32) hx hb dX12_kindOf_25 (by decide) (fun c928 => ?_) (fun c928 => ?_)
    · skip
      refine lv_iload_n hx hb dX12_kindOf_32 rfl (lv_at hl 1 rfl) ?_
      refine lv_bipush (v := 20) hx hb dX12_kindOf_33 (by decide) ?_
      refine lv_isub hx hb dX12_kindOf_35  ?_
      refine lv_topi (fun x929 ex929 => ?_)
      have tx929 : x929.toInt = (Va0 : Int32).toInt - (20 : Int32).toInt := by rw [ex929]; exact i_sub (by have bd_Va0 := i_bd Va0; (try simp only [i_lt, i_le, i_eq, kc_0, kc_29, kc_20] at c921 c922 c928 ⊢); omega) (by have bd_Va0 := i_bd Va0; (try simp only [i_lt, i_le, i_eq, kc_0, kc_29, kc_20] at c921 c922 c928 ⊢); omega)
      have hP9 := hP.sub (ws' := [(Ad0, .inr (15, Fs0))]) [0] rfl
      have hD9 := hD.sub (ws' := [(Ad0, .inr (15, Fs0))]) [0] (by decide) rfl
      have hK9 := hK.sub (tys' := []) [] rfl
      exact W.iret (v := x929) hx hb hr (fun t ht hW => ⟨⟨x929, (), rfl, (Or.inr (Or.inl ⟨c921, c922, c928, (by subst_vars; rfl)⟩)), by rw [ht]; exact hP9, va_K.moved hW.alike hK9, hD9⟩, hS.F ht⟩) hS.2.2 dX12_kindOf_36
    · skip
      refine lv_iconst (v := 5) hx hb dX12_kindOf_28 (by decide) ?_
      refine lv_goto (tgt := 36) hx hb dX12_kindOf_29 (by decide) ?_
      have hP9 := hP.sub (ws' := [(Ad0, .inr (15, Fs0))]) [0] rfl
      have hD9 := hD.sub (ws' := [(Ad0, .inr (15, Fs0))]) [0] (by decide) rfl
      have hK9 := hK.sub (tys' := []) [] rfl
      exact W.iret (v := 5) hx hb hr (fun t ht hW => ⟨⟨5, (), rfl, (Or.inr (Or.inr (⟨c921, c922, c928, rfl⟩))), by rw [ht]; exact hP9, va_K.moved hW.alike hK9, hD9⟩, hS.F ht⟩) hS.2.2 dX12_kindOf_36
