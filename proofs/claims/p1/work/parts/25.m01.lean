def l_z_X12_feed : List Cond := [.fieldLink RX12 388 "HeapWorksModel" "thrown" "I", .fieldLink RX12 13 "HeapWorksModel" "ready" "[B"]
def w_z_X12_feed : List Cond := .code yX12_feed cX12_feed 8 none :: (l_z_X12_feed ++ (wsX120))
theorem in_z_X12_feed_X12 : ∀ w ∈ wsX120, w ∈ w_z_X12_feed := fun w h => List.mem_cons_of_mem _ (List.mem_append_right _ (h))
set_option maxHeartbeats 4000000 in
set_option maxRecDepth 100000 in
theorem z_X12_feed (l : Launch) (dC : Nat → ClassId) (dI : Nat → Nat → Nat) (sz : Nat) (Ad0 : Nat) (Fs0 : List Value) (Ad1 : Nat) (Fa0 : Nat → Int32) (Ka0 : ClassId) (Va0 : Int32) (Va1 : Int32) (Va2 : Int32) (Va3 : Int32) (Va4 : Int32) (k_Fs0 : fh Fs0 150 [(2, .ref Ad1)])  : Met l yX12_feed w_z_X12_feed ({ frames := 0, cells := 0, slots := 0, locals := 0 }) (va_Pc [.ref Ad0, .int Va0, .int Va1, .int Va2, .int Va3, .int Va4] (fun U => U.heap.size = sz ∧ Wd dC dI [(Ka0, .byte)] (fun _ => True) [(Ad0, .inr (15, Fs0)), (Ad1, .inl (Ka0, 20, .inl Fa0))] U)) (va_Qv (fun (u : List Value × (Nat → Int32)) => ow Fs0 (u.1) 150 [0] [(0, .int 0), (2, .ref Ad1)]) (fun (u : List Value × (Nat → Int32)) t => Wd dC dI [(Ka0, .byte)] (va_A [(Ad0, .inr (15, Fs0)), (Ad1, .inl (Ka0, 20, .inl Fa0))] sz) [(Ad0, .inr (15, (u.1))), (Ad1, .inl (Ka0, 20, .inl ((u.2))))] t) (va_A [(Ad0, .inr (15, Fs0)), (Ad1, .inl (Ka0, 20, .inl Fa0))] sz))  0 0 (va_A [(Ad0, .inr (15, Fs0)), (Ad1, .inl (Ka0, 20, .inl Fa0))] sz) := by
  refine Met.ofW (cc := cX12_feed) (maxL := 8) (ret := none) (by decide) rfl ?_
  intro p e s m args below meth c s₁ B hml hv
  obtain ⟨rfl, hsz, hP, hK, hD0⟩ := hv
  have hx := B.exec
  have hb := B.bytes
  have hr := B.returns
  have hts := atoms_spec (ws := w_z_X12_feed) B.pre
  have hown : s.vm.findClass RX12 = some m.cls := findClass_of_methodNamed B.named
  have hlocks := B.notSynchronized
  subst hsz
  have hD := hD0.self (sz := s.heap.size)
  generalize hAe : va_A [(Ad0, .inr (15, Fs0)), (Ad1, .inl (Ka0, 20, .inl Fa0))] s.heap.size = A at hD ⊢
  have hA : ∀ q : Nat, s.heap.size ≤ q → A q := fun q h => by rw [← hAe]; exact Or.inr h
  have hS : va_S A s.heap s.heap [] := va_S.rf
  have hl := lv_entry ([.ref Ad0, .int Va0, .int Va1, .int Va2, .int Va3, .int Va4]) (n := 8) (Nat.le_of_ble_eq_true rfl)
  rw [lg_entry_eq]
  generalize (lg_sl ([.ref Ad0, .int Va0, .int Va1, .int Va2, .int Va3, .int Va4]) ++ List.replicate (8 - (lg_sl ([.ref Ad0, .int Va0, .int Va1, .int Va2, .int Va3, .int Va4])).length) Slot.unset).toArray = ls at hl ⊢
  have hl : lv_has ls 8 [(0, .ref Ad0), (1, .int Va0), (2, .int Va1), (3, .int Va2), (4, .int Va3), (5, .int Va4)] := hl
  have o_Fs0 := ow_0 k_Fs0
  refine lv_aload_n hx hb dX12_feed_0 rfl (lv_at hl 0 rfl) ?_
  refine lv_iconst (v := 0) hx hb dX12_feed_1 (by decide) ?_
  refine va_put (D := (dC, dI)) (ci := 15) (v := .int 0) (ty := .int) (C := RX12) (T := TX12) (N := 150) hx hb hts (in_z_X12_feed_X12) tyX12 tyX12_ok nmX12 hown hK hP hD hS 0 rfl rfl 0 (by decide) (hts (.fieldLink RX12 388 "HeapWorksModel" "thrown" "I") (by decide +kernel)) (fun _ h9 => h9) rfl (by decide +kernel) rfl rfl (by rw [o_Fs0.2.1]; decide) dX12_feed_2 (fun H locs hP hD hS => ?_)
  have hP : va_P (dC, dI) vwCl [(Ad0, .inr (15, (Fs0.set 0 (.int 0)))), (Ad1, .inl (Ka0, 20, .inl Fa0))] H := hP
  have hD : va_D A [(Ad0, .inr (15, (Fs0.set 0 (.int 0)))), (Ad1, .inl (Ka0, 20, .inl Fa0))] := hD
  have o_s101 := ow_set o_Fs0 0 (.int 0) (by decide) (l' := [(0, .int 0), (2, .ref Ad1)]) (w' := [0]) rfl rfl
  generalize (Fs0.set 0 (.int 0)) = s101 at hP hD o_s101
  refine lv_iconst (v := 0) hx hb dX12_feed_5 (by decide) ?_
  refine lv_istore (lv' := [(6, .int 0), (0, .ref Ad0), (1, .int Va0), (2, .int Va1), (3, .int Va2), (4, .int Va3), (5, .int Va4)]) hx hb dX12_feed_6 hl (by decide) rfl (fun ls hl => ?_)
  refine lv_iload hx hb dX12_feed_8 (lv_at hl 0 rfl) ?_
  refine lv_iconst (v := 4) hx hb dX12_feed_10 (by decide) ?_
  refine lv_icmp_ge (tgt := 103) hx hb dX12_feed_11 (by decide) (fun c102 => absurd c102 (by decide)) (fun c102 => ?_)
  refine lv_bipush (v := 24) hx hb dX12_feed_14 (by decide) ?_
  refine lv_bipush (v := 8) hx hb dX12_feed_16 (by decide) ?_
  refine lv_iload hx hb dX12_feed_18 (lv_at hl 0 rfl) ?_
  refine lv_imul hx hb dX12_feed_20  ?_
  refine lv_topi (fun x103 ex103 => ?_)
  obtain rfl : x103 = 0 := ex103.trans (by decide)
  refine lv_isub hx hb dX12_feed_21  ?_
  refine lv_topi (fun x104 ex104 => ?_)
  obtain rfl : x104 = 24 := ex104.trans (by decide)
  refine lv_istore (lv' := [(7, .int 24), (6, .int 0), (0, .ref Ad0), (1, .int Va0), (2, .int Va1), (3, .int Va2), (4, .int Va3), (5, .int Va4)]) hx hb dX12_feed_22 hl (by decide) rfl (fun ls hl => ?_)
  refine lv_aload_n hx hb dX12_feed_24 rfl (lv_at hl 2 rfl) ?_
  refine va_get (D := (dC, dI)) (ci := 15) (v := .ref Ad1) (C := RX12) (T := TX12) (N := 150) hx hb hts (in_z_X12_feed_X12) hown hK hP 0 rfl rfl 2 (by decide) (hts (.fieldLink RX12 13 "HeapWorksModel" "ready" "[B") (by decide +kernel)) (fun _ h9 => h9) (ow_at o_s101 1 rfl) dX12_feed_25 ?_
  refine lv_iload hx hb dX12_feed_28 (lv_at hl 1 rfl) ?_
  refine lv_iload_n hx hb dX12_feed_30 rfl (lv_at hl 3 rfl) ?_
  refine lv_iload hx hb dX12_feed_31 (lv_at hl 0 rfl) ?_
  refine lv_ishr hx hb dX12_feed_33  ?_
  refine lv_topi (fun x105 ex105 => ?_)
  refine lv_i2b hx hb dX12_feed_34 rfl ?_
  refine lv_topi (fun x106 ex106 => ?_)
  refine va_bast hx hb hK hP hD hS 1 0 rfl rfl (show vp_in 0 20 from by unfold vp_in; decide) dX12_feed_35 (fun H locs hP hD hS => ?_)
  have hP : va_P (dC, dI) vwCl [(Ad0, .inr (15, s101)), (Ad1, .inl (Ka0, 20, .inl (upd Fa0 (0 : Int32).toNatClampNeg (vp_nar .byte x106))))] H := hP
  have hD : va_D A [(Ad0, .inr (15, s101)), (Ad1, .inl (Ka0, 20, .inl (upd Fa0 (0 : Int32).toNatClampNeg (vp_nar .byte x106))))] := hD
  generalize upd Fa0 (0 : Int32).toNatClampNeg (vp_nar .byte x106) = f107 at hP hD
  refine lv_aload_n hx hb dX12_feed_36 rfl (lv_at hl 2 rfl) ?_
  refine va_get (D := (dC, dI)) (ci := 15) (v := .ref Ad1) (C := RX12) (T := TX12) (N := 150) hx hb hts (in_z_X12_feed_X12) hown hK hP 0 rfl rfl 2 (by decide) (hts (.fieldLink RX12 13 "HeapWorksModel" "ready" "[B") (by decide +kernel)) (fun _ h9 => h9) (ow_at o_s101 1 rfl) dX12_feed_37 ?_
  refine lv_iconst (v := 4) hx hb dX12_feed_40 (by decide) ?_
  refine lv_iload hx hb dX12_feed_41 (lv_at hl 1 rfl) ?_
  refine lv_iadd hx hb dX12_feed_43  ?_
  refine lv_topi (fun x108 ex108 => ?_)
  obtain rfl : x108 = 4 := ex108.trans (by decide)
  refine lv_iload_n hx hb dX12_feed_44 rfl (lv_at hl 4 rfl) ?_
  refine lv_iload hx hb dX12_feed_45 (lv_at hl 0 rfl) ?_
  refine lv_ishr hx hb dX12_feed_47  ?_
  refine lv_topi (fun x109 ex109 => ?_)
  refine lv_i2b hx hb dX12_feed_48 rfl ?_
  refine lv_topi (fun x110 ex110 => ?_)
  refine va_bast hx hb hK hP hD hS 1 0 rfl rfl (show vp_in 4 20 from by unfold vp_in; decide) dX12_feed_49 (fun H locs hP hD hS => ?_)
  have hP : va_P (dC, dI) vwCl [(Ad0, .inr (15, s101)), (Ad1, .inl (Ka0, 20, .inl (upd f107 (4 : Int32).toNatClampNeg (vp_nar .byte x110))))] H := hP
  have hD : va_D A [(Ad0, .inr (15, s101)), (Ad1, .inl (Ka0, 20, .inl (upd f107 (4 : Int32).toNatClampNeg (vp_nar .byte x110))))] := hD
  generalize upd f107 (4 : Int32).toNatClampNeg (vp_nar .byte x110) = f111 at hP hD
  refine lv_aload_n hx hb dX12_feed_50 rfl (lv_at hl 2 rfl) ?_
  refine va_get (D := (dC, dI)) (ci := 15) (v := .ref Ad1) (C := RX12) (T := TX12) (N := 150) hx hb hts (in_z_X12_feed_X12) hown hK hP 0 rfl rfl 2 (by decide) (hts (.fieldLink RX12 13 "HeapWorksModel" "ready" "[B") (by decide +kernel)) (fun _ h9 => h9) (ow_at o_s101 1 rfl) dX12_feed_51 ?_
  refine lv_bipush (v := 8) hx hb dX12_feed_54 (by decide) ?_
  refine lv_iload hx hb dX12_feed_56 (lv_at hl 1 rfl) ?_
  refine lv_iadd hx hb dX12_feed_58  ?_
  refine lv_topi (fun x112 ex112 => ?_)
  obtain rfl : x112 = 8 := ex112.trans (by decide)
  refine lv_iload_n hx hb dX12_feed_59 rfl (lv_at hl 5 rfl) ?_
  refine lv_iload hx hb dX12_feed_60 (lv_at hl 0 rfl) ?_
  refine lv_ishr hx hb dX12_feed_62  ?_
  refine lv_topi (fun x113 ex113 => ?_)
  refine lv_i2b hx hb dX12_feed_63 rfl ?_
  refine lv_topi (fun x114 ex114 => ?_)
  refine va_bast hx hb hK hP hD hS 1 0 rfl rfl (show vp_in 8 20 from by unfold vp_in; decide) dX12_feed_64 (fun H locs hP hD hS => ?_)
  have hP : va_P (dC, dI) vwCl [(Ad0, .inr (15, s101)), (Ad1, .inl (Ka0, 20, .inl (upd f111 (8 : Int32).toNatClampNeg (vp_nar .byte x114))))] H := hP
  have hD : va_D A [(Ad0, .inr (15, s101)), (Ad1, .inl (Ka0, 20, .inl (upd f111 (8 : Int32).toNatClampNeg (vp_nar .byte x114))))] := hD
  generalize upd f111 (8 : Int32).toNatClampNeg (vp_nar .byte x114) = f115 at hP hD
  refine lv_aload_n hx hb dX12_feed_65 rfl (lv_at hl 2 rfl) ?_
  refine va_get (D := (dC, dI)) (ci := 15) (v := .ref Ad1) (C := RX12) (T := TX12) (N := 150) hx hb hts (in_z_X12_feed_X12) hown hK hP 0 rfl rfl 2 (by decide) (hts (.fieldLink RX12 13 "HeapWorksModel" "ready" "[B") (by decide +kernel)) (fun _ h9 => h9) (ow_at o_s101 1 rfl) dX12_feed_66 ?_
  refine lv_bipush (v := 12) hx hb dX12_feed_69 (by decide) ?_
  refine lv_iload hx hb dX12_feed_71 (lv_at hl 1 rfl) ?_
  refine lv_iadd hx hb dX12_feed_73  ?_
  refine lv_topi (fun x116 ex116 => ?_)
  obtain rfl : x116 = 12 := ex116.trans (by decide)
  refine lv_iload hx hb dX12_feed_74 (lv_at hl 6 rfl) ?_
  refine lv_iload hx hb dX12_feed_76 (lv_at hl 0 rfl) ?_
  refine lv_ishr hx hb dX12_feed_78  ?_
  refine lv_topi (fun x117 ex117 => ?_)
  refine lv_i2b hx hb dX12_feed_79 rfl ?_
  refine lv_topi (fun x118 ex118 => ?_)
  refine va_bast hx hb hK hP hD hS 1 0 rfl rfl (show vp_in 12 20 from by unfold vp_in; decide) dX12_feed_80 (fun H locs hP hD hS => ?_)
  have hP : va_P (dC, dI) vwCl [(Ad0, .inr (15, s101)), (Ad1, .inl (Ka0, 20, .inl (upd f115 (12 : Int32).toNatClampNeg (vp_nar .byte x118))))] H := hP
  have hD : va_D A [(Ad0, .inr (15, s101)), (Ad1, .inl (Ka0, 20, .inl (upd f115 (12 : Int32).toNatClampNeg (vp_nar .byte x118))))] := hD
  generalize upd f115 (12 : Int32).toNatClampNeg (vp_nar .byte x118) = f119 at hP hD
  refine lv_aload_n hx hb dX12_feed_81 rfl (lv_at hl 2 rfl) ?_
  refine va_get (D := (dC, dI)) (ci := 15) (v := .ref Ad1) (C := RX12) (T := TX12) (N := 150) hx hb hts (in_z_X12_feed_X12) hown hK hP 0 rfl rfl 2 (by decide) (hts (.fieldLink RX12 13 "HeapWorksModel" "ready" "[B") (by decide +kernel)) (fun _ h9 => h9) (ow_at o_s101 1 rfl) dX12_feed_82 ?_
  refine lv_bipush (v := 16) hx hb dX12_feed_85 (by decide) ?_
  refine lv_iload hx hb dX12_feed_87 (lv_at hl 1 rfl) ?_
  refine lv_iadd hx hb dX12_feed_89  ?_
  refine lv_topi (fun x120 ex120 => ?_)
  obtain rfl : x120 = 16 := ex120.trans (by decide)
  refine lv_iload hx hb dX12_feed_90 (lv_at hl 7 rfl) ?_
  refine lv_iload hx hb dX12_feed_92 (lv_at hl 0 rfl) ?_
  refine lv_ishr hx hb dX12_feed_94  ?_
  refine lv_topi (fun x121 ex121 => ?_)
  refine lv_i2b hx hb dX12_feed_95 rfl ?_
  refine lv_topi (fun x122 ex122 => ?_)
  refine va_bast hx hb hK hP hD hS 1 0 rfl rfl (show vp_in 16 20 from by unfold vp_in; decide) dX12_feed_96 (fun H locs hP hD hS => ?_)
  have hP : va_P (dC, dI) vwCl [(Ad0, .inr (15, s101)), (Ad1, .inl (Ka0, 20, .inl (upd f119 (16 : Int32).toNatClampNeg (vp_nar .byte x122))))] H := hP
  have hD : va_D A [(Ad0, .inr (15, s101)), (Ad1, .inl (Ka0, 20, .inl (upd f119 (16 : Int32).toNatClampNeg (vp_nar .byte x122))))] := hD
  generalize upd f119 (16 : Int32).toNatClampNeg (vp_nar .byte x122) = f123 at hP hD
  refine lv_iinc (v := 1) (lv' := [(6, .int 1), (7, .int 24), (0, .ref Ad0), (1, .int Va0), (2, .int Va1), (3, .int Va2), (4, .int Va3), (5, .int Va4)]) hx hb dX12_feed_97 hl (k := 1) rfl (by decide) (by decide) rfl (fun ls hl => ?_)
  refine lv_goto (tgt := 8) hx hb dX12_feed_100 (by decide) ?_
  refine lv_iload hx hb dX12_feed_8 (lv_at hl 0 rfl) ?_
  refine lv_iconst (v := 4) hx hb dX12_feed_10 (by decide) ?_
  refine lv_icmp_ge (tgt := 103) hx hb dX12_feed_11 (by decide) (fun c124 => absurd c124 (by decide)) (fun c124 => ?_)
  refine lv_bipush (v := 24) hx hb dX12_feed_14 (by decide) ?_
  refine lv_bipush (v := 8) hx hb dX12_feed_16 (by decide) ?_
  refine lv_iload hx hb dX12_feed_18 (lv_at hl 0 rfl) ?_
  refine lv_imul hx hb dX12_feed_20  ?_
  refine lv_topi (fun x125 ex125 => ?_)
  obtain rfl : x125 = 8 := ex125.trans (by decide)
  refine lv_isub hx hb dX12_feed_21  ?_
  refine lv_topi (fun x126 ex126 => ?_)
  obtain rfl : x126 = 16 := ex126.trans (by decide)
  refine lv_istore (lv' := [(7, .int 16), (6, .int 1), (0, .ref Ad0), (1, .int Va0), (2, .int Va1), (3, .int Va2), (4, .int Va3), (5, .int Va4)]) hx hb dX12_feed_22 hl (by decide) rfl (fun ls hl => ?_)
  refine lv_aload_n hx hb dX12_feed_24 rfl (lv_at hl 2 rfl) ?_
  refine va_get (D := (dC, dI)) (ci := 15) (v := .ref Ad1) (C := RX12) (T := TX12) (N := 150) hx hb hts (in_z_X12_feed_X12) hown hK hP 0 rfl rfl 2 (by decide) (hts (.fieldLink RX12 13 "HeapWorksModel" "ready" "[B") (by decide +kernel)) (fun _ h9 => h9) (ow_at o_s101 1 rfl) dX12_feed_25 ?_
  refine lv_iload hx hb dX12_feed_28 (lv_at hl 1 rfl) ?_
  refine lv_iload_n hx hb dX12_feed_30 rfl (lv_at hl 3 rfl) ?_
  refine lv_iload hx hb dX12_feed_31 (lv_at hl 0 rfl) ?_
  refine lv_ishr hx hb dX12_feed_33  ?_
  refine lv_topi (fun x127 ex127 => ?_)
  refine lv_i2b hx hb dX12_feed_34 rfl ?_
  refine lv_topi (fun x128 ex128 => ?_)
  refine va_bast hx hb hK hP hD hS 1 0 rfl rfl (show vp_in 1 20 from by unfold vp_in; decide) dX12_feed_35 (fun H locs hP hD hS => ?_)
  have hP : va_P (dC, dI) vwCl [(Ad0, .inr (15, s101)), (Ad1, .inl (Ka0, 20, .inl (upd f123 (1 : Int32).toNatClampNeg (vp_nar .byte x128))))] H := hP
  have hD : va_D A [(Ad0, .inr (15, s101)), (Ad1, .inl (Ka0, 20, .inl (upd f123 (1 : Int32).toNatClampNeg (vp_nar .byte x128))))] := hD
  generalize upd f123 (1 : Int32).toNatClampNeg (vp_nar .byte x128) = f129 at hP hD
  refine lv_aload_n hx hb dX12_feed_36 rfl (lv_at hl 2 rfl) ?_
  refine va_get (D := (dC, dI)) (ci := 15) (v := .ref Ad1) (C := RX12) (T := TX12) (N := 150) hx hb hts (in_z_X12_feed_X12) hown hK hP 0 rfl rfl 2 (by decide) (hts (.fieldLink RX12 13 "HeapWorksModel" "ready" "[B") (by decide +kernel)) (fun _ h9 => h9) (ow_at o_s101 1 rfl) dX12_feed_37 ?_
  refine lv_iconst (v := 4) hx hb dX12_feed_40 (by decide) ?_
  refine lv_iload hx hb dX12_feed_41 (lv_at hl 1 rfl) ?_
  refine lv_iadd hx hb dX12_feed_43  ?_
  refine lv_topi (fun x130 ex130 => ?_)
  obtain rfl : x130 = 5 := ex130.trans (by decide)
  refine lv_iload_n hx hb dX12_feed_44 rfl (lv_at hl 4 rfl) ?_
  refine lv_iload hx hb dX12_feed_45 (lv_at hl 0 rfl) ?_
  refine lv_ishr hx hb dX12_feed_47  ?_
  refine lv_topi (fun x131 ex131 => ?_)
  refine lv_i2b hx hb dX12_feed_48 rfl ?_
  refine lv_topi (fun x132 ex132 => ?_)
  refine va_bast hx hb hK hP hD hS 1 0 rfl rfl (show vp_in 5 20 from by unfold vp_in; decide) dX12_feed_49 (fun H locs hP hD hS => ?_)
  have hP : va_P (dC, dI) vwCl [(Ad0, .inr (15, s101)), (Ad1, .inl (Ka0, 20, .inl (upd f129 (5 : Int32).toNatClampNeg (vp_nar .byte x132))))] H := hP
  have hD : va_D A [(Ad0, .inr (15, s101)), (Ad1, .inl (Ka0, 20, .inl (upd f129 (5 : Int32).toNatClampNeg (vp_nar .byte x132))))] := hD
  generalize upd f129 (5 : Int32).toNatClampNeg (vp_nar .byte x132) = f133 at hP hD
  refine lv_aload_n hx hb dX12_feed_50 rfl (lv_at hl 2 rfl) ?_
  refine va_get (D := (dC, dI)) (ci := 15) (v := .ref Ad1) (C := RX12) (T := TX12) (N := 150) hx hb hts (in_z_X12_feed_X12) hown hK hP 0 rfl rfl 2 (by decide) (hts (.fieldLink RX12 13 "HeapWorksModel" "ready" "[B") (by decide +kernel)) (fun _ h9 => h9) (ow_at o_s101 1 rfl) dX12_feed_51 ?_
  refine lv_bipush (v := 8) hx hb dX12_feed_54 (by decide) ?_
  refine lv_iload hx hb dX12_feed_56 (lv_at hl 1 rfl) ?_
  refine lv_iadd hx hb dX12_feed_58  ?_
  refine lv_topi (fun x134 ex134 => ?_)
  obtain rfl : x134 = 9 := ex134.trans (by decide)
  refine lv_iload_n hx hb dX12_feed_59 rfl (lv_at hl 5 rfl) ?_
  refine lv_iload hx hb dX12_feed_60 (lv_at hl 0 rfl) ?_
  refine lv_ishr hx hb dX12_feed_62  ?_
  refine lv_topi (fun x135 ex135 => ?_)
  refine lv_i2b hx hb dX12_feed_63 rfl ?_
  refine lv_topi (fun x136 ex136 => ?_)
  refine va_bast hx hb hK hP hD hS 1 0 rfl rfl (show vp_in 9 20 from by unfold vp_in; decide) dX12_feed_64 (fun H locs hP hD hS => ?_)
  have hP : va_P (dC, dI) vwCl [(Ad0, .inr (15, s101)), (Ad1, .inl (Ka0, 20, .inl (upd f133 (9 : Int32).toNatClampNeg (vp_nar .byte x136))))] H := hP
  have hD : va_D A [(Ad0, .inr (15, s101)), (Ad1, .inl (Ka0, 20, .inl (upd f133 (9 : Int32).toNatClampNeg (vp_nar .byte x136))))] := hD
  generalize upd f133 (9 : Int32).toNatClampNeg (vp_nar .byte x136) = f137 at hP hD
  refine lv_aload_n hx hb dX12_feed_65 rfl (lv_at hl 2 rfl) ?_
  refine va_get (D := (dC, dI)) (ci := 15) (v := .ref Ad1) (C := RX12) (T := TX12) (N := 150) hx hb hts (in_z_X12_feed_X12) hown hK hP 0 rfl rfl 2 (by decide) (hts (.fieldLink RX12 13 "HeapWorksModel" "ready" "[B") (by decide +kernel)) (fun _ h9 => h9) (ow_at o_s101 1 rfl) dX12_feed_66 ?_
  refine lv_bipush (v := 12) hx hb dX12_feed_69 (by decide) ?_
  refine lv_iload hx hb dX12_feed_71 (lv_at hl 1 rfl) ?_
  refine lv_iadd hx hb dX12_feed_73  ?_
  refine lv_topi (fun x138 ex138 => ?_)
  obtain rfl : x138 = 13 := ex138.trans (by decide)
  refine lv_iload hx hb dX12_feed_74 (lv_at hl 6 rfl) ?_
  refine lv_iload hx hb dX12_feed_76 (lv_at hl 0 rfl) ?_
  refine lv_ishr hx hb dX12_feed_78  ?_
  refine lv_topi (fun x139 ex139 => ?_)
  refine lv_i2b hx hb dX12_feed_79 rfl ?_
  refine lv_topi (fun x140 ex140 => ?_)
  refine va_bast hx hb hK hP hD hS 1 0 rfl rfl (show vp_in 13 20 from by unfold vp_in; decide) dX12_feed_80 (fun H locs hP hD hS => ?_)
  have hP : va_P (dC, dI) vwCl [(Ad0, .inr (15, s101)), (Ad1, .inl (Ka0, 20, .inl (upd f137 (13 : Int32).toNatClampNeg (vp_nar .byte x140))))] H := hP
  have hD : va_D A [(Ad0, .inr (15, s101)), (Ad1, .inl (Ka0, 20, .inl (upd f137 (13 : Int32).toNatClampNeg (vp_nar .byte x140))))] := hD
  generalize upd f137 (13 : Int32).toNatClampNeg (vp_nar .byte x140) = f141 at hP hD
  refine lv_aload_n hx hb dX12_feed_81 rfl (lv_at hl 2 rfl) ?_
  refine va_get (D := (dC, dI)) (ci := 15) (v := .ref Ad1) (C := RX12) (T := TX12) (N := 150) hx hb hts (in_z_X12_feed_X12) hown hK hP 0 rfl rfl 2 (by decide) (hts (.fieldLink RX12 13 "HeapWorksModel" "ready" "[B") (by decide +kernel)) (fun _ h9 => h9) (ow_at o_s101 1 rfl) dX12_feed_82 ?_
  refine lv_bipush (v := 16) hx hb dX12_feed_85 (by decide) ?_
  refine lv_iload hx hb dX12_feed_87 (lv_at hl 1 rfl) ?_
  refine lv_iadd hx hb dX12_feed_89  ?_
  refine lv_topi (fun x142 ex142 => ?_)
  obtain rfl : x142 = 17 := ex142.trans (by decide)
  refine lv_iload hx hb dX12_feed_90 (lv_at hl 7 rfl) ?_
  refine lv_iload hx hb dX12_feed_92 (lv_at hl 0 rfl) ?_
  refine lv_ishr hx hb dX12_feed_94  ?_
  refine lv_topi (fun x143 ex143 => ?_)
  refine lv_i2b hx hb dX12_feed_95 rfl ?_
  refine lv_topi (fun x144 ex144 => ?_)
  refine va_bast hx hb hK hP hD hS 1 0 rfl rfl (show vp_in 17 20 from by unfold vp_in; decide) dX12_feed_96 (fun H locs hP hD hS => ?_)
  have hP : va_P (dC, dI) vwCl [(Ad0, .inr (15, s101)), (Ad1, .inl (Ka0, 20, .inl (upd f141 (17 : Int32).toNatClampNeg (vp_nar .byte x144))))] H := hP
  have hD : va_D A [(Ad0, .inr (15, s101)), (Ad1, .inl (Ka0, 20, .inl (upd f141 (17 : Int32).toNatClampNeg (vp_nar .byte x144))))] := hD
  generalize upd f141 (17 : Int32).toNatClampNeg (vp_nar .byte x144) = f145 at hP hD
  refine lv_iinc (v := 2) (lv' := [(6, .int 2), (7, .int 16), (0, .ref Ad0), (1, .int Va0), (2, .int Va1), (3, .int Va2), (4, .int Va3), (5, .int Va4)]) hx hb dX12_feed_97 hl (k := 1) rfl (by decide) (by decide) rfl (fun ls hl => ?_)
  refine lv_goto (tgt := 8) hx hb dX12_feed_100 (by decide) ?_
  refine lv_iload hx hb dX12_feed_8 (lv_at hl 0 rfl) ?_
  refine lv_iconst (v := 4) hx hb dX12_feed_10 (by decide) ?_
  refine lv_icmp_ge (tgt := 103) hx hb dX12_feed_11 (by decide) (fun c146 => absurd c146 (by decide)) (fun c146 => ?_)
  refine lv_bipush (v := 24) hx hb dX12_feed_14 (by decide) ?_
  refine lv_bipush (v := 8) hx hb dX12_feed_16 (by decide) ?_
  refine lv_iload hx hb dX12_feed_18 (lv_at hl 0 rfl) ?_
  refine lv_imul hx hb dX12_feed_20  ?_
  refine lv_topi (fun x147 ex147 => ?_)
  obtain rfl : x147 = 16 := ex147.trans (by decide)
  refine lv_isub hx hb dX12_feed_21  ?_
  refine lv_topi (fun x148 ex148 => ?_)
  obtain rfl : x148 = 8 := ex148.trans (by decide)
  refine lv_istore (lv' := [(7, .int 8), (6, .int 2), (0, .ref Ad0), (1, .int Va0), (2, .int Va1), (3, .int Va2), (4, .int Va3), (5, .int Va4)]) hx hb dX12_feed_22 hl (by decide) rfl (fun ls hl => ?_)
  refine lv_aload_n hx hb dX12_feed_24 rfl (lv_at hl 2 rfl) ?_
  refine va_get (D := (dC, dI)) (ci := 15) (v := .ref Ad1) (C := RX12) (T := TX12) (N := 150) hx hb hts (in_z_X12_feed_X12) hown hK hP 0 rfl rfl 2 (by decide) (hts (.fieldLink RX12 13 "HeapWorksModel" "ready" "[B") (by decide +kernel)) (fun _ h9 => h9) (ow_at o_s101 1 rfl) dX12_feed_25 ?_
  refine lv_iload hx hb dX12_feed_28 (lv_at hl 1 rfl) ?_
  refine lv_iload_n hx hb dX12_feed_30 rfl (lv_at hl 3 rfl) ?_
  refine lv_iload hx hb dX12_feed_31 (lv_at hl 0 rfl) ?_
  refine lv_ishr hx hb dX12_feed_33  ?_
  refine lv_topi (fun x149 ex149 => ?_)
  refine lv_i2b hx hb dX12_feed_34 rfl ?_
  refine lv_topi (fun x150 ex150 => ?_)
  refine va_bast hx hb hK hP hD hS 1 0 rfl rfl (show vp_in 2 20 from by unfold vp_in; decide) dX12_feed_35 (fun H locs hP hD hS => ?_)
  have hP : va_P (dC, dI) vwCl [(Ad0, .inr (15, s101)), (Ad1, .inl (Ka0, 20, .inl (upd f145 (2 : Int32).toNatClampNeg (vp_nar .byte x150))))] H := hP
  have hD : va_D A [(Ad0, .inr (15, s101)), (Ad1, .inl (Ka0, 20, .inl (upd f145 (2 : Int32).toNatClampNeg (vp_nar .byte x150))))] := hD
  generalize upd f145 (2 : Int32).toNatClampNeg (vp_nar .byte x150) = f151 at hP hD
  refine lv_aload_n hx hb dX12_feed_36 rfl (lv_at hl 2 rfl) ?_
  refine va_get (D := (dC, dI)) (ci := 15) (v := .ref Ad1) (C := RX12) (T := TX12) (N := 150) hx hb hts (in_z_X12_feed_X12) hown hK hP 0 rfl rfl 2 (by decide) (hts (.fieldLink RX12 13 "HeapWorksModel" "ready" "[B") (by decide +kernel)) (fun _ h9 => h9) (ow_at o_s101 1 rfl) dX12_feed_37 ?_
  refine lv_iconst (v := 4) hx hb dX12_feed_40 (by decide) ?_
  refine lv_iload hx hb dX12_feed_41 (lv_at hl 1 rfl) ?_
  refine lv_iadd hx hb dX12_feed_43  ?_
  refine lv_topi (fun x152 ex152 => ?_)
  obtain rfl : x152 = 6 := ex152.trans (by decide)
  refine lv_iload_n hx hb dX12_feed_44 rfl (lv_at hl 4 rfl) ?_
  refine lv_iload hx hb dX12_feed_45 (lv_at hl 0 rfl) ?_
  refine lv_ishr hx hb dX12_feed_47  ?_
  refine lv_topi (fun x153 ex153 => ?_)
  refine lv_i2b hx hb dX12_feed_48 rfl ?_
  refine lv_topi (fun x154 ex154 => ?_)
  refine va_bast hx hb hK hP hD hS 1 0 rfl rfl (show vp_in 6 20 from by unfold vp_in; decide) dX12_feed_49 (fun H locs hP hD hS => ?_)
  have hP : va_P (dC, dI) vwCl [(Ad0, .inr (15, s101)), (Ad1, .inl (Ka0, 20, .inl (upd f151 (6 : Int32).toNatClampNeg (vp_nar .byte x154))))] H := hP
  have hD : va_D A [(Ad0, .inr (15, s101)), (Ad1, .inl (Ka0, 20, .inl (upd f151 (6 : Int32).toNatClampNeg (vp_nar .byte x154))))] := hD
  generalize upd f151 (6 : Int32).toNatClampNeg (vp_nar .byte x154) = f155 at hP hD
  refine lv_aload_n hx hb dX12_feed_50 rfl (lv_at hl 2 rfl) ?_
  refine va_get (D := (dC, dI)) (ci := 15) (v := .ref Ad1) (C := RX12) (T := TX12) (N := 150) hx hb hts (in_z_X12_feed_X12) hown hK hP 0 rfl rfl 2 (by decide) (hts (.fieldLink RX12 13 "HeapWorksModel" "ready" "[B") (by decide +kernel)) (fun _ h9 => h9) (ow_at o_s101 1 rfl) dX12_feed_51 ?_
  refine lv_bipush (v := 8) hx hb dX12_feed_54 (by decide) ?_
  refine lv_iload hx hb dX12_feed_56 (lv_at hl 1 rfl) ?_
  refine lv_iadd hx hb dX12_feed_58  ?_
  refine lv_topi (fun x156 ex156 => ?_)
  obtain rfl : x156 = 10 := ex156.trans (by decide)
  refine lv_iload_n hx hb dX12_feed_59 rfl (lv_at hl 5 rfl) ?_
  refine lv_iload hx hb dX12_feed_60 (lv_at hl 0 rfl) ?_
  refine lv_ishr hx hb dX12_feed_62  ?_
  refine lv_topi (fun x157 ex157 => ?_)
  refine lv_i2b hx hb dX12_feed_63 rfl ?_
  refine lv_topi (fun x158 ex158 => ?_)
  refine va_bast hx hb hK hP hD hS 1 0 rfl rfl (show vp_in 10 20 from by unfold vp_in; decide) dX12_feed_64 (fun H locs hP hD hS => ?_)
  have hP : va_P (dC, dI) vwCl [(Ad0, .inr (15, s101)), (Ad1, .inl (Ka0, 20, .inl (upd f155 (10 : Int32).toNatClampNeg (vp_nar .byte x158))))] H := hP
  have hD : va_D A [(Ad0, .inr (15, s101)), (Ad1, .inl (Ka0, 20, .inl (upd f155 (10 : Int32).toNatClampNeg (vp_nar .byte x158))))] := hD
  generalize upd f155 (10 : Int32).toNatClampNeg (vp_nar .byte x158) = f159 at hP hD
  refine lv_aload_n hx hb dX12_feed_65 rfl (lv_at hl 2 rfl) ?_
  refine va_get (D := (dC, dI)) (ci := 15) (v := .ref Ad1) (C := RX12) (T := TX12) (N := 150) hx hb hts (in_z_X12_feed_X12) hown hK hP 0 rfl rfl 2 (by decide) (hts (.fieldLink RX12 13 "HeapWorksModel" "ready" "[B") (by decide +kernel)) (fun _ h9 => h9) (ow_at o_s101 1 rfl) dX12_feed_66 ?_
  refine lv_bipush (v := 12) hx hb dX12_feed_69 (by decide) ?_
  refine lv_iload hx hb dX12_feed_71 (lv_at hl 1 rfl) ?_
  refine lv_iadd hx hb dX12_feed_73  ?_
  refine lv_topi (fun x160 ex160 => ?_)
  obtain rfl : x160 = 14 := ex160.trans (by decide)
  refine lv_iload hx hb dX12_feed_74 (lv_at hl 6 rfl) ?_
  refine lv_iload hx hb dX12_feed_76 (lv_at hl 0 rfl) ?_
  refine lv_ishr hx hb dX12_feed_78  ?_
  refine lv_topi (fun x161 ex161 => ?_)
  refine lv_i2b hx hb dX12_feed_79 rfl ?_
  refine lv_topi (fun x162 ex162 => ?_)
  refine va_bast hx hb hK hP hD hS 1 0 rfl rfl (show vp_in 14 20 from by unfold vp_in; decide) dX12_feed_80 (fun H locs hP hD hS => ?_)
  have hP : va_P (dC, dI) vwCl [(Ad0, .inr (15, s101)), (Ad1, .inl (Ka0, 20, .inl (upd f159 (14 : Int32).toNatClampNeg (vp_nar .byte x162))))] H := hP
  have hD : va_D A [(Ad0, .inr (15, s101)), (Ad1, .inl (Ka0, 20, .inl (upd f159 (14 : Int32).toNatClampNeg (vp_nar .byte x162))))] := hD
  generalize upd f159 (14 : Int32).toNatClampNeg (vp_nar .byte x162) = f163 at hP hD
  refine lv_aload_n hx hb dX12_feed_81 rfl (lv_at hl 2 rfl) ?_
  refine va_get (D := (dC, dI)) (ci := 15) (v := .ref Ad1) (C := RX12) (T := TX12) (N := 150) hx hb hts (in_z_X12_feed_X12) hown hK hP 0 rfl rfl 2 (by decide) (hts (.fieldLink RX12 13 "HeapWorksModel" "ready" "[B") (by decide +kernel)) (fun _ h9 => h9) (ow_at o_s101 1 rfl) dX12_feed_82 ?_
  refine lv_bipush (v := 16) hx hb dX12_feed_85 (by decide) ?_
  refine lv_iload hx hb dX12_feed_87 (lv_at hl 1 rfl) ?_
  refine lv_iadd hx hb dX12_feed_89  ?_
  refine lv_topi (fun x164 ex164 => ?_)
  obtain rfl : x164 = 18 := ex164.trans (by decide)
  refine lv_iload hx hb dX12_feed_90 (lv_at hl 7 rfl) ?_
  refine lv_iload hx hb dX12_feed_92 (lv_at hl 0 rfl) ?_
  refine lv_ishr hx hb dX12_feed_94  ?_
  refine lv_topi (fun x165 ex165 => ?_)
  refine lv_i2b hx hb dX12_feed_95 rfl ?_
  refine lv_topi (fun x166 ex166 => ?_)
  refine va_bast hx hb hK hP hD hS 1 0 rfl rfl (show vp_in 18 20 from by unfold vp_in; decide) dX12_feed_96 (fun H locs hP hD hS => ?_)
  have hP : va_P (dC, dI) vwCl [(Ad0, .inr (15, s101)), (Ad1, .inl (Ka0, 20, .inl (upd f163 (18 : Int32).toNatClampNeg (vp_nar .byte x166))))] H := hP
  have hD : va_D A [(Ad0, .inr (15, s101)), (Ad1, .inl (Ka0, 20, .inl (upd f163 (18 : Int32).toNatClampNeg (vp_nar .byte x166))))] := hD
  generalize upd f163 (18 : Int32).toNatClampNeg (vp_nar .byte x166) = f167 at hP hD
  refine lv_iinc (v := 3) (lv' := [(6, .int 3), (7, .int 8), (0, .ref Ad0), (1, .int Va0), (2, .int Va1), (3, .int Va2), (4, .int Va3), (5, .int Va4)]) hx hb dX12_feed_97 hl (k := 1) rfl (by decide) (by decide) rfl (fun ls hl => ?_)
  refine lv_goto (tgt := 8) hx hb dX12_feed_100 (by decide) ?_
  refine lv_iload hx hb dX12_feed_8 (lv_at hl 0 rfl) ?_
  refine lv_iconst (v := 4) hx hb dX12_feed_10 (by decide) ?_
  refine lv_icmp_ge (tgt := 103) hx hb dX12_feed_11 (by decide) (fun c168 => absurd c168 (by decide)) (fun c168 => ?_)
  refine lv_bipush (v := 24) hx hb dX12_feed_14 (by decide) ?_
  refine lv_bipush (v := 8) hx hb dX12_feed_16 (by decide) ?_
  refine lv_iload hx hb dX12_feed_18 (lv_at hl 0 rfl) ?_
  refine lv_imul hx hb dX12_feed_20  ?_
  refine lv_topi (fun x169 ex169 => ?_)
  obtain rfl : x169 = 24 := ex169.trans (by decide)
  refine lv_isub hx hb dX12_feed_21  ?_
  refine lv_topi (fun x170 ex170 => ?_)
  obtain rfl : x170 = 0 := ex170.trans (by decide)
  refine lv_istore (lv' := [(7, .int 0), (6, .int 3), (0, .ref Ad0), (1, .int Va0), (2, .int Va1), (3, .int Va2), (4, .int Va3), (5, .int Va4)]) hx hb dX12_feed_22 hl (by decide) rfl (fun ls hl => ?_)
  refine lv_aload_n hx hb dX12_feed_24 rfl (lv_at hl 2 rfl) ?_
  refine va_get (D := (dC, dI)) (ci := 15) (v := .ref Ad1) (C := RX12) (T := TX12) (N := 150) hx hb hts (in_z_X12_feed_X12) hown hK hP 0 rfl rfl 2 (by decide) (hts (.fieldLink RX12 13 "HeapWorksModel" "ready" "[B") (by decide +kernel)) (fun _ h9 => h9) (ow_at o_s101 1 rfl) dX12_feed_25 ?_
  refine lv_iload hx hb dX12_feed_28 (lv_at hl 1 rfl) ?_
  refine lv_iload_n hx hb dX12_feed_30 rfl (lv_at hl 3 rfl) ?_
  refine lv_iload hx hb dX12_feed_31 (lv_at hl 0 rfl) ?_
  refine lv_ishr hx hb dX12_feed_33  ?_
  refine lv_topi (fun x171 ex171 => ?_)
  refine lv_i2b hx hb dX12_feed_34 rfl ?_
  refine lv_topi (fun x172 ex172 => ?_)
  refine va_bast hx hb hK hP hD hS 1 0 rfl rfl (show vp_in 3 20 from by unfold vp_in; decide) dX12_feed_35 (fun H locs hP hD hS => ?_)
  have hP : va_P (dC, dI) vwCl [(Ad0, .inr (15, s101)), (Ad1, .inl (Ka0, 20, .inl (upd f167 (3 : Int32).toNatClampNeg (vp_nar .byte x172))))] H := hP
  have hD : va_D A [(Ad0, .inr (15, s101)), (Ad1, .inl (Ka0, 20, .inl (upd f167 (3 : Int32).toNatClampNeg (vp_nar .byte x172))))] := hD
  generalize upd f167 (3 : Int32).toNatClampNeg (vp_nar .byte x172) = f173 at hP hD
  refine lv_aload_n hx hb dX12_feed_36 rfl (lv_at hl 2 rfl) ?_
  refine va_get (D := (dC, dI)) (ci := 15) (v := .ref Ad1) (C := RX12) (T := TX12) (N := 150) hx hb hts (in_z_X12_feed_X12) hown hK hP 0 rfl rfl 2 (by decide) (hts (.fieldLink RX12 13 "HeapWorksModel" "ready" "[B") (by decide +kernel)) (fun _ h9 => h9) (ow_at o_s101 1 rfl) dX12_feed_37 ?_
  refine lv_iconst (v := 4) hx hb dX12_feed_40 (by decide) ?_
  refine lv_iload hx hb dX12_feed_41 (lv_at hl 1 rfl) ?_
  refine lv_iadd hx hb dX12_feed_43  ?_
  refine lv_topi (fun x174 ex174 => ?_)
  obtain rfl : x174 = 7 := ex174.trans (by decide)
  refine lv_iload_n hx hb dX12_feed_44 rfl (lv_at hl 4 rfl) ?_
  refine lv_iload hx hb dX12_feed_45 (lv_at hl 0 rfl) ?_
  refine lv_ishr hx hb dX12_feed_47  ?_
  refine lv_topi (fun x175 ex175 => ?_)
  refine lv_i2b hx hb dX12_feed_48 rfl ?_
  refine lv_topi (fun x176 ex176 => ?_)
  refine va_bast hx hb hK hP hD hS 1 0 rfl rfl (show vp_in 7 20 from by unfold vp_in; decide) dX12_feed_49 (fun H locs hP hD hS => ?_)
  have hP : va_P (dC, dI) vwCl [(Ad0, .inr (15, s101)), (Ad1, .inl (Ka0, 20, .inl (upd f173 (7 : Int32).toNatClampNeg (vp_nar .byte x176))))] H := hP
  have hD : va_D A [(Ad0, .inr (15, s101)), (Ad1, .inl (Ka0, 20, .inl (upd f173 (7 : Int32).toNatClampNeg (vp_nar .byte x176))))] := hD
  generalize upd f173 (7 : Int32).toNatClampNeg (vp_nar .byte x176) = f177 at hP hD
  refine lv_aload_n hx hb dX12_feed_50 rfl (lv_at hl 2 rfl) ?_
  refine va_get (D := (dC, dI)) (ci := 15) (v := .ref Ad1) (C := RX12) (T := TX12) (N := 150) hx hb hts (in_z_X12_feed_X12) hown hK hP 0 rfl rfl 2 (by decide) (hts (.fieldLink RX12 13 "HeapWorksModel" "ready" "[B") (by decide +kernel)) (fun _ h9 => h9) (ow_at o_s101 1 rfl) dX12_feed_51 ?_
  refine lv_bipush (v := 8) hx hb dX12_feed_54 (by decide) ?_
  refine lv_iload hx hb dX12_feed_56 (lv_at hl 1 rfl) ?_
  refine lv_iadd hx hb dX12_feed_58  ?_
  refine lv_topi (fun x178 ex178 => ?_)
  obtain rfl : x178 = 11 := ex178.trans (by decide)
  refine lv_iload_n hx hb dX12_feed_59 rfl (lv_at hl 5 rfl) ?_
  refine lv_iload hx hb dX12_feed_60 (lv_at hl 0 rfl) ?_
  refine lv_ishr hx hb dX12_feed_62  ?_
  refine lv_topi (fun x179 ex179 => ?_)
  refine lv_i2b hx hb dX12_feed_63 rfl ?_
  refine lv_topi (fun x180 ex180 => ?_)
  refine va_bast hx hb hK hP hD hS 1 0 rfl rfl (show vp_in 11 20 from by unfold vp_in; decide) dX12_feed_64 (fun H locs hP hD hS => ?_)
  have hP : va_P (dC, dI) vwCl [(Ad0, .inr (15, s101)), (Ad1, .inl (Ka0, 20, .inl (upd f177 (11 : Int32).toNatClampNeg (vp_nar .byte x180))))] H := hP
  have hD : va_D A [(Ad0, .inr (15, s101)), (Ad1, .inl (Ka0, 20, .inl (upd f177 (11 : Int32).toNatClampNeg (vp_nar .byte x180))))] := hD
  generalize upd f177 (11 : Int32).toNatClampNeg (vp_nar .byte x180) = f181 at hP hD
  refine lv_aload_n hx hb dX12_feed_65 rfl (lv_at hl 2 rfl) ?_
  refine va_get (D := (dC, dI)) (ci := 15) (v := .ref Ad1) (C := RX12) (T := TX12) (N := 150) hx hb hts (in_z_X12_feed_X12) hown hK hP 0 rfl rfl 2 (by decide) (hts (.fieldLink RX12 13 "HeapWorksModel" "ready" "[B") (by decide +kernel)) (fun _ h9 => h9) (ow_at o_s101 1 rfl) dX12_feed_66 ?_
  refine lv_bipush (v := 12) hx hb dX12_feed_69 (by decide) ?_
  refine lv_iload hx hb dX12_feed_71 (lv_at hl 1 rfl) ?_
  refine lv_iadd hx hb dX12_feed_73  ?_
  refine lv_topi (fun x182 ex182 => ?_)
  obtain rfl : x182 = 15 := ex182.trans (by decide)
  refine lv_iload hx hb dX12_feed_74 (lv_at hl 6 rfl) ?_
  refine lv_iload hx hb dX12_feed_76 (lv_at hl 0 rfl) ?_
  refine lv_ishr hx hb dX12_feed_78  ?_
  refine lv_topi (fun x183 ex183 => ?_)
  refine lv_i2b hx hb dX12_feed_79 rfl ?_
  refine lv_topi (fun x184 ex184 => ?_)
  refine va_bast hx hb hK hP hD hS 1 0 rfl rfl (show vp_in 15 20 from by unfold vp_in; decide) dX12_feed_80 (fun H locs hP hD hS => ?_)
  have hP : va_P (dC, dI) vwCl [(Ad0, .inr (15, s101)), (Ad1, .inl (Ka0, 20, .inl (upd f181 (15 : Int32).toNatClampNeg (vp_nar .byte x184))))] H := hP
  have hD : va_D A [(Ad0, .inr (15, s101)), (Ad1, .inl (Ka0, 20, .inl (upd f181 (15 : Int32).toNatClampNeg (vp_nar .byte x184))))] := hD
  generalize upd f181 (15 : Int32).toNatClampNeg (vp_nar .byte x184) = f185 at hP hD
  refine lv_aload_n hx hb dX12_feed_81 rfl (lv_at hl 2 rfl) ?_
  refine va_get (D := (dC, dI)) (ci := 15) (v := .ref Ad1) (C := RX12) (T := TX12) (N := 150) hx hb hts (in_z_X12_feed_X12) hown hK hP 0 rfl rfl 2 (by decide) (hts (.fieldLink RX12 13 "HeapWorksModel" "ready" "[B") (by decide +kernel)) (fun _ h9 => h9) (ow_at o_s101 1 rfl) dX12_feed_82 ?_
  refine lv_bipush (v := 16) hx hb dX12_feed_85 (by decide) ?_
  refine lv_iload hx hb dX12_feed_87 (lv_at hl 1 rfl) ?_
  refine lv_iadd hx hb dX12_feed_89  ?_
  refine lv_topi (fun x186 ex186 => ?_)
  obtain rfl : x186 = 19 := ex186.trans (by decide)
  refine lv_iload hx hb dX12_feed_90 (lv_at hl 7 rfl) ?_
  refine lv_iload hx hb dX12_feed_92 (lv_at hl 0 rfl) ?_
  refine lv_ishr hx hb dX12_feed_94  ?_
  refine lv_topi (fun x187 ex187 => ?_)
  refine lv_i2b hx hb dX12_feed_95 rfl ?_
  refine lv_topi (fun x188 ex188 => ?_)
  refine va_bast hx hb hK hP hD hS 1 0 rfl rfl (show vp_in 19 20 from by unfold vp_in; decide) dX12_feed_96 (fun H locs hP hD hS => ?_)
  have hP : va_P (dC, dI) vwCl [(Ad0, .inr (15, s101)), (Ad1, .inl (Ka0, 20, .inl (upd f185 (19 : Int32).toNatClampNeg (vp_nar .byte x188))))] H := hP
  have hD : va_D A [(Ad0, .inr (15, s101)), (Ad1, .inl (Ka0, 20, .inl (upd f185 (19 : Int32).toNatClampNeg (vp_nar .byte x188))))] := hD
  generalize upd f185 (19 : Int32).toNatClampNeg (vp_nar .byte x188) = f189 at hP hD
  refine lv_iinc (v := 4) (lv' := [(6, .int 4), (7, .int 0), (0, .ref Ad0), (1, .int Va0), (2, .int Va1), (3, .int Va2), (4, .int Va3), (5, .int Va4)]) hx hb dX12_feed_97 hl (k := 1) rfl (by decide) (by decide) rfl (fun ls hl => ?_)
  refine lv_goto (tgt := 8) hx hb dX12_feed_100 (by decide) ?_
  refine lv_iload hx hb dX12_feed_8 (lv_at hl 0 rfl) ?_
  refine lv_iconst (v := 4) hx hb dX12_feed_10 (by decide) ?_
  refine lv_icmp_ge (tgt := 103) hx hb dX12_feed_11 (by decide) (fun c190 => ?_) (fun c190 => absurd c190 (by decide))
  have hP9 := hP.sub (ws' := [(Ad0, .inr (15, s101)), (Ad1, .inl (Ka0, 20, .inl f189))]) [0, 1] rfl
  have hD9 := hD.sub (ws' := [(Ad0, .inr (15, s101)), (Ad1, .inl (Ka0, 20, .inl f189))]) [0, 1] (by decide) rfl
  have hK9 := hK.sub (tys' := [(Ka0, .byte)]) [0] rfl
  exact W.vret hx hb hr (fun t ht hW => ⟨⟨(s101, f189), rfl, o_s101, by rw [ht]; exact hP9, va_K.moved hW.alike hK9, hD9⟩, hS.F ht⟩) hS.2.2 dX12_feed_103

def l_z_X12_end : List Cond := [.fieldLink RX12 388 "HeapWorksModel" "thrown" "I", .fieldLink RX12 391 "HeapWorksModel" "taped" "I", .fieldLink RX12 13 "HeapWorksModel" "ready" "[B", .fieldLink RX12 7 "HeapWorksModel" "tape" "[B"]
def w_z_X12_end : List Cond := .code yX12_end cX12_end 3 (some .int) :: (l_z_X12_end ++ (wsX120))
theorem in_z_X12_end_X12 : ∀ w ∈ wsX120, w ∈ w_z_X12_end := fun w h => List.mem_cons_of_mem _ (List.mem_append_right _ (h))
set_option maxHeartbeats 4000000 in
set_option maxRecDepth 100000 in
theorem z_X12_end (l : Launch) (dC : Nat → ClassId) (dI : Nat → Nat → Nat) (sz : Nat) (Ad0 : Nat) (Fs0 : List Value) (Ad1 : Nat) (Fa0 : Nat → Int32) (Ka0 : ClassId) (Ad2 : Nat) (Fa1 : Nat → Int32) (Ka1 : ClassId) (Va0 : Int32) (k_Fs0 : fh Fs0 150 [(1, .ref Ad1), (2, .ref Ad2), (3, .int 0)]) (hz_Fa0 : ∀ j, Fa0 j = 0) (hz_Fa1 : ∀ j, Fa1 j = 0) : Met l yX12_end w_z_X12_end ({ frames := 0, cells := 0, slots := 0, locals := 0 }) (va_Pc [.ref Ad0, .int Va0] (fun U => U.heap.size = sz ∧ Wd dC dI [(Ka0, .byte), (Ka1, .byte)] (fun _ => True) [(Ad0, .inr (15, Fs0)), (Ad1, .inl (Ka0, 4000, .inl Fa0)), (Ad2, .inl (Ka1, 20, .inl Fa1))] U)) (va_Qi (fun (r : Int32) (u : List Value × (Nat → Int32) × (Nat → Int32)) => (Va0 < 0 ∧ r = (-1) ∧ ow Fs0 (u.1) 150 [0] [(0, .int 0), (1, .ref Ad1), (2, .ref Ad2), (3, .int 0)] ∧ (∀ j, (u.2.1) j = 0) ∧ (∀ j, (u.2.2) j = 0)) ∨ (¬ Va0 < 0 ∧ 20 < Va0 ∧ r = (-1) ∧ ow Fs0 (u.1) 150 [0] [(0, .int 0), (1, .ref Ad1), (2, .ref Ad2), (3, .int 0)] ∧ (∀ j, (u.2.1) j = 0) ∧ (∀ j, (u.2.2) j = 0)) ∨ (¬ Va0 < 0 ∧ ¬ 20 < Va0 ∧ Va0 ≤ 4000 ∧ r = Va0 ∧ ow Fs0 (u.1) 150 [3, 0] [(3, .int Va0), (0, .int 0), (1, .ref Ad1), (2, .ref Ad2)])) (fun (u : List Value × (Nat → Int32) × (Nat → Int32)) t => Wd dC dI [(Ka0, .byte), (Ka1, .byte)] (va_A [(Ad0, .inr (15, Fs0)), (Ad1, .inl (Ka0, 4000, .inl Fa0)), (Ad2, .inl (Ka1, 20, .inl Fa1))] sz) [(Ad0, .inr (15, (u.1))), (Ad1, .inl (Ka0, 4000, .inl ((u.2.1)))), (Ad2, .inl (Ka1, 20, .inl ((u.2.2))))] t) (va_A [(Ad0, .inr (15, Fs0)), (Ad1, .inl (Ka0, 4000, .inl Fa0)), (Ad2, .inl (Ka1, 20, .inl Fa1))] sz))  0 0 (va_A [(Ad0, .inr (15, Fs0)), (Ad1, .inl (Ka0, 4000, .inl Fa0)), (Ad2, .inl (Ka1, 20, .inl Fa1))] sz) := by
  refine Met.ofW (cc := cX12_end) (maxL := 3) (ret := (some .int)) (by decide) rfl ?_
  intro p e s m args below meth c s₁ B hml hv
  obtain ⟨rfl, hsz, hP, hK, hD0⟩ := hv
  have hx := B.exec
  have hb := B.bytes
  have hr := B.returns
  have hts := atoms_spec (ws := w_z_X12_end) B.pre
  have hown : s.vm.findClass RX12 = some m.cls := findClass_of_methodNamed B.named
  have hlocks := B.notSynchronized
  subst hsz
  have hD := hD0.self (sz := s.heap.size)
  generalize hAe : va_A [(Ad0, .inr (15, Fs0)), (Ad1, .inl (Ka0, 4000, .inl Fa0)), (Ad2, .inl (Ka1, 20, .inl Fa1))] s.heap.size = A at hD ⊢
  have hA : ∀ q : Nat, s.heap.size ≤ q → A q := fun q h => by rw [← hAe]; exact Or.inr h
  have hS : va_S A s.heap s.heap [] := va_S.rf
  have hl := lv_entry ([.ref Ad0, .int Va0]) (n := 3) (Nat.le_of_ble_eq_true rfl)
  rw [lg_entry_eq]
  generalize (lg_sl ([.ref Ad0, .int Va0]) ++ List.replicate (3 - (lg_sl ([.ref Ad0, .int Va0])).length) Slot.unset).toArray = ls at hl ⊢
  have hl : lv_has ls 3 [(0, .ref Ad0), (1, .int Va0)] := hl
  have o_Fs0 := ow_0 k_Fs0
  refine lv_aload_n hx hb dX12_end_0 rfl (lv_at hl 0 rfl) ?_
  refine lv_iconst (v := 0) hx hb dX12_end_1 (by decide) ?_
  refine va_put (D := (dC, dI)) (ci := 15) (v := .int 0) (ty := .int) (C := RX12) (T := TX12) (N := 150) hx hb hts (in_z_X12_end_X12) tyX12 tyX12_ok nmX12 hown hK hP hD hS 0 rfl rfl 0 (by decide) (hts (.fieldLink RX12 388 "HeapWorksModel" "thrown" "I") (by decide +kernel)) (fun _ h9 => h9) rfl (by decide +kernel) rfl rfl (by rw [o_Fs0.2.1]; decide) dX12_end_2 (fun H locs hP hD hS => ?_)
  have hP : va_P (dC, dI) vwCl [(Ad0, .inr (15, (Fs0.set 0 (.int 0)))), (Ad1, .inl (Ka0, 4000, .inl Fa0)), (Ad2, .inl (Ka1, 20, .inl Fa1))] H := hP
  have hD : va_D A [(Ad0, .inr (15, (Fs0.set 0 (.int 0)))), (Ad1, .inl (Ka0, 4000, .inl Fa0)), (Ad2, .inl (Ka1, 20, .inl Fa1))] := hD
  have o_s101 := ow_set o_Fs0 0 (.int 0) (by decide) (l' := [(0, .int 0), (1, .ref Ad1), (2, .ref Ad2), (3, .int 0)]) (w' := [0]) rfl rfl
  generalize (Fs0.set 0 (.int 0)) = s101 at hP hD o_s101
  refine lv_iload_n hx hb dX12_end_5 rfl (lv_at hl 1 rfl) ?_
  refine lv_if_lt (tgt := 27) hx hb dX12_end_6 (by decide) (fun c102 => ?_) (fun c102 => ?_)
  · skip
    refine lv_iconst (v := (-1)) hx hb dX12_end_27 (by decide) ?_
    have hP9 := hP.sub (ws' := [(Ad0, .inr (15, s101)), (Ad1, .inl (Ka0, 4000, .inl Fa0)), (Ad2, .inl (Ka1, 20, .inl Fa1))]) [0, 1, 2] rfl
    have hD9 := hD.sub (ws' := [(Ad0, .inr (15, s101)), (Ad1, .inl (Ka0, 4000, .inl Fa0)), (Ad2, .inl (Ka1, 20, .inl Fa1))]) [0, 1, 2] (by decide) rfl
    have hK9 := hK.sub (tys' := [(Ka0, .byte), (Ka1, .byte)]) [0, 1] rfl
    exact W.iret (v := (-1)) hx hb hr (fun t ht hW => ⟨⟨(-1), (s101, Fa0, Fa1), rfl, (Or.inl ⟨c102, rfl, o_s101, hz_Fa0, hz_Fa1⟩), by rw [ht]; exact hP9, va_K.moved hW.alike hK9, hD9⟩, hS.F ht⟩) hS.2.2 dX12_end_28
  · skip
    refine lv_iload_n hx hb dX12_end_9 rfl (lv_at hl 1 rfl) ?_
    refine lv_bipush (v := 20) hx hb dX12_end_10 (by decide) ?_
    refine lv_icmp_gt (tgt := 27) hx hb dX12_end_12 (by decide) (fun c103 => ?_) (fun c103 => ?_)
    · skip
      refine lv_iconst (v := (-1)) hx hb dX12_end_27 (by decide) ?_
      have hP9 := hP.sub (ws' := [(Ad0, .inr (15, s101)), (Ad1, .inl (Ka0, 4000, .inl Fa0)), (Ad2, .inl (Ka1, 20, .inl Fa1))]) [0, 1, 2] rfl
      have hD9 := hD.sub (ws' := [(Ad0, .inr (15, s101)), (Ad1, .inl (Ka0, 4000, .inl Fa0)), (Ad2, .inl (Ka1, 20, .inl Fa1))]) [0, 1, 2] (by decide) rfl
      have hK9 := hK.sub (tys' := [(Ka0, .byte), (Ka1, .byte)]) [0, 1] rfl
      exact W.iret (v := (-1)) hx hb hr (fun t ht hW => ⟨⟨(-1), (s101, Fa0, Fa1), rfl, (Or.inr (Or.inl ⟨c102, c103, rfl, o_s101, hz_Fa0, hz_Fa1⟩)), by rw [ht]; exact hP9, va_K.moved hW.alike hK9, hD9⟩, hS.F ht⟩) hS.2.2 dX12_end_28
    · skip
      refine lv_aload_n hx hb dX12_end_15 rfl (lv_at hl 0 rfl) ?_
      refine va_get (D := (dC, dI)) (ci := 15) (v := .int 0) (C := RX12) (T := TX12) (N := 150) hx hb hts (in_z_X12_end_X12) hown hK hP 0 rfl rfl 3 (by decide) (hts (.fieldLink RX12 391 "HeapWorksModel" "taped" "I") (by decide +kernel)) (fun _ h9 => h9) (ow_at o_s101 3 rfl) dX12_end_16 ?_
      refine lv_iload_n hx hb dX12_end_19 rfl (lv_at hl 1 rfl) ?_
      refine lv_iadd hx hb dX12_end_20  ?_
      refine lv_topi (fun x104 ex104 => ?_)
      obtain rfl : Va0 = x104 := (ex104.trans (Int32.zero_add _)).symm
      refine lv_sipush (v := 4000) hx hb dX12_end_21 (by decide) ?_
      refine lv_icmp_le (tgt := 29) hx hb dX12_end_24 (by decide) (fun c105 => ?_) (fun c105 => (by exfalso; have bd_Va0 := i_bd Va0; (try simp only [i_lt, i_le, i_eq, kc_0, kc_20, kc_4000] at c102 c103 c105); omega))
      refine lv_iconst (v := 0) hx hb dX12_end_29 (by decide) ?_
      refine lv_istore_n (lv' := [(2, .int 0), (0, .ref Ad0), (1, .int Va0)]) hx hb dX12_end_30 rfl hl (by decide) rfl (fun ls hl => ?_)
      have HL3 : ∀ (n j210 : Nat) (x211 : Int32) (f212 : Nat → Int32), x211 = nI j210 → 0 ≤ j210 → j210 ≤ 20 → 21 ≤ j210 + n → ∀ (H : Heap) (locs : List Loc) (ls : Array Slot), va_P (dC, dI) vwCl [(Ad0, .inr (15, s101)), (Ad1, .inl (Ka0, 4000, .inl f212)), (Ad2, .inl (Ka1, 20, .inl Fa1))] H → va_D A [(Ad0, .inr (15, s101)), (Ad1, .inl (Ka0, 4000, .inl f212)), (Ad2, .inl (Ka1, 20, .inl Fa1))] → va_S A s.heap H locs → lv_has ls 3 [(2, .int x211), (0, .ref Ad0), (1, .int Va0)] → W p l e (headSpec w_z_X12_end ({ frames := 0, cells := 0, slots := 0, locals := 0 })).room s m ([.ref Ad0, .int Va0]).toArray below meth c H locs 0 0 (MQ below (va_Qi (fun (r : Int32) (u : List Value × (Nat → Int32) × (Nat → Int32)) => (Va0 < 0 ∧ r = (-1) ∧ ow Fs0 (u.1) 150 [0] [(0, .int 0), (1, .ref Ad1), (2, .ref Ad2), (3, .int 0)] ∧ (∀ j, (u.2.1) j = 0) ∧ (∀ j, (u.2.2) j = 0)) ∨ (¬ Va0 < 0 ∧ 20 < Va0 ∧ r = (-1) ∧ ow Fs0 (u.1) 150 [0] [(0, .int 0), (1, .ref Ad1), (2, .ref Ad2), (3, .int 0)] ∧ (∀ j, (u.2.1) j = 0) ∧ (∀ j, (u.2.2) j = 0)) ∨ (¬ Va0 < 0 ∧ ¬ 20 < Va0 ∧ Va0 ≤ 4000 ∧ r = Va0 ∧ ow Fs0 (u.1) 150 [3, 0] [(3, .int Va0), (0, .int 0), (1, .ref Ad1), (2, .ref Ad2)])) (fun (u : List Value × (Nat → Int32) × (Nat → Int32)) t => Wd dC dI [(Ka0, .byte), (Ka1, .byte)] A [(Ad0, .inr (15, (u.1))), (Ad1, .inl (Ka0, 4000, .inl ((u.2.1)))), (Ad2, .inl (Ka1, 20, .inl ((u.2.2))))] t) A) ([.ref Ad0, .int Va0]).toArray s 0 0 A) (F0 m 31 ls []) := by
        intro n
        induction n with
        | zero =>
          intro j210 x211 f212 e213 h215 h216 h217
          exact absurd h217 (by omega)
        | succ n ih =>
          intro j210 x211 f212 e213 h215 h216 h217 H locs ls hP hD hS hl
          have t214 : x211.toInt = (j210 : Int) := by rw [e213]; exact nI_toInt (by omega)
          refine lv_iload_n hx hb dX12_end_31 rfl (lv_at hl 0 rfl) ?_
          refine lv_iload_n hx hb dX12_end_32 rfl (lv_at hl 2 rfl) ?_
          refine lv_icmp_ge (tgt := 59) hx hb dX12_end_33 (by decide) (fun c218 => ?_) (fun c218 => ?_)
          · skip
            refine lv_aload_n hx hb dX12_end_59 rfl (lv_at hl 1 rfl) ?_
            refine lv_dup hx hb dX12_end_60 rfl ?_
            refine va_get (D := (dC, dI)) (ci := 15) (v := .int 0) (C := RX12) (T := TX12) (N := 150) hx hb hts (in_z_X12_end_X12) hown hK hP 0 rfl rfl 3 (by decide) (hts (.fieldLink RX12 391 "HeapWorksModel" "taped" "I") (by decide +kernel)) (fun _ h9 => h9) (ow_at o_s101 3 rfl) dX12_end_61 ?_
            refine lv_iload_n hx hb dX12_end_64 rfl (lv_at hl 2 rfl) ?_
            refine lv_iadd hx hb dX12_end_65  ?_
            refine lv_topi (fun x219 ex219 => ?_)
            obtain rfl : Va0 = x219 := (ex219.trans (Int32.zero_add _)).symm
            refine va_put (D := (dC, dI)) (ci := 15) (v := .int Va0) (ty := .int) (C := RX12) (T := TX12) (N := 150) hx hb hts (in_z_X12_end_X12) tyX12 tyX12_ok nmX12 hown hK hP hD hS 0 rfl rfl 3 (by decide) (hts (.fieldLink RX12 391 "HeapWorksModel" "taped" "I") (by decide +kernel)) (fun _ h9 => h9) rfl (by decide +kernel) rfl rfl (by rw [o_s101.2.1]; decide) dX12_end_66 (fun H locs hP hD hS => ?_)
            have hP : va_P (dC, dI) vwCl [(Ad0, .inr (15, (s101.set 3 (.int Va0)))), (Ad1, .inl (Ka0, 4000, .inl f212)), (Ad2, .inl (Ka1, 20, .inl Fa1))] H := hP
            have hD : va_D A [(Ad0, .inr (15, (s101.set 3 (.int Va0)))), (Ad1, .inl (Ka0, 4000, .inl f212)), (Ad2, .inl (Ka1, 20, .inl Fa1))] := hD
            have o_s220 := ow_set o_s101 3 (.int Va0) (by decide) (l' := [(3, .int Va0), (0, .int 0), (1, .ref Ad1), (2, .ref Ad2)]) (w' := [3, 0]) rfl rfl
            generalize (s101.set 3 (.int Va0)) = s220 at hP hD o_s220
            refine lv_iconst (v := 0) hx hb dX12_end_69 (by decide) ?_
            refine lv_istore_n (lv' := [(2, .int 0), (0, .ref Ad0), (1, .int Va0)]) hx hb dX12_end_70 rfl hl (by decide) rfl (fun ls hl => ?_)
            have HL4 : ∀ (n j245 : Nat) (x246 : Int32) (f247 : Nat → Int32), x246 = nI j245 → 0 ≤ j245 → j245 ≤ 20 → 21 ≤ j245 + n → ∀ (H : Heap) (locs : List Loc) (ls : Array Slot), va_P (dC, dI) vwCl [(Ad0, .inr (15, s220)), (Ad1, .inl (Ka0, 4000, .inl f212)), (Ad2, .inl (Ka1, 20, .inl f247))] H → va_D A [(Ad0, .inr (15, s220)), (Ad1, .inl (Ka0, 4000, .inl f212)), (Ad2, .inl (Ka1, 20, .inl f247))] → va_S A s.heap H locs → lv_has ls 3 [(2, .int x246), (0, .ref Ad0), (1, .int Va0)] → W p l e (headSpec w_z_X12_end ({ frames := 0, cells := 0, slots := 0, locals := 0 })).room s m ([.ref Ad0, .int Va0]).toArray below meth c H locs 0 0 (MQ below (va_Qi (fun (r : Int32) (u : List Value × (Nat → Int32) × (Nat → Int32)) => (Va0 < 0 ∧ r = (-1) ∧ ow Fs0 (u.1) 150 [0] [(0, .int 0), (1, .ref Ad1), (2, .ref Ad2), (3, .int 0)] ∧ (∀ j, (u.2.1) j = 0) ∧ (∀ j, (u.2.2) j = 0)) ∨ (¬ Va0 < 0 ∧ 20 < Va0 ∧ r = (-1) ∧ ow Fs0 (u.1) 150 [0] [(0, .int 0), (1, .ref Ad1), (2, .ref Ad2), (3, .int 0)] ∧ (∀ j, (u.2.1) j = 0) ∧ (∀ j, (u.2.2) j = 0)) ∨ (¬ Va0 < 0 ∧ ¬ 20 < Va0 ∧ Va0 ≤ 4000 ∧ r = Va0 ∧ ow Fs0 (u.1) 150 [3, 0] [(3, .int Va0), (0, .int 0), (1, .ref Ad1), (2, .ref Ad2)])) (fun (u : List Value × (Nat → Int32) × (Nat → Int32)) t => Wd dC dI [(Ka0, .byte), (Ka1, .byte)] A [(Ad0, .inr (15, (u.1))), (Ad1, .inl (Ka0, 4000, .inl ((u.2.1)))), (Ad2, .inl (Ka1, 20, .inl ((u.2.2))))] t) A) ([.ref Ad0, .int Va0]).toArray s 0 0 A) (F0 m 71 ls []) := by
              intro n
              induction n with
              | zero =>
                intro j245 x246 f247 e248 h250 h251 h252
                exact absurd h252 (by omega)
              | succ n ih =>
                intro j245 x246 f247 e248 h250 h251 h252 H locs ls hP hD hS hl
                have t249 : x246.toInt = (j245 : Int) := by rw [e248]; exact nI_toInt (by omega)
                refine lv_iload_n hx hb dX12_end_71 rfl (lv_at hl 0 rfl) ?_
                refine lv_bipush (v := 20) hx hb dX12_end_72 (by decide) ?_
                refine lv_icmp_ge (tgt := 90) hx hb dX12_end_74 (by decide) (fun c253 => ?_) (fun c253 => ?_)
                · skip
                  refine lv_aload_n hx hb dX12_end_90 rfl (lv_at hl 1 rfl) ?_
                  refine va_get (D := (dC, dI)) (ci := 15) (v := .int Va0) (C := RX12) (T := TX12) (N := 150) hx hb hts (in_z_X12_end_X12) hown hK hP 0 rfl rfl 3 (by decide) (hts (.fieldLink RX12 391 "HeapWorksModel" "taped" "I") (by decide +kernel)) (fun _ h9 => h9) (ow_at o_s220 0 rfl) dX12_end_91 ?_
                  have hP9 := hP.sub (ws' := [(Ad0, .inr (15, s220)), (Ad1, .inl (Ka0, 4000, .inl f212)), (Ad2, .inl (Ka1, 20, .inl f247))]) [0, 1, 2] rfl
                  have hD9 := hD.sub (ws' := [(Ad0, .inr (15, s220)), (Ad1, .inl (Ka0, 4000, .inl f212)), (Ad2, .inl (Ka1, 20, .inl f247))]) [0, 1, 2] (by decide) rfl
                  have hK9 := hK.sub (tys' := [(Ka0, .byte), (Ka1, .byte)]) [0, 1] rfl
                  exact W.iret (v := Va0) hx hb hr (fun t ht hW => ⟨⟨Va0, (s220, f212, f247), rfl, (Or.inr (Or.inr (⟨c102, c103, c105, rfl, o_s220⟩))), by rw [ht]; exact hP9, va_K.moved hW.alike hK9, hD9⟩, hS.F ht⟩) hS.2.2 dX12_end_94
                · skip
                  refine lv_aload_n hx hb dX12_end_77 rfl (lv_at hl 1 rfl) ?_
                  refine va_get (D := (dC, dI)) (ci := 15) (v := .ref Ad2) (C := RX12) (T := TX12) (N := 150) hx hb hts (in_z_X12_end_X12) hown hK hP 0 rfl rfl 2 (by decide) (hts (.fieldLink RX12 13 "HeapWorksModel" "ready" "[B") (by decide +kernel)) (fun _ h9 => h9) (ow_at o_s220 3 rfl) dX12_end_78 ?_
                  refine lv_iload_n hx hb dX12_end_81 rfl (lv_at hl 0 rfl) ?_
                  refine lv_iconst (v := 0) hx hb dX12_end_82 (by decide) ?_
                  refine va_bast hx hb hK hP hD hS 2 1 rfl rfl (by rw [vp_in_iff]; (try simp only [i_lt, i_le, i_eq, kc_20] at t249 h251 h250 c253); omega) dX12_end_83 (fun H locs hP hD hS => ?_)
                  have hP : va_P (dC, dI) vwCl [(Ad0, .inr (15, s220)), (Ad1, .inl (Ka0, 4000, .inl f212)), (Ad2, .inl (Ka1, 20, .inl (upd f247 (x246 : Int32).toNatClampNeg (vp_nar .byte 0))))] H := hP
                  have hD : va_D A [(Ad0, .inr (15, s220)), (Ad1, .inl (Ka0, 4000, .inl f212)), (Ad2, .inl (Ka1, 20, .inl (upd f247 (x246 : Int32).toNatClampNeg (vp_nar .byte 0))))] := hD
                  have q255 : (upd f247 (x246 : Int32).toNatClampNeg (vp_nar .byte 0)) (x246 : Int32).toNatClampNeg = 0 := (pk_us.trans (by decide))
                  generalize upd f247 (x246 : Int32).toNatClampNeg (vp_nar .byte 0) = f254 at hP hD q255
                  obtain ⟨x256, ex256⟩ : ∃ y : Int32, y = x246 + 1 := ⟨_, rfl⟩
                  refine lv_iinc (v := x256) (lv' := [(2, .int x256), (0, .ref Ad0), (1, .int Va0)]) hx hb dX12_end_84 hl (k := 0) rfl (by rw [ex256]; rfl) (by decide) rfl (fun ls hl => ?_)
                  have tx256 : x256.toInt = x246.toInt + (1 : Int32).toInt := by rw [ex256]; exact i_add (by have bd_x246 := i_bd x246; (try simp only [i_lt, i_le, i_eq, kc_20, kc_1] at t249 h251 h250 c253 ⊢); omega) (by have bd_x246 := i_bd x246; (try simp only [i_lt, i_le, i_eq, kc_20, kc_1] at t249 h251 h250 c253 ⊢); omega)
                  refine lv_goto (tgt := 71) hx hb dX12_end_87 (by decide) ?_
                  exact ih (j245 + 1) x256 f254 (by rw [ex256, e248]; exact nI_1 _) (by omega) (by (try simp only [i_lt, i_le, i_eq, kc_20, kc_1] at t249 h251 h250 c253 tx256); omega) (by omega)  _ _ _ (hP.sub [0, 1, 2] rfl) (hD.sub [0, 1, 2] (by decide) rfl) hS  (lv_sub hl [0, 1, 2] rfl)
            exact HL4 21 0 (0) Fa1 (by decide) (by omega) (by omega) (by omega)  _ _ _ hP hD hS  hl
          · skip
            refine lv_aload_n hx hb dX12_end_36 rfl (lv_at hl 1 rfl) ?_
            refine va_get (D := (dC, dI)) (ci := 15) (v := .ref Ad1) (C := RX12) (T := TX12) (N := 150) hx hb hts (in_z_X12_end_X12) hown hK hP 0 rfl rfl 1 (by decide) (hts (.fieldLink RX12 7 "HeapWorksModel" "tape" "[B") (by decide +kernel)) (fun _ h9 => h9) (ow_at o_s101 1 rfl) dX12_end_37 ?_
            refine lv_aload_n hx hb dX12_end_40 rfl (lv_at hl 1 rfl) ?_
            refine va_get (D := (dC, dI)) (ci := 15) (v := .int 0) (C := RX12) (T := TX12) (N := 150) hx hb hts (in_z_X12_end_X12) hown hK hP 0 rfl rfl 3 (by decide) (hts (.fieldLink RX12 391 "HeapWorksModel" "taped" "I") (by decide +kernel)) (fun _ h9 => h9) (ow_at o_s101 3 rfl) dX12_end_41 ?_
            refine lv_iload_n hx hb dX12_end_44 rfl (lv_at hl 0 rfl) ?_
            refine lv_iadd hx hb dX12_end_45  ?_
            refine lv_topi (fun x257 ex257 => ?_)
            obtain rfl : x211 = x257 := (ex257.trans (Int32.zero_add _)).symm
            refine lv_aload_n hx hb dX12_end_46 rfl (lv_at hl 1 rfl) ?_
            refine va_get (D := (dC, dI)) (ci := 15) (v := .ref Ad2) (C := RX12) (T := TX12) (N := 150) hx hb hts (in_z_X12_end_X12) hown hK hP 0 rfl rfl 2 (by decide) (hts (.fieldLink RX12 13 "HeapWorksModel" "ready" "[B") (by decide +kernel)) (fun _ h9 => h9) (ow_at o_s101 2 rfl) dX12_end_47 ?_
            refine lv_iload_n hx hb dX12_end_50 rfl (lv_at hl 0 rfl) ?_
            refine va_bald hx hb hK hP 2 1 rfl rfl (by rw [vp_in_iff]; (try simp only [i_lt, i_le, i_eq, kc_0, kc_20, kc_4000] at t214 h216 h215 c218 c102 c103 c105); omega) dX12_end_51 ?_
            refine lv_topi (fun x258 ex258 => ?_)
            obtain rfl : x258 = 0 := ex258.trans (hz_Fa1 _)
            refine va_bast hx hb hK hP hD hS 1 0 rfl rfl (by rw [vp_in_iff]; (try simp only [i_lt, i_le, i_eq, kc_0, kc_20, kc_4000] at t214 h216 h215 c218 c102 c103 c105); omega) dX12_end_52 (fun H locs hP hD hS => ?_)
            have hP : va_P (dC, dI) vwCl [(Ad0, .inr (15, s101)), (Ad1, .inl (Ka0, 4000, .inl (upd f212 (x211 : Int32).toNatClampNeg (vp_nar .byte 0)))), (Ad2, .inl (Ka1, 20, .inl Fa1))] H := hP
            have hD : va_D A [(Ad0, .inr (15, s101)), (Ad1, .inl (Ka0, 4000, .inl (upd f212 (x211 : Int32).toNatClampNeg (vp_nar .byte 0)))), (Ad2, .inl (Ka1, 20, .inl Fa1))] := hD
            have q260 : (upd f212 (x211 : Int32).toNatClampNeg (vp_nar .byte 0)) (x211 : Int32).toNatClampNeg = 0 := (pk_us.trans (by decide))
            generalize upd f212 (x211 : Int32).toNatClampNeg (vp_nar .byte 0) = f259 at hP hD q260
            obtain ⟨x261, ex261⟩ : ∃ y : Int32, y = x211 + 1 := ⟨_, rfl⟩
            refine lv_iinc (v := x261) (lv' := [(2, .int x261), (0, .ref Ad0), (1, .int Va0)]) hx hb dX12_end_53 hl (k := 0) rfl (by rw [ex261]; rfl) (by decide) rfl (fun ls hl => ?_)
            have tx261 : x261.toInt = x211.toInt + (1 : Int32).toInt := by rw [ex261]; exact i_add (by have bd_x211 := i_bd x211; (try simp only [i_lt, i_le, i_eq, kc_0, kc_20, kc_4000, kc_1] at t214 h216 h215 c218 c102 c103 c105 ⊢); omega) (by have bd_x211 := i_bd x211; (try simp only [i_lt, i_le, i_eq, kc_0, kc_20, kc_4000, kc_1] at t214 h216 h215 c218 c102 c103 c105 ⊢); omega)
            refine lv_goto (tgt := 31) hx hb dX12_end_56 (by decide) ?_
            exact ih (j210 + 1) x261 f259 (by rw [ex261, e213]; exact nI_1 _) (by omega) (by (try simp only [i_lt, i_le, i_eq, kc_1, kc_0, kc_20, kc_4000] at t214 h216 h215 c218 tx261 c102 c103 c105); omega) (by omega)  _ _ _ (hP.sub [0, 1, 2] rfl) (hD.sub [0, 1, 2] (by decide) rfl) hS  (lv_sub hl [0, 1, 2] rfl)
      exact HL3 21 0 (0) Fa0 (by decide) (by omega) (by omega) (by omega)  _ _ _ hP hD hS  hl

def l_z_X12_wipe : List Cond := [.fieldLink RX12 388 "HeapWorksModel" "thrown" "I", .fieldLink RX12 391 "HeapWorksModel" "taped" "I"]
def w_z_X12_wipe : List Cond := .code yX12_wipe cX12_wipe 1 none :: (l_z_X12_wipe ++ (wsX120))
theorem in_z_X12_wipe_X12 : ∀ w ∈ wsX120, w ∈ w_z_X12_wipe := fun w h => List.mem_cons_of_mem _ (List.mem_append_right _ (h))
set_option maxHeartbeats 4000000 in
set_option maxRecDepth 100000 in
theorem z_X12_wipe (l : Launch) (dC : Nat → ClassId) (dI : Nat → Nat → Nat) (sz : Nat) (Ad0 : Nat) (Fs0 : List Value) (k_Fs0 : fh Fs0 150 [])  : Met l yX12_wipe w_z_X12_wipe ({ frames := 0, cells := 0, slots := 0, locals := 0 }) (va_Pc [.ref Ad0] (fun U => U.heap.size = sz ∧ Wd dC dI [] (fun _ => True) [(Ad0, .inr (15, Fs0))] U)) (va_Qv (fun (u : List Value) => ow Fs0 (u) 150 [3, 0] [(3, .int 0), (0, .int 0)]) (fun (u : List Value) t => Wd dC dI [] (va_A [(Ad0, .inr (15, Fs0))] sz) [(Ad0, .inr (15, (u)))] t) (va_A [(Ad0, .inr (15, Fs0))] sz))  0 0 (va_A [(Ad0, .inr (15, Fs0))] sz) := by
  refine Met.ofW (cc := cX12_wipe) (maxL := 1) (ret := none) (by decide) rfl ?_
  intro p e s m args below meth c s₁ B hml hv
  obtain ⟨rfl, hsz, hP, hK, hD0⟩ := hv
  have hx := B.exec
  have hb := B.bytes
  have hr := B.returns
  have hts := atoms_spec (ws := w_z_X12_wipe) B.pre
  have hown : s.vm.findClass RX12 = some m.cls := findClass_of_methodNamed B.named
  have hlocks := B.notSynchronized
  subst hsz
  have hD := hD0.self (sz := s.heap.size)
  generalize hAe : va_A [(Ad0, .inr (15, Fs0))] s.heap.size = A at hD ⊢
  have hA : ∀ q : Nat, s.heap.size ≤ q → A q := fun q h => by rw [← hAe]; exact Or.inr h
  have hS : va_S A s.heap s.heap [] := va_S.rf
  have hl := lv_entry ([.ref Ad0]) (n := 1) (Nat.le_of_ble_eq_true rfl)
  rw [lg_entry_eq]
  generalize (lg_sl ([.ref Ad0]) ++ List.replicate (1 - (lg_sl ([.ref Ad0])).length) Slot.unset).toArray = ls at hl ⊢
  have hl : lv_has ls 1 [(0, .ref Ad0)] := hl
  have o_Fs0 := ow_0 k_Fs0
  refine lv_aload_n hx hb dX12_wipe_0 rfl (lv_at hl 0 rfl) ?_
  refine lv_iconst (v := 0) hx hb dX12_wipe_1 (by decide) ?_
  refine va_put (D := (dC, dI)) (ci := 15) (v := .int 0) (ty := .int) (C := RX12) (T := TX12) (N := 150) hx hb hts (in_z_X12_wipe_X12) tyX12 tyX12_ok nmX12 hown hK hP hD hS 0 rfl rfl 0 (by decide) (hts (.fieldLink RX12 388 "HeapWorksModel" "thrown" "I") (by decide +kernel)) (fun _ h9 => h9) rfl (by decide +kernel) rfl rfl (by rw [o_Fs0.2.1]; decide) dX12_wipe_2 (fun H locs hP hD hS => ?_)
  have hP : va_P (dC, dI) vwCl [(Ad0, .inr (15, (Fs0.set 0 (.int 0))))] H := hP
  have hD : va_D A [(Ad0, .inr (15, (Fs0.set 0 (.int 0))))] := hD
  have o_s101 := ow_set o_Fs0 0 (.int 0) (by decide) (l' := [(0, .int 0)]) (w' := [0]) rfl rfl
  generalize (Fs0.set 0 (.int 0)) = s101 at hP hD o_s101
  refine lv_aload_n hx hb dX12_wipe_5 rfl (lv_at hl 0 rfl) ?_
  refine lv_iconst (v := 0) hx hb dX12_wipe_6 (by decide) ?_
  refine va_put (D := (dC, dI)) (ci := 15) (v := .int 0) (ty := .int) (C := RX12) (T := TX12) (N := 150) hx hb hts (in_z_X12_wipe_X12) tyX12 tyX12_ok nmX12 hown hK hP hD hS 0 rfl rfl 3 (by decide) (hts (.fieldLink RX12 391 "HeapWorksModel" "taped" "I") (by decide +kernel)) (fun _ h9 => h9) rfl (by decide +kernel) rfl rfl (by rw [o_s101.2.1]; decide) dX12_wipe_7 (fun H locs hP hD hS => ?_)
  have hP : va_P (dC, dI) vwCl [(Ad0, .inr (15, (s101.set 3 (.int 0))))] H := hP
  have hD : va_D A [(Ad0, .inr (15, (s101.set 3 (.int 0))))] := hD
  have o_s102 := ow_set o_s101 3 (.int 0) (by decide) (l' := [(3, .int 0), (0, .int 0)]) (w' := [3, 0]) rfl rfl
  generalize (s101.set 3 (.int 0)) = s102 at hP hD o_s102
  have hP9 := hP.sub (ws' := [(Ad0, .inr (15, s102))]) [0] rfl
  have hD9 := hD.sub (ws' := [(Ad0, .inr (15, s102))]) [0] (by decide) rfl
  have hK9 := hK.sub (tys' := []) [] rfl
  exact W.vret hx hb hr (fun t ht hW => ⟨⟨s102, rfl, o_s102, by rw [ht]; exact hP9, va_K.moved hW.alike hK9, hD9⟩, hS.F ht⟩) hS.2.2 dX12_wipe_10

def l_z_X12_flip : List Cond := [.fieldLink RX12 388 "HeapWorksModel" "thrown" "I", .fieldLink RX12 391 "HeapWorksModel" "taped" "I"]
def w_z_X12_flip : List Cond := .code yX12_flip cX12_flip 3 (some .boolean) :: (l_z_X12_flip ++ (wsX120))
theorem in_z_X12_flip_X12 : ∀ w ∈ wsX120, w ∈ w_z_X12_flip := fun w h => List.mem_cons_of_mem _ (List.mem_append_right _ (h))
set_option maxHeartbeats 4000000 in
set_option maxRecDepth 100000 in
theorem z_X12_flip (l : Launch) (dC : Nat → ClassId) (dI : Nat → Nat → Nat) (sz : Nat) (Ad0 : Nat) (Fs0 : List Value) (Va0 : Int32) (Va1 : Int32) (k_Fs0 : fh Fs0 150 [(3, .int 0)])  : Met l yX12_flip w_z_X12_flip ({ frames := 0, cells := 0, slots := 0, locals := 0 }) (va_Pc [.ref Ad0, .int Va0, .int Va1] (fun U => U.heap.size = sz ∧ Wd dC dI [] (fun _ => True) [(Ad0, .inr (15, Fs0))] U)) (va_Qi (fun (r : Int32) (u : List Value) => (Va0 < 0 ∧ r = 0 ∧ ow Fs0 (u) 150 [0] [(0, .int 0), (3, .int 0)]) ∨ (¬ Va0 < 0 ∧ 0 ≤ Va0 ∧ r = 0 ∧ ow Fs0 (u) 150 [0] [(0, .int 0), (3, .int 0)])) (fun (u : List Value) t => Wd dC dI [] (va_A [(Ad0, .inr (15, Fs0))] sz) [(Ad0, .inr (15, (u)))] t) (va_A [(Ad0, .inr (15, Fs0))] sz))  0 0 (va_A [(Ad0, .inr (15, Fs0))] sz) := by
  refine Met.ofW (cc := cX12_flip) (maxL := 3) (ret := (some .boolean)) (by decide) rfl ?_
  intro p e s m args below meth c s₁ B hml hv
  obtain ⟨rfl, hsz, hP, hK, hD0⟩ := hv
  have hx := B.exec
  have hb := B.bytes
  have hr := B.returns
  have hts := atoms_spec (ws := w_z_X12_flip) B.pre
  have hown : s.vm.findClass RX12 = some m.cls := findClass_of_methodNamed B.named
  have hlocks := B.notSynchronized
  subst hsz
  have hD := hD0.self (sz := s.heap.size)
  generalize hAe : va_A [(Ad0, .inr (15, Fs0))] s.heap.size = A at hD ⊢
  have hA : ∀ q : Nat, s.heap.size ≤ q → A q := fun q h => by rw [← hAe]; exact Or.inr h
  have hS : va_S A s.heap s.heap [] := va_S.rf
  have hl := lv_entry ([.ref Ad0, .int Va0, .int Va1]) (n := 3) (Nat.le_of_ble_eq_true rfl)
  rw [lg_entry_eq]
  generalize (lg_sl ([.ref Ad0, .int Va0, .int Va1]) ++ List.replicate (3 - (lg_sl ([.ref Ad0, .int Va0, .int Va1])).length) Slot.unset).toArray = ls at hl ⊢
  have hl : lv_has ls 3 [(0, .ref Ad0), (1, .int Va0), (2, .int Va1)] := hl
  have o_Fs0 := ow_0 k_Fs0
  refine lv_aload_n hx hb dX12_flip_0 rfl (lv_at hl 0 rfl) ?_
  refine lv_iconst (v := 0) hx hb dX12_flip_1 (by decide) ?_
  refine va_put (D := (dC, dI)) (ci := 15) (v := .int 0) (ty := .int) (C := RX12) (T := TX12) (N := 150) hx hb hts (in_z_X12_flip_X12) tyX12 tyX12_ok nmX12 hown hK hP hD hS 0 rfl rfl 0 (by decide) (hts (.fieldLink RX12 388 "HeapWorksModel" "thrown" "I") (by decide +kernel)) (fun _ h9 => h9) rfl (by decide +kernel) rfl rfl (by rw [o_Fs0.2.1]; decide) dX12_flip_2 (fun H locs hP hD hS => ?_)
  have hP : va_P (dC, dI) vwCl [(Ad0, .inr (15, (Fs0.set 0 (.int 0))))] H := hP
  have hD : va_D A [(Ad0, .inr (15, (Fs0.set 0 (.int 0))))] := hD
  have o_s101 := ow_set o_Fs0 0 (.int 0) (by decide) (l' := [(0, .int 0), (3, .int 0)]) (w' := [0]) rfl rfl
  generalize (Fs0.set 0 (.int 0)) = s101 at hP hD o_s101
  refine lv_iload_n hx hb dX12_flip_5 rfl (lv_at hl 1 rfl) ?_
  refine lv_if_lt (tgt := 27) hx hb dX12_flip_6 (by decide) (fun c102 => ?_) (fun c102 => ?_)
  · skip
    refine lv_iconst (v := 0) hx hb dX12_flip_27 (by decide) ?_
    have hP9 := hP.sub (ws' := [(Ad0, .inr (15, s101))]) [0] rfl
    have hD9 := hD.sub (ws' := [(Ad0, .inr (15, s101))]) [0] (by decide) rfl
    have hK9 := hK.sub (tys' := []) [] rfl
    exact W.zret (v := 0) hx hb hr rfl (fun t ht hW => ⟨⟨0, s101, rfl, (Or.inl ⟨c102, rfl, o_s101⟩), by rw [ht]; exact hP9, va_K.moved hW.alike hK9, hD9⟩, hS.F ht⟩) hS.2.2 dX12_flip_28
  · skip
    refine lv_iload_n hx hb dX12_flip_9 rfl (lv_at hl 1 rfl) ?_
    refine lv_aload_n hx hb dX12_flip_10 rfl (lv_at hl 0 rfl) ?_
    refine va_get (D := (dC, dI)) (ci := 15) (v := .int 0) (C := RX12) (T := TX12) (N := 150) hx hb hts (in_z_X12_flip_X12) hown hK hP 0 rfl rfl 3 (by decide) (hts (.fieldLink RX12 391 "HeapWorksModel" "taped" "I") (by decide +kernel)) (fun _ h9 => h9) (ow_at o_s101 1 rfl) dX12_flip_11 ?_
    refine lv_icmp_ge (tgt := 27) hx hb dX12_flip_14 (by decide) (fun c103 => ?_) (fun c103 => (by exfalso; have bd_Va0 := i_bd Va0; (try simp only [i_lt, i_le, i_eq, kc_0] at c102 c103); omega))
    refine lv_iconst (v := 0) hx hb dX12_flip_27 (by decide) ?_
    have hP9 := hP.sub (ws' := [(Ad0, .inr (15, s101))]) [0] rfl
    have hD9 := hD.sub (ws' := [(Ad0, .inr (15, s101))]) [0] (by decide) rfl
    have hK9 := hK.sub (tys' := []) [] rfl
    exact W.zret (v := 0) hx hb hr rfl (fun t ht hW => ⟨⟨0, s101, rfl, (Or.inr (⟨c102, c103, rfl, o_s101⟩)), by rw [ht]; exact hP9, va_K.moved hW.alike hK9, hD9⟩, hS.F ht⟩) hS.2.2 dX12_flip_28

def l_z_X12_cut : List Cond := [.fieldLink RX12 388 "HeapWorksModel" "thrown" "I", .fieldLink RX12 391 "HeapWorksModel" "taped" "I"]
def w_z_X12_cut : List Cond := .code yX12_cut cX12_cut 2 (some .boolean) :: (l_z_X12_cut ++ (wsX120))
theorem in_z_X12_cut_X12 : ∀ w ∈ wsX120, w ∈ w_z_X12_cut := fun w h => List.mem_cons_of_mem _ (List.mem_append_right _ (h))
set_option maxHeartbeats 4000000 in
set_option maxRecDepth 100000 in
theorem z_X12_cut (l : Launch) (dC : Nat → ClassId) (dI : Nat → Nat → Nat) (sz : Nat) (Ad0 : Nat) (Fs0 : List Value) (Va0 : Int32) (k_Fs0 : fh Fs0 150 [(3, .int 0)])  : Met l yX12_cut w_z_X12_cut ({ frames := 0, cells := 0, slots := 0, locals := 0 }) (va_Pc [.ref Ad0, .int Va0] (fun U => U.heap.size = sz ∧ Wd dC dI [] (fun _ => True) [(Ad0, .inr (15, Fs0))] U)) (va_Qi (fun (r : Int32) (u : List Value) => (Va0 < 0 ∧ r = 0 ∧ ow Fs0 (u) 150 [0] [(0, .int 0), (3, .int 0)]) ∨ (¬ Va0 < 0 ∧ Va0 ≤ 0 ∧ r = 1 ∧ ow Fs0 (u) 150 [3, 0] [(3, .int Va0), (0, .int 0)]) ∨ (¬ Va0 < 0 ∧ ¬ Va0 ≤ 0 ∧ r = 0 ∧ ow Fs0 (u) 150 [0] [(0, .int 0), (3, .int 0)])) (fun (u : List Value) t => Wd dC dI [] (va_A [(Ad0, .inr (15, Fs0))] sz) [(Ad0, .inr (15, (u)))] t) (va_A [(Ad0, .inr (15, Fs0))] sz))  0 0 (va_A [(Ad0, .inr (15, Fs0))] sz) := by
  refine Met.ofW (cc := cX12_cut) (maxL := 2) (ret := (some .boolean)) (by decide) rfl ?_
  intro p e s m args below meth c s₁ B hml hv
  obtain ⟨rfl, hsz, hP, hK, hD0⟩ := hv
  have hx := B.exec
  have hb := B.bytes
  have hr := B.returns
  have hts := atoms_spec (ws := w_z_X12_cut) B.pre
  have hown : s.vm.findClass RX12 = some m.cls := findClass_of_methodNamed B.named
  have hlocks := B.notSynchronized
  subst hsz
  have hD := hD0.self (sz := s.heap.size)
  generalize hAe : va_A [(Ad0, .inr (15, Fs0))] s.heap.size = A at hD ⊢
  have hA : ∀ q : Nat, s.heap.size ≤ q → A q := fun q h => by rw [← hAe]; exact Or.inr h
  have hS : va_S A s.heap s.heap [] := va_S.rf
  have hl := lv_entry ([.ref Ad0, .int Va0]) (n := 2) (Nat.le_of_ble_eq_true rfl)
  rw [lg_entry_eq]
  generalize (lg_sl ([.ref Ad0, .int Va0]) ++ List.replicate (2 - (lg_sl ([.ref Ad0, .int Va0])).length) Slot.unset).toArray = ls at hl ⊢
  have hl : lv_has ls 2 [(0, .ref Ad0), (1, .int Va0)] := hl
  have o_Fs0 := ow_0 k_Fs0
  refine lv_aload_n hx hb dX12_cut_0 rfl (lv_at hl 0 rfl) ?_
  refine lv_iconst (v := 0) hx hb dX12_cut_1 (by decide) ?_
  refine va_put (D := (dC, dI)) (ci := 15) (v := .int 0) (ty := .int) (C := RX12) (T := TX12) (N := 150) hx hb hts (in_z_X12_cut_X12) tyX12 tyX12_ok nmX12 hown hK hP hD hS 0 rfl rfl 0 (by decide) (hts (.fieldLink RX12 388 "HeapWorksModel" "thrown" "I") (by decide +kernel)) (fun _ h9 => h9) rfl (by decide +kernel) rfl rfl (by rw [o_Fs0.2.1]; decide) dX12_cut_2 (fun H locs hP hD hS => ?_)
  have hP : va_P (dC, dI) vwCl [(Ad0, .inr (15, (Fs0.set 0 (.int 0))))] H := hP
  have hD : va_D A [(Ad0, .inr (15, (Fs0.set 0 (.int 0))))] := hD
  have o_s101 := ow_set o_Fs0 0 (.int 0) (by decide) (l' := [(0, .int 0), (3, .int 0)]) (w' := [0]) rfl rfl
  generalize (Fs0.set 0 (.int 0)) = s101 at hP hD o_s101
  refine lv_iload_n hx hb dX12_cut_5 rfl (lv_at hl 1 rfl) ?_
  refine lv_if_lt (tgt := 17) hx hb dX12_cut_6 (by decide) (fun c102 => ?_) (fun c102 => ?_)
  · skip
    refine lv_iconst (v := 0) hx hb dX12_cut_17 (by decide) ?_
    have hP9 := hP.sub (ws' := [(Ad0, .inr (15, s101))]) [0] rfl
    have hD9 := hD.sub (ws' := [(Ad0, .inr (15, s101))]) [0] (by decide) rfl
    have hK9 := hK.sub (tys' := []) [] rfl
    exact W.zret (v := 0) hx hb hr rfl (fun t ht hW => ⟨⟨0, s101, rfl, (Or.inl ⟨c102, rfl, o_s101⟩), by rw [ht]; exact hP9, va_K.moved hW.alike hK9, hD9⟩, hS.F ht⟩) hS.2.2 dX12_cut_18
  · skip
    refine lv_iload_n hx hb dX12_cut_9 rfl (lv_at hl 1 rfl) ?_
    refine lv_aload_n hx hb dX12_cut_10 rfl (lv_at hl 0 rfl) ?_
    refine va_get (D := (dC, dI)) (ci := 15) (v := .int 0) (C := RX12) (T := TX12) (N := 150) hx hb hts (in_z_X12_cut_X12) hown hK hP 0 rfl rfl 3 (by decide) (hts (.fieldLink RX12 391 "HeapWorksModel" "taped" "I") (by decide +kernel)) (fun _ h9 => h9) (ow_at o_s101 1 rfl) dX12_cut_11 ?_
    refine lv_icmp_le (tgt := 19) hx hb dX12_cut_14 (by decide) (fun c103 => ?_) (fun c103 => ?_)
    · skip
      refine lv_aload_n hx hb dX12_cut_19 rfl (lv_at hl 0 rfl) ?_
      refine lv_iload_n hx hb dX12_cut_20 rfl (lv_at hl 1 rfl) ?_
      refine va_put (D := (dC, dI)) (ci := 15) (v := .int Va0) (ty := .int) (C := RX12) (T := TX12) (N := 150) hx hb hts (in_z_X12_cut_X12) tyX12 tyX12_ok nmX12 hown hK hP hD hS 0 rfl rfl 3 (by decide) (hts (.fieldLink RX12 391 "HeapWorksModel" "taped" "I") (by decide +kernel)) (fun _ h9 => h9) rfl (by decide +kernel) rfl rfl (by rw [o_s101.2.1]; decide) dX12_cut_21 (fun H locs hP hD hS => ?_)
      have hP : va_P (dC, dI) vwCl [(Ad0, .inr (15, (s101.set 3 (.int Va0))))] H := hP
      have hD : va_D A [(Ad0, .inr (15, (s101.set 3 (.int Va0))))] := hD
      have o_s104 := ow_set o_s101 3 (.int Va0) (by decide) (l' := [(3, .int Va0), (0, .int 0)]) (w' := [3, 0]) rfl rfl
      generalize (s101.set 3 (.int Va0)) = s104 at hP hD o_s104
      refine lv_iconst (v := 1) hx hb dX12_cut_24 (by decide) ?_
      have hP9 := hP.sub (ws' := [(Ad0, .inr (15, s104))]) [0] rfl
      have hD9 := hD.sub (ws' := [(Ad0, .inr (15, s104))]) [0] (by decide) rfl
      have hK9 := hK.sub (tys' := []) [] rfl
      exact W.zret (v := 1) hx hb hr rfl (fun t ht hW => ⟨⟨1, s104, rfl, (Or.inr (Or.inl ⟨c102, c103, rfl, o_s104⟩)), by rw [ht]; exact hP9, va_K.moved hW.alike hK9, hD9⟩, hS.F ht⟩) hS.2.2 dX12_cut_25
    · skip
      refine lv_iconst (v := 0) hx hb dX12_cut_17 (by decide) ?_
      have hP9 := hP.sub (ws' := [(Ad0, .inr (15, s101))]) [0] rfl
      have hD9 := hD.sub (ws' := [(Ad0, .inr (15, s101))]) [0] (by decide) rfl
      have hK9 := hK.sub (tys' := []) [] rfl
      exact W.zret (v := 0) hx hb hr rfl (fun t ht hW => ⟨⟨0, s101, rfl, (Or.inr (Or.inr (⟨c102, c103, rfl, o_s101⟩))), by rw [ht]; exact hP9, va_K.moved hW.alike hK9, hD9⟩, hS.F ht⟩) hS.2.2 dX12_cut_18

def l_z_X12_tapeName : List Cond := [.fieldLink RX12 391 "HeapWorksModel" "taped" "I"]
def w_z_X12_tapeName : List Cond := .code yX12_tapeName cX12_tapeName 5 (some .long) :: (l_z_X12_tapeName ++ (wsX120))
theorem in_z_X12_tapeName_X12 : ∀ w ∈ wsX120, w ∈ w_z_X12_tapeName := fun w h => List.mem_cons_of_mem _ (List.mem_append_right _ (h))
set_option maxHeartbeats 4000000 in
set_option maxRecDepth 100000 in
theorem z_X12_tapeName (l : Launch) (dC : Nat → ClassId) (dI : Nat → Nat → Nat) (sz : Nat) (Ad0 : Nat) (Fs0 : List Value) (k_Fs0 : fh Fs0 150 [(3, .int 0)])  : Met l yX12_tapeName w_z_X12_tapeName ({ frames := 0, cells := 0, slots := 0, locals := 0 }) (va_Pc [.ref Ad0] (fun U => U.heap.size = sz ∧ Wd dC dI [] (fun _ => True) [(Ad0, .inr (15, Fs0))] U)) (va_Ql (fun (r : Int64) (u : Unit) => r = 0) (fun (u : Unit) t => Wd dC dI [] (va_A [(Ad0, .inr (15, Fs0))] sz) [(Ad0, .inr (15, Fs0))] t) (va_A [(Ad0, .inr (15, Fs0))] sz))  0 0 (va_A [(Ad0, .inr (15, Fs0))] sz) := by
  refine Met.ofW (cc := cX12_tapeName) (maxL := 5) (ret := (some .long)) (by decide) rfl ?_
  intro p e s m args below meth c s₁ B hml hv
  obtain ⟨rfl, hsz, hP, hK, hD0⟩ := hv
  have hx := B.exec
  have hb := B.bytes
  have hr := B.returns
  have hts := atoms_spec (ws := w_z_X12_tapeName) B.pre
  have hown : s.vm.findClass RX12 = some m.cls := findClass_of_methodNamed B.named
  have hlocks := B.notSynchronized
  subst hsz
  have hD := hD0.self (sz := s.heap.size)
  generalize hAe : va_A [(Ad0, .inr (15, Fs0))] s.heap.size = A at hD ⊢
  have hA : ∀ q : Nat, s.heap.size ≤ q → A q := fun q h => by rw [← hAe]; exact Or.inr h
  have hS : va_S A s.heap s.heap [] := va_S.rf
  have hl := lv_entry ([.ref Ad0]) (n := 5) (Nat.le_of_ble_eq_true rfl)
  rw [lg_entry_eq]
  generalize (lg_sl ([.ref Ad0]) ++ List.replicate (5 - (lg_sl ([.ref Ad0])).length) Slot.unset).toArray = ls at hl ⊢
  have hl : lv_has ls 5 [(0, .ref Ad0)] := hl
  have o_Fs0 := ow_0 k_Fs0
  refine lv_lconst (v := 0) hx hb dX12_tapeName_0 (by decide) ?_
  refine lv_lstore_n (lv' := [(1, .long 0), (0, .ref Ad0)]) hx hb dX12_tapeName_1 rfl hl (by decide) rfl (fun ls hl => ?_)
  refine lv_aload_n hx hb dX12_tapeName_2 rfl (lv_at hl 1 rfl) ?_
  refine va_get (D := (dC, dI)) (ci := 15) (v := .int 0) (C := RX12) (T := TX12) (N := 150) hx hb hts (in_z_X12_tapeName_X12) hown hK hP 0 rfl rfl 3 (by decide) (hts (.fieldLink RX12 391 "HeapWorksModel" "taped" "I") (by decide +kernel)) (fun _ h9 => h9) (ow_at o_Fs0 0 rfl) dX12_tapeName_3 ?_
  refine lv_if_le (tgt := 34) hx hb dX12_tapeName_6 (by decide) (fun c101 => ?_) (fun c101 => absurd c101 (by decide))
  refine lv_iconst (v := 0) hx hb dX12_tapeName_34 (by decide) ?_
  refine lv_istore_n (lv' := [(3, .int 0), (1, .long 0), (0, .ref Ad0)]) hx hb dX12_tapeName_35 rfl hl (by decide) rfl (fun ls hl => ?_)
  refine lv_iconst (v := 0) hx hb dX12_tapeName_36 (by decide) ?_
  refine lv_istore (lv' := [(4, .int 0), (3, .int 0), (1, .long 0), (0, .ref Ad0)]) hx hb dX12_tapeName_37 hl (by decide) rfl (fun ls hl => ?_)
  refine lv_iload hx hb dX12_tapeName_39 (lv_at hl 0 rfl) ?_
  refine lv_aload_n hx hb dX12_tapeName_41 rfl (lv_at hl 3 rfl) ?_
  refine va_get (D := (dC, dI)) (ci := 15) (v := .int 0) (C := RX12) (T := TX12) (N := 150) hx hb hts (in_z_X12_tapeName_X12) hown hK hP 0 rfl rfl 3 (by decide) (hts (.fieldLink RX12 391 "HeapWorksModel" "taped" "I") (by decide +kernel)) (fun _ h9 => h9) (ow_at o_Fs0 0 rfl) dX12_tapeName_42 ?_
  refine lv_icmp_ge (tgt := 116) hx hb dX12_tapeName_45 (by decide) (fun c102 => ?_) (fun c102 => absurd c102 (by decide))
  refine lv_iload_n hx hb dX12_tapeName_116 rfl (lv_at hl 1 rfl) ?_
  refine lv_if_eq (tgt := 133) hx hb dX12_tapeName_117 (by decide) (fun c103 => ?_) (fun c103 => absurd c103 (by decide))
  refine lv_lconst (v := 0) hx hb dX12_tapeName_133 (by decide) ?_
  have hP9 := hP.sub (ws' := [(Ad0, .inr (15, Fs0))]) [0] rfl
  have hD9 := hD.sub (ws' := [(Ad0, .inr (15, Fs0))]) [0] (by decide) rfl
  have hK9 := hK.sub (tys' := []) [] rfl
  exact W.lret (v := 0) hx hb hr (fun t ht hW => ⟨⟨0, (), rfl, rfl, by rw [ht]; exact hP9, va_K.moved hW.alike hK9, hD9⟩, hS.F ht⟩) hS.2.2 dX12_tapeName_134

def l_z_X12_isClass : List Cond := [.fieldLink RX12 413 "HeapWorksModel" "classes" "I"]
def w_z_X12_isClass : List Cond := .code yX12_isClass cX12_isClass 2 (some .boolean) :: (l_z_X12_isClass ++ (wsX120))
theorem in_z_X12_isClass_X12 : ∀ w ∈ wsX120, w ∈ w_z_X12_isClass := fun w h => List.mem_cons_of_mem _ (List.mem_append_right _ (h))
set_option maxHeartbeats 4000000 in
set_option maxRecDepth 100000 in
theorem z_X12_isClass (l : Launch) (dC : Nat → ClassId) (dI : Nat → Nat → Nat) (sz : Nat) (Ad0 : Nat) (Fs0 : List Value) (Va0 : Int32) (k_Fs0 : fh Fs0 150 [(20, .int 0)])  : Met l yX12_isClass w_z_X12_isClass ({ frames := 0, cells := 0, slots := 0, locals := 0 }) (va_Pc [.ref Ad0, .int Va0] (fun U => U.heap.size = sz ∧ Wd dC dI [] (fun _ => True) [(Ad0, .inr (15, Fs0))] U)) (va_Qi (fun (r : Int32) (u : Unit) => (Va0 < 0 ∧ r = 0) ∨ (¬ Va0 < 0 ∧ 0 ≤ Va0 ∧ r = 0)) (fun (u : Unit) t => Wd dC dI [] (va_A [(Ad0, .inr (15, Fs0))] sz) [(Ad0, .inr (15, Fs0))] t) (va_A [(Ad0, .inr (15, Fs0))] sz))  0 0 (va_A [(Ad0, .inr (15, Fs0))] sz) := by
  refine Met.ofW (cc := cX12_isClass) (maxL := 2) (ret := (some .boolean)) (by decide) rfl ?_
  intro p e s m args below meth c s₁ B hml hv
  obtain ⟨rfl, hsz, hP, hK, hD0⟩ := hv
  have hx := B.exec
  have hb := B.bytes
  have hr := B.returns
  have hts := atoms_spec (ws := w_z_X12_isClass) B.pre
  have hown : s.vm.findClass RX12 = some m.cls := findClass_of_methodNamed B.named
  have hlocks := B.notSynchronized
  subst hsz
  have hD := hD0.self (sz := s.heap.size)
  generalize hAe : va_A [(Ad0, .inr (15, Fs0))] s.heap.size = A at hD ⊢
  have hA : ∀ q : Nat, s.heap.size ≤ q → A q := fun q h => by rw [← hAe]; exact Or.inr h
  have hS : va_S A s.heap s.heap [] := va_S.rf
  have hl := lv_entry ([.ref Ad0, .int Va0]) (n := 2) (Nat.le_of_ble_eq_true rfl)
  rw [lg_entry_eq]
  generalize (lg_sl ([.ref Ad0, .int Va0]) ++ List.replicate (2 - (lg_sl ([.ref Ad0, .int Va0])).length) Slot.unset).toArray = ls at hl ⊢
  have hl : lv_has ls 2 [(0, .ref Ad0), (1, .int Va0)] := hl
  have o_Fs0 := ow_0 k_Fs0
  refine lv_iload_n hx hb dX12_isClass_0 rfl (lv_at hl 1 rfl) ?_
  refine lv_if_lt (tgt := 16) hx hb dX12_isClass_1 (by decide) (fun c101 => ?_) (fun c101 => ?_)
  · skip
    refine lv_iconst (v := 0) hx hb dX12_isClass_16 (by decide) ?_
    have hP9 := hP.sub (ws' := [(Ad0, .inr (15, Fs0))]) [0] rfl
    have hD9 := hD.sub (ws' := [(Ad0, .inr (15, Fs0))]) [0] (by decide) rfl
    have hK9 := hK.sub (tys' := []) [] rfl
    exact W.zret (v := 0) hx hb hr rfl (fun t ht hW => ⟨⟨0, (), rfl, (Or.inl ⟨c101, rfl⟩), by rw [ht]; exact hP9, va_K.moved hW.alike hK9, hD9⟩, hS.F ht⟩) hS.2.2 dX12_isClass_17
  · skip
    refine lv_iload_n hx hb dX12_isClass_4 rfl (lv_at hl 1 rfl) ?_
    refine lv_aload_n hx hb dX12_isClass_5 rfl (lv_at hl 0 rfl) ?_
    refine va_get (D := (dC, dI)) (ci := 15) (v := .int 0) (C := RX12) (T := TX12) (N := 150) hx hb hts (in_z_X12_isClass_X12) hown hK hP 0 rfl rfl 20 (by decide) (hts (.fieldLink RX12 413 "HeapWorksModel" "classes" "I") (by decide +kernel)) (fun _ h9 => h9) (ow_at o_Fs0 0 rfl) dX12_isClass_6 ?_
    refine lv_icmp_ge (tgt := 16) hx hb dX12_isClass_9 (by decide) (fun c102 => ?_) (fun c102 => (by exfalso; have bd_Va0 := i_bd Va0; (try simp only [i_lt, i_le, i_eq, kc_0] at c101 c102); omega))
    refine lv_iconst (v := 0) hx hb dX12_isClass_16 (by decide) ?_
    have hP9 := hP.sub (ws' := [(Ad0, .inr (15, Fs0))]) [0] rfl
    have hD9 := hD.sub (ws' := [(Ad0, .inr (15, Fs0))]) [0] (by decide) rfl
    have hK9 := hK.sub (tys' := []) [] rfl
    exact W.zret (v := 0) hx hb hr rfl (fun t ht hW => ⟨⟨0, (), rfl, (Or.inr (⟨c101, c102, rfl⟩)), by rw [ht]; exact hP9, va_K.moved hW.alike hK9, hD9⟩, hS.F ht⟩) hS.2.2 dX12_isClass_17

def l_z_X12_type : List Cond := [.fieldLink RX12 388 "HeapWorksModel" "thrown" "I", .methodLink RX12 419 yX12_tapeName, .instanceMethod yX12_tapeName, .selects RX12 yX12_tapeName yX12_tapeName, .initialized RX12, .methodLink RX12 416 yX12_isClass, .instanceMethod yX12_isClass, .selects RX12 yX12_isClass yX12_isClass, .code yX12_tapeName cX12_tapeName 5 (some .long), .fieldLink RX12 391 "HeapWorksModel" "taped" "I", .code yX12_isClass cX12_isClass 2 (some .boolean), .fieldLink RX12 413 "HeapWorksModel" "classes" "I"]
def w_z_X12_type : List Cond := .code yX12_type cX12_type 7 (some .int) :: (l_z_X12_type ++ (wsX120))
theorem in_z_X12_type_X12 : ∀ w ∈ wsX120, w ∈ w_z_X12_type := fun w h => List.mem_cons_of_mem _ (List.mem_append_right _ (h))
theorem g_z_X12_type_z_X12_tapeName_419 : GoodIn w_z_X12_type (wsV RX12 419 RX12 yX12_tapeName w_z_X12_tapeName) := goodIn_app (goodIn_r (([.methodLink RX12 419 yX12_tapeName, .instanceMethod yX12_tapeName, .selects RX12 yX12_tapeName yX12_tapeName, .initialized RX12] : List Cond)) [2, 3, 4, 5] rfl (by decide +kernel)) (goodIn_ca (goodIn_r (.code yX12_tapeName cX12_tapeName 5 (some .long) :: l_z_X12_tapeName) [9, 10] rfl (by decide +kernel)) (goodIn_in (in_z_X12_type_X12) gd_X12))
theorem g_z_X12_type_z_X12_isClass_416 : GoodIn w_z_X12_type (wsV RX12 416 RX12 yX12_isClass w_z_X12_isClass) := goodIn_app (goodIn_r (([.methodLink RX12 416 yX12_isClass, .instanceMethod yX12_isClass, .selects RX12 yX12_isClass yX12_isClass, .initialized RX12] : List Cond)) [6, 7, 8, 5] rfl (by decide +kernel)) (goodIn_ca (goodIn_r (.code yX12_isClass cX12_isClass 2 (some .boolean) :: l_z_X12_isClass) [11, 12] rfl (by decide +kernel)) (goodIn_in (in_z_X12_type_X12) gd_X12))
set_option maxHeartbeats 4000000 in
set_option maxRecDepth 100000 in
theorem z_X12_type (l : Launch) (dC : Nat → ClassId) (dI : Nat → Nat → Nat) (sz : Nat) (Ad0 : Nat) (Fs0 : List Value) (Va0 : Int32) (Va1 : Int32) (k_Fs0 : fh Fs0 150 [(0, .int 0), (3, .int 0), (20, .int 0)])  : Met l yX12_type w_z_X12_type ({ frames := 1, cells := 0, slots := 0, locals := 24 }) (va_Pc [.ref Ad0, .int Va0, .int Va1] (fun U => U.heap.size = sz ∧ Wd dC dI [] (fun _ => True) [(Ad0, .inr (15, Fs0))] U)) (va_Qi (fun (r : Int32) (u : List Value) => (Va0 = (-1) ∧ Va1 < 0 ∧ r = 0 ∧ ow Fs0 (u) 150 [0] [(0, .int 1), (3, .int 0), (20, .int 0)]) ∨ (Va0 = (-1) ∧ ¬ Va1 < 0 ∧ Va1 ≤ 3 ∧ r = 0 ∧ ow Fs0 (u) 150 [0] [(0, .int 2), (3, .int 0), (20, .int 0)]) ∨ (Va0 = (-1) ∧ ¬ Va1 < 0 ∧ ¬ Va1 ≤ 3 ∧ r = 0 ∧ ow Fs0 (u) 150 [0] [(0, .int 1), (3, .int 0), (20, .int 0)]) ∨ (¬ Va0 = (-1) ∧ Va0 < 0 ∧ r = 0 ∧ ow Fs0 (u) 150 [0] [(0, .int 1), (3, .int 0), (20, .int 0)]) ∨ (¬ Va0 = (-1) ∧ ¬ Va0 < 0 ∧ 0 ≤ Va0 ∧ r = 0 ∧ ow Fs0 (u) 150 [0] [(0, .int 1), (3, .int 0), (20, .int 0)])) (fun (u : List Value) t => Wd dC dI [] (va_A [(Ad0, .inr (15, Fs0))] sz) [(Ad0, .inr (15, (u)))] t) (va_A [(Ad0, .inr (15, Fs0))] sz))  0 0 (va_A [(Ad0, .inr (15, Fs0))] sz) := by
  refine Met.ofW (cc := cX12_type) (maxL := 7) (ret := (some .int)) (by decide) rfl ?_
  intro p e s m args below meth c s₁ B hml hv
  obtain ⟨rfl, hsz, hP, hK, hD0⟩ := hv
  have hx := B.exec
  have hb := B.bytes
  have hr := B.returns
  have hts := atoms_spec (ws := w_z_X12_type) B.pre
  have hown : s.vm.findClass RX12 = some m.cls := findClass_of_methodNamed B.named
  have hlocks := B.notSynchronized
  subst hsz
  have hD := hD0.self (sz := s.heap.size)
  generalize hAe : va_A [(Ad0, .inr (15, Fs0))] s.heap.size = A at hD ⊢
  have hA : ∀ q : Nat, s.heap.size ≤ q → A q := fun q h => by rw [← hAe]; exact Or.inr h
  have hS : va_S A s.heap s.heap [] := va_S.rf
  have hl := lv_entry ([.ref Ad0, .int Va0, .int Va1]) (n := 7) (Nat.le_of_ble_eq_true rfl)
  rw [lg_entry_eq]
  generalize (lg_sl ([.ref Ad0, .int Va0, .int Va1]) ++ List.replicate (7 - (lg_sl ([.ref Ad0, .int Va0, .int Va1])).length) Slot.unset).toArray = ls at hl ⊢
  have hl : lv_has ls 7 [(0, .ref Ad0), (1, .int Va0), (2, .int Va1)] := hl
  have o_Fs0 := ow_0 k_Fs0
  refine lv_aload_n hx hb dX12_type_0 rfl (lv_at hl 0 rfl) ?_
  refine lv_iload_n hx hb dX12_type_1 rfl (lv_at hl 1 rfl) ?_
  refine lv_iconst (v := (-1)) hx hb dX12_type_2 (by decide) ?_
  refine lv_icmp_eq (tgt := 14) hx hb dX12_type_3 (by decide) (fun c101 => ?_) (fun c101 => ?_)
  · skip
    refine lv_iload_n hx hb dX12_type_14 rfl (lv_at hl 2 rfl) ?_
    refine lv_if_lt (tgt := 23) hx hb dX12_type_15 (by decide) (fun c102 => ?_) (fun c102 => ?_)
    · skip
      refine lv_iconst (v := 1) hx hb dX12_type_23 (by decide) ?_
      refine lv_goto (tgt := 28) hx hb dX12_type_24 (by decide) ?_
      refine va_put (D := (dC, dI)) (ci := 15) (v := .int 1) (ty := .int) (C := RX12) (T := TX12) (N := 150) hx hb hts (in_z_X12_type_X12) tyX12 tyX12_ok nmX12 hown hK hP hD hS 0 rfl rfl 0 (by decide) (hts (.fieldLink RX12 388 "HeapWorksModel" "thrown" "I") (by decide +kernel)) (fun _ h9 => h9) rfl (by decide +kernel) rfl rfl (by rw [o_Fs0.2.1]; decide) dX12_type_28 (fun H locs hP hD hS => ?_)
      have hP : va_P (dC, dI) vwCl [(Ad0, .inr (15, (Fs0.set 0 (.int 1))))] H := hP
      have hD : va_D A [(Ad0, .inr (15, (Fs0.set 0 (.int 1))))] := hD
      have o_s103 := ow_set o_Fs0 0 (.int 1) (by decide) (l' := [(0, .int 1), (3, .int 0), (20, .int 0)]) (w' := [0]) rfl rfl
      generalize (Fs0.set 0 (.int 1)) = s103 at hP hD o_s103
      refine lv_aload_n hx hb dX12_type_31 rfl (lv_at hl 0 rfl) ?_
      refine va_get (D := (dC, dI)) (ci := 15) (v := .int 1) (C := RX12) (T := TX12) (N := 150) hx hb hts (in_z_X12_type_X12) hown hK hP 0 rfl rfl 0 (by decide) (hts (.fieldLink RX12 388 "HeapWorksModel" "thrown" "I") (by decide +kernel)) (fun _ h9 => h9) (ow_at o_s103 0 rfl) dX12_type_32 ?_
      refine lv_if_le (tgt := 40) hx hb dX12_type_35 (by decide) (fun c104 => absurd c104 (by decide)) (fun c104 => ?_)
      refine lv_iconst (v := 0) hx hb dX12_type_38 (by decide) ?_
      have hP9 := hP.sub (ws' := [(Ad0, .inr (15, s103))]) [0] rfl
      have hD9 := hD.sub (ws' := [(Ad0, .inr (15, s103))]) [0] (by decide) rfl
      have hK9 := hK.sub (tys' := []) [] rfl
      exact W.iret (v := 0) hx hb hr (fun t ht hW => ⟨⟨0, s103, rfl, (Or.inl ⟨c101, c102, rfl, o_s103⟩), by rw [ht]; exact hP9, va_K.moved hW.alike hK9, hD9⟩, hS.F ht⟩) hS.2.2 dX12_type_39
    · skip
      refine lv_iload_n hx hb dX12_type_18 rfl (lv_at hl 2 rfl) ?_
      refine lv_iconst (v := 3) hx hb dX12_type_19 (by decide) ?_
      refine lv_icmp_le (tgt := 27) hx hb dX12_type_20 (by decide) (fun c105 => ?_) (fun c105 => ?_)
      · skip
        refine lv_iconst (v := 0) hx hb dX12_type_27 (by decide) ?_
        refine va_put (D := (dC, dI)) (ci := 15) (v := .int 0) (ty := .int) (C := RX12) (T := TX12) (N := 150) hx hb hts (in_z_X12_type_X12) tyX12 tyX12_ok nmX12 hown hK hP hD hS 0 rfl rfl 0 (by decide) (hts (.fieldLink RX12 388 "HeapWorksModel" "thrown" "I") (by decide +kernel)) (fun _ h9 => h9) rfl (by decide +kernel) rfl rfl (by rw [o_Fs0.2.1]; decide) dX12_type_28 (fun H locs hP hD hS => ?_)
        have hP : va_P (dC, dI) vwCl [(Ad0, .inr (15, (Fs0.set 0 (.int 0))))] H := hP
        have hD : va_D A [(Ad0, .inr (15, (Fs0.set 0 (.int 0))))] := hD
        have o_s106 := ow_set o_Fs0 0 (.int 0) (by decide) (l' := [(0, .int 0), (3, .int 0), (20, .int 0)]) (w' := [0]) rfl rfl
        generalize (Fs0.set 0 (.int 0)) = s106 at hP hD o_s106
        refine lv_aload_n hx hb dX12_type_31 rfl (lv_at hl 0 rfl) ?_
        refine va_get (D := (dC, dI)) (ci := 15) (v := .int 0) (C := RX12) (T := TX12) (N := 150) hx hb hts (in_z_X12_type_X12) hown hK hP 0 rfl rfl 0 (by decide) (hts (.fieldLink RX12 388 "HeapWorksModel" "thrown" "I") (by decide +kernel)) (fun _ h9 => h9) (ow_at o_s106 0 rfl) dX12_type_32 ?_
        refine lv_if_le (tgt := 40) hx hb dX12_type_35 (by decide) (fun c107 => ?_) (fun c107 => absurd c107 (by decide))
        refine lv_aload_n hx hb dX12_type_40 rfl (lv_at hl 0 rfl) ?_
        have hPc := hP.sub (ws' := [(Ad0, .inr (15, s106))]) [0] rfl
        have hDc := hD.sub (ws' := [(Ad0, .inr (15, s106))]) [0] (by decide) rfl
        have hKc := hK.sub (tys' := []) [] rfl
        have hFc := va_free (wc := [(Ad0, .inr (15, s106))]) hD hS hA [0] rfl
        refine va_calll (va_runV (As := []) (rest := []) ⟨hx, hb, hml, hown, hts⟩ (z_X12_tapeName l dC dI H.size Ad0 s106 (fh_sub o_s106.2 [1] rfl) ) (cwV 0 hts g_z_X12_type_z_X12_tapeName_419 rfl rfl rfl (by decide +kernel) ⟨Nat.le_of_ble_eq_true rfl, Nat.le_of_ble_eq_true rfl⟩) ⟨fun a U g mk q => by obtain ⟨q0, q1, qP, qK, qD⟩ := q; exact ⟨q0, q1, qP, va_K.moved (u := U) (U := U.calling g mk a) (Vm.Alike.refl U.vm) qK, qD⟩, va_recv hK hP (ci := 15) (q0 := 0) rfl rfl, fun U hU hW => ⟨rfl, by rw [hU], by rw [hU]; exact hPc, va_K.moved hW.alike hKc, hDc.weaken (fun _ _ _ _ => trivial)⟩⟩ rfl rfl hl.1 rfl (lv_room (Nat.le_of_ble_eq_true rfl)) dX12_type_41 ⟨Nat.le_of_ble_eq_true rfl, Nat.le_of_ble_eq_true rfl⟩) hS (fun q _ h => hFc q h) hFc (fun r108 u t H1 locs ht hvm hw hB hz1 hk1 hS => ?_)
        obtain ⟨hP1, hK1, hD1⟩ := hB
        rw [ht] at hP1
        try dsimp only at hw
        obtain ⟨hP, hD⟩ := va_join (wr := []) (w1 := [(Ad0, .inr (15, s106))]) hP hD [0] [] rfl rfl (by decide) (by decide) hk1 hFc hP1 hD1
        have hK := hK.sub (tys' := []) [] rfl
        generalize H1 = H at hP hS ⊢
        have hP : va_P (dC, dI) vwCl [(Ad0, .inr (15, s106))] H := hP
        have hD : va_D A [(Ad0, .inr (15, s106))] := hD
        have er109 := hw
        subst er109
        refine lv_lstore_n (lv' := [(3, .long 0), (0, .ref Ad0), (1, .int Va0), (2, .int Va1)]) hx hb dX12_type_44 rfl hl (by decide) rfl (fun ls hl => ?_)
        refine lv_aload_n hx hb dX12_type_45 rfl (lv_at hl 1 rfl) ?_
        refine lv_lload_n hx hb dX12_type_46 rfl (lv_at hl 0 rfl) ?_
        refine lv_lconst (v := 0) hx hb dX12_type_47 (by decide) ?_
        refine W.lcmp hx hb dX12_type_48  ?_
        refine lv_topi (fun x110 ex110 => ?_)
        obtain rfl : x110 = 0 := ex110.trans (by decide)
        refine lv_if_ne (tgt := 56) hx hb dX12_type_49 (by decide) (fun c111 => absurd c111 (by decide)) (fun c111 => ?_)
        refine lv_iconst (v := 2) hx hb dX12_type_52 (by decide) ?_
        refine lv_goto (tgt := 57) hx hb dX12_type_53 (by decide) ?_
        refine va_put (D := (dC, dI)) (ci := 15) (v := .int 2) (ty := .int) (C := RX12) (T := TX12) (N := 150) hx hb hts (in_z_X12_type_X12) tyX12 tyX12_ok nmX12 hown hK hP hD hS 0 rfl rfl 0 (by decide) (hts (.fieldLink RX12 388 "HeapWorksModel" "thrown" "I") (by decide +kernel)) (fun _ h9 => h9) rfl (by decide +kernel) rfl rfl (by rw [o_s106.2.1]; decide) dX12_type_57 (fun H locs hP hD hS => ?_)
        have hP : va_P (dC, dI) vwCl [(Ad0, .inr (15, (s106.set 0 (.int 2))))] H := hP
        have hD : va_D A [(Ad0, .inr (15, (s106.set 0 (.int 2))))] := hD
        have o_s112 := ow_set o_s106 0 (.int 2) (by decide) (l' := [(0, .int 2), (3, .int 0), (20, .int 0)]) (w' := [0]) rfl rfl
        generalize (s106.set 0 (.int 2)) = s112 at hP hD o_s112
        refine lv_aload_n hx hb dX12_type_60 rfl (lv_at hl 1 rfl) ?_
        refine va_get (D := (dC, dI)) (ci := 15) (v := .int 2) (C := RX12) (T := TX12) (N := 150) hx hb hts (in_z_X12_type_X12) hown hK hP 0 rfl rfl 0 (by decide) (hts (.fieldLink RX12 388 "HeapWorksModel" "thrown" "I") (by decide +kernel)) (fun _ h9 => h9) (ow_at o_s112 0 rfl) dX12_type_61 ?_
        refine lv_if_le (tgt := 69) hx hb dX12_type_64 (by decide) (fun c113 => absurd c113 (by decide)) (fun c113 => ?_)
        refine lv_iconst (v := 0) hx hb dX12_type_67 (by decide) ?_
        have hP9 := hP.sub (ws' := [(Ad0, .inr (15, s112))]) [0] rfl
        have hD9 := hD.sub (ws' := [(Ad0, .inr (15, s112))]) [0] (by decide) rfl
        have hK9 := hK.sub (tys' := []) [] rfl
        exact W.iret (v := 0) hx hb hr (fun t ht hW => ⟨⟨0, s112, rfl, (Or.inr (Or.inl ⟨c101, c102, c105, rfl, o_s112⟩)), by rw [ht]; exact hP9, va_K.moved hW.alike hK9, hD9⟩, hS.F ht⟩) hS.2.2 dX12_type_68
      · skip
        refine lv_iconst (v := 1) hx hb dX12_type_23 (by decide) ?_
        refine lv_goto (tgt := 28) hx hb dX12_type_24 (by decide) ?_
        refine va_put (D := (dC, dI)) (ci := 15) (v := .int 1) (ty := .int) (C := RX12) (T := TX12) (N := 150) hx hb hts (in_z_X12_type_X12) tyX12 tyX12_ok nmX12 hown hK hP hD hS 0 rfl rfl 0 (by decide) (hts (.fieldLink RX12 388 "HeapWorksModel" "thrown" "I") (by decide +kernel)) (fun _ h9 => h9) rfl (by decide +kernel) rfl rfl (by rw [o_Fs0.2.1]; decide) dX12_type_28 (fun H locs hP hD hS => ?_)
        have hP : va_P (dC, dI) vwCl [(Ad0, .inr (15, (Fs0.set 0 (.int 1))))] H := hP
        have hD : va_D A [(Ad0, .inr (15, (Fs0.set 0 (.int 1))))] := hD
        have o_s114 := ow_set o_Fs0 0 (.int 1) (by decide) (l' := [(0, .int 1), (3, .int 0), (20, .int 0)]) (w' := [0]) rfl rfl
        generalize (Fs0.set 0 (.int 1)) = s114 at hP hD o_s114
        refine lv_aload_n hx hb dX12_type_31 rfl (lv_at hl 0 rfl) ?_
        refine va_get (D := (dC, dI)) (ci := 15) (v := .int 1) (C := RX12) (T := TX12) (N := 150) hx hb hts (in_z_X12_type_X12) hown hK hP 0 rfl rfl 0 (by decide) (hts (.fieldLink RX12 388 "HeapWorksModel" "thrown" "I") (by decide +kernel)) (fun _ h9 => h9) (ow_at o_s114 0 rfl) dX12_type_32 ?_
        refine lv_if_le (tgt := 40) hx hb dX12_type_35 (by decide) (fun c115 => absurd c115 (by decide)) (fun c115 => ?_)
        refine lv_iconst (v := 0) hx hb dX12_type_38 (by decide) ?_
        have hP9 := hP.sub (ws' := [(Ad0, .inr (15, s114))]) [0] rfl
        have hD9 := hD.sub (ws' := [(Ad0, .inr (15, s114))]) [0] (by decide) rfl
        have hK9 := hK.sub (tys' := []) [] rfl
        exact W.iret (v := 0) hx hb hr (fun t ht hW => ⟨⟨0, s114, rfl, (Or.inr (Or.inr (Or.inl ⟨c101, c102, c105, rfl, o_s114⟩))), by rw [ht]; exact hP9, va_K.moved hW.alike hK9, hD9⟩, hS.F ht⟩) hS.2.2 dX12_type_39
  · skip
    refine lv_aload_n hx hb dX12_type_6 rfl (lv_at hl 0 rfl) ?_
    refine lv_iload_n hx hb dX12_type_7 rfl (lv_at hl 1 rfl) ?_
    have hPc := hP.sub (ws' := [(Ad0, .inr (15, Fs0))]) [0] rfl
    have hDc := hD.sub (ws' := [(Ad0, .inr (15, Fs0))]) [0] (by decide) rfl
    have hKc := hK.sub (tys' := []) [] rfl
    have hFc := va_free (wc := [(Ad0, .inr (15, Fs0))]) hD hS hA [0] rfl
    refine va_calli (va_runV (As := [.int Va0]) (rest := [.ref Ad0]) ⟨hx, hb, hml, hown, hts⟩ (z_X12_isClass l dC dI s.heap.size Ad0 Fs0 Va0 (fh_sub o_Fs0.2 [2] rfl) ) (cwV 1 hts g_z_X12_type_z_X12_isClass_416 rfl rfl rfl (by decide +kernel) ⟨Nat.le_of_ble_eq_true rfl, Nat.le_of_ble_eq_true rfl⟩) ⟨fun a U g mk q => by obtain ⟨q0, q1, qP, qK, qD⟩ := q; exact ⟨q0, q1, qP, va_K.moved (u := U) (U := U.calling g mk a) (Vm.Alike.refl U.vm) qK, qD⟩, va_recv hK hP (ci := 15) (q0 := 0) rfl rfl, fun U hU hW => ⟨rfl, by rw [hU], by rw [hU]; exact hPc, va_K.moved hW.alike hKc, hDc.weaken (fun _ _ _ _ => trivial)⟩⟩ rfl rfl hl.1 rfl (lv_room (Nat.le_of_ble_eq_true rfl)) dX12_type_8 ⟨Nat.le_of_ble_eq_true rfl, Nat.le_of_ble_eq_true rfl⟩) hS (fun q _ h => hFc q h) hFc (fun r116 u t H1 locs ht hvm hw hB hz1 hk1 hS => ?_)
    obtain ⟨hP1, hK1, hD1⟩ := hB
    rw [ht] at hP1
    try dsimp only at hw
    obtain ⟨hP, hD⟩ := va_join (wr := []) (w1 := [(Ad0, .inr (15, Fs0))]) hP hD [0] [] rfl rfl (by decide) (by decide) hk1 hFc hP1 hD1
    have hK := hK.sub (tys' := []) [] rfl
    generalize H1 = H at hP hS ⊢
    have hP : va_P (dC, dI) vwCl [(Ad0, .inr (15, Fs0))] H := hP
    have hD : va_D A [(Ad0, .inr (15, Fs0))] := hD
    rcases hw with ⟨c117, er118⟩ | ⟨c119, c120, er121⟩
    · skip
      subst er118
      refine lv_if_eq (tgt := 23) hx hb dX12_type_11 (by decide) (fun c122 => ?_) (fun c122 => absurd c122 (by decide))
      refine lv_iconst (v := 1) hx hb dX12_type_23 (by decide) ?_
      refine lv_goto (tgt := 28) hx hb dX12_type_24 (by decide) ?_
      refine va_put (D := (dC, dI)) (ci := 15) (v := .int 1) (ty := .int) (C := RX12) (T := TX12) (N := 150) hx hb hts (in_z_X12_type_X12) tyX12 tyX12_ok nmX12 hown hK hP hD hS 0 rfl rfl 0 (by decide) (hts (.fieldLink RX12 388 "HeapWorksModel" "thrown" "I") (by decide +kernel)) (fun _ h9 => h9) rfl (by decide +kernel) rfl rfl (by rw [o_Fs0.2.1]; decide) dX12_type_28 (fun H locs hP hD hS => ?_)
      have hP : va_P (dC, dI) vwCl [(Ad0, .inr (15, (Fs0.set 0 (.int 1))))] H := hP
      have hD : va_D A [(Ad0, .inr (15, (Fs0.set 0 (.int 1))))] := hD
      have o_s123 := ow_set o_Fs0 0 (.int 1) (by decide) (l' := [(0, .int 1), (3, .int 0), (20, .int 0)]) (w' := [0]) rfl rfl
      generalize (Fs0.set 0 (.int 1)) = s123 at hP hD o_s123
      refine lv_aload_n hx hb dX12_type_31 rfl (lv_at hl 0 rfl) ?_
      refine va_get (D := (dC, dI)) (ci := 15) (v := .int 1) (C := RX12) (T := TX12) (N := 150) hx hb hts (in_z_X12_type_X12) hown hK hP 0 rfl rfl 0 (by decide) (hts (.fieldLink RX12 388 "HeapWorksModel" "thrown" "I") (by decide +kernel)) (fun _ h9 => h9) (ow_at o_s123 0 rfl) dX12_type_32 ?_
      refine lv_if_le (tgt := 40) hx hb dX12_type_35 (by decide) (fun c124 => absurd c124 (by decide)) (fun c124 => ?_)
      refine lv_iconst (v := 0) hx hb dX12_type_38 (by decide) ?_
      have hP9 := hP.sub (ws' := [(Ad0, .inr (15, s123))]) [0] rfl
      have hD9 := hD.sub (ws' := [(Ad0, .inr (15, s123))]) [0] (by decide) rfl
      have hK9 := hK.sub (tys' := []) [] rfl
      exact W.iret (v := 0) hx hb hr (fun t ht hW => ⟨⟨0, s123, rfl, (Or.inr (Or.inr (Or.inr (Or.inl ⟨c101, c117, rfl, o_s123⟩)))), by rw [ht]; exact hP9, va_K.moved hW.alike hK9, hD9⟩, hS.F ht⟩) hS.2.2 dX12_type_39
    · skip
      subst er121
      refine lv_if_eq (tgt := 23) hx hb dX12_type_11 (by decide) (fun c125 => ?_) (fun c125 => absurd c125 (by decide))
      refine lv_iconst (v := 1) hx hb dX12_type_23 (by decide) ?_
      refine lv_goto (tgt := 28) hx hb dX12_type_24 (by decide) ?_
      refine va_put (D := (dC, dI)) (ci := 15) (v := .int 1) (ty := .int) (C := RX12) (T := TX12) (N := 150) hx hb hts (in_z_X12_type_X12) tyX12 tyX12_ok nmX12 hown hK hP hD hS 0 rfl rfl 0 (by decide) (hts (.fieldLink RX12 388 "HeapWorksModel" "thrown" "I") (by decide +kernel)) (fun _ h9 => h9) rfl (by decide +kernel) rfl rfl (by rw [o_Fs0.2.1]; decide) dX12_type_28 (fun H locs hP hD hS => ?_)
      have hP : va_P (dC, dI) vwCl [(Ad0, .inr (15, (Fs0.set 0 (.int 1))))] H := hP
      have hD : va_D A [(Ad0, .inr (15, (Fs0.set 0 (.int 1))))] := hD
      have o_s126 := ow_set o_Fs0 0 (.int 1) (by decide) (l' := [(0, .int 1), (3, .int 0), (20, .int 0)]) (w' := [0]) rfl rfl
      generalize (Fs0.set 0 (.int 1)) = s126 at hP hD o_s126
      refine lv_aload_n hx hb dX12_type_31 rfl (lv_at hl 0 rfl) ?_
      refine va_get (D := (dC, dI)) (ci := 15) (v := .int 1) (C := RX12) (T := TX12) (N := 150) hx hb hts (in_z_X12_type_X12) hown hK hP 0 rfl rfl 0 (by decide) (hts (.fieldLink RX12 388 "HeapWorksModel" "thrown" "I") (by decide +kernel)) (fun _ h9 => h9) (ow_at o_s126 0 rfl) dX12_type_32 ?_
      refine lv_if_le (tgt := 40) hx hb dX12_type_35 (by decide) (fun c127 => absurd c127 (by decide)) (fun c127 => ?_)
      refine lv_iconst (v := 0) hx hb dX12_type_38 (by decide) ?_
      have hP9 := hP.sub (ws' := [(Ad0, .inr (15, s126))]) [0] rfl
      have hD9 := hD.sub (ws' := [(Ad0, .inr (15, s126))]) [0] (by decide) rfl
      have hK9 := hK.sub (tys' := []) [] rfl
      exact W.iret (v := 0) hx hb hr (fun t ht hW => ⟨⟨0, s126, rfl, (Or.inr (Or.inr (Or.inr (Or.inr (⟨c101, c119, c120, rfl, o_s126⟩))))), by rw [ht]; exact hP9, va_K.moved hW.alike hK9, hD9⟩, hS.F ht⟩) hS.2.2 dX12_type_39

def l_z_X12_thrown : List Cond := [.fieldLink RX12 388 "HeapWorksModel" "thrown" "I"]
def w_z_X12_thrown : List Cond := .code yX12_thrown cX12_thrown 1 (some .int) :: (l_z_X12_thrown ++ (wsX120))
theorem in_z_X12_thrown_X12 : ∀ w ∈ wsX120, w ∈ w_z_X12_thrown := fun w h => List.mem_cons_of_mem _ (List.mem_append_right _ (h))
set_option maxHeartbeats 4000000 in
set_option maxRecDepth 100000 in
theorem z_X12_thrown (l : Launch) (dC : Nat → ClassId) (dI : Nat → Nat → Nat) (sz : Nat) (Ad0 : Nat) (Fs0 : List Value) (k_Fs0 : fh Fs0 150 [(0, .int 1)])  : Met l yX12_thrown w_z_X12_thrown ({ frames := 0, cells := 0, slots := 0, locals := 0 }) (va_Pc [.ref Ad0] (fun U => U.heap.size = sz ∧ Wd dC dI [] (fun _ => True) [(Ad0, .inr (15, Fs0))] U)) (va_Qi (fun (r : Int32) (u : Unit) => r = 1) (fun (u : Unit) t => Wd dC dI [] (va_A [(Ad0, .inr (15, Fs0))] sz) [(Ad0, .inr (15, Fs0))] t) (va_A [(Ad0, .inr (15, Fs0))] sz))  0 0 (va_A [(Ad0, .inr (15, Fs0))] sz) := by
  refine Met.ofW (cc := cX12_thrown) (maxL := 1) (ret := (some .int)) (by decide) rfl ?_
  intro p e s m args below meth c s₁ B hml hv
  obtain ⟨rfl, hsz, hP, hK, hD0⟩ := hv
  have hx := B.exec
  have hb := B.bytes
  have hr := B.returns
  have hts := atoms_spec (ws := w_z_X12_thrown) B.pre
  have hown : s.vm.findClass RX12 = some m.cls := findClass_of_methodNamed B.named
  have hlocks := B.notSynchronized
  subst hsz
  have hD := hD0.self (sz := s.heap.size)
  generalize hAe : va_A [(Ad0, .inr (15, Fs0))] s.heap.size = A at hD ⊢
  have hA : ∀ q : Nat, s.heap.size ≤ q → A q := fun q h => by rw [← hAe]; exact Or.inr h
  have hS : va_S A s.heap s.heap [] := va_S.rf
  have hl := lv_entry ([.ref Ad0]) (n := 1) (Nat.le_of_ble_eq_true rfl)
  rw [lg_entry_eq]
  generalize (lg_sl ([.ref Ad0]) ++ List.replicate (1 - (lg_sl ([.ref Ad0])).length) Slot.unset).toArray = ls at hl ⊢
  have hl : lv_has ls 1 [(0, .ref Ad0)] := hl
  have o_Fs0 := ow_0 k_Fs0
  refine lv_aload_n hx hb dX12_thrown_0 rfl (lv_at hl 0 rfl) ?_
  refine va_get (D := (dC, dI)) (ci := 15) (v := .int 1) (C := RX12) (T := TX12) (N := 150) hx hb hts (in_z_X12_thrown_X12) hown hK hP 0 rfl rfl 0 (by decide) (hts (.fieldLink RX12 388 "HeapWorksModel" "thrown" "I") (by decide +kernel)) (fun _ h9 => h9) (ow_at o_Fs0 0 rfl) dX12_thrown_1 ?_
  have hP9 := hP.sub (ws' := [(Ad0, .inr (15, Fs0))]) [0] rfl
  have hD9 := hD.sub (ws' := [(Ad0, .inr (15, Fs0))]) [0] (by decide) rfl
  have hK9 := hK.sub (tys' := []) [] rfl
  exact W.iret (v := 1) hx hb hr (fun t ht hW => ⟨⟨1, (), rfl, rfl, by rw [ht]; exact hP9, va_K.moved hW.alike hK9, hD9⟩, hS.F ht⟩) hS.2.2 dX12_thrown_4

def l_z_X12_thrown_1 : List Cond := [.fieldLink RX12 388 "HeapWorksModel" "thrown" "I"]
def w_z_X12_thrown_1 : List Cond := .code yX12_thrown cX12_thrown 1 (some .int) :: (l_z_X12_thrown_1 ++ (wsX120))
theorem in_z_X12_thrown_1_X12 : ∀ w ∈ wsX120, w ∈ w_z_X12_thrown_1 := fun w h => List.mem_cons_of_mem _ (List.mem_append_right _ (h))
set_option maxHeartbeats 4000000 in
set_option maxRecDepth 100000 in
theorem z_X12_thrown_1 (l : Launch) (dC : Nat → ClassId) (dI : Nat → Nat → Nat) (sz : Nat) (Ad0 : Nat) (Fs0 : List Value) (k_Fs0 : fh Fs0 150 [(0, .int 2)])  : Met l yX12_thrown w_z_X12_thrown_1 ({ frames := 0, cells := 0, slots := 0, locals := 0 }) (va_Pc [.ref Ad0] (fun U => U.heap.size = sz ∧ Wd dC dI [] (fun _ => True) [(Ad0, .inr (15, Fs0))] U)) (va_Qi (fun (r : Int32) (u : Unit) => r = 2) (fun (u : Unit) t => Wd dC dI [] (va_A [(Ad0, .inr (15, Fs0))] sz) [(Ad0, .inr (15, Fs0))] t) (va_A [(Ad0, .inr (15, Fs0))] sz))  0 0 (va_A [(Ad0, .inr (15, Fs0))] sz) := by
  refine Met.ofW (cc := cX12_thrown) (maxL := 1) (ret := (some .int)) (by decide) rfl ?_
  intro p e s m args below meth c s₁ B hml hv
  obtain ⟨rfl, hsz, hP, hK, hD0⟩ := hv
  have hx := B.exec
  have hb := B.bytes
  have hr := B.returns
  have hts := atoms_spec (ws := w_z_X12_thrown_1) B.pre
  have hown : s.vm.findClass RX12 = some m.cls := findClass_of_methodNamed B.named
  have hlocks := B.notSynchronized
  subst hsz
  have hD := hD0.self (sz := s.heap.size)
  generalize hAe : va_A [(Ad0, .inr (15, Fs0))] s.heap.size = A at hD ⊢
  have hA : ∀ q : Nat, s.heap.size ≤ q → A q := fun q h => by rw [← hAe]; exact Or.inr h
  have hS : va_S A s.heap s.heap [] := va_S.rf
  have hl := lv_entry ([.ref Ad0]) (n := 1) (Nat.le_of_ble_eq_true rfl)
  rw [lg_entry_eq]
  generalize (lg_sl ([.ref Ad0]) ++ List.replicate (1 - (lg_sl ([.ref Ad0])).length) Slot.unset).toArray = ls at hl ⊢
  have hl : lv_has ls 1 [(0, .ref Ad0)] := hl
  have o_Fs0 := ow_0 k_Fs0
  refine lv_aload_n hx hb dX12_thrown_0 rfl (lv_at hl 0 rfl) ?_
  refine va_get (D := (dC, dI)) (ci := 15) (v := .int 2) (C := RX12) (T := TX12) (N := 150) hx hb hts (in_z_X12_thrown_1_X12) hown hK hP 0 rfl rfl 0 (by decide) (hts (.fieldLink RX12 388 "HeapWorksModel" "thrown" "I") (by decide +kernel)) (fun _ h9 => h9) (ow_at o_Fs0 0 rfl) dX12_thrown_1 ?_
  have hP9 := hP.sub (ws' := [(Ad0, .inr (15, Fs0))]) [0] rfl
  have hD9 := hD.sub (ws' := [(Ad0, .inr (15, Fs0))]) [0] (by decide) rfl
  have hK9 := hK.sub (tys' := []) [] rfl
  exact W.iret (v := 2) hx hb hr (fun t ht hW => ⟨⟨2, (), rfl, rfl, by rw [ht]; exact hP9, va_K.moved hW.alike hK9, hD9⟩, hS.F ht⟩) hS.2.2 dX12_thrown_4

def l_z_X12_field : List Cond := [.methodLink RX12 416 yX12_isClass, .instanceMethod yX12_isClass, .selects RX12 yX12_isClass yX12_isClass, .initialized RX12, .fieldLink RX12 388 "HeapWorksModel" "thrown" "I", .code yX12_isClass cX12_isClass 2 (some .boolean), .fieldLink RX12 413 "HeapWorksModel" "classes" "I"]
def w_z_X12_field : List Cond := .code yX12_field cX12_field 9 (some .int) :: (l_z_X12_field ++ (wsX120))
theorem in_z_X12_field_X12 : ∀ w ∈ wsX120, w ∈ w_z_X12_field := fun w h => List.mem_cons_of_mem _ (List.mem_append_right _ (h))
theorem g_z_X12_field_z_X12_isClass_416 : GoodIn w_z_X12_field (wsV RX12 416 RX12 yX12_isClass w_z_X12_isClass) := goodIn_app (goodIn_r (([.methodLink RX12 416 yX12_isClass, .instanceMethod yX12_isClass, .selects RX12 yX12_isClass yX12_isClass, .initialized RX12] : List Cond)) [1, 2, 3, 4] rfl (by decide +kernel)) (goodIn_ca (goodIn_r (.code yX12_isClass cX12_isClass 2 (some .boolean) :: l_z_X12_isClass) [6, 7] rfl (by decide +kernel)) (goodIn_in (in_z_X12_field_X12) gd_X12))
set_option maxHeartbeats 4000000 in
set_option maxRecDepth 100000 in
theorem z_X12_field (l : Launch) (dC : Nat → ClassId) (dI : Nat → Nat → Nat) (sz : Nat) (Ad0 : Nat) (Fs0 : List Value) (Va0 : Int32) (Va1 : Int32) (Va2 : Int32) (k_Fs0 : fh Fs0 150 [(0, .int 0), (20, .int 0)])  : Met l yX12_field w_z_X12_field ({ frames := 1, cells := 0, slots := 0, locals := 21 }) (va_Pc [.ref Ad0, .int Va0, .int Va1, .int Va2, .int 0] (fun U => U.heap.size = sz ∧ Wd dC dI [] (fun _ => True) [(Ad0, .inr (15, Fs0))] U)) (va_Qi (fun (r : Int32) (u : List Value) => (Va0 < 0 ∧ r = 0 ∧ ow Fs0 (u) 150 [0] [(0, .int 1), (20, .int 0)]) ∨ (¬ Va0 < 0 ∧ 0 ≤ Va0 ∧ r = 0 ∧ ow Fs0 (u) 150 [0] [(0, .int 1), (20, .int 0)])) (fun (u : List Value) t => Wd dC dI [] (va_A [(Ad0, .inr (15, Fs0))] sz) [(Ad0, .inr (15, (u)))] t) (va_A [(Ad0, .inr (15, Fs0))] sz))  0 0 (va_A [(Ad0, .inr (15, Fs0))] sz) := by
  refine Met.ofW (cc := cX12_field) (maxL := 9) (ret := (some .int)) (by decide) rfl ?_
  intro p e s m args below meth c s₁ B hml hv
  obtain ⟨rfl, hsz, hP, hK, hD0⟩ := hv
  have hx := B.exec
  have hb := B.bytes
  have hr := B.returns
  have hts := atoms_spec (ws := w_z_X12_field) B.pre
  have hown : s.vm.findClass RX12 = some m.cls := findClass_of_methodNamed B.named
  have hlocks := B.notSynchronized
  subst hsz
  have hD := hD0.self (sz := s.heap.size)
  generalize hAe : va_A [(Ad0, .inr (15, Fs0))] s.heap.size = A at hD ⊢
  have hA : ∀ q : Nat, s.heap.size ≤ q → A q := fun q h => by rw [← hAe]; exact Or.inr h
  have hS : va_S A s.heap s.heap [] := va_S.rf
  have hl := lv_entry ([.ref Ad0, .int Va0, .int Va1, .int Va2, .int 0]) (n := 9) (Nat.le_of_ble_eq_true rfl)
  rw [lg_entry_eq]
  generalize (lg_sl ([.ref Ad0, .int Va0, .int Va1, .int Va2, .int 0]) ++ List.replicate (9 - (lg_sl ([.ref Ad0, .int Va0, .int Va1, .int Va2, .int 0])).length) Slot.unset).toArray = ls at hl ⊢
  have hl : lv_has ls 9 [(0, .ref Ad0), (1, .int Va0), (2, .int Va1), (3, .int Va2), (4, .int 0)] := hl
  have o_Fs0 := ow_0 k_Fs0
  refine lv_aload_n hx hb dX12_field_0 rfl (lv_at hl 0 rfl) ?_
  refine lv_aload_n hx hb dX12_field_1 rfl (lv_at hl 0 rfl) ?_
  refine lv_iload_n hx hb dX12_field_2 rfl (lv_at hl 1 rfl) ?_
  have hPc := hP.sub (ws' := [(Ad0, .inr (15, Fs0))]) [0] rfl
  have hDc := hD.sub (ws' := [(Ad0, .inr (15, Fs0))]) [0] (by decide) rfl
  have hKc := hK.sub (tys' := []) [] rfl
  have hFc := va_free (wc := [(Ad0, .inr (15, Fs0))]) hD hS hA [0] rfl
  refine va_calli (va_runV (As := [.int Va0]) (rest := [.ref Ad0]) ⟨hx, hb, hml, hown, hts⟩ (z_X12_isClass l dC dI s.heap.size Ad0 Fs0 Va0 (fh_sub o_Fs0.2 [1] rfl) ) (cwV 1 hts g_z_X12_field_z_X12_isClass_416 rfl rfl rfl (by decide +kernel) ⟨Nat.le_of_ble_eq_true rfl, Nat.le_of_ble_eq_true rfl⟩) ⟨fun a U g mk q => by obtain ⟨q0, q1, qP, qK, qD⟩ := q; exact ⟨q0, q1, qP, va_K.moved (u := U) (U := U.calling g mk a) (Vm.Alike.refl U.vm) qK, qD⟩, va_recv hK hP (ci := 15) (q0 := 0) rfl rfl, fun U hU hW => ⟨rfl, by rw [hU], by rw [hU]; exact hPc, va_K.moved hW.alike hKc, hDc.weaken (fun _ _ _ _ => trivial)⟩⟩ rfl rfl hl.1 rfl (lv_room (Nat.le_of_ble_eq_true rfl)) dX12_field_3 ⟨Nat.le_of_ble_eq_true rfl, Nat.le_of_ble_eq_true rfl⟩) hS (fun q _ h => hFc q h) hFc (fun r101 u t H1 locs ht hvm hw hB hz1 hk1 hS => ?_)
  obtain ⟨hP1, hK1, hD1⟩ := hB
  rw [ht] at hP1
  try dsimp only at hw
  obtain ⟨hP, hD⟩ := va_join (wr := []) (w1 := [(Ad0, .inr (15, Fs0))]) hP hD [0] [] rfl rfl (by decide) (by decide) hk1 hFc hP1 hD1
  have hK := hK.sub (tys' := []) [] rfl
  generalize H1 = H at hP hS ⊢
  have hP : va_P (dC, dI) vwCl [(Ad0, .inr (15, Fs0))] H := hP
  have hD : va_D A [(Ad0, .inr (15, Fs0))] := hD
  rcases hw with ⟨c102, er103⟩ | ⟨c104, c105, er106⟩
  · skip
    subst er103
    refine lv_if_eq (tgt := 13) hx hb dX12_field_6 (by decide) (fun c107 => ?_) (fun c107 => absurd c107 (by decide))
    refine lv_iconst (v := 1) hx hb dX12_field_13 (by decide) ?_
    refine va_put (D := (dC, dI)) (ci := 15) (v := .int 1) (ty := .int) (C := RX12) (T := TX12) (N := 150) hx hb hts (in_z_X12_field_X12) tyX12 tyX12_ok nmX12 hown hK hP hD hS 0 rfl rfl 0 (by decide) (hts (.fieldLink RX12 388 "HeapWorksModel" "thrown" "I") (by decide +kernel)) (fun _ h9 => h9) rfl (by decide +kernel) rfl rfl (by rw [o_Fs0.2.1]; decide) dX12_field_14 (fun H locs hP hD hS => ?_)
    have hP : va_P (dC, dI) vwCl [(Ad0, .inr (15, (Fs0.set 0 (.int 1))))] H := hP
    have hD : va_D A [(Ad0, .inr (15, (Fs0.set 0 (.int 1))))] := hD
    have o_s108 := ow_set o_Fs0 0 (.int 1) (by decide) (l' := [(0, .int 1), (20, .int 0)]) (w' := [0]) rfl rfl
    generalize (Fs0.set 0 (.int 1)) = s108 at hP hD o_s108
    refine lv_aload_n hx hb dX12_field_17 rfl (lv_at hl 0 rfl) ?_
    refine va_get (D := (dC, dI)) (ci := 15) (v := .int 1) (C := RX12) (T := TX12) (N := 150) hx hb hts (in_z_X12_field_X12) hown hK hP 0 rfl rfl 0 (by decide) (hts (.fieldLink RX12 388 "HeapWorksModel" "thrown" "I") (by decide +kernel)) (fun _ h9 => h9) (ow_at o_s108 0 rfl) dX12_field_18 ?_
    refine lv_if_le (tgt := 26) hx hb dX12_field_21 (by decide) (fun c109 => absurd c109 (by decide)) (fun c109 => ?_)
    refine lv_iconst (v := 0) hx hb dX12_field_24 (by decide) ?_
    have hP9 := hP.sub (ws' := [(Ad0, .inr (15, s108))]) [0] rfl
    have hD9 := hD.sub (ws' := [(Ad0, .inr (15, s108))]) [0] (by decide) rfl
    have hK9 := hK.sub (tys' := []) [] rfl
    exact W.iret (v := 0) hx hb hr (fun t ht hW => ⟨⟨0, s108, rfl, (Or.inl ⟨c102, rfl, o_s108⟩), by rw [ht]; exact hP9, va_K.moved hW.alike hK9, hD9⟩, hS.F ht⟩) hS.2.2 dX12_field_25
  · skip
    subst er106
    refine lv_if_eq (tgt := 13) hx hb dX12_field_6 (by decide) (fun c110 => ?_) (fun c110 => absurd c110 (by decide))
    refine lv_iconst (v := 1) hx hb dX12_field_13 (by decide) ?_
    refine va_put (D := (dC, dI)) (ci := 15) (v := .int 1) (ty := .int) (C := RX12) (T := TX12) (N := 150) hx hb hts (in_z_X12_field_X12) tyX12 tyX12_ok nmX12 hown hK hP hD hS 0 rfl rfl 0 (by decide) (hts (.fieldLink RX12 388 "HeapWorksModel" "thrown" "I") (by decide +kernel)) (fun _ h9 => h9) rfl (by decide +kernel) rfl rfl (by rw [o_Fs0.2.1]; decide) dX12_field_14 (fun H locs hP hD hS => ?_)
    have hP : va_P (dC, dI) vwCl [(Ad0, .inr (15, (Fs0.set 0 (.int 1))))] H := hP
    have hD : va_D A [(Ad0, .inr (15, (Fs0.set 0 (.int 1))))] := hD
    have o_s111 := ow_set o_Fs0 0 (.int 1) (by decide) (l' := [(0, .int 1), (20, .int 0)]) (w' := [0]) rfl rfl
    generalize (Fs0.set 0 (.int 1)) = s111 at hP hD o_s111
    refine lv_aload_n hx hb dX12_field_17 rfl (lv_at hl 0 rfl) ?_
    refine va_get (D := (dC, dI)) (ci := 15) (v := .int 1) (C := RX12) (T := TX12) (N := 150) hx hb hts (in_z_X12_field_X12) hown hK hP 0 rfl rfl 0 (by decide) (hts (.fieldLink RX12 388 "HeapWorksModel" "thrown" "I") (by decide +kernel)) (fun _ h9 => h9) (ow_at o_s111 0 rfl) dX12_field_18 ?_
    refine lv_if_le (tgt := 26) hx hb dX12_field_21 (by decide) (fun c112 => absurd c112 (by decide)) (fun c112 => ?_)
    refine lv_iconst (v := 0) hx hb dX12_field_24 (by decide) ?_
    have hP9 := hP.sub (ws' := [(Ad0, .inr (15, s111))]) [0] rfl
    have hD9 := hD.sub (ws' := [(Ad0, .inr (15, s111))]) [0] (by decide) rfl
    have hK9 := hK.sub (tys' := []) [] rfl
    exact W.iret (v := 0) hx hb hr (fun t ht hW => ⟨⟨0, s111, rfl, (Or.inr (⟨c104, c105, rfl, o_s111⟩)), by rw [ht]; exact hP9, va_K.moved hW.alike hK9, hD9⟩, hS.F ht⟩) hS.2.2 dX12_field_25

def l_z_X12_field_1 : List Cond := [.methodLink RX12 416 yX12_isClass, .instanceMethod yX12_isClass, .selects RX12 yX12_isClass yX12_isClass, .initialized RX12, .fieldLink RX12 388 "HeapWorksModel" "thrown" "I", .code yX12_isClass cX12_isClass 2 (some .boolean), .fieldLink RX12 413 "HeapWorksModel" "classes" "I"]
def w_z_X12_field_1 : List Cond := .code yX12_field cX12_field 9 (some .int) :: (l_z_X12_field_1 ++ (wsX120))
theorem in_z_X12_field_1_X12 : ∀ w ∈ wsX120, w ∈ w_z_X12_field_1 := fun w h => List.mem_cons_of_mem _ (List.mem_append_right _ (h))
theorem g_z_X12_field_1_z_X12_isClass_416 : GoodIn w_z_X12_field_1 (wsV RX12 416 RX12 yX12_isClass w_z_X12_isClass) := goodIn_app (goodIn_r (([.methodLink RX12 416 yX12_isClass, .instanceMethod yX12_isClass, .selects RX12 yX12_isClass yX12_isClass, .initialized RX12] : List Cond)) [1, 2, 3, 4] rfl (by decide +kernel)) (goodIn_ca (goodIn_r (.code yX12_isClass cX12_isClass 2 (some .boolean) :: l_z_X12_isClass) [6, 7] rfl (by decide +kernel)) (goodIn_in (in_z_X12_field_1_X12) gd_X12))
set_option maxHeartbeats 4000000 in
set_option maxRecDepth 100000 in
theorem z_X12_field_1 (l : Launch) (dC : Nat → ClassId) (dI : Nat → Nat → Nat) (sz : Nat) (Ad0 : Nat) (Fs0 : List Value) (Va0 : Int32) (Va1 : Int32) (Va2 : Int32) (k_Fs0 : fh Fs0 150 [(0, .int 0), (20, .int 0)])  : Met l yX12_field w_z_X12_field_1 ({ frames := 1, cells := 0, slots := 0, locals := 21 }) (va_Pc [.ref Ad0, .int Va0, .int Va1, .int Va2, .int 1] (fun U => U.heap.size = sz ∧ Wd dC dI [] (fun _ => True) [(Ad0, .inr (15, Fs0))] U)) (va_Qi (fun (r : Int32) (u : List Value) => (Va0 < 0 ∧ r = 0 ∧ ow Fs0 (u) 150 [0] [(0, .int 1), (20, .int 0)]) ∨ (¬ Va0 < 0 ∧ 0 ≤ Va0 ∧ r = 0 ∧ ow Fs0 (u) 150 [0] [(0, .int 1), (20, .int 0)])) (fun (u : List Value) t => Wd dC dI [] (va_A [(Ad0, .inr (15, Fs0))] sz) [(Ad0, .inr (15, (u)))] t) (va_A [(Ad0, .inr (15, Fs0))] sz))  0 0 (va_A [(Ad0, .inr (15, Fs0))] sz) := by
  refine Met.ofW (cc := cX12_field) (maxL := 9) (ret := (some .int)) (by decide) rfl ?_
  intro p e s m args below meth c s₁ B hml hv
  obtain ⟨rfl, hsz, hP, hK, hD0⟩ := hv
  have hx := B.exec
  have hb := B.bytes
  have hr := B.returns
  have hts := atoms_spec (ws := w_z_X12_field_1) B.pre
  have hown : s.vm.findClass RX12 = some m.cls := findClass_of_methodNamed B.named
  have hlocks := B.notSynchronized
  subst hsz
  have hD := hD0.self (sz := s.heap.size)
  generalize hAe : va_A [(Ad0, .inr (15, Fs0))] s.heap.size = A at hD ⊢
  have hA : ∀ q : Nat, s.heap.size ≤ q → A q := fun q h => by rw [← hAe]; exact Or.inr h
  have hS : va_S A s.heap s.heap [] := va_S.rf
  have hl := lv_entry ([.ref Ad0, .int Va0, .int Va1, .int Va2, .int 1]) (n := 9) (Nat.le_of_ble_eq_true rfl)
  rw [lg_entry_eq]
  generalize (lg_sl ([.ref Ad0, .int Va0, .int Va1, .int Va2, .int 1]) ++ List.replicate (9 - (lg_sl ([.ref Ad0, .int Va0, .int Va1, .int Va2, .int 1])).length) Slot.unset).toArray = ls at hl ⊢
  have hl : lv_has ls 9 [(0, .ref Ad0), (1, .int Va0), (2, .int Va1), (3, .int Va2), (4, .int 1)] := hl
  have o_Fs0 := ow_0 k_Fs0
  refine lv_aload_n hx hb dX12_field_0 rfl (lv_at hl 0 rfl) ?_
  refine lv_aload_n hx hb dX12_field_1 rfl (lv_at hl 0 rfl) ?_
  refine lv_iload_n hx hb dX12_field_2 rfl (lv_at hl 1 rfl) ?_
  have hPc := hP.sub (ws' := [(Ad0, .inr (15, Fs0))]) [0] rfl
  have hDc := hD.sub (ws' := [(Ad0, .inr (15, Fs0))]) [0] (by decide) rfl
  have hKc := hK.sub (tys' := []) [] rfl
  have hFc := va_free (wc := [(Ad0, .inr (15, Fs0))]) hD hS hA [0] rfl
  refine va_calli (va_runV (As := [.int Va0]) (rest := [.ref Ad0]) ⟨hx, hb, hml, hown, hts⟩ (z_X12_isClass l dC dI s.heap.size Ad0 Fs0 Va0 (fh_sub o_Fs0.2 [1] rfl) ) (cwV 1 hts g_z_X12_field_1_z_X12_isClass_416 rfl rfl rfl (by decide +kernel) ⟨Nat.le_of_ble_eq_true rfl, Nat.le_of_ble_eq_true rfl⟩) ⟨fun a U g mk q => by obtain ⟨q0, q1, qP, qK, qD⟩ := q; exact ⟨q0, q1, qP, va_K.moved (u := U) (U := U.calling g mk a) (Vm.Alike.refl U.vm) qK, qD⟩, va_recv hK hP (ci := 15) (q0 := 0) rfl rfl, fun U hU hW => ⟨rfl, by rw [hU], by rw [hU]; exact hPc, va_K.moved hW.alike hKc, hDc.weaken (fun _ _ _ _ => trivial)⟩⟩ rfl rfl hl.1 rfl (lv_room (Nat.le_of_ble_eq_true rfl)) dX12_field_3 ⟨Nat.le_of_ble_eq_true rfl, Nat.le_of_ble_eq_true rfl⟩) hS (fun q _ h => hFc q h) hFc (fun r101 u t H1 locs ht hvm hw hB hz1 hk1 hS => ?_)
  obtain ⟨hP1, hK1, hD1⟩ := hB
  rw [ht] at hP1
  try dsimp only at hw
  obtain ⟨hP, hD⟩ := va_join (wr := []) (w1 := [(Ad0, .inr (15, Fs0))]) hP hD [0] [] rfl rfl (by decide) (by decide) hk1 hFc hP1 hD1
  have hK := hK.sub (tys' := []) [] rfl
  generalize H1 = H at hP hS ⊢
  have hP : va_P (dC, dI) vwCl [(Ad0, .inr (15, Fs0))] H := hP
  have hD : va_D A [(Ad0, .inr (15, Fs0))] := hD
  rcases hw with ⟨c102, er103⟩ | ⟨c104, c105, er106⟩
  · skip
    subst er103
    refine lv_if_eq (tgt := 13) hx hb dX12_field_6 (by decide) (fun c107 => ?_) (fun c107 => absurd c107 (by decide))
    refine lv_iconst (v := 1) hx hb dX12_field_13 (by decide) ?_
    refine va_put (D := (dC, dI)) (ci := 15) (v := .int 1) (ty := .int) (C := RX12) (T := TX12) (N := 150) hx hb hts (in_z_X12_field_1_X12) tyX12 tyX12_ok nmX12 hown hK hP hD hS 0 rfl rfl 0 (by decide) (hts (.fieldLink RX12 388 "HeapWorksModel" "thrown" "I") (by decide +kernel)) (fun _ h9 => h9) rfl (by decide +kernel) rfl rfl (by rw [o_Fs0.2.1]; decide) dX12_field_14 (fun H locs hP hD hS => ?_)
    have hP : va_P (dC, dI) vwCl [(Ad0, .inr (15, (Fs0.set 0 (.int 1))))] H := hP
    have hD : va_D A [(Ad0, .inr (15, (Fs0.set 0 (.int 1))))] := hD
    have o_s108 := ow_set o_Fs0 0 (.int 1) (by decide) (l' := [(0, .int 1), (20, .int 0)]) (w' := [0]) rfl rfl
    generalize (Fs0.set 0 (.int 1)) = s108 at hP hD o_s108
    refine lv_aload_n hx hb dX12_field_17 rfl (lv_at hl 0 rfl) ?_
    refine va_get (D := (dC, dI)) (ci := 15) (v := .int 1) (C := RX12) (T := TX12) (N := 150) hx hb hts (in_z_X12_field_1_X12) hown hK hP 0 rfl rfl 0 (by decide) (hts (.fieldLink RX12 388 "HeapWorksModel" "thrown" "I") (by decide +kernel)) (fun _ h9 => h9) (ow_at o_s108 0 rfl) dX12_field_18 ?_
    refine lv_if_le (tgt := 26) hx hb dX12_field_21 (by decide) (fun c109 => absurd c109 (by decide)) (fun c109 => ?_)
    refine lv_iconst (v := 0) hx hb dX12_field_24 (by decide) ?_
    have hP9 := hP.sub (ws' := [(Ad0, .inr (15, s108))]) [0] rfl
    have hD9 := hD.sub (ws' := [(Ad0, .inr (15, s108))]) [0] (by decide) rfl
    have hK9 := hK.sub (tys' := []) [] rfl
    exact W.iret (v := 0) hx hb hr (fun t ht hW => ⟨⟨0, s108, rfl, (Or.inl ⟨c102, rfl, o_s108⟩), by rw [ht]; exact hP9, va_K.moved hW.alike hK9, hD9⟩, hS.F ht⟩) hS.2.2 dX12_field_25
  · skip
    subst er106
    refine lv_if_eq (tgt := 13) hx hb dX12_field_6 (by decide) (fun c110 => ?_) (fun c110 => absurd c110 (by decide))
    refine lv_iconst (v := 1) hx hb dX12_field_13 (by decide) ?_
    refine va_put (D := (dC, dI)) (ci := 15) (v := .int 1) (ty := .int) (C := RX12) (T := TX12) (N := 150) hx hb hts (in_z_X12_field_1_X12) tyX12 tyX12_ok nmX12 hown hK hP hD hS 0 rfl rfl 0 (by decide) (hts (.fieldLink RX12 388 "HeapWorksModel" "thrown" "I") (by decide +kernel)) (fun _ h9 => h9) rfl (by decide +kernel) rfl rfl (by rw [o_Fs0.2.1]; decide) dX12_field_14 (fun H locs hP hD hS => ?_)
    have hP : va_P (dC, dI) vwCl [(Ad0, .inr (15, (Fs0.set 0 (.int 1))))] H := hP
    have hD : va_D A [(Ad0, .inr (15, (Fs0.set 0 (.int 1))))] := hD
    have o_s111 := ow_set o_Fs0 0 (.int 1) (by decide) (l' := [(0, .int 1), (20, .int 0)]) (w' := [0]) rfl rfl
    generalize (Fs0.set 0 (.int 1)) = s111 at hP hD o_s111
    refine lv_aload_n hx hb dX12_field_17 rfl (lv_at hl 0 rfl) ?_
    refine va_get (D := (dC, dI)) (ci := 15) (v := .int 1) (C := RX12) (T := TX12) (N := 150) hx hb hts (in_z_X12_field_1_X12) hown hK hP 0 rfl rfl 0 (by decide) (hts (.fieldLink RX12 388 "HeapWorksModel" "thrown" "I") (by decide +kernel)) (fun _ h9 => h9) (ow_at o_s111 0 rfl) dX12_field_18 ?_
    refine lv_if_le (tgt := 26) hx hb dX12_field_21 (by decide) (fun c112 => absurd c112 (by decide)) (fun c112 => ?_)
    refine lv_iconst (v := 0) hx hb dX12_field_24 (by decide) ?_
    have hP9 := hP.sub (ws' := [(Ad0, .inr (15, s111))]) [0] rfl
    have hD9 := hD.sub (ws' := [(Ad0, .inr (15, s111))]) [0] (by decide) rfl
    have hK9 := hK.sub (tys' := []) [] rfl
    exact W.iret (v := 0) hx hb hr (fun t ht hW => ⟨⟨0, s111, rfl, (Or.inr (⟨c104, c105, rfl, o_s111⟩)), by rw [ht]; exact hP9, va_K.moved hW.alike hK9, hD9⟩, hS.F ht⟩) hS.2.2 dX12_field_25

def l_z_X12_typeLook : List Cond := [.fieldLink RX12 388 "HeapWorksModel" "thrown" "I", .methodLink RX12 416 yX12_isClass, .instanceMethod yX12_isClass, .selects RX12 yX12_isClass yX12_isClass, .initialized RX12, .code yX12_isClass cX12_isClass 2 (some .boolean), .fieldLink RX12 413 "HeapWorksModel" "classes" "I"]
def w_z_X12_typeLook : List Cond := .code yX12_typeLook cX12_typeLook 6 (some .int) :: (l_z_X12_typeLook ++ (wsX120))
theorem in_z_X12_typeLook_X12 : ∀ w ∈ wsX120, w ∈ w_z_X12_typeLook := fun w h => List.mem_cons_of_mem _ (List.mem_append_right _ (h))
theorem g_z_X12_typeLook_z_X12_isClass_416 : GoodIn w_z_X12_typeLook (wsV RX12 416 RX12 yX12_isClass w_z_X12_isClass) := goodIn_app (goodIn_r (([.methodLink RX12 416 yX12_isClass, .instanceMethod yX12_isClass, .selects RX12 yX12_isClass yX12_isClass, .initialized RX12] : List Cond)) [2, 3, 4, 5] rfl (by decide +kernel)) (goodIn_ca (goodIn_r (.code yX12_isClass cX12_isClass 2 (some .boolean) :: l_z_X12_isClass) [6, 7] rfl (by decide +kernel)) (goodIn_in (in_z_X12_typeLook_X12) gd_X12))
set_option maxHeartbeats 4000000 in
set_option maxRecDepth 100000 in
theorem z_X12_typeLook (l : Launch) (dC : Nat → ClassId) (dI : Nat → Nat → Nat) (sz : Nat) (Ad0 : Nat) (Fs0 : List Value) (Va0 : Int32) (Va1 : Int32) (k_Fs0 : fh Fs0 150 [(20, .int 0)])  : Met l yX12_typeLook w_z_X12_typeLook ({ frames := 1, cells := 0, slots := 0, locals := 21 }) (va_Pc [.ref Ad0, .int Va0, .int Va1] (fun U => U.heap.size = sz ∧ Wd dC dI [] (fun _ => True) [(Ad0, .inr (15, Fs0))] U)) (va_Qi (fun (r : Int32) (u : List Value) => (Va0 < 0 ∧ r = (-1) ∧ ow Fs0 (u) 150 [0] [(0, .int 0), (20, .int 0)]) ∨ (¬ Va0 < 0 ∧ 0 ≤ Va0 ∧ r = (-1) ∧ ow Fs0 (u) 150 [0] [(0, .int 0), (20, .int 0)])) (fun (u : List Value) t => Wd dC dI [] (va_A [(Ad0, .inr (15, Fs0))] sz) [(Ad0, .inr (15, (u)))] t) (va_A [(Ad0, .inr (15, Fs0))] sz))  0 0 (va_A [(Ad0, .inr (15, Fs0))] sz) := by
  refine Met.ofW (cc := cX12_typeLook) (maxL := 6) (ret := (some .int)) (by decide) rfl ?_
  intro p e s m args below meth c s₁ B hml hv
  obtain ⟨rfl, hsz, hP, hK, hD0⟩ := hv
  have hx := B.exec
  have hb := B.bytes
  have hr := B.returns
  have hts := atoms_spec (ws := w_z_X12_typeLook) B.pre
  have hown : s.vm.findClass RX12 = some m.cls := findClass_of_methodNamed B.named
  have hlocks := B.notSynchronized
  subst hsz
  have hD := hD0.self (sz := s.heap.size)
  generalize hAe : va_A [(Ad0, .inr (15, Fs0))] s.heap.size = A at hD ⊢
  have hA : ∀ q : Nat, s.heap.size ≤ q → A q := fun q h => by rw [← hAe]; exact Or.inr h
  have hS : va_S A s.heap s.heap [] := va_S.rf
  have hl := lv_entry ([.ref Ad0, .int Va0, .int Va1]) (n := 6) (Nat.le_of_ble_eq_true rfl)
  rw [lg_entry_eq]
  generalize (lg_sl ([.ref Ad0, .int Va0, .int Va1]) ++ List.replicate (6 - (lg_sl ([.ref Ad0, .int Va0, .int Va1])).length) Slot.unset).toArray = ls at hl ⊢
  have hl : lv_has ls 6 [(0, .ref Ad0), (1, .int Va0), (2, .int Va1)] := hl
  have o_Fs0 := ow_0 k_Fs0
  refine lv_aload_n hx hb dX12_typeLook_0 rfl (lv_at hl 0 rfl) ?_
  refine lv_iconst (v := 0) hx hb dX12_typeLook_1 (by decide) ?_
  refine va_put (D := (dC, dI)) (ci := 15) (v := .int 0) (ty := .int) (C := RX12) (T := TX12) (N := 150) hx hb hts (in_z_X12_typeLook_X12) tyX12 tyX12_ok nmX12 hown hK hP hD hS 0 rfl rfl 0 (by decide) (hts (.fieldLink RX12 388 "HeapWorksModel" "thrown" "I") (by decide +kernel)) (fun _ h9 => h9) rfl (by decide +kernel) rfl rfl (by rw [o_Fs0.2.1]; decide) dX12_typeLook_2 (fun H locs hP hD hS => ?_)
  have hP : va_P (dC, dI) vwCl [(Ad0, .inr (15, (Fs0.set 0 (.int 0))))] H := hP
  have hD : va_D A [(Ad0, .inr (15, (Fs0.set 0 (.int 0))))] := hD
  have o_s101 := ow_set o_Fs0 0 (.int 0) (by decide) (l' := [(0, .int 0), (20, .int 0)]) (w' := [0]) rfl rfl
  generalize (Fs0.set 0 (.int 0)) = s101 at hP hD o_s101
  refine lv_aload_n hx hb dX12_typeLook_5 rfl (lv_at hl 0 rfl) ?_
  refine lv_iload_n hx hb dX12_typeLook_6 rfl (lv_at hl 1 rfl) ?_
  have hPc := hP.sub (ws' := [(Ad0, .inr (15, s101))]) [0] rfl
  have hDc := hD.sub (ws' := [(Ad0, .inr (15, s101))]) [0] (by decide) rfl
  have hKc := hK.sub (tys' := []) [] rfl
  have hFc := va_free (wc := [(Ad0, .inr (15, s101))]) hD hS hA [0] rfl
  refine va_calli (va_runV (As := [.int Va0]) (rest := []) ⟨hx, hb, hml, hown, hts⟩ (z_X12_isClass l dC dI H.size Ad0 s101 Va0 (fh_sub o_s101.2 [1] rfl) ) (cwV 1 hts g_z_X12_typeLook_z_X12_isClass_416 rfl rfl rfl (by decide +kernel) ⟨Nat.le_of_ble_eq_true rfl, Nat.le_of_ble_eq_true rfl⟩) ⟨fun a U g mk q => by obtain ⟨q0, q1, qP, qK, qD⟩ := q; exact ⟨q0, q1, qP, va_K.moved (u := U) (U := U.calling g mk a) (Vm.Alike.refl U.vm) qK, qD⟩, va_recv hK hP (ci := 15) (q0 := 0) rfl rfl, fun U hU hW => ⟨rfl, by rw [hU], by rw [hU]; exact hPc, va_K.moved hW.alike hKc, hDc.weaken (fun _ _ _ _ => trivial)⟩⟩ rfl rfl hl.1 rfl (lv_room (Nat.le_of_ble_eq_true rfl)) dX12_typeLook_7 ⟨Nat.le_of_ble_eq_true rfl, Nat.le_of_ble_eq_true rfl⟩) hS (fun q _ h => hFc q h) hFc (fun r102 u t H1 locs ht hvm hw hB hz1 hk1 hS => ?_)
  obtain ⟨hP1, hK1, hD1⟩ := hB
  rw [ht] at hP1
  try dsimp only at hw
  obtain ⟨hP, hD⟩ := va_join (wr := []) (w1 := [(Ad0, .inr (15, s101))]) hP hD [0] [] rfl rfl (by decide) (by decide) hk1 hFc hP1 hD1
  have hK := hK.sub (tys' := []) [] rfl
  generalize H1 = H at hP hS ⊢
  have hP : va_P (dC, dI) vwCl [(Ad0, .inr (15, s101))] H := hP
  have hD : va_D A [(Ad0, .inr (15, s101))] := hD
  rcases hw with ⟨c103, er104⟩ | ⟨c105, c106, er107⟩
  · skip
    subst er104
    refine lv_if_ne (tgt := 15) hx hb dX12_typeLook_10 (by decide) (fun c108 => absurd c108 (by decide)) (fun c108 => ?_)
    refine lv_iconst (v := (-1)) hx hb dX12_typeLook_13 (by decide) ?_
    have hP9 := hP.sub (ws' := [(Ad0, .inr (15, s101))]) [0] rfl
    have hD9 := hD.sub (ws' := [(Ad0, .inr (15, s101))]) [0] (by decide) rfl
    have hK9 := hK.sub (tys' := []) [] rfl
    exact W.iret (v := (-1)) hx hb hr (fun t ht hW => ⟨⟨(-1), s101, rfl, (Or.inl ⟨c103, rfl, o_s101⟩), by rw [ht]; exact hP9, va_K.moved hW.alike hK9, hD9⟩, hS.F ht⟩) hS.2.2 dX12_typeLook_14
  · skip
    subst er107
    refine lv_if_ne (tgt := 15) hx hb dX12_typeLook_10 (by decide) (fun c109 => absurd c109 (by decide)) (fun c109 => ?_)
    refine lv_iconst (v := (-1)) hx hb dX12_typeLook_13 (by decide) ?_
    have hP9 := hP.sub (ws' := [(Ad0, .inr (15, s101))]) [0] rfl
    have hD9 := hD.sub (ws' := [(Ad0, .inr (15, s101))]) [0] (by decide) rfl
    have hK9 := hK.sub (tys' := []) [] rfl
    exact W.iret (v := (-1)) hx hb hr (fun t ht hW => ⟨⟨(-1), s101, rfl, (Or.inr (⟨c105, c106, rfl, o_s101⟩)), by rw [ht]; exact hP9, va_K.moved hW.alike hK9, hD9⟩, hS.F ht⟩) hS.2.2 dX12_typeLook_14

def l_z_X12_fieldLook : List Cond := [.fieldLink RX12 388 "HeapWorksModel" "thrown" "I", .methodLink RX12 416 yX12_isClass, .instanceMethod yX12_isClass, .selects RX12 yX12_isClass yX12_isClass, .initialized RX12, .code yX12_isClass cX12_isClass 2 (some .boolean), .fieldLink RX12 413 "HeapWorksModel" "classes" "I"]
def w_z_X12_fieldLook : List Cond := .code yX12_fieldLook cX12_fieldLook 5 (some .int) :: (l_z_X12_fieldLook ++ (wsX120))
theorem in_z_X12_fieldLook_X12 : ∀ w ∈ wsX120, w ∈ w_z_X12_fieldLook := fun w h => List.mem_cons_of_mem _ (List.mem_append_right _ (h))
theorem g_z_X12_fieldLook_z_X12_isClass_416 : GoodIn w_z_X12_fieldLook (wsV RX12 416 RX12 yX12_isClass w_z_X12_isClass) := goodIn_app (goodIn_r (([.methodLink RX12 416 yX12_isClass, .instanceMethod yX12_isClass, .selects RX12 yX12_isClass yX12_isClass, .initialized RX12] : List Cond)) [2, 3, 4, 5] rfl (by decide +kernel)) (goodIn_ca (goodIn_r (.code yX12_isClass cX12_isClass 2 (some .boolean) :: l_z_X12_isClass) [6, 7] rfl (by decide +kernel)) (goodIn_in (in_z_X12_fieldLook_X12) gd_X12))
set_option maxHeartbeats 4000000 in
set_option maxRecDepth 100000 in
theorem z_X12_fieldLook (l : Launch) (dC : Nat → ClassId) (dI : Nat → Nat → Nat) (sz : Nat) (Ad0 : Nat) (Fs0 : List Value) (Va0 : Int32) (Va1 : Int32) (Va2 : Int32) (k_Fs0 : fh Fs0 150 [(20, .int 0)])  : Met l yX12_fieldLook w_z_X12_fieldLook ({ frames := 1, cells := 0, slots := 0, locals := 21 }) (va_Pc [.ref Ad0, .int Va0, .int Va1, .int Va2] (fun U => U.heap.size = sz ∧ Wd dC dI [] (fun _ => True) [(Ad0, .inr (15, Fs0))] U)) (va_Qi (fun (r : Int32) (u : List Value) => (Va0 < 0 ∧ r = (-1) ∧ ow Fs0 (u) 150 [0] [(0, .int 0), (20, .int 0)]) ∨ (¬ Va0 < 0 ∧ 0 ≤ Va0 ∧ r = (-1) ∧ ow Fs0 (u) 150 [0] [(0, .int 0), (20, .int 0)])) (fun (u : List Value) t => Wd dC dI [] (va_A [(Ad0, .inr (15, Fs0))] sz) [(Ad0, .inr (15, (u)))] t) (va_A [(Ad0, .inr (15, Fs0))] sz))  0 0 (va_A [(Ad0, .inr (15, Fs0))] sz) := by
  refine Met.ofW (cc := cX12_fieldLook) (maxL := 5) (ret := (some .int)) (by decide) rfl ?_
  intro p e s m args below meth c s₁ B hml hv
  obtain ⟨rfl, hsz, hP, hK, hD0⟩ := hv
  have hx := B.exec
  have hb := B.bytes
  have hr := B.returns
  have hts := atoms_spec (ws := w_z_X12_fieldLook) B.pre
  have hown : s.vm.findClass RX12 = some m.cls := findClass_of_methodNamed B.named
  have hlocks := B.notSynchronized
  subst hsz
  have hD := hD0.self (sz := s.heap.size)
  generalize hAe : va_A [(Ad0, .inr (15, Fs0))] s.heap.size = A at hD ⊢
  have hA : ∀ q : Nat, s.heap.size ≤ q → A q := fun q h => by rw [← hAe]; exact Or.inr h
  have hS : va_S A s.heap s.heap [] := va_S.rf
  have hl := lv_entry ([.ref Ad0, .int Va0, .int Va1, .int Va2]) (n := 5) (Nat.le_of_ble_eq_true rfl)
  rw [lg_entry_eq]
  generalize (lg_sl ([.ref Ad0, .int Va0, .int Va1, .int Va2]) ++ List.replicate (5 - (lg_sl ([.ref Ad0, .int Va0, .int Va1, .int Va2])).length) Slot.unset).toArray = ls at hl ⊢
  have hl : lv_has ls 5 [(0, .ref Ad0), (1, .int Va0), (2, .int Va1), (3, .int Va2)] := hl
  have o_Fs0 := ow_0 k_Fs0
  refine lv_aload_n hx hb dX12_fieldLook_0 rfl (lv_at hl 0 rfl) ?_
  refine lv_iconst (v := 0) hx hb dX12_fieldLook_1 (by decide) ?_
  refine va_put (D := (dC, dI)) (ci := 15) (v := .int 0) (ty := .int) (C := RX12) (T := TX12) (N := 150) hx hb hts (in_z_X12_fieldLook_X12) tyX12 tyX12_ok nmX12 hown hK hP hD hS 0 rfl rfl 0 (by decide) (hts (.fieldLink RX12 388 "HeapWorksModel" "thrown" "I") (by decide +kernel)) (fun _ h9 => h9) rfl (by decide +kernel) rfl rfl (by rw [o_Fs0.2.1]; decide) dX12_fieldLook_2 (fun H locs hP hD hS => ?_)
  have hP : va_P (dC, dI) vwCl [(Ad0, .inr (15, (Fs0.set 0 (.int 0))))] H := hP
  have hD : va_D A [(Ad0, .inr (15, (Fs0.set 0 (.int 0))))] := hD
  have o_s101 := ow_set o_Fs0 0 (.int 0) (by decide) (l' := [(0, .int 0), (20, .int 0)]) (w' := [0]) rfl rfl
  generalize (Fs0.set 0 (.int 0)) = s101 at hP hD o_s101
  refine lv_aload_n hx hb dX12_fieldLook_5 rfl (lv_at hl 0 rfl) ?_
  refine lv_iload_n hx hb dX12_fieldLook_6 rfl (lv_at hl 1 rfl) ?_
  have hPc := hP.sub (ws' := [(Ad0, .inr (15, s101))]) [0] rfl
  have hDc := hD.sub (ws' := [(Ad0, .inr (15, s101))]) [0] (by decide) rfl
  have hKc := hK.sub (tys' := []) [] rfl
  have hFc := va_free (wc := [(Ad0, .inr (15, s101))]) hD hS hA [0] rfl
  refine va_calli (va_runV (As := [.int Va0]) (rest := []) ⟨hx, hb, hml, hown, hts⟩ (z_X12_isClass l dC dI H.size Ad0 s101 Va0 (fh_sub o_s101.2 [1] rfl) ) (cwV 1 hts g_z_X12_fieldLook_z_X12_isClass_416 rfl rfl rfl (by decide +kernel) ⟨Nat.le_of_ble_eq_true rfl, Nat.le_of_ble_eq_true rfl⟩) ⟨fun a U g mk q => by obtain ⟨q0, q1, qP, qK, qD⟩ := q; exact ⟨q0, q1, qP, va_K.moved (u := U) (U := U.calling g mk a) (Vm.Alike.refl U.vm) qK, qD⟩, va_recv hK hP (ci := 15) (q0 := 0) rfl rfl, fun U hU hW => ⟨rfl, by rw [hU], by rw [hU]; exact hPc, va_K.moved hW.alike hKc, hDc.weaken (fun _ _ _ _ => trivial)⟩⟩ rfl rfl hl.1 rfl (lv_room (Nat.le_of_ble_eq_true rfl)) dX12_fieldLook_7 ⟨Nat.le_of_ble_eq_true rfl, Nat.le_of_ble_eq_true rfl⟩) hS (fun q _ h => hFc q h) hFc (fun r102 u t H1 locs ht hvm hw hB hz1 hk1 hS => ?_)
  obtain ⟨hP1, hK1, hD1⟩ := hB
  rw [ht] at hP1
  try dsimp only at hw
  obtain ⟨hP, hD⟩ := va_join (wr := []) (w1 := [(Ad0, .inr (15, s101))]) hP hD [0] [] rfl rfl (by decide) (by decide) hk1 hFc hP1 hD1
  have hK := hK.sub (tys' := []) [] rfl
  generalize H1 = H at hP hS ⊢
  have hP : va_P (dC, dI) vwCl [(Ad0, .inr (15, s101))] H := hP
  have hD : va_D A [(Ad0, .inr (15, s101))] := hD
  rcases hw with ⟨c103, er104⟩ | ⟨c105, c106, er107⟩
  · skip
    subst er104
    refine lv_if_eq (tgt := 27) hx hb dX12_fieldLook_10 (by decide) (fun c108 => ?_) (fun c108 => absurd c108 (by decide))
    refine lv_iconst (v := (-1)) hx hb dX12_fieldLook_27 (by decide) ?_
    have hP9 := hP.sub (ws' := [(Ad0, .inr (15, s101))]) [0] rfl
    have hD9 := hD.sub (ws' := [(Ad0, .inr (15, s101))]) [0] (by decide) rfl
    have hK9 := hK.sub (tys' := []) [] rfl
    exact W.iret (v := (-1)) hx hb hr (fun t ht hW => ⟨⟨(-1), s101, rfl, (Or.inl ⟨c103, rfl, o_s101⟩), by rw [ht]; exact hP9, va_K.moved hW.alike hK9, hD9⟩, hS.F ht⟩) hS.2.2 dX12_fieldLook_28
  · skip
    subst er107
    refine lv_if_eq (tgt := 27) hx hb dX12_fieldLook_10 (by decide) (fun c109 => ?_) (fun c109 => absurd c109 (by decide))
    refine lv_iconst (v := (-1)) hx hb dX12_fieldLook_27 (by decide) ?_
    have hP9 := hP.sub (ws' := [(Ad0, .inr (15, s101))]) [0] rfl
    have hD9 := hD.sub (ws' := [(Ad0, .inr (15, s101))]) [0] (by decide) rfl
    have hK9 := hK.sub (tys' := []) [] rfl
    exact W.iret (v := (-1)) hx hb hr (fun t ht hW => ⟨⟨(-1), s101, rfl, (Or.inr (⟨c105, c106, rfl, o_s101⟩)), by rw [ht]; exact hP9, va_K.moved hW.alike hK9, hD9⟩, hS.F ht⟩) hS.2.2 dX12_fieldLook_28

def l_z_X12_isArrayType : List Cond := [.methodLink RX12 416 yX12_isClass, .instanceMethod yX12_isClass, .selects RX12 yX12_isClass yX12_isClass, .initialized RX12, .code yX12_isClass cX12_isClass 2 (some .boolean), .fieldLink RX12 413 "HeapWorksModel" "classes" "I"]
def w_z_X12_isArrayType : List Cond := .code yX12_isArrayType cX12_isArrayType 2 (some .boolean) :: (l_z_X12_isArrayType ++ (wsX120))
theorem in_z_X12_isArrayType_X12 : ∀ w ∈ wsX120, w ∈ w_z_X12_isArrayType := fun w h => List.mem_cons_of_mem _ (List.mem_append_right _ (h))
theorem g_z_X12_isArrayType_z_X12_isClass_416 : GoodIn w_z_X12_isArrayType (wsV RX12 416 RX12 yX12_isClass w_z_X12_isClass) := goodIn_app (goodIn_r (([.methodLink RX12 416 yX12_isClass, .instanceMethod yX12_isClass, .selects RX12 yX12_isClass yX12_isClass, .initialized RX12] : List Cond)) [1, 2, 3, 4] rfl (by decide +kernel)) (goodIn_ca (goodIn_r (.code yX12_isClass cX12_isClass 2 (some .boolean) :: l_z_X12_isClass) [5, 6] rfl (by decide +kernel)) (goodIn_in (in_z_X12_isArrayType_X12) gd_X12))
set_option maxHeartbeats 4000000 in
set_option maxRecDepth 100000 in
theorem z_X12_isArrayType (l : Launch) (dC : Nat → ClassId) (dI : Nat → Nat → Nat) (sz : Nat) (Ad0 : Nat) (Fs0 : List Value) (Va0 : Int32) (k_Fs0 : fh Fs0 150 [(20, .int 0)])  : Met l yX12_isArrayType w_z_X12_isArrayType ({ frames := 1, cells := 0, slots := 0, locals := 21 }) (va_Pc [.ref Ad0, .int Va0] (fun U => U.heap.size = sz ∧ Wd dC dI [] (fun _ => True) [(Ad0, .inr (15, Fs0))] U)) (va_Qi (fun (r : Int32) (u : Unit) => (Va0 < 20 ∧ ¬ Va0 = 29 ∧ Va0 < 30 ∧ r = 0) ∨ (¬ Va0 < 20 ∧ Va0 ≤ 24 ∧ r = 1) ∨ (¬ Va0 < 20 ∧ ¬ Va0 ≤ 24 ∧ Va0 = 29 ∧ r = 1) ∨ (¬ Va0 < 20 ∧ ¬ Va0 ≤ 24 ∧ ¬ Va0 = 29 ∧ Va0 < 30 ∧ r = 0) ∨ (¬ Va0 < 20 ∧ ¬ Va0 ≤ 24 ∧ ¬ Va0 = 29 ∧ ¬ Va0 < 30 ∧ r = 0)) (fun (u : Unit) t => Wd dC dI [] (va_A [(Ad0, .inr (15, Fs0))] sz) [(Ad0, .inr (15, Fs0))] t) (va_A [(Ad0, .inr (15, Fs0))] sz))  0 0 (va_A [(Ad0, .inr (15, Fs0))] sz) := by
  refine Met.ofW (cc := cX12_isArrayType) (maxL := 2) (ret := (some .boolean)) (by decide) rfl ?_
  intro p e s m args below meth c s₁ B hml hv
  obtain ⟨rfl, hsz, hP, hK, hD0⟩ := hv
  have hx := B.exec
  have hb := B.bytes
  have hr := B.returns
  have hts := atoms_spec (ws := w_z_X12_isArrayType) B.pre
  have hown : s.vm.findClass RX12 = some m.cls := findClass_of_methodNamed B.named
  have hlocks := B.notSynchronized
  subst hsz
  have hD := hD0.self (sz := s.heap.size)
  generalize hAe : va_A [(Ad0, .inr (15, Fs0))] s.heap.size = A at hD ⊢
  have hA : ∀ q : Nat, s.heap.size ≤ q → A q := fun q h => by rw [← hAe]; exact Or.inr h
  have hS : va_S A s.heap s.heap [] := va_S.rf
  have hl := lv_entry ([.ref Ad0, .int Va0]) (n := 2) (Nat.le_of_ble_eq_true rfl)
  rw [lg_entry_eq]
  generalize (lg_sl ([.ref Ad0, .int Va0]) ++ List.replicate (2 - (lg_sl ([.ref Ad0, .int Va0])).length) Slot.unset).toArray = ls at hl ⊢
  have hl : lv_has ls 2 [(0, .ref Ad0), (1, .int Va0)] := hl
  have o_Fs0 := ow_0 k_Fs0
  refine lv_iload_n hx hb dX12_isArrayType_0 rfl (lv_at hl 1 rfl) ?_
  refine lv_bipush (v := 20) hx hb dX12_isArrayType_1 (by decide) ?_
  refine lv_icmp_lt (tgt := 12) hx hb dX12_isArrayType_3 (by decide) (fun c101 => ?_) (fun c101 => ?_)
  · skip
    refine lv_iload_n hx hb dX12_isArrayType_12 rfl (lv_at hl 1 rfl) ?_
    refine lv_bipush (v := 29) hx hb dX12_isArrayType_13 (by decide) ?_
    refine lv_icmp_eq (tgt := 35) hx hb dX12_isArrayType_15 (by decide) (fun c102 => (by exfalso; have bd_Va0 := i_bd Va0; (try simp only [i_lt, i_le, i_eq, kc_20, kc_29] at c101 c102); omega)) (fun c102 => ?_)
    refine lv_iload_n hx hb dX12_isArrayType_18 rfl (lv_at hl 1 rfl) ?_
    refine lv_bipush (v := 30) hx hb dX12_isArrayType_19 (by decide) ?_
    refine lv_icmp_lt (tgt := 39) hx hb dX12_isArrayType_21 (by decide) (fun c103 => ?_) (fun c103 => (by exfalso; have bd_Va0 := i_bd Va0; (try simp only [i_lt, i_le, i_eq, kc_20, kc_29, kc_30] at c101 c102 c103); omega))
    refine lv_iconst (v := 0) hx hb dX12_isArrayType_39 (by decide) ?_
    have hP9 := hP.sub (ws' := [(Ad0, .inr (15, Fs0))]) [0] rfl
    have hD9 := hD.sub (ws' := [(Ad0, .inr (15, Fs0))]) [0] (by decide) rfl
    have hK9 := hK.sub (tys' := []) [] rfl
    exact W.zret (v := 0) hx hb hr rfl (fun t ht hW => ⟨⟨0, (), rfl, (Or.inl ⟨c101, c102, c103, rfl⟩), by rw [ht]; exact hP9, va_K.moved hW.alike hK9, hD9⟩, hS.F ht⟩) hS.2.2 dX12_isArrayType_40
  · skip
    refine lv_iload_n hx hb dX12_isArrayType_6 rfl (lv_at hl 1 rfl) ?_
    refine lv_bipush (v := 24) hx hb dX12_isArrayType_7 (by decide) ?_
    refine lv_icmp_le (tgt := 35) hx hb dX12_isArrayType_9 (by decide) (fun c104 => ?_) (fun c104 => ?_)
    · skip
      refine lv_iconst (v := 1) hx hb dX12_isArrayType_35 (by decide) ?_
      refine lv_goto (tgt := 40) hx hb dX12_isArrayType_36 (by decide) ?_
      have hP9 := hP.sub (ws' := [(Ad0, .inr (15, Fs0))]) [0] rfl
      have hD9 := hD.sub (ws' := [(Ad0, .inr (15, Fs0))]) [0] (by decide) rfl
      have hK9 := hK.sub (tys' := []) [] rfl
      exact W.zret (v := 1) hx hb hr rfl (fun t ht hW => ⟨⟨1, (), rfl, (Or.inr (Or.inl ⟨c101, c104, rfl⟩)), by rw [ht]; exact hP9, va_K.moved hW.alike hK9, hD9⟩, hS.F ht⟩) hS.2.2 dX12_isArrayType_40
    · skip
      refine lv_iload_n hx hb dX12_isArrayType_12 rfl (lv_at hl 1 rfl) ?_
      refine lv_bipush (v := 29) hx hb dX12_isArrayType_13 (by decide) ?_
      refine lv_icmp_eq (tgt := 35) hx hb dX12_isArrayType_15 (by decide) (fun c105 => ?_) (fun c105 => ?_)
      · skip
        refine lv_iconst (v := 1) hx hb dX12_isArrayType_35 (by decide) ?_
        refine lv_goto (tgt := 40) hx hb dX12_isArrayType_36 (by decide) ?_
        have hP9 := hP.sub (ws' := [(Ad0, .inr (15, Fs0))]) [0] rfl
        have hD9 := hD.sub (ws' := [(Ad0, .inr (15, Fs0))]) [0] (by decide) rfl
        have hK9 := hK.sub (tys' := []) [] rfl
        exact W.zret (v := 1) hx hb hr rfl (fun t ht hW => ⟨⟨1, (), rfl, (Or.inr (Or.inr (Or.inl ⟨c101, c104, c105, rfl⟩))), by rw [ht]; exact hP9, va_K.moved hW.alike hK9, hD9⟩, hS.F ht⟩) hS.2.2 dX12_isArrayType_40
      · skip
        refine lv_iload_n hx hb dX12_isArrayType_18 rfl (lv_at hl 1 rfl) ?_
        refine lv_bipush (v := 30) hx hb dX12_isArrayType_19 (by decide) ?_
        refine lv_icmp_lt (tgt := 39) hx hb dX12_isArrayType_21 (by decide) (fun c106 => ?_) (fun c106 => ?_)
        · skip
          refine lv_iconst (v := 0) hx hb dX12_isArrayType_39 (by decide) ?_
          have hP9 := hP.sub (ws' := [(Ad0, .inr (15, Fs0))]) [0] rfl
          have hD9 := hD.sub (ws' := [(Ad0, .inr (15, Fs0))]) [0] (by decide) rfl
          have hK9 := hK.sub (tys' := []) [] rfl
          exact W.zret (v := 0) hx hb hr rfl (fun t ht hW => ⟨⟨0, (), rfl, (Or.inr (Or.inr (Or.inr (Or.inl ⟨c101, c104, c105, c106, rfl⟩)))), by rw [ht]; exact hP9, va_K.moved hW.alike hK9, hD9⟩, hS.F ht⟩) hS.2.2 dX12_isArrayType_40
        · skip
          refine lv_aload_n hx hb dX12_isArrayType_24 rfl (lv_at hl 0 rfl) ?_
          refine lv_iload_n hx hb dX12_isArrayType_25 rfl (lv_at hl 1 rfl) ?_
          refine lv_bipush (v := 30) hx hb dX12_isArrayType_26 (by decide) ?_
          refine lv_isub hx hb dX12_isArrayType_28  ?_
          refine lv_topi (fun x107 ex107 => ?_)
          have tx107 : x107.toInt = (Va0 : Int32).toInt - (30 : Int32).toInt := by rw [ex107]; exact i_sub (by have bd_Va0 := i_bd Va0; (try simp only [i_lt, i_le, i_eq, kc_20, kc_24, kc_29, kc_30] at c101 c104 c105 c106 ⊢); omega) (by have bd_Va0 := i_bd Va0; (try simp only [i_lt, i_le, i_eq, kc_20, kc_24, kc_29, kc_30] at c101 c104 c105 c106 ⊢); omega)
          have hPc := hP.sub (ws' := [(Ad0, .inr (15, Fs0))]) [0] rfl
          have hDc := hD.sub (ws' := [(Ad0, .inr (15, Fs0))]) [0] (by decide) rfl
          have hKc := hK.sub (tys' := []) [] rfl
          have hFc := va_free (wc := [(Ad0, .inr (15, Fs0))]) hD hS hA [0] rfl
          refine va_calli (va_runV (As := [.int x107]) (rest := []) ⟨hx, hb, hml, hown, hts⟩ (z_X12_isClass l dC dI s.heap.size Ad0 Fs0 x107 (fh_sub o_Fs0.2 [0] rfl) ) (cwV 1 hts g_z_X12_isArrayType_z_X12_isClass_416 rfl rfl rfl (by decide +kernel) ⟨Nat.le_of_ble_eq_true rfl, Nat.le_of_ble_eq_true rfl⟩) ⟨fun a U g mk q => by obtain ⟨q0, q1, qP, qK, qD⟩ := q; exact ⟨q0, q1, qP, va_K.moved (u := U) (U := U.calling g mk a) (Vm.Alike.refl U.vm) qK, qD⟩, va_recv hK hP (ci := 15) (q0 := 0) rfl rfl, fun U hU hW => ⟨rfl, by rw [hU], by rw [hU]; exact hPc, va_K.moved hW.alike hKc, hDc.weaken (fun _ _ _ _ => trivial)⟩⟩ rfl rfl hl.1 rfl (lv_room (Nat.le_of_ble_eq_true rfl)) dX12_isArrayType_29 ⟨Nat.le_of_ble_eq_true rfl, Nat.le_of_ble_eq_true rfl⟩) hS (fun q _ h => hFc q h) hFc (fun r108 u t H1 locs ht hvm hw hB hz1 hk1 hS => ?_)
          obtain ⟨hP1, hK1, hD1⟩ := hB
          rw [ht] at hP1
          try dsimp only at hw
          obtain ⟨hP, hD⟩ := va_join (wr := []) (w1 := [(Ad0, .inr (15, Fs0))]) hP hD [0] [] rfl rfl (by decide) (by decide) hk1 hFc hP1 hD1
          have hK := hK.sub (tys' := []) [] rfl
          generalize H1 = H at hP hS ⊢
          have hP : va_P (dC, dI) vwCl [(Ad0, .inr (15, Fs0))] H := hP
          have hD : va_D A [(Ad0, .inr (15, Fs0))] := hD
          rcases hw with ⟨c109, er110⟩ | ⟨c111, c112, er113⟩
          · exact (by exfalso; (try simp only [i_lt, i_le, i_eq, kc_30, kc_0, kc_20, kc_24, kc_29] at tx107 c109 c101 c104 c105 c106); omega)
          · skip
            subst er113
            refine lv_if_eq (tgt := 39) hx hb dX12_isArrayType_32 (by decide) (fun c114 => ?_) (fun c114 => absurd c114 (by decide))
            refine lv_iconst (v := 0) hx hb dX12_isArrayType_39 (by decide) ?_
            have hP9 := hP.sub (ws' := [(Ad0, .inr (15, Fs0))]) [0] rfl
            have hD9 := hD.sub (ws' := [(Ad0, .inr (15, Fs0))]) [0] (by decide) rfl
            have hK9 := hK.sub (tys' := []) [] rfl
            exact W.zret (v := 0) hx hb hr rfl (fun t ht hW => ⟨⟨0, (), rfl, (Or.inr (Or.inr (Or.inr (Or.inr (⟨c101, c104, c105, c106, rfl⟩))))), by rw [ht]; exact hP9, va_K.moved hW.alike hK9, hD9⟩, hS.F ht⟩) hS.2.2 dX12_isArrayType_40

def l_z_X12_slotCount : List Cond := [.methodLink RX12 416 yX12_isClass, .instanceMethod yX12_isClass, .selects RX12 yX12_isClass yX12_isClass, .initialized RX12, .code yX12_isClass cX12_isClass 2 (some .boolean), .fieldLink RX12 413 "HeapWorksModel" "classes" "I"]
def w_z_X12_slotCount : List Cond := .code yX12_slotCount cX12_slotCount 3 (some .int) :: (l_z_X12_slotCount ++ (wsX120))
theorem in_z_X12_slotCount_X12 : ∀ w ∈ wsX120, w ∈ w_z_X12_slotCount := fun w h => List.mem_cons_of_mem _ (List.mem_append_right _ (h))
theorem g_z_X12_slotCount_z_X12_isClass_416 : GoodIn w_z_X12_slotCount (wsV RX12 416 RX12 yX12_isClass w_z_X12_isClass) := goodIn_app (goodIn_r (([.methodLink RX12 416 yX12_isClass, .instanceMethod yX12_isClass, .selects RX12 yX12_isClass yX12_isClass, .initialized RX12] : List Cond)) [1, 2, 3, 4] rfl (by decide +kernel)) (goodIn_ca (goodIn_r (.code yX12_isClass cX12_isClass 2 (some .boolean) :: l_z_X12_isClass) [5, 6] rfl (by decide +kernel)) (goodIn_in (in_z_X12_slotCount_X12) gd_X12))
set_option maxHeartbeats 4000000 in
set_option maxRecDepth 100000 in
theorem z_X12_slotCount (l : Launch) (dC : Nat → ClassId) (dI : Nat → Nat → Nat) (sz : Nat) (Ad0 : Nat) (Fs0 : List Value) (Va0 : Int32) (Va1 : Int32) (k_Fs0 : fh Fs0 150 [(20, .int 0)])  : Met l yX12_slotCount w_z_X12_slotCount ({ frames := 1, cells := 0, slots := 0, locals := 21 }) (va_Pc [.ref Ad0, .int Va0, .int Va1] (fun U => U.heap.size = sz ∧ Wd dC dI [] (fun _ => True) [(Ad0, .inr (15, Fs0))] U)) (va_Qi (fun (r : Int32) (u : Unit) => (Va0 < 0 ∧ r = Va1) ∨ (¬ Va0 < 0 ∧ 0 ≤ Va0 ∧ r = Va1)) (fun (u : Unit) t => Wd dC dI [] (va_A [(Ad0, .inr (15, Fs0))] sz) [(Ad0, .inr (15, Fs0))] t) (va_A [(Ad0, .inr (15, Fs0))] sz))  0 0 (va_A [(Ad0, .inr (15, Fs0))] sz) := by
  refine Met.ofW (cc := cX12_slotCount) (maxL := 3) (ret := (some .int)) (by decide) rfl ?_
  intro p e s m args below meth c s₁ B hml hv
  obtain ⟨rfl, hsz, hP, hK, hD0⟩ := hv
  have hx := B.exec
  have hb := B.bytes
  have hr := B.returns
  have hts := atoms_spec (ws := w_z_X12_slotCount) B.pre
  have hown : s.vm.findClass RX12 = some m.cls := findClass_of_methodNamed B.named
  have hlocks := B.notSynchronized
  subst hsz
  have hD := hD0.self (sz := s.heap.size)
  generalize hAe : va_A [(Ad0, .inr (15, Fs0))] s.heap.size = A at hD ⊢
  have hA : ∀ q : Nat, s.heap.size ≤ q → A q := fun q h => by rw [← hAe]; exact Or.inr h
  have hS : va_S A s.heap s.heap [] := va_S.rf
  have hl := lv_entry ([.ref Ad0, .int Va0, .int Va1]) (n := 3) (Nat.le_of_ble_eq_true rfl)
  rw [lg_entry_eq]
  generalize (lg_sl ([.ref Ad0, .int Va0, .int Va1]) ++ List.replicate (3 - (lg_sl ([.ref Ad0, .int Va0, .int Va1])).length) Slot.unset).toArray = ls at hl ⊢
  have hl : lv_has ls 3 [(0, .ref Ad0), (1, .int Va0), (2, .int Va1)] := hl
  have o_Fs0 := ow_0 k_Fs0
  refine lv_aload_n hx hb dX12_slotCount_0 rfl (lv_at hl 0 rfl) ?_
  refine lv_iload_n hx hb dX12_slotCount_1 rfl (lv_at hl 1 rfl) ?_
  have hPc := hP.sub (ws' := [(Ad0, .inr (15, Fs0))]) [0] rfl
  have hDc := hD.sub (ws' := [(Ad0, .inr (15, Fs0))]) [0] (by decide) rfl
  have hKc := hK.sub (tys' := []) [] rfl
  have hFc := va_free (wc := [(Ad0, .inr (15, Fs0))]) hD hS hA [0] rfl
  refine va_calli (va_runV (As := [.int Va0]) (rest := []) ⟨hx, hb, hml, hown, hts⟩ (z_X12_isClass l dC dI s.heap.size Ad0 Fs0 Va0 (fh_sub o_Fs0.2 [0] rfl) ) (cwV 1 hts g_z_X12_slotCount_z_X12_isClass_416 rfl rfl rfl (by decide +kernel) ⟨Nat.le_of_ble_eq_true rfl, Nat.le_of_ble_eq_true rfl⟩) ⟨fun a U g mk q => by obtain ⟨q0, q1, qP, qK, qD⟩ := q; exact ⟨q0, q1, qP, va_K.moved (u := U) (U := U.calling g mk a) (Vm.Alike.refl U.vm) qK, qD⟩, va_recv hK hP (ci := 15) (q0 := 0) rfl rfl, fun U hU hW => ⟨rfl, by rw [hU], by rw [hU]; exact hPc, va_K.moved hW.alike hKc, hDc.weaken (fun _ _ _ _ => trivial)⟩⟩ rfl rfl hl.1 rfl (lv_room (Nat.le_of_ble_eq_true rfl)) dX12_slotCount_2 ⟨Nat.le_of_ble_eq_true rfl, Nat.le_of_ble_eq_true rfl⟩) hS (fun q _ h => hFc q h) hFc (fun r101 u t H1 locs ht hvm hw hB hz1 hk1 hS => ?_)
  obtain ⟨hP1, hK1, hD1⟩ := hB
  rw [ht] at hP1
  try dsimp only at hw
  obtain ⟨hP, hD⟩ := va_join (wr := []) (w1 := [(Ad0, .inr (15, Fs0))]) hP hD [0] [] rfl rfl (by decide) (by decide) hk1 hFc hP1 hD1
  have hK := hK.sub (tys' := []) [] rfl
  generalize H1 = H at hP hS ⊢
  have hP : va_P (dC, dI) vwCl [(Ad0, .inr (15, Fs0))] H := hP
  have hD : va_D A [(Ad0, .inr (15, Fs0))] := hD
  rcases hw with ⟨c102, er103⟩ | ⟨c104, c105, er106⟩
  · skip
    subst er103
    refine lv_if_eq (tgt := 17) hx hb dX12_slotCount_5 (by decide) (fun c107 => ?_) (fun c107 => absurd c107 (by decide))
    refine lv_iload_n hx hb dX12_slotCount_17 rfl (lv_at hl 2 rfl) ?_
    have hP9 := hP.sub (ws' := [(Ad0, .inr (15, Fs0))]) [0] rfl
    have hD9 := hD.sub (ws' := [(Ad0, .inr (15, Fs0))]) [0] (by decide) rfl
    have hK9 := hK.sub (tys' := []) [] rfl
    exact W.iret (v := Va1) hx hb hr (fun t ht hW => ⟨⟨Va1, (), rfl, (Or.inl ⟨c102, rfl⟩), by rw [ht]; exact hP9, va_K.moved hW.alike hK9, hD9⟩, hS.F ht⟩) hS.2.2 dX12_slotCount_18
  · skip
    subst er106
    refine lv_if_eq (tgt := 17) hx hb dX12_slotCount_5 (by decide) (fun c108 => ?_) (fun c108 => absurd c108 (by decide))
    refine lv_iload_n hx hb dX12_slotCount_17 rfl (lv_at hl 2 rfl) ?_
    have hP9 := hP.sub (ws' := [(Ad0, .inr (15, Fs0))]) [0] rfl
    have hD9 := hD.sub (ws' := [(Ad0, .inr (15, Fs0))]) [0] (by decide) rfl
    have hK9 := hK.sub (tys' := []) [] rfl
    exact W.iret (v := Va1) hx hb hr (fun t ht hW => ⟨⟨Va1, (), rfl, (Or.inr (⟨c104, c105, rfl⟩)), by rw [ht]; exact hP9, va_K.moved hW.alike hK9, hD9⟩, hS.F ht⟩) hS.2.2 dX12_slotCount_18

def l_z_X12_kindOf : List Cond := [.methodLink RX12 416 yX12_isClass, .instanceMethod yX12_isClass, .selects RX12 yX12_isClass yX12_isClass, .initialized RX12, .code yX12_isClass cX12_isClass 2 (some .boolean), .fieldLink RX12 413 "HeapWorksModel" "classes" "I"]
def w_z_X12_kindOf : List Cond := .code yX12_kindOf cX12_kindOf 3 (some .int) :: (l_z_X12_kindOf ++ (wsX120))
theorem in_z_X12_kindOf_X12 : ∀ w ∈ wsX120, w ∈ w_z_X12_kindOf := fun w h => List.mem_cons_of_mem _ (List.mem_append_right _ (h))
theorem g_z_X12_kindOf_z_X12_isClass_416 : GoodIn w_z_X12_kindOf (wsV RX12 416 RX12 yX12_isClass w_z_X12_isClass) := goodIn_app (goodIn_r (([.methodLink RX12 416 yX12_isClass, .instanceMethod yX12_isClass, .selects RX12 yX12_isClass yX12_isClass, .initialized RX12] : List Cond)) [1, 2, 3, 4] rfl (by decide +kernel)) (goodIn_ca (goodIn_r (.code yX12_isClass cX12_isClass 2 (some .boolean) :: l_z_X12_isClass) [5, 6] rfl (by decide +kernel)) (goodIn_in (in_z_X12_kindOf_X12) gd_X12))
set_option maxHeartbeats 4000000 in
set_option maxRecDepth 100000 in
theorem z_X12_kindOf (l : Launch) (dC : Nat → ClassId) (dI : Nat → Nat → Nat) (sz : Nat) (Ad0 : Nat) (Fs0 : List Value) (Va0 : Int32) (Va1 : Int32) (k_Fs0 : fh Fs0 150 [(20, .int 0)])  : Met l yX12_kindOf w_z_X12_kindOf ({ frames := 1, cells := 0, slots := 0, locals := 21 }) (va_Pc [.ref Ad0, .int Va0, .int Va1] (fun U => U.heap.size = sz ∧ Wd dC dI [] (fun _ => True) [(Ad0, .inr (15, Fs0))] U)) (va_Qi (fun (r : Int32) (u : Unit) => (Va0 < 0 ∧ Va0 < 29 ∧ r = (Va0 - 20)) ∨ (¬ Va0 < 0 ∧ 0 ≤ Va0 ∧ Va0 < 29 ∧ r = (Va0 - 20)) ∨ (¬ Va0 < 0 ∧ 0 ≤ Va0 ∧ ¬ Va0 < 29 ∧ r = 5)) (fun (u : Unit) t => Wd dC dI [] (va_A [(Ad0, .inr (15, Fs0))] sz) [(Ad0, .inr (15, Fs0))] t) (va_A [(Ad0, .inr (15, Fs0))] sz))  0 0 (va_A [(Ad0, .inr (15, Fs0))] sz) := by
  refine Met.ofW (cc := cX12_kindOf) (maxL := 3) (ret := (some .int)) (by decide) rfl ?_
  intro p e s m args below meth c s₁ B hml hv
  obtain ⟨rfl, hsz, hP, hK, hD0⟩ := hv
  have hx := B.exec
  have hb := B.bytes
  have hr := B.returns
  have hts := atoms_spec (ws := w_z_X12_kindOf) B.pre
  have hown : s.vm.findClass RX12 = some m.cls := findClass_of_methodNamed B.named
  have hlocks := B.notSynchronized
  subst hsz
  have hD := hD0.self (sz := s.heap.size)
  generalize hAe : va_A [(Ad0, .inr (15, Fs0))] s.heap.size = A at hD ⊢
  have hA : ∀ q : Nat, s.heap.size ≤ q → A q := fun q h => by rw [← hAe]; exact Or.inr h
  have hS : va_S A s.heap s.heap [] := va_S.rf
  have hl := lv_entry ([.ref Ad0, .int Va0, .int Va1]) (n := 3) (Nat.le_of_ble_eq_true rfl)
  rw [lg_entry_eq]
  generalize (lg_sl ([.ref Ad0, .int Va0, .int Va1]) ++ List.replicate (3 - (lg_sl ([.ref Ad0, .int Va0, .int Va1])).length) Slot.unset).toArray = ls at hl ⊢
  have hl : lv_has ls 3 [(0, .ref Ad0), (1, .int Va0), (2, .int Va1)] := hl
  have o_Fs0 := ow_0 k_Fs0
  refine lv_aload_n hx hb dX12_kindOf_0 rfl (lv_at hl 0 rfl) ?_
  refine lv_iload_n hx hb dX12_kindOf_1 rfl (lv_at hl 1 rfl) ?_
  have hPc := hP.sub (ws' := [(Ad0, .inr (15, Fs0))]) [0] rfl
  have hDc := hD.sub (ws' := [(Ad0, .inr (15, Fs0))]) [0] (by decide) rfl
  have hKc := hK.sub (tys' := []) [] rfl
  have hFc := va_free (wc := [(Ad0, .inr (15, Fs0))]) hD hS hA [0] rfl
  refine va_calli (va_runV (As := [.int Va0]) (rest := []) ⟨hx, hb, hml, hown, hts⟩ (z_X12_isClass l dC dI s.heap.size Ad0 Fs0 Va0 (fh_sub o_Fs0.2 [0] rfl) ) (cwV 1 hts g_z_X12_kindOf_z_X12_isClass_416 rfl rfl rfl (by decide +kernel) ⟨Nat.le_of_ble_eq_true rfl, Nat.le_of_ble_eq_true rfl⟩) ⟨fun a U g mk q => by obtain ⟨q0, q1, qP, qK, qD⟩ := q; exact ⟨q0, q1, qP, va_K.moved (u := U) (U := U.calling g mk a) (Vm.Alike.refl U.vm) qK, qD⟩, va_recv hK hP (ci := 15) (q0 := 0) rfl rfl, fun U hU hW => ⟨rfl, by rw [hU], by rw [hU]; exact hPc, va_K.moved hW.alike hKc, hDc.weaken (fun _ _ _ _ => trivial)⟩⟩ rfl rfl hl.1 rfl (lv_room (Nat.le_of_ble_eq_true rfl)) dX12_kindOf_2 ⟨Nat.le_of_ble_eq_true rfl, Nat.le_of_ble_eq_true rfl⟩) hS (fun q _ h => hFc q h) hFc (fun r101 u t H1 locs ht hvm hw hB hz1 hk1 hS => ?_)
  obtain ⟨hP1, hK1, hD1⟩ := hB
  rw [ht] at hP1
  try dsimp only at hw
  obtain ⟨hP, hD⟩ := va_join (wr := []) (w1 := [(Ad0, .inr (15, Fs0))]) hP hD [0] [] rfl rfl (by decide) (by decide) hk1 hFc hP1 hD1
  have hK := hK.sub (tys' := []) [] rfl
  generalize H1 = H at hP hS ⊢
  have hP : va_P (dC, dI) vwCl [(Ad0, .inr (15, Fs0))] H := hP
  have hD : va_D A [(Ad0, .inr (15, Fs0))] := hD
  rcases hw with ⟨c102, er103⟩ | ⟨c104, c105, er106⟩
  · skip
    subst er103
    refine lv_if_eq (tgt := 22) hx hb dX12_kindOf_5 (by decide) (fun c107 => ?_) (fun c107 => absurd c107 (by decide))
    refine lv_iload_n hx hb dX12_kindOf_22 rfl (lv_at hl 1 rfl) ?_
    refine lv_bipush (v := 29) hx hb dX12_kindOf_23 (by decide) ?_
    refine lv_icmp_lt (tgt := 32) hx hb dX12_kindOf_25 (by decide) (fun c108 => ?_) (fun c108 => (by exfalso; have bd_Va0 := i_bd Va0; (try simp only [i_lt, i_le, i_eq, kc_0, kc_29] at c102 c108); omega))
    refine lv_iload_n hx hb dX12_kindOf_32 rfl (lv_at hl 1 rfl) ?_
    refine lv_bipush (v := 20) hx hb dX12_kindOf_33 (by decide) ?_
    refine lv_isub hx hb dX12_kindOf_35  ?_
    refine lv_topi (fun x109 ex109 => ?_)
    have hP9 := hP.sub (ws' := [(Ad0, .inr (15, Fs0))]) [0] rfl
    have hD9 := hD.sub (ws' := [(Ad0, .inr (15, Fs0))]) [0] (by decide) rfl
    have hK9 := hK.sub (tys' := []) [] rfl
    exact W.iret (v := x109) hx hb hr (fun t ht hW => ⟨⟨x109, (), rfl, (Or.inl ⟨c102, c108, (by subst_vars; rfl)⟩), by rw [ht]; exact hP9, va_K.moved hW.alike hK9, hD9⟩, hS.F ht⟩) hS.2.2 dX12_kindOf_36
  · skip
    subst er106
    refine lv_if_eq (tgt := 22) hx hb dX12_kindOf_5 (by decide) (fun c110 => ?_) (fun c110 => absurd c110 (by decide))
    refine lv_iload_n hx hb dX12_kindOf_22 rfl (lv_at hl 1 rfl) ?_
    refine lv_bipush (v := 29) hx hb dX12_kindOf_23 (by decide) ?_
    refine lv_icmp_lt (tgt := 32) hx hb dX12_kindOf_25 (by decide) (fun c111 => ?_) (fun c111 => ?_)
    · skip
      refine lv_iload_n hx hb dX12_kindOf_32 rfl (lv_at hl 1 rfl) ?_
      refine lv_bipush (v := 20) hx hb dX12_kindOf_33 (by decide) ?_
      refine lv_isub hx hb dX12_kindOf_35  ?_
      refine lv_topi (fun x112 ex112 => ?_)
      have tx112 : x112.toInt = (Va0 : Int32).toInt - (20 : Int32).toInt := by rw [ex112]; exact i_sub (by have bd_Va0 := i_bd Va0; (try simp only [i_lt, i_le, i_eq, kc_0, kc_29, kc_20] at c104 c105 c111 ⊢); omega) (by have bd_Va0 := i_bd Va0; (try simp only [i_lt, i_le, i_eq, kc_0, kc_29, kc_20] at c104 c105 c111 ⊢); omega)
      have hP9 := hP.sub (ws' := [(Ad0, .inr (15, Fs0))]) [0] rfl
      have hD9 := hD.sub (ws' := [(Ad0, .inr (15, Fs0))]) [0] (by decide) rfl
      have hK9 := hK.sub (tys' := []) [] rfl
      exact W.iret (v := x112) hx hb hr (fun t ht hW => ⟨⟨x112, (), rfl, (Or.inr (Or.inl ⟨c104, c105, c111, (by subst_vars; rfl)⟩)), by rw [ht]; exact hP9, va_K.moved hW.alike hK9, hD9⟩, hS.F ht⟩) hS.2.2 dX12_kindOf_36
    · skip
      refine lv_iconst (v := 5) hx hb dX12_kindOf_28 (by decide) ?_
      refine lv_goto (tgt := 36) hx hb dX12_kindOf_29 (by decide) ?_
      have hP9 := hP.sub (ws' := [(Ad0, .inr (15, Fs0))]) [0] rfl
      have hD9 := hD.sub (ws' := [(Ad0, .inr (15, Fs0))]) [0] (by decide) rfl
      have hK9 := hK.sub (tys' := []) [] rfl
      exact W.iret (v := 5) hx hb hr (fun t ht hW => ⟨⟨5, (), rfl, (Or.inr (Or.inr (⟨c104, c105, c111, rfl⟩))), by rw [ht]; exact hP9, va_K.moved hW.alike hK9, hD9⟩, hS.F ht⟩) hS.2.2 dX12_kindOf_36

def l_z_X12_add : List Cond := [.fieldLink RX12 435 "HeapWorksModel" "objects" "I", .fieldLink RX12 125 "HeapWorksModel" "type" "[I", .fieldLink RX12 128 "HeapWorksModel" "length" "[I", .methodLink RX12 416 yX12_isClass, .instanceMethod yX12_isClass, .selects RX12 yX12_isClass yX12_isClass, .initialized RX12, .fieldLink RX12 131 "HeapWorksModel" "from" "[I", .fieldLink RX12 452 "HeapWorksModel" "valuesUsed" "I", .fieldLink RX12 134 "HeapWorksModel" "there" "[Z", .methodLink RX12 455 yX12_slotCount, .instanceMethod yX12_slotCount, .selects RX12 yX12_slotCount yX12_slotCount, .fieldLink RX12 461 "HeapWorksModel" "slotsThere" "I", .fieldLink RX12 138 "HeapWorksModel" "values" "[J", .methodLink RX12 458 yX12_kindOf, .instanceMethod yX12_kindOf, .selects RX12 yX12_kindOf yX12_kindOf, .constantLong RX12 433 (-1), .code yX12_isClass cX12_isClass 2 (some .boolean), .fieldLink RX12 413 "HeapWorksModel" "classes" "I", .code yX12_slotCount cX12_slotCount 3 (some .int), .code yX12_kindOf cX12_kindOf 3 (some .int)]
def w_z_X12_add : List Cond := .code yX12_add cX12_add 6 (some .int) :: (l_z_X12_add ++ (wsX120))
theorem in_z_X12_add_X12 : ∀ w ∈ wsX120, w ∈ w_z_X12_add := fun w h => List.mem_cons_of_mem _ (List.mem_append_right _ (h))
theorem g_z_X12_add_z_X12_isClass_416 : GoodIn w_z_X12_add (wsV RX12 416 RX12 yX12_isClass w_z_X12_isClass) := goodIn_app (goodIn_r (([.methodLink RX12 416 yX12_isClass, .instanceMethod yX12_isClass, .selects RX12 yX12_isClass yX12_isClass, .initialized RX12] : List Cond)) [4, 5, 6, 7] rfl (by decide +kernel)) (goodIn_ca (goodIn_r (.code yX12_isClass cX12_isClass 2 (some .boolean) :: l_z_X12_isClass) [20, 21] rfl (by decide +kernel)) (goodIn_in (in_z_X12_add_X12) gd_X12))
theorem g_z_X12_add_z_X12_slotCount_455 : GoodIn w_z_X12_add (wsV RX12 455 RX12 yX12_slotCount w_z_X12_slotCount) := goodIn_app (goodIn_r (([.methodLink RX12 455 yX12_slotCount, .instanceMethod yX12_slotCount, .selects RX12 yX12_slotCount yX12_slotCount, .initialized RX12] : List Cond)) [11, 12, 13, 7] rfl (by decide +kernel)) (goodIn_ca (goodIn_r (.code yX12_slotCount cX12_slotCount 3 (some .int) :: l_z_X12_slotCount) [22, 4, 5, 6, 7, 20, 21] rfl (by decide +kernel)) (goodIn_in (in_z_X12_add_X12) gd_X12))
theorem g_z_X12_add_z_X12_kindOf_458 : GoodIn w_z_X12_add (wsV RX12 458 RX12 yX12_kindOf w_z_X12_kindOf) := goodIn_app (goodIn_r (([.methodLink RX12 458 yX12_kindOf, .instanceMethod yX12_kindOf, .selects RX12 yX12_kindOf yX12_kindOf, .initialized RX12] : List Cond)) [16, 17, 18, 7] rfl (by decide +kernel)) (goodIn_ca (goodIn_r (.code yX12_kindOf cX12_kindOf 3 (some .int) :: l_z_X12_kindOf) [23, 4, 5, 6, 7, 20, 21] rfl (by decide +kernel)) (goodIn_in (in_z_X12_add_X12) gd_X12))
set_option maxHeartbeats 4000000 in
set_option maxRecDepth 100000 in
theorem z_X12_add (l : Launch) (dC : Nat → ClassId) (dI : Nat → Nat → Nat) (sz : Nat) (Ad0 : Nat) (Fa0 : Nat → Int32) (Ka0 : ClassId) (Ad1 : Nat) (Fa1 : Nat → Int32) (Ka1 : ClassId) (Ad2 : Nat) (Fa2 : Nat → Int32) (Ka2 : ClassId) (Ad3 : Nat) (Fa3 : Nat → Int32) (Ka3 : ClassId) (Ad4 : Nat) (Fa4 : Nat → Int64) (Ka4 : ClassId) (Ad5 : Nat) (Fs0 : List Value) (Va0 : Int32) (Va1 : Int32) (k_Fs0 : fh Fs0 150 [(20, .int 0), (21, .ref Ad0), (22, .ref Ad1), (23, .ref Ad2), (24, .ref Ad3), (25, .ref Ad4), (26, .int 0), (27, .int 0), (28, .int 0)]) (hz_Fa2 : ∀ j, Fa2 j = 0) (hz_Fa4 : ∀ j, Fa4 j = 0) (gv_Va0 : (20 : Int) ≤ Va0.toInt ∧ Va0.toInt ≤ 24) (gv_Va1 : (0 : Int) ≤ Va1.toInt ∧ Va1.toInt ≤ 60) : Met l yX12_add w_z_X12_add ({ frames := 2, cells := 0, slots := 0, locals := 43 }) (va_Pc [.ref Ad5, .int Va0, .int Va1] (fun U => U.heap.size = sz ∧ Wd dC dI [(Ka0, .int), (Ka1, .int), (Ka2, .int), (Ka3, .boolean), (Ka4, .long)] (fun _ => True) [(Ad0, .inl (Ka0, 400, .inl Fa0)), (Ad1, .inl (Ka1, 400, .inl Fa1)), (Ad2, .inl (Ka2, 400, .inl Fa2)), (Ad3, .inl (Ka3, 400, .inl Fa3)), (Ad4, .inl (Ka4, 38500, .inr (.inl Fa4))), (Ad5, .inr (15, Fs0))] U)) (va_Qi (fun (r : Int32) (u : (Nat → Int32) × (Nat → Int32) × (Nat → Int32) × (Nat → Int32) × (Nat → Int64) × List Value) => (¬ Va0 < 0 ∧ 0 ≤ Va0 ∧ ¬ Va0 < 0 ∧ 0 ≤ Va0 ∧ r = 0 ∧ ow Fs0 (u.2.2.2.2.2) 150 [28, 27, 26] [(28, .int Va1), (27, .int Va1), (26, .int 1), (20, .int 0), (21, .ref Ad0), (22, .ref Ad1), (23, .ref Ad2), (24, .ref Ad3), (25, .ref Ad4)] ∧ (u.1) (0 : Int32).toNatClampNeg = Va0 ∧ (u.2.1) (0 : Int32).toNatClampNeg = Va1 ∧ (∀ j, (u.2.2.1) j = 0) ∧ (u.2.2.1) (0 : Int32).toNatClampNeg = 0 ∧ (u.2.2.2.1) (0 : Int32).toNatClampNeg = 1)) (fun (u : (Nat → Int32) × (Nat → Int32) × (Nat → Int32) × (Nat → Int32) × (Nat → Int64) × List Value) t => Wd dC dI [(Ka0, .int), (Ka1, .int), (Ka2, .int), (Ka3, .boolean), (Ka4, .long)] (va_A [(Ad0, .inl (Ka0, 400, .inl Fa0)), (Ad1, .inl (Ka1, 400, .inl Fa1)), (Ad2, .inl (Ka2, 400, .inl Fa2)), (Ad3, .inl (Ka3, 400, .inl Fa3)), (Ad4, .inl (Ka4, 38500, .inr (.inl Fa4))), (Ad5, .inr (15, Fs0))] sz) [(Ad0, .inl (Ka0, 400, .inl ((u.1)))), (Ad1, .inl (Ka1, 400, .inl ((u.2.1)))), (Ad2, .inl (Ka2, 400, .inl ((u.2.2.1)))), (Ad3, .inl (Ka3, 400, .inl ((u.2.2.2.1)))), (Ad4, .inl (Ka4, 38500, .inr (.inl ((u.2.2.2.2.1))))), (Ad5, .inr (15, (u.2.2.2.2.2)))] t) (va_A [(Ad0, .inl (Ka0, 400, .inl Fa0)), (Ad1, .inl (Ka1, 400, .inl Fa1)), (Ad2, .inl (Ka2, 400, .inl Fa2)), (Ad3, .inl (Ka3, 400, .inl Fa3)), (Ad4, .inl (Ka4, 38500, .inr (.inl Fa4))), (Ad5, .inr (15, Fs0))] sz))  0 0 (va_A [(Ad0, .inl (Ka0, 400, .inl Fa0)), (Ad1, .inl (Ka1, 400, .inl Fa1)), (Ad2, .inl (Ka2, 400, .inl Fa2)), (Ad3, .inl (Ka3, 400, .inl Fa3)), (Ad4, .inl (Ka4, 38500, .inr (.inl Fa4))), (Ad5, .inr (15, Fs0))] sz) := by
  refine Met.ofW (cc := cX12_add) (maxL := 6) (ret := (some .int)) (by decide) rfl ?_
  intro p e s m args below meth c s₁ B hml hv
  obtain ⟨rfl, hsz, hP, hK, hD0⟩ := hv
  have hx := B.exec
  have hb := B.bytes
  have hr := B.returns
  have hts := atoms_spec (ws := w_z_X12_add) B.pre
  have hown : s.vm.findClass RX12 = some m.cls := findClass_of_methodNamed B.named
  have hlocks := B.notSynchronized
  subst hsz
  have hD := hD0.self (sz := s.heap.size)
  generalize hAe : va_A [(Ad0, .inl (Ka0, 400, .inl Fa0)), (Ad1, .inl (Ka1, 400, .inl Fa1)), (Ad2, .inl (Ka2, 400, .inl Fa2)), (Ad3, .inl (Ka3, 400, .inl Fa3)), (Ad4, .inl (Ka4, 38500, .inr (.inl Fa4))), (Ad5, .inr (15, Fs0))] s.heap.size = A at hD ⊢
  have hA : ∀ q : Nat, s.heap.size ≤ q → A q := fun q h => by rw [← hAe]; exact Or.inr h
  have hS : va_S A s.heap s.heap [] := va_S.rf
  have hl := lv_entry ([.ref Ad5, .int Va0, .int Va1]) (n := 6) (Nat.le_of_ble_eq_true rfl)
  rw [lg_entry_eq]
  generalize (lg_sl ([.ref Ad5, .int Va0, .int Va1]) ++ List.replicate (6 - (lg_sl ([.ref Ad5, .int Va0, .int Va1])).length) Slot.unset).toArray = ls at hl ⊢
  have hl : lv_has ls 6 [(0, .ref Ad5), (1, .int Va0), (2, .int Va1)] := hl
  have o_Fs0 := ow_0 k_Fs0
  refine lv_aload_n hx hb dX12_add_0 rfl (lv_at hl 0 rfl) ?_
  refine va_get (D := (dC, dI)) (ci := 15) (v := .int 0) (C := RX12) (T := TX12) (N := 150) hx hb hts (in_z_X12_add_X12) hown hK hP 5 rfl rfl 26 (by decide) (hts (.fieldLink RX12 435 "HeapWorksModel" "objects" "I") (by decide +kernel)) (fun _ h9 => h9) (ow_at o_Fs0 6 rfl) dX12_add_1 ?_
  refine lv_istore_n (lv' := [(3, .int 0), (0, .ref Ad5), (1, .int Va0), (2, .int Va1)]) hx hb dX12_add_4 rfl hl (by decide) rfl (fun ls hl => ?_)
  refine lv_aload_n hx hb dX12_add_5 rfl (lv_at hl 1 rfl) ?_
  refine lv_dup hx hb dX12_add_6 rfl ?_
  refine va_get (D := (dC, dI)) (ci := 15) (v := .int 0) (C := RX12) (T := TX12) (N := 150) hx hb hts (in_z_X12_add_X12) hown hK hP 5 rfl rfl 26 (by decide) (hts (.fieldLink RX12 435 "HeapWorksModel" "objects" "I") (by decide +kernel)) (fun _ h9 => h9) (ow_at o_Fs0 6 rfl) dX12_add_7 ?_
  refine lv_iconst (v := 1) hx hb dX12_add_10 (by decide) ?_
  refine lv_iadd hx hb dX12_add_11  ?_
  refine lv_topi (fun x101 ex101 => ?_)
  obtain rfl : x101 = 1 := ex101.trans (by decide)
  refine va_put (D := (dC, dI)) (ci := 15) (v := .int 1) (ty := .int) (C := RX12) (T := TX12) (N := 150) hx hb hts (in_z_X12_add_X12) tyX12 tyX12_ok nmX12 hown hK hP hD hS 5 rfl rfl 26 (by decide) (hts (.fieldLink RX12 435 "HeapWorksModel" "objects" "I") (by decide +kernel)) (fun _ h9 => h9) rfl (by decide +kernel) rfl rfl (by rw [o_Fs0.2.1]; decide) dX12_add_12 (fun H locs hP hD hS => ?_)
  have hP : va_P (dC, dI) vwCl [(Ad0, .inl (Ka0, 400, .inl Fa0)), (Ad1, .inl (Ka1, 400, .inl Fa1)), (Ad2, .inl (Ka2, 400, .inl Fa2)), (Ad3, .inl (Ka3, 400, .inl Fa3)), (Ad4, .inl (Ka4, 38500, .inr (.inl Fa4))), (Ad5, .inr (15, (Fs0.set 26 (.int 1))))] H := hP
  have hD : va_D A [(Ad0, .inl (Ka0, 400, .inl Fa0)), (Ad1, .inl (Ka1, 400, .inl Fa1)), (Ad2, .inl (Ka2, 400, .inl Fa2)), (Ad3, .inl (Ka3, 400, .inl Fa3)), (Ad4, .inl (Ka4, 38500, .inr (.inl Fa4))), (Ad5, .inr (15, (Fs0.set 26 (.int 1))))] := hD
  have o_s102 := ow_set o_Fs0 26 (.int 1) (by decide) (l' := [(26, .int 1), (20, .int 0), (21, .ref Ad0), (22, .ref Ad1), (23, .ref Ad2), (24, .ref Ad3), (25, .ref Ad4), (27, .int 0), (28, .int 0)]) (w' := [26]) rfl rfl
  generalize (Fs0.set 26 (.int 1)) = s102 at hP hD o_s102
  refine lv_aload_n hx hb dX12_add_15 rfl (lv_at hl 1 rfl) ?_
  refine va_get (D := (dC, dI)) (ci := 15) (v := .ref Ad0) (C := RX12) (T := TX12) (N := 150) hx hb hts (in_z_X12_add_X12) hown hK hP 5 rfl rfl 21 (by decide) (hts (.fieldLink RX12 125 "HeapWorksModel" "type" "[I") (by decide +kernel)) (fun _ h9 => h9) (ow_at o_s102 2 rfl) dX12_add_16 ?_
  refine lv_iload_n hx hb dX12_add_19 rfl (lv_at hl 0 rfl) ?_
  refine lv_iload_n hx hb dX12_add_20 rfl (lv_at hl 2 rfl) ?_
  refine va_iast hx hb hK hP hD hS 0 0 rfl rfl (show vp_in 0 400 from by unfold vp_in; decide) dX12_add_21 (fun H locs hP hD hS => ?_)
  have hP : va_P (dC, dI) vwCl [(Ad0, .inl (Ka0, 400, .inl (upd Fa0 (0 : Int32).toNatClampNeg Va0))), (Ad1, .inl (Ka1, 400, .inl Fa1)), (Ad2, .inl (Ka2, 400, .inl Fa2)), (Ad3, .inl (Ka3, 400, .inl Fa3)), (Ad4, .inl (Ka4, 38500, .inr (.inl Fa4))), (Ad5, .inr (15, s102))] H := hP
  have hD : va_D A [(Ad0, .inl (Ka0, 400, .inl (upd Fa0 (0 : Int32).toNatClampNeg Va0))), (Ad1, .inl (Ka1, 400, .inl Fa1)), (Ad2, .inl (Ka2, 400, .inl Fa2)), (Ad3, .inl (Ka3, 400, .inl Fa3)), (Ad4, .inl (Ka4, 38500, .inr (.inl Fa4))), (Ad5, .inr (15, s102))] := hD
  have q104 : (upd Fa0 (0 : Int32).toNatClampNeg Va0) (0 : Int32).toNatClampNeg = Va0 := pk_us
  generalize upd Fa0 (0 : Int32).toNatClampNeg Va0 = f103 at hP hD q104
  refine lv_aload_n hx hb dX12_add_22 rfl (lv_at hl 1 rfl) ?_
  refine va_get (D := (dC, dI)) (ci := 15) (v := .ref Ad1) (C := RX12) (T := TX12) (N := 150) hx hb hts (in_z_X12_add_X12) hown hK hP 5 rfl rfl 22 (by decide) (hts (.fieldLink RX12 128 "HeapWorksModel" "length" "[I") (by decide +kernel)) (fun _ h9 => h9) (ow_at o_s102 3 rfl) dX12_add_23 ?_
  refine lv_iload_n hx hb dX12_add_26 rfl (lv_at hl 0 rfl) ?_
  refine lv_aload_n hx hb dX12_add_27 rfl (lv_at hl 1 rfl) ?_
  refine lv_iload_n hx hb dX12_add_28 rfl (lv_at hl 2 rfl) ?_
  have hPc := hP.sub (ws' := [(Ad5, .inr (15, s102))]) [5] rfl
  have hDc := hD.sub (ws' := [(Ad5, .inr (15, s102))]) [5] (by decide) rfl
  have hKc := hK.sub (tys' := []) [] rfl
  have hFc := va_free (wc := [(Ad5, .inr (15, s102))]) hD hS hA [5] rfl
  refine va_calli (va_runV (As := [.int Va0]) (rest := [.int 0, .ref Ad1]) ⟨hx, hb, hml, hown, hts⟩ (z_X12_isClass l dC dI H.size Ad5 s102 Va0 (fh_sub o_s102.2 [1] rfl) ) (cwV 1 hts g_z_X12_add_z_X12_isClass_416 rfl rfl rfl (by decide +kernel) ⟨Nat.le_of_ble_eq_true rfl, Nat.le_of_ble_eq_true rfl⟩) ⟨fun a U g mk q => by obtain ⟨q0, q1, qP, qK, qD⟩ := q; exact ⟨q0, q1, qP, va_K.moved (u := U) (U := U.calling g mk a) (Vm.Alike.refl U.vm) qK, qD⟩, va_recv hK hP (ci := 15) (q0 := 5) rfl rfl, fun U hU hW => ⟨rfl, by rw [hU], by rw [hU]; exact hPc, va_K.moved hW.alike hKc, hDc.weaken (fun _ _ _ _ => trivial)⟩⟩ rfl rfl hl.1 rfl (lv_room (Nat.le_of_ble_eq_true rfl)) dX12_add_29 ⟨Nat.le_of_ble_eq_true rfl, Nat.le_of_ble_eq_true rfl⟩) hS (fun q _ h => hFc q h) hFc (fun r105 u t H1 locs ht hvm hw hB hz1 hk1 hS => ?_)
  obtain ⟨hP1, hK1, hD1⟩ := hB
  rw [ht] at hP1
  try dsimp only at hw
  obtain ⟨hP, hD⟩ := va_join (wr := [(Ad0, .inl (Ka0, 400, .inl f103)), (Ad1, .inl (Ka1, 400, .inl Fa1)), (Ad2, .inl (Ka2, 400, .inl Fa2)), (Ad3, .inl (Ka3, 400, .inl Fa3)), (Ad4, .inl (Ka4, 38500, .inr (.inl Fa4)))]) (w1 := [(Ad5, .inr (15, s102))]) hP hD [5] [0, 1, 2, 3, 4] rfl rfl (by decide) (by decide) hk1 hFc hP1 hD1
  have hK := hK.sub (tys' := [(Ka0, .int), (Ka1, .int), (Ka2, .int), (Ka3, .boolean), (Ka4, .long)]) [0, 1, 2, 3, 4] rfl
  generalize H1 = H at hP hS ⊢
  have hP : va_P (dC, dI) vwCl [(Ad0, .inl (Ka0, 400, .inl f103)), (Ad1, .inl (Ka1, 400, .inl Fa1)), (Ad2, .inl (Ka2, 400, .inl Fa2)), (Ad3, .inl (Ka3, 400, .inl Fa3)), (Ad4, .inl (Ka4, 38500, .inr (.inl Fa4))), (Ad5, .inr (15, s102))] H := hP
  have hD : va_D A [(Ad0, .inl (Ka0, 400, .inl f103)), (Ad1, .inl (Ka1, 400, .inl Fa1)), (Ad2, .inl (Ka2, 400, .inl Fa2)), (Ad3, .inl (Ka3, 400, .inl Fa3)), (Ad4, .inl (Ka4, 38500, .inr (.inl Fa4))), (Ad5, .inr (15, s102))] := hD
  rcases hw with ⟨c106, er107⟩ | ⟨c108, c109, er110⟩
  · exact (by exfalso; (try simp only [i_lt, i_le, i_eq, kc_0] at gv_Va0 c106); omega)
  · skip
    subst er110
    refine lv_if_eq (tgt := 39) hx hb dX12_add_32 (by decide) (fun c111 => ?_) (fun c111 => absurd c111 (by decide))
    refine lv_iload_n hx hb dX12_add_39 rfl (lv_at hl 3 rfl) ?_
    refine va_iast hx hb hK hP hD hS 1 1 rfl rfl (show vp_in 0 400 from by unfold vp_in; decide) dX12_add_40 (fun H locs hP hD hS => ?_)
    have hP : va_P (dC, dI) vwCl [(Ad0, .inl (Ka0, 400, .inl f103)), (Ad1, .inl (Ka1, 400, .inl (upd Fa1 (0 : Int32).toNatClampNeg Va1))), (Ad2, .inl (Ka2, 400, .inl Fa2)), (Ad3, .inl (Ka3, 400, .inl Fa3)), (Ad4, .inl (Ka4, 38500, .inr (.inl Fa4))), (Ad5, .inr (15, s102))] H := hP
    have hD : va_D A [(Ad0, .inl (Ka0, 400, .inl f103)), (Ad1, .inl (Ka1, 400, .inl (upd Fa1 (0 : Int32).toNatClampNeg Va1))), (Ad2, .inl (Ka2, 400, .inl Fa2)), (Ad3, .inl (Ka3, 400, .inl Fa3)), (Ad4, .inl (Ka4, 38500, .inr (.inl Fa4))), (Ad5, .inr (15, s102))] := hD
    have q113 : (upd Fa1 (0 : Int32).toNatClampNeg Va1) (0 : Int32).toNatClampNeg = Va1 := pk_us
    generalize upd Fa1 (0 : Int32).toNatClampNeg Va1 = f112 at hP hD q113
    refine lv_aload_n hx hb dX12_add_41 rfl (lv_at hl 1 rfl) ?_
    refine va_get (D := (dC, dI)) (ci := 15) (v := .ref Ad2) (C := RX12) (T := TX12) (N := 150) hx hb hts (in_z_X12_add_X12) hown hK hP 5 rfl rfl 23 (by decide) (hts (.fieldLink RX12 131 "HeapWorksModel" "from" "[I") (by decide +kernel)) (fun _ h9 => h9) (ow_at o_s102 4 rfl) dX12_add_42 ?_
    refine lv_iload_n hx hb dX12_add_45 rfl (lv_at hl 0 rfl) ?_
    refine lv_aload_n hx hb dX12_add_46 rfl (lv_at hl 1 rfl) ?_
    refine va_get (D := (dC, dI)) (ci := 15) (v := .int 0) (C := RX12) (T := TX12) (N := 150) hx hb hts (in_z_X12_add_X12) hown hK hP 5 rfl rfl 27 (by decide) (hts (.fieldLink RX12 452 "HeapWorksModel" "valuesUsed" "I") (by decide +kernel)) (fun _ h9 => h9) (ow_at o_s102 7 rfl) dX12_add_47 ?_
    refine va_iast hx hb hK hP hD hS 2 2 rfl rfl (show vp_in 0 400 from by unfold vp_in; decide) dX12_add_50 (fun H locs hP hD hS => ?_)
    have hP : va_P (dC, dI) vwCl [(Ad0, .inl (Ka0, 400, .inl f103)), (Ad1, .inl (Ka1, 400, .inl f112)), (Ad2, .inl (Ka2, 400, .inl (upd Fa2 (0 : Int32).toNatClampNeg 0))), (Ad3, .inl (Ka3, 400, .inl Fa3)), (Ad4, .inl (Ka4, 38500, .inr (.inl Fa4))), (Ad5, .inr (15, s102))] H := hP
    have hD : va_D A [(Ad0, .inl (Ka0, 400, .inl f103)), (Ad1, .inl (Ka1, 400, .inl f112)), (Ad2, .inl (Ka2, 400, .inl (upd Fa2 (0 : Int32).toNatClampNeg 0))), (Ad3, .inl (Ka3, 400, .inl Fa3)), (Ad4, .inl (Ka4, 38500, .inr (.inl Fa4))), (Ad5, .inr (15, s102))] := hD
    have q115 : (upd Fa2 (0 : Int32).toNatClampNeg 0) (0 : Int32).toNatClampNeg = 0 := pk_us
    have z116 : ∀ j, (upd Fa2 (0 : Int32).toNatClampNeg 0) j = 0 := az_up hz_Fa2 rfl
    generalize upd Fa2 (0 : Int32).toNatClampNeg 0 = f114 at hP hD q115 z116
    refine lv_aload_n hx hb dX12_add_51 rfl (lv_at hl 1 rfl) ?_
    refine va_get (D := (dC, dI)) (ci := 15) (v := .ref Ad3) (C := RX12) (T := TX12) (N := 150) hx hb hts (in_z_X12_add_X12) hown hK hP 5 rfl rfl 24 (by decide) (hts (.fieldLink RX12 134 "HeapWorksModel" "there" "[Z") (by decide +kernel)) (fun _ h9 => h9) (ow_at o_s102 5 rfl) dX12_add_52 ?_
    refine lv_iload_n hx hb dX12_add_55 rfl (lv_at hl 0 rfl) ?_
    refine lv_iconst (v := 1) hx hb dX12_add_56 (by decide) ?_
    refine va_zast hx hb hK hP hD hS 3 3 rfl rfl (show vp_in 0 400 from by unfold vp_in; decide) dX12_add_57 (fun H locs hP hD hS => ?_)
    have hP : va_P (dC, dI) vwCl [(Ad0, .inl (Ka0, 400, .inl f103)), (Ad1, .inl (Ka1, 400, .inl f112)), (Ad2, .inl (Ka2, 400, .inl f114)), (Ad3, .inl (Ka3, 400, .inl (upd Fa3 (0 : Int32).toNatClampNeg (vp_nar .boolean 1)))), (Ad4, .inl (Ka4, 38500, .inr (.inl Fa4))), (Ad5, .inr (15, s102))] H := hP
    have hD : va_D A [(Ad0, .inl (Ka0, 400, .inl f103)), (Ad1, .inl (Ka1, 400, .inl f112)), (Ad2, .inl (Ka2, 400, .inl f114)), (Ad3, .inl (Ka3, 400, .inl (upd Fa3 (0 : Int32).toNatClampNeg (vp_nar .boolean 1)))), (Ad4, .inl (Ka4, 38500, .inr (.inl Fa4))), (Ad5, .inr (15, s102))] := hD
    have q118 : (upd Fa3 (0 : Int32).toNatClampNeg (vp_nar .boolean 1)) (0 : Int32).toNatClampNeg = 1 := (pk_us.trans (by decide))
    generalize upd Fa3 (0 : Int32).toNatClampNeg (vp_nar .boolean 1) = f117 at hP hD q118
    refine lv_aload_n hx hb dX12_add_58 rfl (lv_at hl 1 rfl) ?_
    refine lv_iload_n hx hb dX12_add_59 rfl (lv_at hl 2 rfl) ?_
    refine lv_iload_n hx hb dX12_add_60 rfl (lv_at hl 3 rfl) ?_
    have hPc := hP.sub (ws' := [(Ad5, .inr (15, s102))]) [5] rfl
    have hDc := hD.sub (ws' := [(Ad5, .inr (15, s102))]) [5] (by decide) rfl
    have hKc := hK.sub (tys' := []) [] rfl
    have hFc := va_free (wc := [(Ad5, .inr (15, s102))]) hD hS hA [5] rfl
    refine va_calli (va_runV (As := [.int Va0, .int Va1]) (rest := []) ⟨hx, hb, hml, hown, hts⟩ (z_X12_slotCount l dC dI H.size Ad5 s102 Va0 Va1 (fh_sub o_s102.2 [1] rfl) ) (cwV 2 hts g_z_X12_add_z_X12_slotCount_455 rfl rfl rfl (by decide +kernel) ⟨Nat.le_of_ble_eq_true rfl, Nat.le_of_ble_eq_true rfl⟩) ⟨fun a U g mk q => by obtain ⟨q0, q1, qP, qK, qD⟩ := q; exact ⟨q0, q1, qP, va_K.moved (u := U) (U := U.calling g mk a) (Vm.Alike.refl U.vm) qK, qD⟩, va_recv hK hP (ci := 15) (q0 := 5) rfl rfl, fun U hU hW => ⟨rfl, by rw [hU], by rw [hU]; exact hPc, va_K.moved hW.alike hKc, hDc.weaken (fun _ _ _ _ => trivial)⟩⟩ rfl rfl hl.1 rfl (lv_room (Nat.le_of_ble_eq_true rfl)) dX12_add_61 ⟨Nat.le_of_ble_eq_true rfl, Nat.le_of_ble_eq_true rfl⟩) hS (fun q _ h => hFc q h) hFc (fun r119 u t H1 locs ht hvm hw hB hz1 hk1 hS => ?_)
    obtain ⟨hP1, hK1, hD1⟩ := hB
    rw [ht] at hP1
    try dsimp only at hw
    obtain ⟨hP, hD⟩ := va_join (wr := [(Ad0, .inl (Ka0, 400, .inl f103)), (Ad1, .inl (Ka1, 400, .inl f112)), (Ad2, .inl (Ka2, 400, .inl f114)), (Ad3, .inl (Ka3, 400, .inl f117)), (Ad4, .inl (Ka4, 38500, .inr (.inl Fa4)))]) (w1 := [(Ad5, .inr (15, s102))]) hP hD [5] [0, 1, 2, 3, 4] rfl rfl (by decide) (by decide) hk1 hFc hP1 hD1
    have hK := hK.sub (tys' := [(Ka0, .int), (Ka1, .int), (Ka2, .int), (Ka3, .boolean), (Ka4, .long)]) [0, 1, 2, 3, 4] rfl
    generalize H1 = H at hP hS ⊢
    have hP : va_P (dC, dI) vwCl [(Ad0, .inl (Ka0, 400, .inl f103)), (Ad1, .inl (Ka1, 400, .inl f112)), (Ad2, .inl (Ka2, 400, .inl f114)), (Ad3, .inl (Ka3, 400, .inl f117)), (Ad4, .inl (Ka4, 38500, .inr (.inl Fa4))), (Ad5, .inr (15, s102))] H := hP
    have hD : va_D A [(Ad0, .inl (Ka0, 400, .inl f103)), (Ad1, .inl (Ka1, 400, .inl f112)), (Ad2, .inl (Ka2, 400, .inl f114)), (Ad3, .inl (Ka3, 400, .inl f117)), (Ad4, .inl (Ka4, 38500, .inr (.inl Fa4))), (Ad5, .inr (15, s102))] := hD
    rcases hw with ⟨c120, er121⟩ | ⟨c122, c123, er124⟩
    · exact (by exfalso; (try simp only [i_lt, i_le, i_eq, kc_0] at gv_Va0 c108 c109 c120); omega)
    · skip
      have qer124 := er124.symm
      subst qer124
      refine lv_istore (lv' := [(4, .int Va1), (3, .int 0), (0, .ref Ad5), (1, .int Va0), (2, .int Va1)]) hx hb dX12_add_64 hl (by decide) rfl (fun ls hl => ?_)
      refine lv_iconst (v := 0) hx hb dX12_add_66 (by decide) ?_
      refine lv_istore (lv' := [(5, .int 0), (4, .int Va1), (3, .int 0), (0, .ref Ad5), (1, .int Va0), (2, .int Va1)]) hx hb dX12_add_67 hl (by decide) rfl (fun ls hl => ?_)
      have HL1 : ∀ (n j191 : Nat) (x192 : Int32) (f193 : Nat → Int64), x192 = nI j191 → 0 ≤ j191 → j191 ≤ 60 → 61 ≤ j191 + n → ∀ (H : Heap) (locs : List Loc) (ls : Array Slot), va_P (dC, dI) vwCl [(Ad0, .inl (Ka0, 400, .inl f103)), (Ad1, .inl (Ka1, 400, .inl f112)), (Ad2, .inl (Ka2, 400, .inl f114)), (Ad3, .inl (Ka3, 400, .inl f117)), (Ad4, .inl (Ka4, 38500, .inr (.inl f193))), (Ad5, .inr (15, s102))] H → va_D A [(Ad0, .inl (Ka0, 400, .inl f103)), (Ad1, .inl (Ka1, 400, .inl f112)), (Ad2, .inl (Ka2, 400, .inl f114)), (Ad3, .inl (Ka3, 400, .inl f117)), (Ad4, .inl (Ka4, 38500, .inr (.inl f193))), (Ad5, .inr (15, s102))] → va_S A s.heap H locs → lv_has ls 6 [(5, .int x192), (4, .int Va1), (3, .int 0), (0, .ref Ad5), (1, .int Va0), (2, .int Va1)] → W p l e (headSpec w_z_X12_add ({ frames := 2, cells := 0, slots := 0, locals := 43 })).room s m ([.ref Ad5, .int Va0, .int Va1]).toArray below meth c H locs 0 0 (MQ below (va_Qi (fun (r : Int32) (u : (Nat → Int32) × (Nat → Int32) × (Nat → Int32) × (Nat → Int32) × (Nat → Int64) × List Value) => (¬ Va0 < 0 ∧ 0 ≤ Va0 ∧ ¬ Va0 < 0 ∧ 0 ≤ Va0 ∧ r = 0 ∧ ow Fs0 (u.2.2.2.2.2) 150 [28, 27, 26] [(28, .int Va1), (27, .int Va1), (26, .int 1), (20, .int 0), (21, .ref Ad0), (22, .ref Ad1), (23, .ref Ad2), (24, .ref Ad3), (25, .ref Ad4)] ∧ (u.1) (0 : Int32).toNatClampNeg = Va0 ∧ (u.2.1) (0 : Int32).toNatClampNeg = Va1 ∧ (∀ j, (u.2.2.1) j = 0) ∧ (u.2.2.1) (0 : Int32).toNatClampNeg = 0 ∧ (u.2.2.2.1) (0 : Int32).toNatClampNeg = 1)) (fun (u : (Nat → Int32) × (Nat → Int32) × (Nat → Int32) × (Nat → Int32) × (Nat → Int64) × List Value) t => Wd dC dI [(Ka0, .int), (Ka1, .int), (Ka2, .int), (Ka3, .boolean), (Ka4, .long)] A [(Ad0, .inl (Ka0, 400, .inl ((u.1)))), (Ad1, .inl (Ka1, 400, .inl ((u.2.1)))), (Ad2, .inl (Ka2, 400, .inl ((u.2.2.1)))), (Ad3, .inl (Ka3, 400, .inl ((u.2.2.2.1)))), (Ad4, .inl (Ka4, 38500, .inr (.inl ((u.2.2.2.2.1))))), (Ad5, .inr (15, (u.2.2.2.2.2)))] t) A) ([.ref Ad5, .int Va0, .int Va1]).toArray s 0 0 A) (F0 m 69 ls []) := by
        intro n
        induction n with
        | zero =>
          intro j191 x192 f193 e194 h196 h197 h198
          exact absurd h198 (by omega)
        | succ n ih =>
          intro j191 x192 f193 e194 h196 h197 h198 H locs ls hP hD hS hl
          have t195 : x192.toInt = (j191 : Int) := by rw [e194]; exact nI_toInt (by omega)
          refine lv_iload hx hb dX12_add_69 (lv_at hl 0 rfl) ?_
          refine lv_iload hx hb dX12_add_71 (lv_at hl 1 rfl) ?_
          refine lv_icmp_ge (tgt := 112) hx hb dX12_add_73 (by decide) (fun c199 => ?_) (fun c199 => ?_)
          · skip
            refine lv_aload_n hx hb dX12_add_112 rfl (lv_at hl 3 rfl) ?_
            refine lv_dup hx hb dX12_add_113 rfl ?_
            refine va_get (D := (dC, dI)) (ci := 15) (v := .int 0) (C := RX12) (T := TX12) (N := 150) hx hb hts (in_z_X12_add_X12) hown hK hP 5 rfl rfl 27 (by decide) (hts (.fieldLink RX12 452 "HeapWorksModel" "valuesUsed" "I") (by decide +kernel)) (fun _ h9 => h9) (ow_at o_s102 7 rfl) dX12_add_114 ?_
            refine lv_iload hx hb dX12_add_117 (lv_at hl 1 rfl) ?_
            refine lv_iadd hx hb dX12_add_119  ?_
            refine lv_topi (fun x200 ex200 => ?_)
            obtain rfl : Va1 = x200 := (ex200.trans (Int32.zero_add _)).symm
            refine va_put (D := (dC, dI)) (ci := 15) (v := .int Va1) (ty := .int) (C := RX12) (T := TX12) (N := 150) hx hb hts (in_z_X12_add_X12) tyX12 tyX12_ok nmX12 hown hK hP hD hS 5 rfl rfl 27 (by decide) (hts (.fieldLink RX12 452 "HeapWorksModel" "valuesUsed" "I") (by decide +kernel)) (fun _ h9 => h9) rfl (by decide +kernel) rfl rfl (by rw [o_s102.2.1]; decide) dX12_add_120 (fun H locs hP hD hS => ?_)
            have hP : va_P (dC, dI) vwCl [(Ad0, .inl (Ka0, 400, .inl f103)), (Ad1, .inl (Ka1, 400, .inl f112)), (Ad2, .inl (Ka2, 400, .inl f114)), (Ad3, .inl (Ka3, 400, .inl f117)), (Ad4, .inl (Ka4, 38500, .inr (.inl f193))), (Ad5, .inr (15, (s102.set 27 (.int Va1))))] H := hP
            have hD : va_D A [(Ad0, .inl (Ka0, 400, .inl f103)), (Ad1, .inl (Ka1, 400, .inl f112)), (Ad2, .inl (Ka2, 400, .inl f114)), (Ad3, .inl (Ka3, 400, .inl f117)), (Ad4, .inl (Ka4, 38500, .inr (.inl f193))), (Ad5, .inr (15, (s102.set 27 (.int Va1))))] := hD
            have o_s201 := ow_set o_s102 27 (.int Va1) (by decide) (l' := [(27, .int Va1), (26, .int 1), (20, .int 0), (21, .ref Ad0), (22, .ref Ad1), (23, .ref Ad2), (24, .ref Ad3), (25, .ref Ad4), (28, .int 0)]) (w' := [27, 26]) rfl rfl
            generalize (s102.set 27 (.int Va1)) = s201 at hP hD o_s201
            refine lv_aload_n hx hb dX12_add_123 rfl (lv_at hl 3 rfl) ?_
            refine lv_dup hx hb dX12_add_124 rfl ?_
            refine va_get (D := (dC, dI)) (ci := 15) (v := .int 0) (C := RX12) (T := TX12) (N := 150) hx hb hts (in_z_X12_add_X12) hown hK hP 5 rfl rfl 28 (by decide) (hts (.fieldLink RX12 461 "HeapWorksModel" "slotsThere" "I") (by decide +kernel)) (fun _ h9 => h9) (ow_at o_s201 8 rfl) dX12_add_125 ?_
            refine lv_iload hx hb dX12_add_128 (lv_at hl 1 rfl) ?_
            refine lv_iadd hx hb dX12_add_130  ?_
            refine lv_topi (fun x202 ex202 => ?_)
            obtain rfl : Va1 = x202 := (ex202.trans (Int32.zero_add _)).symm
            refine va_put (D := (dC, dI)) (ci := 15) (v := .int Va1) (ty := .int) (C := RX12) (T := TX12) (N := 150) hx hb hts (in_z_X12_add_X12) tyX12 tyX12_ok nmX12 hown hK hP hD hS 5 rfl rfl 28 (by decide) (hts (.fieldLink RX12 461 "HeapWorksModel" "slotsThere" "I") (by decide +kernel)) (fun _ h9 => h9) rfl (by decide +kernel) rfl rfl (by rw [o_s201.2.1]; decide) dX12_add_131 (fun H locs hP hD hS => ?_)
            have hP : va_P (dC, dI) vwCl [(Ad0, .inl (Ka0, 400, .inl f103)), (Ad1, .inl (Ka1, 400, .inl f112)), (Ad2, .inl (Ka2, 400, .inl f114)), (Ad3, .inl (Ka3, 400, .inl f117)), (Ad4, .inl (Ka4, 38500, .inr (.inl f193))), (Ad5, .inr (15, (s201.set 28 (.int Va1))))] H := hP
            have hD : va_D A [(Ad0, .inl (Ka0, 400, .inl f103)), (Ad1, .inl (Ka1, 400, .inl f112)), (Ad2, .inl (Ka2, 400, .inl f114)), (Ad3, .inl (Ka3, 400, .inl f117)), (Ad4, .inl (Ka4, 38500, .inr (.inl f193))), (Ad5, .inr (15, (s201.set 28 (.int Va1))))] := hD
            have o_s203 := ow_set o_s201 28 (.int Va1) (by decide) (l' := [(28, .int Va1), (27, .int Va1), (26, .int 1), (20, .int 0), (21, .ref Ad0), (22, .ref Ad1), (23, .ref Ad2), (24, .ref Ad3), (25, .ref Ad4)]) (w' := [28, 27, 26]) rfl rfl
            generalize (s201.set 28 (.int Va1)) = s203 at hP hD o_s203
            refine lv_iload_n hx hb dX12_add_134 rfl (lv_at hl 2 rfl) ?_
            have hP9 := hP.sub (ws' := [(Ad0, .inl (Ka0, 400, .inl f103)), (Ad1, .inl (Ka1, 400, .inl f112)), (Ad2, .inl (Ka2, 400, .inl f114)), (Ad3, .inl (Ka3, 400, .inl f117)), (Ad4, .inl (Ka4, 38500, .inr (.inl f193))), (Ad5, .inr (15, s203))]) [0, 1, 2, 3, 4, 5] rfl
            have hD9 := hD.sub (ws' := [(Ad0, .inl (Ka0, 400, .inl f103)), (Ad1, .inl (Ka1, 400, .inl f112)), (Ad2, .inl (Ka2, 400, .inl f114)), (Ad3, .inl (Ka3, 400, .inl f117)), (Ad4, .inl (Ka4, 38500, .inr (.inl f193))), (Ad5, .inr (15, s203))]) [0, 1, 2, 3, 4, 5] (by decide) rfl
            have hK9 := hK.sub (tys' := [(Ka0, .int), (Ka1, .int), (Ka2, .int), (Ka3, .boolean), (Ka4, .long)]) [0, 1, 2, 3, 4] rfl
            exact W.iret (v := 0) hx hb hr (fun t ht hW => ⟨⟨0, (f103, f112, f114, f117, f193, s203), rfl, ⟨c108, c109, c122, c123, rfl, o_s203, q104, q113, z116, q115, q118⟩, by rw [ht]; exact hP9, va_K.moved hW.alike hK9, hD9⟩, hS.F ht⟩) hS.2.2 dX12_add_135
          · skip
            refine lv_aload_n hx hb dX12_add_76 rfl (lv_at hl 3 rfl) ?_
            refine va_get (D := (dC, dI)) (ci := 15) (v := .ref Ad4) (C := RX12) (T := TX12) (N := 150) hx hb hts (in_z_X12_add_X12) hown hK hP 5 rfl rfl 25 (by decide) (hts (.fieldLink RX12 138 "HeapWorksModel" "values" "[J") (by decide +kernel)) (fun _ h9 => h9) (ow_at o_s102 6 rfl) dX12_add_77 ?_
            refine lv_aload_n hx hb dX12_add_80 rfl (lv_at hl 3 rfl) ?_
            refine va_get (D := (dC, dI)) (ci := 15) (v := .int 0) (C := RX12) (T := TX12) (N := 150) hx hb hts (in_z_X12_add_X12) hown hK hP 5 rfl rfl 27 (by decide) (hts (.fieldLink RX12 452 "HeapWorksModel" "valuesUsed" "I") (by decide +kernel)) (fun _ h9 => h9) (ow_at o_s102 7 rfl) dX12_add_81 ?_
            refine lv_iload hx hb dX12_add_84 (lv_at hl 0 rfl) ?_
            refine lv_iadd hx hb dX12_add_86  ?_
            refine lv_topi (fun x204 ex204 => ?_)
            obtain rfl : x192 = x204 := (ex204.trans (Int32.zero_add _)).symm
            refine lv_aload_n hx hb dX12_add_87 rfl (lv_at hl 3 rfl) ?_
            refine lv_iload_n hx hb dX12_add_88 rfl (lv_at hl 4 rfl) ?_
            refine lv_iload hx hb dX12_add_89 (lv_at hl 0 rfl) ?_
            have hPc := hP.sub (ws' := [(Ad5, .inr (15, s102))]) [5] rfl
            have hDc := hD.sub (ws' := [(Ad5, .inr (15, s102))]) [5] (by decide) rfl
            have hKc := hK.sub (tys' := []) [] rfl
            have hFc := va_free (wc := [(Ad5, .inr (15, s102))]) hD hS hA [5] rfl
            refine va_calli (va_runV (As := [.int Va0, .int x192]) (rest := [.int x192, .ref Ad4]) ⟨hx, hb, hml, hown, hts⟩ (z_X12_kindOf l dC dI H.size Ad5 s102 Va0 x192 (fh_sub o_s102.2 [1] rfl) ) (cwV 2 hts g_z_X12_add_z_X12_kindOf_458 rfl rfl rfl (by decide +kernel) ⟨Nat.le_of_ble_eq_true rfl, Nat.le_of_ble_eq_true rfl⟩) ⟨fun a U g mk q => by obtain ⟨q0, q1, qP, qK, qD⟩ := q; exact ⟨q0, q1, qP, va_K.moved (u := U) (U := U.calling g mk a) (Vm.Alike.refl U.vm) qK, qD⟩, va_recv hK hP (ci := 15) (q0 := 5) rfl rfl, fun U hU hW => ⟨rfl, by rw [hU], by rw [hU]; exact hPc, va_K.moved hW.alike hKc, hDc.weaken (fun _ _ _ _ => trivial)⟩⟩ rfl rfl hl.1 rfl (lv_room (Nat.le_of_ble_eq_true rfl)) dX12_add_91 ⟨Nat.le_of_ble_eq_true rfl, Nat.le_of_ble_eq_true rfl⟩) hS (fun q _ h => hFc q h) hFc (fun r205 u t H1 locs ht hvm hw hB hz1 hk1 hS => ?_)
            obtain ⟨hP1, hK1, hD1⟩ := hB
            rw [ht] at hP1
            try dsimp only at hw
            obtain ⟨hP, hD⟩ := va_join (wr := [(Ad0, .inl (Ka0, 400, .inl f103)), (Ad1, .inl (Ka1, 400, .inl f112)), (Ad2, .inl (Ka2, 400, .inl f114)), (Ad3, .inl (Ka3, 400, .inl f117)), (Ad4, .inl (Ka4, 38500, .inr (.inl f193)))]) (w1 := [(Ad5, .inr (15, s102))]) hP hD [5] [0, 1, 2, 3, 4] rfl rfl (by decide) (by decide) hk1 hFc hP1 hD1
            have hK := hK.sub (tys' := [(Ka0, .int), (Ka1, .int), (Ka2, .int), (Ka3, .boolean), (Ka4, .long)]) [0, 1, 2, 3, 4] rfl
            generalize H1 = H at hP hS ⊢
            have hP : va_P (dC, dI) vwCl [(Ad0, .inl (Ka0, 400, .inl f103)), (Ad1, .inl (Ka1, 400, .inl f112)), (Ad2, .inl (Ka2, 400, .inl f114)), (Ad3, .inl (Ka3, 400, .inl f117)), (Ad4, .inl (Ka4, 38500, .inr (.inl f193))), (Ad5, .inr (15, s102))] H := hP
            have hD : va_D A [(Ad0, .inl (Ka0, 400, .inl f103)), (Ad1, .inl (Ka1, 400, .inl f112)), (Ad2, .inl (Ka2, 400, .inl f114)), (Ad3, .inl (Ka3, 400, .inl f117)), (Ad4, .inl (Ka4, 38500, .inr (.inl f193))), (Ad5, .inr (15, s102))] := hD
            rcases hw with ⟨c206, c207, er208⟩ | ⟨c209, c210, c211, er212⟩ | ⟨c213, c214, c215, er216⟩
            · exact (by exfalso; (try simp only [i_lt, i_le, i_eq, kc_0, kc_29] at gv_Va0 c108 c109 c122 c123 c206 c207); omega)
            · skip
              have er205 := er212
              refine lv_iconst (v := 5) hx hb dX12_add_94 (by decide) ?_
              refine lv_icmp_ne (tgt := 104) hx hb dX12_add_95 (by decide) (fun c217 => ?_) (fun c217 => ?_)
              · skip
                refine lv_lconst (v := 0) hx hb dX12_add_104 (by decide) ?_
                refine va_last hx hb hK hP hD hS 4 4 rfl rfl (by rw [vp_in_iff]; (try simp only [i_lt, i_le, i_eq] at t195 h197 h196 c199 gv_Va1); omega) dX12_add_105 (fun H locs hP hD hS => ?_)
                have hP : va_P (dC, dI) vwCl [(Ad0, .inl (Ka0, 400, .inl f103)), (Ad1, .inl (Ka1, 400, .inl f112)), (Ad2, .inl (Ka2, 400, .inl f114)), (Ad3, .inl (Ka3, 400, .inl f117)), (Ad4, .inl (Ka4, 38500, .inr (.inl (vp_updL f193 (x192 : Int32).toNatClampNeg 0)))), (Ad5, .inr (15, s102))] H := hP
                have hD : va_D A [(Ad0, .inl (Ka0, 400, .inl f103)), (Ad1, .inl (Ka1, 400, .inl f112)), (Ad2, .inl (Ka2, 400, .inl f114)), (Ad3, .inl (Ka3, 400, .inl f117)), (Ad4, .inl (Ka4, 38500, .inr (.inl (vp_updL f193 (x192 : Int32).toNatClampNeg 0)))), (Ad5, .inr (15, s102))] := hD
                have q219 : (vp_updL f193 (x192 : Int32).toNatClampNeg 0) (x192 : Int32).toNatClampNeg = 0 := pk_uLs
                generalize vp_updL f193 (x192 : Int32).toNatClampNeg 0 = f218 at hP hD q219
                obtain ⟨x220, ex220⟩ : ∃ y : Int32, y = x192 + 1 := ⟨_, rfl⟩
                refine lv_iinc (v := x220) (lv' := [(5, .int x220), (4, .int Va1), (3, .int 0), (0, .ref Ad5), (1, .int Va0), (2, .int Va1)]) hx hb dX12_add_106 hl (k := 0) rfl (by rw [ex220]; rfl) (by decide) rfl (fun ls hl => ?_)
                have tx220 : x220.toInt = x192.toInt + (1 : Int32).toInt := by rw [ex220]; exact i_add (by have bd_x192 := i_bd x192; (try simp only [i_lt, i_le, i_eq, kc_1] at t195 h197 h196 c199 gv_Va1 ⊢); omega) (by have bd_x192 := i_bd x192; (try simp only [i_lt, i_le, i_eq, kc_1] at t195 h197 h196 c199 gv_Va1 ⊢); omega)
                refine lv_goto (tgt := 69) hx hb dX12_add_109 (by decide) ?_
                exact ih (j191 + 1) x220 f218 (by rw [ex220, e194]; exact nI_1 _) (by omega) (by (try simp only [i_lt, i_le, i_eq, kc_1] at t195 h197 h196 c199 tx220 gv_Va1); omega) (by omega)  _ _ _ (hP.sub [0, 1, 2, 3, 4, 5] rfl) (hD.sub [0, 1, 2, 3, 4, 5] (by decide) rfl) hS  (lv_sub hl [0, 1, 2, 3, 4, 5] rfl)
              · skip
                refine lv_ldc2 (v := (-1)) hx hb hown (hts (.constantLong RX12 433 (-1)) (by decide +kernel)) dX12_add_98 ?_
                refine lv_goto (tgt := 105) hx hb dX12_add_101 (by decide) ?_
                refine va_last hx hb hK hP hD hS 4 4 rfl rfl (by rw [vp_in_iff]; (try simp only [i_lt, i_le, i_eq] at t195 h197 h196 c199 gv_Va1); omega) dX12_add_105 (fun H locs hP hD hS => ?_)
                have hP : va_P (dC, dI) vwCl [(Ad0, .inl (Ka0, 400, .inl f103)), (Ad1, .inl (Ka1, 400, .inl f112)), (Ad2, .inl (Ka2, 400, .inl f114)), (Ad3, .inl (Ka3, 400, .inl f117)), (Ad4, .inl (Ka4, 38500, .inr (.inl (vp_updL f193 (x192 : Int32).toNatClampNeg (-1))))), (Ad5, .inr (15, s102))] H := hP
                have hD : va_D A [(Ad0, .inl (Ka0, 400, .inl f103)), (Ad1, .inl (Ka1, 400, .inl f112)), (Ad2, .inl (Ka2, 400, .inl f114)), (Ad3, .inl (Ka3, 400, .inl f117)), (Ad4, .inl (Ka4, 38500, .inr (.inl (vp_updL f193 (x192 : Int32).toNatClampNeg (-1))))), (Ad5, .inr (15, s102))] := hD
                have q222 : (vp_updL f193 (x192 : Int32).toNatClampNeg (-1)) (x192 : Int32).toNatClampNeg = (-1) := pk_uLs
                generalize vp_updL f193 (x192 : Int32).toNatClampNeg (-1) = f221 at hP hD q222
                obtain ⟨x223, ex223⟩ : ∃ y : Int32, y = x192 + 1 := ⟨_, rfl⟩
                refine lv_iinc (v := x223) (lv' := [(5, .int x223), (4, .int Va1), (3, .int 0), (0, .ref Ad5), (1, .int Va0), (2, .int Va1)]) hx hb dX12_add_106 hl (k := 0) rfl (by rw [ex223]; rfl) (by decide) rfl (fun ls hl => ?_)
                have tx223 : x223.toInt = x192.toInt + (1 : Int32).toInt := by rw [ex223]; exact i_add (by have bd_x192 := i_bd x192; (try simp only [i_lt, i_le, i_eq, kc_1] at t195 h197 h196 c199 gv_Va1 ⊢); omega) (by have bd_x192 := i_bd x192; (try simp only [i_lt, i_le, i_eq, kc_1] at t195 h197 h196 c199 gv_Va1 ⊢); omega)
                refine lv_goto (tgt := 69) hx hb dX12_add_109 (by decide) ?_
                exact ih (j191 + 1) x223 f221 (by rw [ex223, e194]; exact nI_1 _) (by omega) (by (try simp only [i_lt, i_le, i_eq, kc_1] at t195 h197 h196 c199 tx223 gv_Va1); omega) (by omega)  _ _ _ (hP.sub [0, 1, 2, 3, 4, 5] rfl) (hD.sub [0, 1, 2, 3, 4, 5] (by decide) rfl) hS  (lv_sub hl [0, 1, 2, 3, 4, 5] rfl)
            · exact (by exfalso; (try simp only [i_lt, i_le, i_eq, kc_0, kc_29] at gv_Va0 c108 c109 c122 c123 c213 c214 c215); omega)
      exact HL1 61 0 (0) Fa4 (by decide) (by omega) (by omega) (by omega)  _ _ _ hP hD hS  hl

