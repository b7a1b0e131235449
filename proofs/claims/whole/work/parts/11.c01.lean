theorem kc_m1 : (-1 : Int32).toInt = -1 := by decide
theorem kc_40 : (40 : Int32).toInt = 40 := by decide
theorem kc_360 : (360 : Int32).toInt = 360 := by decide
theorem kc_512 : (512 : Int32).toInt = 512 := by decide
def l_z_X9_putReady : List Cond := [.fieldLink RX9 15 "HeapWorks$Tape" "ready" "[I"]
def w_z_X9_putReady : List Cond := .code yX9_putReady cX9_putReady 4 none :: (l_z_X9_putReady ++ (wsX90))
theorem in_z_X9_putReady_X9 : ∀ w ∈ wsX90, w ∈ w_z_X9_putReady := fun w h => List.mem_cons_of_mem _ (List.mem_append_right _ (h))
set_option maxHeartbeats 4000000 in
set_option maxRecDepth 100000 in
theorem z_X9_putReady (l : Launch) (dC : Nat → ClassId) (dI : Nat → Nat → Nat) (sz : Nat) (Ad0 : Nat) (Fs0 : List Value) (Ad1 : Nat) (Fa0 : Nat → Int32) (Ka0 : ClassId) (Va0 : Int32) (k_Fs0 : fh Fs0 12 [(2, .ref Ad1)])  : Met l yX9_putReady w_z_X9_putReady ({ frames := 0, cells := 0, slots := 0, locals := 0 }) (va_Pc [.ref Ad0, .int 0, .int Va0] (fun U => U.heap.size = sz ∧ Wd dC dI [(Ka0, .int)] (fun _ => True) [(Ad0, .inr (12, Fs0)), (Ad1, .inl (Ka0, 20, .inl Fa0))] U)) (va_Qv (fun (u : (Nat → Int32)) => True) (fun (u : (Nat → Int32)) t => Wd dC dI [(Ka0, .int)] (va_A [(Ad0, .inr (12, Fs0)), (Ad1, .inl (Ka0, 20, .inl Fa0))] sz) [(Ad0, .inr (12, Fs0)), (Ad1, .inl (Ka0, 20, .inl ((u))))] t) (va_A [(Ad0, .inr (12, Fs0)), (Ad1, .inl (Ka0, 20, .inl Fa0))] sz))  0 0 (va_A [(Ad0, .inr (12, Fs0)), (Ad1, .inl (Ka0, 20, .inl Fa0))] sz) := by
  refine Met.ofW (cc := cX9_putReady) (maxL := 4) (ret := none) (by decide) rfl ?_
  intro p e s m args below meth c s₁ B hml hv
  obtain ⟨rfl, hsz, hP, hK, hD0⟩ := hv
  have hx := B.exec
  have hb := B.bytes
  have hr := B.returns
  have hts := atoms_spec (ws := w_z_X9_putReady) B.pre
  have hown : s.vm.findClass RX9 = some m.cls := findClass_of_methodNamed B.named
  have hlocks := B.notSynchronized
  subst hsz
  have hD := hD0.self (sz := s.heap.size)
  generalize hAe : va_A [(Ad0, .inr (12, Fs0)), (Ad1, .inl (Ka0, 20, .inl Fa0))] s.heap.size = A at hD ⊢
  have hA : ∀ q : Nat, s.heap.size ≤ q → A q := fun q h => by rw [← hAe]; exact Or.inr h
  have hS : va_S A s.heap s.heap [] := va_S.rf
  have hl := lv_entry ([.ref Ad0, .int 0, .int Va0]) (n := 4) (Nat.le_of_ble_eq_true rfl)
  rw [lg_entry_eq]
  generalize (lg_sl ([.ref Ad0, .int 0, .int Va0]) ++ List.replicate (4 - (lg_sl ([.ref Ad0, .int 0, .int Va0])).length) Slot.unset).toArray = ls at hl ⊢
  have hl : lv_has ls 4 [(0, .ref Ad0), (1, .int 0), (2, .int Va0)] := hl
  have o_Fs0 := ow_0 k_Fs0
  refine lv_iconst (v := 0) hx hb dX9_putReady_0 (by decide) ?_
  refine lv_istore_n (lv' := [(3, .int 0), (0, .ref Ad0), (1, .int 0), (2, .int Va0)]) hx hb dX9_putReady_1 rfl hl (by decide) rfl (fun ls hl => ?_)
  refine lv_iload_n hx hb dX9_putReady_2 rfl (lv_at hl 0 rfl) ?_
  refine lv_iconst (v := 4) hx hb dX9_putReady_3 (by decide) ?_
  refine lv_icmp_ge (tgt := 42) hx hb dX9_putReady_4 (by decide) (fun c48 => absurd c48 (by decide)) (fun c48 => ?_)
  refine lv_iload_n hx hb dX9_putReady_7 rfl (lv_at hl 2 rfl) ?_
  refine lv_iload_n hx hb dX9_putReady_8 rfl (lv_at hl 0 rfl) ?_
  refine lv_iadd hx hb dX9_putReady_9  ?_
  refine lv_topi (fun x49 ex49 => ?_)
  obtain rfl : x49 = 0 := ex49.trans (by decide)
  refine lv_bipush (v := 20) hx hb dX9_putReady_10 (by decide) ?_
  refine lv_icmp_ge (tgt := 42) hx hb dX9_putReady_12 (by decide) (fun c50 => absurd c50 (by decide)) (fun c50 => ?_)
  refine lv_aload_n hx hb dX9_putReady_15 rfl (lv_at hl 1 rfl) ?_
  refine va_get (D := (dC, dI)) (ci := 12) (v := .ref Ad1) (C := RX9) (T := TX9) (N := 12) hx hb hts (in_z_X9_putReady_X9) hown hK hP 0 rfl rfl 2 (by decide) (hts (.fieldLink RX9 15 "HeapWorks$Tape" "ready" "[I") (by decide +kernel)) (fun _ h9 => h9) (ow_at o_Fs0 0 rfl) dX9_putReady_16 ?_
  refine lv_iload_n hx hb dX9_putReady_19 rfl (lv_at hl 2 rfl) ?_
  refine lv_iload_n hx hb dX9_putReady_20 rfl (lv_at hl 0 rfl) ?_
  refine lv_iadd hx hb dX9_putReady_21  ?_
  refine lv_topi (fun x51 ex51 => ?_)
  obtain rfl : x51 = 0 := ex51.trans (by decide)
  refine lv_iload_n hx hb dX9_putReady_22 rfl (lv_at hl 3 rfl) ?_
  refine lv_bipush (v := 24) hx hb dX9_putReady_23 (by decide) ?_
  refine lv_bipush (v := 8) hx hb dX9_putReady_25 (by decide) ?_
  refine lv_iload_n hx hb dX9_putReady_27 rfl (lv_at hl 0 rfl) ?_
  refine lv_imul hx hb dX9_putReady_28  ?_
  refine lv_topi (fun x52 ex52 => ?_)
  obtain rfl : x52 = 0 := ex52.trans (by decide)
  refine lv_isub hx hb dX9_putReady_29  ?_
  refine lv_topi (fun x53 ex53 => ?_)
  obtain rfl : x53 = 24 := ex53.trans (by decide)
  refine lv_iushr hx hb dX9_putReady_30 rfl ?_
  refine lv_topi (fun x54 ex54 => ?_)
  refine lv_sipush (v := 255) hx hb dX9_putReady_31 (by decide) ?_
  refine lv_iand hx hb dX9_putReady_34  ?_
  refine lv_topi (fun x55 ex55 => ?_)
  refine va_iast hx hb hK hP hD hS 1 0 rfl rfl (show vp_in 0 20 from by unfold vp_in; decide) dX9_putReady_35 (fun H locs hP hD hS => ?_)
  have hP : va_P (dC, dI) vwCl [(Ad0, .inr (12, Fs0)), (Ad1, .inl (Ka0, 20, .inl (upd Fa0 (0 : Int32).toNatClampNeg x55)))] H := hP
  have hD : va_D A [(Ad0, .inr (12, Fs0)), (Ad1, .inl (Ka0, 20, .inl (upd Fa0 (0 : Int32).toNatClampNeg x55)))] := hD
  have q57 : (upd Fa0 (0 : Int32).toNatClampNeg x55) (0 : Int32).toNatClampNeg = x55 := pk_us
  generalize upd Fa0 (0 : Int32).toNatClampNeg x55 = f56 at hP hD q57
  refine lv_iinc (v := 1) (lv' := [(3, .int 1), (0, .ref Ad0), (1, .int 0), (2, .int Va0)]) hx hb dX9_putReady_36 hl (k := 0) rfl (by decide) (by decide) rfl (fun ls hl => ?_)
  refine lv_goto (tgt := 2) hx hb dX9_putReady_39 (by decide) ?_
  refine lv_iload_n hx hb dX9_putReady_2 rfl (lv_at hl 0 rfl) ?_
  refine lv_iconst (v := 4) hx hb dX9_putReady_3 (by decide) ?_
  refine lv_icmp_ge (tgt := 42) hx hb dX9_putReady_4 (by decide) (fun c58 => absurd c58 (by decide)) (fun c58 => ?_)
  refine lv_iload_n hx hb dX9_putReady_7 rfl (lv_at hl 2 rfl) ?_
  refine lv_iload_n hx hb dX9_putReady_8 rfl (lv_at hl 0 rfl) ?_
  refine lv_iadd hx hb dX9_putReady_9  ?_
  refine lv_topi (fun x59 ex59 => ?_)
  obtain rfl : x59 = 1 := ex59.trans (by decide)
  refine lv_bipush (v := 20) hx hb dX9_putReady_10 (by decide) ?_
  refine lv_icmp_ge (tgt := 42) hx hb dX9_putReady_12 (by decide) (fun c60 => absurd c60 (by decide)) (fun c60 => ?_)
  refine lv_aload_n hx hb dX9_putReady_15 rfl (lv_at hl 1 rfl) ?_
  refine va_get (D := (dC, dI)) (ci := 12) (v := .ref Ad1) (C := RX9) (T := TX9) (N := 12) hx hb hts (in_z_X9_putReady_X9) hown hK hP 0 rfl rfl 2 (by decide) (hts (.fieldLink RX9 15 "HeapWorks$Tape" "ready" "[I") (by decide +kernel)) (fun _ h9 => h9) (ow_at o_Fs0 0 rfl) dX9_putReady_16 ?_
  refine lv_iload_n hx hb dX9_putReady_19 rfl (lv_at hl 2 rfl) ?_
  refine lv_iload_n hx hb dX9_putReady_20 rfl (lv_at hl 0 rfl) ?_
  refine lv_iadd hx hb dX9_putReady_21  ?_
  refine lv_topi (fun x61 ex61 => ?_)
  obtain rfl : x61 = 1 := ex61.trans (by decide)
  refine lv_iload_n hx hb dX9_putReady_22 rfl (lv_at hl 3 rfl) ?_
  refine lv_bipush (v := 24) hx hb dX9_putReady_23 (by decide) ?_
  refine lv_bipush (v := 8) hx hb dX9_putReady_25 (by decide) ?_
  refine lv_iload_n hx hb dX9_putReady_27 rfl (lv_at hl 0 rfl) ?_
  refine lv_imul hx hb dX9_putReady_28  ?_
  refine lv_topi (fun x62 ex62 => ?_)
  obtain rfl : x62 = 8 := ex62.trans (by decide)
  refine lv_isub hx hb dX9_putReady_29  ?_
  refine lv_topi (fun x63 ex63 => ?_)
  obtain rfl : x63 = 16 := ex63.trans (by decide)
  refine lv_iushr hx hb dX9_putReady_30 rfl ?_
  refine lv_topi (fun x64 ex64 => ?_)
  refine lv_sipush (v := 255) hx hb dX9_putReady_31 (by decide) ?_
  refine lv_iand hx hb dX9_putReady_34  ?_
  refine lv_topi (fun x65 ex65 => ?_)
  refine va_iast hx hb hK hP hD hS 1 0 rfl rfl (show vp_in 1 20 from by unfold vp_in; decide) dX9_putReady_35 (fun H locs hP hD hS => ?_)
  have hP : va_P (dC, dI) vwCl [(Ad0, .inr (12, Fs0)), (Ad1, .inl (Ka0, 20, .inl (upd f56 (1 : Int32).toNatClampNeg x65)))] H := hP
  have hD : va_D A [(Ad0, .inr (12, Fs0)), (Ad1, .inl (Ka0, 20, .inl (upd f56 (1 : Int32).toNatClampNeg x65)))] := hD
  have q67 : (upd f56 (1 : Int32).toNatClampNeg x65) (0 : Int32).toNatClampNeg = x55 := (kn_ne (by decide)).trans q57
  have q68 : (upd f56 (1 : Int32).toNatClampNeg x65) (1 : Int32).toNatClampNeg = x65 := pk_us
  generalize upd f56 (1 : Int32).toNatClampNeg x65 = f66 at hP hD q67 q68
  refine lv_iinc (v := 2) (lv' := [(3, .int 2), (0, .ref Ad0), (1, .int 0), (2, .int Va0)]) hx hb dX9_putReady_36 hl (k := 0) rfl (by decide) (by decide) rfl (fun ls hl => ?_)
  refine lv_goto (tgt := 2) hx hb dX9_putReady_39 (by decide) ?_
  refine lv_iload_n hx hb dX9_putReady_2 rfl (lv_at hl 0 rfl) ?_
  refine lv_iconst (v := 4) hx hb dX9_putReady_3 (by decide) ?_
  refine lv_icmp_ge (tgt := 42) hx hb dX9_putReady_4 (by decide) (fun c69 => absurd c69 (by decide)) (fun c69 => ?_)
  refine lv_iload_n hx hb dX9_putReady_7 rfl (lv_at hl 2 rfl) ?_
  refine lv_iload_n hx hb dX9_putReady_8 rfl (lv_at hl 0 rfl) ?_
  refine lv_iadd hx hb dX9_putReady_9  ?_
  refine lv_topi (fun x70 ex70 => ?_)
  obtain rfl : x70 = 2 := ex70.trans (by decide)
  refine lv_bipush (v := 20) hx hb dX9_putReady_10 (by decide) ?_
  refine lv_icmp_ge (tgt := 42) hx hb dX9_putReady_12 (by decide) (fun c71 => absurd c71 (by decide)) (fun c71 => ?_)
  refine lv_aload_n hx hb dX9_putReady_15 rfl (lv_at hl 1 rfl) ?_
  refine va_get (D := (dC, dI)) (ci := 12) (v := .ref Ad1) (C := RX9) (T := TX9) (N := 12) hx hb hts (in_z_X9_putReady_X9) hown hK hP 0 rfl rfl 2 (by decide) (hts (.fieldLink RX9 15 "HeapWorks$Tape" "ready" "[I") (by decide +kernel)) (fun _ h9 => h9) (ow_at o_Fs0 0 rfl) dX9_putReady_16 ?_
  refine lv_iload_n hx hb dX9_putReady_19 rfl (lv_at hl 2 rfl) ?_
  refine lv_iload_n hx hb dX9_putReady_20 rfl (lv_at hl 0 rfl) ?_
  refine lv_iadd hx hb dX9_putReady_21  ?_
  refine lv_topi (fun x72 ex72 => ?_)
  obtain rfl : x72 = 2 := ex72.trans (by decide)
  refine lv_iload_n hx hb dX9_putReady_22 rfl (lv_at hl 3 rfl) ?_
  refine lv_bipush (v := 24) hx hb dX9_putReady_23 (by decide) ?_
  refine lv_bipush (v := 8) hx hb dX9_putReady_25 (by decide) ?_
  refine lv_iload_n hx hb dX9_putReady_27 rfl (lv_at hl 0 rfl) ?_
  refine lv_imul hx hb dX9_putReady_28  ?_
  refine lv_topi (fun x73 ex73 => ?_)
  obtain rfl : x73 = 16 := ex73.trans (by decide)
  refine lv_isub hx hb dX9_putReady_29  ?_
  refine lv_topi (fun x74 ex74 => ?_)
  obtain rfl : x74 = 8 := ex74.trans (by decide)
  refine lv_iushr hx hb dX9_putReady_30 rfl ?_
  refine lv_topi (fun x75 ex75 => ?_)
  refine lv_sipush (v := 255) hx hb dX9_putReady_31 (by decide) ?_
  refine lv_iand hx hb dX9_putReady_34  ?_
  refine lv_topi (fun x76 ex76 => ?_)
  refine va_iast hx hb hK hP hD hS 1 0 rfl rfl (show vp_in 2 20 from by unfold vp_in; decide) dX9_putReady_35 (fun H locs hP hD hS => ?_)
  have hP : va_P (dC, dI) vwCl [(Ad0, .inr (12, Fs0)), (Ad1, .inl (Ka0, 20, .inl (upd f66 (2 : Int32).toNatClampNeg x76)))] H := hP
  have hD : va_D A [(Ad0, .inr (12, Fs0)), (Ad1, .inl (Ka0, 20, .inl (upd f66 (2 : Int32).toNatClampNeg x76)))] := hD
  have q78 : (upd f66 (2 : Int32).toNatClampNeg x76) (0 : Int32).toNatClampNeg = x55 := (kn_ne (by decide)).trans q67
  have q79 : (upd f66 (2 : Int32).toNatClampNeg x76) (1 : Int32).toNatClampNeg = x65 := (kn_ne (by decide)).trans q68
  have q80 : (upd f66 (2 : Int32).toNatClampNeg x76) (2 : Int32).toNatClampNeg = x76 := pk_us
  generalize upd f66 (2 : Int32).toNatClampNeg x76 = f77 at hP hD q78 q79 q80
  refine lv_iinc (v := 3) (lv' := [(3, .int 3), (0, .ref Ad0), (1, .int 0), (2, .int Va0)]) hx hb dX9_putReady_36 hl (k := 0) rfl (by decide) (by decide) rfl (fun ls hl => ?_)
  refine lv_goto (tgt := 2) hx hb dX9_putReady_39 (by decide) ?_
  refine lv_iload_n hx hb dX9_putReady_2 rfl (lv_at hl 0 rfl) ?_
  refine lv_iconst (v := 4) hx hb dX9_putReady_3 (by decide) ?_
  refine lv_icmp_ge (tgt := 42) hx hb dX9_putReady_4 (by decide) (fun c81 => absurd c81 (by decide)) (fun c81 => ?_)
  refine lv_iload_n hx hb dX9_putReady_7 rfl (lv_at hl 2 rfl) ?_
  refine lv_iload_n hx hb dX9_putReady_8 rfl (lv_at hl 0 rfl) ?_
  refine lv_iadd hx hb dX9_putReady_9  ?_
  refine lv_topi (fun x82 ex82 => ?_)
  obtain rfl : x82 = 3 := ex82.trans (by decide)
  refine lv_bipush (v := 20) hx hb dX9_putReady_10 (by decide) ?_
  refine lv_icmp_ge (tgt := 42) hx hb dX9_putReady_12 (by decide) (fun c83 => absurd c83 (by decide)) (fun c83 => ?_)
  refine lv_aload_n hx hb dX9_putReady_15 rfl (lv_at hl 1 rfl) ?_
  refine va_get (D := (dC, dI)) (ci := 12) (v := .ref Ad1) (C := RX9) (T := TX9) (N := 12) hx hb hts (in_z_X9_putReady_X9) hown hK hP 0 rfl rfl 2 (by decide) (hts (.fieldLink RX9 15 "HeapWorks$Tape" "ready" "[I") (by decide +kernel)) (fun _ h9 => h9) (ow_at o_Fs0 0 rfl) dX9_putReady_16 ?_
  refine lv_iload_n hx hb dX9_putReady_19 rfl (lv_at hl 2 rfl) ?_
  refine lv_iload_n hx hb dX9_putReady_20 rfl (lv_at hl 0 rfl) ?_
  refine lv_iadd hx hb dX9_putReady_21  ?_
  refine lv_topi (fun x84 ex84 => ?_)
  obtain rfl : x84 = 3 := ex84.trans (by decide)
  refine lv_iload_n hx hb dX9_putReady_22 rfl (lv_at hl 3 rfl) ?_
  refine lv_bipush (v := 24) hx hb dX9_putReady_23 (by decide) ?_
  refine lv_bipush (v := 8) hx hb dX9_putReady_25 (by decide) ?_
  refine lv_iload_n hx hb dX9_putReady_27 rfl (lv_at hl 0 rfl) ?_
  refine lv_imul hx hb dX9_putReady_28  ?_
  refine lv_topi (fun x85 ex85 => ?_)
  obtain rfl : x85 = 24 := ex85.trans (by decide)
  refine lv_isub hx hb dX9_putReady_29  ?_
  refine lv_topi (fun x86 ex86 => ?_)
  obtain rfl : x86 = 0 := ex86.trans (by decide)
  refine lv_iushr hx hb dX9_putReady_30 rfl ?_
  refine lv_topi (fun x87 ex87 => ?_)
  refine lv_sipush (v := 255) hx hb dX9_putReady_31 (by decide) ?_
  refine lv_iand hx hb dX9_putReady_34  ?_
  refine lv_topi (fun x88 ex88 => ?_)
  refine va_iast hx hb hK hP hD hS 1 0 rfl rfl (show vp_in 3 20 from by unfold vp_in; decide) dX9_putReady_35 (fun H locs hP hD hS => ?_)
  have hP : va_P (dC, dI) vwCl [(Ad0, .inr (12, Fs0)), (Ad1, .inl (Ka0, 20, .inl (upd f77 (3 : Int32).toNatClampNeg x88)))] H := hP
  have hD : va_D A [(Ad0, .inr (12, Fs0)), (Ad1, .inl (Ka0, 20, .inl (upd f77 (3 : Int32).toNatClampNeg x88)))] := hD
  have q90 : (upd f77 (3 : Int32).toNatClampNeg x88) (0 : Int32).toNatClampNeg = x55 := (kn_ne (by decide)).trans q78
  have q91 : (upd f77 (3 : Int32).toNatClampNeg x88) (1 : Int32).toNatClampNeg = x65 := (kn_ne (by decide)).trans q79
  have q92 : (upd f77 (3 : Int32).toNatClampNeg x88) (2 : Int32).toNatClampNeg = x76 := (kn_ne (by decide)).trans q80
  have q93 : (upd f77 (3 : Int32).toNatClampNeg x88) (3 : Int32).toNatClampNeg = x88 := pk_us
  generalize upd f77 (3 : Int32).toNatClampNeg x88 = f89 at hP hD q90 q91 q92 q93
  refine lv_iinc (v := 4) (lv' := [(3, .int 4), (0, .ref Ad0), (1, .int 0), (2, .int Va0)]) hx hb dX9_putReady_36 hl (k := 0) rfl (by decide) (by decide) rfl (fun ls hl => ?_)
  refine lv_goto (tgt := 2) hx hb dX9_putReady_39 (by decide) ?_
  refine lv_iload_n hx hb dX9_putReady_2 rfl (lv_at hl 0 rfl) ?_
  refine lv_iconst (v := 4) hx hb dX9_putReady_3 (by decide) ?_
  refine lv_icmp_ge (tgt := 42) hx hb dX9_putReady_4 (by decide) (fun c94 => ?_) (fun c94 => absurd c94 (by decide))
  have hP9 := hP.sub (ws' := [(Ad0, .inr (12, Fs0)), (Ad1, .inl (Ka0, 20, .inl f89))]) [0, 1] rfl
  have hD9 := hD.sub (ws' := [(Ad0, .inr (12, Fs0)), (Ad1, .inl (Ka0, 20, .inl f89))]) [0, 1] (by decide) rfl
  have hK9 := hK.sub (tys' := [(Ka0, .int)]) [0] rfl
  exact W.vret hx hb hr (fun t ht hW => ⟨⟨f89, rfl, trivial, by rw [ht]; exact hP9, va_K.moved hW.alike hK9, hD9⟩, hS.F ht⟩) hS.2.2 dX9_putReady_42

def l_z_X9_putReady_1 : List Cond := [.fieldLink RX9 15 "HeapWorks$Tape" "ready" "[I"]
def w_z_X9_putReady_1 : List Cond := .code yX9_putReady cX9_putReady 4 none :: (l_z_X9_putReady_1 ++ (wsX90))
theorem in_z_X9_putReady_1_X9 : ∀ w ∈ wsX90, w ∈ w_z_X9_putReady_1 := fun w h => List.mem_cons_of_mem _ (List.mem_append_right _ (h))
set_option maxHeartbeats 4000000 in
set_option maxRecDepth 100000 in
theorem z_X9_putReady_1 (l : Launch) (dC : Nat → ClassId) (dI : Nat → Nat → Nat) (sz : Nat) (Ad0 : Nat) (Fs0 : List Value) (Ad1 : Nat) (Fa0 : Nat → Int32) (Ka0 : ClassId) (Va0 : Int32) (k_Fs0 : fh Fs0 12 [(2, .ref Ad1)])  : Met l yX9_putReady w_z_X9_putReady_1 ({ frames := 0, cells := 0, slots := 0, locals := 0 }) (va_Pc [.ref Ad0, .int 4, .int Va0] (fun U => U.heap.size = sz ∧ Wd dC dI [(Ka0, .int)] (fun _ => True) [(Ad0, .inr (12, Fs0)), (Ad1, .inl (Ka0, 20, .inl Fa0))] U)) (va_Qv (fun (u : (Nat → Int32)) => True) (fun (u : (Nat → Int32)) t => Wd dC dI [(Ka0, .int)] (va_A [(Ad0, .inr (12, Fs0)), (Ad1, .inl (Ka0, 20, .inl Fa0))] sz) [(Ad0, .inr (12, Fs0)), (Ad1, .inl (Ka0, 20, .inl ((u))))] t) (va_A [(Ad0, .inr (12, Fs0)), (Ad1, .inl (Ka0, 20, .inl Fa0))] sz))  0 0 (va_A [(Ad0, .inr (12, Fs0)), (Ad1, .inl (Ka0, 20, .inl Fa0))] sz) := by
  refine Met.ofW (cc := cX9_putReady) (maxL := 4) (ret := none) (by decide) rfl ?_
  intro p e s m args below meth c s₁ B hml hv
  obtain ⟨rfl, hsz, hP, hK, hD0⟩ := hv
  have hx := B.exec
  have hb := B.bytes
  have hr := B.returns
  have hts := atoms_spec (ws := w_z_X9_putReady_1) B.pre
  have hown : s.vm.findClass RX9 = some m.cls := findClass_of_methodNamed B.named
  have hlocks := B.notSynchronized
  subst hsz
  have hD := hD0.self (sz := s.heap.size)
  generalize hAe : va_A [(Ad0, .inr (12, Fs0)), (Ad1, .inl (Ka0, 20, .inl Fa0))] s.heap.size = A at hD ⊢
  have hA : ∀ q : Nat, s.heap.size ≤ q → A q := fun q h => by rw [← hAe]; exact Or.inr h
  have hS : va_S A s.heap s.heap [] := va_S.rf
  have hl := lv_entry ([.ref Ad0, .int 4, .int Va0]) (n := 4) (Nat.le_of_ble_eq_true rfl)
  rw [lg_entry_eq]
  generalize (lg_sl ([.ref Ad0, .int 4, .int Va0]) ++ List.replicate (4 - (lg_sl ([.ref Ad0, .int 4, .int Va0])).length) Slot.unset).toArray = ls at hl ⊢
  have hl : lv_has ls 4 [(0, .ref Ad0), (1, .int 4), (2, .int Va0)] := hl
  have o_Fs0 := ow_0 k_Fs0
  refine lv_iconst (v := 0) hx hb dX9_putReady_0 (by decide) ?_
  refine lv_istore_n (lv' := [(3, .int 0), (0, .ref Ad0), (1, .int 4), (2, .int Va0)]) hx hb dX9_putReady_1 rfl hl (by decide) rfl (fun ls hl => ?_)
  refine lv_iload_n hx hb dX9_putReady_2 rfl (lv_at hl 0 rfl) ?_
  refine lv_iconst (v := 4) hx hb dX9_putReady_3 (by decide) ?_
  refine lv_icmp_ge (tgt := 42) hx hb dX9_putReady_4 (by decide) (fun c143 => absurd c143 (by decide)) (fun c143 => ?_)
  refine lv_iload_n hx hb dX9_putReady_7 rfl (lv_at hl 2 rfl) ?_
  refine lv_iload_n hx hb dX9_putReady_8 rfl (lv_at hl 0 rfl) ?_
  refine lv_iadd hx hb dX9_putReady_9  ?_
  refine lv_topi (fun x144 ex144 => ?_)
  obtain rfl : x144 = 4 := ex144.trans (by decide)
  refine lv_bipush (v := 20) hx hb dX9_putReady_10 (by decide) ?_
  refine lv_icmp_ge (tgt := 42) hx hb dX9_putReady_12 (by decide) (fun c145 => absurd c145 (by decide)) (fun c145 => ?_)
  refine lv_aload_n hx hb dX9_putReady_15 rfl (lv_at hl 1 rfl) ?_
  refine va_get (D := (dC, dI)) (ci := 12) (v := .ref Ad1) (C := RX9) (T := TX9) (N := 12) hx hb hts (in_z_X9_putReady_1_X9) hown hK hP 0 rfl rfl 2 (by decide) (hts (.fieldLink RX9 15 "HeapWorks$Tape" "ready" "[I") (by decide +kernel)) (fun _ h9 => h9) (ow_at o_Fs0 0 rfl) dX9_putReady_16 ?_
  refine lv_iload_n hx hb dX9_putReady_19 rfl (lv_at hl 2 rfl) ?_
  refine lv_iload_n hx hb dX9_putReady_20 rfl (lv_at hl 0 rfl) ?_
  refine lv_iadd hx hb dX9_putReady_21  ?_
  refine lv_topi (fun x146 ex146 => ?_)
  obtain rfl : x146 = 4 := ex146.trans (by decide)
  refine lv_iload_n hx hb dX9_putReady_22 rfl (lv_at hl 3 rfl) ?_
  refine lv_bipush (v := 24) hx hb dX9_putReady_23 (by decide) ?_
  refine lv_bipush (v := 8) hx hb dX9_putReady_25 (by decide) ?_
  refine lv_iload_n hx hb dX9_putReady_27 rfl (lv_at hl 0 rfl) ?_
  refine lv_imul hx hb dX9_putReady_28  ?_
  refine lv_topi (fun x147 ex147 => ?_)
  obtain rfl : x147 = 0 := ex147.trans (by decide)
  refine lv_isub hx hb dX9_putReady_29  ?_
  refine lv_topi (fun x148 ex148 => ?_)
  obtain rfl : x148 = 24 := ex148.trans (by decide)
  refine lv_iushr hx hb dX9_putReady_30 rfl ?_
  refine lv_topi (fun x149 ex149 => ?_)
  refine lv_sipush (v := 255) hx hb dX9_putReady_31 (by decide) ?_
  refine lv_iand hx hb dX9_putReady_34  ?_
  refine lv_topi (fun x150 ex150 => ?_)
  refine va_iast hx hb hK hP hD hS 1 0 rfl rfl (show vp_in 4 20 from by unfold vp_in; decide) dX9_putReady_35 (fun H locs hP hD hS => ?_)
  have hP : va_P (dC, dI) vwCl [(Ad0, .inr (12, Fs0)), (Ad1, .inl (Ka0, 20, .inl (upd Fa0 (4 : Int32).toNatClampNeg x150)))] H := hP
  have hD : va_D A [(Ad0, .inr (12, Fs0)), (Ad1, .inl (Ka0, 20, .inl (upd Fa0 (4 : Int32).toNatClampNeg x150)))] := hD
  have q152 : (upd Fa0 (4 : Int32).toNatClampNeg x150) (4 : Int32).toNatClampNeg = x150 := pk_us
  generalize upd Fa0 (4 : Int32).toNatClampNeg x150 = f151 at hP hD q152
  refine lv_iinc (v := 1) (lv' := [(3, .int 1), (0, .ref Ad0), (1, .int 4), (2, .int Va0)]) hx hb dX9_putReady_36 hl (k := 0) rfl (by decide) (by decide) rfl (fun ls hl => ?_)
  refine lv_goto (tgt := 2) hx hb dX9_putReady_39 (by decide) ?_
  refine lv_iload_n hx hb dX9_putReady_2 rfl (lv_at hl 0 rfl) ?_
  refine lv_iconst (v := 4) hx hb dX9_putReady_3 (by decide) ?_
  refine lv_icmp_ge (tgt := 42) hx hb dX9_putReady_4 (by decide) (fun c153 => absurd c153 (by decide)) (fun c153 => ?_)
  refine lv_iload_n hx hb dX9_putReady_7 rfl (lv_at hl 2 rfl) ?_
  refine lv_iload_n hx hb dX9_putReady_8 rfl (lv_at hl 0 rfl) ?_
  refine lv_iadd hx hb dX9_putReady_9  ?_
  refine lv_topi (fun x154 ex154 => ?_)
  obtain rfl : x154 = 5 := ex154.trans (by decide)
  refine lv_bipush (v := 20) hx hb dX9_putReady_10 (by decide) ?_
  refine lv_icmp_ge (tgt := 42) hx hb dX9_putReady_12 (by decide) (fun c155 => absurd c155 (by decide)) (fun c155 => ?_)
  refine lv_aload_n hx hb dX9_putReady_15 rfl (lv_at hl 1 rfl) ?_
  refine va_get (D := (dC, dI)) (ci := 12) (v := .ref Ad1) (C := RX9) (T := TX9) (N := 12) hx hb hts (in_z_X9_putReady_1_X9) hown hK hP 0 rfl rfl 2 (by decide) (hts (.fieldLink RX9 15 "HeapWorks$Tape" "ready" "[I") (by decide +kernel)) (fun _ h9 => h9) (ow_at o_Fs0 0 rfl) dX9_putReady_16 ?_
  refine lv_iload_n hx hb dX9_putReady_19 rfl (lv_at hl 2 rfl) ?_
  refine lv_iload_n hx hb dX9_putReady_20 rfl (lv_at hl 0 rfl) ?_
  refine lv_iadd hx hb dX9_putReady_21  ?_
  refine lv_topi (fun x156 ex156 => ?_)
  obtain rfl : x156 = 5 := ex156.trans (by decide)
  refine lv_iload_n hx hb dX9_putReady_22 rfl (lv_at hl 3 rfl) ?_
  refine lv_bipush (v := 24) hx hb dX9_putReady_23 (by decide) ?_
  refine lv_bipush (v := 8) hx hb dX9_putReady_25 (by decide) ?_
  refine lv_iload_n hx hb dX9_putReady_27 rfl (lv_at hl 0 rfl) ?_
  refine lv_imul hx hb dX9_putReady_28  ?_
  refine lv_topi (fun x157 ex157 => ?_)
  obtain rfl : x157 = 8 := ex157.trans (by decide)
  refine lv_isub hx hb dX9_putReady_29  ?_
  refine lv_topi (fun x158 ex158 => ?_)
  obtain rfl : x158 = 16 := ex158.trans (by decide)
  refine lv_iushr hx hb dX9_putReady_30 rfl ?_
  refine lv_topi (fun x159 ex159 => ?_)
  refine lv_sipush (v := 255) hx hb dX9_putReady_31 (by decide) ?_
  refine lv_iand hx hb dX9_putReady_34  ?_
  refine lv_topi (fun x160 ex160 => ?_)
  refine va_iast hx hb hK hP hD hS 1 0 rfl rfl (show vp_in 5 20 from by unfold vp_in; decide) dX9_putReady_35 (fun H locs hP hD hS => ?_)
  have hP : va_P (dC, dI) vwCl [(Ad0, .inr (12, Fs0)), (Ad1, .inl (Ka0, 20, .inl (upd f151 (5 : Int32).toNatClampNeg x160)))] H := hP
  have hD : va_D A [(Ad0, .inr (12, Fs0)), (Ad1, .inl (Ka0, 20, .inl (upd f151 (5 : Int32).toNatClampNeg x160)))] := hD
  have q162 : (upd f151 (5 : Int32).toNatClampNeg x160) (4 : Int32).toNatClampNeg = x150 := (kn_ne (by decide)).trans q152
  have q163 : (upd f151 (5 : Int32).toNatClampNeg x160) (5 : Int32).toNatClampNeg = x160 := pk_us
  generalize upd f151 (5 : Int32).toNatClampNeg x160 = f161 at hP hD q162 q163
  refine lv_iinc (v := 2) (lv' := [(3, .int 2), (0, .ref Ad0), (1, .int 4), (2, .int Va0)]) hx hb dX9_putReady_36 hl (k := 0) rfl (by decide) (by decide) rfl (fun ls hl => ?_)
  refine lv_goto (tgt := 2) hx hb dX9_putReady_39 (by decide) ?_
  refine lv_iload_n hx hb dX9_putReady_2 rfl (lv_at hl 0 rfl) ?_
  refine lv_iconst (v := 4) hx hb dX9_putReady_3 (by decide) ?_
  refine lv_icmp_ge (tgt := 42) hx hb dX9_putReady_4 (by decide) (fun c164 => absurd c164 (by decide)) (fun c164 => ?_)
  refine lv_iload_n hx hb dX9_putReady_7 rfl (lv_at hl 2 rfl) ?_
  refine lv_iload_n hx hb dX9_putReady_8 rfl (lv_at hl 0 rfl) ?_
  refine lv_iadd hx hb dX9_putReady_9  ?_
  refine lv_topi (fun x165 ex165 => ?_)
  obtain rfl : x165 = 6 := ex165.trans (by decide)
  refine lv_bipush (v := 20) hx hb dX9_putReady_10 (by decide) ?_
  refine lv_icmp_ge (tgt := 42) hx hb dX9_putReady_12 (by decide) (fun c166 => absurd c166 (by decide)) (fun c166 => ?_)
  refine lv_aload_n hx hb dX9_putReady_15 rfl (lv_at hl 1 rfl) ?_
  refine va_get (D := (dC, dI)) (ci := 12) (v := .ref Ad1) (C := RX9) (T := TX9) (N := 12) hx hb hts (in_z_X9_putReady_1_X9) hown hK hP 0 rfl rfl 2 (by decide) (hts (.fieldLink RX9 15 "HeapWorks$Tape" "ready" "[I") (by decide +kernel)) (fun _ h9 => h9) (ow_at o_Fs0 0 rfl) dX9_putReady_16 ?_
  refine lv_iload_n hx hb dX9_putReady_19 rfl (lv_at hl 2 rfl) ?_
  refine lv_iload_n hx hb dX9_putReady_20 rfl (lv_at hl 0 rfl) ?_
  refine lv_iadd hx hb dX9_putReady_21  ?_
  refine lv_topi (fun x167 ex167 => ?_)
  obtain rfl : x167 = 6 := ex167.trans (by decide)
  refine lv_iload_n hx hb dX9_putReady_22 rfl (lv_at hl 3 rfl) ?_
  refine lv_bipush (v := 24) hx hb dX9_putReady_23 (by decide) ?_
  refine lv_bipush (v := 8) hx hb dX9_putReady_25 (by decide) ?_
  refine lv_iload_n hx hb dX9_putReady_27 rfl (lv_at hl 0 rfl) ?_
  refine lv_imul hx hb dX9_putReady_28  ?_
  refine lv_topi (fun x168 ex168 => ?_)
  obtain rfl : x168 = 16 := ex168.trans (by decide)
  refine lv_isub hx hb dX9_putReady_29  ?_
  refine lv_topi (fun x169 ex169 => ?_)
  obtain rfl : x169 = 8 := ex169.trans (by decide)
  refine lv_iushr hx hb dX9_putReady_30 rfl ?_
  refine lv_topi (fun x170 ex170 => ?_)
  refine lv_sipush (v := 255) hx hb dX9_putReady_31 (by decide) ?_
  refine lv_iand hx hb dX9_putReady_34  ?_
  refine lv_topi (fun x171 ex171 => ?_)
  refine va_iast hx hb hK hP hD hS 1 0 rfl rfl (show vp_in 6 20 from by unfold vp_in; decide) dX9_putReady_35 (fun H locs hP hD hS => ?_)
  have hP : va_P (dC, dI) vwCl [(Ad0, .inr (12, Fs0)), (Ad1, .inl (Ka0, 20, .inl (upd f161 (6 : Int32).toNatClampNeg x171)))] H := hP
  have hD : va_D A [(Ad0, .inr (12, Fs0)), (Ad1, .inl (Ka0, 20, .inl (upd f161 (6 : Int32).toNatClampNeg x171)))] := hD
  have q173 : (upd f161 (6 : Int32).toNatClampNeg x171) (4 : Int32).toNatClampNeg = x150 := (kn_ne (by decide)).trans q162
  have q174 : (upd f161 (6 : Int32).toNatClampNeg x171) (5 : Int32).toNatClampNeg = x160 := (kn_ne (by decide)).trans q163
  have q175 : (upd f161 (6 : Int32).toNatClampNeg x171) (6 : Int32).toNatClampNeg = x171 := pk_us
  generalize upd f161 (6 : Int32).toNatClampNeg x171 = f172 at hP hD q173 q174 q175
  refine lv_iinc (v := 3) (lv' := [(3, .int 3), (0, .ref Ad0), (1, .int 4), (2, .int Va0)]) hx hb dX9_putReady_36 hl (k := 0) rfl (by decide) (by decide) rfl (fun ls hl => ?_)
  refine lv_goto (tgt := 2) hx hb dX9_putReady_39 (by decide) ?_
  refine lv_iload_n hx hb dX9_putReady_2 rfl (lv_at hl 0 rfl) ?_
  refine lv_iconst (v := 4) hx hb dX9_putReady_3 (by decide) ?_
  refine lv_icmp_ge (tgt := 42) hx hb dX9_putReady_4 (by decide) (fun c176 => absurd c176 (by decide)) (fun c176 => ?_)
  refine lv_iload_n hx hb dX9_putReady_7 rfl (lv_at hl 2 rfl) ?_
  refine lv_iload_n hx hb dX9_putReady_8 rfl (lv_at hl 0 rfl) ?_
  refine lv_iadd hx hb dX9_putReady_9  ?_
  refine lv_topi (fun x177 ex177 => ?_)
  obtain rfl : x177 = 7 := ex177.trans (by decide)
  refine lv_bipush (v := 20) hx hb dX9_putReady_10 (by decide) ?_
  refine lv_icmp_ge (tgt := 42) hx hb dX9_putReady_12 (by decide) (fun c178 => absurd c178 (by decide)) (fun c178 => ?_)
  refine lv_aload_n hx hb dX9_putReady_15 rfl (lv_at hl 1 rfl) ?_
  refine va_get (D := (dC, dI)) (ci := 12) (v := .ref Ad1) (C := RX9) (T := TX9) (N := 12) hx hb hts (in_z_X9_putReady_1_X9) hown hK hP 0 rfl rfl 2 (by decide) (hts (.fieldLink RX9 15 "HeapWorks$Tape" "ready" "[I") (by decide +kernel)) (fun _ h9 => h9) (ow_at o_Fs0 0 rfl) dX9_putReady_16 ?_
  refine lv_iload_n hx hb dX9_putReady_19 rfl (lv_at hl 2 rfl) ?_
  refine lv_iload_n hx hb dX9_putReady_20 rfl (lv_at hl 0 rfl) ?_
  refine lv_iadd hx hb dX9_putReady_21  ?_
  refine lv_topi (fun x179 ex179 => ?_)
  obtain rfl : x179 = 7 := ex179.trans (by decide)
  refine lv_iload_n hx hb dX9_putReady_22 rfl (lv_at hl 3 rfl) ?_
  refine lv_bipush (v := 24) hx hb dX9_putReady_23 (by decide) ?_
  refine lv_bipush (v := 8) hx hb dX9_putReady_25 (by decide) ?_
  refine lv_iload_n hx hb dX9_putReady_27 rfl (lv_at hl 0 rfl) ?_
  refine lv_imul hx hb dX9_putReady_28  ?_
  refine lv_topi (fun x180 ex180 => ?_)
  obtain rfl : x180 = 24 := ex180.trans (by decide)
  refine lv_isub hx hb dX9_putReady_29  ?_
  refine lv_topi (fun x181 ex181 => ?_)
  obtain rfl : x181 = 0 := ex181.trans (by decide)
  refine lv_iushr hx hb dX9_putReady_30 rfl ?_
  refine lv_topi (fun x182 ex182 => ?_)
  refine lv_sipush (v := 255) hx hb dX9_putReady_31 (by decide) ?_
  refine lv_iand hx hb dX9_putReady_34  ?_
  refine lv_topi (fun x183 ex183 => ?_)
  refine va_iast hx hb hK hP hD hS 1 0 rfl rfl (show vp_in 7 20 from by unfold vp_in; decide) dX9_putReady_35 (fun H locs hP hD hS => ?_)
  have hP : va_P (dC, dI) vwCl [(Ad0, .inr (12, Fs0)), (Ad1, .inl (Ka0, 20, .inl (upd f172 (7 : Int32).toNatClampNeg x183)))] H := hP
  have hD : va_D A [(Ad0, .inr (12, Fs0)), (Ad1, .inl (Ka0, 20, .inl (upd f172 (7 : Int32).toNatClampNeg x183)))] := hD
  have q185 : (upd f172 (7 : Int32).toNatClampNeg x183) (4 : Int32).toNatClampNeg = x150 := (kn_ne (by decide)).trans q173
  have q186 : (upd f172 (7 : Int32).toNatClampNeg x183) (5 : Int32).toNatClampNeg = x160 := (kn_ne (by decide)).trans q174
  have q187 : (upd f172 (7 : Int32).toNatClampNeg x183) (6 : Int32).toNatClampNeg = x171 := (kn_ne (by decide)).trans q175
  have q188 : (upd f172 (7 : Int32).toNatClampNeg x183) (7 : Int32).toNatClampNeg = x183 := pk_us
  generalize upd f172 (7 : Int32).toNatClampNeg x183 = f184 at hP hD q185 q186 q187 q188
  refine lv_iinc (v := 4) (lv' := [(3, .int 4), (0, .ref Ad0), (1, .int 4), (2, .int Va0)]) hx hb dX9_putReady_36 hl (k := 0) rfl (by decide) (by decide) rfl (fun ls hl => ?_)
  refine lv_goto (tgt := 2) hx hb dX9_putReady_39 (by decide) ?_
  refine lv_iload_n hx hb dX9_putReady_2 rfl (lv_at hl 0 rfl) ?_
  refine lv_iconst (v := 4) hx hb dX9_putReady_3 (by decide) ?_
  refine lv_icmp_ge (tgt := 42) hx hb dX9_putReady_4 (by decide) (fun c189 => ?_) (fun c189 => absurd c189 (by decide))
  have hP9 := hP.sub (ws' := [(Ad0, .inr (12, Fs0)), (Ad1, .inl (Ka0, 20, .inl f184))]) [0, 1] rfl
  have hD9 := hD.sub (ws' := [(Ad0, .inr (12, Fs0)), (Ad1, .inl (Ka0, 20, .inl f184))]) [0, 1] (by decide) rfl
  have hK9 := hK.sub (tys' := [(Ka0, .int)]) [0] rfl
  exact W.vret hx hb hr (fun t ht hW => ⟨⟨f184, rfl, trivial, by rw [ht]; exact hP9, va_K.moved hW.alike hK9, hD9⟩, hS.F ht⟩) hS.2.2 dX9_putReady_42

def l_z_X9_putReady_2 : List Cond := [.fieldLink RX9 15 "HeapWorks$Tape" "ready" "[I"]
def w_z_X9_putReady_2 : List Cond := .code yX9_putReady cX9_putReady 4 none :: (l_z_X9_putReady_2 ++ (wsX90))
theorem in_z_X9_putReady_2_X9 : ∀ w ∈ wsX90, w ∈ w_z_X9_putReady_2 := fun w h => List.mem_cons_of_mem _ (List.mem_append_right _ (h))
set_option maxHeartbeats 4000000 in
set_option maxRecDepth 100000 in
theorem z_X9_putReady_2 (l : Launch) (dC : Nat → ClassId) (dI : Nat → Nat → Nat) (sz : Nat) (Ad0 : Nat) (Fs0 : List Value) (Ad1 : Nat) (Fa0 : Nat → Int32) (Ka0 : ClassId) (Va0 : Int32) (k_Fs0 : fh Fs0 12 [(2, .ref Ad1)])  : Met l yX9_putReady w_z_X9_putReady_2 ({ frames := 0, cells := 0, slots := 0, locals := 0 }) (va_Pc [.ref Ad0, .int 8, .int Va0] (fun U => U.heap.size = sz ∧ Wd dC dI [(Ka0, .int)] (fun _ => True) [(Ad0, .inr (12, Fs0)), (Ad1, .inl (Ka0, 20, .inl Fa0))] U)) (va_Qv (fun (u : (Nat → Int32)) => True) (fun (u : (Nat → Int32)) t => Wd dC dI [(Ka0, .int)] (va_A [(Ad0, .inr (12, Fs0)), (Ad1, .inl (Ka0, 20, .inl Fa0))] sz) [(Ad0, .inr (12, Fs0)), (Ad1, .inl (Ka0, 20, .inl ((u))))] t) (va_A [(Ad0, .inr (12, Fs0)), (Ad1, .inl (Ka0, 20, .inl Fa0))] sz))  0 0 (va_A [(Ad0, .inr (12, Fs0)), (Ad1, .inl (Ka0, 20, .inl Fa0))] sz) := by
  refine Met.ofW (cc := cX9_putReady) (maxL := 4) (ret := none) (by decide) rfl ?_
  intro p e s m args below meth c s₁ B hml hv
  obtain ⟨rfl, hsz, hP, hK, hD0⟩ := hv
  have hx := B.exec
  have hb := B.bytes
  have hr := B.returns
  have hts := atoms_spec (ws := w_z_X9_putReady_2) B.pre
  have hown : s.vm.findClass RX9 = some m.cls := findClass_of_methodNamed B.named
  have hlocks := B.notSynchronized
  subst hsz
  have hD := hD0.self (sz := s.heap.size)
  generalize hAe : va_A [(Ad0, .inr (12, Fs0)), (Ad1, .inl (Ka0, 20, .inl Fa0))] s.heap.size = A at hD ⊢
  have hA : ∀ q : Nat, s.heap.size ≤ q → A q := fun q h => by rw [← hAe]; exact Or.inr h
  have hS : va_S A s.heap s.heap [] := va_S.rf
  have hl := lv_entry ([.ref Ad0, .int 8, .int Va0]) (n := 4) (Nat.le_of_ble_eq_true rfl)
  rw [lg_entry_eq]
  generalize (lg_sl ([.ref Ad0, .int 8, .int Va0]) ++ List.replicate (4 - (lg_sl ([.ref Ad0, .int 8, .int Va0])).length) Slot.unset).toArray = ls at hl ⊢
  have hl : lv_has ls 4 [(0, .ref Ad0), (1, .int 8), (2, .int Va0)] := hl
  have o_Fs0 := ow_0 k_Fs0
  refine lv_iconst (v := 0) hx hb dX9_putReady_0 (by decide) ?_
  refine lv_istore_n (lv' := [(3, .int 0), (0, .ref Ad0), (1, .int 8), (2, .int Va0)]) hx hb dX9_putReady_1 rfl hl (by decide) rfl (fun ls hl => ?_)
  refine lv_iload_n hx hb dX9_putReady_2 rfl (lv_at hl 0 rfl) ?_
  refine lv_iconst (v := 4) hx hb dX9_putReady_3 (by decide) ?_
  refine lv_icmp_ge (tgt := 42) hx hb dX9_putReady_4 (by decide) (fun c238 => absurd c238 (by decide)) (fun c238 => ?_)
  refine lv_iload_n hx hb dX9_putReady_7 rfl (lv_at hl 2 rfl) ?_
  refine lv_iload_n hx hb dX9_putReady_8 rfl (lv_at hl 0 rfl) ?_
  refine lv_iadd hx hb dX9_putReady_9  ?_
  refine lv_topi (fun x239 ex239 => ?_)
  obtain rfl : x239 = 8 := ex239.trans (by decide)
  refine lv_bipush (v := 20) hx hb dX9_putReady_10 (by decide) ?_
  refine lv_icmp_ge (tgt := 42) hx hb dX9_putReady_12 (by decide) (fun c240 => absurd c240 (by decide)) (fun c240 => ?_)
  refine lv_aload_n hx hb dX9_putReady_15 rfl (lv_at hl 1 rfl) ?_
  refine va_get (D := (dC, dI)) (ci := 12) (v := .ref Ad1) (C := RX9) (T := TX9) (N := 12) hx hb hts (in_z_X9_putReady_2_X9) hown hK hP 0 rfl rfl 2 (by decide) (hts (.fieldLink RX9 15 "HeapWorks$Tape" "ready" "[I") (by decide +kernel)) (fun _ h9 => h9) (ow_at o_Fs0 0 rfl) dX9_putReady_16 ?_
  refine lv_iload_n hx hb dX9_putReady_19 rfl (lv_at hl 2 rfl) ?_
  refine lv_iload_n hx hb dX9_putReady_20 rfl (lv_at hl 0 rfl) ?_
  refine lv_iadd hx hb dX9_putReady_21  ?_
  refine lv_topi (fun x241 ex241 => ?_)
  obtain rfl : x241 = 8 := ex241.trans (by decide)
  refine lv_iload_n hx hb dX9_putReady_22 rfl (lv_at hl 3 rfl) ?_
  refine lv_bipush (v := 24) hx hb dX9_putReady_23 (by decide) ?_
  refine lv_bipush (v := 8) hx hb dX9_putReady_25 (by decide) ?_
  refine lv_iload_n hx hb dX9_putReady_27 rfl (lv_at hl 0 rfl) ?_
  refine lv_imul hx hb dX9_putReady_28  ?_
  refine lv_topi (fun x242 ex242 => ?_)
  obtain rfl : x242 = 0 := ex242.trans (by decide)
  refine lv_isub hx hb dX9_putReady_29  ?_
  refine lv_topi (fun x243 ex243 => ?_)
  obtain rfl : x243 = 24 := ex243.trans (by decide)
  refine lv_iushr hx hb dX9_putReady_30 rfl ?_
  refine lv_topi (fun x244 ex244 => ?_)
  refine lv_sipush (v := 255) hx hb dX9_putReady_31 (by decide) ?_
  refine lv_iand hx hb dX9_putReady_34  ?_
  refine lv_topi (fun x245 ex245 => ?_)
  refine va_iast hx hb hK hP hD hS 1 0 rfl rfl (show vp_in 8 20 from by unfold vp_in; decide) dX9_putReady_35 (fun H locs hP hD hS => ?_)
  have hP : va_P (dC, dI) vwCl [(Ad0, .inr (12, Fs0)), (Ad1, .inl (Ka0, 20, .inl (upd Fa0 (8 : Int32).toNatClampNeg x245)))] H := hP
  have hD : va_D A [(Ad0, .inr (12, Fs0)), (Ad1, .inl (Ka0, 20, .inl (upd Fa0 (8 : Int32).toNatClampNeg x245)))] := hD
  have q247 : (upd Fa0 (8 : Int32).toNatClampNeg x245) (8 : Int32).toNatClampNeg = x245 := pk_us
  generalize upd Fa0 (8 : Int32).toNatClampNeg x245 = f246 at hP hD q247
  refine lv_iinc (v := 1) (lv' := [(3, .int 1), (0, .ref Ad0), (1, .int 8), (2, .int Va0)]) hx hb dX9_putReady_36 hl (k := 0) rfl (by decide) (by decide) rfl (fun ls hl => ?_)
  refine lv_goto (tgt := 2) hx hb dX9_putReady_39 (by decide) ?_
  refine lv_iload_n hx hb dX9_putReady_2 rfl (lv_at hl 0 rfl) ?_
  refine lv_iconst (v := 4) hx hb dX9_putReady_3 (by decide) ?_
  refine lv_icmp_ge (tgt := 42) hx hb dX9_putReady_4 (by decide) (fun c248 => absurd c248 (by decide)) (fun c248 => ?_)
  refine lv_iload_n hx hb dX9_putReady_7 rfl (lv_at hl 2 rfl) ?_
  refine lv_iload_n hx hb dX9_putReady_8 rfl (lv_at hl 0 rfl) ?_
  refine lv_iadd hx hb dX9_putReady_9  ?_
  refine lv_topi (fun x249 ex249 => ?_)
  obtain rfl : x249 = 9 := ex249.trans (by decide)
  refine lv_bipush (v := 20) hx hb dX9_putReady_10 (by decide) ?_
  refine lv_icmp_ge (tgt := 42) hx hb dX9_putReady_12 (by decide) (fun c250 => absurd c250 (by decide)) (fun c250 => ?_)
  refine lv_aload_n hx hb dX9_putReady_15 rfl (lv_at hl 1 rfl) ?_
  refine va_get (D := (dC, dI)) (ci := 12) (v := .ref Ad1) (C := RX9) (T := TX9) (N := 12) hx hb hts (in_z_X9_putReady_2_X9) hown hK hP 0 rfl rfl 2 (by decide) (hts (.fieldLink RX9 15 "HeapWorks$Tape" "ready" "[I") (by decide +kernel)) (fun _ h9 => h9) (ow_at o_Fs0 0 rfl) dX9_putReady_16 ?_
  refine lv_iload_n hx hb dX9_putReady_19 rfl (lv_at hl 2 rfl) ?_
  refine lv_iload_n hx hb dX9_putReady_20 rfl (lv_at hl 0 rfl) ?_
  refine lv_iadd hx hb dX9_putReady_21  ?_
  refine lv_topi (fun x251 ex251 => ?_)
  obtain rfl : x251 = 9 := ex251.trans (by decide)
  refine lv_iload_n hx hb dX9_putReady_22 rfl (lv_at hl 3 rfl) ?_
  refine lv_bipush (v := 24) hx hb dX9_putReady_23 (by decide) ?_
  refine lv_bipush (v := 8) hx hb dX9_putReady_25 (by decide) ?_
  refine lv_iload_n hx hb dX9_putReady_27 rfl (lv_at hl 0 rfl) ?_
  refine lv_imul hx hb dX9_putReady_28  ?_
  refine lv_topi (fun x252 ex252 => ?_)
  obtain rfl : x252 = 8 := ex252.trans (by decide)
  refine lv_isub hx hb dX9_putReady_29  ?_
  refine lv_topi (fun x253 ex253 => ?_)
  obtain rfl : x253 = 16 := ex253.trans (by decide)
  refine lv_iushr hx hb dX9_putReady_30 rfl ?_
  refine lv_topi (fun x254 ex254 => ?_)
  refine lv_sipush (v := 255) hx hb dX9_putReady_31 (by decide) ?_
  refine lv_iand hx hb dX9_putReady_34  ?_
  refine lv_topi (fun x255 ex255 => ?_)
  refine va_iast hx hb hK hP hD hS 1 0 rfl rfl (show vp_in 9 20 from by unfold vp_in; decide) dX9_putReady_35 (fun H locs hP hD hS => ?_)
  have hP : va_P (dC, dI) vwCl [(Ad0, .inr (12, Fs0)), (Ad1, .inl (Ka0, 20, .inl (upd f246 (9 : Int32).toNatClampNeg x255)))] H := hP
  have hD : va_D A [(Ad0, .inr (12, Fs0)), (Ad1, .inl (Ka0, 20, .inl (upd f246 (9 : Int32).toNatClampNeg x255)))] := hD
  have q257 : (upd f246 (9 : Int32).toNatClampNeg x255) (8 : Int32).toNatClampNeg = x245 := (kn_ne (by decide)).trans q247
  have q258 : (upd f246 (9 : Int32).toNatClampNeg x255) (9 : Int32).toNatClampNeg = x255 := pk_us
  generalize upd f246 (9 : Int32).toNatClampNeg x255 = f256 at hP hD q257 q258
  refine lv_iinc (v := 2) (lv' := [(3, .int 2), (0, .ref Ad0), (1, .int 8), (2, .int Va0)]) hx hb dX9_putReady_36 hl (k := 0) rfl (by decide) (by decide) rfl (fun ls hl => ?_)
  refine lv_goto (tgt := 2) hx hb dX9_putReady_39 (by decide) ?_
  refine lv_iload_n hx hb dX9_putReady_2 rfl (lv_at hl 0 rfl) ?_
  refine lv_iconst (v := 4) hx hb dX9_putReady_3 (by decide) ?_
  refine lv_icmp_ge (tgt := 42) hx hb dX9_putReady_4 (by decide) (fun c259 => absurd c259 (by decide)) (fun c259 => ?_)
  refine lv_iload_n hx hb dX9_putReady_7 rfl (lv_at hl 2 rfl) ?_
  refine lv_iload_n hx hb dX9_putReady_8 rfl (lv_at hl 0 rfl) ?_
  refine lv_iadd hx hb dX9_putReady_9  ?_
  refine lv_topi (fun x260 ex260 => ?_)
  obtain rfl : x260 = 10 := ex260.trans (by decide)
  refine lv_bipush (v := 20) hx hb dX9_putReady_10 (by decide) ?_
  refine lv_icmp_ge (tgt := 42) hx hb dX9_putReady_12 (by decide) (fun c261 => absurd c261 (by decide)) (fun c261 => ?_)
  refine lv_aload_n hx hb dX9_putReady_15 rfl (lv_at hl 1 rfl) ?_
  refine va_get (D := (dC, dI)) (ci := 12) (v := .ref Ad1) (C := RX9) (T := TX9) (N := 12) hx hb hts (in_z_X9_putReady_2_X9) hown hK hP 0 rfl rfl 2 (by decide) (hts (.fieldLink RX9 15 "HeapWorks$Tape" "ready" "[I") (by decide +kernel)) (fun _ h9 => h9) (ow_at o_Fs0 0 rfl) dX9_putReady_16 ?_
  refine lv_iload_n hx hb dX9_putReady_19 rfl (lv_at hl 2 rfl) ?_
  refine lv_iload_n hx hb dX9_putReady_20 rfl (lv_at hl 0 rfl) ?_
  refine lv_iadd hx hb dX9_putReady_21  ?_
  refine lv_topi (fun x262 ex262 => ?_)
  obtain rfl : x262 = 10 := ex262.trans (by decide)
  refine lv_iload_n hx hb dX9_putReady_22 rfl (lv_at hl 3 rfl) ?_
  refine lv_bipush (v := 24) hx hb dX9_putReady_23 (by decide) ?_
  refine lv_bipush (v := 8) hx hb dX9_putReady_25 (by decide) ?_
  refine lv_iload_n hx hb dX9_putReady_27 rfl (lv_at hl 0 rfl) ?_
  refine lv_imul hx hb dX9_putReady_28  ?_
  refine lv_topi (fun x263 ex263 => ?_)
  obtain rfl : x263 = 16 := ex263.trans (by decide)
  refine lv_isub hx hb dX9_putReady_29  ?_
  refine lv_topi (fun x264 ex264 => ?_)
  obtain rfl : x264 = 8 := ex264.trans (by decide)
  refine lv_iushr hx hb dX9_putReady_30 rfl ?_
  refine lv_topi (fun x265 ex265 => ?_)
  refine lv_sipush (v := 255) hx hb dX9_putReady_31 (by decide) ?_
  refine lv_iand hx hb dX9_putReady_34  ?_
  refine lv_topi (fun x266 ex266 => ?_)
  refine va_iast hx hb hK hP hD hS 1 0 rfl rfl (show vp_in 10 20 from by unfold vp_in; decide) dX9_putReady_35 (fun H locs hP hD hS => ?_)
  have hP : va_P (dC, dI) vwCl [(Ad0, .inr (12, Fs0)), (Ad1, .inl (Ka0, 20, .inl (upd f256 (10 : Int32).toNatClampNeg x266)))] H := hP
  have hD : va_D A [(Ad0, .inr (12, Fs0)), (Ad1, .inl (Ka0, 20, .inl (upd f256 (10 : Int32).toNatClampNeg x266)))] := hD
  have q268 : (upd f256 (10 : Int32).toNatClampNeg x266) (8 : Int32).toNatClampNeg = x245 := (kn_ne (by decide)).trans q257
  have q269 : (upd f256 (10 : Int32).toNatClampNeg x266) (9 : Int32).toNatClampNeg = x255 := (kn_ne (by decide)).trans q258
  have q270 : (upd f256 (10 : Int32).toNatClampNeg x266) (10 : Int32).toNatClampNeg = x266 := pk_us
  generalize upd f256 (10 : Int32).toNatClampNeg x266 = f267 at hP hD q268 q269 q270
  refine lv_iinc (v := 3) (lv' := [(3, .int 3), (0, .ref Ad0), (1, .int 8), (2, .int Va0)]) hx hb dX9_putReady_36 hl (k := 0) rfl (by decide) (by decide) rfl (fun ls hl => ?_)
  refine lv_goto (tgt := 2) hx hb dX9_putReady_39 (by decide) ?_
  refine lv_iload_n hx hb dX9_putReady_2 rfl (lv_at hl 0 rfl) ?_
  refine lv_iconst (v := 4) hx hb dX9_putReady_3 (by decide) ?_
  refine lv_icmp_ge (tgt := 42) hx hb dX9_putReady_4 (by decide) (fun c271 => absurd c271 (by decide)) (fun c271 => ?_)
  refine lv_iload_n hx hb dX9_putReady_7 rfl (lv_at hl 2 rfl) ?_
  refine lv_iload_n hx hb dX9_putReady_8 rfl (lv_at hl 0 rfl) ?_
  refine lv_iadd hx hb dX9_putReady_9  ?_
  refine lv_topi (fun x272 ex272 => ?_)
  obtain rfl : x272 = 11 := ex272.trans (by decide)
  refine lv_bipush (v := 20) hx hb dX9_putReady_10 (by decide) ?_
  refine lv_icmp_ge (tgt := 42) hx hb dX9_putReady_12 (by decide) (fun c273 => absurd c273 (by decide)) (fun c273 => ?_)
  refine lv_aload_n hx hb dX9_putReady_15 rfl (lv_at hl 1 rfl) ?_
  refine va_get (D := (dC, dI)) (ci := 12) (v := .ref Ad1) (C := RX9) (T := TX9) (N := 12) hx hb hts (in_z_X9_putReady_2_X9) hown hK hP 0 rfl rfl 2 (by decide) (hts (.fieldLink RX9 15 "HeapWorks$Tape" "ready" "[I") (by decide +kernel)) (fun _ h9 => h9) (ow_at o_Fs0 0 rfl) dX9_putReady_16 ?_
  refine lv_iload_n hx hb dX9_putReady_19 rfl (lv_at hl 2 rfl) ?_
  refine lv_iload_n hx hb dX9_putReady_20 rfl (lv_at hl 0 rfl) ?_
  refine lv_iadd hx hb dX9_putReady_21  ?_
  refine lv_topi (fun x274 ex274 => ?_)
  obtain rfl : x274 = 11 := ex274.trans (by decide)
  refine lv_iload_n hx hb dX9_putReady_22 rfl (lv_at hl 3 rfl) ?_
  refine lv_bipush (v := 24) hx hb dX9_putReady_23 (by decide) ?_
  refine lv_bipush (v := 8) hx hb dX9_putReady_25 (by decide) ?_
  refine lv_iload_n hx hb dX9_putReady_27 rfl (lv_at hl 0 rfl) ?_
  refine lv_imul hx hb dX9_putReady_28  ?_
  refine lv_topi (fun x275 ex275 => ?_)
  obtain rfl : x275 = 24 := ex275.trans (by decide)
  refine lv_isub hx hb dX9_putReady_29  ?_
  refine lv_topi (fun x276 ex276 => ?_)
  obtain rfl : x276 = 0 := ex276.trans (by decide)
  refine lv_iushr hx hb dX9_putReady_30 rfl ?_
  refine lv_topi (fun x277 ex277 => ?_)
  refine lv_sipush (v := 255) hx hb dX9_putReady_31 (by decide) ?_
  refine lv_iand hx hb dX9_putReady_34  ?_
  refine lv_topi (fun x278 ex278 => ?_)
  refine va_iast hx hb hK hP hD hS 1 0 rfl rfl (show vp_in 11 20 from by unfold vp_in; decide) dX9_putReady_35 (fun H locs hP hD hS => ?_)
  have hP : va_P (dC, dI) vwCl [(Ad0, .inr (12, Fs0)), (Ad1, .inl (Ka0, 20, .inl (upd f267 (11 : Int32).toNatClampNeg x278)))] H := hP
  have hD : va_D A [(Ad0, .inr (12, Fs0)), (Ad1, .inl (Ka0, 20, .inl (upd f267 (11 : Int32).toNatClampNeg x278)))] := hD
  have q280 : (upd f267 (11 : Int32).toNatClampNeg x278) (8 : Int32).toNatClampNeg = x245 := (kn_ne (by decide)).trans q268
  have q281 : (upd f267 (11 : Int32).toNatClampNeg x278) (9 : Int32).toNatClampNeg = x255 := (kn_ne (by decide)).trans q269
  have q282 : (upd f267 (11 : Int32).toNatClampNeg x278) (10 : Int32).toNatClampNeg = x266 := (kn_ne (by decide)).trans q270
  have q283 : (upd f267 (11 : Int32).toNatClampNeg x278) (11 : Int32).toNatClampNeg = x278 := pk_us
  generalize upd f267 (11 : Int32).toNatClampNeg x278 = f279 at hP hD q280 q281 q282 q283
  refine lv_iinc (v := 4) (lv' := [(3, .int 4), (0, .ref Ad0), (1, .int 8), (2, .int Va0)]) hx hb dX9_putReady_36 hl (k := 0) rfl (by decide) (by decide) rfl (fun ls hl => ?_)
  refine lv_goto (tgt := 2) hx hb dX9_putReady_39 (by decide) ?_
  refine lv_iload_n hx hb dX9_putReady_2 rfl (lv_at hl 0 rfl) ?_
  refine lv_iconst (v := 4) hx hb dX9_putReady_3 (by decide) ?_
  refine lv_icmp_ge (tgt := 42) hx hb dX9_putReady_4 (by decide) (fun c284 => ?_) (fun c284 => absurd c284 (by decide))
  have hP9 := hP.sub (ws' := [(Ad0, .inr (12, Fs0)), (Ad1, .inl (Ka0, 20, .inl f279))]) [0, 1] rfl
  have hD9 := hD.sub (ws' := [(Ad0, .inr (12, Fs0)), (Ad1, .inl (Ka0, 20, .inl f279))]) [0, 1] (by decide) rfl
  have hK9 := hK.sub (tys' := [(Ka0, .int)]) [0] rfl
  exact W.vret hx hb hr (fun t ht hW => ⟨⟨f279, rfl, trivial, by rw [ht]; exact hP9, va_K.moved hW.alike hK9, hD9⟩, hS.F ht⟩) hS.2.2 dX9_putReady_42

def l_z_X9_putReady_3 : List Cond := [.fieldLink RX9 15 "HeapWorks$Tape" "ready" "[I"]
def w_z_X9_putReady_3 : List Cond := .code yX9_putReady cX9_putReady 4 none :: (l_z_X9_putReady_3 ++ (wsX90))
theorem in_z_X9_putReady_3_X9 : ∀ w ∈ wsX90, w ∈ w_z_X9_putReady_3 := fun w h => List.mem_cons_of_mem _ (List.mem_append_right _ (h))
set_option maxHeartbeats 4000000 in
set_option maxRecDepth 100000 in
theorem z_X9_putReady_3 (l : Launch) (dC : Nat → ClassId) (dI : Nat → Nat → Nat) (sz : Nat) (Ad0 : Nat) (Fs0 : List Value) (Ad1 : Nat) (Fa0 : Nat → Int32) (Ka0 : ClassId) (Va0 : Int32) (k_Fs0 : fh Fs0 12 [(2, .ref Ad1)])  : Met l yX9_putReady w_z_X9_putReady_3 ({ frames := 0, cells := 0, slots := 0, locals := 0 }) (va_Pc [.ref Ad0, .int 12, .int Va0] (fun U => U.heap.size = sz ∧ Wd dC dI [(Ka0, .int)] (fun _ => True) [(Ad0, .inr (12, Fs0)), (Ad1, .inl (Ka0, 20, .inl Fa0))] U)) (va_Qv (fun (u : (Nat → Int32)) => True) (fun (u : (Nat → Int32)) t => Wd dC dI [(Ka0, .int)] (va_A [(Ad0, .inr (12, Fs0)), (Ad1, .inl (Ka0, 20, .inl Fa0))] sz) [(Ad0, .inr (12, Fs0)), (Ad1, .inl (Ka0, 20, .inl ((u))))] t) (va_A [(Ad0, .inr (12, Fs0)), (Ad1, .inl (Ka0, 20, .inl Fa0))] sz))  0 0 (va_A [(Ad0, .inr (12, Fs0)), (Ad1, .inl (Ka0, 20, .inl Fa0))] sz) := by
  refine Met.ofW (cc := cX9_putReady) (maxL := 4) (ret := none) (by decide) rfl ?_
  intro p e s m args below meth c s₁ B hml hv
  obtain ⟨rfl, hsz, hP, hK, hD0⟩ := hv
  have hx := B.exec
  have hb := B.bytes
  have hr := B.returns
  have hts := atoms_spec (ws := w_z_X9_putReady_3) B.pre
  have hown : s.vm.findClass RX9 = some m.cls := findClass_of_methodNamed B.named
  have hlocks := B.notSynchronized
  subst hsz
  have hD := hD0.self (sz := s.heap.size)
  generalize hAe : va_A [(Ad0, .inr (12, Fs0)), (Ad1, .inl (Ka0, 20, .inl Fa0))] s.heap.size = A at hD ⊢
  have hA : ∀ q : Nat, s.heap.size ≤ q → A q := fun q h => by rw [← hAe]; exact Or.inr h
  have hS : va_S A s.heap s.heap [] := va_S.rf
  have hl := lv_entry ([.ref Ad0, .int 12, .int Va0]) (n := 4) (Nat.le_of_ble_eq_true rfl)
  rw [lg_entry_eq]
  generalize (lg_sl ([.ref Ad0, .int 12, .int Va0]) ++ List.replicate (4 - (lg_sl ([.ref Ad0, .int 12, .int Va0])).length) Slot.unset).toArray = ls at hl ⊢
  have hl : lv_has ls 4 [(0, .ref Ad0), (1, .int 12), (2, .int Va0)] := hl
  have o_Fs0 := ow_0 k_Fs0
  refine lv_iconst (v := 0) hx hb dX9_putReady_0 (by decide) ?_
  refine lv_istore_n (lv' := [(3, .int 0), (0, .ref Ad0), (1, .int 12), (2, .int Va0)]) hx hb dX9_putReady_1 rfl hl (by decide) rfl (fun ls hl => ?_)
  refine lv_iload_n hx hb dX9_putReady_2 rfl (lv_at hl 0 rfl) ?_
  refine lv_iconst (v := 4) hx hb dX9_putReady_3 (by decide) ?_
  refine lv_icmp_ge (tgt := 42) hx hb dX9_putReady_4 (by decide) (fun c333 => absurd c333 (by decide)) (fun c333 => ?_)
  refine lv_iload_n hx hb dX9_putReady_7 rfl (lv_at hl 2 rfl) ?_
  refine lv_iload_n hx hb dX9_putReady_8 rfl (lv_at hl 0 rfl) ?_
  refine lv_iadd hx hb dX9_putReady_9  ?_
  refine lv_topi (fun x334 ex334 => ?_)
  obtain rfl : x334 = 12 := ex334.trans (by decide)
  refine lv_bipush (v := 20) hx hb dX9_putReady_10 (by decide) ?_
  refine lv_icmp_ge (tgt := 42) hx hb dX9_putReady_12 (by decide) (fun c335 => absurd c335 (by decide)) (fun c335 => ?_)
  refine lv_aload_n hx hb dX9_putReady_15 rfl (lv_at hl 1 rfl) ?_
  refine va_get (D := (dC, dI)) (ci := 12) (v := .ref Ad1) (C := RX9) (T := TX9) (N := 12) hx hb hts (in_z_X9_putReady_3_X9) hown hK hP 0 rfl rfl 2 (by decide) (hts (.fieldLink RX9 15 "HeapWorks$Tape" "ready" "[I") (by decide +kernel)) (fun _ h9 => h9) (ow_at o_Fs0 0 rfl) dX9_putReady_16 ?_
  refine lv_iload_n hx hb dX9_putReady_19 rfl (lv_at hl 2 rfl) ?_
  refine lv_iload_n hx hb dX9_putReady_20 rfl (lv_at hl 0 rfl) ?_
  refine lv_iadd hx hb dX9_putReady_21  ?_
  refine lv_topi (fun x336 ex336 => ?_)
  obtain rfl : x336 = 12 := ex336.trans (by decide)
  refine lv_iload_n hx hb dX9_putReady_22 rfl (lv_at hl 3 rfl) ?_
  refine lv_bipush (v := 24) hx hb dX9_putReady_23 (by decide) ?_
  refine lv_bipush (v := 8) hx hb dX9_putReady_25 (by decide) ?_
  refine lv_iload_n hx hb dX9_putReady_27 rfl (lv_at hl 0 rfl) ?_
  refine lv_imul hx hb dX9_putReady_28  ?_
  refine lv_topi (fun x337 ex337 => ?_)
  obtain rfl : x337 = 0 := ex337.trans (by decide)
  refine lv_isub hx hb dX9_putReady_29  ?_
  refine lv_topi (fun x338 ex338 => ?_)
  obtain rfl : x338 = 24 := ex338.trans (by decide)
  refine lv_iushr hx hb dX9_putReady_30 rfl ?_
  refine lv_topi (fun x339 ex339 => ?_)
  refine lv_sipush (v := 255) hx hb dX9_putReady_31 (by decide) ?_
  refine lv_iand hx hb dX9_putReady_34  ?_
  refine lv_topi (fun x340 ex340 => ?_)
  refine va_iast hx hb hK hP hD hS 1 0 rfl rfl (show vp_in 12 20 from by unfold vp_in; decide) dX9_putReady_35 (fun H locs hP hD hS => ?_)
  have hP : va_P (dC, dI) vwCl [(Ad0, .inr (12, Fs0)), (Ad1, .inl (Ka0, 20, .inl (upd Fa0 (12 : Int32).toNatClampNeg x340)))] H := hP
  have hD : va_D A [(Ad0, .inr (12, Fs0)), (Ad1, .inl (Ka0, 20, .inl (upd Fa0 (12 : Int32).toNatClampNeg x340)))] := hD
  have q342 : (upd Fa0 (12 : Int32).toNatClampNeg x340) (12 : Int32).toNatClampNeg = x340 := pk_us
  generalize upd Fa0 (12 : Int32).toNatClampNeg x340 = f341 at hP hD q342
  refine lv_iinc (v := 1) (lv' := [(3, .int 1), (0, .ref Ad0), (1, .int 12), (2, .int Va0)]) hx hb dX9_putReady_36 hl (k := 0) rfl (by decide) (by decide) rfl (fun ls hl => ?_)
  refine lv_goto (tgt := 2) hx hb dX9_putReady_39 (by decide) ?_
  refine lv_iload_n hx hb dX9_putReady_2 rfl (lv_at hl 0 rfl) ?_
  refine lv_iconst (v := 4) hx hb dX9_putReady_3 (by decide) ?_
  refine lv_icmp_ge (tgt := 42) hx hb dX9_putReady_4 (by decide) (fun c343 => absurd c343 (by decide)) (fun c343 => ?_)
  refine lv_iload_n hx hb dX9_putReady_7 rfl (lv_at hl 2 rfl) ?_
  refine lv_iload_n hx hb dX9_putReady_8 rfl (lv_at hl 0 rfl) ?_
  refine lv_iadd hx hb dX9_putReady_9  ?_
  refine lv_topi (fun x344 ex344 => ?_)
  obtain rfl : x344 = 13 := ex344.trans (by decide)
  refine lv_bipush (v := 20) hx hb dX9_putReady_10 (by decide) ?_
  refine lv_icmp_ge (tgt := 42) hx hb dX9_putReady_12 (by decide) (fun c345 => absurd c345 (by decide)) (fun c345 => ?_)
  refine lv_aload_n hx hb dX9_putReady_15 rfl (lv_at hl 1 rfl) ?_
  refine va_get (D := (dC, dI)) (ci := 12) (v := .ref Ad1) (C := RX9) (T := TX9) (N := 12) hx hb hts (in_z_X9_putReady_3_X9) hown hK hP 0 rfl rfl 2 (by decide) (hts (.fieldLink RX9 15 "HeapWorks$Tape" "ready" "[I") (by decide +kernel)) (fun _ h9 => h9) (ow_at o_Fs0 0 rfl) dX9_putReady_16 ?_
  refine lv_iload_n hx hb dX9_putReady_19 rfl (lv_at hl 2 rfl) ?_
  refine lv_iload_n hx hb dX9_putReady_20 rfl (lv_at hl 0 rfl) ?_
  refine lv_iadd hx hb dX9_putReady_21  ?_
  refine lv_topi (fun x346 ex346 => ?_)
  obtain rfl : x346 = 13 := ex346.trans (by decide)
  refine lv_iload_n hx hb dX9_putReady_22 rfl (lv_at hl 3 rfl) ?_
  refine lv_bipush (v := 24) hx hb dX9_putReady_23 (by decide) ?_
  refine lv_bipush (v := 8) hx hb dX9_putReady_25 (by decide) ?_
  refine lv_iload_n hx hb dX9_putReady_27 rfl (lv_at hl 0 rfl) ?_
  refine lv_imul hx hb dX9_putReady_28  ?_
  refine lv_topi (fun x347 ex347 => ?_)
  obtain rfl : x347 = 8 := ex347.trans (by decide)
  refine lv_isub hx hb dX9_putReady_29  ?_
  refine lv_topi (fun x348 ex348 => ?_)
  obtain rfl : x348 = 16 := ex348.trans (by decide)
  refine lv_iushr hx hb dX9_putReady_30 rfl ?_
  refine lv_topi (fun x349 ex349 => ?_)
  refine lv_sipush (v := 255) hx hb dX9_putReady_31 (by decide) ?_
  refine lv_iand hx hb dX9_putReady_34  ?_
  refine lv_topi (fun x350 ex350 => ?_)
  refine va_iast hx hb hK hP hD hS 1 0 rfl rfl (show vp_in 13 20 from by unfold vp_in; decide) dX9_putReady_35 (fun H locs hP hD hS => ?_)
  have hP : va_P (dC, dI) vwCl [(Ad0, .inr (12, Fs0)), (Ad1, .inl (Ka0, 20, .inl (upd f341 (13 : Int32).toNatClampNeg x350)))] H := hP
  have hD : va_D A [(Ad0, .inr (12, Fs0)), (Ad1, .inl (Ka0, 20, .inl (upd f341 (13 : Int32).toNatClampNeg x350)))] := hD
  have q352 : (upd f341 (13 : Int32).toNatClampNeg x350) (12 : Int32).toNatClampNeg = x340 := (kn_ne (by decide)).trans q342
  have q353 : (upd f341 (13 : Int32).toNatClampNeg x350) (13 : Int32).toNatClampNeg = x350 := pk_us
  generalize upd f341 (13 : Int32).toNatClampNeg x350 = f351 at hP hD q352 q353
  refine lv_iinc (v := 2) (lv' := [(3, .int 2), (0, .ref Ad0), (1, .int 12), (2, .int Va0)]) hx hb dX9_putReady_36 hl (k := 0) rfl (by decide) (by decide) rfl (fun ls hl => ?_)
  refine lv_goto (tgt := 2) hx hb dX9_putReady_39 (by decide) ?_
  refine lv_iload_n hx hb dX9_putReady_2 rfl (lv_at hl 0 rfl) ?_
  refine lv_iconst (v := 4) hx hb dX9_putReady_3 (by decide) ?_
  refine lv_icmp_ge (tgt := 42) hx hb dX9_putReady_4 (by decide) (fun c354 => absurd c354 (by decide)) (fun c354 => ?_)
  refine lv_iload_n hx hb dX9_putReady_7 rfl (lv_at hl 2 rfl) ?_
  refine lv_iload_n hx hb dX9_putReady_8 rfl (lv_at hl 0 rfl) ?_
  refine lv_iadd hx hb dX9_putReady_9  ?_
  refine lv_topi (fun x355 ex355 => ?_)
  obtain rfl : x355 = 14 := ex355.trans (by decide)
  refine lv_bipush (v := 20) hx hb dX9_putReady_10 (by decide) ?_
  refine lv_icmp_ge (tgt := 42) hx hb dX9_putReady_12 (by decide) (fun c356 => absurd c356 (by decide)) (fun c356 => ?_)
  refine lv_aload_n hx hb dX9_putReady_15 rfl (lv_at hl 1 rfl) ?_
  refine va_get (D := (dC, dI)) (ci := 12) (v := .ref Ad1) (C := RX9) (T := TX9) (N := 12) hx hb hts (in_z_X9_putReady_3_X9) hown hK hP 0 rfl rfl 2 (by decide) (hts (.fieldLink RX9 15 "HeapWorks$Tape" "ready" "[I") (by decide +kernel)) (fun _ h9 => h9) (ow_at o_Fs0 0 rfl) dX9_putReady_16 ?_
  refine lv_iload_n hx hb dX9_putReady_19 rfl (lv_at hl 2 rfl) ?_
  refine lv_iload_n hx hb dX9_putReady_20 rfl (lv_at hl 0 rfl) ?_
  refine lv_iadd hx hb dX9_putReady_21  ?_
  refine lv_topi (fun x357 ex357 => ?_)
  obtain rfl : x357 = 14 := ex357.trans (by decide)
  refine lv_iload_n hx hb dX9_putReady_22 rfl (lv_at hl 3 rfl) ?_
  refine lv_bipush (v := 24) hx hb dX9_putReady_23 (by decide) ?_
  refine lv_bipush (v := 8) hx hb dX9_putReady_25 (by decide) ?_
  refine lv_iload_n hx hb dX9_putReady_27 rfl (lv_at hl 0 rfl) ?_
  refine lv_imul hx hb dX9_putReady_28  ?_
  refine lv_topi (fun x358 ex358 => ?_)
  obtain rfl : x358 = 16 := ex358.trans (by decide)
  refine lv_isub hx hb dX9_putReady_29  ?_
  refine lv_topi (fun x359 ex359 => ?_)
  obtain rfl : x359 = 8 := ex359.trans (by decide)
  refine lv_iushr hx hb dX9_putReady_30 rfl ?_
  refine lv_topi (fun x360 ex360 => ?_)
  refine lv_sipush (v := 255) hx hb dX9_putReady_31 (by decide) ?_
  refine lv_iand hx hb dX9_putReady_34  ?_
  refine lv_topi (fun x361 ex361 => ?_)
  refine va_iast hx hb hK hP hD hS 1 0 rfl rfl (show vp_in 14 20 from by unfold vp_in; decide) dX9_putReady_35 (fun H locs hP hD hS => ?_)
  have hP : va_P (dC, dI) vwCl [(Ad0, .inr (12, Fs0)), (Ad1, .inl (Ka0, 20, .inl (upd f351 (14 : Int32).toNatClampNeg x361)))] H := hP
  have hD : va_D A [(Ad0, .inr (12, Fs0)), (Ad1, .inl (Ka0, 20, .inl (upd f351 (14 : Int32).toNatClampNeg x361)))] := hD
  have q363 : (upd f351 (14 : Int32).toNatClampNeg x361) (12 : Int32).toNatClampNeg = x340 := (kn_ne (by decide)).trans q352
  have q364 : (upd f351 (14 : Int32).toNatClampNeg x361) (13 : Int32).toNatClampNeg = x350 := (kn_ne (by decide)).trans q353
  have q365 : (upd f351 (14 : Int32).toNatClampNeg x361) (14 : Int32).toNatClampNeg = x361 := pk_us
  generalize upd f351 (14 : Int32).toNatClampNeg x361 = f362 at hP hD q363 q364 q365
  refine lv_iinc (v := 3) (lv' := [(3, .int 3), (0, .ref Ad0), (1, .int 12), (2, .int Va0)]) hx hb dX9_putReady_36 hl (k := 0) rfl (by decide) (by decide) rfl (fun ls hl => ?_)
  refine lv_goto (tgt := 2) hx hb dX9_putReady_39 (by decide) ?_
  refine lv_iload_n hx hb dX9_putReady_2 rfl (lv_at hl 0 rfl) ?_
  refine lv_iconst (v := 4) hx hb dX9_putReady_3 (by decide) ?_
  refine lv_icmp_ge (tgt := 42) hx hb dX9_putReady_4 (by decide) (fun c366 => absurd c366 (by decide)) (fun c366 => ?_)
  refine lv_iload_n hx hb dX9_putReady_7 rfl (lv_at hl 2 rfl) ?_
  refine lv_iload_n hx hb dX9_putReady_8 rfl (lv_at hl 0 rfl) ?_
  refine lv_iadd hx hb dX9_putReady_9  ?_
  refine lv_topi (fun x367 ex367 => ?_)
  obtain rfl : x367 = 15 := ex367.trans (by decide)
  refine lv_bipush (v := 20) hx hb dX9_putReady_10 (by decide) ?_
  refine lv_icmp_ge (tgt := 42) hx hb dX9_putReady_12 (by decide) (fun c368 => absurd c368 (by decide)) (fun c368 => ?_)
  refine lv_aload_n hx hb dX9_putReady_15 rfl (lv_at hl 1 rfl) ?_
  refine va_get (D := (dC, dI)) (ci := 12) (v := .ref Ad1) (C := RX9) (T := TX9) (N := 12) hx hb hts (in_z_X9_putReady_3_X9) hown hK hP 0 rfl rfl 2 (by decide) (hts (.fieldLink RX9 15 "HeapWorks$Tape" "ready" "[I") (by decide +kernel)) (fun _ h9 => h9) (ow_at o_Fs0 0 rfl) dX9_putReady_16 ?_
  refine lv_iload_n hx hb dX9_putReady_19 rfl (lv_at hl 2 rfl) ?_
  refine lv_iload_n hx hb dX9_putReady_20 rfl (lv_at hl 0 rfl) ?_
  refine lv_iadd hx hb dX9_putReady_21  ?_
  refine lv_topi (fun x369 ex369 => ?_)
  obtain rfl : x369 = 15 := ex369.trans (by decide)
  refine lv_iload_n hx hb dX9_putReady_22 rfl (lv_at hl 3 rfl) ?_
  refine lv_bipush (v := 24) hx hb dX9_putReady_23 (by decide) ?_
  refine lv_bipush (v := 8) hx hb dX9_putReady_25 (by decide) ?_
  refine lv_iload_n hx hb dX9_putReady_27 rfl (lv_at hl 0 rfl) ?_
  refine lv_imul hx hb dX9_putReady_28  ?_
  refine lv_topi (fun x370 ex370 => ?_)
  obtain rfl : x370 = 24 := ex370.trans (by decide)
  refine lv_isub hx hb dX9_putReady_29  ?_
  refine lv_topi (fun x371 ex371 => ?_)
  obtain rfl : x371 = 0 := ex371.trans (by decide)
  refine lv_iushr hx hb dX9_putReady_30 rfl ?_
  refine lv_topi (fun x372 ex372 => ?_)
  refine lv_sipush (v := 255) hx hb dX9_putReady_31 (by decide) ?_
  refine lv_iand hx hb dX9_putReady_34  ?_
  refine lv_topi (fun x373 ex373 => ?_)
  refine va_iast hx hb hK hP hD hS 1 0 rfl rfl (show vp_in 15 20 from by unfold vp_in; decide) dX9_putReady_35 (fun H locs hP hD hS => ?_)
  have hP : va_P (dC, dI) vwCl [(Ad0, .inr (12, Fs0)), (Ad1, .inl (Ka0, 20, .inl (upd f362 (15 : Int32).toNatClampNeg x373)))] H := hP
  have hD : va_D A [(Ad0, .inr (12, Fs0)), (Ad1, .inl (Ka0, 20, .inl (upd f362 (15 : Int32).toNatClampNeg x373)))] := hD
  have q375 : (upd f362 (15 : Int32).toNatClampNeg x373) (12 : Int32).toNatClampNeg = x340 := (kn_ne (by decide)).trans q363
  have q376 : (upd f362 (15 : Int32).toNatClampNeg x373) (13 : Int32).toNatClampNeg = x350 := (kn_ne (by decide)).trans q364
  have q377 : (upd f362 (15 : Int32).toNatClampNeg x373) (14 : Int32).toNatClampNeg = x361 := (kn_ne (by decide)).trans q365
  have q378 : (upd f362 (15 : Int32).toNatClampNeg x373) (15 : Int32).toNatClampNeg = x373 := pk_us
  generalize upd f362 (15 : Int32).toNatClampNeg x373 = f374 at hP hD q375 q376 q377 q378
  refine lv_iinc (v := 4) (lv' := [(3, .int 4), (0, .ref Ad0), (1, .int 12), (2, .int Va0)]) hx hb dX9_putReady_36 hl (k := 0) rfl (by decide) (by decide) rfl (fun ls hl => ?_)
  refine lv_goto (tgt := 2) hx hb dX9_putReady_39 (by decide) ?_
  refine lv_iload_n hx hb dX9_putReady_2 rfl (lv_at hl 0 rfl) ?_
  refine lv_iconst (v := 4) hx hb dX9_putReady_3 (by decide) ?_
  refine lv_icmp_ge (tgt := 42) hx hb dX9_putReady_4 (by decide) (fun c379 => ?_) (fun c379 => absurd c379 (by decide))
  have hP9 := hP.sub (ws' := [(Ad0, .inr (12, Fs0)), (Ad1, .inl (Ka0, 20, .inl f374))]) [0, 1] rfl
  have hD9 := hD.sub (ws' := [(Ad0, .inr (12, Fs0)), (Ad1, .inl (Ka0, 20, .inl f374))]) [0, 1] (by decide) rfl
  have hK9 := hK.sub (tys' := [(Ka0, .int)]) [0] rfl
  exact W.vret hx hb hr (fun t ht hW => ⟨⟨f374, rfl, trivial, by rw [ht]; exact hP9, va_K.moved hW.alike hK9, hD9⟩, hS.F ht⟩) hS.2.2 dX9_putReady_42

def l_z_X9_putReady_4 : List Cond := [.fieldLink RX9 15 "HeapWorks$Tape" "ready" "[I"]
def w_z_X9_putReady_4 : List Cond := .code yX9_putReady cX9_putReady 4 none :: (l_z_X9_putReady_4 ++ (wsX90))
theorem in_z_X9_putReady_4_X9 : ∀ w ∈ wsX90, w ∈ w_z_X9_putReady_4 := fun w h => List.mem_cons_of_mem _ (List.mem_append_right _ (h))
set_option maxHeartbeats 4000000 in
set_option maxRecDepth 100000 in
theorem z_X9_putReady_4 (l : Launch) (dC : Nat → ClassId) (dI : Nat → Nat → Nat) (sz : Nat) (Ad0 : Nat) (Fs0 : List Value) (Ad1 : Nat) (Fa0 : Nat → Int32) (Ka0 : ClassId) (Va0 : Int32) (k_Fs0 : fh Fs0 12 [(2, .ref Ad1)])  : Met l yX9_putReady w_z_X9_putReady_4 ({ frames := 0, cells := 0, slots := 0, locals := 0 }) (va_Pc [.ref Ad0, .int 16, .int Va0] (fun U => U.heap.size = sz ∧ Wd dC dI [(Ka0, .int)] (fun _ => True) [(Ad0, .inr (12, Fs0)), (Ad1, .inl (Ka0, 20, .inl Fa0))] U)) (va_Qv (fun (u : (Nat → Int32)) => True) (fun (u : (Nat → Int32)) t => Wd dC dI [(Ka0, .int)] (va_A [(Ad0, .inr (12, Fs0)), (Ad1, .inl (Ka0, 20, .inl Fa0))] sz) [(Ad0, .inr (12, Fs0)), (Ad1, .inl (Ka0, 20, .inl ((u))))] t) (va_A [(Ad0, .inr (12, Fs0)), (Ad1, .inl (Ka0, 20, .inl Fa0))] sz))  0 0 (va_A [(Ad0, .inr (12, Fs0)), (Ad1, .inl (Ka0, 20, .inl Fa0))] sz) := by
  refine Met.ofW (cc := cX9_putReady) (maxL := 4) (ret := none) (by decide) rfl ?_
  intro p e s m args below meth c s₁ B hml hv
  obtain ⟨rfl, hsz, hP, hK, hD0⟩ := hv
  have hx := B.exec
  have hb := B.bytes
  have hr := B.returns
  have hts := atoms_spec (ws := w_z_X9_putReady_4) B.pre
  have hown : s.vm.findClass RX9 = some m.cls := findClass_of_methodNamed B.named
  have hlocks := B.notSynchronized
  subst hsz
  have hD := hD0.self (sz := s.heap.size)
  generalize hAe : va_A [(Ad0, .inr (12, Fs0)), (Ad1, .inl (Ka0, 20, .inl Fa0))] s.heap.size = A at hD ⊢
  have hA : ∀ q : Nat, s.heap.size ≤ q → A q := fun q h => by rw [← hAe]; exact Or.inr h
  have hS : va_S A s.heap s.heap [] := va_S.rf
  have hl := lv_entry ([.ref Ad0, .int 16, .int Va0]) (n := 4) (Nat.le_of_ble_eq_true rfl)
  rw [lg_entry_eq]
  generalize (lg_sl ([.ref Ad0, .int 16, .int Va0]) ++ List.replicate (4 - (lg_sl ([.ref Ad0, .int 16, .int Va0])).length) Slot.unset).toArray = ls at hl ⊢
  have hl : lv_has ls 4 [(0, .ref Ad0), (1, .int 16), (2, .int Va0)] := hl
  have o_Fs0 := ow_0 k_Fs0
  refine lv_iconst (v := 0) hx hb dX9_putReady_0 (by decide) ?_
  refine lv_istore_n (lv' := [(3, .int 0), (0, .ref Ad0), (1, .int 16), (2, .int Va0)]) hx hb dX9_putReady_1 rfl hl (by decide) rfl (fun ls hl => ?_)
  refine lv_iload_n hx hb dX9_putReady_2 rfl (lv_at hl 0 rfl) ?_
  refine lv_iconst (v := 4) hx hb dX9_putReady_3 (by decide) ?_
  refine lv_icmp_ge (tgt := 42) hx hb dX9_putReady_4 (by decide) (fun c428 => absurd c428 (by decide)) (fun c428 => ?_)
  refine lv_iload_n hx hb dX9_putReady_7 rfl (lv_at hl 2 rfl) ?_
  refine lv_iload_n hx hb dX9_putReady_8 rfl (lv_at hl 0 rfl) ?_
  refine lv_iadd hx hb dX9_putReady_9  ?_
  refine lv_topi (fun x429 ex429 => ?_)
  obtain rfl : x429 = 16 := ex429.trans (by decide)
  refine lv_bipush (v := 20) hx hb dX9_putReady_10 (by decide) ?_
  refine lv_icmp_ge (tgt := 42) hx hb dX9_putReady_12 (by decide) (fun c430 => absurd c430 (by decide)) (fun c430 => ?_)
  refine lv_aload_n hx hb dX9_putReady_15 rfl (lv_at hl 1 rfl) ?_
  refine va_get (D := (dC, dI)) (ci := 12) (v := .ref Ad1) (C := RX9) (T := TX9) (N := 12) hx hb hts (in_z_X9_putReady_4_X9) hown hK hP 0 rfl rfl 2 (by decide) (hts (.fieldLink RX9 15 "HeapWorks$Tape" "ready" "[I") (by decide +kernel)) (fun _ h9 => h9) (ow_at o_Fs0 0 rfl) dX9_putReady_16 ?_
  refine lv_iload_n hx hb dX9_putReady_19 rfl (lv_at hl 2 rfl) ?_
  refine lv_iload_n hx hb dX9_putReady_20 rfl (lv_at hl 0 rfl) ?_
  refine lv_iadd hx hb dX9_putReady_21  ?_
  refine lv_topi (fun x431 ex431 => ?_)
  obtain rfl : x431 = 16 := ex431.trans (by decide)
  refine lv_iload_n hx hb dX9_putReady_22 rfl (lv_at hl 3 rfl) ?_
  refine lv_bipush (v := 24) hx hb dX9_putReady_23 (by decide) ?_
  refine lv_bipush (v := 8) hx hb dX9_putReady_25 (by decide) ?_
  refine lv_iload_n hx hb dX9_putReady_27 rfl (lv_at hl 0 rfl) ?_
  refine lv_imul hx hb dX9_putReady_28  ?_
  refine lv_topi (fun x432 ex432 => ?_)
  obtain rfl : x432 = 0 := ex432.trans (by decide)
  refine lv_isub hx hb dX9_putReady_29  ?_
  refine lv_topi (fun x433 ex433 => ?_)
  obtain rfl : x433 = 24 := ex433.trans (by decide)
  refine lv_iushr hx hb dX9_putReady_30 rfl ?_
  refine lv_topi (fun x434 ex434 => ?_)
  refine lv_sipush (v := 255) hx hb dX9_putReady_31 (by decide) ?_
  refine lv_iand hx hb dX9_putReady_34  ?_
  refine lv_topi (fun x435 ex435 => ?_)
  refine va_iast hx hb hK hP hD hS 1 0 rfl rfl (show vp_in 16 20 from by unfold vp_in; decide) dX9_putReady_35 (fun H locs hP hD hS => ?_)
  have hP : va_P (dC, dI) vwCl [(Ad0, .inr (12, Fs0)), (Ad1, .inl (Ka0, 20, .inl (upd Fa0 (16 : Int32).toNatClampNeg x435)))] H := hP
  have hD : va_D A [(Ad0, .inr (12, Fs0)), (Ad1, .inl (Ka0, 20, .inl (upd Fa0 (16 : Int32).toNatClampNeg x435)))] := hD
  have q437 : (upd Fa0 (16 : Int32).toNatClampNeg x435) (16 : Int32).toNatClampNeg = x435 := pk_us
  generalize upd Fa0 (16 : Int32).toNatClampNeg x435 = f436 at hP hD q437
  refine lv_iinc (v := 1) (lv' := [(3, .int 1), (0, .ref Ad0), (1, .int 16), (2, .int Va0)]) hx hb dX9_putReady_36 hl (k := 0) rfl (by decide) (by decide) rfl (fun ls hl => ?_)
  refine lv_goto (tgt := 2) hx hb dX9_putReady_39 (by decide) ?_
  refine lv_iload_n hx hb dX9_putReady_2 rfl (lv_at hl 0 rfl) ?_
  refine lv_iconst (v := 4) hx hb dX9_putReady_3 (by decide) ?_
  refine lv_icmp_ge (tgt := 42) hx hb dX9_putReady_4 (by decide) (fun c438 => absurd c438 (by decide)) (fun c438 => ?_)
  refine lv_iload_n hx hb dX9_putReady_7 rfl (lv_at hl 2 rfl) ?_
  refine lv_iload_n hx hb dX9_putReady_8 rfl (lv_at hl 0 rfl) ?_
  refine lv_iadd hx hb dX9_putReady_9  ?_
  refine lv_topi (fun x439 ex439 => ?_)
  obtain rfl : x439 = 17 := ex439.trans (by decide)
  refine lv_bipush (v := 20) hx hb dX9_putReady_10 (by decide) ?_
  refine lv_icmp_ge (tgt := 42) hx hb dX9_putReady_12 (by decide) (fun c440 => absurd c440 (by decide)) (fun c440 => ?_)
  refine lv_aload_n hx hb dX9_putReady_15 rfl (lv_at hl 1 rfl) ?_
  refine va_get (D := (dC, dI)) (ci := 12) (v := .ref Ad1) (C := RX9) (T := TX9) (N := 12) hx hb hts (in_z_X9_putReady_4_X9) hown hK hP 0 rfl rfl 2 (by decide) (hts (.fieldLink RX9 15 "HeapWorks$Tape" "ready" "[I") (by decide +kernel)) (fun _ h9 => h9) (ow_at o_Fs0 0 rfl) dX9_putReady_16 ?_
  refine lv_iload_n hx hb dX9_putReady_19 rfl (lv_at hl 2 rfl) ?_
  refine lv_iload_n hx hb dX9_putReady_20 rfl (lv_at hl 0 rfl) ?_
  refine lv_iadd hx hb dX9_putReady_21  ?_
  refine lv_topi (fun x441 ex441 => ?_)
  obtain rfl : x441 = 17 := ex441.trans (by decide)
  refine lv_iload_n hx hb dX9_putReady_22 rfl (lv_at hl 3 rfl) ?_
  refine lv_bipush (v := 24) hx hb dX9_putReady_23 (by decide) ?_
  refine lv_bipush (v := 8) hx hb dX9_putReady_25 (by decide) ?_
  refine lv_iload_n hx hb dX9_putReady_27 rfl (lv_at hl 0 rfl) ?_
  refine lv_imul hx hb dX9_putReady_28  ?_
  refine lv_topi (fun x442 ex442 => ?_)
  obtain rfl : x442 = 8 := ex442.trans (by decide)
  refine lv_isub hx hb dX9_putReady_29  ?_
  refine lv_topi (fun x443 ex443 => ?_)
  obtain rfl : x443 = 16 := ex443.trans (by decide)
  refine lv_iushr hx hb dX9_putReady_30 rfl ?_
  refine lv_topi (fun x444 ex444 => ?_)
  refine lv_sipush (v := 255) hx hb dX9_putReady_31 (by decide) ?_
  refine lv_iand hx hb dX9_putReady_34  ?_
  refine lv_topi (fun x445 ex445 => ?_)
  refine va_iast hx hb hK hP hD hS 1 0 rfl rfl (show vp_in 17 20 from by unfold vp_in; decide) dX9_putReady_35 (fun H locs hP hD hS => ?_)
  have hP : va_P (dC, dI) vwCl [(Ad0, .inr (12, Fs0)), (Ad1, .inl (Ka0, 20, .inl (upd f436 (17 : Int32).toNatClampNeg x445)))] H := hP
  have hD : va_D A [(Ad0, .inr (12, Fs0)), (Ad1, .inl (Ka0, 20, .inl (upd f436 (17 : Int32).toNatClampNeg x445)))] := hD
  have q447 : (upd f436 (17 : Int32).toNatClampNeg x445) (16 : Int32).toNatClampNeg = x435 := (kn_ne (by decide)).trans q437
  have q448 : (upd f436 (17 : Int32).toNatClampNeg x445) (17 : Int32).toNatClampNeg = x445 := pk_us
  generalize upd f436 (17 : Int32).toNatClampNeg x445 = f446 at hP hD q447 q448
  refine lv_iinc (v := 2) (lv' := [(3, .int 2), (0, .ref Ad0), (1, .int 16), (2, .int Va0)]) hx hb dX9_putReady_36 hl (k := 0) rfl (by decide) (by decide) rfl (fun ls hl => ?_)
  refine lv_goto (tgt := 2) hx hb dX9_putReady_39 (by decide) ?_
  refine lv_iload_n hx hb dX9_putReady_2 rfl (lv_at hl 0 rfl) ?_
  refine lv_iconst (v := 4) hx hb dX9_putReady_3 (by decide) ?_
  refine lv_icmp_ge (tgt := 42) hx hb dX9_putReady_4 (by decide) (fun c449 => absurd c449 (by decide)) (fun c449 => ?_)
  refine lv_iload_n hx hb dX9_putReady_7 rfl (lv_at hl 2 rfl) ?_
  refine lv_iload_n hx hb dX9_putReady_8 rfl (lv_at hl 0 rfl) ?_
  refine lv_iadd hx hb dX9_putReady_9  ?_
  refine lv_topi (fun x450 ex450 => ?_)
  obtain rfl : x450 = 18 := ex450.trans (by decide)
  refine lv_bipush (v := 20) hx hb dX9_putReady_10 (by decide) ?_
  refine lv_icmp_ge (tgt := 42) hx hb dX9_putReady_12 (by decide) (fun c451 => absurd c451 (by decide)) (fun c451 => ?_)
  refine lv_aload_n hx hb dX9_putReady_15 rfl (lv_at hl 1 rfl) ?_
  refine va_get (D := (dC, dI)) (ci := 12) (v := .ref Ad1) (C := RX9) (T := TX9) (N := 12) hx hb hts (in_z_X9_putReady_4_X9) hown hK hP 0 rfl rfl 2 (by decide) (hts (.fieldLink RX9 15 "HeapWorks$Tape" "ready" "[I") (by decide +kernel)) (fun _ h9 => h9) (ow_at o_Fs0 0 rfl) dX9_putReady_16 ?_
  refine lv_iload_n hx hb dX9_putReady_19 rfl (lv_at hl 2 rfl) ?_
  refine lv_iload_n hx hb dX9_putReady_20 rfl (lv_at hl 0 rfl) ?_
  refine lv_iadd hx hb dX9_putReady_21  ?_
  refine lv_topi (fun x452 ex452 => ?_)
  obtain rfl : x452 = 18 := ex452.trans (by decide)
  refine lv_iload_n hx hb dX9_putReady_22 rfl (lv_at hl 3 rfl) ?_
  refine lv_bipush (v := 24) hx hb dX9_putReady_23 (by decide) ?_
  refine lv_bipush (v := 8) hx hb dX9_putReady_25 (by decide) ?_
  refine lv_iload_n hx hb dX9_putReady_27 rfl (lv_at hl 0 rfl) ?_
  refine lv_imul hx hb dX9_putReady_28  ?_
  refine lv_topi (fun x453 ex453 => ?_)
  obtain rfl : x453 = 16 := ex453.trans (by decide)
  refine lv_isub hx hb dX9_putReady_29  ?_
  refine lv_topi (fun x454 ex454 => ?_)
  obtain rfl : x454 = 8 := ex454.trans (by decide)
  refine lv_iushr hx hb dX9_putReady_30 rfl ?_
  refine lv_topi (fun x455 ex455 => ?_)
  refine lv_sipush (v := 255) hx hb dX9_putReady_31 (by decide) ?_
  refine lv_iand hx hb dX9_putReady_34  ?_
  refine lv_topi (fun x456 ex456 => ?_)
  refine va_iast hx hb hK hP hD hS 1 0 rfl rfl (show vp_in 18 20 from by unfold vp_in; decide) dX9_putReady_35 (fun H locs hP hD hS => ?_)
  have hP : va_P (dC, dI) vwCl [(Ad0, .inr (12, Fs0)), (Ad1, .inl (Ka0, 20, .inl (upd f446 (18 : Int32).toNatClampNeg x456)))] H := hP
  have hD : va_D A [(Ad0, .inr (12, Fs0)), (Ad1, .inl (Ka0, 20, .inl (upd f446 (18 : Int32).toNatClampNeg x456)))] := hD
  have q458 : (upd f446 (18 : Int32).toNatClampNeg x456) (16 : Int32).toNatClampNeg = x435 := (kn_ne (by decide)).trans q447
  have q459 : (upd f446 (18 : Int32).toNatClampNeg x456) (17 : Int32).toNatClampNeg = x445 := (kn_ne (by decide)).trans q448
  have q460 : (upd f446 (18 : Int32).toNatClampNeg x456) (18 : Int32).toNatClampNeg = x456 := pk_us
  generalize upd f446 (18 : Int32).toNatClampNeg x456 = f457 at hP hD q458 q459 q460
  refine lv_iinc (v := 3) (lv' := [(3, .int 3), (0, .ref Ad0), (1, .int 16), (2, .int Va0)]) hx hb dX9_putReady_36 hl (k := 0) rfl (by decide) (by decide) rfl (fun ls hl => ?_)
  refine lv_goto (tgt := 2) hx hb dX9_putReady_39 (by decide) ?_
  refine lv_iload_n hx hb dX9_putReady_2 rfl (lv_at hl 0 rfl) ?_
  refine lv_iconst (v := 4) hx hb dX9_putReady_3 (by decide) ?_
  refine lv_icmp_ge (tgt := 42) hx hb dX9_putReady_4 (by decide) (fun c461 => absurd c461 (by decide)) (fun c461 => ?_)
  refine lv_iload_n hx hb dX9_putReady_7 rfl (lv_at hl 2 rfl) ?_
  refine lv_iload_n hx hb dX9_putReady_8 rfl (lv_at hl 0 rfl) ?_
  refine lv_iadd hx hb dX9_putReady_9  ?_
  refine lv_topi (fun x462 ex462 => ?_)
  obtain rfl : x462 = 19 := ex462.trans (by decide)
  refine lv_bipush (v := 20) hx hb dX9_putReady_10 (by decide) ?_
  refine lv_icmp_ge (tgt := 42) hx hb dX9_putReady_12 (by decide) (fun c463 => absurd c463 (by decide)) (fun c463 => ?_)
  refine lv_aload_n hx hb dX9_putReady_15 rfl (lv_at hl 1 rfl) ?_
  refine va_get (D := (dC, dI)) (ci := 12) (v := .ref Ad1) (C := RX9) (T := TX9) (N := 12) hx hb hts (in_z_X9_putReady_4_X9) hown hK hP 0 rfl rfl 2 (by decide) (hts (.fieldLink RX9 15 "HeapWorks$Tape" "ready" "[I") (by decide +kernel)) (fun _ h9 => h9) (ow_at o_Fs0 0 rfl) dX9_putReady_16 ?_
  refine lv_iload_n hx hb dX9_putReady_19 rfl (lv_at hl 2 rfl) ?_
  refine lv_iload_n hx hb dX9_putReady_20 rfl (lv_at hl 0 rfl) ?_
  refine lv_iadd hx hb dX9_putReady_21  ?_
  refine lv_topi (fun x464 ex464 => ?_)
  obtain rfl : x464 = 19 := ex464.trans (by decide)
  refine lv_iload_n hx hb dX9_putReady_22 rfl (lv_at hl 3 rfl) ?_
  refine lv_bipush (v := 24) hx hb dX9_putReady_23 (by decide) ?_
  refine lv_bipush (v := 8) hx hb dX9_putReady_25 (by decide) ?_
  refine lv_iload_n hx hb dX9_putReady_27 rfl (lv_at hl 0 rfl) ?_
  refine lv_imul hx hb dX9_putReady_28  ?_
  refine lv_topi (fun x465 ex465 => ?_)
  obtain rfl : x465 = 24 := ex465.trans (by decide)
  refine lv_isub hx hb dX9_putReady_29  ?_
  refine lv_topi (fun x466 ex466 => ?_)
  obtain rfl : x466 = 0 := ex466.trans (by decide)
  refine lv_iushr hx hb dX9_putReady_30 rfl ?_
  refine lv_topi (fun x467 ex467 => ?_)
  refine lv_sipush (v := 255) hx hb dX9_putReady_31 (by decide) ?_
  refine lv_iand hx hb dX9_putReady_34  ?_
  refine lv_topi (fun x468 ex468 => ?_)
  refine va_iast hx hb hK hP hD hS 1 0 rfl rfl (show vp_in 19 20 from by unfold vp_in; decide) dX9_putReady_35 (fun H locs hP hD hS => ?_)
  have hP : va_P (dC, dI) vwCl [(Ad0, .inr (12, Fs0)), (Ad1, .inl (Ka0, 20, .inl (upd f457 (19 : Int32).toNatClampNeg x468)))] H := hP
  have hD : va_D A [(Ad0, .inr (12, Fs0)), (Ad1, .inl (Ka0, 20, .inl (upd f457 (19 : Int32).toNatClampNeg x468)))] := hD
  have q470 : (upd f457 (19 : Int32).toNatClampNeg x468) (16 : Int32).toNatClampNeg = x435 := (kn_ne (by decide)).trans q458
  have q471 : (upd f457 (19 : Int32).toNatClampNeg x468) (17 : Int32).toNatClampNeg = x445 := (kn_ne (by decide)).trans q459
  have q472 : (upd f457 (19 : Int32).toNatClampNeg x468) (18 : Int32).toNatClampNeg = x456 := (kn_ne (by decide)).trans q460
  have q473 : (upd f457 (19 : Int32).toNatClampNeg x468) (19 : Int32).toNatClampNeg = x468 := pk_us
  generalize upd f457 (19 : Int32).toNatClampNeg x468 = f469 at hP hD q470 q471 q472 q473
  refine lv_iinc (v := 4) (lv' := [(3, .int 4), (0, .ref Ad0), (1, .int 16), (2, .int Va0)]) hx hb dX9_putReady_36 hl (k := 0) rfl (by decide) (by decide) rfl (fun ls hl => ?_)
  refine lv_goto (tgt := 2) hx hb dX9_putReady_39 (by decide) ?_
  refine lv_iload_n hx hb dX9_putReady_2 rfl (lv_at hl 0 rfl) ?_
  refine lv_iconst (v := 4) hx hb dX9_putReady_3 (by decide) ?_
  refine lv_icmp_ge (tgt := 42) hx hb dX9_putReady_4 (by decide) (fun c474 => ?_) (fun c474 => absurd c474 (by decide))
  have hP9 := hP.sub (ws' := [(Ad0, .inr (12, Fs0)), (Ad1, .inl (Ka0, 20, .inl f469))]) [0, 1] rfl
  have hD9 := hD.sub (ws' := [(Ad0, .inr (12, Fs0)), (Ad1, .inl (Ka0, 20, .inl f469))]) [0, 1] (by decide) rfl
  have hK9 := hK.sub (tys' := [(Ka0, .int)]) [0] rfl
  exact W.vret hx hb hr (fun t ht hW => ⟨⟨f469, rfl, trivial, by rw [ht]; exact hP9, va_K.moved hW.alike hK9, hD9⟩, hS.F ht⟩) hS.2.2 dX9_putReady_42

def l_x_feed : List Cond := [.fieldLink RX11 12 "HeapWorks" "tape" "LHeapWorks$Tape;", .methodLink RX11 102 yX9_putReady, .instanceMethod yX9_putReady, .selects RX9 yX9_putReady yX9_putReady, .initialized RX9, .code yX9_putReady cX9_putReady 4 none, .fieldLink RX9 15 "HeapWorks$Tape" "ready" "[I"]
def w_x_feed : List Cond := .code yX11_feed cX11_feed 6 none :: (l_x_feed ++ ((wsX110 ++ wsX90)))
theorem in_x_feed_X11 : ∀ w ∈ wsX110, w ∈ w_x_feed := fun w h => List.mem_cons_of_mem _ (List.mem_append_right _ (List.mem_append_left _ h))
theorem in_x_feed_X9 : ∀ w ∈ wsX90, w ∈ w_x_feed := fun w h => List.mem_cons_of_mem _ (List.mem_append_right _ (List.mem_append_right _ (h)))
theorem g_x_feed_z_X9_putReady_102 : GoodIn w_x_feed (wsV RX11 102 RX9 yX9_putReady w_z_X9_putReady) := goodIn_app (goodIn_sub (by decide +kernel) (by decide +kernel)) (goodIn_ca (goodIn_sub (by decide +kernel) (by decide +kernel)) (goodIn_in in_x_feed_X9 gd_X9))
theorem g_x_feed_z_X9_putReady_1_102 : GoodIn w_x_feed (wsV RX11 102 RX9 yX9_putReady w_z_X9_putReady_1) := goodIn_app (goodIn_sub (by decide +kernel) (by decide +kernel)) (goodIn_ca (goodIn_sub (by decide +kernel) (by decide +kernel)) (goodIn_in in_x_feed_X9 gd_X9))
theorem g_x_feed_z_X9_putReady_2_102 : GoodIn w_x_feed (wsV RX11 102 RX9 yX9_putReady w_z_X9_putReady_2) := goodIn_app (goodIn_sub (by decide +kernel) (by decide +kernel)) (goodIn_ca (goodIn_sub (by decide +kernel) (by decide +kernel)) (goodIn_in in_x_feed_X9 gd_X9))
theorem g_x_feed_z_X9_putReady_3_102 : GoodIn w_x_feed (wsV RX11 102 RX9 yX9_putReady w_z_X9_putReady_3) := goodIn_app (goodIn_sub (by decide +kernel) (by decide +kernel)) (goodIn_ca (goodIn_sub (by decide +kernel) (by decide +kernel)) (goodIn_in in_x_feed_X9 gd_X9))
theorem g_x_feed_z_X9_putReady_4_102 : GoodIn w_x_feed (wsV RX11 102 RX9 yX9_putReady w_z_X9_putReady_4) := goodIn_app (goodIn_sub (by decide +kernel) (by decide +kernel)) (goodIn_ca (goodIn_sub (by decide +kernel) (by decide +kernel)) (goodIn_in in_x_feed_X9 gd_X9))
set_option maxHeartbeats 4000000 in
set_option maxRecDepth 100000 in
theorem x_feed (l : Launch) (dC : Nat → ClassId) (dI : Nat → Nat → Nat) (sz : Nat) (aX : Nat) (fsX : List Value) (aT : Nat) (fsT : List Value) (qr : Nat) (fr : Nat → Int32) (kr : ClassId) (p0 : Int32) (p1 : Int32) (p2 : Int32) (p3 : Int32) (p4 : Int32) (k_fsX : fh fsX 18 [(0, .ref aT)]) (k_fsT : fh fsT 12 [(2, .ref qr)])  : Met l yX11_feed w_x_feed ({ frames := 1, cells := 0, slots := 0, locals := 23 }) (va_Pc [.ref aX, .int p0, .int p1, .int p2, .int p3, .int p4] (fun U => U.heap.size = sz ∧ Wd dC dI [(kr, .int)] (fun _ => True) [(aX, .inr (14, fsX)), (aT, .inr (12, fsT)), (qr, .inl (kr, 20, .inl fr))] U)) (va_Qv (fun (u : (Nat → Int32)) => True) (fun (u : (Nat → Int32)) t => Wd dC dI [(kr, .int)] (va_A [(aX, .inr (14, fsX)), (aT, .inr (12, fsT)), (qr, .inl (kr, 20, .inl fr))] sz) [(aX, .inr (14, fsX)), (aT, .inr (12, fsT)), (qr, .inl (kr, 20, .inl ((u))))] t) (va_A [(aX, .inr (14, fsX)), (aT, .inr (12, fsT)), (qr, .inl (kr, 20, .inl fr))] sz))  0 0 (va_A [(aX, .inr (14, fsX)), (aT, .inr (12, fsT)), (qr, .inl (kr, 20, .inl fr))] sz) := by
  refine Met.ofW (cc := cX11_feed) (maxL := 6) (ret := none) (by decide) rfl ?_
  intro p e s m args below meth c s₁ B hml hv
  obtain ⟨rfl, hsz, hP, hK, hD0⟩ := hv
  have hx := B.exec
  have hb := B.bytes
  have hr := B.returns
  have hts := atoms_spec (ws := w_x_feed) B.pre
  have hown : s.vm.findClass RX11 = some m.cls := findClass_of_methodNamed B.named
  have hlocks := B.notSynchronized
  subst hsz
  have hD := hD0.self (sz := s.heap.size)
  generalize hAe : va_A [(aX, .inr (14, fsX)), (aT, .inr (12, fsT)), (qr, .inl (kr, 20, .inl fr))] s.heap.size = A at hD ⊢
  have hA : ∀ q : Nat, s.heap.size ≤ q → A q := fun q h => by rw [← hAe]; exact Or.inr h
  have hS : va_S A s.heap s.heap [] := va_S.rf
  have hl := lv_entry ([.ref aX, .int p0, .int p1, .int p2, .int p3, .int p4]) (n := 6) (Nat.le_of_ble_eq_true rfl)
  rw [lg_entry_eq]
  generalize (lg_sl ([.ref aX, .int p0, .int p1, .int p2, .int p3, .int p4]) ++ List.replicate (6 - (lg_sl ([.ref aX, .int p0, .int p1, .int p2, .int p3, .int p4])).length) Slot.unset).toArray = ls at hl ⊢
  have hl : lv_has ls 6 [(0, .ref aX), (1, .int p0), (2, .int p1), (3, .int p2), (4, .int p3), (5, .int p4)] := hl
  have o_fsX := ow_0 k_fsX
  have o_fsT := ow_0 k_fsT
  refine lv_aload_n hx hb dX11_feed_0 rfl (lv_at hl 0 rfl) ?_
  refine va_get (D := (dC, dI)) (ci := 14) (v := .ref aT) (C := RX11) (T := TX11) (N := 18) hx hb hts (in_x_feed_X11) hown hK hP 0 rfl rfl 0 (by decide) (hts (.fieldLink RX11 12 "HeapWorks" "tape" "LHeapWorks$Tape;") (by decide +kernel)) (fun _ h9 => h9) (ow_at o_fsX 0 rfl) dX11_feed_1 ?_
  refine lv_iconst (v := 0) hx hb dX11_feed_4 (by decide) ?_
  refine lv_iload_n hx hb dX11_feed_5 rfl (lv_at hl 1 rfl) ?_
  have hPc := hP.sub (ws' := [(aT, .inr (12, fsT)), (qr, .inl (kr, 20, .inl fr))]) [1, 2] rfl
  have hDc := hD.sub (ws' := [(aT, .inr (12, fsT)), (qr, .inl (kr, 20, .inl fr))]) [1, 2] (by decide) rfl
  have hKc := hK.sub (tys' := [(kr, .int)]) [0] rfl
  have hFc := va_free (wc := [(aT, .inr (12, fsT)), (qr, .inl (kr, 20, .inl fr))]) hD hS hA [1, 2] rfl
  refine va_callv (va_runV (As := [.int 0, .int p0]) (rest := []) ⟨hx, hb, hml, hown, hts⟩ (z_X9_putReady l dC dI s.heap.size aT fsT qr fr kr p0 (fh_sub o_fsT.2 [0] rfl) ) (cwV 2 hts g_x_feed_z_X9_putReady_102 rfl rfl rfl (by decide +kernel) ⟨Nat.le_of_ble_eq_true rfl, Nat.le_of_ble_eq_true rfl⟩) ⟨fun a U g mk q => by obtain ⟨q0, q1, qP, qK, qD⟩ := q; exact ⟨q0, q1, qP, va_K.moved (u := U) (U := U.calling g mk a) (Vm.Alike.refl U.vm) qK, qD⟩, va_recv hK hP (ci := 12) (q0 := 1) rfl rfl, fun U hU hW => ⟨rfl, by rw [hU], by rw [hU]; exact hPc, va_K.moved hW.alike hKc, hDc.weaken (fun _ _ _ _ => trivial)⟩⟩ rfl rfl hl.1 rfl (lv_room (Nat.le_of_ble_eq_true rfl)) dX11_feed_6 ⟨Nat.le_of_ble_eq_true rfl, Nat.le_of_ble_eq_true rfl⟩) hS (fun q _ h => hFc q h) hFc (fun u t H1 locs ht hvm hw hB hz1 hk1 hS => ?_)
  obtain ⟨f523, rfl⟩ : ∃ z, z = u := ⟨_, rfl⟩
  obtain ⟨hP1, hK1, hD1⟩ := hB
  rw [ht] at hP1
  try dsimp only at hw
  obtain ⟨hP, hD⟩ := va_join (wr := [(aX, .inr (14, fsX))]) (w1 := [(aT, .inr (12, fsT)), (qr, .inl (kr, 20, .inl f523))]) hP hD [1, 2] [0] rfl rfl (by decide) (by decide) hk1 hFc hP1 hD1
  have hK := hK.sub (tys' := [(kr, .int)]) [0] rfl
  generalize H1 = H at hP hS ⊢
  have hP : va_P (dC, dI) vwCl [(aX, .inr (14, fsX)), (aT, .inr (12, fsT)), (qr, .inl (kr, 20, .inl f523))] H := hP
  have hD : va_D A [(aX, .inr (14, fsX)), (aT, .inr (12, fsT)), (qr, .inl (kr, 20, .inl f523))] := hD
  refine lv_aload_n hx hb dX11_feed_9 rfl (lv_at hl 0 rfl) ?_
  refine va_get (D := (dC, dI)) (ci := 14) (v := .ref aT) (C := RX11) (T := TX11) (N := 18) hx hb hts (in_x_feed_X11) hown hK hP 0 rfl rfl 0 (by decide) (hts (.fieldLink RX11 12 "HeapWorks" "tape" "LHeapWorks$Tape;") (by decide +kernel)) (fun _ h9 => h9) (ow_at o_fsX 0 rfl) dX11_feed_10 ?_
  refine lv_iconst (v := 4) hx hb dX11_feed_13 (by decide) ?_
  refine lv_iload_n hx hb dX11_feed_14 rfl (lv_at hl 2 rfl) ?_
  have hPc := hP.sub (ws' := [(aT, .inr (12, fsT)), (qr, .inl (kr, 20, .inl f523))]) [1, 2] rfl
  have hDc := hD.sub (ws' := [(aT, .inr (12, fsT)), (qr, .inl (kr, 20, .inl f523))]) [1, 2] (by decide) rfl
  have hKc := hK.sub (tys' := [(kr, .int)]) [0] rfl
  have hFc := va_free (wc := [(aT, .inr (12, fsT)), (qr, .inl (kr, 20, .inl f523))]) hD hS hA [1, 2] rfl
  refine va_callv (va_runV (As := [.int 4, .int p1]) (rest := []) ⟨hx, hb, hml, hown, hts⟩ (z_X9_putReady_1 l dC dI H.size aT fsT qr f523 kr p1 (fh_sub o_fsT.2 [0] rfl) ) (cwV 2 hts g_x_feed_z_X9_putReady_1_102 rfl rfl rfl (by decide +kernel) ⟨Nat.le_of_ble_eq_true rfl, Nat.le_of_ble_eq_true rfl⟩) ⟨fun a U g mk q => by obtain ⟨q0, q1, qP, qK, qD⟩ := q; exact ⟨q0, q1, qP, va_K.moved (u := U) (U := U.calling g mk a) (Vm.Alike.refl U.vm) qK, qD⟩, va_recv hK hP (ci := 12) (q0 := 1) rfl rfl, fun U hU hW => ⟨rfl, by rw [hU], by rw [hU]; exact hPc, va_K.moved hW.alike hKc, hDc.weaken (fun _ _ _ _ => trivial)⟩⟩ rfl rfl hl.1 rfl (lv_room (Nat.le_of_ble_eq_true rfl)) dX11_feed_15 ⟨Nat.le_of_ble_eq_true rfl, Nat.le_of_ble_eq_true rfl⟩) hS (fun q _ h => hFc q h) hFc (fun u t H1 locs ht hvm hw hB hz1 hk1 hS => ?_)
  obtain ⟨f571, rfl⟩ : ∃ z, z = u := ⟨_, rfl⟩
  obtain ⟨hP1, hK1, hD1⟩ := hB
  rw [ht] at hP1
  try dsimp only at hw
  obtain ⟨hP, hD⟩ := va_join (wr := [(aX, .inr (14, fsX))]) (w1 := [(aT, .inr (12, fsT)), (qr, .inl (kr, 20, .inl f571))]) hP hD [1, 2] [0] rfl rfl (by decide) (by decide) hk1 hFc hP1 hD1
  have hK := hK.sub (tys' := [(kr, .int)]) [0] rfl
  generalize H1 = H at hP hS ⊢
  have hP : va_P (dC, dI) vwCl [(aX, .inr (14, fsX)), (aT, .inr (12, fsT)), (qr, .inl (kr, 20, .inl f571))] H := hP
  have hD : va_D A [(aX, .inr (14, fsX)), (aT, .inr (12, fsT)), (qr, .inl (kr, 20, .inl f571))] := hD
  refine lv_aload_n hx hb dX11_feed_18 rfl (lv_at hl 0 rfl) ?_
  refine va_get (D := (dC, dI)) (ci := 14) (v := .ref aT) (C := RX11) (T := TX11) (N := 18) hx hb hts (in_x_feed_X11) hown hK hP 0 rfl rfl 0 (by decide) (hts (.fieldLink RX11 12 "HeapWorks" "tape" "LHeapWorks$Tape;") (by decide +kernel)) (fun _ h9 => h9) (ow_at o_fsX 0 rfl) dX11_feed_19 ?_
  refine lv_bipush (v := 8) hx hb dX11_feed_22 (by decide) ?_
  refine lv_iload_n hx hb dX11_feed_24 rfl (lv_at hl 3 rfl) ?_
  have hPc := hP.sub (ws' := [(aT, .inr (12, fsT)), (qr, .inl (kr, 20, .inl f571))]) [1, 2] rfl
  have hDc := hD.sub (ws' := [(aT, .inr (12, fsT)), (qr, .inl (kr, 20, .inl f571))]) [1, 2] (by decide) rfl
  have hKc := hK.sub (tys' := [(kr, .int)]) [0] rfl
  have hFc := va_free (wc := [(aT, .inr (12, fsT)), (qr, .inl (kr, 20, .inl f571))]) hD hS hA [1, 2] rfl
  refine va_callv (va_runV (As := [.int 8, .int p2]) (rest := []) ⟨hx, hb, hml, hown, hts⟩ (z_X9_putReady_2 l dC dI H.size aT fsT qr f571 kr p2 (fh_sub o_fsT.2 [0] rfl) ) (cwV 2 hts g_x_feed_z_X9_putReady_2_102 rfl rfl rfl (by decide +kernel) ⟨Nat.le_of_ble_eq_true rfl, Nat.le_of_ble_eq_true rfl⟩) ⟨fun a U g mk q => by obtain ⟨q0, q1, qP, qK, qD⟩ := q; exact ⟨q0, q1, qP, va_K.moved (u := U) (U := U.calling g mk a) (Vm.Alike.refl U.vm) qK, qD⟩, va_recv hK hP (ci := 12) (q0 := 1) rfl rfl, fun U hU hW => ⟨rfl, by rw [hU], by rw [hU]; exact hPc, va_K.moved hW.alike hKc, hDc.weaken (fun _ _ _ _ => trivial)⟩⟩ rfl rfl hl.1 rfl (lv_room (Nat.le_of_ble_eq_true rfl)) dX11_feed_25 ⟨Nat.le_of_ble_eq_true rfl, Nat.le_of_ble_eq_true rfl⟩) hS (fun q _ h => hFc q h) hFc (fun u t H1 locs ht hvm hw hB hz1 hk1 hS => ?_)
  obtain ⟨f619, rfl⟩ : ∃ z, z = u := ⟨_, rfl⟩
  obtain ⟨hP1, hK1, hD1⟩ := hB
  rw [ht] at hP1
  try dsimp only at hw
  obtain ⟨hP, hD⟩ := va_join (wr := [(aX, .inr (14, fsX))]) (w1 := [(aT, .inr (12, fsT)), (qr, .inl (kr, 20, .inl f619))]) hP hD [1, 2] [0] rfl rfl (by decide) (by decide) hk1 hFc hP1 hD1
  have hK := hK.sub (tys' := [(kr, .int)]) [0] rfl
  generalize H1 = H at hP hS ⊢
  have hP : va_P (dC, dI) vwCl [(aX, .inr (14, fsX)), (aT, .inr (12, fsT)), (qr, .inl (kr, 20, .inl f619))] H := hP
  have hD : va_D A [(aX, .inr (14, fsX)), (aT, .inr (12, fsT)), (qr, .inl (kr, 20, .inl f619))] := hD
  refine lv_aload_n hx hb dX11_feed_28 rfl (lv_at hl 0 rfl) ?_
  refine va_get (D := (dC, dI)) (ci := 14) (v := .ref aT) (C := RX11) (T := TX11) (N := 18) hx hb hts (in_x_feed_X11) hown hK hP 0 rfl rfl 0 (by decide) (hts (.fieldLink RX11 12 "HeapWorks" "tape" "LHeapWorks$Tape;") (by decide +kernel)) (fun _ h9 => h9) (ow_at o_fsX 0 rfl) dX11_feed_29 ?_
  refine lv_bipush (v := 12) hx hb dX11_feed_32 (by decide) ?_
  refine lv_iload hx hb dX11_feed_34 (lv_at hl 4 rfl) ?_
  have hPc := hP.sub (ws' := [(aT, .inr (12, fsT)), (qr, .inl (kr, 20, .inl f619))]) [1, 2] rfl
  have hDc := hD.sub (ws' := [(aT, .inr (12, fsT)), (qr, .inl (kr, 20, .inl f619))]) [1, 2] (by decide) rfl
  have hKc := hK.sub (tys' := [(kr, .int)]) [0] rfl
  have hFc := va_free (wc := [(aT, .inr (12, fsT)), (qr, .inl (kr, 20, .inl f619))]) hD hS hA [1, 2] rfl
  refine va_callv (va_runV (As := [.int 12, .int p3]) (rest := []) ⟨hx, hb, hml, hown, hts⟩ (z_X9_putReady_3 l dC dI H.size aT fsT qr f619 kr p3 (fh_sub o_fsT.2 [0] rfl) ) (cwV 2 hts g_x_feed_z_X9_putReady_3_102 rfl rfl rfl (by decide +kernel) ⟨Nat.le_of_ble_eq_true rfl, Nat.le_of_ble_eq_true rfl⟩) ⟨fun a U g mk q => by obtain ⟨q0, q1, qP, qK, qD⟩ := q; exact ⟨q0, q1, qP, va_K.moved (u := U) (U := U.calling g mk a) (Vm.Alike.refl U.vm) qK, qD⟩, va_recv hK hP (ci := 12) (q0 := 1) rfl rfl, fun U hU hW => ⟨rfl, by rw [hU], by rw [hU]; exact hPc, va_K.moved hW.alike hKc, hDc.weaken (fun _ _ _ _ => trivial)⟩⟩ rfl rfl hl.1 rfl (lv_room (Nat.le_of_ble_eq_true rfl)) dX11_feed_36 ⟨Nat.le_of_ble_eq_true rfl, Nat.le_of_ble_eq_true rfl⟩) hS (fun q _ h => hFc q h) hFc (fun u t H1 locs ht hvm hw hB hz1 hk1 hS => ?_)
  obtain ⟨f667, rfl⟩ : ∃ z, z = u := ⟨_, rfl⟩
  obtain ⟨hP1, hK1, hD1⟩ := hB
  rw [ht] at hP1
  try dsimp only at hw
  obtain ⟨hP, hD⟩ := va_join (wr := [(aX, .inr (14, fsX))]) (w1 := [(aT, .inr (12, fsT)), (qr, .inl (kr, 20, .inl f667))]) hP hD [1, 2] [0] rfl rfl (by decide) (by decide) hk1 hFc hP1 hD1
  have hK := hK.sub (tys' := [(kr, .int)]) [0] rfl
  generalize H1 = H at hP hS ⊢
  have hP : va_P (dC, dI) vwCl [(aX, .inr (14, fsX)), (aT, .inr (12, fsT)), (qr, .inl (kr, 20, .inl f667))] H := hP
  have hD : va_D A [(aX, .inr (14, fsX)), (aT, .inr (12, fsT)), (qr, .inl (kr, 20, .inl f667))] := hD
  refine lv_aload_n hx hb dX11_feed_39 rfl (lv_at hl 0 rfl) ?_
  refine va_get (D := (dC, dI)) (ci := 14) (v := .ref aT) (C := RX11) (T := TX11) (N := 18) hx hb hts (in_x_feed_X11) hown hK hP 0 rfl rfl 0 (by decide) (hts (.fieldLink RX11 12 "HeapWorks" "tape" "LHeapWorks$Tape;") (by decide +kernel)) (fun _ h9 => h9) (ow_at o_fsX 0 rfl) dX11_feed_40 ?_
  refine lv_bipush (v := 16) hx hb dX11_feed_43 (by decide) ?_
  refine lv_iload hx hb dX11_feed_45 (lv_at hl 5 rfl) ?_
  have hPc := hP.sub (ws' := [(aT, .inr (12, fsT)), (qr, .inl (kr, 20, .inl f667))]) [1, 2] rfl
  have hDc := hD.sub (ws' := [(aT, .inr (12, fsT)), (qr, .inl (kr, 20, .inl f667))]) [1, 2] (by decide) rfl
  have hKc := hK.sub (tys' := [(kr, .int)]) [0] rfl
  have hFc := va_free (wc := [(aT, .inr (12, fsT)), (qr, .inl (kr, 20, .inl f667))]) hD hS hA [1, 2] rfl
  refine va_callv (va_runV (As := [.int 16, .int p4]) (rest := []) ⟨hx, hb, hml, hown, hts⟩ (z_X9_putReady_4 l dC dI H.size aT fsT qr f667 kr p4 (fh_sub o_fsT.2 [0] rfl) ) (cwV 2 hts g_x_feed_z_X9_putReady_4_102 rfl rfl rfl (by decide +kernel) ⟨Nat.le_of_ble_eq_true rfl, Nat.le_of_ble_eq_true rfl⟩) ⟨fun a U g mk q => by obtain ⟨q0, q1, qP, qK, qD⟩ := q; exact ⟨q0, q1, qP, va_K.moved (u := U) (U := U.calling g mk a) (Vm.Alike.refl U.vm) qK, qD⟩, va_recv hK hP (ci := 12) (q0 := 1) rfl rfl, fun U hU hW => ⟨rfl, by rw [hU], by rw [hU]; exact hPc, va_K.moved hW.alike hKc, hDc.weaken (fun _ _ _ _ => trivial)⟩⟩ rfl rfl hl.1 rfl (lv_room (Nat.le_of_ble_eq_true rfl)) dX11_feed_47 ⟨Nat.le_of_ble_eq_true rfl, Nat.le_of_ble_eq_true rfl⟩) hS (fun q _ h => hFc q h) hFc (fun u t H1 locs ht hvm hw hB hz1 hk1 hS => ?_)
  obtain ⟨f715, rfl⟩ : ∃ z, z = u := ⟨_, rfl⟩
  obtain ⟨hP1, hK1, hD1⟩ := hB
  rw [ht] at hP1
  try dsimp only at hw
  obtain ⟨hP, hD⟩ := va_join (wr := [(aX, .inr (14, fsX))]) (w1 := [(aT, .inr (12, fsT)), (qr, .inl (kr, 20, .inl f715))]) hP hD [1, 2] [0] rfl rfl (by decide) (by decide) hk1 hFc hP1 hD1
  have hK := hK.sub (tys' := [(kr, .int)]) [0] rfl
  generalize H1 = H at hP hS ⊢
  have hP : va_P (dC, dI) vwCl [(aX, .inr (14, fsX)), (aT, .inr (12, fsT)), (qr, .inl (kr, 20, .inl f715))] H := hP
  have hD : va_D A [(aX, .inr (14, fsX)), (aT, .inr (12, fsT)), (qr, .inl (kr, 20, .inl f715))] := hD
  have hP9 := hP.sub (ws' := [(aX, .inr (14, fsX)), (aT, .inr (12, fsT)), (qr, .inl (kr, 20, .inl f715))]) [0, 1, 2] rfl
  have hD9 := hD.sub (ws' := [(aX, .inr (14, fsX)), (aT, .inr (12, fsT)), (qr, .inl (kr, 20, .inl f715))]) [0, 1, 2] (by decide) rfl
  have hK9 := hK.sub (tys' := [(kr, .int)]) [0] rfl
  exact W.vret hx hb hr (fun t ht hW => ⟨⟨f715, rfl, trivial, by rw [ht]; exact hP9, va_K.moved hW.alike hK9, hD9⟩, hS.F ht⟩) hS.2.2 dX11_feed_50

def l_z_J7_fill_53178 : List Cond := []
def w_z_J7_fill_53178 : List Cond := .code yJ7_fill_53178 cJ7_fill_53178 4 none :: (l_z_J7_fill_53178)
set_option maxHeartbeats 4000000 in
set_option maxRecDepth 100000 in
theorem z_J7_fill_53178 (l : Launch) (dC : Nat → ClassId) (dI : Nat → Nat → Nat) (sz : Nat) (Ad0 : Nat) (Fa0 : Nat → Int32) (Ka0 : ClassId)   : Met l yJ7_fill_53178 w_z_J7_fill_53178 ({ frames := 0, cells := 0, slots := 0, locals := 0 }) (va_Pc [.ref Ad0, .int 0] (fun U => U.heap.size = sz ∧ Wd dC dI [(Ka0, .int)] (fun _ => True) [(Ad0, .inl (Ka0, 20, .inl Fa0))] U)) (va_Qv (fun (u : (Nat → Int32)) => True) (fun (u : (Nat → Int32)) t => Wd dC dI [(Ka0, .int)] (va_A [(Ad0, .inl (Ka0, 20, .inl Fa0))] sz) [(Ad0, .inl (Ka0, 20, .inl ((u))))] t) (va_A [(Ad0, .inl (Ka0, 20, .inl Fa0))] sz))  0 0 (va_A [(Ad0, .inl (Ka0, 20, .inl Fa0))] sz) := by
  refine Met.ofW (cc := cJ7_fill_53178) (maxL := 4) (ret := none) (by decide) rfl ?_
  intro p e s m args below meth c s₁ B hml hv
  obtain ⟨rfl, hsz, hP, hK, hD0⟩ := hv
  have hx := B.exec
  have hb := B.bytes
  have hr := B.returns
  have hts := atoms_spec (ws := w_z_J7_fill_53178) B.pre
  have hown : s.vm.findClass RJ7 = some m.cls := findClass_of_methodNamed B.named
  have hlocks := B.notSynchronized
  subst hsz
  have hD := hD0.self (sz := s.heap.size)
  generalize hAe : va_A [(Ad0, .inl (Ka0, 20, .inl Fa0))] s.heap.size = A at hD ⊢
  have hA : ∀ q : Nat, s.heap.size ≤ q → A q := fun q h => by rw [← hAe]; exact Or.inr h
  have hS : va_S A s.heap s.heap [] := va_S.rf
  have hl := lv_entry ([.ref Ad0, .int 0]) (n := 4) (Nat.le_of_ble_eq_true rfl)
  rw [lg_entry_eq]
  generalize (lg_sl ([.ref Ad0, .int 0]) ++ List.replicate (4 - (lg_sl ([.ref Ad0, .int 0])).length) Slot.unset).toArray = ls at hl ⊢
  have hl : lv_has ls 4 [(0, .ref Ad0), (1, .int 0)] := hl
  refine lv_iconst (v := 0) hx hb dJ7_fill_53178_0 (by decide) ?_
  refine lv_istore_n (lv' := [(2, .int 0), (0, .ref Ad0), (1, .int 0)]) hx hb dJ7_fill_53178_1 rfl hl (by decide) rfl (fun ls hl => ?_)
  refine lv_aload_n hx hb dJ7_fill_53178_2 rfl (lv_at hl 1 rfl) ?_
  refine va_alen (v := 20) hx hb hK hP 0 0 rfl rfl (show Int32.ofNat 20 = 20 from by decide) dJ7_fill_53178_3 ?_
  refine lv_istore_n (lv' := [(3, .int 20), (2, .int 0), (0, .ref Ad0), (1, .int 0)]) hx hb dJ7_fill_53178_4 rfl hl (by decide) rfl (fun ls hl => ?_)
  have HL1 : ∀ (n j781 : Nat) (x782 : Int32) (f783 : Nat → Int32), x782 = nI j781 → 0 ≤ j781 → j781 ≤ 20 → 21 ≤ j781 + n → ∀ (H : Heap) (locs : List Loc) (ls : Array Slot), va_P (dC, dI) vwCl [(Ad0, .inl (Ka0, 20, .inl f783))] H → va_D A [(Ad0, .inl (Ka0, 20, .inl f783))] → va_S A s.heap H locs → lv_has ls 4 [(3, .int 20), (2, .int x782), (0, .ref Ad0), (1, .int 0)] → W p l e (headSpec w_z_J7_fill_53178 ({ frames := 0, cells := 0, slots := 0, locals := 0 })).room s m ([.ref Ad0, .int 0]).toArray below meth c H locs 0 0 (MQ below (va_Qv (fun (u : (Nat → Int32)) => True) (fun (u : (Nat → Int32)) t => Wd dC dI [(Ka0, .int)] A [(Ad0, .inl (Ka0, 20, .inl ((u))))] t) A) ([.ref Ad0, .int 0]).toArray s 0 0 A) (F0 m 5 ls []) := by
    intro n
    induction n with
    | zero =>
      intro j781 x782 f783 e784 h786 h787 h788
      exact absurd h788 (by omega)
    | succ n ih =>
      intro j781 x782 f783 e784 h786 h787 h788 H locs ls hP hD hS hl
      have t785 : x782.toInt = (j781 : Int) := by rw [e784]; exact nI_toInt (by omega)
      refine lv_iload_n hx hb dJ7_fill_53178_5 rfl (lv_at hl 1 rfl) ?_
      refine lv_iload_n hx hb dJ7_fill_53178_6 rfl (lv_at hl 0 rfl) ?_
      refine lv_icmp_ge (tgt := 20) hx hb dJ7_fill_53178_7 (by decide) (fun c789 => ?_) (fun c789 => ?_)
      · skip
        have hP9 := hP.sub (ws' := [(Ad0, .inl (Ka0, 20, .inl f783))]) [0] rfl
        have hD9 := hD.sub (ws' := [(Ad0, .inl (Ka0, 20, .inl f783))]) [0] (by decide) rfl
        have hK9 := hK.sub (tys' := [(Ka0, .int)]) [0] rfl
        exact W.vret hx hb hr (fun t ht hW => ⟨⟨f783, rfl, trivial, by rw [ht]; exact hP9, va_K.moved hW.alike hK9, hD9⟩, hS.F ht⟩) hS.2.2 dJ7_fill_53178_20
      · skip
        refine lv_aload_n hx hb dJ7_fill_53178_10 rfl (lv_at hl 2 rfl) ?_
        refine lv_iload_n hx hb dJ7_fill_53178_11 rfl (lv_at hl 1 rfl) ?_
        refine lv_iload_n hx hb dJ7_fill_53178_12 rfl (lv_at hl 3 rfl) ?_
        refine va_iast hx hb hK hP hD hS 0 0 rfl rfl (by rw [vp_in_iff]; (try simp only [i_lt, i_le, i_eq, kc_20] at t785 h787 h786 c789); omega) dJ7_fill_53178_13 (fun H locs hP hD hS => ?_)
        have hP : va_P (dC, dI) vwCl [(Ad0, .inl (Ka0, 20, .inl (upd f783 (x782 : Int32).toNatClampNeg 0)))] H := hP
        have hD : va_D A [(Ad0, .inl (Ka0, 20, .inl (upd f783 (x782 : Int32).toNatClampNeg 0)))] := hD
        have q791 : (upd f783 (x782 : Int32).toNatClampNeg 0) (x782 : Int32).toNatClampNeg = 0 := pk_us
        generalize upd f783 (x782 : Int32).toNatClampNeg 0 = f790 at hP hD q791
        obtain ⟨x792, ex792⟩ : ∃ y : Int32, y = x782 + 1 := ⟨_, rfl⟩
        refine lv_iinc (v := x792) (lv' := [(2, .int x792), (3, .int 20), (0, .ref Ad0), (1, .int 0)]) hx hb dJ7_fill_53178_14 hl (k := 1) rfl (by rw [ex792]; rfl) (by decide) rfl (fun ls hl => ?_)
        refine lv_goto (tgt := 5) hx hb dJ7_fill_53178_17 (by decide) ?_
        exact ih (j781 + 1) x792 f790 (by rw [ex792, e784]; exact nI_1 _) (by omega) (by (try simp only [i_lt, i_le, i_eq, kc_20] at t785 h787 h786 c789); omega) (by omega) _ _ _ (hP.sub [0] rfl) (hD.sub [0] (by decide) rfl) hS  (lv_sub hl [1, 0, 2, 3] rfl)
  exact HL1 21 0 (0) Fa0 (by decide) (by omega) (by omega) (by omega) _ _ _ hP hD hS  hl

def l_z_X9_takeReady : List Cond := [.fieldLink RX9 49 "HeapWorks$Tape" "size" "I", .fieldLink RX9 15 "HeapWorks$Tape" "ready" "[I", .fieldLink RX9 11 "HeapWorks$Tape" "bytes" "[I", .methodLink RX9 53 arraycopyName, .native arraycopyName, .static arraycopyName, .initialized "java/lang/System", .methodLink RX9 59 yJ7_fill_53178, .static yJ7_fill_53178, .initialized RJ7, .code yJ7_fill_53178 cJ7_fill_53178 4 none]
def w_z_X9_takeReady : List Cond := .code yX9_takeReady cX9_takeReady 2 (some .int) :: (l_z_X9_takeReady ++ (wsX90))
theorem in_z_X9_takeReady_X9 : ∀ w ∈ wsX90, w ∈ w_z_X9_takeReady := fun w h => List.mem_cons_of_mem _ (List.mem_append_right _ (h))
theorem g_z_X9_takeReady_z_J7_fill_53178_59 : GoodIn w_z_X9_takeReady (va_wsS RX9 59 yJ7_fill_53178 w_z_J7_fill_53178) := goodIn_app (goodIn_sub (by decide +kernel) (by decide +kernel)) (goodIn_sub (by decide +kernel) (by decide +kernel))
set_option maxHeartbeats 4000000 in
set_option maxRecDepth 100000 in
theorem z_X9_takeReady (l : Launch) (dC : Nat → ClassId) (dI : Nat → Nat → Nat) (sz : Nat) (Ad0 : Nat) (Fs0 : List Value) (Ad1 : Nat) (Fa0 : Nat → Int32) (Ka0 : ClassId) (Ad2 : Nat) (Fa1 : Nat → Int32) (Ka1 : ClassId) (Va0 : Int32) (k_Fs0 : fh Fs0 12 [(0, .ref Ad1), (1, .int 0), (2, .ref Ad2)])  : Met l yX9_takeReady w_z_X9_takeReady ({ frames := 1, cells := 0, slots := 0, locals := 60 }) (va_Pc [.ref Ad0, .int Va0] (fun U => U.heap.size = sz ∧ Wd dC dI [(Ka0, .int), (Ka1, .int)] (fun _ => True) [(Ad0, .inr (12, Fs0)), (Ad1, .inl (Ka0, 4000, .inl Fa0)), (Ad2, .inl (Ka1, 20, .inl Fa1))] U)) (va_Qi (fun (r : Int32) (u : List Value × (Nat → Int32) × (Nat → Int32)) => (Va0 < 0 ∧ r = (-1) ∧ ow Fs0 (u.1) 12 [] [(0, .ref Ad1), (1, .int 0), (2, .ref Ad2)]) ∨ (¬ Va0 < 0 ∧ 20 < Va0 ∧ r = (-1) ∧ ow Fs0 (u.1) 12 [] [(0, .ref Ad1), (1, .int 0), (2, .ref Ad2)]) ∨ (¬ Va0 < 0 ∧ ¬ 20 < Va0 ∧ r = (0 + Va0) ∧ ow Fs0 (u.1) 12 [1] [(0, .ref Ad1), (2, .ref Ad2)])) (fun (u : List Value × (Nat → Int32) × (Nat → Int32)) t => Wd dC dI [(Ka0, .int), (Ka1, .int)] (va_A [(Ad0, .inr (12, Fs0)), (Ad1, .inl (Ka0, 4000, .inl Fa0)), (Ad2, .inl (Ka1, 20, .inl Fa1))] sz) [(Ad0, .inr (12, (u.1))), (Ad1, .inl (Ka0, 4000, .inl ((u.2.1)))), (Ad2, .inl (Ka1, 20, .inl ((u.2.2))))] t) (va_A [(Ad0, .inr (12, Fs0)), (Ad1, .inl (Ka0, 4000, .inl Fa0)), (Ad2, .inl (Ka1, 20, .inl Fa1))] sz))  0 0 (va_A [(Ad0, .inr (12, Fs0)), (Ad1, .inl (Ka0, 4000, .inl Fa0)), (Ad2, .inl (Ka1, 20, .inl Fa1))] sz) := by
  refine Met.ofW (cc := cX9_takeReady) (maxL := 2) (ret := (some .int)) (by decide) rfl ?_
  intro p e s m args below meth c s₁ B hml hv
  obtain ⟨rfl, hsz, hP, hK, hD0⟩ := hv
  have hx := B.exec
  have hb := B.bytes
  have hr := B.returns
  have hts := atoms_spec (ws := w_z_X9_takeReady) B.pre
  have hown : s.vm.findClass RX9 = some m.cls := findClass_of_methodNamed B.named
  have hlocks := B.notSynchronized
  subst hsz
  have hD := hD0.self (sz := s.heap.size)
  generalize hAe : va_A [(Ad0, .inr (12, Fs0)), (Ad1, .inl (Ka0, 4000, .inl Fa0)), (Ad2, .inl (Ka1, 20, .inl Fa1))] s.heap.size = A at hD ⊢
  have hA : ∀ q : Nat, s.heap.size ≤ q → A q := fun q h => by rw [← hAe]; exact Or.inr h
  have hS : va_S A s.heap s.heap [] := va_S.rf
  have hl := lv_entry ([.ref Ad0, .int Va0]) (n := 2) (Nat.le_of_ble_eq_true rfl)
  rw [lg_entry_eq]
  generalize (lg_sl ([.ref Ad0, .int Va0]) ++ List.replicate (2 - (lg_sl ([.ref Ad0, .int Va0])).length) Slot.unset).toArray = ls at hl ⊢
  have hl : lv_has ls 2 [(0, .ref Ad0), (1, .int Va0)] := hl
  have o_Fs0 := ow_0 k_Fs0
  refine lv_iload_n hx hb dX9_takeReady_0 rfl (lv_at hl 1 rfl) ?_
  refine lv_if_lt (tgt := 22) hx hb dX9_takeReady_1 (by decide) (fun c794 => ?_) (fun c794 => ?_)
  · skip
    refine lv_iconst (v := (-1)) hx hb dX9_takeReady_22 (by decide) ?_
    have hP9 := hP.sub (ws' := [(Ad0, .inr (12, Fs0)), (Ad1, .inl (Ka0, 4000, .inl Fa0)), (Ad2, .inl (Ka1, 20, .inl Fa1))]) [0, 1, 2] rfl
    have hD9 := hD.sub (ws' := [(Ad0, .inr (12, Fs0)), (Ad1, .inl (Ka0, 4000, .inl Fa0)), (Ad2, .inl (Ka1, 20, .inl Fa1))]) [0, 1, 2] (by decide) rfl
    have hK9 := hK.sub (tys' := [(Ka0, .int), (Ka1, .int)]) [0, 1] rfl
    exact W.iret (v := (-1)) hx hb hr (fun t ht hW => ⟨⟨(-1), (Fs0, Fa0, Fa1), rfl, (Or.inl ⟨c794, rfl, o_Fs0⟩), by rw [ht]; exact hP9, va_K.moved hW.alike hK9, hD9⟩, hS.F ht⟩) hS.2.2 dX9_takeReady_23
  · skip
    refine lv_iload_n hx hb dX9_takeReady_4 rfl (lv_at hl 1 rfl) ?_
    refine lv_bipush (v := 20) hx hb dX9_takeReady_5 (by decide) ?_
    refine lv_icmp_gt (tgt := 22) hx hb dX9_takeReady_7 (by decide) (fun c795 => ?_) (fun c795 => ?_)
    · skip
      refine lv_iconst (v := (-1)) hx hb dX9_takeReady_22 (by decide) ?_
      have hP9 := hP.sub (ws' := [(Ad0, .inr (12, Fs0)), (Ad1, .inl (Ka0, 4000, .inl Fa0)), (Ad2, .inl (Ka1, 20, .inl Fa1))]) [0, 1, 2] rfl
      have hD9 := hD.sub (ws' := [(Ad0, .inr (12, Fs0)), (Ad1, .inl (Ka0, 4000, .inl Fa0)), (Ad2, .inl (Ka1, 20, .inl Fa1))]) [0, 1, 2] (by decide) rfl
      have hK9 := hK.sub (tys' := [(Ka0, .int), (Ka1, .int)]) [0, 1] rfl
      exact W.iret (v := (-1)) hx hb hr (fun t ht hW => ⟨⟨(-1), (Fs0, Fa0, Fa1), rfl, (Or.inr (Or.inl ⟨c794, c795, rfl, o_Fs0⟩)), by rw [ht]; exact hP9, va_K.moved hW.alike hK9, hD9⟩, hS.F ht⟩) hS.2.2 dX9_takeReady_23
    · skip
      refine lv_aload_n hx hb dX9_takeReady_10 rfl (lv_at hl 0 rfl) ?_
      refine va_get (D := (dC, dI)) (ci := 12) (v := .int 0) (C := RX9) (T := TX9) (N := 12) hx hb hts (in_z_X9_takeReady_X9) hown hK hP 0 rfl rfl 1 (by decide) (hts (.fieldLink RX9 49 "HeapWorks$Tape" "size" "I") (by decide +kernel)) (fun _ h9 => h9) (ow_at o_Fs0 1 rfl) dX9_takeReady_11 ?_
      refine lv_iload_n hx hb dX9_takeReady_14 rfl (lv_at hl 1 rfl) ?_
      refine lv_iadd hx hb dX9_takeReady_15  ?_
      refine lv_topi (fun x796 ex796 => ?_)
      have tx796 : x796.toInt = (0 : Int32).toInt + (Va0 : Int32).toInt := by rw [ex796]; exact i_add (by have bd_Va0 := i_bd Va0; (try simp only [i_lt, i_le, i_eq, kc_0, kc_20] at c794 c795 ⊢); omega) (by have bd_Va0 := i_bd Va0; (try simp only [i_lt, i_le, i_eq, kc_0, kc_20] at c794 c795 ⊢); omega)
      refine lv_sipush (v := 4000) hx hb dX9_takeReady_16 (by decide) ?_
      refine lv_icmp_le (tgt := 24) hx hb dX9_takeReady_19 (by decide) (fun c797 => ?_) (fun c797 => (by exfalso; have bd_x796 := i_bd x796; (try simp only [i_lt, i_le, i_eq, kc_0, kc_20, kc_4000] at tx796 c794 c795 c797); omega))
      refine lv_aload_n hx hb dX9_takeReady_24 rfl (lv_at hl 0 rfl) ?_
      refine va_get (D := (dC, dI)) (ci := 12) (v := .ref Ad2) (C := RX9) (T := TX9) (N := 12) hx hb hts (in_z_X9_takeReady_X9) hown hK hP 0 rfl rfl 2 (by decide) (hts (.fieldLink RX9 15 "HeapWorks$Tape" "ready" "[I") (by decide +kernel)) (fun _ h9 => h9) (ow_at o_Fs0 2 rfl) dX9_takeReady_25 ?_
      refine lv_iconst (v := 0) hx hb dX9_takeReady_28 (by decide) ?_
      refine lv_aload_n hx hb dX9_takeReady_29 rfl (lv_at hl 0 rfl) ?_
      refine va_get (D := (dC, dI)) (ci := 12) (v := .ref Ad1) (C := RX9) (T := TX9) (N := 12) hx hb hts (in_z_X9_takeReady_X9) hown hK hP 0 rfl rfl 0 (by decide) (hts (.fieldLink RX9 11 "HeapWorks$Tape" "bytes" "[I") (by decide +kernel)) (fun _ h9 => h9) (ow_at o_Fs0 0 rfl) dX9_takeReady_30 ?_
      refine lv_aload_n hx hb dX9_takeReady_33 rfl (lv_at hl 0 rfl) ?_
      refine va_get (D := (dC, dI)) (ci := 12) (v := .int 0) (C := RX9) (T := TX9) (N := 12) hx hb hts (in_z_X9_takeReady_X9) hown hK hP 0 rfl rfl 1 (by decide) (hts (.fieldLink RX9 49 "HeapWorks$Tape" "size" "I") (by decide +kernel)) (fun _ h9 => h9) (ow_at o_Fs0 1 rfl) dX9_takeReady_34 ?_
      refine lv_iload_n hx hb dX9_takeReady_37 rfl (lv_at hl 1 rfl) ?_
      refine va_copyi (ty := .int) hx hb (hml.trans hl.1.symm) hown (hts (.methodLink RX9 53 arraycopyName) (by decide +kernel)) (hts (.native arraycopyName) (by decide +kernel)) (hts (.static arraycopyName) (by decide +kernel)) (hts (.initialized "java/lang/System") (by decide +kernel)) hK hP hD hS 2 1 1 0 rfl rfl rfl rfl rfl (by decide) (by decide) (by have bd_Va0 := i_bd Va0; (try simp only [i_lt, i_le, i_eq, kc_0, kc_20, kc_4000] at c794 c795 tx796 c797 ⊢); omega) (by have := i_cl (x := Va0) (by have bd_Va0 := i_bd Va0; (try simp only [i_lt, i_le, i_eq, kc_0, kc_20, kc_4000] at c794 c795 tx796 c797); omega); have : (0 : Int32).toNatClampNeg = 0 := (by decide); have bd_Va0 := i_bd Va0; (try simp only [i_lt, i_le, i_eq, kc_0, kc_20, kc_4000] at c794 c795 tx796 c797); omega) (by have := i_cl (x := Va0) (by have bd_Va0 := i_bd Va0; (try simp only [i_lt, i_le, i_eq, kc_0, kc_20, kc_4000] at c794 c795 tx796 c797); omega); have : (0 : Int32).toNatClampNeg = 0 := (by decide); have bd_Va0 := i_bd Va0; (try simp only [i_lt, i_le, i_eq, kc_0, kc_20, kc_4000] at c794 c795 tx796 c797); omega) (fun _ _ => rfl) (Nat.le_of_ble_eq_true rfl) (Nat.le_of_ble_eq_true rfl) dX9_takeReady_38 (fun H locs hP hD hS => ?_)
      have hP : va_P (dC, dI) vwCl [(Ad0, .inr (12, Fs0)), (Ad1, .inl (Ka0, 4000, .inl (va_cpy Fa1 Fa0 (0 : Int32).toNatClampNeg (0 : Int32).toNatClampNeg (Va0 : Int32).toNatClampNeg))), (Ad2, .inl (Ka1, 20, .inl Fa1))] H := hP
      have hD : va_D A [(Ad0, .inr (12, Fs0)), (Ad1, .inl (Ka0, 4000, .inl (va_cpy Fa1 Fa0 (0 : Int32).toNatClampNeg (0 : Int32).toNatClampNeg (Va0 : Int32).toNatClampNeg))), (Ad2, .inl (Ka1, 20, .inl Fa1))] := hD
      generalize va_cpy Fa1 Fa0 (0 : Int32).toNatClampNeg (0 : Int32).toNatClampNeg (Va0 : Int32).toNatClampNeg = f798 at hP hD
      refine lv_aload_n hx hb dX9_takeReady_41 rfl (lv_at hl 0 rfl) ?_
      refine lv_dup hx hb dX9_takeReady_42 rfl ?_
      refine va_get (D := (dC, dI)) (ci := 12) (v := .int 0) (C := RX9) (T := TX9) (N := 12) hx hb hts (in_z_X9_takeReady_X9) hown hK hP 0 rfl rfl 1 (by decide) (hts (.fieldLink RX9 49 "HeapWorks$Tape" "size" "I") (by decide +kernel)) (fun _ h9 => h9) (ow_at o_Fs0 1 rfl) dX9_takeReady_43 ?_
      refine lv_iload_n hx hb dX9_takeReady_46 rfl (lv_at hl 1 rfl) ?_
      refine lv_iadd hx hb dX9_takeReady_47  ?_
      refine lv_topi (fun x799 ex799 => ?_)
      have tx799 : x799.toInt = (0 : Int32).toInt + (Va0 : Int32).toInt := by rw [ex799]; exact i_add (by have bd_Va0 := i_bd Va0; (try simp only [i_lt, i_le, i_eq, kc_0, kc_20, kc_4000] at c794 c795 tx796 c797 ⊢); omega) (by have bd_Va0 := i_bd Va0; (try simp only [i_lt, i_le, i_eq, kc_0, kc_20, kc_4000] at c794 c795 tx796 c797 ⊢); omega)
      refine va_put (D := (dC, dI)) (ci := 12) (v := .int x799) (ty := .int) (C := RX9) (T := TX9) (N := 12) hx hb hts (in_z_X9_takeReady_X9) tyX9 tyX9_ok nmX9 hown hK hP hD hS 0 rfl rfl 1 (by decide) (hts (.fieldLink RX9 49 "HeapWorks$Tape" "size" "I") (by decide +kernel)) (fun _ h9 => h9) rfl (by decide +kernel) rfl rfl (by rw [o_Fs0.2.1]; decide) dX9_takeReady_48 (fun H locs hP hD hS => ?_)
      have hP : va_P (dC, dI) vwCl [(Ad0, .inr (12, (Fs0.set 1 (.int x799)))), (Ad1, .inl (Ka0, 4000, .inl f798)), (Ad2, .inl (Ka1, 20, .inl Fa1))] H := hP
      have hD : va_D A [(Ad0, .inr (12, (Fs0.set 1 (.int x799)))), (Ad1, .inl (Ka0, 4000, .inl f798)), (Ad2, .inl (Ka1, 20, .inl Fa1))] := hD
      have o_s800 := ow_set o_Fs0 1 (.int x799) (by decide) (l' := [(1, .int x799), (0, .ref Ad1), (2, .ref Ad2)]) (w' := [1]) rfl rfl
      generalize (Fs0.set 1 (.int x799)) = s800 at hP hD o_s800
      refine lv_aload_n hx hb dX9_takeReady_51 rfl (lv_at hl 0 rfl) ?_
      refine va_get (D := (dC, dI)) (ci := 12) (v := .ref Ad2) (C := RX9) (T := TX9) (N := 12) hx hb hts (in_z_X9_takeReady_X9) hown hK hP 0 rfl rfl 2 (by decide) (hts (.fieldLink RX9 15 "HeapWorks$Tape" "ready" "[I") (by decide +kernel)) (fun _ h9 => h9) (ow_at o_s800 2 rfl) dX9_takeReady_52 ?_
      refine lv_iconst (v := 0) hx hb dX9_takeReady_55 (by decide) ?_
      have hPc := hP.sub (ws' := [(Ad2, .inl (Ka1, 20, .inl Fa1))]) [2] rfl
      have hDc := hD.sub (ws' := [(Ad2, .inl (Ka1, 20, .inl Fa1))]) [2] (by decide) rfl
      have hKc := hK.sub (tys' := [(Ka1, .int)]) [1] rfl
      have hFc := va_free (wc := [(Ad2, .inl (Ka1, 20, .inl Fa1))]) hD hS hA [2] rfl
      refine va_callv (va_runS (As := [.ref Ad2, .int 0]) (rest := []) ⟨hx, hb, hml, hown, hts⟩ (z_J7_fill_53178 l dC dI H.size Ad2 Fa1 Ka1  ) (va_cwS 2 hts g_z_X9_takeReady_z_J7_fill_53178_59 rfl rfl rfl (by decide +kernel) ⟨Nat.le_of_ble_eq_true rfl, Nat.le_of_ble_eq_true rfl⟩) ⟨fun a U g mk q => by obtain ⟨q0, q1, qP, qK, qD⟩ := q; exact ⟨q0, q1, qP, va_K.moved (u := U) (U := U.calling g mk a) (Vm.Alike.refl U.vm) qK, qD⟩, fun U hU hW => ⟨rfl, by rw [hU], by rw [hU]; exact hPc, va_K.moved hW.alike hKc, hDc.weaken (fun _ _ _ _ => trivial)⟩⟩ rfl rfl hl.1 rfl (lv_room (Nat.le_of_ble_eq_true rfl)) dX9_takeReady_56 ⟨Nat.le_of_ble_eq_true rfl, Nat.le_of_ble_eq_true rfl⟩) hS (fun q _ h => hFc q h) hFc (fun u t H1 locs ht hvm hw hB hz1 hk1 hS => ?_)
      obtain ⟨f836, rfl⟩ : ∃ z, z = u := ⟨_, rfl⟩
      obtain ⟨hP1, hK1, hD1⟩ := hB
      rw [ht] at hP1
      try dsimp only at hw
      obtain ⟨hP, hD⟩ := va_join (wr := [(Ad0, .inr (12, s800)), (Ad1, .inl (Ka0, 4000, .inl f798))]) (w1 := [(Ad2, .inl (Ka1, 20, .inl f836))]) hP hD [2] [0, 1] rfl rfl (by decide) (by decide) hk1 hFc hP1 hD1
      have hK := hK.sub (tys' := [(Ka0, .int), (Ka1, .int)]) [0, 1] rfl
      generalize H1 = H at hP hS ⊢
      have hP : va_P (dC, dI) vwCl [(Ad0, .inr (12, s800)), (Ad1, .inl (Ka0, 4000, .inl f798)), (Ad2, .inl (Ka1, 20, .inl f836))] H := hP
      have hD : va_D A [(Ad0, .inr (12, s800)), (Ad1, .inl (Ka0, 4000, .inl f798)), (Ad2, .inl (Ka1, 20, .inl f836))] := hD
      refine lv_aload_n hx hb dX9_takeReady_59 rfl (lv_at hl 0 rfl) ?_
      refine va_get (D := (dC, dI)) (ci := 12) (v := .int x799) (C := RX9) (T := TX9) (N := 12) hx hb hts (in_z_X9_takeReady_X9) hown hK hP 0 rfl rfl 1 (by decide) (hts (.fieldLink RX9 49 "HeapWorks$Tape" "size" "I") (by decide +kernel)) (fun _ h9 => h9) (ow_at o_s800 0 rfl) dX9_takeReady_60 ?_
      have hP9 := hP.sub (ws' := [(Ad0, .inr (12, s800)), (Ad1, .inl (Ka0, 4000, .inl f798)), (Ad2, .inl (Ka1, 20, .inl f836))]) [0, 1, 2] rfl
      have hD9 := hD.sub (ws' := [(Ad0, .inr (12, s800)), (Ad1, .inl (Ka0, 4000, .inl f798)), (Ad2, .inl (Ka1, 20, .inl f836))]) [0, 1, 2] (by decide) rfl
      have hK9 := hK.sub (tys' := [(Ka0, .int), (Ka1, .int)]) [0, 1] rfl
      exact W.iret (v := x799) hx hb hr (fun t ht hW => ⟨⟨x799, (s800, f798, f836), rfl, (Or.inr (Or.inr (⟨c794, c795, (by subst_vars; rfl), (ow_sub o_s800 [1, 2] rfl)⟩))), by rw [ht]; exact hP9, va_K.moved hW.alike hK9, hD9⟩, hS.F ht⟩) hS.2.2 dX9_takeReady_63

def l_x_end : List Cond := [.fieldLink RX11 12 "HeapWorks" "tape" "LHeapWorks$Tape;", .methodLink RX11 106 yX9_takeReady, .instanceMethod yX9_takeReady, .selects RX9 yX9_takeReady yX9_takeReady, .initialized RX9, .code yX9_takeReady cX9_takeReady 2 (some .int), .fieldLink RX9 49 "HeapWorks$Tape" "size" "I", .fieldLink RX9 15 "HeapWorks$Tape" "ready" "[I", .fieldLink RX9 11 "HeapWorks$Tape" "bytes" "[I", .methodLink RX9 53 arraycopyName, .native arraycopyName, .static arraycopyName, .initialized "java/lang/System", .methodLink RX9 59 yJ7_fill_53178, .static yJ7_fill_53178, .initialized RJ7, .code yJ7_fill_53178 cJ7_fill_53178 4 none]
def w_x_end : List Cond := .code yX11_end cX11_end 2 (some .int) :: (l_x_end ++ ((wsX110 ++ wsX90)))
theorem in_x_end_X11 : ∀ w ∈ wsX110, w ∈ w_x_end := fun w h => List.mem_cons_of_mem _ (List.mem_append_right _ (List.mem_append_left _ h))
theorem in_x_end_X9 : ∀ w ∈ wsX90, w ∈ w_x_end := fun w h => List.mem_cons_of_mem _ (List.mem_append_right _ (List.mem_append_right _ (h)))
theorem g_x_end_z_X9_takeReady_106 : GoodIn w_x_end (wsV RX11 106 RX9 yX9_takeReady w_z_X9_takeReady) := goodIn_app (goodIn_sub (by decide +kernel) (by decide +kernel)) (goodIn_ca (goodIn_sub (by decide +kernel) (by decide +kernel)) (goodIn_in in_x_end_X9 gd_X9))
set_option maxHeartbeats 4000000 in
set_option maxRecDepth 100000 in
theorem x_end (l : Launch) (dC : Nat → ClassId) (dI : Nat → Nat → Nat) (sz : Nat) (aX : Nat) (fsX : List Value) (aT : Nat) (fsT : List Value) (qb : Nat) (fb : Nat → Int32) (kb : ClassId) (qr : Nat) (fr : Nat → Int32) (kr : ClassId) (p0 : Int32) (k_fsX : fh fsX 18 [(0, .ref aT)]) (k_fsT : fh fsT 12 [(0, .ref qb), (1, .int 0), (2, .ref qr)])  : Met l yX11_end w_x_end ({ frames := 2, cells := 0, slots := 0, locals := 81 }) (va_Pc [.ref aX, .int p0] (fun U => U.heap.size = sz ∧ Wd dC dI [(kb, .int), (kr, .int)] (fun _ => True) [(aX, .inr (14, fsX)), (aT, .inr (12, fsT)), (qb, .inl (kb, 4000, .inl fb)), (qr, .inl (kr, 20, .inl fr))] U)) (va_Qi (fun (r : Int32) (u : List Value × (Nat → Int32) × (Nat → Int32)) => (p0 < 0 ∧ r = (-1) ∧ ow fsT (u.1) 12 [] [(0, .ref qb), (1, .int 0), (2, .ref qr), (0, .ref qb), (1, .int 0), (2, .ref qr)]) ∨ (¬ p0 < 0 ∧ 20 < p0 ∧ r = (-1) ∧ ow fsT (u.1) 12 [] [(0, .ref qb), (1, .int 0), (2, .ref qr), (0, .ref qb), (1, .int 0), (2, .ref qr)]) ∨ (¬ p0 < 0 ∧ ¬ 20 < p0 ∧ r = ((0 + p0)) ∧ ow fsT (u.1) 12 [1] [(0, .ref qb), (2, .ref qr), (0, .ref qb), (2, .ref qr)])) (fun (u : List Value × (Nat → Int32) × (Nat → Int32)) t => Wd dC dI [(kb, .int), (kr, .int)] (va_A [(aX, .inr (14, fsX)), (aT, .inr (12, fsT)), (qb, .inl (kb, 4000, .inl fb)), (qr, .inl (kr, 20, .inl fr))] sz) [(aX, .inr (14, fsX)), (aT, .inr (12, (u.1))), (qb, .inl (kb, 4000, .inl ((u.2.1)))), (qr, .inl (kr, 20, .inl ((u.2.2))))] t) (va_A [(aX, .inr (14, fsX)), (aT, .inr (12, fsT)), (qb, .inl (kb, 4000, .inl fb)), (qr, .inl (kr, 20, .inl fr))] sz))  0 0 (va_A [(aX, .inr (14, fsX)), (aT, .inr (12, fsT)), (qb, .inl (kb, 4000, .inl fb)), (qr, .inl (kr, 20, .inl fr))] sz) := by
  refine Met.ofW (cc := cX11_end) (maxL := 2) (ret := (some .int)) (by decide) rfl ?_
  intro p e s m args below meth c s₁ B hml hv
  obtain ⟨rfl, hsz, hP, hK, hD0⟩ := hv
  have hx := B.exec
  have hb := B.bytes
  have hr := B.returns
  have hts := atoms_spec (ws := w_x_end) B.pre
  have hown : s.vm.findClass RX11 = some m.cls := findClass_of_methodNamed B.named
  have hlocks := B.notSynchronized
  subst hsz
  have hD := hD0.self (sz := s.heap.size)
  generalize hAe : va_A [(aX, .inr (14, fsX)), (aT, .inr (12, fsT)), (qb, .inl (kb, 4000, .inl fb)), (qr, .inl (kr, 20, .inl fr))] s.heap.size = A at hD ⊢
  have hA : ∀ q : Nat, s.heap.size ≤ q → A q := fun q h => by rw [← hAe]; exact Or.inr h
  have hS : va_S A s.heap s.heap [] := va_S.rf
  have hl := lv_entry ([.ref aX, .int p0]) (n := 2) (Nat.le_of_ble_eq_true rfl)
  rw [lg_entry_eq]
  generalize (lg_sl ([.ref aX, .int p0]) ++ List.replicate (2 - (lg_sl ([.ref aX, .int p0])).length) Slot.unset).toArray = ls at hl ⊢
  have hl : lv_has ls 2 [(0, .ref aX), (1, .int p0)] := hl
  have o_fsX := ow_0 k_fsX
  have o_fsT := ow_0 k_fsT
  refine lv_aload_n hx hb dX11_end_0 rfl (lv_at hl 0 rfl) ?_
  refine va_get (D := (dC, dI)) (ci := 14) (v := .ref aT) (C := RX11) (T := TX11) (N := 18) hx hb hts (in_x_end_X11) hown hK hP 0 rfl rfl 0 (by decide) (hts (.fieldLink RX11 12 "HeapWorks" "tape" "LHeapWorks$Tape;") (by decide +kernel)) (fun _ h9 => h9) (ow_at o_fsX 0 rfl) dX11_end_1 ?_
  refine lv_iload_n hx hb dX11_end_4 rfl (lv_at hl 1 rfl) ?_
  have hPc := hP.sub (ws' := [(aT, .inr (12, fsT)), (qb, .inl (kb, 4000, .inl fb)), (qr, .inl (kr, 20, .inl fr))]) [1, 2, 3] rfl
  have hDc := hD.sub (ws' := [(aT, .inr (12, fsT)), (qb, .inl (kb, 4000, .inl fb)), (qr, .inl (kr, 20, .inl fr))]) [1, 2, 3] (by decide) rfl
  have hKc := hK.sub (tys' := [(kb, .int), (kr, .int)]) [0, 1] rfl
  have hFc := va_free (wc := [(aT, .inr (12, fsT)), (qb, .inl (kb, 4000, .inl fb)), (qr, .inl (kr, 20, .inl fr))]) hD hS hA [1, 2, 3] rfl
  refine va_calli (va_runV (As := [.int p0]) (rest := []) ⟨hx, hb, hml, hown, hts⟩ (z_X9_takeReady l dC dI s.heap.size aT fsT qb fb kb qr fr kr p0 (fh_sub o_fsT.2 [0, 1, 2] rfl) ) (cwV 1 hts g_x_end_z_X9_takeReady_106 rfl rfl rfl (by decide +kernel) ⟨Nat.le_of_ble_eq_true rfl, Nat.le_of_ble_eq_true rfl⟩) ⟨fun a U g mk q => by obtain ⟨q0, q1, qP, qK, qD⟩ := q; exact ⟨q0, q1, qP, va_K.moved (u := U) (U := U.calling g mk a) (Vm.Alike.refl U.vm) qK, qD⟩, va_recv hK hP (ci := 12) (q0 := 1) rfl rfl, fun U hU hW => ⟨rfl, by rw [hU], by rw [hU]; exact hPc, va_K.moved hW.alike hKc, hDc.weaken (fun _ _ _ _ => trivial)⟩⟩ rfl rfl hl.1 rfl (lv_room (Nat.le_of_ble_eq_true rfl)) dX11_end_5 ⟨Nat.le_of_ble_eq_true rfl, Nat.le_of_ble_eq_true rfl⟩) hS (fun q _ h => hFc q h) hFc (fun r892 u t H1 locs ht hvm hw hB hz1 hk1 hS => ?_)
  obtain ⟨s893, f894, f895⟩ := u
  obtain ⟨hP1, hK1, hD1⟩ := hB
  rw [ht] at hP1
  try dsimp only at hw
  obtain ⟨hP, hD⟩ := va_join (wr := [(aX, .inr (14, fsX))]) (w1 := [(aT, .inr (12, s893)), (qb, .inl (kb, 4000, .inl f894)), (qr, .inl (kr, 20, .inl f895))]) hP hD [1, 2, 3] [0] rfl rfl (by decide) (by decide) hk1 hFc hP1 hD1
  have hK := hK.sub (tys' := [(kb, .int), (kr, .int)]) [0, 1] rfl
  generalize H1 = H at hP hS ⊢
  have hP : va_P (dC, dI) vwCl [(aX, .inr (14, fsX)), (aT, .inr (12, s893)), (qb, .inl (kb, 4000, .inl f894)), (qr, .inl (kr, 20, .inl f895))] H := hP
  have hD : va_D A [(aX, .inr (14, fsX)), (aT, .inr (12, s893)), (qb, .inl (kb, 4000, .inl f894)), (qr, .inl (kr, 20, .inl f895))] := hD
  rcases hw with ⟨c896, er897, o_s893⟩ | ⟨c898, c899, er900, o_s893⟩ | ⟨c901, c902, er903, o_s893⟩
  · skip
    subst er897
    have o_s893 := ow_on o_fsT o_s893 (l' := [(0, .ref qb), (1, .int 0), (2, .ref qr), (0, .ref qb), (1, .int 0), (2, .ref qr)]) (w' := []) rfl rfl
    have hP9 := hP.sub (ws' := [(aX, .inr (14, fsX)), (aT, .inr (12, s893)), (qb, .inl (kb, 4000, .inl f894)), (qr, .inl (kr, 20, .inl f895))]) [0, 1, 2, 3] rfl
    have hD9 := hD.sub (ws' := [(aX, .inr (14, fsX)), (aT, .inr (12, s893)), (qb, .inl (kb, 4000, .inl f894)), (qr, .inl (kr, 20, .inl f895))]) [0, 1, 2, 3] (by decide) rfl
    have hK9 := hK.sub (tys' := [(kb, .int), (kr, .int)]) [0, 1] rfl
    exact W.iret (v := (-1)) hx hb hr (fun t ht hW => ⟨⟨(-1), (s893, f894, f895), rfl, (Or.inl ⟨c896, rfl, o_s893⟩), by rw [ht]; exact hP9, va_K.moved hW.alike hK9, hD9⟩, hS.F ht⟩) hS.2.2 dX11_end_8
  · skip
    subst er900
    have o_s893 := ow_on o_fsT o_s893 (l' := [(0, .ref qb), (1, .int 0), (2, .ref qr), (0, .ref qb), (1, .int 0), (2, .ref qr)]) (w' := []) rfl rfl
    have hP9 := hP.sub (ws' := [(aX, .inr (14, fsX)), (aT, .inr (12, s893)), (qb, .inl (kb, 4000, .inl f894)), (qr, .inl (kr, 20, .inl f895))]) [0, 1, 2, 3] rfl
    have hD9 := hD.sub (ws' := [(aX, .inr (14, fsX)), (aT, .inr (12, s893)), (qb, .inl (kb, 4000, .inl f894)), (qr, .inl (kr, 20, .inl f895))]) [0, 1, 2, 3] (by decide) rfl
    have hK9 := hK.sub (tys' := [(kb, .int), (kr, .int)]) [0, 1] rfl
    exact W.iret (v := (-1)) hx hb hr (fun t ht hW => ⟨⟨(-1), (s893, f894, f895), rfl, (Or.inr (Or.inl ⟨c898, c899, rfl, o_s893⟩)), by rw [ht]; exact hP9, va_K.moved hW.alike hK9, hD9⟩, hS.F ht⟩) hS.2.2 dX11_end_8
  · skip
    have er892 := er903
    have o_s893 := ow_on o_fsT o_s893 (l' := [(0, .ref qb), (2, .ref qr), (0, .ref qb), (2, .ref qr)]) (w' := [1]) rfl rfl
    have hP9 := hP.sub (ws' := [(aX, .inr (14, fsX)), (aT, .inr (12, s893)), (qb, .inl (kb, 4000, .inl f894)), (qr, .inl (kr, 20, .inl f895))]) [0, 1, 2, 3] rfl
    have hD9 := hD.sub (ws' := [(aX, .inr (14, fsX)), (aT, .inr (12, s893)), (qb, .inl (kb, 4000, .inl f894)), (qr, .inl (kr, 20, .inl f895))]) [0, 1, 2, 3] (by decide) rfl
    have hK9 := hK.sub (tys' := [(kb, .int), (kr, .int)]) [0, 1] rfl
    exact W.iret (v := r892) hx hb hr (fun t ht hW => ⟨⟨r892, (s893, f894, f895), rfl, (Or.inr (Or.inr (⟨c901, c902, (by subst_vars; rfl), o_s893⟩))), by rw [ht]; exact hP9, va_K.moved hW.alike hK9, hD9⟩, hS.F ht⟩) hS.2.2 dX11_end_8

def l_x_wipe : List Cond := [.fieldLink RX11 12 "HeapWorks" "tape" "LHeapWorks$Tape;", .fieldLink RX11 110 "HeapWorks$Tape" "size" "I"]
def w_x_wipe : List Cond := .code yX11_wipe cX11_wipe 1 none :: (l_x_wipe ++ ((wsX110 ++ wsX90)))
theorem in_x_wipe_X11 : ∀ w ∈ wsX110, w ∈ w_x_wipe := fun w h => List.mem_cons_of_mem _ (List.mem_append_right _ (List.mem_append_left _ h))
theorem in_x_wipe_X9 : ∀ w ∈ wsX90, w ∈ w_x_wipe := fun w h => List.mem_cons_of_mem _ (List.mem_append_right _ (List.mem_append_right _ (h)))
set_option maxHeartbeats 4000000 in
set_option maxRecDepth 100000 in
theorem x_wipe (l : Launch) (dC : Nat → ClassId) (dI : Nat → Nat → Nat) (sz : Nat) (aX : Nat) (fsX : List Value) (aT : Nat) (fsT : List Value) (k_fsX : fh fsX 18 [(0, .ref aT)]) (k_fsT : fh fsT 12 [])  : Met l yX11_wipe w_x_wipe ({ frames := 0, cells := 0, slots := 0, locals := 0 }) (va_Pc [.ref aX] (fun U => U.heap.size = sz ∧ Wd dC dI [] (fun _ => True) [(aX, .inr (14, fsX)), (aT, .inr (12, fsT))] U)) (va_Qv (fun (u : List Value) => ow fsT (u) 12 [1] [(1, .int 0)]) (fun (u : List Value) t => Wd dC dI [] (va_A [(aX, .inr (14, fsX)), (aT, .inr (12, fsT))] sz) [(aX, .inr (14, fsX)), (aT, .inr (12, (u)))] t) (va_A [(aX, .inr (14, fsX)), (aT, .inr (12, fsT))] sz))  0 0 (va_A [(aX, .inr (14, fsX)), (aT, .inr (12, fsT))] sz) := by
  refine Met.ofW (cc := cX11_wipe) (maxL := 1) (ret := none) (by decide) rfl ?_
  intro p e s m args below meth c s₁ B hml hv
  obtain ⟨rfl, hsz, hP, hK, hD0⟩ := hv
  have hx := B.exec
  have hb := B.bytes
  have hr := B.returns
  have hts := atoms_spec (ws := w_x_wipe) B.pre
  have hown : s.vm.findClass RX11 = some m.cls := findClass_of_methodNamed B.named
  have hlocks := B.notSynchronized
  subst hsz
  have hD := hD0.self (sz := s.heap.size)
  generalize hAe : va_A [(aX, .inr (14, fsX)), (aT, .inr (12, fsT))] s.heap.size = A at hD ⊢
  have hA : ∀ q : Nat, s.heap.size ≤ q → A q := fun q h => by rw [← hAe]; exact Or.inr h
  have hS : va_S A s.heap s.heap [] := va_S.rf
  have hl := lv_entry ([.ref aX]) (n := 1) (Nat.le_of_ble_eq_true rfl)
  rw [lg_entry_eq]
  generalize (lg_sl ([.ref aX]) ++ List.replicate (1 - (lg_sl ([.ref aX])).length) Slot.unset).toArray = ls at hl ⊢
  have hl : lv_has ls 1 [(0, .ref aX)] := hl
  have o_fsX := ow_0 k_fsX
  have o_fsT := ow_0 k_fsT
  refine lv_aload_n hx hb dX11_wipe_0 rfl (lv_at hl 0 rfl) ?_
  refine va_get (D := (dC, dI)) (ci := 14) (v := .ref aT) (C := RX11) (T := TX11) (N := 18) hx hb hts (in_x_wipe_X11) hown hK hP 0 rfl rfl 0 (by decide) (hts (.fieldLink RX11 12 "HeapWorks" "tape" "LHeapWorks$Tape;") (by decide +kernel)) (fun _ h9 => h9) (ow_at o_fsX 0 rfl) dX11_wipe_1 ?_
  refine lv_iconst (v := 0) hx hb dX11_wipe_4 (by decide) ?_
  refine va_put (D := (dC, dI)) (ci := 12) (v := .int 0) (ty := .int) (C := RX9) (T := TX9) (N := 12) hx hb hts (in_x_wipe_X9) tyX9 tyX9_ok nmX9 hown hK hP hD hS 1 rfl rfl 1 (by decide) (hts (.fieldLink RX11 110 "HeapWorks$Tape" "size" "I") (by decide +kernel)) (fun _ h9 => h9) rfl (by decide +kernel) rfl rfl (by rw [o_fsT.2.1]; decide) dX11_wipe_5 (fun H locs hP hD hS => ?_)
  have hP : va_P (dC, dI) vwCl [(aX, .inr (14, fsX)), (aT, .inr (12, (fsT.set 1 (.int 0))))] H := hP
  have hD : va_D A [(aX, .inr (14, fsX)), (aT, .inr (12, (fsT.set 1 (.int 0))))] := hD
  have o_s905 := ow_set o_fsT 1 (.int 0) (by decide) (l' := [(1, .int 0)]) (w' := [1]) rfl rfl
  generalize (fsT.set 1 (.int 0)) = s905 at hP hD o_s905
  have hP9 := hP.sub (ws' := [(aX, .inr (14, fsX)), (aT, .inr (12, s905))]) [0, 1] rfl
  have hD9 := hD.sub (ws' := [(aX, .inr (14, fsX)), (aT, .inr (12, s905))]) [0, 1] (by decide) rfl
  have hK9 := hK.sub (tys' := []) [] rfl
  exact W.vret hx hb hr (fun t ht hW => ⟨⟨s905, rfl, o_s905, by rw [ht]; exact hP9, va_K.moved hW.alike hK9, hD9⟩, hS.F ht⟩) hS.2.2 dX11_wipe_8

def l_x_flip : List Cond := [.fieldLink RX11 12 "HeapWorks" "tape" "LHeapWorks$Tape;", .fieldLink RX11 110 "HeapWorks$Tape" "size" "I"]
def w_x_flip : List Cond := .code yX11_flip cX11_flip 3 (some .boolean) :: (l_x_flip ++ ((wsX110 ++ wsX90)))
theorem in_x_flip_X11 : ∀ w ∈ wsX110, w ∈ w_x_flip := fun w h => List.mem_cons_of_mem _ (List.mem_append_right _ (List.mem_append_left _ h))
theorem in_x_flip_X9 : ∀ w ∈ wsX90, w ∈ w_x_flip := fun w h => List.mem_cons_of_mem _ (List.mem_append_right _ (List.mem_append_right _ (h)))
set_option maxHeartbeats 4000000 in
set_option maxRecDepth 100000 in
theorem x_flip (l : Launch) (dC : Nat → ClassId) (dI : Nat → Nat → Nat) (sz : Nat) (aX : Nat) (fsX : List Value) (aT : Nat) (fsT : List Value) (p0 : Int32) (p1 : Int32) (k_fsX : fh fsX 18 [(0, .ref aT)]) (k_fsT : fh fsT 12 [(1, .int 0)])  : Met l yX11_flip w_x_flip ({ frames := 0, cells := 0, slots := 0, locals := 0 }) (va_Pc [.ref aX, .int p0, .int p1] (fun U => U.heap.size = sz ∧ Wd dC dI [] (fun _ => True) [(aX, .inr (14, fsX)), (aT, .inr (12, fsT))] U)) (va_Qi (fun (r : Int32) (u : Unit) => (p0 < 0 ∧ r = 0) ∨ (¬ p0 < 0 ∧ 0 ≤ p0 ∧ r = 0)) (fun (u : Unit) t => Wd dC dI [] (va_A [(aX, .inr (14, fsX)), (aT, .inr (12, fsT))] sz) [(aX, .inr (14, fsX)), (aT, .inr (12, fsT))] t) (va_A [(aX, .inr (14, fsX)), (aT, .inr (12, fsT))] sz))  0 0 (va_A [(aX, .inr (14, fsX)), (aT, .inr (12, fsT))] sz) := by
  refine Met.ofW (cc := cX11_flip) (maxL := 3) (ret := (some .boolean)) (by decide) rfl ?_
  intro p e s m args below meth c s₁ B hml hv
  obtain ⟨rfl, hsz, hP, hK, hD0⟩ := hv
  have hx := B.exec
  have hb := B.bytes
  have hr := B.returns
  have hts := atoms_spec (ws := w_x_flip) B.pre
  have hown : s.vm.findClass RX11 = some m.cls := findClass_of_methodNamed B.named
  have hlocks := B.notSynchronized
  subst hsz
  have hD := hD0.self (sz := s.heap.size)
  generalize hAe : va_A [(aX, .inr (14, fsX)), (aT, .inr (12, fsT))] s.heap.size = A at hD ⊢
  have hA : ∀ q : Nat, s.heap.size ≤ q → A q := fun q h => by rw [← hAe]; exact Or.inr h
  have hS : va_S A s.heap s.heap [] := va_S.rf
  have hl := lv_entry ([.ref aX, .int p0, .int p1]) (n := 3) (Nat.le_of_ble_eq_true rfl)
  rw [lg_entry_eq]
  generalize (lg_sl ([.ref aX, .int p0, .int p1]) ++ List.replicate (3 - (lg_sl ([.ref aX, .int p0, .int p1])).length) Slot.unset).toArray = ls at hl ⊢
  have hl : lv_has ls 3 [(0, .ref aX), (1, .int p0), (2, .int p1)] := hl
  have o_fsX := ow_0 k_fsX
  have o_fsT := ow_0 k_fsT
  refine lv_iload_n hx hb dX11_flip_0 rfl (lv_at hl 1 rfl) ?_
  refine lv_if_lt (tgt := 25) hx hb dX11_flip_1 (by decide) (fun c908 => ?_) (fun c908 => ?_)
  · skip
    refine lv_iconst (v := 0) hx hb dX11_flip_25 (by decide) ?_
    have hP9 := hP.sub (ws' := [(aX, .inr (14, fsX)), (aT, .inr (12, fsT))]) [0, 1] rfl
    have hD9 := hD.sub (ws' := [(aX, .inr (14, fsX)), (aT, .inr (12, fsT))]) [0, 1] (by decide) rfl
    have hK9 := hK.sub (tys' := []) [] rfl
    exact W.zret (v := 0) hx hb hr rfl (fun t ht hW => ⟨⟨0, (), rfl, (Or.inl ⟨c908, rfl⟩), by rw [ht]; exact hP9, va_K.moved hW.alike hK9, hD9⟩, hS.F ht⟩) hS.2.2 dX11_flip_26
  · skip
    refine lv_iload_n hx hb dX11_flip_4 rfl (lv_at hl 1 rfl) ?_
    refine lv_aload_n hx hb dX11_flip_5 rfl (lv_at hl 0 rfl) ?_
    refine va_get (D := (dC, dI)) (ci := 14) (v := .ref aT) (C := RX11) (T := TX11) (N := 18) hx hb hts (in_x_flip_X11) hown hK hP 0 rfl rfl 0 (by decide) (hts (.fieldLink RX11 12 "HeapWorks" "tape" "LHeapWorks$Tape;") (by decide +kernel)) (fun _ h9 => h9) (ow_at o_fsX 0 rfl) dX11_flip_6 ?_
    refine va_get (D := (dC, dI)) (ci := 12) (v := .int 0) (C := RX9) (T := TX9) (N := 12) hx hb hts (in_x_flip_X9) hown hK hP 1 rfl rfl 1 (by decide) (hts (.fieldLink RX11 110 "HeapWorks$Tape" "size" "I") (by decide +kernel)) (fun _ h9 => h9) (ow_at o_fsT 0 rfl) dX11_flip_9 ?_
    refine lv_icmp_ge (tgt := 25) hx hb dX11_flip_12 (by decide) (fun c909 => ?_) (fun c909 => (by exfalso; have bd_p0 := i_bd p0; (try simp only [i_lt, i_le, i_eq, kc_0] at c908 c909); omega))
    refine lv_iconst (v := 0) hx hb dX11_flip_25 (by decide) ?_
    have hP9 := hP.sub (ws' := [(aX, .inr (14, fsX)), (aT, .inr (12, fsT))]) [0, 1] rfl
    have hD9 := hD.sub (ws' := [(aX, .inr (14, fsX)), (aT, .inr (12, fsT))]) [0, 1] (by decide) rfl
    have hK9 := hK.sub (tys' := []) [] rfl
    exact W.zret (v := 0) hx hb hr rfl (fun t ht hW => ⟨⟨0, (), rfl, (Or.inr (⟨c908, c909, rfl⟩)), by rw [ht]; exact hP9, va_K.moved hW.alike hK9, hD9⟩, hS.F ht⟩) hS.2.2 dX11_flip_26

def l_x_cut : List Cond := [.fieldLink RX11 12 "HeapWorks" "tape" "LHeapWorks$Tape;", .fieldLink RX11 110 "HeapWorks$Tape" "size" "I"]
def w_x_cut : List Cond := .code yX11_cut cX11_cut 2 (some .boolean) :: (l_x_cut ++ ((wsX110 ++ wsX90)))
theorem in_x_cut_X11 : ∀ w ∈ wsX110, w ∈ w_x_cut := fun w h => List.mem_cons_of_mem _ (List.mem_append_right _ (List.mem_append_left _ h))
theorem in_x_cut_X9 : ∀ w ∈ wsX90, w ∈ w_x_cut := fun w h => List.mem_cons_of_mem _ (List.mem_append_right _ (List.mem_append_right _ (h)))
set_option maxHeartbeats 4000000 in
set_option maxRecDepth 100000 in
theorem x_cut (l : Launch) (dC : Nat → ClassId) (dI : Nat → Nat → Nat) (sz : Nat) (aX : Nat) (fsX : List Value) (aT : Nat) (fsT : List Value) (p0 : Int32) (k_fsX : fh fsX 18 [(0, .ref aT)]) (k_fsT : fh fsT 12 [(1, .int 0)])  : Met l yX11_cut w_x_cut ({ frames := 0, cells := 0, slots := 0, locals := 0 }) (va_Pc [.ref aX, .int p0] (fun U => U.heap.size = sz ∧ Wd dC dI [] (fun _ => True) [(aX, .inr (14, fsX)), (aT, .inr (12, fsT))] U)) (va_Qi (fun (r : Int32) (u : List Value) => (p0 < 0 ∧ r = 0 ∧ ow fsT (u) 12 [] [(1, .int 0)]) ∨ (¬ p0 < 0 ∧ p0 ≤ 0 ∧ r = 1 ∧ ow fsT (u) 12 [1] [(1, .int p0)]) ∨ (¬ p0 < 0 ∧ ¬ p0 ≤ 0 ∧ r = 0 ∧ ow fsT (u) 12 [] [(1, .int 0)])) (fun (u : List Value) t => Wd dC dI [] (va_A [(aX, .inr (14, fsX)), (aT, .inr (12, fsT))] sz) [(aX, .inr (14, fsX)), (aT, .inr (12, (u)))] t) (va_A [(aX, .inr (14, fsX)), (aT, .inr (12, fsT))] sz))  0 0 (va_A [(aX, .inr (14, fsX)), (aT, .inr (12, fsT))] sz) := by
  refine Met.ofW (cc := cX11_cut) (maxL := 2) (ret := (some .boolean)) (by decide) rfl ?_
  intro p e s m args below meth c s₁ B hml hv
  obtain ⟨rfl, hsz, hP, hK, hD0⟩ := hv
  have hx := B.exec
  have hb := B.bytes
  have hr := B.returns
  have hts := atoms_spec (ws := w_x_cut) B.pre
  have hown : s.vm.findClass RX11 = some m.cls := findClass_of_methodNamed B.named
  have hlocks := B.notSynchronized
  subst hsz
  have hD := hD0.self (sz := s.heap.size)
  generalize hAe : va_A [(aX, .inr (14, fsX)), (aT, .inr (12, fsT))] s.heap.size = A at hD ⊢
  have hA : ∀ q : Nat, s.heap.size ≤ q → A q := fun q h => by rw [← hAe]; exact Or.inr h
  have hS : va_S A s.heap s.heap [] := va_S.rf
  have hl := lv_entry ([.ref aX, .int p0]) (n := 2) (Nat.le_of_ble_eq_true rfl)
  rw [lg_entry_eq]
  generalize (lg_sl ([.ref aX, .int p0]) ++ List.replicate (2 - (lg_sl ([.ref aX, .int p0])).length) Slot.unset).toArray = ls at hl ⊢
  have hl : lv_has ls 2 [(0, .ref aX), (1, .int p0)] := hl
  have o_fsX := ow_0 k_fsX
  have o_fsT := ow_0 k_fsT
  refine lv_iload_n hx hb dX11_cut_0 rfl (lv_at hl 1 rfl) ?_
  refine lv_if_lt (tgt := 15) hx hb dX11_cut_1 (by decide) (fun c913 => ?_) (fun c913 => ?_)
  · skip
    refine lv_iconst (v := 0) hx hb dX11_cut_15 (by decide) ?_
    have hP9 := hP.sub (ws' := [(aX, .inr (14, fsX)), (aT, .inr (12, fsT))]) [0, 1] rfl
    have hD9 := hD.sub (ws' := [(aX, .inr (14, fsX)), (aT, .inr (12, fsT))]) [0, 1] (by decide) rfl
    have hK9 := hK.sub (tys' := []) [] rfl
    exact W.zret (v := 0) hx hb hr rfl (fun t ht hW => ⟨⟨0, fsT, rfl, (Or.inl ⟨c913, rfl, o_fsT⟩), by rw [ht]; exact hP9, va_K.moved hW.alike hK9, hD9⟩, hS.F ht⟩) hS.2.2 dX11_cut_16
  · skip
    refine lv_iload_n hx hb dX11_cut_4 rfl (lv_at hl 1 rfl) ?_
    refine lv_aload_n hx hb dX11_cut_5 rfl (lv_at hl 0 rfl) ?_
    refine va_get (D := (dC, dI)) (ci := 14) (v := .ref aT) (C := RX11) (T := TX11) (N := 18) hx hb hts (in_x_cut_X11) hown hK hP 0 rfl rfl 0 (by decide) (hts (.fieldLink RX11 12 "HeapWorks" "tape" "LHeapWorks$Tape;") (by decide +kernel)) (fun _ h9 => h9) (ow_at o_fsX 0 rfl) dX11_cut_6 ?_
    refine va_get (D := (dC, dI)) (ci := 12) (v := .int 0) (C := RX9) (T := TX9) (N := 12) hx hb hts (in_x_cut_X9) hown hK hP 1 rfl rfl 1 (by decide) (hts (.fieldLink RX11 110 "HeapWorks$Tape" "size" "I") (by decide +kernel)) (fun _ h9 => h9) (ow_at o_fsT 0 rfl) dX11_cut_9 ?_
    refine lv_icmp_le (tgt := 17) hx hb dX11_cut_12 (by decide) (fun c914 => ?_) (fun c914 => ?_)
    · skip
      refine lv_aload_n hx hb dX11_cut_17 rfl (lv_at hl 0 rfl) ?_
      refine va_get (D := (dC, dI)) (ci := 14) (v := .ref aT) (C := RX11) (T := TX11) (N := 18) hx hb hts (in_x_cut_X11) hown hK hP 0 rfl rfl 0 (by decide) (hts (.fieldLink RX11 12 "HeapWorks" "tape" "LHeapWorks$Tape;") (by decide +kernel)) (fun _ h9 => h9) (ow_at o_fsX 0 rfl) dX11_cut_18 ?_
      refine lv_iload_n hx hb dX11_cut_21 rfl (lv_at hl 1 rfl) ?_
      refine va_put (D := (dC, dI)) (ci := 12) (v := .int p0) (ty := .int) (C := RX9) (T := TX9) (N := 12) hx hb hts (in_x_cut_X9) tyX9 tyX9_ok nmX9 hown hK hP hD hS 1 rfl rfl 1 (by decide) (hts (.fieldLink RX11 110 "HeapWorks$Tape" "size" "I") (by decide +kernel)) (fun _ h9 => h9) rfl (by decide +kernel) rfl rfl (by rw [o_fsT.2.1]; decide) dX11_cut_22 (fun H locs hP hD hS => ?_)
      have hP : va_P (dC, dI) vwCl [(aX, .inr (14, fsX)), (aT, .inr (12, (fsT.set 1 (.int p0))))] H := hP
      have hD : va_D A [(aX, .inr (14, fsX)), (aT, .inr (12, (fsT.set 1 (.int p0))))] := hD
      have o_s915 := ow_set o_fsT 1 (.int p0) (by decide) (l' := [(1, .int p0)]) (w' := [1]) rfl rfl
      generalize (fsT.set 1 (.int p0)) = s915 at hP hD o_s915
      refine lv_iconst (v := 1) hx hb dX11_cut_25 (by decide) ?_
      have hP9 := hP.sub (ws' := [(aX, .inr (14, fsX)), (aT, .inr (12, s915))]) [0, 1] rfl
      have hD9 := hD.sub (ws' := [(aX, .inr (14, fsX)), (aT, .inr (12, s915))]) [0, 1] (by decide) rfl
      have hK9 := hK.sub (tys' := []) [] rfl
      exact W.zret (v := 1) hx hb hr rfl (fun t ht hW => ⟨⟨1, s915, rfl, (Or.inr (Or.inl ⟨c913, c914, rfl, o_s915⟩)), by rw [ht]; exact hP9, va_K.moved hW.alike hK9, hD9⟩, hS.F ht⟩) hS.2.2 dX11_cut_26
    · skip
      refine lv_iconst (v := 0) hx hb dX11_cut_15 (by decide) ?_
      have hP9 := hP.sub (ws' := [(aX, .inr (14, fsX)), (aT, .inr (12, fsT))]) [0, 1] rfl
      have hD9 := hD.sub (ws' := [(aX, .inr (14, fsX)), (aT, .inr (12, fsT))]) [0, 1] (by decide) rfl
      have hK9 := hK.sub (tys' := []) [] rfl
      exact W.zret (v := 0) hx hb hr rfl (fun t ht hW => ⟨⟨0, fsT, rfl, (Or.inr (Or.inr (⟨c913, c914, rfl, o_fsT⟩))), by rw [ht]; exact hP9, va_K.moved hW.alike hK9, hD9⟩, hS.F ht⟩) hS.2.2 dX11_cut_16
