def l_z_X9_putReady : List Cond := [.fieldLink RX9 15 "HeapWorks$Tape" "ready" "[I"]
def w_z_X9_putReady : List Cond := .code yX9_putReady cX9_putReady 4 none :: (l_z_X9_putReady ++ (wsX90))
theorem in_z_X9_putReady_X9 : ∀ w ∈ wsX90, w ∈ w_z_X9_putReady := fun w h => List.mem_cons_of_mem _ (List.mem_append_right _ (h))
set_option maxHeartbeats 4000000 in
set_option maxRecDepth 100000 in
theorem z_X9_putReady (l : Launch) (dC : Nat → ClassId) (dI : Nat → Nat → Nat) (sz : Nat) (Ad0 : Nat) (Fs0 : List Value) (Ad1 : Nat) (Fa0 : Nat → Int32) (Ka0 : ClassId) (Va0 : Int32) (k_Fs0 : fh Fs0 12 [(2, .ref Ad1)])  : Met l yX9_putReady w_z_X9_putReady ({ frames := 0, cells := 0, slots := 0, locals := 0 }) (va_Pc [.ref Ad0, .int 0, .int Va0] (fun U => U.heap.size = sz ∧ Wd dC dI [(Ka0, .int)] (fun _ => True) [(Ad0, .inr (12, Fs0)), (Ad1, .inl (Ka0, 20, .inl Fa0))] U)) (va_Qv (fun (u : (Nat → Int32)) => True) (fun (u : (Nat → Int32)) t => Wd dC dI [(Ka0, .int)] (va_A [(Ad0, .inr (12, Fs0)), (Ad1, .inl (Ka0, 20, .inl Fa0))] sz) [(Ad0, .inr (12, Fs0)), (Ad1, .inl (Ka0, 20, .inl ((u))))] t) (va_A [(Ad0, .inr (12, Fs0)), (Ad1, .inl (Ka0, 20, .inl Fa0))] sz))  0 0 (va_A [(Ad0, .inr (12, Fs0)), (Ad1, .inl (Ka0, 20, .inl Fa0))] sz) := by
  refine Met.ofW (cc := cX9_putReady) (maxL := 4) (ret := none) (by decide) rfl ?_
  intro p e s m args below meth c s₁ B hml hv
  obtain ⟨rfl, hsz, hP, hK, hD0⟩ := hv
  have hx := B.exec
  have hb := B.bytes
  have hr := B.returns
  have hts := atoms_spec (ws := w_z_X9_putReady) B.pre
  have hown : s.vm.findClass RX9 = some m.cls := findClass_of_methodNamed B.named
  have hlocks := B.notSynchronized
  subst hsz
  have hD := hD0.self (sz := s.heap.size)
  generalize hAe : va_A [(Ad0, .inr (12, Fs0)), (Ad1, .inl (Ka0, 20, .inl Fa0))] s.heap.size = A at hD ⊢
  have hA : ∀ q : Nat, s.heap.size ≤ q → A q := fun q h => by rw [← hAe]; exact Or.inr h
  have hS : va_S A s.heap s.heap [] := va_S.rf
  have hl := lv_entry ([.ref Ad0, .int 0, .int Va0]) (n := 4) (Nat.le_of_ble_eq_true rfl)
  rw [lg_entry_eq]
  generalize (lg_sl ([.ref Ad0, .int 0, .int Va0]) ++ List.replicate (4 - (lg_sl ([.ref Ad0, .int 0, .int Va0])).length) Slot.unset).toArray = ls at hl ⊢
  have hl : lv_has ls 4 [(0, .ref Ad0), (1, .int 0), (2, .int Va0)] := hl
  have o_Fs0 := ow_0 k_Fs0
  refine lv_iconst (v := 0) hx hb dX9_putReady_0 (by decide) ?_
  refine lv_istore_n (lv' := [(3, .int 0), (0, .ref Ad0), (1, .int 0), (2, .int Va0)]) hx hb dX9_putReady_1 rfl hl (by decide) rfl (fun ls hl => ?_)
  refine lv_iload_n hx hb dX9_putReady_2 rfl (lv_at hl 0 rfl) ?_
  refine lv_iconst (v := 4) hx hb dX9_putReady_3 (by decide) ?_
  refine lv_icmp_ge (tgt := 42) hx hb dX9_putReady_4 (by decide) (fun c101 => absurd c101 (by decide)) (fun c101 => ?_)
  refine lv_iload_n hx hb dX9_putReady_7 rfl (lv_at hl 2 rfl) ?_
  refine lv_iload_n hx hb dX9_putReady_8 rfl (lv_at hl 0 rfl) ?_
  refine lv_iadd hx hb dX9_putReady_9  ?_
  refine lv_topi (fun x102 ex102 => ?_)
  obtain rfl : x102 = 0 := ex102.trans (by decide)
  refine lv_bipush (v := 20) hx hb dX9_putReady_10 (by decide) ?_
  refine lv_icmp_ge (tgt := 42) hx hb dX9_putReady_12 (by decide) (fun c103 => absurd c103 (by decide)) (fun c103 => ?_)
  refine lv_aload_n hx hb dX9_putReady_15 rfl (lv_at hl 1 rfl) ?_
  refine va_get (D := (dC, dI)) (ci := 12) (v := .ref Ad1) (C := RX9) (T := TX9) (N := 12) hx hb hts (in_z_X9_putReady_X9) hown hK hP 0 rfl rfl 2 (by decide) (hts (.fieldLink RX9 15 "HeapWorks$Tape" "ready" "[I") (by decide +kernel)) (fun _ h9 => h9) (ow_at o_Fs0 0 rfl) dX9_putReady_16 ?_
  refine lv_iload_n hx hb dX9_putReady_19 rfl (lv_at hl 2 rfl) ?_
  refine lv_iload_n hx hb dX9_putReady_20 rfl (lv_at hl 0 rfl) ?_
  refine lv_iadd hx hb dX9_putReady_21  ?_
  refine lv_topi (fun x104 ex104 => ?_)
  obtain rfl : x104 = 0 := ex104.trans (by decide)
  refine lv_iload_n hx hb dX9_putReady_22 rfl (lv_at hl 3 rfl) ?_
  refine lv_bipush (v := 24) hx hb dX9_putReady_23 (by decide) ?_
  refine lv_bipush (v := 8) hx hb dX9_putReady_25 (by decide) ?_
  refine lv_iload_n hx hb dX9_putReady_27 rfl (lv_at hl 0 rfl) ?_
  refine lv_imul hx hb dX9_putReady_28  ?_
  refine lv_topi (fun x105 ex105 => ?_)
  obtain rfl : x105 = 0 := ex105.trans (by decide)
  refine lv_isub hx hb dX9_putReady_29  ?_
  refine lv_topi (fun x106 ex106 => ?_)
  obtain rfl : x106 = 24 := ex106.trans (by decide)
  refine lv_iushr hx hb dX9_putReady_30 rfl ?_
  refine lv_topi (fun x107 ex107 => ?_)
  refine lv_sipush (v := 255) hx hb dX9_putReady_31 (by decide) ?_
  refine lv_iand hx hb dX9_putReady_34  ?_
  refine lv_topi (fun x108 ex108 => ?_)
  refine va_iast hx hb hK hP hD hS 1 0 rfl rfl (show vp_in 0 20 from by unfold vp_in; decide) dX9_putReady_35 (fun H locs hP hD hS => ?_)
  have hP : va_P (dC, dI) vwCl [(Ad0, .inr (12, Fs0)), (Ad1, .inl (Ka0, 20, .inl (upd Fa0 (0 : Int32).toNatClampNeg x108)))] H := hP
  have hD : va_D A [(Ad0, .inr (12, Fs0)), (Ad1, .inl (Ka0, 20, .inl (upd Fa0 (0 : Int32).toNatClampNeg x108)))] := hD
  have q110 : (upd Fa0 (0 : Int32).toNatClampNeg x108) (0 : Int32).toNatClampNeg = x108 := pk_us
  generalize upd Fa0 (0 : Int32).toNatClampNeg x108 = f109 at hP hD q110
  refine lv_iinc (v := 1) (lv' := [(3, .int 1), (0, .ref Ad0), (1, .int 0), (2, .int Va0)]) hx hb dX9_putReady_36 hl (k := 0) rfl (by decide) (by decide) rfl (fun ls hl => ?_)
  refine lv_goto (tgt := 2) hx hb dX9_putReady_39 (by decide) ?_
  refine lv_iload_n hx hb dX9_putReady_2 rfl (lv_at hl 0 rfl) ?_
  refine lv_iconst (v := 4) hx hb dX9_putReady_3 (by decide) ?_
  refine lv_icmp_ge (tgt := 42) hx hb dX9_putReady_4 (by decide) (fun c111 => absurd c111 (by decide)) (fun c111 => ?_)
  refine lv_iload_n hx hb dX9_putReady_7 rfl (lv_at hl 2 rfl) ?_
  refine lv_iload_n hx hb dX9_putReady_8 rfl (lv_at hl 0 rfl) ?_
  refine lv_iadd hx hb dX9_putReady_9  ?_
  refine lv_topi (fun x112 ex112 => ?_)
  obtain rfl : x112 = 1 := ex112.trans (by decide)
  refine lv_bipush (v := 20) hx hb dX9_putReady_10 (by decide) ?_
  refine lv_icmp_ge (tgt := 42) hx hb dX9_putReady_12 (by decide) (fun c113 => absurd c113 (by decide)) (fun c113 => ?_)
  refine lv_aload_n hx hb dX9_putReady_15 rfl (lv_at hl 1 rfl) ?_
  refine va_get (D := (dC, dI)) (ci := 12) (v := .ref Ad1) (C := RX9) (T := TX9) (N := 12) hx hb hts (in_z_X9_putReady_X9) hown hK hP 0 rfl rfl 2 (by decide) (hts (.fieldLink RX9 15 "HeapWorks$Tape" "ready" "[I") (by decide +kernel)) (fun _ h9 => h9) (ow_at o_Fs0 0 rfl) dX9_putReady_16 ?_
  refine lv_iload_n hx hb dX9_putReady_19 rfl (lv_at hl 2 rfl) ?_
  refine lv_iload_n hx hb dX9_putReady_20 rfl (lv_at hl 0 rfl) ?_
  refine lv_iadd hx hb dX9_putReady_21  ?_
  refine lv_topi (fun x114 ex114 => ?_)
  obtain rfl : x114 = 1 := ex114.trans (by decide)
  refine lv_iload_n hx hb dX9_putReady_22 rfl (lv_at hl 3 rfl) ?_
  refine lv_bipush (v := 24) hx hb dX9_putReady_23 (by decide) ?_
  refine lv_bipush (v := 8) hx hb dX9_putReady_25 (by decide) ?_
  refine lv_iload_n hx hb dX9_putReady_27 rfl (lv_at hl 0 rfl) ?_
  refine lv_imul hx hb dX9_putReady_28  ?_
  refine lv_topi (fun x115 ex115 => ?_)
  obtain rfl : x115 = 8 := ex115.trans (by decide)
  refine lv_isub hx hb dX9_putReady_29  ?_
  refine lv_topi (fun x116 ex116 => ?_)
  obtain rfl : x116 = 16 := ex116.trans (by decide)
  refine lv_iushr hx hb dX9_putReady_30 rfl ?_
  refine lv_topi (fun x117 ex117 => ?_)
  refine lv_sipush (v := 255) hx hb dX9_putReady_31 (by decide) ?_
  refine lv_iand hx hb dX9_putReady_34  ?_
  refine lv_topi (fun x118 ex118 => ?_)
  refine va_iast hx hb hK hP hD hS 1 0 rfl rfl (show vp_in 1 20 from by unfold vp_in; decide) dX9_putReady_35 (fun H locs hP hD hS => ?_)
  have hP : va_P (dC, dI) vwCl [(Ad0, .inr (12, Fs0)), (Ad1, .inl (Ka0, 20, .inl (upd f109 (1 : Int32).toNatClampNeg x118)))] H := hP
  have hD : va_D A [(Ad0, .inr (12, Fs0)), (Ad1, .inl (Ka0, 20, .inl (upd f109 (1 : Int32).toNatClampNeg x118)))] := hD
  have q120 : (upd f109 (1 : Int32).toNatClampNeg x118) (0 : Int32).toNatClampNeg = x108 := (kn_ne (by decide)).trans q110
  have q121 : (upd f109 (1 : Int32).toNatClampNeg x118) (1 : Int32).toNatClampNeg = x118 := pk_us
  generalize upd f109 (1 : Int32).toNatClampNeg x118 = f119 at hP hD q120 q121
  refine lv_iinc (v := 2) (lv' := [(3, .int 2), (0, .ref Ad0), (1, .int 0), (2, .int Va0)]) hx hb dX9_putReady_36 hl (k := 0) rfl (by decide) (by decide) rfl (fun ls hl => ?_)
  refine lv_goto (tgt := 2) hx hb dX9_putReady_39 (by decide) ?_
  refine lv_iload_n hx hb dX9_putReady_2 rfl (lv_at hl 0 rfl) ?_
  refine lv_iconst (v := 4) hx hb dX9_putReady_3 (by decide) ?_
  refine lv_icmp_ge (tgt := 42) hx hb dX9_putReady_4 (by decide) (fun c122 => absurd c122 (by decide)) (fun c122 => ?_)
  refine lv_iload_n hx hb dX9_putReady_7 rfl (lv_at hl 2 rfl) ?_
  refine lv_iload_n hx hb dX9_putReady_8 rfl (lv_at hl 0 rfl) ?_
  refine lv_iadd hx hb dX9_putReady_9  ?_
  refine lv_topi (fun x123 ex123 => ?_)
  obtain rfl : x123 = 2 := ex123.trans (by decide)
  refine lv_bipush (v := 20) hx hb dX9_putReady_10 (by decide) ?_
  refine lv_icmp_ge (tgt := 42) hx hb dX9_putReady_12 (by decide) (fun c124 => absurd c124 (by decide)) (fun c124 => ?_)
  refine lv_aload_n hx hb dX9_putReady_15 rfl (lv_at hl 1 rfl) ?_
  refine va_get (D := (dC, dI)) (ci := 12) (v := .ref Ad1) (C := RX9) (T := TX9) (N := 12) hx hb hts (in_z_X9_putReady_X9) hown hK hP 0 rfl rfl 2 (by decide) (hts (.fieldLink RX9 15 "HeapWorks$Tape" "ready" "[I") (by decide +kernel)) (fun _ h9 => h9) (ow_at o_Fs0 0 rfl) dX9_putReady_16 ?_
  refine lv_iload_n hx hb dX9_putReady_19 rfl (lv_at hl 2 rfl) ?_
  refine lv_iload_n hx hb dX9_putReady_20 rfl (lv_at hl 0 rfl) ?_
  refine lv_iadd hx hb dX9_putReady_21  ?_
  refine lv_topi (fun x125 ex125 => ?_)
  obtain rfl : x125 = 2 := ex125.trans (by decide)
  refine lv_iload_n hx hb dX9_putReady_22 rfl (lv_at hl 3 rfl) ?_
  refine lv_bipush (v := 24) hx hb dX9_putReady_23 (by decide) ?_
  refine lv_bipush (v := 8) hx hb dX9_putReady_25 (by decide) ?_
  refine lv_iload_n hx hb dX9_putReady_27 rfl (lv_at hl 0 rfl) ?_
  refine lv_imul hx hb dX9_putReady_28  ?_
  refine lv_topi (fun x126 ex126 => ?_)
  obtain rfl : x126 = 16 := ex126.trans (by decide)
  refine lv_isub hx hb dX9_putReady_29  ?_
  refine lv_topi (fun x127 ex127 => ?_)
  obtain rfl : x127 = 8 := ex127.trans (by decide)
  refine lv_iushr hx hb dX9_putReady_30 rfl ?_
  refine lv_topi (fun x128 ex128 => ?_)
  refine lv_sipush (v := 255) hx hb dX9_putReady_31 (by decide) ?_
  refine lv_iand hx hb dX9_putReady_34  ?_
  refine lv_topi (fun x129 ex129 => ?_)
  refine va_iast hx hb hK hP hD hS 1 0 rfl rfl (show vp_in 2 20 from by unfold vp_in; decide) dX9_putReady_35 (fun H locs hP hD hS => ?_)
  have hP : va_P (dC, dI) vwCl [(Ad0, .inr (12, Fs0)), (Ad1, .inl (Ka0, 20, .inl (upd f119 (2 : Int32).toNatClampNeg x129)))] H := hP
  have hD : va_D A [(Ad0, .inr (12, Fs0)), (Ad1, .inl (Ka0, 20, .inl (upd f119 (2 : Int32).toNatClampNeg x129)))] := hD
  have q131 : (upd f119 (2 : Int32).toNatClampNeg x129) (0 : Int32).toNatClampNeg = x108 := (kn_ne (by decide)).trans q120
  have q132 : (upd f119 (2 : Int32).toNatClampNeg x129) (1 : Int32).toNatClampNeg = x118 := (kn_ne (by decide)).trans q121
  have q133 : (upd f119 (2 : Int32).toNatClampNeg x129) (2 : Int32).toNatClampNeg = x129 := pk_us
  generalize upd f119 (2 : Int32).toNatClampNeg x129 = f130 at hP hD q131 q132 q133
  refine lv_iinc (v := 3) (lv' := [(3, .int 3), (0, .ref Ad0), (1, .int 0), (2, .int Va0)]) hx hb dX9_putReady_36 hl (k := 0) rfl (by decide) (by decide) rfl (fun ls hl => ?_)
  refine lv_goto (tgt := 2) hx hb dX9_putReady_39 (by decide) ?_
  refine lv_iload_n hx hb dX9_putReady_2 rfl (lv_at hl 0 rfl) ?_
  refine lv_iconst (v := 4) hx hb dX9_putReady_3 (by decide) ?_
  refine lv_icmp_ge (tgt := 42) hx hb dX9_putReady_4 (by decide) (fun c134 => absurd c134 (by decide)) (fun c134 => ?_)
  refine lv_iload_n hx hb dX9_putReady_7 rfl (lv_at hl 2 rfl) ?_
  refine lv_iload_n hx hb dX9_putReady_8 rfl (lv_at hl 0 rfl) ?_
  refine lv_iadd hx hb dX9_putReady_9  ?_
  refine lv_topi (fun x135 ex135 => ?_)
  obtain rfl : x135 = 3 := ex135.trans (by decide)
  refine lv_bipush (v := 20) hx hb dX9_putReady_10 (by decide) ?_
  refine lv_icmp_ge (tgt := 42) hx hb dX9_putReady_12 (by decide) (fun c136 => absurd c136 (by decide)) (fun c136 => ?_)
  refine lv_aload_n hx hb dX9_putReady_15 rfl (lv_at hl 1 rfl) ?_
  refine va_get (D := (dC, dI)) (ci := 12) (v := .ref Ad1) (C := RX9) (T := TX9) (N := 12) hx hb hts (in_z_X9_putReady_X9) hown hK hP 0 rfl rfl 2 (by decide) (hts (.fieldLink RX9 15 "HeapWorks$Tape" "ready" "[I") (by decide +kernel)) (fun _ h9 => h9) (ow_at o_Fs0 0 rfl) dX9_putReady_16 ?_
  refine lv_iload_n hx hb dX9_putReady_19 rfl (lv_at hl 2 rfl) ?_
  refine lv_iload_n hx hb dX9_putReady_20 rfl (lv_at hl 0 rfl) ?_
  refine lv_iadd hx hb dX9_putReady_21  ?_
  refine lv_topi (fun x137 ex137 => ?_)
  obtain rfl : x137 = 3 := ex137.trans (by decide)
  refine lv_iload_n hx hb dX9_putReady_22 rfl (lv_at hl 3 rfl) ?_
  refine lv_bipush (v := 24) hx hb dX9_putReady_23 (by decide) ?_
  refine lv_bipush (v := 8) hx hb dX9_putReady_25 (by decide) ?_
  refine lv_iload_n hx hb dX9_putReady_27 rfl (lv_at hl 0 rfl) ?_
  refine lv_imul hx hb dX9_putReady_28  ?_
  refine lv_topi (fun x138 ex138 => ?_)
  obtain rfl : x138 = 24 := ex138.trans (by decide)
  refine lv_isub hx hb dX9_putReady_29  ?_
  refine lv_topi (fun x139 ex139 => ?_)
  obtain rfl : x139 = 0 := ex139.trans (by decide)
  refine lv_iushr hx hb dX9_putReady_30 rfl ?_
  refine lv_topi (fun x140 ex140 => ?_)
  refine lv_sipush (v := 255) hx hb dX9_putReady_31 (by decide) ?_
  refine lv_iand hx hb dX9_putReady_34  ?_
  refine lv_topi (fun x141 ex141 => ?_)
  refine va_iast hx hb hK hP hD hS 1 0 rfl rfl (show vp_in 3 20 from by unfold vp_in; decide) dX9_putReady_35 (fun H locs hP hD hS => ?_)
  have hP : va_P (dC, dI) vwCl [(Ad0, .inr (12, Fs0)), (Ad1, .inl (Ka0, 20, .inl (upd f130 (3 : Int32).toNatClampNeg x141)))] H := hP
  have hD : va_D A [(Ad0, .inr (12, Fs0)), (Ad1, .inl (Ka0, 20, .inl (upd f130 (3 : Int32).toNatClampNeg x141)))] := hD
  have q143 : (upd f130 (3 : Int32).toNatClampNeg x141) (0 : Int32).toNatClampNeg = x108 := (kn_ne (by decide)).trans q131
  have q144 : (upd f130 (3 : Int32).toNatClampNeg x141) (1 : Int32).toNatClampNeg = x118 := (kn_ne (by decide)).trans q132
  have q145 : (upd f130 (3 : Int32).toNatClampNeg x141) (2 : Int32).toNatClampNeg = x129 := (kn_ne (by decide)).trans q133
  have q146 : (upd f130 (3 : Int32).toNatClampNeg x141) (3 : Int32).toNatClampNeg = x141 := pk_us
  generalize upd f130 (3 : Int32).toNatClampNeg x141 = f142 at hP hD q143 q144 q145 q146
  refine lv_iinc (v := 4) (lv' := [(3, .int 4), (0, .ref Ad0), (1, .int 0), (2, .int Va0)]) hx hb dX9_putReady_36 hl (k := 0) rfl (by decide) (by decide) rfl (fun ls hl => ?_)
  refine lv_goto (tgt := 2) hx hb dX9_putReady_39 (by decide) ?_
  refine lv_iload_n hx hb dX9_putReady_2 rfl (lv_at hl 0 rfl) ?_
  refine lv_iconst (v := 4) hx hb dX9_putReady_3 (by decide) ?_
  refine lv_icmp_ge (tgt := 42) hx hb dX9_putReady_4 (by decide) (fun c147 => ?_) (fun c147 => absurd c147 (by decide))
  have hP9 := hP.sub (ws' := [(Ad0, .inr (12, Fs0)), (Ad1, .inl (Ka0, 20, .inl f142))]) [0, 1] rfl
  have hD9 := hD.sub (ws' := [(Ad0, .inr (12, Fs0)), (Ad1, .inl (Ka0, 20, .inl f142))]) [0, 1] (by decide) rfl
  have hK9 := hK.sub (tys' := [(Ka0, .int)]) [0] rfl
  exact W.vret hx hb hr (fun t ht hW => ⟨⟨f142, rfl, trivial, by rw [ht]; exact hP9, va_K.moved hW.alike hK9, hD9⟩, hS.F ht⟩) hS.2.2 dX9_putReady_42

def l_z_X9_putReady_1 : List Cond := [.fieldLink RX9 15 "HeapWorks$Tape" "ready" "[I"]
def w_z_X9_putReady_1 : List Cond := .code yX9_putReady cX9_putReady 4 none :: (l_z_X9_putReady_1 ++ (wsX90))
theorem in_z_X9_putReady_1_X9 : ∀ w ∈ wsX90, w ∈ w_z_X9_putReady_1 := fun w h => List.mem_cons_of_mem _ (List.mem_append_right _ (h))
set_option maxHeartbeats 4000000 in
set_option maxRecDepth 100000 in
theorem z_X9_putReady_1 (l : Launch) (dC : Nat → ClassId) (dI : Nat → Nat → Nat) (sz : Nat) (Ad0 : Nat) (Fs0 : List Value) (Ad1 : Nat) (Fa0 : Nat → Int32) (Ka0 : ClassId) (Va0 : Int32) (k_Fs0 : fh Fs0 12 [(2, .ref Ad1)])  : Met l yX9_putReady w_z_X9_putReady_1 ({ frames := 0, cells := 0, slots := 0, locals := 0 }) (va_Pc [.ref Ad0, .int 4, .int Va0] (fun U => U.heap.size = sz ∧ Wd dC dI [(Ka0, .int)] (fun _ => True) [(Ad0, .inr (12, Fs0)), (Ad1, .inl (Ka0, 20, .inl Fa0))] U)) (va_Qv (fun (u : (Nat → Int32)) => True) (fun (u : (Nat → Int32)) t => Wd dC dI [(Ka0, .int)] (va_A [(Ad0, .inr (12, Fs0)), (Ad1, .inl (Ka0, 20, .inl Fa0))] sz) [(Ad0, .inr (12, Fs0)), (Ad1, .inl (Ka0, 20, .inl ((u))))] t) (va_A [(Ad0, .inr (12, Fs0)), (Ad1, .inl (Ka0, 20, .inl Fa0))] sz))  0 0 (va_A [(Ad0, .inr (12, Fs0)), (Ad1, .inl (Ka0, 20, .inl Fa0))] sz) := by
  refine Met.ofW (cc := cX9_putReady) (maxL := 4) (ret := none) (by decide) rfl ?_
  intro p e s m args below meth c s₁ B hml hv
  obtain ⟨rfl, hsz, hP, hK, hD0⟩ := hv
  have hx := B.exec
  have hb := B.bytes
  have hr := B.returns
  have hts := atoms_spec (ws := w_z_X9_putReady_1) B.pre
  have hown : s.vm.findClass RX9 = some m.cls := findClass_of_methodNamed B.named
  have hlocks := B.notSynchronized
  subst hsz
  have hD := hD0.self (sz := s.heap.size)
  generalize hAe : va_A [(Ad0, .inr (12, Fs0)), (Ad1, .inl (Ka0, 20, .inl Fa0))] s.heap.size = A at hD ⊢
  have hA : ∀ q : Nat, s.heap.size ≤ q → A q := fun q h => by rw [← hAe]; exact Or.inr h
  have hS : va_S A s.heap s.heap [] := va_S.rf
  have hl := lv_entry ([.ref Ad0, .int 4, .int Va0]) (n := 4) (Nat.le_of_ble_eq_true rfl)
  rw [lg_entry_eq]
  generalize (lg_sl ([.ref Ad0, .int 4, .int Va0]) ++ List.replicate (4 - (lg_sl ([.ref Ad0, .int 4, .int Va0])).length) Slot.unset).toArray = ls at hl ⊢
  have hl : lv_has ls 4 [(0, .ref Ad0), (1, .int 4), (2, .int Va0)] := hl
  have o_Fs0 := ow_0 k_Fs0
  refine lv_iconst (v := 0) hx hb dX9_putReady_0 (by decide) ?_
  refine lv_istore_n (lv' := [(3, .int 0), (0, .ref Ad0), (1, .int 4), (2, .int Va0)]) hx hb dX9_putReady_1 rfl hl (by decide) rfl (fun ls hl => ?_)
  refine lv_iload_n hx hb dX9_putReady_2 rfl (lv_at hl 0 rfl) ?_
  refine lv_iconst (v := 4) hx hb dX9_putReady_3 (by decide) ?_
  refine lv_icmp_ge (tgt := 42) hx hb dX9_putReady_4 (by decide) (fun c101 => absurd c101 (by decide)) (fun c101 => ?_)
  refine lv_iload_n hx hb dX9_putReady_7 rfl (lv_at hl 2 rfl) ?_
  refine lv_iload_n hx hb dX9_putReady_8 rfl (lv_at hl 0 rfl) ?_
  refine lv_iadd hx hb dX9_putReady_9  ?_
  refine lv_topi (fun x102 ex102 => ?_)
  obtain rfl : x102 = 4 := ex102.trans (by decide)
  refine lv_bipush (v := 20) hx hb dX9_putReady_10 (by decide) ?_
  refine lv_icmp_ge (tgt := 42) hx hb dX9_putReady_12 (by decide) (fun c103 => absurd c103 (by decide)) (fun c103 => ?_)
  refine lv_aload_n hx hb dX9_putReady_15 rfl (lv_at hl 1 rfl) ?_
  refine va_get (D := (dC, dI)) (ci := 12) (v := .ref Ad1) (C := RX9) (T := TX9) (N := 12) hx hb hts (in_z_X9_putReady_1_X9) hown hK hP 0 rfl rfl 2 (by decide) (hts (.fieldLink RX9 15 "HeapWorks$Tape" "ready" "[I") (by decide +kernel)) (fun _ h9 => h9) (ow_at o_Fs0 0 rfl) dX9_putReady_16 ?_
  refine lv_iload_n hx hb dX9_putReady_19 rfl (lv_at hl 2 rfl) ?_
  refine lv_iload_n hx hb dX9_putReady_20 rfl (lv_at hl 0 rfl) ?_
  refine lv_iadd hx hb dX9_putReady_21  ?_
  refine lv_topi (fun x104 ex104 => ?_)
  obtain rfl : x104 = 4 := ex104.trans (by decide)
  refine lv_iload_n hx hb dX9_putReady_22 rfl (lv_at hl 3 rfl) ?_
  refine lv_bipush (v := 24) hx hb dX9_putReady_23 (by decide) ?_
  refine lv_bipush (v := 8) hx hb dX9_putReady_25 (by decide) ?_
  refine lv_iload_n hx hb dX9_putReady_27 rfl (lv_at hl 0 rfl) ?_
  refine lv_imul hx hb dX9_putReady_28  ?_
  refine lv_topi (fun x105 ex105 => ?_)
  obtain rfl : x105 = 0 := ex105.trans (by decide)
  refine lv_isub hx hb dX9_putReady_29  ?_
  refine lv_topi (fun x106 ex106 => ?_)
  obtain rfl : x106 = 24 := ex106.trans (by decide)
  refine lv_iushr hx hb dX9_putReady_30 rfl ?_
  refine lv_topi (fun x107 ex107 => ?_)
  refine lv_sipush (v := 255) hx hb dX9_putReady_31 (by decide) ?_
  refine lv_iand hx hb dX9_putReady_34  ?_
  refine lv_topi (fun x108 ex108 => ?_)
  refine va_iast hx hb hK hP hD hS 1 0 rfl rfl (show vp_in 4 20 from by unfold vp_in; decide) dX9_putReady_35 (fun H locs hP hD hS => ?_)
  have hP : va_P (dC, dI) vwCl [(Ad0, .inr (12, Fs0)), (Ad1, .inl (Ka0, 20, .inl (upd Fa0 (4 : Int32).toNatClampNeg x108)))] H := hP
  have hD : va_D A [(Ad0, .inr (12, Fs0)), (Ad1, .inl (Ka0, 20, .inl (upd Fa0 (4 : Int32).toNatClampNeg x108)))] := hD
  have q110 : (upd Fa0 (4 : Int32).toNatClampNeg x108) (4 : Int32).toNatClampNeg = x108 := pk_us
  generalize upd Fa0 (4 : Int32).toNatClampNeg x108 = f109 at hP hD q110
  refine lv_iinc (v := 1) (lv' := [(3, .int 1), (0, .ref Ad0), (1, .int 4), (2, .int Va0)]) hx hb dX9_putReady_36 hl (k := 0) rfl (by decide) (by decide) rfl (fun ls hl => ?_)
  refine lv_goto (tgt := 2) hx hb dX9_putReady_39 (by decide) ?_
  refine lv_iload_n hx hb dX9_putReady_2 rfl (lv_at hl 0 rfl) ?_
  refine lv_iconst (v := 4) hx hb dX9_putReady_3 (by decide) ?_
  refine lv_icmp_ge (tgt := 42) hx hb dX9_putReady_4 (by decide) (fun c111 => absurd c111 (by decide)) (fun c111 => ?_)
  refine lv_iload_n hx hb dX9_putReady_7 rfl (lv_at hl 2 rfl) ?_
  refine lv_iload_n hx hb dX9_putReady_8 rfl (lv_at hl 0 rfl) ?_
  refine lv_iadd hx hb dX9_putReady_9  ?_
  refine lv_topi (fun x112 ex112 => ?_)
  obtain rfl : x112 = 5 := ex112.trans (by decide)
  refine lv_bipush (v := 20) hx hb dX9_putReady_10 (by decide) ?_
  refine lv_icmp_ge (tgt := 42) hx hb dX9_putReady_12 (by decide) (fun c113 => absurd c113 (by decide)) (fun c113 => ?_)
  refine lv_aload_n hx hb dX9_putReady_15 rfl (lv_at hl 1 rfl) ?_
  refine va_get (D := (dC, dI)) (ci := 12) (v := .ref Ad1) (C := RX9) (T := TX9) (N := 12) hx hb hts (in_z_X9_putReady_1_X9) hown hK hP 0 rfl rfl 2 (by decide) (hts (.fieldLink RX9 15 "HeapWorks$Tape" "ready" "[I") (by decide +kernel)) (fun _ h9 => h9) (ow_at o_Fs0 0 rfl) dX9_putReady_16 ?_
  refine lv_iload_n hx hb dX9_putReady_19 rfl (lv_at hl 2 rfl) ?_
  refine lv_iload_n hx hb dX9_putReady_20 rfl (lv_at hl 0 rfl) ?_
  refine lv_iadd hx hb dX9_putReady_21  ?_
  refine lv_topi (fun x114 ex114 => ?_)
  obtain rfl : x114 = 5 := ex114.trans (by decide)
  refine lv_iload_n hx hb dX9_putReady_22 rfl (lv_at hl 3 rfl) ?_
  refine lv_bipush (v := 24) hx hb dX9_putReady_23 (by decide) ?_
  refine lv_bipush (v := 8) hx hb dX9_putReady_25 (by decide) ?_
  refine lv_iload_n hx hb dX9_putReady_27 rfl (lv_at hl 0 rfl) ?_
  refine lv_imul hx hb dX9_putReady_28  ?_
  refine lv_topi (fun x115 ex115 => ?_)
  obtain rfl : x115 = 8 := ex115.trans (by decide)
  refine lv_isub hx hb dX9_putReady_29  ?_
  refine lv_topi (fun x116 ex116 => ?_)
  obtain rfl : x116 = 16 := ex116.trans (by decide)
  refine lv_iushr hx hb dX9_putReady_30 rfl ?_
  refine lv_topi (fun x117 ex117 => ?_)
  refine lv_sipush (v := 255) hx hb dX9_putReady_31 (by decide) ?_
  refine lv_iand hx hb dX9_putReady_34  ?_
  refine lv_topi (fun x118 ex118 => ?_)
  refine va_iast hx hb hK hP hD hS 1 0 rfl rfl (show vp_in 5 20 from by unfold vp_in; decide) dX9_putReady_35 (fun H locs hP hD hS => ?_)
  have hP : va_P (dC, dI) vwCl [(Ad0, .inr (12, Fs0)), (Ad1, .inl (Ka0, 20, .inl (upd f109 (5 : Int32).toNatClampNeg x118)))] H := hP
  have hD : va_D A [(Ad0, .inr (12, Fs0)), (Ad1, .inl (Ka0, 20, .inl (upd f109 (5 : Int32).toNatClampNeg x118)))] := hD
  have q120 : (upd f109 (5 : Int32).toNatClampNeg x118) (4 : Int32).toNatClampNeg = x108 := (kn_ne (by decide)).trans q110
  have q121 : (upd f109 (5 : Int32).toNatClampNeg x118) (5 : Int32).toNatClampNeg = x118 := pk_us
  generalize upd f109 (5 : Int32).toNatClampNeg x118 = f119 at hP hD q120 q121
  refine lv_iinc (v := 2) (lv' := [(3, .int 2), (0, .ref Ad0), (1, .int 4), (2, .int Va0)]) hx hb dX9_putReady_36 hl (k := 0) rfl (by decide) (by decide) rfl (fun ls hl => ?_)
  refine lv_goto (tgt := 2) hx hb dX9_putReady_39 (by decide) ?_
  refine lv_iload_n hx hb dX9_putReady_2 rfl (lv_at hl 0 rfl) ?_
  refine lv_iconst (v := 4) hx hb dX9_putReady_3 (by decide) ?_
  refine lv_icmp_ge (tgt := 42) hx hb dX9_putReady_4 (by decide) (fun c122 => absurd c122 (by decide)) (fun c122 => ?_)
  refine lv_iload_n hx hb dX9_putReady_7 rfl (lv_at hl 2 rfl) ?_
  refine lv_iload_n hx hb dX9_putReady_8 rfl (lv_at hl 0 rfl) ?_
  refine lv_iadd hx hb dX9_putReady_9  ?_
  refine lv_topi (fun x123 ex123 => ?_)
  obtain rfl : x123 = 6 := ex123.trans (by decide)
  refine lv_bipush (v := 20) hx hb dX9_putReady_10 (by decide) ?_
  refine lv_icmp_ge (tgt := 42) hx hb dX9_putReady_12 (by decide) (fun c124 => absurd c124 (by decide)) (fun c124 => ?_)
  refine lv_aload_n hx hb dX9_putReady_15 rfl (lv_at hl 1 rfl) ?_
  refine va_get (D := (dC, dI)) (ci := 12) (v := .ref Ad1) (C := RX9) (T := TX9) (N := 12) hx hb hts (in_z_X9_putReady_1_X9) hown hK hP 0 rfl rfl 2 (by decide) (hts (.fieldLink RX9 15 "HeapWorks$Tape" "ready" "[I") (by decide +kernel)) (fun _ h9 => h9) (ow_at o_Fs0 0 rfl) dX9_putReady_16 ?_
  refine lv_iload_n hx hb dX9_putReady_19 rfl (lv_at hl 2 rfl) ?_
  refine lv_iload_n hx hb dX9_putReady_20 rfl (lv_at hl 0 rfl) ?_
  refine lv_iadd hx hb dX9_putReady_21  ?_
  refine lv_topi (fun x125 ex125 => ?_)
  obtain rfl : x125 = 6 := ex125.trans (by decide)
  refine lv_iload_n hx hb dX9_putReady_22 rfl (lv_at hl 3 rfl) ?_
  refine lv_bipush (v := 24) hx hb dX9_putReady_23 (by decide) ?_
  refine lv_bipush (v := 8) hx hb dX9_putReady_25 (by decide) ?_
  refine lv_iload_n hx hb dX9_putReady_27 rfl (lv_at hl 0 rfl) ?_
  refine lv_imul hx hb dX9_putReady_28  ?_
  refine lv_topi (fun x126 ex126 => ?_)
  obtain rfl : x126 = 16 := ex126.trans (by decide)
  refine lv_isub hx hb dX9_putReady_29  ?_
  refine lv_topi (fun x127 ex127 => ?_)
  obtain rfl : x127 = 8 := ex127.trans (by decide)
  refine lv_iushr hx hb dX9_putReady_30 rfl ?_
  refine lv_topi (fun x128 ex128 => ?_)
  refine lv_sipush (v := 255) hx hb dX9_putReady_31 (by decide) ?_
  refine lv_iand hx hb dX9_putReady_34  ?_
  refine lv_topi (fun x129 ex129 => ?_)
  refine va_iast hx hb hK hP hD hS 1 0 rfl rfl (show vp_in 6 20 from by unfold vp_in; decide) dX9_putReady_35 (fun H locs hP hD hS => ?_)
  have hP : va_P (dC, dI) vwCl [(Ad0, .inr (12, Fs0)), (Ad1, .inl (Ka0, 20, .inl (upd f119 (6 : Int32).toNatClampNeg x129)))] H := hP
  have hD : va_D A [(Ad0, .inr (12, Fs0)), (Ad1, .inl (Ka0, 20, .inl (upd f119 (6 : Int32).toNatClampNeg x129)))] := hD
  have q131 : (upd f119 (6 : Int32).toNatClampNeg x129) (4 : Int32).toNatClampNeg = x108 := (kn_ne (by decide)).trans q120
  have q132 : (upd f119 (6 : Int32).toNatClampNeg x129) (5 : Int32).toNatClampNeg = x118 := (kn_ne (by decide)).trans q121
  have q133 : (upd f119 (6 : Int32).toNatClampNeg x129) (6 : Int32).toNatClampNeg = x129 := pk_us
  generalize upd f119 (6 : Int32).toNatClampNeg x129 = f130 at hP hD q131 q132 q133
  refine lv_iinc (v := 3) (lv' := [(3, .int 3), (0, .ref Ad0), (1, .int 4), (2, .int Va0)]) hx hb dX9_putReady_36 hl (k := 0) rfl (by decide) (by decide) rfl (fun ls hl => ?_)
  refine lv_goto (tgt := 2) hx hb dX9_putReady_39 (by decide) ?_
  refine lv_iload_n hx hb dX9_putReady_2 rfl (lv_at hl 0 rfl) ?_
  refine lv_iconst (v := 4) hx hb dX9_putReady_3 (by decide) ?_
  refine lv_icmp_ge (tgt := 42) hx hb dX9_putReady_4 (by decide) (fun c134 => absurd c134 (by decide)) (fun c134 => ?_)
  refine lv_iload_n hx hb dX9_putReady_7 rfl (lv_at hl 2 rfl) ?_
  refine lv_iload_n hx hb dX9_putReady_8 rfl (lv_at hl 0 rfl) ?_
  refine lv_iadd hx hb dX9_putReady_9  ?_
  refine lv_topi (fun x135 ex135 => ?_)
  obtain rfl : x135 = 7 := ex135.trans (by decide)
  refine lv_bipush (v := 20) hx hb dX9_putReady_10 (by decide) ?_
  refine lv_icmp_ge (tgt := 42) hx hb dX9_putReady_12 (by decide) (fun c136 => absurd c136 (by decide)) (fun c136 => ?_)
  refine lv_aload_n hx hb dX9_putReady_15 rfl (lv_at hl 1 rfl) ?_
  refine va_get (D := (dC, dI)) (ci := 12) (v := .ref Ad1) (C := RX9) (T := TX9) (N := 12) hx hb hts (in_z_X9_putReady_1_X9) hown hK hP 0 rfl rfl 2 (by decide) (hts (.fieldLink RX9 15 "HeapWorks$Tape" "ready" "[I") (by decide +kernel)) (fun _ h9 => h9) (ow_at o_Fs0 0 rfl) dX9_putReady_16 ?_
  refine lv_iload_n hx hb dX9_putReady_19 rfl (lv_at hl 2 rfl) ?_
  refine lv_iload_n hx hb dX9_putReady_20 rfl (lv_at hl 0 rfl) ?_
  refine lv_iadd hx hb dX9_putReady_21  ?_
  refine lv_topi (fun x137 ex137 => ?_)
  obtain rfl : x137 = 7 := ex137.trans (by decide)
  refine lv_iload_n hx hb dX9_putReady_22 rfl (lv_at hl 3 rfl) ?_
  refine lv_bipush (v := 24) hx hb dX9_putReady_23 (by decide) ?_
  refine lv_bipush (v := 8) hx hb dX9_putReady_25 (by decide) ?_
  refine lv_iload_n hx hb dX9_putReady_27 rfl (lv_at hl 0 rfl) ?_
  refine lv_imul hx hb dX9_putReady_28  ?_
  refine lv_topi (fun x138 ex138 => ?_)
  obtain rfl : x138 = 24 := ex138.trans (by decide)
  refine lv_isub hx hb dX9_putReady_29  ?_
  refine lv_topi (fun x139 ex139 => ?_)
  obtain rfl : x139 = 0 := ex139.trans (by decide)
  refine lv_iushr hx hb dX9_putReady_30 rfl ?_
  refine lv_topi (fun x140 ex140 => ?_)
  refine lv_sipush (v := 255) hx hb dX9_putReady_31 (by decide) ?_
  refine lv_iand hx hb dX9_putReady_34  ?_
  refine lv_topi (fun x141 ex141 => ?_)
  refine va_iast hx hb hK hP hD hS 1 0 rfl rfl (show vp_in 7 20 from by unfold vp_in; decide) dX9_putReady_35 (fun H locs hP hD hS => ?_)
  have hP : va_P (dC, dI) vwCl [(Ad0, .inr (12, Fs0)), (Ad1, .inl (Ka0, 20, .inl (upd f130 (7 : Int32).toNatClampNeg x141)))] H := hP
  have hD : va_D A [(Ad0, .inr (12, Fs0)), (Ad1, .inl (Ka0, 20, .inl (upd f130 (7 : Int32).toNatClampNeg x141)))] := hD
  have q143 : (upd f130 (7 : Int32).toNatClampNeg x141) (4 : Int32).toNatClampNeg = x108 := (kn_ne (by decide)).trans q131
  have q144 : (upd f130 (7 : Int32).toNatClampNeg x141) (5 : Int32).toNatClampNeg = x118 := (kn_ne (by decide)).trans q132
  have q145 : (upd f130 (7 : Int32).toNatClampNeg x141) (6 : Int32).toNatClampNeg = x129 := (kn_ne (by decide)).trans q133
  have q146 : (upd f130 (7 : Int32).toNatClampNeg x141) (7 : Int32).toNatClampNeg = x141 := pk_us
  generalize upd f130 (7 : Int32).toNatClampNeg x141 = f142 at hP hD q143 q144 q145 q146
  refine lv_iinc (v := 4) (lv' := [(3, .int 4), (0, .ref Ad0), (1, .int 4), (2, .int Va0)]) hx hb dX9_putReady_36 hl (k := 0) rfl (by decide) (by decide) rfl (fun ls hl => ?_)
  refine lv_goto (tgt := 2) hx hb dX9_putReady_39 (by decide) ?_
  refine lv_iload_n hx hb dX9_putReady_2 rfl (lv_at hl 0 rfl) ?_
  refine lv_iconst (v := 4) hx hb dX9_putReady_3 (by decide) ?_
  refine lv_icmp_ge (tgt := 42) hx hb dX9_putReady_4 (by decide) (fun c147 => ?_) (fun c147 => absurd c147 (by decide))
  have hP9 := hP.sub (ws' := [(Ad0, .inr (12, Fs0)), (Ad1, .inl (Ka0, 20, .inl f142))]) [0, 1] rfl
  have hD9 := hD.sub (ws' := [(Ad0, .inr (12, Fs0)), (Ad1, .inl (Ka0, 20, .inl f142))]) [0, 1] (by decide) rfl
  have hK9 := hK.sub (tys' := [(Ka0, .int)]) [0] rfl
  exact W.vret hx hb hr (fun t ht hW => ⟨⟨f142, rfl, trivial, by rw [ht]; exact hP9, va_K.moved hW.alike hK9, hD9⟩, hS.F ht⟩) hS.2.2 dX9_putReady_42

def l_z_X9_putReady_2 : List Cond := [.fieldLink RX9 15 "HeapWorks$Tape" "ready" "[I"]
def w_z_X9_putReady_2 : List Cond := .code yX9_putReady cX9_putReady 4 none :: (l_z_X9_putReady_2 ++ (wsX90))
theorem in_z_X9_putReady_2_X9 : ∀ w ∈ wsX90, w ∈ w_z_X9_putReady_2 := fun w h => List.mem_cons_of_mem _ (List.mem_append_right _ (h))
set_option maxHeartbeats 4000000 in
set_option maxRecDepth 100000 in
theorem z_X9_putReady_2 (l : Launch) (dC : Nat → ClassId) (dI : Nat → Nat → Nat) (sz : Nat) (Ad0 : Nat) (Fs0 : List Value) (Ad1 : Nat) (Fa0 : Nat → Int32) (Ka0 : ClassId) (Va0 : Int32) (k_Fs0 : fh Fs0 12 [(2, .ref Ad1)])  : Met l yX9_putReady w_z_X9_putReady_2 ({ frames := 0, cells := 0, slots := 0, locals := 0 }) (va_Pc [.ref Ad0, .int 8, .int Va0] (fun U => U.heap.size = sz ∧ Wd dC dI [(Ka0, .int)] (fun _ => True) [(Ad0, .inr (12, Fs0)), (Ad1, .inl (Ka0, 20, .inl Fa0))] U)) (va_Qv (fun (u : (Nat → Int32)) => True) (fun (u : (Nat → Int32)) t => Wd dC dI [(Ka0, .int)] (va_A [(Ad0, .inr (12, Fs0)), (Ad1, .inl (Ka0, 20, .inl Fa0))] sz) [(Ad0, .inr (12, Fs0)), (Ad1, .inl (Ka0, 20, .inl ((u))))] t) (va_A [(Ad0, .inr (12, Fs0)), (Ad1, .inl (Ka0, 20, .inl Fa0))] sz))  0 0 (va_A [(Ad0, .inr (12, Fs0)), (Ad1, .inl (Ka0, 20, .inl Fa0))] sz) := by
  refine Met.ofW (cc := cX9_putReady) (maxL := 4) (ret := none) (by decide) rfl ?_
  intro p e s m args below meth c s₁ B hml hv
  obtain ⟨rfl, hsz, hP, hK, hD0⟩ := hv
  have hx := B.exec
  have hb := B.bytes
  have hr := B.returns
  have hts := atoms_spec (ws := w_z_X9_putReady_2) B.pre
  have hown : s.vm.findClass RX9 = some m.cls := findClass_of_methodNamed B.named
  have hlocks := B.notSynchronized
  subst hsz
  have hD := hD0.self (sz := s.heap.size)
  generalize hAe : va_A [(Ad0, .inr (12, Fs0)), (Ad1, .inl (Ka0, 20, .inl Fa0))] s.heap.size = A at hD ⊢
  have hA : ∀ q : Nat, s.heap.size ≤ q → A q := fun q h => by rw [← hAe]; exact Or.inr h
  have hS : va_S A s.heap s.heap [] := va_S.rf
  have hl := lv_entry ([.ref Ad0, .int 8, .int Va0]) (n := 4) (Nat.le_of_ble_eq_true rfl)
  rw [lg_entry_eq]
  generalize (lg_sl ([.ref Ad0, .int 8, .int Va0]) ++ List.replicate (4 - (lg_sl ([.ref Ad0, .int 8, .int Va0])).length) Slot.unset).toArray = ls at hl ⊢
  have hl : lv_has ls 4 [(0, .ref Ad0), (1, .int 8), (2, .int Va0)] := hl
  have o_Fs0 := ow_0 k_Fs0
  refine lv_iconst (v := 0) hx hb dX9_putReady_0 (by decide) ?_
  refine lv_istore_n (lv' := [(3, .int 0), (0, .ref Ad0), (1, .int 8), (2, .int Va0)]) hx hb dX9_putReady_1 rfl hl (by decide) rfl (fun ls hl => ?_)
  refine lv_iload_n hx hb dX9_putReady_2 rfl (lv_at hl 0 rfl) ?_
  refine lv_iconst (v := 4) hx hb dX9_putReady_3 (by decide) ?_
  refine lv_icmp_ge (tgt := 42) hx hb dX9_putReady_4 (by decide) (fun c101 => absurd c101 (by decide)) (fun c101 => ?_)
  refine lv_iload_n hx hb dX9_putReady_7 rfl (lv_at hl 2 rfl) ?_
  refine lv_iload_n hx hb dX9_putReady_8 rfl (lv_at hl 0 rfl) ?_
  refine lv_iadd hx hb dX9_putReady_9  ?_
  refine lv_topi (fun x102 ex102 => ?_)
  obtain rfl : x102 = 8 := ex102.trans (by decide)
  refine lv_bipush (v := 20) hx hb dX9_putReady_10 (by decide) ?_
  refine lv_icmp_ge (tgt := 42) hx hb dX9_putReady_12 (by decide) (fun c103 => absurd c103 (by decide)) (fun c103 => ?_)
  refine lv_aload_n hx hb dX9_putReady_15 rfl (lv_at hl 1 rfl) ?_
  refine va_get (D := (dC, dI)) (ci := 12) (v := .ref Ad1) (C := RX9) (T := TX9) (N := 12) hx hb hts (in_z_X9_putReady_2_X9) hown hK hP 0 rfl rfl 2 (by decide) (hts (.fieldLink RX9 15 "HeapWorks$Tape" "ready" "[I") (by decide +kernel)) (fun _ h9 => h9) (ow_at o_Fs0 0 rfl) dX9_putReady_16 ?_
  refine lv_iload_n hx hb dX9_putReady_19 rfl (lv_at hl 2 rfl) ?_
  refine lv_iload_n hx hb dX9_putReady_20 rfl (lv_at hl 0 rfl) ?_
  refine lv_iadd hx hb dX9_putReady_21  ?_
  refine lv_topi (fun x104 ex104 => ?_)
  obtain rfl : x104 = 8 := ex104.trans (by decide)
  refine lv_iload_n hx hb dX9_putReady_22 rfl (lv_at hl 3 rfl) ?_
  refine lv_bipush (v := 24) hx hb dX9_putReady_23 (by decide) ?_
  refine lv_bipush (v := 8) hx hb dX9_putReady_25 (by decide) ?_
  refine lv_iload_n hx hb dX9_putReady_27 rfl (lv_at hl 0 rfl) ?_
  refine lv_imul hx hb dX9_putReady_28  ?_
  refine lv_topi (fun x105 ex105 => ?_)
  obtain rfl : x105 = 0 := ex105.trans (by decide)
  refine lv_isub hx hb dX9_putReady_29  ?_
  refine lv_topi (fun x106 ex106 => ?_)
  obtain rfl : x106 = 24 := ex106.trans (by decide)
  refine lv_iushr hx hb dX9_putReady_30 rfl ?_
  refine lv_topi (fun x107 ex107 => ?_)
  refine lv_sipush (v := 255) hx hb dX9_putReady_31 (by decide) ?_
  refine lv_iand hx hb dX9_putReady_34  ?_
  refine lv_topi (fun x108 ex108 => ?_)
  refine va_iast hx hb hK hP hD hS 1 0 rfl rfl (show vp_in 8 20 from by unfold vp_in; decide) dX9_putReady_35 (fun H locs hP hD hS => ?_)
  have hP : va_P (dC, dI) vwCl [(Ad0, .inr (12, Fs0)), (Ad1, .inl (Ka0, 20, .inl (upd Fa0 (8 : Int32).toNatClampNeg x108)))] H := hP
  have hD : va_D A [(Ad0, .inr (12, Fs0)), (Ad1, .inl (Ka0, 20, .inl (upd Fa0 (8 : Int32).toNatClampNeg x108)))] := hD
  have q110 : (upd Fa0 (8 : Int32).toNatClampNeg x108) (8 : Int32).toNatClampNeg = x108 := pk_us
  generalize upd Fa0 (8 : Int32).toNatClampNeg x108 = f109 at hP hD q110
  refine lv_iinc (v := 1) (lv' := [(3, .int 1), (0, .ref Ad0), (1, .int 8), (2, .int Va0)]) hx hb dX9_putReady_36 hl (k := 0) rfl (by decide) (by decide) rfl (fun ls hl => ?_)
  refine lv_goto (tgt := 2) hx hb dX9_putReady_39 (by decide) ?_
  refine lv_iload_n hx hb dX9_putReady_2 rfl (lv_at hl 0 rfl) ?_
  refine lv_iconst (v := 4) hx hb dX9_putReady_3 (by decide) ?_
  refine lv_icmp_ge (tgt := 42) hx hb dX9_putReady_4 (by decide) (fun c111 => absurd c111 (by decide)) (fun c111 => ?_)
  refine lv_iload_n hx hb dX9_putReady_7 rfl (lv_at hl 2 rfl) ?_
  refine lv_iload_n hx hb dX9_putReady_8 rfl (lv_at hl 0 rfl) ?_
  refine lv_iadd hx hb dX9_putReady_9  ?_
  refine lv_topi (fun x112 ex112 => ?_)
  obtain rfl : x112 = 9 := ex112.trans (by decide)
  refine lv_bipush (v := 20) hx hb dX9_putReady_10 (by decide) ?_
  refine lv_icmp_ge (tgt := 42) hx hb dX9_putReady_12 (by decide) (fun c113 => absurd c113 (by decide)) (fun c113 => ?_)
  refine lv_aload_n hx hb dX9_putReady_15 rfl (lv_at hl 1 rfl) ?_
  refine va_get (D := (dC, dI)) (ci := 12) (v := .ref Ad1) (C := RX9) (T := TX9) (N := 12) hx hb hts (in_z_X9_putReady_2_X9) hown hK hP 0 rfl rfl 2 (by decide) (hts (.fieldLink RX9 15 "HeapWorks$Tape" "ready" "[I") (by decide +kernel)) (fun _ h9 => h9) (ow_at o_Fs0 0 rfl) dX9_putReady_16 ?_
  refine lv_iload_n hx hb dX9_putReady_19 rfl (lv_at hl 2 rfl) ?_
  refine lv_iload_n hx hb dX9_putReady_20 rfl (lv_at hl 0 rfl) ?_
  refine lv_iadd hx hb dX9_putReady_21  ?_
  refine lv_topi (fun x114 ex114 => ?_)
  obtain rfl : x114 = 9 := ex114.trans (by decide)
  refine lv_iload_n hx hb dX9_putReady_22 rfl (lv_at hl 3 rfl) ?_
  refine lv_bipush (v := 24) hx hb dX9_putReady_23 (by decide) ?_
  refine lv_bipush (v := 8) hx hb dX9_putReady_25 (by decide) ?_
  refine lv_iload_n hx hb dX9_putReady_27 rfl (lv_at hl 0 rfl) ?_
  refine lv_imul hx hb dX9_putReady_28  ?_
  refine lv_topi (fun x115 ex115 => ?_)
  obtain rfl : x115 = 8 := ex115.trans (by decide)
  refine lv_isub hx hb dX9_putReady_29  ?_
  refine lv_topi (fun x116 ex116 => ?_)
  obtain rfl : x116 = 16 := ex116.trans (by decide)
  refine lv_iushr hx hb dX9_putReady_30 rfl ?_
  refine lv_topi (fun x117 ex117 => ?_)
  refine lv_sipush (v := 255) hx hb dX9_putReady_31 (by decide) ?_
  refine lv_iand hx hb dX9_putReady_34  ?_
  refine lv_topi (fun x118 ex118 => ?_)
  refine va_iast hx hb hK hP hD hS 1 0 rfl rfl (show vp_in 9 20 from by unfold vp_in; decide) dX9_putReady_35 (fun H locs hP hD hS => ?_)
  have hP : va_P (dC, dI) vwCl [(Ad0, .inr (12, Fs0)), (Ad1, .inl (Ka0, 20, .inl (upd f109 (9 : Int32).toNatClampNeg x118)))] H := hP
  have hD : va_D A [(Ad0, .inr (12, Fs0)), (Ad1, .inl (Ka0, 20, .inl (upd f109 (9 : Int32).toNatClampNeg x118)))] := hD
  have q120 : (upd f109 (9 : Int32).toNatClampNeg x118) (8 : Int32).toNatClampNeg = x108 := (kn_ne (by decide)).trans q110
  have q121 : (upd f109 (9 : Int32).toNatClampNeg x118) (9 : Int32).toNatClampNeg = x118 := pk_us
  generalize upd f109 (9 : Int32).toNatClampNeg x118 = f119 at hP hD q120 q121
  refine lv_iinc (v := 2) (lv' := [(3, .int 2), (0, .ref Ad0), (1, .int 8), (2, .int Va0)]) hx hb dX9_putReady_36 hl (k := 0) rfl (by decide) (by decide) rfl (fun ls hl => ?_)
  refine lv_goto (tgt := 2) hx hb dX9_putReady_39 (by decide) ?_
  refine lv_iload_n hx hb dX9_putReady_2 rfl (lv_at hl 0 rfl) ?_
  refine lv_iconst (v := 4) hx hb dX9_putReady_3 (by decide) ?_
  refine lv_icmp_ge (tgt := 42) hx hb dX9_putReady_4 (by decide) (fun c122 => absurd c122 (by decide)) (fun c122 => ?_)
  refine lv_iload_n hx hb dX9_putReady_7 rfl (lv_at hl 2 rfl) ?_
  refine lv_iload_n hx hb dX9_putReady_8 rfl (lv_at hl 0 rfl) ?_
  refine lv_iadd hx hb dX9_putReady_9  ?_
  refine lv_topi (fun x123 ex123 => ?_)
  obtain rfl : x123 = 10 := ex123.trans (by decide)
  refine lv_bipush (v := 20) hx hb dX9_putReady_10 (by decide) ?_
  refine lv_icmp_ge (tgt := 42) hx hb dX9_putReady_12 (by decide) (fun c124 => absurd c124 (by decide)) (fun c124 => ?_)
  refine lv_aload_n hx hb dX9_putReady_15 rfl (lv_at hl 1 rfl) ?_
  refine va_get (D := (dC, dI)) (ci := 12) (v := .ref Ad1) (C := RX9) (T := TX9) (N := 12) hx hb hts (in_z_X9_putReady_2_X9) hown hK hP 0 rfl rfl 2 (by decide) (hts (.fieldLink RX9 15 "HeapWorks$Tape" "ready" "[I") (by decide +kernel)) (fun _ h9 => h9) (ow_at o_Fs0 0 rfl) dX9_putReady_16 ?_
  refine lv_iload_n hx hb dX9_putReady_19 rfl (lv_at hl 2 rfl) ?_
  refine lv_iload_n hx hb dX9_putReady_20 rfl (lv_at hl 0 rfl) ?_
  refine lv_iadd hx hb dX9_putReady_21  ?_
  refine lv_topi (fun x125 ex125 => ?_)
  obtain rfl : x125 = 10 := ex125.trans (by decide)
  refine lv_iload_n hx hb dX9_putReady_22 rfl (lv_at hl 3 rfl) ?_
  refine lv_bipush (v := 24) hx hb dX9_putReady_23 (by decide) ?_
  refine lv_bipush (v := 8) hx hb dX9_putReady_25 (by decide) ?_
  refine lv_iload_n hx hb dX9_putReady_27 rfl (lv_at hl 0 rfl) ?_
  refine lv_imul hx hb dX9_putReady_28  ?_
  refine lv_topi (fun x126 ex126 => ?_)
  obtain rfl : x126 = 16 := ex126.trans (by decide)
  refine lv_isub hx hb dX9_putReady_29  ?_
  refine lv_topi (fun x127 ex127 => ?_)
  obtain rfl : x127 = 8 := ex127.trans (by decide)
  refine lv_iushr hx hb dX9_putReady_30 rfl ?_
  refine lv_topi (fun x128 ex128 => ?_)
  refine lv_sipush (v := 255) hx hb dX9_putReady_31 (by decide) ?_
  refine lv_iand hx hb dX9_putReady_34  ?_
  refine lv_topi (fun x129 ex129 => ?_)
  refine va_iast hx hb hK hP hD hS 1 0 rfl rfl (show vp_in 10 20 from by unfold vp_in; decide) dX9_putReady_35 (fun H locs hP hD hS => ?_)
  have hP : va_P (dC, dI) vwCl [(Ad0, .inr (12, Fs0)), (Ad1, .inl (Ka0, 20, .inl (upd f119 (10 : Int32).toNatClampNeg x129)))] H := hP
  have hD : va_D A [(Ad0, .inr (12, Fs0)), (Ad1, .inl (Ka0, 20, .inl (upd f119 (10 : Int32).toNatClampNeg x129)))] := hD
  have q131 : (upd f119 (10 : Int32).toNatClampNeg x129) (8 : Int32).toNatClampNeg = x108 := (kn_ne (by decide)).trans q120
  have q132 : (upd f119 (10 : Int32).toNatClampNeg x129) (9 : Int32).toNatClampNeg = x118 := (kn_ne (by decide)).trans q121
  have q133 : (upd f119 (10 : Int32).toNatClampNeg x129) (10 : Int32).toNatClampNeg = x129 := pk_us
  generalize upd f119 (10 : Int32).toNatClampNeg x129 = f130 at hP hD q131 q132 q133
  refine lv_iinc (v := 3) (lv' := [(3, .int 3), (0, .ref Ad0), (1, .int 8), (2, .int Va0)]) hx hb dX9_putReady_36 hl (k := 0) rfl (by decide) (by decide) rfl (fun ls hl => ?_)
  refine lv_goto (tgt := 2) hx hb dX9_putReady_39 (by decide) ?_
  refine lv_iload_n hx hb dX9_putReady_2 rfl (lv_at hl 0 rfl) ?_
  refine lv_iconst (v := 4) hx hb dX9_putReady_3 (by decide) ?_
  refine lv_icmp_ge (tgt := 42) hx hb dX9_putReady_4 (by decide) (fun c134 => absurd c134 (by decide)) (fun c134 => ?_)
  refine lv_iload_n hx hb dX9_putReady_7 rfl (lv_at hl 2 rfl) ?_
  refine lv_iload_n hx hb dX9_putReady_8 rfl (lv_at hl 0 rfl) ?_
  refine lv_iadd hx hb dX9_putReady_9  ?_
  refine lv_topi (fun x135 ex135 => ?_)
  obtain rfl : x135 = 11 := ex135.trans (by decide)
  refine lv_bipush (v := 20) hx hb dX9_putReady_10 (by decide) ?_
  refine lv_icmp_ge (tgt := 42) hx hb dX9_putReady_12 (by decide) (fun c136 => absurd c136 (by decide)) (fun c136 => ?_)
  refine lv_aload_n hx hb dX9_putReady_15 rfl (lv_at hl 1 rfl) ?_
  refine va_get (D := (dC, dI)) (ci := 12) (v := .ref Ad1) (C := RX9) (T := TX9) (N := 12) hx hb hts (in_z_X9_putReady_2_X9) hown hK hP 0 rfl rfl 2 (by decide) (hts (.fieldLink RX9 15 "HeapWorks$Tape" "ready" "[I") (by decide +kernel)) (fun _ h9 => h9) (ow_at o_Fs0 0 rfl) dX9_putReady_16 ?_
  refine lv_iload_n hx hb dX9_putReady_19 rfl (lv_at hl 2 rfl) ?_
  refine lv_iload_n hx hb dX9_putReady_20 rfl (lv_at hl 0 rfl) ?_
  refine lv_iadd hx hb dX9_putReady_21  ?_
  refine lv_topi (fun x137 ex137 => ?_)
  obtain rfl : x137 = 11 := ex137.trans (by decide)
  refine lv_iload_n hx hb dX9_putReady_22 rfl (lv_at hl 3 rfl) ?_
  refine lv_bipush (v := 24) hx hb dX9_putReady_23 (by decide) ?_
  refine lv_bipush (v := 8) hx hb dX9_putReady_25 (by decide) ?_
  refine lv_iload_n hx hb dX9_putReady_27 rfl (lv_at hl 0 rfl) ?_
  refine lv_imul hx hb dX9_putReady_28  ?_
  refine lv_topi (fun x138 ex138 => ?_)
  obtain rfl : x138 = 24 := ex138.trans (by decide)
  refine lv_isub hx hb dX9_putReady_29  ?_
  refine lv_topi (fun x139 ex139 => ?_)
  obtain rfl : x139 = 0 := ex139.trans (by decide)
  refine lv_iushr hx hb dX9_putReady_30 rfl ?_
  refine lv_topi (fun x140 ex140 => ?_)
  refine lv_sipush (v := 255) hx hb dX9_putReady_31 (by decide) ?_
  refine lv_iand hx hb dX9_putReady_34  ?_
  refine lv_topi (fun x141 ex141 => ?_)
  refine va_iast hx hb hK hP hD hS 1 0 rfl rfl (show vp_in 11 20 from by unfold vp_in; decide) dX9_putReady_35 (fun H locs hP hD hS => ?_)
  have hP : va_P (dC, dI) vwCl [(Ad0, .inr (12, Fs0)), (Ad1, .inl (Ka0, 20, .inl (upd f130 (11 : Int32).toNatClampNeg x141)))] H := hP
  have hD : va_D A [(Ad0, .inr (12, Fs0)), (Ad1, .inl (Ka0, 20, .inl (upd f130 (11 : Int32).toNatClampNeg x141)))] := hD
  have q143 : (upd f130 (11 : Int32).toNatClampNeg x141) (8 : Int32).toNatClampNeg = x108 := (kn_ne (by decide)).trans q131
  have q144 : (upd f130 (11 : Int32).toNatClampNeg x141) (9 : Int32).toNatClampNeg = x118 := (kn_ne (by decide)).trans q132
  have q145 : (upd f130 (11 : Int32).toNatClampNeg x141) (10 : Int32).toNatClampNeg = x129 := (kn_ne (by decide)).trans q133
  have q146 : (upd f130 (11 : Int32).toNatClampNeg x141) (11 : Int32).toNatClampNeg = x141 := pk_us
  generalize upd f130 (11 : Int32).toNatClampNeg x141 = f142 at hP hD q143 q144 q145 q146
  refine lv_iinc (v := 4) (lv' := [(3, .int 4), (0, .ref Ad0), (1, .int 8), (2, .int Va0)]) hx hb dX9_putReady_36 hl (k := 0) rfl (by decide) (by decide) rfl (fun ls hl => ?_)
  refine lv_goto (tgt := 2) hx hb dX9_putReady_39 (by decide) ?_
  refine lv_iload_n hx hb dX9_putReady_2 rfl (lv_at hl 0 rfl) ?_
  refine lv_iconst (v := 4) hx hb dX9_putReady_3 (by decide) ?_
  refine lv_icmp_ge (tgt := 42) hx hb dX9_putReady_4 (by decide) (fun c147 => ?_) (fun c147 => absurd c147 (by decide))
  have hP9 := hP.sub (ws' := [(Ad0, .inr (12, Fs0)), (Ad1, .inl (Ka0, 20, .inl f142))]) [0, 1] rfl
  have hD9 := hD.sub (ws' := [(Ad0, .inr (12, Fs0)), (Ad1, .inl (Ka0, 20, .inl f142))]) [0, 1] (by decide) rfl
  have hK9 := hK.sub (tys' := [(Ka0, .int)]) [0] rfl
  exact W.vret hx hb hr (fun t ht hW => ⟨⟨f142, rfl, trivial, by rw [ht]; exact hP9, va_K.moved hW.alike hK9, hD9⟩, hS.F ht⟩) hS.2.2 dX9_putReady_42

def l_z_X9_putReady_3 : List Cond := [.fieldLink RX9 15 "HeapWorks$Tape" "ready" "[I"]
def w_z_X9_putReady_3 : List Cond := .code yX9_putReady cX9_putReady 4 none :: (l_z_X9_putReady_3 ++ (wsX90))
theorem in_z_X9_putReady_3_X9 : ∀ w ∈ wsX90, w ∈ w_z_X9_putReady_3 := fun w h => List.mem_cons_of_mem _ (List.mem_append_right _ (h))
set_option maxHeartbeats 4000000 in
set_option maxRecDepth 100000 in
theorem z_X9_putReady_3 (l : Launch) (dC : Nat → ClassId) (dI : Nat → Nat → Nat) (sz : Nat) (Ad0 : Nat) (Fs0 : List Value) (Ad1 : Nat) (Fa0 : Nat → Int32) (Ka0 : ClassId) (Va0 : Int32) (k_Fs0 : fh Fs0 12 [(2, .ref Ad1)])  : Met l yX9_putReady w_z_X9_putReady_3 ({ frames := 0, cells := 0, slots := 0, locals := 0 }) (va_Pc [.ref Ad0, .int 12, .int Va0] (fun U => U.heap.size = sz ∧ Wd dC dI [(Ka0, .int)] (fun _ => True) [(Ad0, .inr (12, Fs0)), (Ad1, .inl (Ka0, 20, .inl Fa0))] U)) (va_Qv (fun (u : (Nat → Int32)) => True) (fun (u : (Nat → Int32)) t => Wd dC dI [(Ka0, .int)] (va_A [(Ad0, .inr (12, Fs0)), (Ad1, .inl (Ka0, 20, .inl Fa0))] sz) [(Ad0, .inr (12, Fs0)), (Ad1, .inl (Ka0, 20, .inl ((u))))] t) (va_A [(Ad0, .inr (12, Fs0)), (Ad1, .inl (Ka0, 20, .inl Fa0))] sz))  0 0 (va_A [(Ad0, .inr (12, Fs0)), (Ad1, .inl (Ka0, 20, .inl Fa0))] sz) := by
  refine Met.ofW (cc := cX9_putReady) (maxL := 4) (ret := none) (by decide) rfl ?_
  intro p e s m args below meth c s₁ B hml hv
  obtain ⟨rfl, hsz, hP, hK, hD0⟩ := hv
  have hx := B.exec
  have hb := B.bytes
  have hr := B.returns
  have hts := atoms_spec (ws := w_z_X9_putReady_3) B.pre
  have hown : s.vm.findClass RX9 = some m.cls := findClass_of_methodNamed B.named
  have hlocks := B.notSynchronized
  subst hsz
  have hD := hD0.self (sz := s.heap.size)
  generalize hAe : va_A [(Ad0, .inr (12, Fs0)), (Ad1, .inl (Ka0, 20, .inl Fa0))] s.heap.size = A at hD ⊢
  have hA : ∀ q : Nat, s.heap.size ≤ q → A q := fun q h => by rw [← hAe]; exact Or.inr h
  have hS : va_S A s.heap s.heap [] := va_S.rf
  have hl := lv_entry ([.ref Ad0, .int 12, .int Va0]) (n := 4) (Nat.le_of_ble_eq_true rfl)
  rw [lg_entry_eq]
  generalize (lg_sl ([.ref Ad0, .int 12, .int Va0]) ++ List.replicate (4 - (lg_sl ([.ref Ad0, .int 12, .int Va0])).length) Slot.unset).toArray = ls at hl ⊢
  have hl : lv_has ls 4 [(0, .ref Ad0), (1, .int 12), (2, .int Va0)] := hl
  have o_Fs0 := ow_0 k_Fs0
  refine lv_iconst (v := 0) hx hb dX9_putReady_0 (by decide) ?_
  refine lv_istore_n (lv' := [(3, .int 0), (0, .ref Ad0), (1, .int 12), (2, .int Va0)]) hx hb dX9_putReady_1 rfl hl (by decide) rfl (fun ls hl => ?_)
  refine lv_iload_n hx hb dX9_putReady_2 rfl (lv_at hl 0 rfl) ?_
  refine lv_iconst (v := 4) hx hb dX9_putReady_3 (by decide) ?_
  refine lv_icmp_ge (tgt := 42) hx hb dX9_putReady_4 (by decide) (fun c101 => absurd c101 (by decide)) (fun c101 => ?_)
  refine lv_iload_n hx hb dX9_putReady_7 rfl (lv_at hl 2 rfl) ?_
  refine lv_iload_n hx hb dX9_putReady_8 rfl (lv_at hl 0 rfl) ?_
  refine lv_iadd hx hb dX9_putReady_9  ?_
  refine lv_topi (fun x102 ex102 => ?_)
  obtain rfl : x102 = 12 := ex102.trans (by decide)
  refine lv_bipush (v := 20) hx hb dX9_putReady_10 (by decide) ?_
  refine lv_icmp_ge (tgt := 42) hx hb dX9_putReady_12 (by decide) (fun c103 => absurd c103 (by decide)) (fun c103 => ?_)
  refine lv_aload_n hx hb dX9_putReady_15 rfl (lv_at hl 1 rfl) ?_
  refine va_get (D := (dC, dI)) (ci := 12) (v := .ref Ad1) (C := RX9) (T := TX9) (N := 12) hx hb hts (in_z_X9_putReady_3_X9) hown hK hP 0 rfl rfl 2 (by decide) (hts (.fieldLink RX9 15 "HeapWorks$Tape" "ready" "[I") (by decide +kernel)) (fun _ h9 => h9) (ow_at o_Fs0 0 rfl) dX9_putReady_16 ?_
  refine lv_iload_n hx hb dX9_putReady_19 rfl (lv_at hl 2 rfl) ?_
  refine lv_iload_n hx hb dX9_putReady_20 rfl (lv_at hl 0 rfl) ?_
  refine lv_iadd hx hb dX9_putReady_21  ?_
  refine lv_topi (fun x104 ex104 => ?_)
  obtain rfl : x104 = 12 := ex104.trans (by decide)
  refine lv_iload_n hx hb dX9_putReady_22 rfl (lv_at hl 3 rfl) ?_
  refine lv_bipush (v := 24) hx hb dX9_putReady_23 (by decide) ?_
  refine lv_bipush (v := 8) hx hb dX9_putReady_25 (by decide) ?_
  refine lv_iload_n hx hb dX9_putReady_27 rfl (lv_at hl 0 rfl) ?_
  refine lv_imul hx hb dX9_putReady_28  ?_
  refine lv_topi (fun x105 ex105 => ?_)
  obtain rfl : x105 = 0 := ex105.trans (by decide)
  refine lv_isub hx hb dX9_putReady_29  ?_
  refine lv_topi (fun x106 ex106 => ?_)
  obtain rfl : x106 = 24 := ex106.trans (by decide)
  refine lv_iushr hx hb dX9_putReady_30 rfl ?_
  refine lv_topi (fun x107 ex107 => ?_)
  refine lv_sipush (v := 255) hx hb dX9_putReady_31 (by decide) ?_
  refine lv_iand hx hb dX9_putReady_34  ?_
  refine lv_topi (fun x108 ex108 => ?_)
  refine va_iast hx hb hK hP hD hS 1 0 rfl rfl (show vp_in 12 20 from by unfold vp_in; decide) dX9_putReady_35 (fun H locs hP hD hS => ?_)
  have hP : va_P (dC, dI) vwCl [(Ad0, .inr (12, Fs0)), (Ad1, .inl (Ka0, 20, .inl (upd Fa0 (12 : Int32).toNatClampNeg x108)))] H := hP
  have hD : va_D A [(Ad0, .inr (12, Fs0)), (Ad1, .inl (Ka0, 20, .inl (upd Fa0 (12 : Int32).toNatClampNeg x108)))] := hD
  have q110 : (upd Fa0 (12 : Int32).toNatClampNeg x108) (12 : Int32).toNatClampNeg = x108 := pk_us
  generalize upd Fa0 (12 : Int32).toNatClampNeg x108 = f109 at hP hD q110
  refine lv_iinc (v := 1) (lv' := [(3, .int 1), (0, .ref Ad0), (1, .int 12), (2, .int Va0)]) hx hb dX9_putReady_36 hl (k := 0) rfl (by decide) (by decide) rfl (fun ls hl => ?_)
  refine lv_goto (tgt := 2) hx hb dX9_putReady_39 (by decide) ?_
  refine lv_iload_n hx hb dX9_putReady_2 rfl (lv_at hl 0 rfl) ?_
  refine lv_iconst (v := 4) hx hb dX9_putReady_3 (by decide) ?_
  refine lv_icmp_ge (tgt := 42) hx hb dX9_putReady_4 (by decide) (fun c111 => absurd c111 (by decide)) (fun c111 => ?_)
  refine lv_iload_n hx hb dX9_putReady_7 rfl (lv_at hl 2 rfl) ?_
  refine lv_iload_n hx hb dX9_putReady_8 rfl (lv_at hl 0 rfl) ?_
  refine lv_iadd hx hb dX9_putReady_9  ?_
  refine lv_topi (fun x112 ex112 => ?_)
  obtain rfl : x112 = 13 := ex112.trans (by decide)
  refine lv_bipush (v := 20) hx hb dX9_putReady_10 (by decide) ?_
  refine lv_icmp_ge (tgt := 42) hx hb dX9_putReady_12 (by decide) (fun c113 => absurd c113 (by decide)) (fun c113 => ?_)
  refine lv_aload_n hx hb dX9_putReady_15 rfl (lv_at hl 1 rfl) ?_
  refine va_get (D := (dC, dI)) (ci := 12) (v := .ref Ad1) (C := RX9) (T := TX9) (N := 12) hx hb hts (in_z_X9_putReady_3_X9) hown hK hP 0 rfl rfl 2 (by decide) (hts (.fieldLink RX9 15 "HeapWorks$Tape" "ready" "[I") (by decide +kernel)) (fun _ h9 => h9) (ow_at o_Fs0 0 rfl) dX9_putReady_16 ?_
  refine lv_iload_n hx hb dX9_putReady_19 rfl (lv_at hl 2 rfl) ?_
  refine lv_iload_n hx hb dX9_putReady_20 rfl (lv_at hl 0 rfl) ?_
  refine lv_iadd hx hb dX9_putReady_21  ?_
  refine lv_topi (fun x114 ex114 => ?_)
  obtain rfl : x114 = 13 := ex114.trans (by decide)
  refine lv_iload_n hx hb dX9_putReady_22 rfl (lv_at hl 3 rfl) ?_
  refine lv_bipush (v := 24) hx hb dX9_putReady_23 (by decide) ?_
  refine lv_bipush (v := 8) hx hb dX9_putReady_25 (by decide) ?_
  refine lv_iload_n hx hb dX9_putReady_27 rfl (lv_at hl 0 rfl) ?_
  refine lv_imul hx hb dX9_putReady_28  ?_
  refine lv_topi (fun x115 ex115 => ?_)
  obtain rfl : x115 = 8 := ex115.trans (by decide)
  refine lv_isub hx hb dX9_putReady_29  ?_
  refine lv_topi (fun x116 ex116 => ?_)
  obtain rfl : x116 = 16 := ex116.trans (by decide)
  refine lv_iushr hx hb dX9_putReady_30 rfl ?_
  refine lv_topi (fun x117 ex117 => ?_)
  refine lv_sipush (v := 255) hx hb dX9_putReady_31 (by decide) ?_
  refine lv_iand hx hb dX9_putReady_34  ?_
  refine lv_topi (fun x118 ex118 => ?_)
  refine va_iast hx hb hK hP hD hS 1 0 rfl rfl (show vp_in 13 20 from by unfold vp_in; decide) dX9_putReady_35 (fun H locs hP hD hS => ?_)
  have hP : va_P (dC, dI) vwCl [(Ad0, .inr (12, Fs0)), (Ad1, .inl (Ka0, 20, .inl (upd f109 (13 : Int32).toNatClampNeg x118)))] H := hP
  have hD : va_D A [(Ad0, .inr (12, Fs0)), (Ad1, .inl (Ka0, 20, .inl (upd f109 (13 : Int32).toNatClampNeg x118)))] := hD
  have q120 : (upd f109 (13 : Int32).toNatClampNeg x118) (12 : Int32).toNatClampNeg = x108 := (kn_ne (by decide)).trans q110
  have q121 : (upd f109 (13 : Int32).toNatClampNeg x118) (13 : Int32).toNatClampNeg = x118 := pk_us
  generalize upd f109 (13 : Int32).toNatClampNeg x118 = f119 at hP hD q120 q121
  refine lv_iinc (v := 2) (lv' := [(3, .int 2), (0, .ref Ad0), (1, .int 12), (2, .int Va0)]) hx hb dX9_putReady_36 hl (k := 0) rfl (by decide) (by decide) rfl (fun ls hl => ?_)
  refine lv_goto (tgt := 2) hx hb dX9_putReady_39 (by decide) ?_
  refine lv_iload_n hx hb dX9_putReady_2 rfl (lv_at hl 0 rfl) ?_
  refine lv_iconst (v := 4) hx hb dX9_putReady_3 (by decide) ?_
  refine lv_icmp_ge (tgt := 42) hx hb dX9_putReady_4 (by decide) (fun c122 => absurd c122 (by decide)) (fun c122 => ?_)
  refine lv_iload_n hx hb dX9_putReady_7 rfl (lv_at hl 2 rfl) ?_
  refine lv_iload_n hx hb dX9_putReady_8 rfl (lv_at hl 0 rfl) ?_
  refine lv_iadd hx hb dX9_putReady_9  ?_
  refine lv_topi (fun x123 ex123 => ?_)
  obtain rfl : x123 = 14 := ex123.trans (by decide)
  refine lv_bipush (v := 20) hx hb dX9_putReady_10 (by decide) ?_
  refine lv_icmp_ge (tgt := 42) hx hb dX9_putReady_12 (by decide) (fun c124 => absurd c124 (by decide)) (fun c124 => ?_)
  refine lv_aload_n hx hb dX9_putReady_15 rfl (lv_at hl 1 rfl) ?_
  refine va_get (D := (dC, dI)) (ci := 12) (v := .ref Ad1) (C := RX9) (T := TX9) (N := 12) hx hb hts (in_z_X9_putReady_3_X9) hown hK hP 0 rfl rfl 2 (by decide) (hts (.fieldLink RX9 15 "HeapWorks$Tape" "ready" "[I") (by decide +kernel)) (fun _ h9 => h9) (ow_at o_Fs0 0 rfl) dX9_putReady_16 ?_
  refine lv_iload_n hx hb dX9_putReady_19 rfl (lv_at hl 2 rfl) ?_
  refine lv_iload_n hx hb dX9_putReady_20 rfl (lv_at hl 0 rfl) ?_
  refine lv_iadd hx hb dX9_putReady_21  ?_
  refine lv_topi (fun x125 ex125 => ?_)
  obtain rfl : x125 = 14 := ex125.trans (by decide)
  refine lv_iload_n hx hb dX9_putReady_22 rfl (lv_at hl 3 rfl) ?_
  refine lv_bipush (v := 24) hx hb dX9_putReady_23 (by decide) ?_
  refine lv_bipush (v := 8) hx hb dX9_putReady_25 (by decide) ?_
  refine lv_iload_n hx hb dX9_putReady_27 rfl (lv_at hl 0 rfl) ?_
  refine lv_imul hx hb dX9_putReady_28  ?_
  refine lv_topi (fun x126 ex126 => ?_)
  obtain rfl : x126 = 16 := ex126.trans (by decide)
  refine lv_isub hx hb dX9_putReady_29  ?_
  refine lv_topi (fun x127 ex127 => ?_)
  obtain rfl : x127 = 8 := ex127.trans (by decide)
  refine lv_iushr hx hb dX9_putReady_30 rfl ?_
  refine lv_topi (fun x128 ex128 => ?_)
  refine lv_sipush (v := 255) hx hb dX9_putReady_31 (by decide) ?_
  refine lv_iand hx hb dX9_putReady_34  ?_
  refine lv_topi (fun x129 ex129 => ?_)
  refine va_iast hx hb hK hP hD hS 1 0 rfl rfl (show vp_in 14 20 from by unfold vp_in; decide) dX9_putReady_35 (fun H locs hP hD hS => ?_)
  have hP : va_P (dC, dI) vwCl [(Ad0, .inr (12, Fs0)), (Ad1, .inl (Ka0, 20, .inl (upd f119 (14 : Int32).toNatClampNeg x129)))] H := hP
  have hD : va_D A [(Ad0, .inr (12, Fs0)), (Ad1, .inl (Ka0, 20, .inl (upd f119 (14 : Int32).toNatClampNeg x129)))] := hD
  have q131 : (upd f119 (14 : Int32).toNatClampNeg x129) (12 : Int32).toNatClampNeg = x108 := (kn_ne (by decide)).trans q120
  have q132 : (upd f119 (14 : Int32).toNatClampNeg x129) (13 : Int32).toNatClampNeg = x118 := (kn_ne (by decide)).trans q121
  have q133 : (upd f119 (14 : Int32).toNatClampNeg x129) (14 : Int32).toNatClampNeg = x129 := pk_us
  generalize upd f119 (14 : Int32).toNatClampNeg x129 = f130 at hP hD q131 q132 q133
  refine lv_iinc (v := 3) (lv' := [(3, .int 3), (0, .ref Ad0), (1, .int 12), (2, .int Va0)]) hx hb dX9_putReady_36 hl (k := 0) rfl (by decide) (by decide) rfl (fun ls hl => ?_)
  refine lv_goto (tgt := 2) hx hb dX9_putReady_39 (by decide) ?_
  refine lv_iload_n hx hb dX9_putReady_2 rfl (lv_at hl 0 rfl) ?_
  refine lv_iconst (v := 4) hx hb dX9_putReady_3 (by decide) ?_
  refine lv_icmp_ge (tgt := 42) hx hb dX9_putReady_4 (by decide) (fun c134 => absurd c134 (by decide)) (fun c134 => ?_)
  refine lv_iload_n hx hb dX9_putReady_7 rfl (lv_at hl 2 rfl) ?_
  refine lv_iload_n hx hb dX9_putReady_8 rfl (lv_at hl 0 rfl) ?_
  refine lv_iadd hx hb dX9_putReady_9  ?_
  refine lv_topi (fun x135 ex135 => ?_)
  obtain rfl : x135 = 15 := ex135.trans (by decide)
  refine lv_bipush (v := 20) hx hb dX9_putReady_10 (by decide) ?_
  refine lv_icmp_ge (tgt := 42) hx hb dX9_putReady_12 (by decide) (fun c136 => absurd c136 (by decide)) (fun c136 => ?_)
  refine lv_aload_n hx hb dX9_putReady_15 rfl (lv_at hl 1 rfl) ?_
  refine va_get (D := (dC, dI)) (ci := 12) (v := .ref Ad1) (C := RX9) (T := TX9) (N := 12) hx hb hts (in_z_X9_putReady_3_X9) hown hK hP 0 rfl rfl 2 (by decide) (hts (.fieldLink RX9 15 "HeapWorks$Tape" "ready" "[I") (by decide +kernel)) (fun _ h9 => h9) (ow_at o_Fs0 0 rfl) dX9_putReady_16 ?_
  refine lv_iload_n hx hb dX9_putReady_19 rfl (lv_at hl 2 rfl) ?_
  refine lv_iload_n hx hb dX9_putReady_20 rfl (lv_at hl 0 rfl) ?_
  refine lv_iadd hx hb dX9_putReady_21  ?_
  refine lv_topi (fun x137 ex137 => ?_)
  obtain rfl : x137 = 15 := ex137.trans (by decide)
  refine lv_iload_n hx hb dX9_putReady_22 rfl (lv_at hl 3 rfl) ?_
  refine lv_bipush (v := 24) hx hb dX9_putReady_23 (by decide) ?_
  refine lv_bipush (v := 8) hx hb dX9_putReady_25 (by decide) ?_
  refine lv_iload_n hx hb dX9_putReady_27 rfl (lv_at hl 0 rfl) ?_
  refine lv_imul hx hb dX9_putReady_28  ?_
  refine lv_topi (fun x138 ex138 => ?_)
  obtain rfl : x138 = 24 := ex138.trans (by decide)
  refine lv_isub hx hb dX9_putReady_29  ?_
  refine lv_topi (fun x139 ex139 => ?_)
  obtain rfl : x139 = 0 := ex139.trans (by decide)
  refine lv_iushr hx hb dX9_putReady_30 rfl ?_
  refine lv_topi (fun x140 ex140 => ?_)
  refine lv_sipush (v := 255) hx hb dX9_putReady_31 (by decide) ?_
  refine lv_iand hx hb dX9_putReady_34  ?_
  refine lv_topi (fun x141 ex141 => ?_)
  refine va_iast hx hb hK hP hD hS 1 0 rfl rfl (show vp_in 15 20 from by unfold vp_in; decide) dX9_putReady_35 (fun H locs hP hD hS => ?_)
  have hP : va_P (dC, dI) vwCl [(Ad0, .inr (12, Fs0)), (Ad1, .inl (Ka0, 20, .inl (upd f130 (15 : Int32).toNatClampNeg x141)))] H := hP
  have hD : va_D A [(Ad0, .inr (12, Fs0)), (Ad1, .inl (Ka0, 20, .inl (upd f130 (15 : Int32).toNatClampNeg x141)))] := hD
  have q143 : (upd f130 (15 : Int32).toNatClampNeg x141) (12 : Int32).toNatClampNeg = x108 := (kn_ne (by decide)).trans q131
  have q144 : (upd f130 (15 : Int32).toNatClampNeg x141) (13 : Int32).toNatClampNeg = x118 := (kn_ne (by decide)).trans q132
  have q145 : (upd f130 (15 : Int32).toNatClampNeg x141) (14 : Int32).toNatClampNeg = x129 := (kn_ne (by decide)).trans q133
  have q146 : (upd f130 (15 : Int32).toNatClampNeg x141) (15 : Int32).toNatClampNeg = x141 := pk_us
  generalize upd f130 (15 : Int32).toNatClampNeg x141 = f142 at hP hD q143 q144 q145 q146
  refine lv_iinc (v := 4) (lv' := [(3, .int 4), (0, .ref Ad0), (1, .int 12), (2, .int Va0)]) hx hb dX9_putReady_36 hl (k := 0) rfl (by decide) (by decide) rfl (fun ls hl => ?_)
  refine lv_goto (tgt := 2) hx hb dX9_putReady_39 (by decide) ?_
  refine lv_iload_n hx hb dX9_putReady_2 rfl (lv_at hl 0 rfl) ?_
  refine lv_iconst (v := 4) hx hb dX9_putReady_3 (by decide) ?_
  refine lv_icmp_ge (tgt := 42) hx hb dX9_putReady_4 (by decide) (fun c147 => ?_) (fun c147 => absurd c147 (by decide))
  have hP9 := hP.sub (ws' := [(Ad0, .inr (12, Fs0)), (Ad1, .inl (Ka0, 20, .inl f142))]) [0, 1] rfl
  have hD9 := hD.sub (ws' := [(Ad0, .inr (12, Fs0)), (Ad1, .inl (Ka0, 20, .inl f142))]) [0, 1] (by decide) rfl
  have hK9 := hK.sub (tys' := [(Ka0, .int)]) [0] rfl
  exact W.vret hx hb hr (fun t ht hW => ⟨⟨f142, rfl, trivial, by rw [ht]; exact hP9, va_K.moved hW.alike hK9, hD9⟩, hS.F ht⟩) hS.2.2 dX9_putReady_42

def l_z_X9_putReady_4 : List Cond := [.fieldLink RX9 15 "HeapWorks$Tape" "ready" "[I"]
def w_z_X9_putReady_4 : List Cond := .code yX9_putReady cX9_putReady 4 none :: (l_z_X9_putReady_4 ++ (wsX90))
theorem in_z_X9_putReady_4_X9 : ∀ w ∈ wsX90, w ∈ w_z_X9_putReady_4 := fun w h => List.mem_cons_of_mem _ (List.mem_append_right _ (h))
set_option maxHeartbeats 4000000 in
set_option maxRecDepth 100000 in
theorem z_X9_putReady_4 (l : Launch) (dC : Nat → ClassId) (dI : Nat → Nat → Nat) (sz : Nat) (Ad0 : Nat) (Fs0 : List Value) (Ad1 : Nat) (Fa0 : Nat → Int32) (Ka0 : ClassId) (Va0 : Int32) (k_Fs0 : fh Fs0 12 [(2, .ref Ad1)])  : Met l yX9_putReady w_z_X9_putReady_4 ({ frames := 0, cells := 0, slots := 0, locals := 0 }) (va_Pc [.ref Ad0, .int 16, .int Va0] (fun U => U.heap.size = sz ∧ Wd dC dI [(Ka0, .int)] (fun _ => True) [(Ad0, .inr (12, Fs0)), (Ad1, .inl (Ka0, 20, .inl Fa0))] U)) (va_Qv (fun (u : (Nat → Int32)) => True) (fun (u : (Nat → Int32)) t => Wd dC dI [(Ka0, .int)] (va_A [(Ad0, .inr (12, Fs0)), (Ad1, .inl (Ka0, 20, .inl Fa0))] sz) [(Ad0, .inr (12, Fs0)), (Ad1, .inl (Ka0, 20, .inl ((u))))] t) (va_A [(Ad0, .inr (12, Fs0)), (Ad1, .inl (Ka0, 20, .inl Fa0))] sz))  0 0 (va_A [(Ad0, .inr (12, Fs0)), (Ad1, .inl (Ka0, 20, .inl Fa0))] sz) := by
  refine Met.ofW (cc := cX9_putReady) (maxL := 4) (ret := none) (by decide) rfl ?_
  intro p e s m args below meth c s₁ B hml hv
  obtain ⟨rfl, hsz, hP, hK, hD0⟩ := hv
  have hx := B.exec
  have hb := B.bytes
  have hr := B.returns
  have hts := atoms_spec (ws := w_z_X9_putReady_4) B.pre
  have hown : s.vm.findClass RX9 = some m.cls := findClass_of_methodNamed B.named
  have hlocks := B.notSynchronized
  subst hsz
  have hD := hD0.self (sz := s.heap.size)
  generalize hAe : va_A [(Ad0, .inr (12, Fs0)), (Ad1, .inl (Ka0, 20, .inl Fa0))] s.heap.size = A at hD ⊢
  have hA : ∀ q : Nat, s.heap.size ≤ q → A q := fun q h => by rw [← hAe]; exact Or.inr h
  have hS : va_S A s.heap s.heap [] := va_S.rf
  have hl := lv_entry ([.ref Ad0, .int 16, .int Va0]) (n := 4) (Nat.le_of_ble_eq_true rfl)
  rw [lg_entry_eq]
  generalize (lg_sl ([.ref Ad0, .int 16, .int Va0]) ++ List.replicate (4 - (lg_sl ([.ref Ad0, .int 16, .int Va0])).length) Slot.unset).toArray = ls at hl ⊢
  have hl : lv_has ls 4 [(0, .ref Ad0), (1, .int 16), (2, .int Va0)] := hl
  have o_Fs0 := ow_0 k_Fs0
  refine lv_iconst (v := 0) hx hb dX9_putReady_0 (by decide) ?_
  refine lv_istore_n (lv' := [(3, .int 0), (0, .ref Ad0), (1, .int 16), (2, .int Va0)]) hx hb dX9_putReady_1 rfl hl (by decide) rfl (fun ls hl => ?_)
  refine lv_iload_n hx hb dX9_putReady_2 rfl (lv_at hl 0 rfl) ?_
  refine lv_iconst (v := 4) hx hb dX9_putReady_3 (by decide) ?_
  refine lv_icmp_ge (tgt := 42) hx hb dX9_putReady_4 (by decide) (fun c101 => absurd c101 (by decide)) (fun c101 => ?_)
  refine lv_iload_n hx hb dX9_putReady_7 rfl (lv_at hl 2 rfl) ?_
  refine lv_iload_n hx hb dX9_putReady_8 rfl (lv_at hl 0 rfl) ?_
  refine lv_iadd hx hb dX9_putReady_9  ?_
  refine lv_topi (fun x102 ex102 => ?_)
  obtain rfl : x102 = 16 := ex102.trans (by decide)
  refine lv_bipush (v := 20) hx hb dX9_putReady_10 (by decide) ?_
  refine lv_icmp_ge (tgt := 42) hx hb dX9_putReady_12 (by decide) (fun c103 => absurd c103 (by decide)) (fun c103 => ?_)
  refine lv_aload_n hx hb dX9_putReady_15 rfl (lv_at hl 1 rfl) ?_
  refine va_get (D := (dC, dI)) (ci := 12) (v := .ref Ad1) (C := RX9) (T := TX9) (N := 12) hx hb hts (in_z_X9_putReady_4_X9) hown hK hP 0 rfl rfl 2 (by decide) (hts (.fieldLink RX9 15 "HeapWorks$Tape" "ready" "[I") (by decide +kernel)) (fun _ h9 => h9) (ow_at o_Fs0 0 rfl) dX9_putReady_16 ?_
  refine lv_iload_n hx hb dX9_putReady_19 rfl (lv_at hl 2 rfl) ?_
  refine lv_iload_n hx hb dX9_putReady_20 rfl (lv_at hl 0 rfl) ?_
  refine lv_iadd hx hb dX9_putReady_21  ?_
  refine lv_topi (fun x104 ex104 => ?_)
  obtain rfl : x104 = 16 := ex104.trans (by decide)
  refine lv_iload_n hx hb dX9_putReady_22 rfl (lv_at hl 3 rfl) ?_
  refine lv_bipush (v := 24) hx hb dX9_putReady_23 (by decide) ?_
  refine lv_bipush (v := 8) hx hb dX9_putReady_25 (by decide) ?_
  refine lv_iload_n hx hb dX9_putReady_27 rfl (lv_at hl 0 rfl) ?_
  refine lv_imul hx hb dX9_putReady_28  ?_
  refine lv_topi (fun x105 ex105 => ?_)
  obtain rfl : x105 = 0 := ex105.trans (by decide)
  refine lv_isub hx hb dX9_putReady_29  ?_
  refine lv_topi (fun x106 ex106 => ?_)
  obtain rfl : x106 = 24 := ex106.trans (by decide)
  refine lv_iushr hx hb dX9_putReady_30 rfl ?_
  refine lv_topi (fun x107 ex107 => ?_)
  refine lv_sipush (v := 255) hx hb dX9_putReady_31 (by decide) ?_
  refine lv_iand hx hb dX9_putReady_34  ?_
  refine lv_topi (fun x108 ex108 => ?_)
  refine va_iast hx hb hK hP hD hS 1 0 rfl rfl (show vp_in 16 20 from by unfold vp_in; decide) dX9_putReady_35 (fun H locs hP hD hS => ?_)
  have hP : va_P (dC, dI) vwCl [(Ad0, .inr (12, Fs0)), (Ad1, .inl (Ka0, 20, .inl (upd Fa0 (16 : Int32).toNatClampNeg x108)))] H := hP
  have hD : va_D A [(Ad0, .inr (12, Fs0)), (Ad1, .inl (Ka0, 20, .inl (upd Fa0 (16 : Int32).toNatClampNeg x108)))] := hD
  have q110 : (upd Fa0 (16 : Int32).toNatClampNeg x108) (16 : Int32).toNatClampNeg = x108 := pk_us
  generalize upd Fa0 (16 : Int32).toNatClampNeg x108 = f109 at hP hD q110
  refine lv_iinc (v := 1) (lv' := [(3, .int 1), (0, .ref Ad0), (1, .int 16), (2, .int Va0)]) hx hb dX9_putReady_36 hl (k := 0) rfl (by decide) (by decide) rfl (fun ls hl => ?_)
  refine lv_goto (tgt := 2) hx hb dX9_putReady_39 (by decide) ?_
  refine lv_iload_n hx hb dX9_putReady_2 rfl (lv_at hl 0 rfl) ?_
  refine lv_iconst (v := 4) hx hb dX9_putReady_3 (by decide) ?_
  refine lv_icmp_ge (tgt := 42) hx hb dX9_putReady_4 (by decide) (fun c111 => absurd c111 (by decide)) (fun c111 => ?_)
  refine lv_iload_n hx hb dX9_putReady_7 rfl (lv_at hl 2 rfl) ?_
  refine lv_iload_n hx hb dX9_putReady_8 rfl (lv_at hl 0 rfl) ?_
  refine lv_iadd hx hb dX9_putReady_9  ?_
  refine lv_topi (fun x112 ex112 => ?_)
  obtain rfl : x112 = 17 := ex112.trans (by decide)
  refine lv_bipush (v := 20) hx hb dX9_putReady_10 (by decide) ?_
  refine lv_icmp_ge (tgt := 42) hx hb dX9_putReady_12 (by decide) (fun c113 => absurd c113 (by decide)) (fun c113 => ?_)
  refine lv_aload_n hx hb dX9_putReady_15 rfl (lv_at hl 1 rfl) ?_
  refine va_get (D := (dC, dI)) (ci := 12) (v := .ref Ad1) (C := RX9) (T := TX9) (N := 12) hx hb hts (in_z_X9_putReady_4_X9) hown hK hP 0 rfl rfl 2 (by decide) (hts (.fieldLink RX9 15 "HeapWorks$Tape" "ready" "[I") (by decide +kernel)) (fun _ h9 => h9) (ow_at o_Fs0 0 rfl) dX9_putReady_16 ?_
  refine lv_iload_n hx hb dX9_putReady_19 rfl (lv_at hl 2 rfl) ?_
  refine lv_iload_n hx hb dX9_putReady_20 rfl (lv_at hl 0 rfl) ?_
  refine lv_iadd hx hb dX9_putReady_21  ?_
  refine lv_topi (fun x114 ex114 => ?_)
  obtain rfl : x114 = 17 := ex114.trans (by decide)
  refine lv_iload_n hx hb dX9_putReady_22 rfl (lv_at hl 3 rfl) ?_
  refine lv_bipush (v := 24) hx hb dX9_putReady_23 (by decide) ?_
  refine lv_bipush (v := 8) hx hb dX9_putReady_25 (by decide) ?_
  refine lv_iload_n hx hb dX9_putReady_27 rfl (lv_at hl 0 rfl) ?_
  refine lv_imul hx hb dX9_putReady_28  ?_
  refine lv_topi (fun x115 ex115 => ?_)
  obtain rfl : x115 = 8 := ex115.trans (by decide)
  refine lv_isub hx hb dX9_putReady_29  ?_
  refine lv_topi (fun x116 ex116 => ?_)
  obtain rfl : x116 = 16 := ex116.trans (by decide)
  refine lv_iushr hx hb dX9_putReady_30 rfl ?_
  refine lv_topi (fun x117 ex117 => ?_)
  refine lv_sipush (v := 255) hx hb dX9_putReady_31 (by decide) ?_
  refine lv_iand hx hb dX9_putReady_34  ?_
  refine lv_topi (fun x118 ex118 => ?_)
  refine va_iast hx hb hK hP hD hS 1 0 rfl rfl (show vp_in 17 20 from by unfold vp_in; decide) dX9_putReady_35 (fun H locs hP hD hS => ?_)
  have hP : va_P (dC, dI) vwCl [(Ad0, .inr (12, Fs0)), (Ad1, .inl (Ka0, 20, .inl (upd f109 (17 : Int32).toNatClampNeg x118)))] H := hP
  have hD : va_D A [(Ad0, .inr (12, Fs0)), (Ad1, .inl (Ka0, 20, .inl (upd f109 (17 : Int32).toNatClampNeg x118)))] := hD
  have q120 : (upd f109 (17 : Int32).toNatClampNeg x118) (16 : Int32).toNatClampNeg = x108 := (kn_ne (by decide)).trans q110
  have q121 : (upd f109 (17 : Int32).toNatClampNeg x118) (17 : Int32).toNatClampNeg = x118 := pk_us
  generalize upd f109 (17 : Int32).toNatClampNeg x118 = f119 at hP hD q120 q121
  refine lv_iinc (v := 2) (lv' := [(3, .int 2), (0, .ref Ad0), (1, .int 16), (2, .int Va0)]) hx hb dX9_putReady_36 hl (k := 0) rfl (by decide) (by decide) rfl (fun ls hl => ?_)
  refine lv_goto (tgt := 2) hx hb dX9_putReady_39 (by decide) ?_
  refine lv_iload_n hx hb dX9_putReady_2 rfl (lv_at hl 0 rfl) ?_
  refine lv_iconst (v := 4) hx hb dX9_putReady_3 (by decide) ?_
  refine lv_icmp_ge (tgt := 42) hx hb dX9_putReady_4 (by decide) (fun c122 => absurd c122 (by decide)) (fun c122 => ?_)
  refine lv_iload_n hx hb dX9_putReady_7 rfl (lv_at hl 2 rfl) ?_
  refine lv_iload_n hx hb dX9_putReady_8 rfl (lv_at hl 0 rfl) ?_
  refine lv_iadd hx hb dX9_putReady_9  ?_
  refine lv_topi (fun x123 ex123 => ?_)
  obtain rfl : x123 = 18 := ex123.trans (by decide)
  refine lv_bipush (v := 20) hx hb dX9_putReady_10 (by decide) ?_
  refine lv_icmp_ge (tgt := 42) hx hb dX9_putReady_12 (by decide) (fun c124 => absurd c124 (by decide)) (fun c124 => ?_)
  refine lv_aload_n hx hb dX9_putReady_15 rfl (lv_at hl 1 rfl) ?_
  refine va_get (D := (dC, dI)) (ci := 12) (v := .ref Ad1) (C := RX9) (T := TX9) (N := 12) hx hb hts (in_z_X9_putReady_4_X9) hown hK hP 0 rfl rfl 2 (by decide) (hts (.fieldLink RX9 15 "HeapWorks$Tape" "ready" "[I") (by decide +kernel)) (fun _ h9 => h9) (ow_at o_Fs0 0 rfl) dX9_putReady_16 ?_
  refine lv_iload_n hx hb dX9_putReady_19 rfl (lv_at hl 2 rfl) ?_
  refine lv_iload_n hx hb dX9_putReady_20 rfl (lv_at hl 0 rfl) ?_
  refine lv_iadd hx hb dX9_putReady_21  ?_
  refine lv_topi (fun x125 ex125 => ?_)
  obtain rfl : x125 = 18 := ex125.trans (by decide)
  refine lv_iload_n hx hb dX9_putReady_22 rfl (lv_at hl 3 rfl) ?_
  refine lv_bipush (v := 24) hx hb dX9_putReady_23 (by decide) ?_
  refine lv_bipush (v := 8) hx hb dX9_putReady_25 (by decide) ?_
  refine lv_iload_n hx hb dX9_putReady_27 rfl (lv_at hl 0 rfl) ?_
  refine lv_imul hx hb dX9_putReady_28  ?_
  refine lv_topi (fun x126 ex126 => ?_)
  obtain rfl : x126 = 16 := ex126.trans (by decide)
  refine lv_isub hx hb dX9_putReady_29  ?_
  refine lv_topi (fun x127 ex127 => ?_)
  obtain rfl : x127 = 8 := ex127.trans (by decide)
  refine lv_iushr hx hb dX9_putReady_30 rfl ?_
  refine lv_topi (fun x128 ex128 => ?_)
  refine lv_sipush (v := 255) hx hb dX9_putReady_31 (by decide) ?_
  refine lv_iand hx hb dX9_putReady_34  ?_
  refine lv_topi (fun x129 ex129 => ?_)
  refine va_iast hx hb hK hP hD hS 1 0 rfl rfl (show vp_in 18 20 from by unfold vp_in; decide) dX9_putReady_35 (fun H locs hP hD hS => ?_)
  have hP : va_P (dC, dI) vwCl [(Ad0, .inr (12, Fs0)), (Ad1, .inl (Ka0, 20, .inl (upd f119 (18 : Int32).toNatClampNeg x129)))] H := hP
  have hD : va_D A [(Ad0, .inr (12, Fs0)), (Ad1, .inl (Ka0, 20, .inl (upd f119 (18 : Int32).toNatClampNeg x129)))] := hD
  have q131 : (upd f119 (18 : Int32).toNatClampNeg x129) (16 : Int32).toNatClampNeg = x108 := (kn_ne (by decide)).trans q120
  have q132 : (upd f119 (18 : Int32).toNatClampNeg x129) (17 : Int32).toNatClampNeg = x118 := (kn_ne (by decide)).trans q121
  have q133 : (upd f119 (18 : Int32).toNatClampNeg x129) (18 : Int32).toNatClampNeg = x129 := pk_us
  generalize upd f119 (18 : Int32).toNatClampNeg x129 = f130 at hP hD q131 q132 q133
  refine lv_iinc (v := 3) (lv' := [(3, .int 3), (0, .ref Ad0), (1, .int 16), (2, .int Va0)]) hx hb dX9_putReady_36 hl (k := 0) rfl (by decide) (by decide) rfl (fun ls hl => ?_)
  refine lv_goto (tgt := 2) hx hb dX9_putReady_39 (by decide) ?_
  refine lv_iload_n hx hb dX9_putReady_2 rfl (lv_at hl 0 rfl) ?_
  refine lv_iconst (v := 4) hx hb dX9_putReady_3 (by decide) ?_
  refine lv_icmp_ge (tgt := 42) hx hb dX9_putReady_4 (by decide) (fun c134 => absurd c134 (by decide)) (fun c134 => ?_)
  refine lv_iload_n hx hb dX9_putReady_7 rfl (lv_at hl 2 rfl) ?_
  refine lv_iload_n hx hb dX9_putReady_8 rfl (lv_at hl 0 rfl) ?_
  refine lv_iadd hx hb dX9_putReady_9  ?_
  refine lv_topi (fun x135 ex135 => ?_)
  obtain rfl : x135 = 19 := ex135.trans (by decide)
  refine lv_bipush (v := 20) hx hb dX9_putReady_10 (by decide) ?_
  refine lv_icmp_ge (tgt := 42) hx hb dX9_putReady_12 (by decide) (fun c136 => absurd c136 (by decide)) (fun c136 => ?_)
  refine lv_aload_n hx hb dX9_putReady_15 rfl (lv_at hl 1 rfl) ?_
  refine va_get (D := (dC, dI)) (ci := 12) (v := .ref Ad1) (C := RX9) (T := TX9) (N := 12) hx hb hts (in_z_X9_putReady_4_X9) hown hK hP 0 rfl rfl 2 (by decide) (hts (.fieldLink RX9 15 "HeapWorks$Tape" "ready" "[I") (by decide +kernel)) (fun _ h9 => h9) (ow_at o_Fs0 0 rfl) dX9_putReady_16 ?_
  refine lv_iload_n hx hb dX9_putReady_19 rfl (lv_at hl 2 rfl) ?_
  refine lv_iload_n hx hb dX9_putReady_20 rfl (lv_at hl 0 rfl) ?_
  refine lv_iadd hx hb dX9_putReady_21  ?_
  refine lv_topi (fun x137 ex137 => ?_)
  obtain rfl : x137 = 19 := ex137.trans (by decide)
  refine lv_iload_n hx hb dX9_putReady_22 rfl (lv_at hl 3 rfl) ?_
  refine lv_bipush (v := 24) hx hb dX9_putReady_23 (by decide) ?_
  refine lv_bipush (v := 8) hx hb dX9_putReady_25 (by decide) ?_
  refine lv_iload_n hx hb dX9_putReady_27 rfl (lv_at hl 0 rfl) ?_
  refine lv_imul hx hb dX9_putReady_28  ?_
  refine lv_topi (fun x138 ex138 => ?_)
  obtain rfl : x138 = 24 := ex138.trans (by decide)
  refine lv_isub hx hb dX9_putReady_29  ?_
  refine lv_topi (fun x139 ex139 => ?_)
  obtain rfl : x139 = 0 := ex139.trans (by decide)
  refine lv_iushr hx hb dX9_putReady_30 rfl ?_
  refine lv_topi (fun x140 ex140 => ?_)
  refine lv_sipush (v := 255) hx hb dX9_putReady_31 (by decide) ?_
  refine lv_iand hx hb dX9_putReady_34  ?_
  refine lv_topi (fun x141 ex141 => ?_)
  refine va_iast hx hb hK hP hD hS 1 0 rfl rfl (show vp_in 19 20 from by unfold vp_in; decide) dX9_putReady_35 (fun H locs hP hD hS => ?_)
  have hP : va_P (dC, dI) vwCl [(Ad0, .inr (12, Fs0)), (Ad1, .inl (Ka0, 20, .inl (upd f130 (19 : Int32).toNatClampNeg x141)))] H := hP
  have hD : va_D A [(Ad0, .inr (12, Fs0)), (Ad1, .inl (Ka0, 20, .inl (upd f130 (19 : Int32).toNatClampNeg x141)))] := hD
  have q143 : (upd f130 (19 : Int32).toNatClampNeg x141) (16 : Int32).toNatClampNeg = x108 := (kn_ne (by decide)).trans q131
  have q144 : (upd f130 (19 : Int32).toNatClampNeg x141) (17 : Int32).toNatClampNeg = x118 := (kn_ne (by decide)).trans q132
  have q145 : (upd f130 (19 : Int32).toNatClampNeg x141) (18 : Int32).toNatClampNeg = x129 := (kn_ne (by decide)).trans q133
  have q146 : (upd f130 (19 : Int32).toNatClampNeg x141) (19 : Int32).toNatClampNeg = x141 := pk_us
  generalize upd f130 (19 : Int32).toNatClampNeg x141 = f142 at hP hD q143 q144 q145 q146
  refine lv_iinc (v := 4) (lv' := [(3, .int 4), (0, .ref Ad0), (1, .int 16), (2, .int Va0)]) hx hb dX9_putReady_36 hl (k := 0) rfl (by decide) (by decide) rfl (fun ls hl => ?_)
  refine lv_goto (tgt := 2) hx hb dX9_putReady_39 (by decide) ?_
  refine lv_iload_n hx hb dX9_putReady_2 rfl (lv_at hl 0 rfl) ?_
  refine lv_iconst (v := 4) hx hb dX9_putReady_3 (by decide) ?_
  refine lv_icmp_ge (tgt := 42) hx hb dX9_putReady_4 (by decide) (fun c147 => ?_) (fun c147 => absurd c147 (by decide))
  have hP9 := hP.sub (ws' := [(Ad0, .inr (12, Fs0)), (Ad1, .inl (Ka0, 20, .inl f142))]) [0, 1] rfl
  have hD9 := hD.sub (ws' := [(Ad0, .inr (12, Fs0)), (Ad1, .inl (Ka0, 20, .inl f142))]) [0, 1] (by decide) rfl
  have hK9 := hK.sub (tys' := [(Ka0, .int)]) [0] rfl
  exact W.vret hx hb hr (fun t ht hW => ⟨⟨f142, rfl, trivial, by rw [ht]; exact hP9, va_K.moved hW.alike hK9, hD9⟩, hS.F ht⟩) hS.2.2 dX9_putReady_42

def l_z_X11_feed : List Cond := [.fieldLink RX11 12 "HeapWorks" "tape" "LHeapWorks$Tape;", .methodLink RX11 102 yX9_putReady, .instanceMethod yX9_putReady, .selects RX9 yX9_putReady yX9_putReady, .initialized RX9, .code yX9_putReady cX9_putReady 4 none, .fieldLink RX9 15 "HeapWorks$Tape" "ready" "[I"]
def w_z_X11_feed : List Cond := .code yX11_feed cX11_feed 6 none :: (l_z_X11_feed ++ ((wsX110 ++ wsX90)))
theorem in_z_X11_feed_X11 : ∀ w ∈ wsX110, w ∈ w_z_X11_feed := fun w h => List.mem_cons_of_mem _ (List.mem_append_right _ (List.mem_append_left _ h))
theorem in_z_X11_feed_X9 : ∀ w ∈ wsX90, w ∈ w_z_X11_feed := fun w h => List.mem_cons_of_mem _ (List.mem_append_right _ (List.mem_append_right _ (h)))
theorem g_z_X11_feed_z_X9_putReady_102 : GoodIn w_z_X11_feed (wsV RX11 102 RX9 yX9_putReady w_z_X9_putReady) := goodIn_app (goodIn_r (([.methodLink RX11 102 yX9_putReady, .instanceMethod yX9_putReady, .selects RX9 yX9_putReady yX9_putReady, .initialized RX9] : List Cond)) [2, 3, 4, 5] rfl (by decide +kernel)) (goodIn_ca (goodIn_r (.code yX9_putReady cX9_putReady 4 none :: l_z_X9_putReady) [6, 7] rfl (by decide +kernel)) (goodIn_in (in_z_X11_feed_X9) gd_X9))
theorem g_z_X11_feed_z_X9_putReady_1_102 : GoodIn w_z_X11_feed (wsV RX11 102 RX9 yX9_putReady w_z_X9_putReady_1) := goodIn_app (goodIn_r (([.methodLink RX11 102 yX9_putReady, .instanceMethod yX9_putReady, .selects RX9 yX9_putReady yX9_putReady, .initialized RX9] : List Cond)) [2, 3, 4, 5] rfl (by decide +kernel)) (goodIn_ca (goodIn_r (.code yX9_putReady cX9_putReady 4 none :: l_z_X9_putReady_1) [6, 7] rfl (by decide +kernel)) (goodIn_in (in_z_X11_feed_X9) gd_X9))
theorem g_z_X11_feed_z_X9_putReady_2_102 : GoodIn w_z_X11_feed (wsV RX11 102 RX9 yX9_putReady w_z_X9_putReady_2) := goodIn_app (goodIn_r (([.methodLink RX11 102 yX9_putReady, .instanceMethod yX9_putReady, .selects RX9 yX9_putReady yX9_putReady, .initialized RX9] : List Cond)) [2, 3, 4, 5] rfl (by decide +kernel)) (goodIn_ca (goodIn_r (.code yX9_putReady cX9_putReady 4 none :: l_z_X9_putReady_2) [6, 7] rfl (by decide +kernel)) (goodIn_in (in_z_X11_feed_X9) gd_X9))
theorem g_z_X11_feed_z_X9_putReady_3_102 : GoodIn w_z_X11_feed (wsV RX11 102 RX9 yX9_putReady w_z_X9_putReady_3) := goodIn_app (goodIn_r (([.methodLink RX11 102 yX9_putReady, .instanceMethod yX9_putReady, .selects RX9 yX9_putReady yX9_putReady, .initialized RX9] : List Cond)) [2, 3, 4, 5] rfl (by decide +kernel)) (goodIn_ca (goodIn_r (.code yX9_putReady cX9_putReady 4 none :: l_z_X9_putReady_3) [6, 7] rfl (by decide +kernel)) (goodIn_in (in_z_X11_feed_X9) gd_X9))
theorem g_z_X11_feed_z_X9_putReady_4_102 : GoodIn w_z_X11_feed (wsV RX11 102 RX9 yX9_putReady w_z_X9_putReady_4) := goodIn_app (goodIn_r (([.methodLink RX11 102 yX9_putReady, .instanceMethod yX9_putReady, .selects RX9 yX9_putReady yX9_putReady, .initialized RX9] : List Cond)) [2, 3, 4, 5] rfl (by decide +kernel)) (goodIn_ca (goodIn_r (.code yX9_putReady cX9_putReady 4 none :: l_z_X9_putReady_4) [6, 7] rfl (by decide +kernel)) (goodIn_in (in_z_X11_feed_X9) gd_X9))
set_option maxHeartbeats 4000000 in
set_option maxRecDepth 100000 in
theorem z_X11_feed (l : Launch) (dC : Nat → ClassId) (dI : Nat → Nat → Nat) (sz : Nat) (Ad0 : Nat) (Fs0 : List Value) (Ad1 : Nat) (Fs1 : List Value) (Ad2 : Nat) (Fa0 : Nat → Int32) (Ka0 : ClassId) (Va0 : Int32) (Va1 : Int32) (Va2 : Int32) (Va3 : Int32) (Va4 : Int32) (k_Fs0 : fh Fs0 18 [(0, .ref Ad1)]) (k_Fs1 : fh Fs1 12 [(2, .ref Ad2)])  : Met l yX11_feed w_z_X11_feed ({ frames := 1, cells := 0, slots := 0, locals := 23 }) (va_Pc [.ref Ad0, .int Va0, .int Va1, .int Va2, .int Va3, .int Va4] (fun U => U.heap.size = sz ∧ Wd dC dI [(Ka0, .int)] (fun _ => True) [(Ad0, .inr (14, Fs0)), (Ad1, .inr (12, Fs1)), (Ad2, .inl (Ka0, 20, .inl Fa0))] U)) (va_Qv (fun (u : (Nat → Int32)) => True) (fun (u : (Nat → Int32)) t => Wd dC dI [(Ka0, .int)] (va_A [(Ad0, .inr (14, Fs0)), (Ad1, .inr (12, Fs1)), (Ad2, .inl (Ka0, 20, .inl Fa0))] sz) [(Ad0, .inr (14, Fs0)), (Ad1, .inr (12, Fs1)), (Ad2, .inl (Ka0, 20, .inl ((u))))] t) (va_A [(Ad0, .inr (14, Fs0)), (Ad1, .inr (12, Fs1)), (Ad2, .inl (Ka0, 20, .inl Fa0))] sz))  0 0 (va_A [(Ad0, .inr (14, Fs0)), (Ad1, .inr (12, Fs1)), (Ad2, .inl (Ka0, 20, .inl Fa0))] sz) := by
  refine Met.ofW (cc := cX11_feed) (maxL := 6) (ret := none) (by decide) rfl ?_
  intro p e s m args below meth c s₁ B hml hv
  obtain ⟨rfl, hsz, hP, hK, hD0⟩ := hv
  have hx := B.exec
  have hb := B.bytes
  have hr := B.returns
  have hts := atoms_spec (ws := w_z_X11_feed) B.pre
  have hown : s.vm.findClass RX11 = some m.cls := findClass_of_methodNamed B.named
  have hlocks := B.notSynchronized
  subst hsz
  have hD := hD0.self (sz := s.heap.size)
  generalize hAe : va_A [(Ad0, .inr (14, Fs0)), (Ad1, .inr (12, Fs1)), (Ad2, .inl (Ka0, 20, .inl Fa0))] s.heap.size = A at hD ⊢
  have hA : ∀ q : Nat, s.heap.size ≤ q → A q := fun q h => by rw [← hAe]; exact Or.inr h
  have hS : va_S A s.heap s.heap [] := va_S.rf
  have hl := lv_entry ([.ref Ad0, .int Va0, .int Va1, .int Va2, .int Va3, .int Va4]) (n := 6) (Nat.le_of_ble_eq_true rfl)
  rw [lg_entry_eq]
  generalize (lg_sl ([.ref Ad0, .int Va0, .int Va1, .int Va2, .int Va3, .int Va4]) ++ List.replicate (6 - (lg_sl ([.ref Ad0, .int Va0, .int Va1, .int Va2, .int Va3, .int Va4])).length) Slot.unset).toArray = ls at hl ⊢
  have hl : lv_has ls 6 [(0, .ref Ad0), (1, .int Va0), (2, .int Va1), (3, .int Va2), (4, .int Va3), (5, .int Va4)] := hl
  have o_Fs0 := ow_0 k_Fs0
  have o_Fs1 := ow_0 k_Fs1
  refine lv_aload_n hx hb dX11_feed_0 rfl (lv_at hl 0 rfl) ?_
  refine va_get (D := (dC, dI)) (ci := 14) (v := .ref Ad1) (C := RX11) (T := TX11) (N := 18) hx hb hts (in_z_X11_feed_X11) hown hK hP 0 rfl rfl 0 (by decide) (hts (.fieldLink RX11 12 "HeapWorks" "tape" "LHeapWorks$Tape;") (by decide +kernel)) (fun _ h9 => h9) (ow_at o_Fs0 0 rfl) dX11_feed_1 ?_
  refine lv_iconst (v := 0) hx hb dX11_feed_4 (by decide) ?_
  refine lv_iload_n hx hb dX11_feed_5 rfl (lv_at hl 1 rfl) ?_
  have hPc := hP.sub (ws' := [(Ad1, .inr (12, Fs1)), (Ad2, .inl (Ka0, 20, .inl Fa0))]) [1, 2] rfl
  have hDc := hD.sub (ws' := [(Ad1, .inr (12, Fs1)), (Ad2, .inl (Ka0, 20, .inl Fa0))]) [1, 2] (by decide) rfl
  have hKc := hK.sub (tys' := [(Ka0, .int)]) [0] rfl
  have hFc := va_free (wc := [(Ad1, .inr (12, Fs1)), (Ad2, .inl (Ka0, 20, .inl Fa0))]) hD hS hA [1, 2] rfl
  refine va_callv (va_runV (As := [.int 0, .int Va0]) (rest := []) ⟨hx, hb, hml, hown, hts⟩ (z_X9_putReady l dC dI s.heap.size Ad1 Fs1 Ad2 Fa0 Ka0 Va0 (fh_sub o_Fs1.2 [0] rfl) ) (cwV 2 hts g_z_X11_feed_z_X9_putReady_102 rfl rfl rfl (by decide +kernel) ⟨Nat.le_of_ble_eq_true rfl, Nat.le_of_ble_eq_true rfl⟩) ⟨fun a U g mk q => by obtain ⟨q0, q1, qP, qK, qD⟩ := q; exact ⟨q0, q1, qP, va_K.moved (u := U) (U := U.calling g mk a) (Vm.Alike.refl U.vm) qK, qD⟩, va_recv hK hP (ci := 12) (q0 := 1) rfl rfl, fun U hU hW => ⟨rfl, by rw [hU], by rw [hU]; exact hPc, va_K.moved hW.alike hKc, hDc.weaken (fun _ _ _ _ => trivial)⟩⟩ rfl rfl hl.1 rfl (lv_room (Nat.le_of_ble_eq_true rfl)) dX11_feed_6 ⟨Nat.le_of_ble_eq_true rfl, Nat.le_of_ble_eq_true rfl⟩) hS (fun q _ h => hFc q h) hFc (fun u t H1 locs ht hvm hw hB hz1 hk1 hS => ?_)
  obtain ⟨f101, rfl⟩ : ∃ z, z = u := ⟨_, rfl⟩
  obtain ⟨hP1, hK1, hD1⟩ := hB
  rw [ht] at hP1
  try dsimp only at hw
  obtain ⟨hP, hD⟩ := va_join (wr := [(Ad0, .inr (14, Fs0))]) (w1 := [(Ad1, .inr (12, Fs1)), (Ad2, .inl (Ka0, 20, .inl f101))]) hP hD [1, 2] [0] rfl rfl (by decide) (by decide) hk1 hFc hP1 hD1
  have hK := hK.sub (tys' := [(Ka0, .int)]) [0] rfl
  generalize H1 = H at hP hS ⊢
  have hP : va_P (dC, dI) vwCl [(Ad0, .inr (14, Fs0)), (Ad1, .inr (12, Fs1)), (Ad2, .inl (Ka0, 20, .inl f101))] H := hP
  have hD : va_D A [(Ad0, .inr (14, Fs0)), (Ad1, .inr (12, Fs1)), (Ad2, .inl (Ka0, 20, .inl f101))] := hD
  refine lv_aload_n hx hb dX11_feed_9 rfl (lv_at hl 0 rfl) ?_
  refine va_get (D := (dC, dI)) (ci := 14) (v := .ref Ad1) (C := RX11) (T := TX11) (N := 18) hx hb hts (in_z_X11_feed_X11) hown hK hP 0 rfl rfl 0 (by decide) (hts (.fieldLink RX11 12 "HeapWorks" "tape" "LHeapWorks$Tape;") (by decide +kernel)) (fun _ h9 => h9) (ow_at o_Fs0 0 rfl) dX11_feed_10 ?_
  refine lv_iconst (v := 4) hx hb dX11_feed_13 (by decide) ?_
  refine lv_iload_n hx hb dX11_feed_14 rfl (lv_at hl 2 rfl) ?_
  have hPc := hP.sub (ws' := [(Ad1, .inr (12, Fs1)), (Ad2, .inl (Ka0, 20, .inl f101))]) [1, 2] rfl
  have hDc := hD.sub (ws' := [(Ad1, .inr (12, Fs1)), (Ad2, .inl (Ka0, 20, .inl f101))]) [1, 2] (by decide) rfl
  have hKc := hK.sub (tys' := [(Ka0, .int)]) [0] rfl
  have hFc := va_free (wc := [(Ad1, .inr (12, Fs1)), (Ad2, .inl (Ka0, 20, .inl f101))]) hD hS hA [1, 2] rfl
  refine va_callv (va_runV (As := [.int 4, .int Va1]) (rest := []) ⟨hx, hb, hml, hown, hts⟩ (z_X9_putReady_1 l dC dI H.size Ad1 Fs1 Ad2 f101 Ka0 Va1 (fh_sub o_Fs1.2 [0] rfl) ) (cwV 2 hts g_z_X11_feed_z_X9_putReady_1_102 rfl rfl rfl (by decide +kernel) ⟨Nat.le_of_ble_eq_true rfl, Nat.le_of_ble_eq_true rfl⟩) ⟨fun a U g mk q => by obtain ⟨q0, q1, qP, qK, qD⟩ := q; exact ⟨q0, q1, qP, va_K.moved (u := U) (U := U.calling g mk a) (Vm.Alike.refl U.vm) qK, qD⟩, va_recv hK hP (ci := 12) (q0 := 1) rfl rfl, fun U hU hW => ⟨rfl, by rw [hU], by rw [hU]; exact hPc, va_K.moved hW.alike hKc, hDc.weaken (fun _ _ _ _ => trivial)⟩⟩ rfl rfl hl.1 rfl (lv_room (Nat.le_of_ble_eq_true rfl)) dX11_feed_15 ⟨Nat.le_of_ble_eq_true rfl, Nat.le_of_ble_eq_true rfl⟩) hS (fun q _ h => hFc q h) hFc (fun u t H1 locs ht hvm hw hB hz1 hk1 hS => ?_)
  obtain ⟨f102, rfl⟩ : ∃ z, z = u := ⟨_, rfl⟩
  obtain ⟨hP1, hK1, hD1⟩ := hB
  rw [ht] at hP1
  try dsimp only at hw
  obtain ⟨hP, hD⟩ := va_join (wr := [(Ad0, .inr (14, Fs0))]) (w1 := [(Ad1, .inr (12, Fs1)), (Ad2, .inl (Ka0, 20, .inl f102))]) hP hD [1, 2] [0] rfl rfl (by decide) (by decide) hk1 hFc hP1 hD1
  have hK := hK.sub (tys' := [(Ka0, .int)]) [0] rfl
  generalize H1 = H at hP hS ⊢
  have hP : va_P (dC, dI) vwCl [(Ad0, .inr (14, Fs0)), (Ad1, .inr (12, Fs1)), (Ad2, .inl (Ka0, 20, .inl f102))] H := hP
  have hD : va_D A [(Ad0, .inr (14, Fs0)), (Ad1, .inr (12, Fs1)), (Ad2, .inl (Ka0, 20, .inl f102))] := hD
  refine lv_aload_n hx hb dX11_feed_18 rfl (lv_at hl 0 rfl) ?_
  refine va_get (D := (dC, dI)) (ci := 14) (v := .ref Ad1) (C := RX11) (T := TX11) (N := 18) hx hb hts (in_z_X11_feed_X11) hown hK hP 0 rfl rfl 0 (by decide) (hts (.fieldLink RX11 12 "HeapWorks" "tape" "LHeapWorks$Tape;") (by decide +kernel)) (fun _ h9 => h9) (ow_at o_Fs0 0 rfl) dX11_feed_19 ?_
  refine lv_bipush (v := 8) hx hb dX11_feed_22 (by decide) ?_
  refine lv_iload_n hx hb dX11_feed_24 rfl (lv_at hl 3 rfl) ?_
  have hPc := hP.sub (ws' := [(Ad1, .inr (12, Fs1)), (Ad2, .inl (Ka0, 20, .inl f102))]) [1, 2] rfl
  have hDc := hD.sub (ws' := [(Ad1, .inr (12, Fs1)), (Ad2, .inl (Ka0, 20, .inl f102))]) [1, 2] (by decide) rfl
  have hKc := hK.sub (tys' := [(Ka0, .int)]) [0] rfl
  have hFc := va_free (wc := [(Ad1, .inr (12, Fs1)), (Ad2, .inl (Ka0, 20, .inl f102))]) hD hS hA [1, 2] rfl
  refine va_callv (va_runV (As := [.int 8, .int Va2]) (rest := []) ⟨hx, hb, hml, hown, hts⟩ (z_X9_putReady_2 l dC dI H.size Ad1 Fs1 Ad2 f102 Ka0 Va2 (fh_sub o_Fs1.2 [0] rfl) ) (cwV 2 hts g_z_X11_feed_z_X9_putReady_2_102 rfl rfl rfl (by decide +kernel) ⟨Nat.le_of_ble_eq_true rfl, Nat.le_of_ble_eq_true rfl⟩) ⟨fun a U g mk q => by obtain ⟨q0, q1, qP, qK, qD⟩ := q; exact ⟨q0, q1, qP, va_K.moved (u := U) (U := U.calling g mk a) (Vm.Alike.refl U.vm) qK, qD⟩, va_recv hK hP (ci := 12) (q0 := 1) rfl rfl, fun U hU hW => ⟨rfl, by rw [hU], by rw [hU]; exact hPc, va_K.moved hW.alike hKc, hDc.weaken (fun _ _ _ _ => trivial)⟩⟩ rfl rfl hl.1 rfl (lv_room (Nat.le_of_ble_eq_true rfl)) dX11_feed_25 ⟨Nat.le_of_ble_eq_true rfl, Nat.le_of_ble_eq_true rfl⟩) hS (fun q _ h => hFc q h) hFc (fun u t H1 locs ht hvm hw hB hz1 hk1 hS => ?_)
  obtain ⟨f103, rfl⟩ : ∃ z, z = u := ⟨_, rfl⟩
  obtain ⟨hP1, hK1, hD1⟩ := hB
  rw [ht] at hP1
  try dsimp only at hw
  obtain ⟨hP, hD⟩ := va_join (wr := [(Ad0, .inr (14, Fs0))]) (w1 := [(Ad1, .inr (12, Fs1)), (Ad2, .inl (Ka0, 20, .inl f103))]) hP hD [1, 2] [0] rfl rfl (by decide) (by decide) hk1 hFc hP1 hD1
  have hK := hK.sub (tys' := [(Ka0, .int)]) [0] rfl
  generalize H1 = H at hP hS ⊢
  have hP : va_P (dC, dI) vwCl [(Ad0, .inr (14, Fs0)), (Ad1, .inr (12, Fs1)), (Ad2, .inl (Ka0, 20, .inl f103))] H := hP
  have hD : va_D A [(Ad0, .inr (14, Fs0)), (Ad1, .inr (12, Fs1)), (Ad2, .inl (Ka0, 20, .inl f103))] := hD
  refine lv_aload_n hx hb dX11_feed_28 rfl (lv_at hl 0 rfl) ?_
  refine va_get (D := (dC, dI)) (ci := 14) (v := .ref Ad1) (C := RX11) (T := TX11) (N := 18) hx hb hts (in_z_X11_feed_X11) hown hK hP 0 rfl rfl 0 (by decide) (hts (.fieldLink RX11 12 "HeapWorks" "tape" "LHeapWorks$Tape;") (by decide +kernel)) (fun _ h9 => h9) (ow_at o_Fs0 0 rfl) dX11_feed_29 ?_
  refine lv_bipush (v := 12) hx hb dX11_feed_32 (by decide) ?_
  refine lv_iload hx hb dX11_feed_34 (lv_at hl 4 rfl) ?_
  have hPc := hP.sub (ws' := [(Ad1, .inr (12, Fs1)), (Ad2, .inl (Ka0, 20, .inl f103))]) [1, 2] rfl
  have hDc := hD.sub (ws' := [(Ad1, .inr (12, Fs1)), (Ad2, .inl (Ka0, 20, .inl f103))]) [1, 2] (by decide) rfl
  have hKc := hK.sub (tys' := [(Ka0, .int)]) [0] rfl
  have hFc := va_free (wc := [(Ad1, .inr (12, Fs1)), (Ad2, .inl (Ka0, 20, .inl f103))]) hD hS hA [1, 2] rfl
  refine va_callv (va_runV (As := [.int 12, .int Va3]) (rest := []) ⟨hx, hb, hml, hown, hts⟩ (z_X9_putReady_3 l dC dI H.size Ad1 Fs1 Ad2 f103 Ka0 Va3 (fh_sub o_Fs1.2 [0] rfl) ) (cwV 2 hts g_z_X11_feed_z_X9_putReady_3_102 rfl rfl rfl (by decide +kernel) ⟨Nat.le_of_ble_eq_true rfl, Nat.le_of_ble_eq_true rfl⟩) ⟨fun a U g mk q => by obtain ⟨q0, q1, qP, qK, qD⟩ := q; exact ⟨q0, q1, qP, va_K.moved (u := U) (U := U.calling g mk a) (Vm.Alike.refl U.vm) qK, qD⟩, va_recv hK hP (ci := 12) (q0 := 1) rfl rfl, fun U hU hW => ⟨rfl, by rw [hU], by rw [hU]; exact hPc, va_K.moved hW.alike hKc, hDc.weaken (fun _ _ _ _ => trivial)⟩⟩ rfl rfl hl.1 rfl (lv_room (Nat.le_of_ble_eq_true rfl)) dX11_feed_36 ⟨Nat.le_of_ble_eq_true rfl, Nat.le_of_ble_eq_true rfl⟩) hS (fun q _ h => hFc q h) hFc (fun u t H1 locs ht hvm hw hB hz1 hk1 hS => ?_)
  obtain ⟨f104, rfl⟩ : ∃ z, z = u := ⟨_, rfl⟩
  obtain ⟨hP1, hK1, hD1⟩ := hB
  rw [ht] at hP1
  try dsimp only at hw
  obtain ⟨hP, hD⟩ := va_join (wr := [(Ad0, .inr (14, Fs0))]) (w1 := [(Ad1, .inr (12, Fs1)), (Ad2, .inl (Ka0, 20, .inl f104))]) hP hD [1, 2] [0] rfl rfl (by decide) (by decide) hk1 hFc hP1 hD1
  have hK := hK.sub (tys' := [(Ka0, .int)]) [0] rfl
  generalize H1 = H at hP hS ⊢
  have hP : va_P (dC, dI) vwCl [(Ad0, .inr (14, Fs0)), (Ad1, .inr (12, Fs1)), (Ad2, .inl (Ka0, 20, .inl f104))] H := hP
  have hD : va_D A [(Ad0, .inr (14, Fs0)), (Ad1, .inr (12, Fs1)), (Ad2, .inl (Ka0, 20, .inl f104))] := hD
  refine lv_aload_n hx hb dX11_feed_39 rfl (lv_at hl 0 rfl) ?_
  refine va_get (D := (dC, dI)) (ci := 14) (v := .ref Ad1) (C := RX11) (T := TX11) (N := 18) hx hb hts (in_z_X11_feed_X11) hown hK hP 0 rfl rfl 0 (by decide) (hts (.fieldLink RX11 12 "HeapWorks" "tape" "LHeapWorks$Tape;") (by decide +kernel)) (fun _ h9 => h9) (ow_at o_Fs0 0 rfl) dX11_feed_40 ?_
  refine lv_bipush (v := 16) hx hb dX11_feed_43 (by decide) ?_
  refine lv_iload hx hb dX11_feed_45 (lv_at hl 5 rfl) ?_
  have hPc := hP.sub (ws' := [(Ad1, .inr (12, Fs1)), (Ad2, .inl (Ka0, 20, .inl f104))]) [1, 2] rfl
  have hDc := hD.sub (ws' := [(Ad1, .inr (12, Fs1)), (Ad2, .inl (Ka0, 20, .inl f104))]) [1, 2] (by decide) rfl
  have hKc := hK.sub (tys' := [(Ka0, .int)]) [0] rfl
  have hFc := va_free (wc := [(Ad1, .inr (12, Fs1)), (Ad2, .inl (Ka0, 20, .inl f104))]) hD hS hA [1, 2] rfl
  refine va_callv (va_runV (As := [.int 16, .int Va4]) (rest := []) ⟨hx, hb, hml, hown, hts⟩ (z_X9_putReady_4 l dC dI H.size Ad1 Fs1 Ad2 f104 Ka0 Va4 (fh_sub o_Fs1.2 [0] rfl) ) (cwV 2 hts g_z_X11_feed_z_X9_putReady_4_102 rfl rfl rfl (by decide +kernel) ⟨Nat.le_of_ble_eq_true rfl, Nat.le_of_ble_eq_true rfl⟩) ⟨fun a U g mk q => by obtain ⟨q0, q1, qP, qK, qD⟩ := q; exact ⟨q0, q1, qP, va_K.moved (u := U) (U := U.calling g mk a) (Vm.Alike.refl U.vm) qK, qD⟩, va_recv hK hP (ci := 12) (q0 := 1) rfl rfl, fun U hU hW => ⟨rfl, by rw [hU], by rw [hU]; exact hPc, va_K.moved hW.alike hKc, hDc.weaken (fun _ _ _ _ => trivial)⟩⟩ rfl rfl hl.1 rfl (lv_room (Nat.le_of_ble_eq_true rfl)) dX11_feed_47 ⟨Nat.le_of_ble_eq_true rfl, Nat.le_of_ble_eq_true rfl⟩) hS (fun q _ h => hFc q h) hFc (fun u t H1 locs ht hvm hw hB hz1 hk1 hS => ?_)
  obtain ⟨f105, rfl⟩ : ∃ z, z = u := ⟨_, rfl⟩
  obtain ⟨hP1, hK1, hD1⟩ := hB
  rw [ht] at hP1
  try dsimp only at hw
  obtain ⟨hP, hD⟩ := va_join (wr := [(Ad0, .inr (14, Fs0))]) (w1 := [(Ad1, .inr (12, Fs1)), (Ad2, .inl (Ka0, 20, .inl f105))]) hP hD [1, 2] [0] rfl rfl (by decide) (by decide) hk1 hFc hP1 hD1
  have hK := hK.sub (tys' := [(Ka0, .int)]) [0] rfl
  generalize H1 = H at hP hS ⊢
  have hP : va_P (dC, dI) vwCl [(Ad0, .inr (14, Fs0)), (Ad1, .inr (12, Fs1)), (Ad2, .inl (Ka0, 20, .inl f105))] H := hP
  have hD : va_D A [(Ad0, .inr (14, Fs0)), (Ad1, .inr (12, Fs1)), (Ad2, .inl (Ka0, 20, .inl f105))] := hD
  have hP9 := hP.sub (ws' := [(Ad0, .inr (14, Fs0)), (Ad1, .inr (12, Fs1)), (Ad2, .inl (Ka0, 20, .inl f105))]) [0, 1, 2] rfl
  have hD9 := hD.sub (ws' := [(Ad0, .inr (14, Fs0)), (Ad1, .inr (12, Fs1)), (Ad2, .inl (Ka0, 20, .inl f105))]) [0, 1, 2] (by decide) rfl
  have hK9 := hK.sub (tys' := [(Ka0, .int)]) [0] rfl
  exact W.vret hx hb hr (fun t ht hW => ⟨⟨f105, rfl, trivial, by rw [ht]; exact hP9, va_K.moved hW.alike hK9, hD9⟩, hS.F ht⟩) hS.2.2 dX11_feed_50

def l_z_X9_takeReady : List Cond := [.fieldLink RX9 49 "HeapWorks$Tape" "size" "I", .fieldLink RX9 15 "HeapWorks$Tape" "ready" "[I", .fieldLink RX9 11 "HeapWorks$Tape" "bytes" "[I", .methodLink RX9 53 arraycopyName, .native arraycopyName, .static arraycopyName, .initialized "java/lang/System", .methodLink RX9 59 yJ7_fill_53178, .static yJ7_fill_53178, .initialized RJ7, .code yJ7_fill_53178 cJ7_fill_53178 4 none]
def w_z_X9_takeReady : List Cond := .code yX9_takeReady cX9_takeReady 2 (some .int) :: (l_z_X9_takeReady ++ (wsX90))
theorem in_z_X9_takeReady_X9 : ∀ w ∈ wsX90, w ∈ w_z_X9_takeReady := fun w h => List.mem_cons_of_mem _ (List.mem_append_right _ (h))
theorem g_z_X9_takeReady_z_J7_fill_53178_59 : GoodIn w_z_X9_takeReady (va_wsS RX9 59 yJ7_fill_53178 w_z_J7_fill_53178) := goodIn_app (goodIn_r (([.methodLink RX9 59 yJ7_fill_53178, .static yJ7_fill_53178, .initialized RJ7] : List Cond)) [8, 9, 10] rfl (by decide +kernel)) (goodIn_r (.code yJ7_fill_53178 cJ7_fill_53178 4 none :: l_z_J7_fill_53178) [11] rfl (by decide +kernel))
set_option maxHeartbeats 4000000 in
set_option maxRecDepth 100000 in
theorem z_X9_takeReady (l : Launch) (dC : Nat → ClassId) (dI : Nat → Nat → Nat) (sz : Nat) (Ad0 : Nat) (Fs0 : List Value) (Ad1 : Nat) (Fa0 : Nat → Int32) (Ka0 : ClassId) (Ad2 : Nat) (Fa1 : Nat → Int32) (Ka1 : ClassId) (Va0 : Int32) (k_Fs0 : fh Fs0 12 [(0, .ref Ad1), (1, .int 0), (2, .ref Ad2)])  : Met l yX9_takeReady w_z_X9_takeReady ({ frames := 1, cells := 0, slots := 0, locals := 60 }) (va_Pc [.ref Ad0, .int Va0] (fun U => U.heap.size = sz ∧ Wd dC dI [(Ka0, .int), (Ka1, .int)] (fun _ => True) [(Ad0, .inr (12, Fs0)), (Ad1, .inl (Ka0, 4000, .inl Fa0)), (Ad2, .inl (Ka1, 20, .inl Fa1))] U)) (va_Qi (fun (r : Int32) (u : List Value × (Nat → Int32) × (Nat → Int32)) => (Va0 < 0 ∧ r = (-1) ∧ ow Fs0 (u.1) 12 [] [(0, .ref Ad1), (1, .int 0), (2, .ref Ad2)]) ∨ (¬ Va0 < 0 ∧ 20 < Va0 ∧ r = (-1) ∧ ow Fs0 (u.1) 12 [] [(0, .ref Ad1), (1, .int 0), (2, .ref Ad2)]) ∨ (¬ Va0 < 0 ∧ ¬ 20 < Va0 ∧ Va0 ≤ 4000 ∧ r = Va0 ∧ ow Fs0 (u.1) 12 [1] [(1, .int Va0), (0, .ref Ad1), (2, .ref Ad2)])) (fun (u : List Value × (Nat → Int32) × (Nat → Int32)) t => Wd dC dI [(Ka0, .int), (Ka1, .int)] (va_A [(Ad0, .inr (12, Fs0)), (Ad1, .inl (Ka0, 4000, .inl Fa0)), (Ad2, .inl (Ka1, 20, .inl Fa1))] sz) [(Ad0, .inr (12, (u.1))), (Ad1, .inl (Ka0, 4000, .inl ((u.2.1)))), (Ad2, .inl (Ka1, 20, .inl ((u.2.2))))] t) (va_A [(Ad0, .inr (12, Fs0)), (Ad1, .inl (Ka0, 4000, .inl Fa0)), (Ad2, .inl (Ka1, 20, .inl Fa1))] sz))  0 0 (va_A [(Ad0, .inr (12, Fs0)), (Ad1, .inl (Ka0, 4000, .inl Fa0)), (Ad2, .inl (Ka1, 20, .inl Fa1))] sz) := by
  refine Met.ofW (cc := cX9_takeReady) (maxL := 2) (ret := (some .int)) (by decide) rfl ?_
  intro p e s m args below meth c s₁ B hml hv
  obtain ⟨rfl, hsz, hP, hK, hD0⟩ := hv
  have hx := B.exec
  have hb := B.bytes
  have hr := B.returns
  have hts := atoms_spec (ws := w_z_X9_takeReady) B.pre
  have hown : s.vm.findClass RX9 = some m.cls := findClass_of_methodNamed B.named
  have hlocks := B.notSynchronized
  subst hsz
  have hD := hD0.self (sz := s.heap.size)
  generalize hAe : va_A [(Ad0, .inr (12, Fs0)), (Ad1, .inl (Ka0, 4000, .inl Fa0)), (Ad2, .inl (Ka1, 20, .inl Fa1))] s.heap.size = A at hD ⊢
  have hA : ∀ q : Nat, s.heap.size ≤ q → A q := fun q h => by rw [← hAe]; exact Or.inr h
  have hS : va_S A s.heap s.heap [] := va_S.rf
  have hl := lv_entry ([.ref Ad0, .int Va0]) (n := 2) (Nat.le_of_ble_eq_true rfl)
  rw [lg_entry_eq]
  generalize (lg_sl ([.ref Ad0, .int Va0]) ++ List.replicate (2 - (lg_sl ([.ref Ad0, .int Va0])).length) Slot.unset).toArray = ls at hl ⊢
  have hl : lv_has ls 2 [(0, .ref Ad0), (1, .int Va0)] := hl
  have o_Fs0 := ow_0 k_Fs0
  refine lv_iload_n hx hb dX9_takeReady_0 rfl (lv_at hl 1 rfl) ?_
  refine lv_if_lt (tgt := 22) hx hb dX9_takeReady_1 (by decide) (fun c101 => ?_) (fun c101 => ?_)
  · skip
    refine lv_iconst (v := (-1)) hx hb dX9_takeReady_22 (by decide) ?_
    have hP9 := hP.sub (ws' := [(Ad0, .inr (12, Fs0)), (Ad1, .inl (Ka0, 4000, .inl Fa0)), (Ad2, .inl (Ka1, 20, .inl Fa1))]) [0, 1, 2] rfl
    have hD9 := hD.sub (ws' := [(Ad0, .inr (12, Fs0)), (Ad1, .inl (Ka0, 4000, .inl Fa0)), (Ad2, .inl (Ka1, 20, .inl Fa1))]) [0, 1, 2] (by decide) rfl
    have hK9 := hK.sub (tys' := [(Ka0, .int), (Ka1, .int)]) [0, 1] rfl
    exact W.iret (v := (-1)) hx hb hr (fun t ht hW => ⟨⟨(-1), (Fs0, Fa0, Fa1), rfl, (Or.inl ⟨c101, rfl, o_Fs0⟩), by rw [ht]; exact hP9, va_K.moved hW.alike hK9, hD9⟩, hS.F ht⟩) hS.2.2 dX9_takeReady_23
  · skip
    refine lv_iload_n hx hb dX9_takeReady_4 rfl (lv_at hl 1 rfl) ?_
    refine lv_bipush (v := 20) hx hb dX9_takeReady_5 (by decide) ?_
    refine lv_icmp_gt (tgt := 22) hx hb dX9_takeReady_7 (by decide) (fun c102 => ?_) (fun c102 => ?_)
    · skip
      refine lv_iconst (v := (-1)) hx hb dX9_takeReady_22 (by decide) ?_
      have hP9 := hP.sub (ws' := [(Ad0, .inr (12, Fs0)), (Ad1, .inl (Ka0, 4000, .inl Fa0)), (Ad2, .inl (Ka1, 20, .inl Fa1))]) [0, 1, 2] rfl
      have hD9 := hD.sub (ws' := [(Ad0, .inr (12, Fs0)), (Ad1, .inl (Ka0, 4000, .inl Fa0)), (Ad2, .inl (Ka1, 20, .inl Fa1))]) [0, 1, 2] (by decide) rfl
      have hK9 := hK.sub (tys' := [(Ka0, .int), (Ka1, .int)]) [0, 1] rfl
      exact W.iret (v := (-1)) hx hb hr (fun t ht hW => ⟨⟨(-1), (Fs0, Fa0, Fa1), rfl, (Or.inr (Or.inl ⟨c101, c102, rfl, o_Fs0⟩)), by rw [ht]; exact hP9, va_K.moved hW.alike hK9, hD9⟩, hS.F ht⟩) hS.2.2 dX9_takeReady_23
    · skip
      refine lv_aload_n hx hb dX9_takeReady_10 rfl (lv_at hl 0 rfl) ?_
      refine va_get (D := (dC, dI)) (ci := 12) (v := .int 0) (C := RX9) (T := TX9) (N := 12) hx hb hts (in_z_X9_takeReady_X9) hown hK hP 0 rfl rfl 1 (by decide) (hts (.fieldLink RX9 49 "HeapWorks$Tape" "size" "I") (by decide +kernel)) (fun _ h9 => h9) (ow_at o_Fs0 1 rfl) dX9_takeReady_11 ?_
      refine lv_iload_n hx hb dX9_takeReady_14 rfl (lv_at hl 1 rfl) ?_
      refine lv_iadd hx hb dX9_takeReady_15  ?_
      refine lv_topi (fun x103 ex103 => ?_)
      obtain rfl : Va0 = x103 := (ex103.trans (Int32.zero_add _)).symm
      refine lv_sipush (v := 4000) hx hb dX9_takeReady_16 (by decide) ?_
      refine lv_icmp_le (tgt := 24) hx hb dX9_takeReady_19 (by decide) (fun c104 => ?_) (fun c104 => (by exfalso; have bd_Va0 := i_bd Va0; (try simp only [i_lt, i_le, i_eq, kc_0, kc_20, kc_4000] at c101 c102 c104); omega))
      refine lv_aload_n hx hb dX9_takeReady_24 rfl (lv_at hl 0 rfl) ?_
      refine va_get (D := (dC, dI)) (ci := 12) (v := .ref Ad2) (C := RX9) (T := TX9) (N := 12) hx hb hts (in_z_X9_takeReady_X9) hown hK hP 0 rfl rfl 2 (by decide) (hts (.fieldLink RX9 15 "HeapWorks$Tape" "ready" "[I") (by decide +kernel)) (fun _ h9 => h9) (ow_at o_Fs0 2 rfl) dX9_takeReady_25 ?_
      refine lv_iconst (v := 0) hx hb dX9_takeReady_28 (by decide) ?_
      refine lv_aload_n hx hb dX9_takeReady_29 rfl (lv_at hl 0 rfl) ?_
      refine va_get (D := (dC, dI)) (ci := 12) (v := .ref Ad1) (C := RX9) (T := TX9) (N := 12) hx hb hts (in_z_X9_takeReady_X9) hown hK hP 0 rfl rfl 0 (by decide) (hts (.fieldLink RX9 11 "HeapWorks$Tape" "bytes" "[I") (by decide +kernel)) (fun _ h9 => h9) (ow_at o_Fs0 0 rfl) dX9_takeReady_30 ?_
      refine lv_aload_n hx hb dX9_takeReady_33 rfl (lv_at hl 0 rfl) ?_
      refine va_get (D := (dC, dI)) (ci := 12) (v := .int 0) (C := RX9) (T := TX9) (N := 12) hx hb hts (in_z_X9_takeReady_X9) hown hK hP 0 rfl rfl 1 (by decide) (hts (.fieldLink RX9 49 "HeapWorks$Tape" "size" "I") (by decide +kernel)) (fun _ h9 => h9) (ow_at o_Fs0 1 rfl) dX9_takeReady_34 ?_
      refine lv_iload_n hx hb dX9_takeReady_37 rfl (lv_at hl 1 rfl) ?_
      refine va_copyi (ty := .int) hx hb (hml.trans hl.1.symm) hown (hts (.methodLink RX9 53 arraycopyName) (by decide +kernel)) (hts (.native arraycopyName) (by decide +kernel)) (hts (.static arraycopyName) (by decide +kernel)) (hts (.initialized "java/lang/System") (by decide +kernel)) hK hP hD hS 2 1 1 0 rfl rfl rfl rfl rfl (by decide) (by decide) (by have bd_Va0 := i_bd Va0; (try simp only [i_lt, i_le, i_eq, kc_0, kc_20, kc_4000] at c101 c102 c104 ⊢); omega) (by have := i_cl (x := Va0) (by have bd_Va0 := i_bd Va0; (try simp only [i_lt, i_le, i_eq, kc_0, kc_20, kc_4000] at c101 c102 c104); omega); have : (0 : Int32).toNatClampNeg = 0 := (by decide); have bd_Va0 := i_bd Va0; (try simp only [i_lt, i_le, i_eq, kc_0, kc_20, kc_4000] at c101 c102 c104); omega) (by have := i_cl (x := Va0) (by have bd_Va0 := i_bd Va0; (try simp only [i_lt, i_le, i_eq, kc_0, kc_20, kc_4000] at c101 c102 c104); omega); have : (0 : Int32).toNatClampNeg = 0 := (by decide); have bd_Va0 := i_bd Va0; (try simp only [i_lt, i_le, i_eq, kc_0, kc_20, kc_4000] at c101 c102 c104); omega) (fun _ _ => rfl) (Nat.le_of_ble_eq_true rfl) (Nat.le_of_ble_eq_true rfl) dX9_takeReady_38 (fun H locs hP hD hS => ?_)
      have hP : va_P (dC, dI) vwCl [(Ad0, .inr (12, Fs0)), (Ad1, .inl (Ka0, 4000, .inl (va_cpy Fa1 Fa0 (0 : Int32).toNatClampNeg (0 : Int32).toNatClampNeg (Va0 : Int32).toNatClampNeg))), (Ad2, .inl (Ka1, 20, .inl Fa1))] H := hP
      have hD : va_D A [(Ad0, .inr (12, Fs0)), (Ad1, .inl (Ka0, 4000, .inl (va_cpy Fa1 Fa0 (0 : Int32).toNatClampNeg (0 : Int32).toNatClampNeg (Va0 : Int32).toNatClampNeg))), (Ad2, .inl (Ka1, 20, .inl Fa1))] := hD
      generalize va_cpy Fa1 Fa0 (0 : Int32).toNatClampNeg (0 : Int32).toNatClampNeg (Va0 : Int32).toNatClampNeg = f105 at hP hD
      refine lv_aload_n hx hb dX9_takeReady_41 rfl (lv_at hl 0 rfl) ?_
      refine lv_dup hx hb dX9_takeReady_42 rfl ?_
      refine va_get (D := (dC, dI)) (ci := 12) (v := .int 0) (C := RX9) (T := TX9) (N := 12) hx hb hts (in_z_X9_takeReady_X9) hown hK hP 0 rfl rfl 1 (by decide) (hts (.fieldLink RX9 49 "HeapWorks$Tape" "size" "I") (by decide +kernel)) (fun _ h9 => h9) (ow_at o_Fs0 1 rfl) dX9_takeReady_43 ?_
      refine lv_iload_n hx hb dX9_takeReady_46 rfl (lv_at hl 1 rfl) ?_
      refine lv_iadd hx hb dX9_takeReady_47  ?_
      refine lv_topi (fun x106 ex106 => ?_)
      obtain rfl : Va0 = x106 := (ex106.trans (Int32.zero_add _)).symm
      refine va_put (D := (dC, dI)) (ci := 12) (v := .int Va0) (ty := .int) (C := RX9) (T := TX9) (N := 12) hx hb hts (in_z_X9_takeReady_X9) tyX9 tyX9_ok nmX9 hown hK hP hD hS 0 rfl rfl 1 (by decide) (hts (.fieldLink RX9 49 "HeapWorks$Tape" "size" "I") (by decide +kernel)) (fun _ h9 => h9) rfl (by decide +kernel) rfl rfl (by rw [o_Fs0.2.1]; decide) dX9_takeReady_48 (fun H locs hP hD hS => ?_)
      have hP : va_P (dC, dI) vwCl [(Ad0, .inr (12, (Fs0.set 1 (.int Va0)))), (Ad1, .inl (Ka0, 4000, .inl f105)), (Ad2, .inl (Ka1, 20, .inl Fa1))] H := hP
      have hD : va_D A [(Ad0, .inr (12, (Fs0.set 1 (.int Va0)))), (Ad1, .inl (Ka0, 4000, .inl f105)), (Ad2, .inl (Ka1, 20, .inl Fa1))] := hD
      have o_s107 := ow_set o_Fs0 1 (.int Va0) (by decide) (l' := [(1, .int Va0), (0, .ref Ad1), (2, .ref Ad2)]) (w' := [1]) rfl rfl
      generalize (Fs0.set 1 (.int Va0)) = s107 at hP hD o_s107
      refine lv_aload_n hx hb dX9_takeReady_51 rfl (lv_at hl 0 rfl) ?_
      refine va_get (D := (dC, dI)) (ci := 12) (v := .ref Ad2) (C := RX9) (T := TX9) (N := 12) hx hb hts (in_z_X9_takeReady_X9) hown hK hP 0 rfl rfl 2 (by decide) (hts (.fieldLink RX9 15 "HeapWorks$Tape" "ready" "[I") (by decide +kernel)) (fun _ h9 => h9) (ow_at o_s107 2 rfl) dX9_takeReady_52 ?_
      refine lv_iconst (v := 0) hx hb dX9_takeReady_55 (by decide) ?_
      have hPc := hP.sub (ws' := [(Ad2, .inl (Ka1, 20, .inl Fa1))]) [2] rfl
      have hDc := hD.sub (ws' := [(Ad2, .inl (Ka1, 20, .inl Fa1))]) [2] (by decide) rfl
      have hKc := hK.sub (tys' := [(Ka1, .int)]) [1] rfl
      have hFc := va_free (wc := [(Ad2, .inl (Ka1, 20, .inl Fa1))]) hD hS hA [2] rfl
      refine va_callv (va_runS (As := [.ref Ad2, .int 0]) (rest := []) ⟨hx, hb, hml, hown, hts⟩ (z_J7_fill_53178 l dC dI H.size Ad2 Fa1 Ka1  ) (va_cwS 2 hts g_z_X9_takeReady_z_J7_fill_53178_59 rfl rfl rfl (by decide +kernel) ⟨Nat.le_of_ble_eq_true rfl, Nat.le_of_ble_eq_true rfl⟩) ⟨fun a U g mk q => by obtain ⟨q0, q1, qP, qK, qD⟩ := q; exact ⟨q0, q1, qP, va_K.moved (u := U) (U := U.calling g mk a) (Vm.Alike.refl U.vm) qK, qD⟩, fun U hU hW => ⟨rfl, by rw [hU], by rw [hU]; exact hPc, va_K.moved hW.alike hKc, hDc.weaken (fun _ _ _ _ => trivial)⟩⟩ rfl rfl hl.1 rfl (lv_room (Nat.le_of_ble_eq_true rfl)) dX9_takeReady_56 ⟨Nat.le_of_ble_eq_true rfl, Nat.le_of_ble_eq_true rfl⟩) hS (fun q _ h => hFc q h) hFc (fun u t H1 locs ht hvm hw hB hz1 hk1 hS => ?_)
      obtain ⟨f108, rfl⟩ : ∃ z, z = u := ⟨_, rfl⟩
      obtain ⟨hP1, hK1, hD1⟩ := hB
      rw [ht] at hP1
      try dsimp only at hw
      obtain ⟨hP, hD⟩ := va_join (wr := [(Ad0, .inr (12, s107)), (Ad1, .inl (Ka0, 4000, .inl f105))]) (w1 := [(Ad2, .inl (Ka1, 20, .inl f108))]) hP hD [2] [0, 1] rfl rfl (by decide) (by decide) hk1 hFc hP1 hD1
      have hK := hK.sub (tys' := [(Ka0, .int), (Ka1, .int)]) [0, 1] rfl
      generalize H1 = H at hP hS ⊢
      have hP : va_P (dC, dI) vwCl [(Ad0, .inr (12, s107)), (Ad1, .inl (Ka0, 4000, .inl f105)), (Ad2, .inl (Ka1, 20, .inl f108))] H := hP
      have hD : va_D A [(Ad0, .inr (12, s107)), (Ad1, .inl (Ka0, 4000, .inl f105)), (Ad2, .inl (Ka1, 20, .inl f108))] := hD
      refine lv_aload_n hx hb dX9_takeReady_59 rfl (lv_at hl 0 rfl) ?_
      refine va_get (D := (dC, dI)) (ci := 12) (v := .int Va0) (C := RX9) (T := TX9) (N := 12) hx hb hts (in_z_X9_takeReady_X9) hown hK hP 0 rfl rfl 1 (by decide) (hts (.fieldLink RX9 49 "HeapWorks$Tape" "size" "I") (by decide +kernel)) (fun _ h9 => h9) (ow_at o_s107 0 rfl) dX9_takeReady_60 ?_
      have hP9 := hP.sub (ws' := [(Ad0, .inr (12, s107)), (Ad1, .inl (Ka0, 4000, .inl f105)), (Ad2, .inl (Ka1, 20, .inl f108))]) [0, 1, 2] rfl
      have hD9 := hD.sub (ws' := [(Ad0, .inr (12, s107)), (Ad1, .inl (Ka0, 4000, .inl f105)), (Ad2, .inl (Ka1, 20, .inl f108))]) [0, 1, 2] (by decide) rfl
      have hK9 := hK.sub (tys' := [(Ka0, .int), (Ka1, .int)]) [0, 1] rfl
      exact W.iret (v := Va0) hx hb hr (fun t ht hW => ⟨⟨Va0, (s107, f105, f108), rfl, (Or.inr (Or.inr (⟨c101, c102, c104, rfl, o_s107⟩))), by rw [ht]; exact hP9, va_K.moved hW.alike hK9, hD9⟩, hS.F ht⟩) hS.2.2 dX9_takeReady_63

def l_z_X11_end : List Cond := [.fieldLink RX11 12 "HeapWorks" "tape" "LHeapWorks$Tape;", .methodLink RX11 106 yX9_takeReady, .instanceMethod yX9_takeReady, .selects RX9 yX9_takeReady yX9_takeReady, .initialized RX9, .code yX9_takeReady cX9_takeReady 2 (some .int), .fieldLink RX9 49 "HeapWorks$Tape" "size" "I", .fieldLink RX9 15 "HeapWorks$Tape" "ready" "[I", .fieldLink RX9 11 "HeapWorks$Tape" "bytes" "[I", .methodLink RX9 53 arraycopyName, .native arraycopyName, .static arraycopyName, .initialized "java/lang/System", .methodLink RX9 59 yJ7_fill_53178, .static yJ7_fill_53178, .initialized RJ7, .code yJ7_fill_53178 cJ7_fill_53178 4 none]
def w_z_X11_end : List Cond := .code yX11_end cX11_end 2 (some .int) :: (l_z_X11_end ++ ((wsX110 ++ wsX90)))
theorem in_z_X11_end_X11 : ∀ w ∈ wsX110, w ∈ w_z_X11_end := fun w h => List.mem_cons_of_mem _ (List.mem_append_right _ (List.mem_append_left _ h))
theorem in_z_X11_end_X9 : ∀ w ∈ wsX90, w ∈ w_z_X11_end := fun w h => List.mem_cons_of_mem _ (List.mem_append_right _ (List.mem_append_right _ (h)))
theorem g_z_X11_end_z_X9_takeReady_106 : GoodIn w_z_X11_end (wsV RX11 106 RX9 yX9_takeReady w_z_X9_takeReady) := goodIn_app (goodIn_r (([.methodLink RX11 106 yX9_takeReady, .instanceMethod yX9_takeReady, .selects RX9 yX9_takeReady yX9_takeReady, .initialized RX9] : List Cond)) [2, 3, 4, 5] rfl (by decide +kernel)) (goodIn_ca (goodIn_r (.code yX9_takeReady cX9_takeReady 2 (some .int) :: l_z_X9_takeReady) [6, 7, 8, 9, 10, 11, 12, 13, 14, 15, 16, 17] rfl (by decide +kernel)) (goodIn_in (in_z_X11_end_X9) gd_X9))
set_option maxHeartbeats 4000000 in
set_option maxRecDepth 100000 in
theorem z_X11_end (l : Launch) (dC : Nat → ClassId) (dI : Nat → Nat → Nat) (sz : Nat) (Ad0 : Nat) (Fs0 : List Value) (Ad1 : Nat) (Fs1 : List Value) (Ad2 : Nat) (Fa0 : Nat → Int32) (Ka0 : ClassId) (Ad3 : Nat) (Fa1 : Nat → Int32) (Ka1 : ClassId) (Va0 : Int32) (k_Fs0 : fh Fs0 18 [(0, .ref Ad1)]) (k_Fs1 : fh Fs1 12 [(0, .ref Ad2), (1, .int 0), (2, .ref Ad3)])  : Met l yX11_end w_z_X11_end ({ frames := 2, cells := 0, slots := 0, locals := 81 }) (va_Pc [.ref Ad0, .int Va0] (fun U => U.heap.size = sz ∧ Wd dC dI [(Ka0, .int), (Ka1, .int)] (fun _ => True) [(Ad0, .inr (14, Fs0)), (Ad1, .inr (12, Fs1)), (Ad2, .inl (Ka0, 4000, .inl Fa0)), (Ad3, .inl (Ka1, 20, .inl Fa1))] U)) (va_Qi (fun (r : Int32) (u : List Value × (Nat → Int32) × (Nat → Int32)) => (Va0 < 0 ∧ r = (-1) ∧ ow Fs1 (u.1) 12 [] [(0, .ref Ad2), (1, .int 0), (2, .ref Ad3), (0, .ref Ad2), (1, .int 0), (2, .ref Ad3)]) ∨ (¬ Va0 < 0 ∧ 20 < Va0 ∧ r = (-1) ∧ ow Fs1 (u.1) 12 [] [(0, .ref Ad2), (1, .int 0), (2, .ref Ad3), (0, .ref Ad2), (1, .int 0), (2, .ref Ad3)]) ∨ (¬ Va0 < 0 ∧ ¬ 20 < Va0 ∧ Va0 ≤ 4000 ∧ r = Va0 ∧ ow Fs1 (u.1) 12 [1] [(1, .int Va0), (0, .ref Ad2), (2, .ref Ad3), (0, .ref Ad2), (2, .ref Ad3)])) (fun (u : List Value × (Nat → Int32) × (Nat → Int32)) t => Wd dC dI [(Ka0, .int), (Ka1, .int)] (va_A [(Ad0, .inr (14, Fs0)), (Ad1, .inr (12, Fs1)), (Ad2, .inl (Ka0, 4000, .inl Fa0)), (Ad3, .inl (Ka1, 20, .inl Fa1))] sz) [(Ad0, .inr (14, Fs0)), (Ad1, .inr (12, (u.1))), (Ad2, .inl (Ka0, 4000, .inl ((u.2.1)))), (Ad3, .inl (Ka1, 20, .inl ((u.2.2))))] t) (va_A [(Ad0, .inr (14, Fs0)), (Ad1, .inr (12, Fs1)), (Ad2, .inl (Ka0, 4000, .inl Fa0)), (Ad3, .inl (Ka1, 20, .inl Fa1))] sz))  0 0 (va_A [(Ad0, .inr (14, Fs0)), (Ad1, .inr (12, Fs1)), (Ad2, .inl (Ka0, 4000, .inl Fa0)), (Ad3, .inl (Ka1, 20, .inl Fa1))] sz) := by
  refine Met.ofW (cc := cX11_end) (maxL := 2) (ret := (some .int)) (by decide) rfl ?_
  intro p e s m args below meth c s₁ B hml hv
  obtain ⟨rfl, hsz, hP, hK, hD0⟩ := hv
  have hx := B.exec
  have hb := B.bytes
  have hr := B.returns
  have hts := atoms_spec (ws := w_z_X11_end) B.pre
  have hown : s.vm.findClass RX11 = some m.cls := findClass_of_methodNamed B.named
  have hlocks := B.notSynchronized
  subst hsz
  have hD := hD0.self (sz := s.heap.size)
  generalize hAe : va_A [(Ad0, .inr (14, Fs0)), (Ad1, .inr (12, Fs1)), (Ad2, .inl (Ka0, 4000, .inl Fa0)), (Ad3, .inl (Ka1, 20, .inl Fa1))] s.heap.size = A at hD ⊢
  have hA : ∀ q : Nat, s.heap.size ≤ q → A q := fun q h => by rw [← hAe]; exact Or.inr h
  have hS : va_S A s.heap s.heap [] := va_S.rf
  have hl := lv_entry ([.ref Ad0, .int Va0]) (n := 2) (Nat.le_of_ble_eq_true rfl)
  rw [lg_entry_eq]
  generalize (lg_sl ([.ref Ad0, .int Va0]) ++ List.replicate (2 - (lg_sl ([.ref Ad0, .int Va0])).length) Slot.unset).toArray = ls at hl ⊢
  have hl : lv_has ls 2 [(0, .ref Ad0), (1, .int Va0)] := hl
  have o_Fs0 := ow_0 k_Fs0
  have o_Fs1 := ow_0 k_Fs1
  refine lv_aload_n hx hb dX11_end_0 rfl (lv_at hl 0 rfl) ?_
  refine va_get (D := (dC, dI)) (ci := 14) (v := .ref Ad1) (C := RX11) (T := TX11) (N := 18) hx hb hts (in_z_X11_end_X11) hown hK hP 0 rfl rfl 0 (by decide) (hts (.fieldLink RX11 12 "HeapWorks" "tape" "LHeapWorks$Tape;") (by decide +kernel)) (fun _ h9 => h9) (ow_at o_Fs0 0 rfl) dX11_end_1 ?_
  refine lv_iload_n hx hb dX11_end_4 rfl (lv_at hl 1 rfl) ?_
  have hPc := hP.sub (ws' := [(Ad1, .inr (12, Fs1)), (Ad2, .inl (Ka0, 4000, .inl Fa0)), (Ad3, .inl (Ka1, 20, .inl Fa1))]) [1, 2, 3] rfl
  have hDc := hD.sub (ws' := [(Ad1, .inr (12, Fs1)), (Ad2, .inl (Ka0, 4000, .inl Fa0)), (Ad3, .inl (Ka1, 20, .inl Fa1))]) [1, 2, 3] (by decide) rfl
  have hKc := hK.sub (tys' := [(Ka0, .int), (Ka1, .int)]) [0, 1] rfl
  have hFc := va_free (wc := [(Ad1, .inr (12, Fs1)), (Ad2, .inl (Ka0, 4000, .inl Fa0)), (Ad3, .inl (Ka1, 20, .inl Fa1))]) hD hS hA [1, 2, 3] rfl
  refine va_calli (va_runV (As := [.int Va0]) (rest := []) ⟨hx, hb, hml, hown, hts⟩ (z_X9_takeReady l dC dI s.heap.size Ad1 Fs1 Ad2 Fa0 Ka0 Ad3 Fa1 Ka1 Va0 (fh_sub o_Fs1.2 [0, 1, 2] rfl) ) (cwV 1 hts g_z_X11_end_z_X9_takeReady_106 rfl rfl rfl (by decide +kernel) ⟨Nat.le_of_ble_eq_true rfl, Nat.le_of_ble_eq_true rfl⟩) ⟨fun a U g mk q => by obtain ⟨q0, q1, qP, qK, qD⟩ := q; exact ⟨q0, q1, qP, va_K.moved (u := U) (U := U.calling g mk a) (Vm.Alike.refl U.vm) qK, qD⟩, va_recv hK hP (ci := 12) (q0 := 1) rfl rfl, fun U hU hW => ⟨rfl, by rw [hU], by rw [hU]; exact hPc, va_K.moved hW.alike hKc, hDc.weaken (fun _ _ _ _ => trivial)⟩⟩ rfl rfl hl.1 rfl (lv_room (Nat.le_of_ble_eq_true rfl)) dX11_end_5 ⟨Nat.le_of_ble_eq_true rfl, Nat.le_of_ble_eq_true rfl⟩) hS (fun q _ h => hFc q h) hFc (fun r101 u t H1 locs ht hvm hw hB hz1 hk1 hS => ?_)
  obtain ⟨s102, f103, f104⟩ := u
  obtain ⟨hP1, hK1, hD1⟩ := hB
  rw [ht] at hP1
  try dsimp only at hw
  obtain ⟨hP, hD⟩ := va_join (wr := [(Ad0, .inr (14, Fs0))]) (w1 := [(Ad1, .inr (12, s102)), (Ad2, .inl (Ka0, 4000, .inl f103)), (Ad3, .inl (Ka1, 20, .inl f104))]) hP hD [1, 2, 3] [0] rfl rfl (by decide) (by decide) hk1 hFc hP1 hD1
  have hK := hK.sub (tys' := [(Ka0, .int), (Ka1, .int)]) [0, 1] rfl
  generalize H1 = H at hP hS ⊢
  have hP : va_P (dC, dI) vwCl [(Ad0, .inr (14, Fs0)), (Ad1, .inr (12, s102)), (Ad2, .inl (Ka0, 4000, .inl f103)), (Ad3, .inl (Ka1, 20, .inl f104))] H := hP
  have hD : va_D A [(Ad0, .inr (14, Fs0)), (Ad1, .inr (12, s102)), (Ad2, .inl (Ka0, 4000, .inl f103)), (Ad3, .inl (Ka1, 20, .inl f104))] := hD
  rcases hw with ⟨c105, er106, o_s102⟩ | ⟨c107, c108, er109, o_s102⟩ | ⟨c110, c111, c112, er113, o_s102⟩
  · skip
    subst er106
    have o_s102 := ow_on o_Fs1 o_s102 (l' := [(0, .ref Ad2), (1, .int 0), (2, .ref Ad3), (0, .ref Ad2), (1, .int 0), (2, .ref Ad3)]) (w' := []) rfl rfl
    have hP9 := hP.sub (ws' := [(Ad0, .inr (14, Fs0)), (Ad1, .inr (12, s102)), (Ad2, .inl (Ka0, 4000, .inl f103)), (Ad3, .inl (Ka1, 20, .inl f104))]) [0, 1, 2, 3] rfl
    have hD9 := hD.sub (ws' := [(Ad0, .inr (14, Fs0)), (Ad1, .inr (12, s102)), (Ad2, .inl (Ka0, 4000, .inl f103)), (Ad3, .inl (Ka1, 20, .inl f104))]) [0, 1, 2, 3] (by decide) rfl
    have hK9 := hK.sub (tys' := [(Ka0, .int), (Ka1, .int)]) [0, 1] rfl
    exact W.iret (v := (-1)) hx hb hr (fun t ht hW => ⟨⟨(-1), (s102, f103, f104), rfl, (Or.inl ⟨c105, rfl, o_s102⟩), by rw [ht]; exact hP9, va_K.moved hW.alike hK9, hD9⟩, hS.F ht⟩) hS.2.2 dX11_end_8
  · skip
    subst er109
    have o_s102 := ow_on o_Fs1 o_s102 (l' := [(0, .ref Ad2), (1, .int 0), (2, .ref Ad3), (0, .ref Ad2), (1, .int 0), (2, .ref Ad3)]) (w' := []) rfl rfl
    have hP9 := hP.sub (ws' := [(Ad0, .inr (14, Fs0)), (Ad1, .inr (12, s102)), (Ad2, .inl (Ka0, 4000, .inl f103)), (Ad3, .inl (Ka1, 20, .inl f104))]) [0, 1, 2, 3] rfl
    have hD9 := hD.sub (ws' := [(Ad0, .inr (14, Fs0)), (Ad1, .inr (12, s102)), (Ad2, .inl (Ka0, 4000, .inl f103)), (Ad3, .inl (Ka1, 20, .inl f104))]) [0, 1, 2, 3] (by decide) rfl
    have hK9 := hK.sub (tys' := [(Ka0, .int), (Ka1, .int)]) [0, 1] rfl
    exact W.iret (v := (-1)) hx hb hr (fun t ht hW => ⟨⟨(-1), (s102, f103, f104), rfl, (Or.inr (Or.inl ⟨c107, c108, rfl, o_s102⟩)), by rw [ht]; exact hP9, va_K.moved hW.alike hK9, hD9⟩, hS.F ht⟩) hS.2.2 dX11_end_8
  · skip
    have qer113 := er113.symm
    subst qer113
    have o_s102 := ow_on o_Fs1 o_s102 (l' := [(1, .int Va0), (0, .ref Ad2), (2, .ref Ad3), (0, .ref Ad2), (2, .ref Ad3)]) (w' := [1]) rfl rfl
    have hP9 := hP.sub (ws' := [(Ad0, .inr (14, Fs0)), (Ad1, .inr (12, s102)), (Ad2, .inl (Ka0, 4000, .inl f103)), (Ad3, .inl (Ka1, 20, .inl f104))]) [0, 1, 2, 3] rfl
    have hD9 := hD.sub (ws' := [(Ad0, .inr (14, Fs0)), (Ad1, .inr (12, s102)), (Ad2, .inl (Ka0, 4000, .inl f103)), (Ad3, .inl (Ka1, 20, .inl f104))]) [0, 1, 2, 3] (by decide) rfl
    have hK9 := hK.sub (tys' := [(Ka0, .int), (Ka1, .int)]) [0, 1] rfl
    exact W.iret (v := Va0) hx hb hr (fun t ht hW => ⟨⟨Va0, (s102, f103, f104), rfl, (Or.inr (Or.inr (⟨c110, c111, c112, rfl, o_s102⟩))), by rw [ht]; exact hP9, va_K.moved hW.alike hK9, hD9⟩, hS.F ht⟩) hS.2.2 dX11_end_8

def l_z_X11_wipe : List Cond := [.fieldLink RX11 12 "HeapWorks" "tape" "LHeapWorks$Tape;", .fieldLink RX11 110 "HeapWorks$Tape" "size" "I"]
def w_z_X11_wipe : List Cond := .code yX11_wipe cX11_wipe 1 none :: (l_z_X11_wipe ++ ((wsX110 ++ wsX90)))
theorem in_z_X11_wipe_X11 : ∀ w ∈ wsX110, w ∈ w_z_X11_wipe := fun w h => List.mem_cons_of_mem _ (List.mem_append_right _ (List.mem_append_left _ h))
theorem in_z_X11_wipe_X9 : ∀ w ∈ wsX90, w ∈ w_z_X11_wipe := fun w h => List.mem_cons_of_mem _ (List.mem_append_right _ (List.mem_append_right _ (h)))
set_option maxHeartbeats 4000000 in
set_option maxRecDepth 100000 in
theorem z_X11_wipe (l : Launch) (dC : Nat → ClassId) (dI : Nat → Nat → Nat) (sz : Nat) (Ad0 : Nat) (Fs0 : List Value) (Ad1 : Nat) (Fs1 : List Value) (k_Fs0 : fh Fs0 18 [(0, .ref Ad1)]) (k_Fs1 : fh Fs1 12 [])  : Met l yX11_wipe w_z_X11_wipe ({ frames := 0, cells := 0, slots := 0, locals := 0 }) (va_Pc [.ref Ad0] (fun U => U.heap.size = sz ∧ Wd dC dI [] (fun _ => True) [(Ad0, .inr (14, Fs0)), (Ad1, .inr (12, Fs1))] U)) (va_Qv (fun (u : List Value) => ow Fs1 (u) 12 [1] [(1, .int 0)]) (fun (u : List Value) t => Wd dC dI [] (va_A [(Ad0, .inr (14, Fs0)), (Ad1, .inr (12, Fs1))] sz) [(Ad0, .inr (14, Fs0)), (Ad1, .inr (12, (u)))] t) (va_A [(Ad0, .inr (14, Fs0)), (Ad1, .inr (12, Fs1))] sz))  0 0 (va_A [(Ad0, .inr (14, Fs0)), (Ad1, .inr (12, Fs1))] sz) := by
  refine Met.ofW (cc := cX11_wipe) (maxL := 1) (ret := none) (by decide) rfl ?_
  intro p e s m args below meth c s₁ B hml hv
  obtain ⟨rfl, hsz, hP, hK, hD0⟩ := hv
  have hx := B.exec
  have hb := B.bytes
  have hr := B.returns
  have hts := atoms_spec (ws := w_z_X11_wipe) B.pre
  have hown : s.vm.findClass RX11 = some m.cls := findClass_of_methodNamed B.named
  have hlocks := B.notSynchronized
  subst hsz
  have hD := hD0.self (sz := s.heap.size)
  generalize hAe : va_A [(Ad0, .inr (14, Fs0)), (Ad1, .inr (12, Fs1))] s.heap.size = A at hD ⊢
  have hA : ∀ q : Nat, s.heap.size ≤ q → A q := fun q h => by rw [← hAe]; exact Or.inr h
  have hS : va_S A s.heap s.heap [] := va_S.rf
  have hl := lv_entry ([.ref Ad0]) (n := 1) (Nat.le_of_ble_eq_true rfl)
  rw [lg_entry_eq]
  generalize (lg_sl ([.ref Ad0]) ++ List.replicate (1 - (lg_sl ([.ref Ad0])).length) Slot.unset).toArray = ls at hl ⊢
  have hl : lv_has ls 1 [(0, .ref Ad0)] := hl
  have o_Fs0 := ow_0 k_Fs0
  have o_Fs1 := ow_0 k_Fs1
  refine lv_aload_n hx hb dX11_wipe_0 rfl (lv_at hl 0 rfl) ?_
  refine va_get (D := (dC, dI)) (ci := 14) (v := .ref Ad1) (C := RX11) (T := TX11) (N := 18) hx hb hts (in_z_X11_wipe_X11) hown hK hP 0 rfl rfl 0 (by decide) (hts (.fieldLink RX11 12 "HeapWorks" "tape" "LHeapWorks$Tape;") (by decide +kernel)) (fun _ h9 => h9) (ow_at o_Fs0 0 rfl) dX11_wipe_1 ?_
  refine lv_iconst (v := 0) hx hb dX11_wipe_4 (by decide) ?_
  refine va_put (D := (dC, dI)) (ci := 12) (v := .int 0) (ty := .int) (C := RX9) (T := TX9) (N := 12) hx hb hts (in_z_X11_wipe_X9) tyX9 tyX9_ok nmX9 hown hK hP hD hS 1 rfl rfl 1 (by decide) (hts (.fieldLink RX11 110 "HeapWorks$Tape" "size" "I") (by decide +kernel)) (fun _ h9 => h9) rfl (by decide +kernel) rfl rfl (by rw [o_Fs1.2.1]; decide) dX11_wipe_5 (fun H locs hP hD hS => ?_)
  have hP : va_P (dC, dI) vwCl [(Ad0, .inr (14, Fs0)), (Ad1, .inr (12, (Fs1.set 1 (.int 0))))] H := hP
  have hD : va_D A [(Ad0, .inr (14, Fs0)), (Ad1, .inr (12, (Fs1.set 1 (.int 0))))] := hD
  have o_s101 := ow_set o_Fs1 1 (.int 0) (by decide) (l' := [(1, .int 0)]) (w' := [1]) rfl rfl
  generalize (Fs1.set 1 (.int 0)) = s101 at hP hD o_s101
  have hP9 := hP.sub (ws' := [(Ad0, .inr (14, Fs0)), (Ad1, .inr (12, s101))]) [0, 1] rfl
  have hD9 := hD.sub (ws' := [(Ad0, .inr (14, Fs0)), (Ad1, .inr (12, s101))]) [0, 1] (by decide) rfl
  have hK9 := hK.sub (tys' := []) [] rfl
  exact W.vret hx hb hr (fun t ht hW => ⟨⟨s101, rfl, o_s101, by rw [ht]; exact hP9, va_K.moved hW.alike hK9, hD9⟩, hS.F ht⟩) hS.2.2 dX11_wipe_8

def l_z_X11_flip : List Cond := [.fieldLink RX11 12 "HeapWorks" "tape" "LHeapWorks$Tape;", .fieldLink RX11 110 "HeapWorks$Tape" "size" "I"]
def w_z_X11_flip : List Cond := .code yX11_flip cX11_flip 3 (some .boolean) :: (l_z_X11_flip ++ ((wsX110 ++ wsX90)))
theorem in_z_X11_flip_X11 : ∀ w ∈ wsX110, w ∈ w_z_X11_flip := fun w h => List.mem_cons_of_mem _ (List.mem_append_right _ (List.mem_append_left _ h))
theorem in_z_X11_flip_X9 : ∀ w ∈ wsX90, w ∈ w_z_X11_flip := fun w h => List.mem_cons_of_mem _ (List.mem_append_right _ (List.mem_append_right _ (h)))
set_option maxHeartbeats 4000000 in
set_option maxRecDepth 100000 in
theorem z_X11_flip (l : Launch) (dC : Nat → ClassId) (dI : Nat → Nat → Nat) (sz : Nat) (Ad0 : Nat) (Fs0 : List Value) (Ad1 : Nat) (Fs1 : List Value) (Va0 : Int32) (Va1 : Int32) (k_Fs0 : fh Fs0 18 [(0, .ref Ad1)]) (k_Fs1 : fh Fs1 12 [(1, .int 0)])  : Met l yX11_flip w_z_X11_flip ({ frames := 0, cells := 0, slots := 0, locals := 0 }) (va_Pc [.ref Ad0, .int Va0, .int Va1] (fun U => U.heap.size = sz ∧ Wd dC dI [] (fun _ => True) [(Ad0, .inr (14, Fs0)), (Ad1, .inr (12, Fs1))] U)) (va_Qi (fun (r : Int32) (u : Unit) => (Va0 < 0 ∧ r = 0) ∨ (¬ Va0 < 0 ∧ 0 ≤ Va0 ∧ r = 0)) (fun (u : Unit) t => Wd dC dI [] (va_A [(Ad0, .inr (14, Fs0)), (Ad1, .inr (12, Fs1))] sz) [(Ad0, .inr (14, Fs0)), (Ad1, .inr (12, Fs1))] t) (va_A [(Ad0, .inr (14, Fs0)), (Ad1, .inr (12, Fs1))] sz))  0 0 (va_A [(Ad0, .inr (14, Fs0)), (Ad1, .inr (12, Fs1))] sz) := by
  refine Met.ofW (cc := cX11_flip) (maxL := 3) (ret := (some .boolean)) (by decide) rfl ?_
  intro p e s m args below meth c s₁ B hml hv
  obtain ⟨rfl, hsz, hP, hK, hD0⟩ := hv
  have hx := B.exec
  have hb := B.bytes
  have hr := B.returns
  have hts := atoms_spec (ws := w_z_X11_flip) B.pre
  have hown : s.vm.findClass RX11 = some m.cls := findClass_of_methodNamed B.named
  have hlocks := B.notSynchronized
  subst hsz
  have hD := hD0.self (sz := s.heap.size)
  generalize hAe : va_A [(Ad0, .inr (14, Fs0)), (Ad1, .inr (12, Fs1))] s.heap.size = A at hD ⊢
  have hA : ∀ q : Nat, s.heap.size ≤ q → A q := fun q h => by rw [← hAe]; exact Or.inr h
  have hS : va_S A s.heap s.heap [] := va_S.rf
  have hl := lv_entry ([.ref Ad0, .int Va0, .int Va1]) (n := 3) (Nat.le_of_ble_eq_true rfl)
  rw [lg_entry_eq]
  generalize (lg_sl ([.ref Ad0, .int Va0, .int Va1]) ++ List.replicate (3 - (lg_sl ([.ref Ad0, .int Va0, .int Va1])).length) Slot.unset).toArray = ls at hl ⊢
  have hl : lv_has ls 3 [(0, .ref Ad0), (1, .int Va0), (2, .int Va1)] := hl
  have o_Fs0 := ow_0 k_Fs0
  have o_Fs1 := ow_0 k_Fs1
  refine lv_iload_n hx hb dX11_flip_0 rfl (lv_at hl 1 rfl) ?_
  refine lv_if_lt (tgt := 25) hx hb dX11_flip_1 (by decide) (fun c101 => ?_) (fun c101 => ?_)
  · skip
    refine lv_iconst (v := 0) hx hb dX11_flip_25 (by decide) ?_
    have hP9 := hP.sub (ws' := [(Ad0, .inr (14, Fs0)), (Ad1, .inr (12, Fs1))]) [0, 1] rfl
    have hD9 := hD.sub (ws' := [(Ad0, .inr (14, Fs0)), (Ad1, .inr (12, Fs1))]) [0, 1] (by decide) rfl
    have hK9 := hK.sub (tys' := []) [] rfl
    exact W.zret (v := 0) hx hb hr rfl (fun t ht hW => ⟨⟨0, (), rfl, (Or.inl ⟨c101, rfl⟩), by rw [ht]; exact hP9, va_K.moved hW.alike hK9, hD9⟩, hS.F ht⟩) hS.2.2 dX11_flip_26
  · skip
    refine lv_iload_n hx hb dX11_flip_4 rfl (lv_at hl 1 rfl) ?_
    refine lv_aload_n hx hb dX11_flip_5 rfl (lv_at hl 0 rfl) ?_
    refine va_get (D := (dC, dI)) (ci := 14) (v := .ref Ad1) (C := RX11) (T := TX11) (N := 18) hx hb hts (in_z_X11_flip_X11) hown hK hP 0 rfl rfl 0 (by decide) (hts (.fieldLink RX11 12 "HeapWorks" "tape" "LHeapWorks$Tape;") (by decide +kernel)) (fun _ h9 => h9) (ow_at o_Fs0 0 rfl) dX11_flip_6 ?_
    refine va_get (D := (dC, dI)) (ci := 12) (v := .int 0) (C := RX9) (T := TX9) (N := 12) hx hb hts (in_z_X11_flip_X9) hown hK hP 1 rfl rfl 1 (by decide) (hts (.fieldLink RX11 110 "HeapWorks$Tape" "size" "I") (by decide +kernel)) (fun _ h9 => h9) (ow_at o_Fs1 0 rfl) dX11_flip_9 ?_
    refine lv_icmp_ge (tgt := 25) hx hb dX11_flip_12 (by decide) (fun c102 => ?_) (fun c102 => (by exfalso; have bd_Va0 := i_bd Va0; (try simp only [i_lt, i_le, i_eq, kc_0] at c101 c102); omega))
    refine lv_iconst (v := 0) hx hb dX11_flip_25 (by decide) ?_
    have hP9 := hP.sub (ws' := [(Ad0, .inr (14, Fs0)), (Ad1, .inr (12, Fs1))]) [0, 1] rfl
    have hD9 := hD.sub (ws' := [(Ad0, .inr (14, Fs0)), (Ad1, .inr (12, Fs1))]) [0, 1] (by decide) rfl
    have hK9 := hK.sub (tys' := []) [] rfl
    exact W.zret (v := 0) hx hb hr rfl (fun t ht hW => ⟨⟨0, (), rfl, (Or.inr (⟨c101, c102, rfl⟩)), by rw [ht]; exact hP9, va_K.moved hW.alike hK9, hD9⟩, hS.F ht⟩) hS.2.2 dX11_flip_26

def l_z_X11_cut : List Cond := [.fieldLink RX11 12 "HeapWorks" "tape" "LHeapWorks$Tape;", .fieldLink RX11 110 "HeapWorks$Tape" "size" "I"]
def w_z_X11_cut : List Cond := .code yX11_cut cX11_cut 2 (some .boolean) :: (l_z_X11_cut ++ ((wsX110 ++ wsX90)))
theorem in_z_X11_cut_X11 : ∀ w ∈ wsX110, w ∈ w_z_X11_cut := fun w h => List.mem_cons_of_mem _ (List.mem_append_right _ (List.mem_append_left _ h))
theorem in_z_X11_cut_X9 : ∀ w ∈ wsX90, w ∈ w_z_X11_cut := fun w h => List.mem_cons_of_mem _ (List.mem_append_right _ (List.mem_append_right _ (h)))
set_option maxHeartbeats 4000000 in
set_option maxRecDepth 100000 in
theorem z_X11_cut (l : Launch) (dC : Nat → ClassId) (dI : Nat → Nat → Nat) (sz : Nat) (Ad0 : Nat) (Fs0 : List Value) (Ad1 : Nat) (Fs1 : List Value) (Va0 : Int32) (k_Fs0 : fh Fs0 18 [(0, .ref Ad1)]) (k_Fs1 : fh Fs1 12 [(1, .int 0)])  : Met l yX11_cut w_z_X11_cut ({ frames := 0, cells := 0, slots := 0, locals := 0 }) (va_Pc [.ref Ad0, .int Va0] (fun U => U.heap.size = sz ∧ Wd dC dI [] (fun _ => True) [(Ad0, .inr (14, Fs0)), (Ad1, .inr (12, Fs1))] U)) (va_Qi (fun (r : Int32) (u : List Value) => (Va0 < 0 ∧ r = 0 ∧ ow Fs1 (u) 12 [] [(1, .int 0)]) ∨ (¬ Va0 < 0 ∧ Va0 ≤ 0 ∧ r = 1 ∧ ow Fs1 (u) 12 [1] [(1, .int Va0)]) ∨ (¬ Va0 < 0 ∧ ¬ Va0 ≤ 0 ∧ r = 0 ∧ ow Fs1 (u) 12 [] [(1, .int 0)])) (fun (u : List Value) t => Wd dC dI [] (va_A [(Ad0, .inr (14, Fs0)), (Ad1, .inr (12, Fs1))] sz) [(Ad0, .inr (14, Fs0)), (Ad1, .inr (12, (u)))] t) (va_A [(Ad0, .inr (14, Fs0)), (Ad1, .inr (12, Fs1))] sz))  0 0 (va_A [(Ad0, .inr (14, Fs0)), (Ad1, .inr (12, Fs1))] sz) := by
  refine Met.ofW (cc := cX11_cut) (maxL := 2) (ret := (some .boolean)) (by decide) rfl ?_
  intro p e s m args below meth c s₁ B hml hv
  obtain ⟨rfl, hsz, hP, hK, hD0⟩ := hv
  have hx := B.exec
  have hb := B.bytes
  have hr := B.returns
  have hts := atoms_spec (ws := w_z_X11_cut) B.pre
  have hown : s.vm.findClass RX11 = some m.cls := findClass_of_methodNamed B.named
  have hlocks := B.notSynchronized
  subst hsz
  have hD := hD0.self (sz := s.heap.size)
  generalize hAe : va_A [(Ad0, .inr (14, Fs0)), (Ad1, .inr (12, Fs1))] s.heap.size = A at hD ⊢
  have hA : ∀ q : Nat, s.heap.size ≤ q → A q := fun q h => by rw [← hAe]; exact Or.inr h
  have hS : va_S A s.heap s.heap [] := va_S.rf
  have hl := lv_entry ([.ref Ad0, .int Va0]) (n := 2) (Nat.le_of_ble_eq_true rfl)
  rw [lg_entry_eq]
  generalize (lg_sl ([.ref Ad0, .int Va0]) ++ List.replicate (2 - (lg_sl ([.ref Ad0, .int Va0])).length) Slot.unset).toArray = ls at hl ⊢
  have hl : lv_has ls 2 [(0, .ref Ad0), (1, .int Va0)] := hl
  have o_Fs0 := ow_0 k_Fs0
  have o_Fs1 := ow_0 k_Fs1
  refine lv_iload_n hx hb dX11_cut_0 rfl (lv_at hl 1 rfl) ?_
  refine lv_if_lt (tgt := 15) hx hb dX11_cut_1 (by decide) (fun c101 => ?_) (fun c101 => ?_)
  · skip
    refine lv_iconst (v := 0) hx hb dX11_cut_15 (by decide) ?_
    have hP9 := hP.sub (ws' := [(Ad0, .inr (14, Fs0)), (Ad1, .inr (12, Fs1))]) [0, 1] rfl
    have hD9 := hD.sub (ws' := [(Ad0, .inr (14, Fs0)), (Ad1, .inr (12, Fs1))]) [0, 1] (by decide) rfl
    have hK9 := hK.sub (tys' := []) [] rfl
    exact W.zret (v := 0) hx hb hr rfl (fun t ht hW => ⟨⟨0, Fs1, rfl, (Or.inl ⟨c101, rfl, o_Fs1⟩), by rw [ht]; exact hP9, va_K.moved hW.alike hK9, hD9⟩, hS.F ht⟩) hS.2.2 dX11_cut_16
  · skip
    refine lv_iload_n hx hb dX11_cut_4 rfl (lv_at hl 1 rfl) ?_
    refine lv_aload_n hx hb dX11_cut_5 rfl (lv_at hl 0 rfl) ?_
    refine va_get (D := (dC, dI)) (ci := 14) (v := .ref Ad1) (C := RX11) (T := TX11) (N := 18) hx hb hts (in_z_X11_cut_X11) hown hK hP 0 rfl rfl 0 (by decide) (hts (.fieldLink RX11 12 "HeapWorks" "tape" "LHeapWorks$Tape;") (by decide +kernel)) (fun _ h9 => h9) (ow_at o_Fs0 0 rfl) dX11_cut_6 ?_
    refine va_get (D := (dC, dI)) (ci := 12) (v := .int 0) (C := RX9) (T := TX9) (N := 12) hx hb hts (in_z_X11_cut_X9) hown hK hP 1 rfl rfl 1 (by decide) (hts (.fieldLink RX11 110 "HeapWorks$Tape" "size" "I") (by decide +kernel)) (fun _ h9 => h9) (ow_at o_Fs1 0 rfl) dX11_cut_9 ?_
    refine lv_icmp_le (tgt := 17) hx hb dX11_cut_12 (by decide) (fun c102 => ?_) (fun c102 => ?_)
    · skip
      refine lv_aload_n hx hb dX11_cut_17 rfl (lv_at hl 0 rfl) ?_
      refine va_get (D := (dC, dI)) (ci := 14) (v := .ref Ad1) (C := RX11) (T := TX11) (N := 18) hx hb hts (in_z_X11_cut_X11) hown hK hP 0 rfl rfl 0 (by decide) (hts (.fieldLink RX11 12 "HeapWorks" "tape" "LHeapWorks$Tape;") (by decide +kernel)) (fun _ h9 => h9) (ow_at o_Fs0 0 rfl) dX11_cut_18 ?_
      refine lv_iload_n hx hb dX11_cut_21 rfl (lv_at hl 1 rfl) ?_
      refine va_put (D := (dC, dI)) (ci := 12) (v := .int Va0) (ty := .int) (C := RX9) (T := TX9) (N := 12) hx hb hts (in_z_X11_cut_X9) tyX9 tyX9_ok nmX9 hown hK hP hD hS 1 rfl rfl 1 (by decide) (hts (.fieldLink RX11 110 "HeapWorks$Tape" "size" "I") (by decide +kernel)) (fun _ h9 => h9) rfl (by decide +kernel) rfl rfl (by rw [o_Fs1.2.1]; decide) dX11_cut_22 (fun H locs hP hD hS => ?_)
      have hP : va_P (dC, dI) vwCl [(Ad0, .inr (14, Fs0)), (Ad1, .inr (12, (Fs1.set 1 (.int Va0))))] H := hP
      have hD : va_D A [(Ad0, .inr (14, Fs0)), (Ad1, .inr (12, (Fs1.set 1 (.int Va0))))] := hD
      have o_s103 := ow_set o_Fs1 1 (.int Va0) (by decide) (l' := [(1, .int Va0)]) (w' := [1]) rfl rfl
      generalize (Fs1.set 1 (.int Va0)) = s103 at hP hD o_s103
      refine lv_iconst (v := 1) hx hb dX11_cut_25 (by decide) ?_
      have hP9 := hP.sub (ws' := [(Ad0, .inr (14, Fs0)), (Ad1, .inr (12, s103))]) [0, 1] rfl
      have hD9 := hD.sub (ws' := [(Ad0, .inr (14, Fs0)), (Ad1, .inr (12, s103))]) [0, 1] (by decide) rfl
      have hK9 := hK.sub (tys' := []) [] rfl
      exact W.zret (v := 1) hx hb hr rfl (fun t ht hW => ⟨⟨1, s103, rfl, (Or.inr (Or.inl ⟨c101, c102, rfl, o_s103⟩)), by rw [ht]; exact hP9, va_K.moved hW.alike hK9, hD9⟩, hS.F ht⟩) hS.2.2 dX11_cut_26
    · skip
      refine lv_iconst (v := 0) hx hb dX11_cut_15 (by decide) ?_
      have hP9 := hP.sub (ws' := [(Ad0, .inr (14, Fs0)), (Ad1, .inr (12, Fs1))]) [0, 1] rfl
      have hD9 := hD.sub (ws' := [(Ad0, .inr (14, Fs0)), (Ad1, .inr (12, Fs1))]) [0, 1] (by decide) rfl
      have hK9 := hK.sub (tys' := []) [] rfl
      exact W.zret (v := 0) hx hb hr rfl (fun t ht hW => ⟨⟨0, Fs1, rfl, (Or.inr (Or.inr (⟨c101, c102, rfl, o_Fs1⟩))), by rw [ht]; exact hP9, va_K.moved hW.alike hK9, hD9⟩, hS.F ht⟩) hS.2.2 dX11_cut_16

def l_z_X9_scanWord : List Cond := [.fieldLink RX9 69 "HeapWorks$Tape" "at" "I", .fieldLink RX9 49 "HeapWorks$Tape" "size" "I", .fieldLink RX9 78 "HeapWorks$Tape" "place" "I", .fieldLink RX9 81 "HeapWorks$Tape" "code" "J", .fieldLink RX9 75 "HeapWorks$Tape" "word" "I"]
def w_z_X9_scanWord : List Cond := .code yX9_scanWord cX9_scanWord 1 none :: (l_z_X9_scanWord ++ (wsX90))
theorem in_z_X9_scanWord_X9 : ∀ w ∈ wsX90, w ∈ w_z_X9_scanWord := fun w h => List.mem_cons_of_mem _ (List.mem_append_right _ (h))
set_option maxHeartbeats 4000000 in
set_option maxRecDepth 100000 in
theorem z_X9_scanWord (l : Launch) (dC : Nat → ClassId) (dI : Nat → Nat → Nat) (sz : Nat) (Ad0 : Nat) (Fs0 : List Value) (k_Fs0 : fh Fs0 12 [(4, .int 0), (1, .int 0)])  : Met l yX9_scanWord w_z_X9_scanWord ({ frames := 0, cells := 0, slots := 0, locals := 0 }) (va_Pc [.ref Ad0] (fun U => U.heap.size = sz ∧ Wd dC dI [] (fun _ => True) [(Ad0, .inr (12, Fs0))] U)) (va_Qv (fun (u : List Value) => ow Fs0 (u) 12 [9, 11, 10] [(9, .int 0), (11, .long 0), (10, .int 0), (4, .int 0), (1, .int 0)]) (fun (u : List Value) t => Wd dC dI [] (va_A [(Ad0, .inr (12, Fs0))] sz) [(Ad0, .inr (12, (u)))] t) (va_A [(Ad0, .inr (12, Fs0))] sz))  0 0 (va_A [(Ad0, .inr (12, Fs0))] sz) := by
  refine Met.ofW (cc := cX9_scanWord) (maxL := 1) (ret := none) (by decide) rfl ?_
  intro p e s m args below meth c s₁ B hml hv
  obtain ⟨rfl, hsz, hP, hK, hD0⟩ := hv
  have hx := B.exec
  have hb := B.bytes
  have hr := B.returns
  have hts := atoms_spec (ws := w_z_X9_scanWord) B.pre
  have hown : s.vm.findClass RX9 = some m.cls := findClass_of_methodNamed B.named
  have hlocks := B.notSynchronized
  subst hsz
  have hD := hD0.self (sz := s.heap.size)
  generalize hAe : va_A [(Ad0, .inr (12, Fs0))] s.heap.size = A at hD ⊢
  have hA : ∀ q : Nat, s.heap.size ≤ q → A q := fun q h => by rw [← hAe]; exact Or.inr h
  have hS : va_S A s.heap s.heap [] := va_S.rf
  have hl := lv_entry ([.ref Ad0]) (n := 1) (Nat.le_of_ble_eq_true rfl)
  rw [lg_entry_eq]
  generalize (lg_sl ([.ref Ad0]) ++ List.replicate (1 - (lg_sl ([.ref Ad0])).length) Slot.unset).toArray = ls at hl ⊢
  have hl : lv_has ls 1 [(0, .ref Ad0)] := hl
  have o_Fs0 := ow_0 k_Fs0
  refine lv_aload_n hx hb dX9_scanWord_0 rfl (lv_at hl 0 rfl) ?_
  refine va_get (D := (dC, dI)) (ci := 12) (v := .int 0) (C := RX9) (T := TX9) (N := 12) hx hb hts (in_z_X9_scanWord_X9) hown hK hP 0 rfl rfl 4 (by decide) (hts (.fieldLink RX9 69 "HeapWorks$Tape" "at" "I") (by decide +kernel)) (fun _ h9 => h9) (ow_at o_Fs0 0 rfl) dX9_scanWord_1 ?_
  refine lv_aload_n hx hb dX9_scanWord_4 rfl (lv_at hl 0 rfl) ?_
  refine va_get (D := (dC, dI)) (ci := 12) (v := .int 0) (C := RX9) (T := TX9) (N := 12) hx hb hts (in_z_X9_scanWord_X9) hown hK hP 0 rfl rfl 1 (by decide) (hts (.fieldLink RX9 49 "HeapWorks$Tape" "size" "I") (by decide +kernel)) (fun _ h9 => h9) (ow_at o_Fs0 1 rfl) dX9_scanWord_5 ?_
  refine lv_icmp_ge (tgt := 39) hx hb dX9_scanWord_8 (by decide) (fun c101 => ?_) (fun c101 => absurd c101 (by decide))
  refine lv_aload_n hx hb dX9_scanWord_39 rfl (lv_at hl 0 rfl) ?_
  refine lv_aload_n hx hb dX9_scanWord_40 rfl (lv_at hl 0 rfl) ?_
  refine va_get (D := (dC, dI)) (ci := 12) (v := .int 0) (C := RX9) (T := TX9) (N := 12) hx hb hts (in_z_X9_scanWord_X9) hown hK hP 0 rfl rfl 4 (by decide) (hts (.fieldLink RX9 69 "HeapWorks$Tape" "at" "I") (by decide +kernel)) (fun _ h9 => h9) (ow_at o_Fs0 0 rfl) dX9_scanWord_41 ?_
  refine va_put (D := (dC, dI)) (ci := 12) (v := .int 0) (ty := .int) (C := RX9) (T := TX9) (N := 12) hx hb hts (in_z_X9_scanWord_X9) tyX9 tyX9_ok nmX9 hown hK hP hD hS 0 rfl rfl 10 (by decide) (hts (.fieldLink RX9 78 "HeapWorks$Tape" "place" "I") (by decide +kernel)) (fun _ h9 => h9) rfl (by decide +kernel) rfl rfl (by rw [o_Fs0.2.1]; decide) dX9_scanWord_44 (fun H locs hP hD hS => ?_)
  have hP : va_P (dC, dI) vwCl [(Ad0, .inr (12, (Fs0.set 10 (.int 0))))] H := hP
  have hD : va_D A [(Ad0, .inr (12, (Fs0.set 10 (.int 0))))] := hD
  have o_s102 := ow_set o_Fs0 10 (.int 0) (by decide) (l' := [(10, .int 0), (4, .int 0), (1, .int 0)]) (w' := [10]) rfl rfl
  generalize (Fs0.set 10 (.int 0)) = s102 at hP hD o_s102
  refine lv_aload_n hx hb dX9_scanWord_47 rfl (lv_at hl 0 rfl) ?_
  refine lv_lconst (v := 0) hx hb dX9_scanWord_48 (by decide) ?_
  refine va_put (D := (dC, dI)) (ci := 12) (v := .long 0) (ty := .long) (C := RX9) (T := TX9) (N := 12) hx hb hts (in_z_X9_scanWord_X9) tyX9 tyX9_ok nmX9 hown hK hP hD hS 0 rfl rfl 11 (by decide) (hts (.fieldLink RX9 81 "HeapWorks$Tape" "code" "J") (by decide +kernel)) (fun _ h9 => h9) rfl (by decide +kernel) rfl rfl (by rw [o_s102.2.1]; decide) dX9_scanWord_49 (fun H locs hP hD hS => ?_)
  have hP : va_P (dC, dI) vwCl [(Ad0, .inr (12, (s102.set 11 (.long 0))))] H := hP
  have hD : va_D A [(Ad0, .inr (12, (s102.set 11 (.long 0))))] := hD
  have o_s103 := ow_set o_s102 11 (.long 0) (by decide) (l' := [(11, .long 0), (10, .int 0), (4, .int 0), (1, .int 0)]) (w' := [11, 10]) rfl rfl
  generalize (s102.set 11 (.long 0)) = s103 at hP hD o_s103
  refine lv_aload_n hx hb dX9_scanWord_52 rfl (lv_at hl 0 rfl) ?_
  refine va_get (D := (dC, dI)) (ci := 12) (v := .int 0) (C := RX9) (T := TX9) (N := 12) hx hb hts (in_z_X9_scanWord_X9) hown hK hP 0 rfl rfl 4 (by decide) (hts (.fieldLink RX9 69 "HeapWorks$Tape" "at" "I") (by decide +kernel)) (fun _ h9 => h9) (ow_at o_s103 2 rfl) dX9_scanWord_53 ?_
  refine lv_aload_n hx hb dX9_scanWord_56 rfl (lv_at hl 0 rfl) ?_
  refine va_get (D := (dC, dI)) (ci := 12) (v := .int 0) (C := RX9) (T := TX9) (N := 12) hx hb hts (in_z_X9_scanWord_X9) hown hK hP 0 rfl rfl 1 (by decide) (hts (.fieldLink RX9 49 "HeapWorks$Tape" "size" "I") (by decide +kernel)) (fun _ h9 => h9) (ow_at o_s103 3 rfl) dX9_scanWord_57 ?_
  refine lv_icmp_lt (tgt := 71) hx hb dX9_scanWord_60 (by decide) (fun c104 => absurd c104 (by decide)) (fun c104 => ?_)
  refine lv_aload_n hx hb dX9_scanWord_63 rfl (lv_at hl 0 rfl) ?_
  refine lv_iconst (v := 0) hx hb dX9_scanWord_64 (by decide) ?_
  refine va_put (D := (dC, dI)) (ci := 12) (v := .int 0) (ty := .int) (C := RX9) (T := TX9) (N := 12) hx hb hts (in_z_X9_scanWord_X9) tyX9 tyX9_ok nmX9 hown hK hP hD hS 0 rfl rfl 9 (by decide) (hts (.fieldLink RX9 75 "HeapWorks$Tape" "word" "I") (by decide +kernel)) (fun _ h9 => h9) rfl (by decide +kernel) rfl rfl (by rw [o_s103.2.1]; decide) dX9_scanWord_65 (fun H locs hP hD hS => ?_)
  have hP : va_P (dC, dI) vwCl [(Ad0, .inr (12, (s103.set 9 (.int 0))))] H := hP
  have hD : va_D A [(Ad0, .inr (12, (s103.set 9 (.int 0))))] := hD
  have o_s105 := ow_set o_s103 9 (.int 0) (by decide) (l' := [(9, .int 0), (11, .long 0), (10, .int 0), (4, .int 0), (1, .int 0)]) (w' := [9, 11, 10]) rfl rfl
  generalize (s103.set 9 (.int 0)) = s105 at hP hD o_s105
  refine lv_goto (tgt := 119) hx hb dX9_scanWord_68 (by decide) ?_
  have hP9 := hP.sub (ws' := [(Ad0, .inr (12, s105))]) [0] rfl
  have hD9 := hD.sub (ws' := [(Ad0, .inr (12, s105))]) [0] (by decide) rfl
  have hK9 := hK.sub (tys' := []) [] rfl
  exact W.vret hx hb hr (fun t ht hW => ⟨⟨s105, rfl, o_s105, by rw [ht]; exact hP9, va_K.moved hW.alike hK9, hD9⟩, hS.F ht⟩) hS.2.2 dX9_scanWord_119

def l_z_X9_wholeName : List Cond := [.fieldLink RX9 49 "HeapWorks$Tape" "size" "I", .fieldLink RX9 69 "HeapWorks$Tape" "at" "I", .methodLink RX9 72 yX9_scanWord, .instanceMethod yX9_scanWord, .selects RX9 yX9_scanWord yX9_scanWord, .initialized RX9, .fieldLink RX9 75 "HeapWorks$Tape" "word" "I", .code yX9_scanWord cX9_scanWord 1 none, .fieldLink RX9 78 "HeapWorks$Tape" "place" "I", .fieldLink RX9 81 "HeapWorks$Tape" "code" "J"]
def w_z_X9_wholeName : List Cond := .code yX9_wholeName cX9_wholeName 1 (some .long) :: (l_z_X9_wholeName ++ (wsX90))
theorem in_z_X9_wholeName_X9 : ∀ w ∈ wsX90, w ∈ w_z_X9_wholeName := fun w h => List.mem_cons_of_mem _ (List.mem_append_right _ (h))
theorem g_z_X9_wholeName_z_X9_scanWord_72 : GoodIn w_z_X9_wholeName (wsV RX9 72 RX9 yX9_scanWord w_z_X9_scanWord) := goodIn_app (goodIn_r (([.methodLink RX9 72 yX9_scanWord, .instanceMethod yX9_scanWord, .selects RX9 yX9_scanWord yX9_scanWord, .initialized RX9] : List Cond)) [3, 4, 5, 6] rfl (by decide +kernel)) (goodIn_ca (goodIn_r (.code yX9_scanWord cX9_scanWord 1 none :: l_z_X9_scanWord) [8, 2, 1, 9, 10, 7] rfl (by decide +kernel)) (goodIn_in (in_z_X9_wholeName_X9) gd_X9))
set_option maxHeartbeats 4000000 in
set_option maxRecDepth 100000 in
theorem z_X9_wholeName (l : Launch) (dC : Nat → ClassId) (dI : Nat → Nat → Nat) (sz : Nat) (Ad0 : Nat) (Fs0 : List Value) (k_Fs0 : fh Fs0 12 [(1, .int 0)])  : Met l yX9_wholeName w_z_X9_wholeName ({ frames := 1, cells := 0, slots := 0, locals := 20 }) (va_Pc [.ref Ad0] (fun U => U.heap.size = sz ∧ Wd dC dI [] (fun _ => True) [(Ad0, .inr (12, Fs0))] U)) (va_Ql (fun (r : Int64) (u : List Value) => (r = 0 ∧ ow Fs0 (u) 12 [9, 11, 10, 4] [(9, .int 0), (11, .long 0), (10, .int 0), (4, .int 0), (1, .int 0), (4, .int 0), (1, .int 0)])) (fun (u : List Value) t => Wd dC dI [] (va_A [(Ad0, .inr (12, Fs0))] sz) [(Ad0, .inr (12, (u)))] t) (va_A [(Ad0, .inr (12, Fs0))] sz))  0 0 (va_A [(Ad0, .inr (12, Fs0))] sz) := by
  refine Met.ofW (cc := cX9_wholeName) (maxL := 1) (ret := (some .long)) (by decide) rfl ?_
  intro p e s m args below meth c s₁ B hml hv
  obtain ⟨rfl, hsz, hP, hK, hD0⟩ := hv
  have hx := B.exec
  have hb := B.bytes
  have hr := B.returns
  have hts := atoms_spec (ws := w_z_X9_wholeName) B.pre
  have hown : s.vm.findClass RX9 = some m.cls := findClass_of_methodNamed B.named
  have hlocks := B.notSynchronized
  subst hsz
  have hD := hD0.self (sz := s.heap.size)
  generalize hAe : va_A [(Ad0, .inr (12, Fs0))] s.heap.size = A at hD ⊢
  have hA : ∀ q : Nat, s.heap.size ≤ q → A q := fun q h => by rw [← hAe]; exact Or.inr h
  have hS : va_S A s.heap s.heap [] := va_S.rf
  have hl := lv_entry ([.ref Ad0]) (n := 1) (Nat.le_of_ble_eq_true rfl)
  rw [lg_entry_eq]
  generalize (lg_sl ([.ref Ad0]) ++ List.replicate (1 - (lg_sl ([.ref Ad0])).length) Slot.unset).toArray = ls at hl ⊢
  have hl : lv_has ls 1 [(0, .ref Ad0)] := hl
  have o_Fs0 := ow_0 k_Fs0
  refine lv_aload_n hx hb dX9_wholeName_0 rfl (lv_at hl 0 rfl) ?_
  refine va_get (D := (dC, dI)) (ci := 12) (v := .int 0) (C := RX9) (T := TX9) (N := 12) hx hb hts (in_z_X9_wholeName_X9) hown hK hP 0 rfl rfl 1 (by decide) (hts (.fieldLink RX9 49 "HeapWorks$Tape" "size" "I") (by decide +kernel)) (fun _ h9 => h9) (ow_at o_Fs0 0 rfl) dX9_wholeName_1 ?_
  refine lv_bipush (v := 10) hx hb dX9_wholeName_4 (by decide) ?_
  refine lv_icmp_le (tgt := 11) hx hb dX9_wholeName_6 (by decide) (fun c101 => ?_) (fun c101 => absurd c101 (by decide))
  refine lv_aload_n hx hb dX9_wholeName_11 rfl (lv_at hl 0 rfl) ?_
  refine lv_iconst (v := 0) hx hb dX9_wholeName_12 (by decide) ?_
  refine va_put (D := (dC, dI)) (ci := 12) (v := .int 0) (ty := .int) (C := RX9) (T := TX9) (N := 12) hx hb hts (in_z_X9_wholeName_X9) tyX9 tyX9_ok nmX9 hown hK hP hD hS 0 rfl rfl 4 (by decide) (hts (.fieldLink RX9 69 "HeapWorks$Tape" "at" "I") (by decide +kernel)) (fun _ h9 => h9) rfl (by decide +kernel) rfl rfl (by rw [o_Fs0.2.1]; decide) dX9_wholeName_13 (fun H locs hP hD hS => ?_)
  have hP : va_P (dC, dI) vwCl [(Ad0, .inr (12, (Fs0.set 4 (.int 0))))] H := hP
  have hD : va_D A [(Ad0, .inr (12, (Fs0.set 4 (.int 0))))] := hD
  have o_s102 := ow_set o_Fs0 4 (.int 0) (by decide) (l' := [(4, .int 0), (1, .int 0)]) (w' := [4]) rfl rfl
  generalize (Fs0.set 4 (.int 0)) = s102 at hP hD o_s102
  refine lv_aload_n hx hb dX9_wholeName_16 rfl (lv_at hl 0 rfl) ?_
  have hPc := hP.sub (ws' := [(Ad0, .inr (12, s102))]) [0] rfl
  have hDc := hD.sub (ws' := [(Ad0, .inr (12, s102))]) [0] (by decide) rfl
  have hKc := hK.sub (tys' := []) [] rfl
  have hFc := va_free (wc := [(Ad0, .inr (12, s102))]) hD hS hA [0] rfl
  refine va_callv (va_runV (As := []) (rest := []) ⟨hx, hb, hml, hown, hts⟩ (z_X9_scanWord l dC dI H.size Ad0 s102 (fh_sub o_s102.2 [0, 1] rfl) ) (cwV 0 hts g_z_X9_wholeName_z_X9_scanWord_72 rfl rfl rfl (by decide +kernel) ⟨Nat.le_of_ble_eq_true rfl, Nat.le_of_ble_eq_true rfl⟩) ⟨fun a U g mk q => by obtain ⟨q0, q1, qP, qK, qD⟩ := q; exact ⟨q0, q1, qP, va_K.moved (u := U) (U := U.calling g mk a) (Vm.Alike.refl U.vm) qK, qD⟩, va_recv hK hP (ci := 12) (q0 := 0) rfl rfl, fun U hU hW => ⟨rfl, by rw [hU], by rw [hU]; exact hPc, va_K.moved hW.alike hKc, hDc.weaken (fun _ _ _ _ => trivial)⟩⟩ rfl rfl hl.1 rfl (lv_room (Nat.le_of_ble_eq_true rfl)) dX9_wholeName_17 ⟨Nat.le_of_ble_eq_true rfl, Nat.le_of_ble_eq_true rfl⟩) hS (fun q _ h => hFc q h) hFc (fun u t H1 locs ht hvm hw hB hz1 hk1 hS => ?_)
  obtain ⟨s103, rfl⟩ : ∃ z, z = u := ⟨_, rfl⟩
  obtain ⟨hP1, hK1, hD1⟩ := hB
  rw [ht] at hP1
  try dsimp only at hw
  obtain ⟨hP, hD⟩ := va_join (wr := []) (w1 := [(Ad0, .inr (12, s103))]) hP hD [0] [] rfl rfl (by decide) (by decide) hk1 hFc hP1 hD1
  have hK := hK.sub (tys' := []) [] rfl
  generalize H1 = H at hP hS ⊢
  have hP : va_P (dC, dI) vwCl [(Ad0, .inr (12, s103))] H := hP
  have hD : va_D A [(Ad0, .inr (12, s103))] := hD
  have o_s103 := hw
  have o_s103 := ow_on o_s102 o_s103 (l' := [(9, .int 0), (11, .long 0), (10, .int 0), (4, .int 0), (1, .int 0), (4, .int 0), (1, .int 0)]) (w' := [9, 11, 10, 4]) rfl rfl
  refine lv_aload_n hx hb dX9_wholeName_20 rfl (lv_at hl 0 rfl) ?_
  refine va_get (D := (dC, dI)) (ci := 12) (v := .int 0) (C := RX9) (T := TX9) (N := 12) hx hb hts (in_z_X9_wholeName_X9) hown hK hP 0 rfl rfl 9 (by decide) (hts (.fieldLink RX9 75 "HeapWorks$Tape" "word" "I") (by decide +kernel)) (fun _ h9 => h9) (ow_at o_s103 0 rfl) dX9_wholeName_21 ?_
  refine lv_iconst (v := 2) hx hb dX9_wholeName_24 (by decide) ?_
  refine lv_icmp_ne (tgt := 53) hx hb dX9_wholeName_25 (by decide) (fun c104 => ?_) (fun c104 => absurd c104 (by decide))
  refine lv_lconst (v := 0) hx hb dX9_wholeName_53 (by decide) ?_
  have hP9 := hP.sub (ws' := [(Ad0, .inr (12, s103))]) [0] rfl
  have hD9 := hD.sub (ws' := [(Ad0, .inr (12, s103))]) [0] (by decide) rfl
  have hK9 := hK.sub (tys' := []) [] rfl
  exact W.lret (v := 0) hx hb hr (fun t ht hW => ⟨⟨0, s103, rfl, ⟨rfl, o_s103⟩, by rw [ht]; exact hP9, va_K.moved hW.alike hK9, hD9⟩, hS.F ht⟩) hS.2.2 dX9_wholeName_54

def l_z_X10_isClass : List Cond := [.fieldLink RX10 65 "HeapWorks$Types" "count" "I"]
def w_z_X10_isClass : List Cond := .code yX10_isClass cX10_isClass 2 (some .boolean) :: (l_z_X10_isClass ++ (wsX100))
theorem in_z_X10_isClass_X10 : ∀ w ∈ wsX100, w ∈ w_z_X10_isClass := fun w h => List.mem_cons_of_mem _ (List.mem_append_right _ (h))
set_option maxHeartbeats 4000000 in
set_option maxRecDepth 100000 in
theorem z_X10_isClass (l : Launch) (dC : Nat → ClassId) (dI : Nat → Nat → Nat) (sz : Nat) (Ad0 : Nat) (Fs0 : List Value) (Va0 : Int32) (k_Fs0 : fh Fs0 18 [(0, .int 0)])  : Met l yX10_isClass w_z_X10_isClass ({ frames := 0, cells := 0, slots := 0, locals := 0 }) (va_Pc [.ref Ad0, .int Va0] (fun U => U.heap.size = sz ∧ Wd dC dI [] (fun _ => True) [(Ad0, .inr (13, Fs0))] U)) (va_Qi (fun (r : Int32) (u : Unit) => (Va0 < 0 ∧ r = 0) ∨ (¬ Va0 < 0 ∧ 0 ≤ Va0 ∧ r = 0)) (fun (u : Unit) t => Wd dC dI [] (va_A [(Ad0, .inr (13, Fs0))] sz) [(Ad0, .inr (13, Fs0))] t) (va_A [(Ad0, .inr (13, Fs0))] sz))  0 0 (va_A [(Ad0, .inr (13, Fs0))] sz) := by
  refine Met.ofW (cc := cX10_isClass) (maxL := 2) (ret := (some .boolean)) (by decide) rfl ?_
  intro p e s m args below meth c s₁ B hml hv
  obtain ⟨rfl, hsz, hP, hK, hD0⟩ := hv
  have hx := B.exec
  have hb := B.bytes
  have hr := B.returns
  have hts := atoms_spec (ws := w_z_X10_isClass) B.pre
  have hown : s.vm.findClass RX10 = some m.cls := findClass_of_methodNamed B.named
  have hlocks := B.notSynchronized
  subst hsz
  have hD := hD0.self (sz := s.heap.size)
  generalize hAe : va_A [(Ad0, .inr (13, Fs0))] s.heap.size = A at hD ⊢
  have hA : ∀ q : Nat, s.heap.size ≤ q → A q := fun q h => by rw [← hAe]; exact Or.inr h
  have hS : va_S A s.heap s.heap [] := va_S.rf
  have hl := lv_entry ([.ref Ad0, .int Va0]) (n := 2) (Nat.le_of_ble_eq_true rfl)
  rw [lg_entry_eq]
  generalize (lg_sl ([.ref Ad0, .int Va0]) ++ List.replicate (2 - (lg_sl ([.ref Ad0, .int Va0])).length) Slot.unset).toArray = ls at hl ⊢
  have hl : lv_has ls 2 [(0, .ref Ad0), (1, .int Va0)] := hl
  have o_Fs0 := ow_0 k_Fs0
  refine lv_iload_n hx hb dX10_isClass_0 rfl (lv_at hl 1 rfl) ?_
  refine lv_if_lt (tgt := 16) hx hb dX10_isClass_1 (by decide) (fun c101 => ?_) (fun c101 => ?_)
  · skip
    refine lv_iconst (v := 0) hx hb dX10_isClass_16 (by decide) ?_
    have hP9 := hP.sub (ws' := [(Ad0, .inr (13, Fs0))]) [0] rfl
    have hD9 := hD.sub (ws' := [(Ad0, .inr (13, Fs0))]) [0] (by decide) rfl
    have hK9 := hK.sub (tys' := []) [] rfl
    exact W.zret (v := 0) hx hb hr rfl (fun t ht hW => ⟨⟨0, (), rfl, (Or.inl ⟨c101, rfl⟩), by rw [ht]; exact hP9, va_K.moved hW.alike hK9, hD9⟩, hS.F ht⟩) hS.2.2 dX10_isClass_17
  · skip
    refine lv_iload_n hx hb dX10_isClass_4 rfl (lv_at hl 1 rfl) ?_
    refine lv_aload_n hx hb dX10_isClass_5 rfl (lv_at hl 0 rfl) ?_
    refine va_get (D := (dC, dI)) (ci := 13) (v := .int 0) (C := RX10) (T := TX10) (N := 18) hx hb hts (in_z_X10_isClass_X10) hown hK hP 0 rfl rfl 0 (by decide) (hts (.fieldLink RX10 65 "HeapWorks$Types" "count" "I") (by decide +kernel)) (fun _ h9 => h9) (ow_at o_Fs0 0 rfl) dX10_isClass_6 ?_
    refine lv_icmp_ge (tgt := 16) hx hb dX10_isClass_9 (by decide) (fun c102 => ?_) (fun c102 => (by exfalso; have bd_Va0 := i_bd Va0; (try simp only [i_lt, i_le, i_eq, kc_0] at c101 c102); omega))
    refine lv_iconst (v := 0) hx hb dX10_isClass_16 (by decide) ?_
    have hP9 := hP.sub (ws' := [(Ad0, .inr (13, Fs0))]) [0] rfl
    have hD9 := hD.sub (ws' := [(Ad0, .inr (13, Fs0))]) [0] (by decide) rfl
    have hK9 := hK.sub (tys' := []) [] rfl
    exact W.zret (v := 0) hx hb hr rfl (fun t ht hW => ⟨⟨0, (), rfl, (Or.inr (⟨c101, c102, rfl⟩)), by rw [ht]; exact hP9, va_K.moved hW.alike hK9, hD9⟩, hS.F ht⟩) hS.2.2 dX10_isClass_17

def l_z_X11_type : List Cond := [.classLink RX11 120 "java/lang/IndexOutOfBoundsException", .initialized "java/lang/IndexOutOfBoundsException", .fieldLink RX11 12 "HeapWorks" "tape" "LHeapWorks$Tape;", .methodLink RX11 123 yX9_wholeName, .instanceMethod yX9_wholeName, .selects RX9 yX9_wholeName yX9_wholeName, .initialized RX9, .classLink RX11 127 "java/lang/IllegalArgumentException", .initialized "java/lang/IllegalArgumentException", .fieldLink RX11 19 "HeapWorks" "types" "LHeapWorks$Types;", .methodLink RX11 116 yX10_isClass, .instanceMethod yX10_isClass, .selects RX10 yX10_isClass yX10_isClass, .initialized RX10, .code yX9_wholeName cX9_wholeName 1 (some .long), .fieldLink RX9 49 "HeapWorks$Tape" "size" "I", .fieldLink RX9 69 "HeapWorks$Tape" "at" "I", .methodLink RX9 72 yX9_scanWord, .instanceMethod yX9_scanWord, .selects RX9 yX9_scanWord yX9_scanWord, .fieldLink RX9 75 "HeapWorks$Tape" "word" "I", .code yX9_scanWord cX9_scanWord 1 none, .fieldLink RX9 78 "HeapWorks$Tape" "place" "I", .fieldLink RX9 81 "HeapWorks$Tape" "code" "J", .code yX10_isClass cX10_isClass 2 (some .boolean), .fieldLink RX10 65 "HeapWorks$Types" "count" "I"]
def w_z_X11_type : List Cond := .code yX11_type cX11_type 5 (some .int) :: (l_z_X11_type ++ ((((vx_at0 RX11 122 "java/lang/IndexOutOfBoundsException" ["java/lang/RuntimeException", "java/lang/Exception"]).filter goodWord) ++ (wsX110 ++ (((vx_at0 RX11 129 "java/lang/IllegalArgumentException" ["java/lang/RuntimeException", "java/lang/Exception"]).filter goodWord) ++ (wsX90 ++ wsX100))))))
theorem in_z_X11_type_at0_X11_122 : ∀ w ∈ ((vx_at0 RX11 122 "java/lang/IndexOutOfBoundsException" ["java/lang/RuntimeException", "java/lang/Exception"]).filter goodWord), w ∈ w_z_X11_type := fun w h => List.mem_cons_of_mem _ (List.mem_append_right _ (List.mem_append_left _ h))
theorem in_z_X11_type_X11 : ∀ w ∈ wsX110, w ∈ w_z_X11_type := fun w h => List.mem_cons_of_mem _ (List.mem_append_right _ (List.mem_append_right _ (List.mem_append_left _ h)))
theorem in_z_X11_type_at0_X11_129 : ∀ w ∈ ((vx_at0 RX11 129 "java/lang/IllegalArgumentException" ["java/lang/RuntimeException", "java/lang/Exception"]).filter goodWord), w ∈ w_z_X11_type := fun w h => List.mem_cons_of_mem _ (List.mem_append_right _ (List.mem_append_right _ (List.mem_append_right _ (List.mem_append_left _ h))))
theorem in_z_X11_type_X9 : ∀ w ∈ wsX90, w ∈ w_z_X11_type := fun w h => List.mem_cons_of_mem _ (List.mem_append_right _ (List.mem_append_right _ (List.mem_append_right _ (List.mem_append_right _ (List.mem_append_left _ h)))))
theorem in_z_X11_type_X10 : ∀ w ∈ wsX100, w ∈ w_z_X11_type := fun w h => List.mem_cons_of_mem _ (List.mem_append_right _ (List.mem_append_right _ (List.mem_append_right _ (List.mem_append_right _ (List.mem_append_right _ (h))))))
theorem g_z_X11_type_z_X9_wholeName_123 : GoodIn w_z_X11_type (wsV RX11 123 RX9 yX9_wholeName w_z_X9_wholeName) := goodIn_app (goodIn_r (([.methodLink RX11 123 yX9_wholeName, .instanceMethod yX9_wholeName, .selects RX9 yX9_wholeName yX9_wholeName, .initialized RX9] : List Cond)) [4, 5, 6, 7] rfl (by decide +kernel)) (goodIn_ca (goodIn_r (.code yX9_wholeName cX9_wholeName 1 (some .long) :: l_z_X9_wholeName) [15, 16, 17, 18, 19, 20, 7, 21, 22, 23, 24] rfl (by decide +kernel)) (goodIn_in (in_z_X11_type_X9) gd_X9))
theorem g_z_X11_type_z_X10_isClass_116 : GoodIn w_z_X11_type (wsV RX11 116 RX10 yX10_isClass w_z_X10_isClass) := goodIn_app (goodIn_r (([.methodLink RX11 116 yX10_isClass, .instanceMethod yX10_isClass, .selects RX10 yX10_isClass yX10_isClass, .initialized RX10] : List Cond)) [11, 12, 13, 14] rfl (by decide +kernel)) (goodIn_ca (goodIn_r (.code yX10_isClass cX10_isClass 2 (some .boolean) :: l_z_X10_isClass) [25, 26] rfl (by decide +kernel)) (goodIn_in (in_z_X11_type_X10) gd_X10))
set_option maxHeartbeats 4000000 in
set_option maxRecDepth 100000 in
theorem z_X11_type (l : Launch) (dC : Nat → ClassId) (dI : Nat → Nat → Nat) (sz : Nat) (Ad0 : Nat) (Fs0 : List Value) (Ad1 : Nat) (Fs1 : List Value) (Ad2 : Nat) (Fs2 : List Value) (Va0 : Int32) (Va1 : Int32) (k_Fs0 : fh Fs0 18 [(0, .ref Ad1), (1, .ref Ad2)]) (k_Fs1 : fh Fs1 12 [(1, .int 0)]) (k_Fs2 : fh Fs2 18 [(0, .int 0)]) (hst : l.stackTraces = false)  : vx_Met l yX11_type w_z_X11_type ({ frames := 7, cells := 1, slots := 6, locals := 140 }) (va_Pc [.ref Ad0, .int Va0, .int Va1] (fun U => U.heap.size = sz ∧ Zz (va_A [(Ad0, .inr (14, Fs0)), (Ad1, .inr (12, Fs1)), (Ad2, .inr (13, Fs2))] sz) U ∧ Wd dC dI [] (fun _ => True) [(Ad0, .inr (14, Fs0)), (Ad1, .inr (12, Fs1)), (Ad2, .inr (13, Fs2))] U)) (va_Qi (fun (r : Int32) (u : Unit) => False) (fun (u : Unit) t => Wd dC dI [] (va_A [(Ad0, .inr (14, Fs0)), (Ad1, .inr (12, Fs1)), (Ad2, .inr (13, Fs2))] sz) [(Ad0, .inr (14, Fs0)), (Ad1, .inr (12, Fs1)), (Ad2, .inr (13, Fs2))] t) (va_A [(Ad0, .inr (14, Fs0)), (Ad1, .inr (12, Fs1)), (Ad2, .inr (13, Fs2))] sz)) (vx_X (fun _ : Unit => True) (fun E _ _ => (E = "java/lang/IndexOutOfBoundsException" ∧ Va0 = (-1) ∧ Va1 < 0) ∨ (E = "java/lang/IllegalArgumentException" ∧ Va0 = (-1) ∧ ¬ Va1 < 0 ∧ Va1 < 4) ∨ (E = "java/lang/IndexOutOfBoundsException" ∧ Va0 = (-1) ∧ ¬ Va1 < 0 ∧ ¬ Va1 < 4) ∨ (E = "java/lang/IndexOutOfBoundsException" ∧ ¬ Va0 = (-1) ∧ Va0 < 0) ∨ (E = "java/lang/IndexOutOfBoundsException" ∧ ¬ Va0 = (-1) ∧ ¬ Va0 < 0 ∧ 0 ≤ Va0)) (va_A [(Ad0, .inr (14, Fs0)), (Ad1, .inr (12, Fs1)), (Ad2, .inr (13, Fs2))] sz)) 1 6 (va_A [(Ad0, .inr (14, Fs0)), (Ad1, .inr (12, Fs1)), (Ad2, .inr (13, Fs2))] sz) := by
  refine vx_ofW (cc := cX11_type) (maxL := 5) (ret := (some .int)) (by decide) rfl ?_
  intro p e s m args below meth c s₁ B hml htab hv
  obtain ⟨rfl, hsz, hZ, hP, hK, hD0⟩ := hv
  have hx := B.exec
  have hb := B.bytes
  have hr := B.returns
  have hts := atoms_spec (ws := w_z_X11_type) B.pre
  have hown : s.vm.findClass RX11 = some m.cls := findClass_of_methodNamed B.named
  have hlocks := B.notSynchronized
  subst hsz
  have hD := hD0.self (sz := s.heap.size)
  generalize hAe : va_A [(Ad0, .inr (14, Fs0)), (Ad1, .inr (12, Fs1)), (Ad2, .inr (13, Fs2))] s.heap.size = A at hD hZ ⊢
  have hA : ∀ q : Nat, s.heap.size ≤ q → A q := fun q h => by rw [← hAe]; exact Or.inr h
  have hS : va_S A s.heap s.heap [] := va_S.rf
  have hl := lv_entry ([.ref Ad0, .int Va0, .int Va1]) (n := 5) (Nat.le_of_ble_eq_true rfl)
  rw [lg_entry_eq]
  generalize (lg_sl ([.ref Ad0, .int Va0, .int Va1]) ++ List.replicate (5 - (lg_sl ([.ref Ad0, .int Va0, .int Va1])).length) Slot.unset).toArray = ls at hl ⊢
  have hl : lv_has ls 5 [(0, .ref Ad0), (1, .int Va0), (2, .int Va1)] := hl
  have o_Fs0 := ow_0 k_Fs0
  have o_Fs1 := ow_0 k_Fs1
  have o_Fs2 := ow_0 k_Fs2
  refine lv_iload_n hx hb dX11_type_0 rfl (lv_at hl 1 rfl) ?_
  refine lv_iconst (v := (-1)) hx hb dX11_type_1 (by decide) ?_
  refine lv_icmp_eq (tgt := 16) hx hb dX11_type_2 (by decide) (fun c101 => ?_) (fun c101 => ?_)
  · skip
    refine lv_iload_n hx hb dX11_type_16 rfl (lv_at hl 2 rfl) ?_
    refine lv_if_lt (tgt := 25) hx hb dX11_type_17 (by decide) (fun c102 => ?_) (fun c102 => ?_)
    · skip
      exact vx_throw0 (names := ["java/lang/RuntimeException", "java/lang/Exception"]) hx hb hst hown (by decide +kernel) (by decide +kernel) (hts (.classLink RX11 120 "java/lang/IndexOutOfBoundsException") (by decide +kernel)) (hts (.initialized "java/lang/IndexOutOfBoundsException") (by decide +kernel)) (vx_hat (B := xB "java/lang/IndexOutOfBoundsException") (fun w h => hts w ((in_z_X11_type_at0_X11_122) w h)) (by decide +kernel) (Zz_xB hZ (by decide))) (by decide +kernel) hZ.1 hZ.2.1 hS (hl.1.trans hml.symm) dX11_type_25 dX11_type_28 dX11_type_29 dX11_type_32 (fun x h => (htab x h).elim) (by decide) (Nat.le_of_ble_eq_true rfl) (Nat.le_of_ble_eq_true rfl) (Nat.le_of_ble_eq_true rfl) hlocks (fun t _ h1 h2 => ⟨(), trivial, (Or.inl ⟨rfl, c101, c102⟩), xx_F hS h1 h2⟩) hS.2.2 (by decide) (by decide)
    · skip
      refine lv_iload_n hx hb dX11_type_20 rfl (lv_at hl 2 rfl) ?_
      refine lv_iconst (v := 4) hx hb dX11_type_21 (by decide) ?_
      refine lv_icmp_lt (tgt := 33) hx hb dX11_type_22 (by decide) (fun c103 => ?_) (fun c103 => ?_)
      · skip
        refine lv_aload_n hx hb dX11_type_33 rfl (lv_at hl 0 rfl) ?_
        refine va_get (D := (dC, dI)) (ci := 14) (v := .ref Ad1) (C := RX11) (T := TX11) (N := 18) hx hb hts (in_z_X11_type_X11) hown hK hP 0 rfl rfl 0 (by decide) (hts (.fieldLink RX11 12 "HeapWorks" "tape" "LHeapWorks$Tape;") (by decide +kernel)) (fun _ h9 => h9) (ow_at o_Fs0 0 rfl) dX11_type_34 ?_
        have hPc := hP.sub (ws' := [(Ad1, .inr (12, Fs1))]) [1] rfl
        have hDc := hD.sub (ws' := [(Ad1, .inr (12, Fs1))]) [1] (by decide) rfl
        have hKc := hK.sub (tys' := []) [] rfl
        have hFc := va_free (wc := [(Ad1, .inr (12, Fs1))]) hD hS hA [1] rfl
        refine va_calll (va_runV (As := []) (rest := []) ⟨hx, hb, hml, hown, hts⟩ (z_X9_wholeName l dC dI s.heap.size Ad1 Fs1 (fh_sub o_Fs1.2 [0] rfl) ) (cwV 0 hts g_z_X11_type_z_X9_wholeName_123 rfl rfl rfl (by decide +kernel) ⟨Nat.le_of_ble_eq_true rfl, Nat.le_of_ble_eq_true rfl⟩) ⟨fun a U g mk q => by obtain ⟨q0, q1, qP, qK, qD⟩ := q; exact ⟨q0, q1, qP, va_K.moved (u := U) (U := U.calling g mk a) (Vm.Alike.refl U.vm) qK, qD⟩, va_recv hK hP (ci := 12) (q0 := 1) rfl rfl, fun U hU hW => ⟨rfl, by rw [hU], by rw [hU]; exact hPc, va_K.moved hW.alike hKc, hDc.weaken (fun _ _ _ _ => trivial)⟩⟩ rfl rfl hl.1 rfl (lv_room (Nat.le_of_ble_eq_true rfl)) dX11_type_37 ⟨Nat.le_of_ble_eq_true rfl, Nat.le_of_ble_eq_true rfl⟩) hS (fun q _ h => hFc q h) hFc (fun r104 u t H1 locs ht hvm hw hB hz1 hk1 hS => ?_)
        obtain ⟨s105, rfl⟩ : ∃ z, z = u := ⟨_, rfl⟩
        obtain ⟨hP1, hK1, hD1⟩ := hB
        rw [ht] at hP1
        try dsimp only at hw
        obtain ⟨hP, hD⟩ := va_join (wr := [(Ad0, .inr (14, Fs0)), (Ad2, .inr (13, Fs2))]) (w1 := [(Ad1, .inr (12, s105))]) hP hD [1] [0, 2] rfl rfl (by decide) (by decide) hk1 hFc hP1 hD1
        have hK := hK.sub (tys' := []) [] rfl
        generalize H1 = H at hP hS ⊢
        have hP : va_P (dC, dI) vwCl [(Ad0, .inr (14, Fs0)), (Ad2, .inr (13, Fs2)), (Ad1, .inr (12, s105))] H := hP
        have hD : va_D A [(Ad0, .inr (14, Fs0)), (Ad2, .inr (13, Fs2)), (Ad1, .inr (12, s105))] := hD
        obtain ⟨er106, o_s105⟩ := hw
        subst er106
        have o_s105 := ow_on o_Fs1 o_s105 (l' := [(9, .int 0), (11, .long 0), (10, .int 0), (4, .int 0), (1, .int 0), (4, .int 0), (1, .int 0), (1, .int 0)]) (w' := [9, 11, 10, 4]) rfl rfl
        refine lv_lstore_n (lv' := [(3, .long 0), (0, .ref Ad0), (1, .int Va0), (2, .int Va1)]) hx hb dX11_type_40 rfl hl (by decide) rfl (fun ls hl => ?_)
        refine lv_lload_n hx hb dX11_type_41 rfl (lv_at hl 0 rfl) ?_
        refine lv_lconst (v := 0) hx hb dX11_type_42 (by decide) ?_
        refine W.lcmp hx hb dX11_type_43  ?_
        refine lv_topi (fun x107 ex107 => ?_)
        obtain rfl : x107 = 0 := ex107.trans (by decide)
        refine lv_if_ne (tgt := 55) hx hb dX11_type_44 (by decide) (fun c108 => absurd c108 (by decide)) (fun c108 => ?_)
        exact vx_throw0 (names := ["java/lang/RuntimeException", "java/lang/Exception"]) hx hb hst hown (by decide +kernel) (by decide +kernel) (hts (.classLink RX11 127 "java/lang/IllegalArgumentException") (by decide +kernel)) (hts (.initialized "java/lang/IllegalArgumentException") (by decide +kernel)) (vx_hat (B := xB "java/lang/IllegalArgumentException") (fun w h => hts w ((in_z_X11_type_at0_X11_129) w h)) (by decide +kernel) (Zz_xB hZ (by decide))) (by decide +kernel) hZ.1 hZ.2.1 hS (hl.1.trans hml.symm) dX11_type_47 dX11_type_50 dX11_type_51 dX11_type_54 (fun x h => (htab x h).elim) (by decide) (Nat.le_of_ble_eq_true rfl) (Nat.le_of_ble_eq_true rfl) (Nat.le_of_ble_eq_true rfl) hlocks (fun t _ h1 h2 => ⟨(), trivial, (Or.inr (Or.inl ⟨rfl, c101, c102, c103⟩)), xx_F hS h1 h2⟩) hS.2.2 (by decide) (by decide)
      · skip
        exact vx_throw0 (names := ["java/lang/RuntimeException", "java/lang/Exception"]) hx hb hst hown (by decide +kernel) (by decide +kernel) (hts (.classLink RX11 120 "java/lang/IndexOutOfBoundsException") (by decide +kernel)) (hts (.initialized "java/lang/IndexOutOfBoundsException") (by decide +kernel)) (vx_hat (B := xB "java/lang/IndexOutOfBoundsException") (fun w h => hts w ((in_z_X11_type_at0_X11_122) w h)) (by decide +kernel) (Zz_xB hZ (by decide))) (by decide +kernel) hZ.1 hZ.2.1 hS (hl.1.trans hml.symm) dX11_type_25 dX11_type_28 dX11_type_29 dX11_type_32 (fun x h => (htab x h).elim) (by decide) (Nat.le_of_ble_eq_true rfl) (Nat.le_of_ble_eq_true rfl) (Nat.le_of_ble_eq_true rfl) hlocks (fun t _ h1 h2 => ⟨(), trivial, (Or.inr (Or.inr (Or.inl ⟨rfl, c101, c102, c103⟩))), xx_F hS h1 h2⟩) hS.2.2 (by decide) (by decide)
  · skip
    refine lv_aload_n hx hb dX11_type_5 rfl (lv_at hl 0 rfl) ?_
    refine va_get (D := (dC, dI)) (ci := 14) (v := .ref Ad2) (C := RX11) (T := TX11) (N := 18) hx hb hts (in_z_X11_type_X11) hown hK hP 0 rfl rfl 1 (by decide) (hts (.fieldLink RX11 19 "HeapWorks" "types" "LHeapWorks$Types;") (by decide +kernel)) (fun _ h9 => h9) (ow_at o_Fs0 1 rfl) dX11_type_6 ?_
    refine lv_iload_n hx hb dX11_type_9 rfl (lv_at hl 1 rfl) ?_
    have hPc := hP.sub (ws' := [(Ad2, .inr (13, Fs2))]) [2] rfl
    have hDc := hD.sub (ws' := [(Ad2, .inr (13, Fs2))]) [2] (by decide) rfl
    have hKc := hK.sub (tys' := []) [] rfl
    have hFc := va_free (wc := [(Ad2, .inr (13, Fs2))]) hD hS hA [2] rfl
    refine va_calli (va_runV (As := [.int Va0]) (rest := []) ⟨hx, hb, hml, hown, hts⟩ (z_X10_isClass l dC dI s.heap.size Ad2 Fs2 Va0 (fh_sub o_Fs2.2 [0] rfl) ) (cwV 1 hts g_z_X11_type_z_X10_isClass_116 rfl rfl rfl (by decide +kernel) ⟨Nat.le_of_ble_eq_true rfl, Nat.le_of_ble_eq_true rfl⟩) ⟨fun a U g mk q => by obtain ⟨q0, q1, qP, qK, qD⟩ := q; exact ⟨q0, q1, qP, va_K.moved (u := U) (U := U.calling g mk a) (Vm.Alike.refl U.vm) qK, qD⟩, va_recv hK hP (ci := 13) (q0 := 2) rfl rfl, fun U hU hW => ⟨rfl, by rw [hU], by rw [hU]; exact hPc, va_K.moved hW.alike hKc, hDc.weaken (fun _ _ _ _ => trivial)⟩⟩ rfl rfl hl.1 rfl (lv_room (Nat.le_of_ble_eq_true rfl)) dX11_type_10 ⟨Nat.le_of_ble_eq_true rfl, Nat.le_of_ble_eq_true rfl⟩) hS (fun q _ h => hFc q h) hFc (fun r109 u t H1 locs ht hvm hw hB hz1 hk1 hS => ?_)
    obtain ⟨hP1, hK1, hD1⟩ := hB
    rw [ht] at hP1
    try dsimp only at hw
    obtain ⟨hP, hD⟩ := va_join (wr := [(Ad0, .inr (14, Fs0)), (Ad1, .inr (12, Fs1))]) (w1 := [(Ad2, .inr (13, Fs2))]) hP hD [2] [0, 1] rfl rfl (by decide) (by decide) hk1 hFc hP1 hD1
    have hK := hK.sub (tys' := []) [] rfl
    generalize H1 = H at hP hS ⊢
    have hP : va_P (dC, dI) vwCl [(Ad0, .inr (14, Fs0)), (Ad1, .inr (12, Fs1)), (Ad2, .inr (13, Fs2))] H := hP
    have hD : va_D A [(Ad0, .inr (14, Fs0)), (Ad1, .inr (12, Fs1)), (Ad2, .inr (13, Fs2))] := hD
    rcases hw with ⟨c110, er111⟩ | ⟨c112, c113, er114⟩
    · skip
      subst er111
      refine lv_if_eq (tgt := 25) hx hb dX11_type_13 (by decide) (fun c115 => ?_) (fun c115 => absurd c115 (by decide))
      exact vx_throw0 (names := ["java/lang/RuntimeException", "java/lang/Exception"]) hx hb hst hown (by decide +kernel) (by decide +kernel) (hts (.classLink RX11 120 "java/lang/IndexOutOfBoundsException") (by decide +kernel)) (hts (.initialized "java/lang/IndexOutOfBoundsException") (by decide +kernel)) (vx_hat (B := xB "java/lang/IndexOutOfBoundsException") (fun w h => hts w ((in_z_X11_type_at0_X11_122) w h)) (by decide +kernel) (Zz_xB hZ (by decide))) (by decide +kernel) hZ.1 hZ.2.1 hS (hl.1.trans hml.symm) dX11_type_25 dX11_type_28 dX11_type_29 dX11_type_32 (fun x h => (htab x h).elim) (by decide) (Nat.le_of_ble_eq_true rfl) (Nat.le_of_ble_eq_true rfl) (Nat.le_of_ble_eq_true rfl) hlocks (fun t _ h1 h2 => ⟨(), trivial, (Or.inr (Or.inr (Or.inr (Or.inl ⟨rfl, c101, c110⟩)))), xx_F hS h1 h2⟩) hS.2.2 (by decide) (by decide)
    · skip
      subst er114
      refine lv_if_eq (tgt := 25) hx hb dX11_type_13 (by decide) (fun c116 => ?_) (fun c116 => absurd c116 (by decide))
      exact vx_throw0 (names := ["java/lang/RuntimeException", "java/lang/Exception"]) hx hb hst hown (by decide +kernel) (by decide +kernel) (hts (.classLink RX11 120 "java/lang/IndexOutOfBoundsException") (by decide +kernel)) (hts (.initialized "java/lang/IndexOutOfBoundsException") (by decide +kernel)) (vx_hat (B := xB "java/lang/IndexOutOfBoundsException") (fun w h => hts w ((in_z_X11_type_at0_X11_122) w h)) (by decide +kernel) (Zz_xB hZ (by decide))) (by decide +kernel) hZ.1 hZ.2.1 hS (hl.1.trans hml.symm) dX11_type_25 dX11_type_28 dX11_type_29 dX11_type_32 (fun x h => (htab x h).elim) (by decide) (Nat.le_of_ble_eq_true rfl) (Nat.le_of_ble_eq_true rfl) (Nat.le_of_ble_eq_true rfl) hlocks (fun t _ h1 h2 => ⟨(), trivial, (Or.inr (Or.inr (Or.inr (Or.inr (⟨rfl, c101, c112, c113⟩))))), xx_F hS h1 h2⟩) hS.2.2 (by decide) (by decide)

def l_z_X11_field : List Cond := [.fieldLink RX11 19 "HeapWorks" "types" "LHeapWorks$Types;", .methodLink RX11 116 yX10_isClass, .instanceMethod yX10_isClass, .selects RX10 yX10_isClass yX10_isClass, .initialized RX10, .classLink RX11 120 "java/lang/IndexOutOfBoundsException", .initialized "java/lang/IndexOutOfBoundsException", .code yX10_isClass cX10_isClass 2 (some .boolean), .fieldLink RX10 65 "HeapWorks$Types" "count" "I"]
def w_z_X11_field : List Cond := .code yX11_field cX11_field 8 (some .int) :: (l_z_X11_field ++ ((wsX110 ++ (((vx_at0 RX11 122 "java/lang/IndexOutOfBoundsException" ["java/lang/RuntimeException", "java/lang/Exception"]).filter goodWord) ++ wsX100))))
theorem in_z_X11_field_X11 : ∀ w ∈ wsX110, w ∈ w_z_X11_field := fun w h => List.mem_cons_of_mem _ (List.mem_append_right _ (List.mem_append_left _ h))
theorem in_z_X11_field_at0_X11_122 : ∀ w ∈ ((vx_at0 RX11 122 "java/lang/IndexOutOfBoundsException" ["java/lang/RuntimeException", "java/lang/Exception"]).filter goodWord), w ∈ w_z_X11_field := fun w h => List.mem_cons_of_mem _ (List.mem_append_right _ (List.mem_append_right _ (List.mem_append_left _ h)))
theorem in_z_X11_field_X10 : ∀ w ∈ wsX100, w ∈ w_z_X11_field := fun w h => List.mem_cons_of_mem _ (List.mem_append_right _ (List.mem_append_right _ (List.mem_append_right _ (h))))
theorem g_z_X11_field_z_X10_isClass_116 : GoodIn w_z_X11_field (wsV RX11 116 RX10 yX10_isClass w_z_X10_isClass) := goodIn_app (goodIn_r (([.methodLink RX11 116 yX10_isClass, .instanceMethod yX10_isClass, .selects RX10 yX10_isClass yX10_isClass, .initialized RX10] : List Cond)) [2, 3, 4, 5] rfl (by decide +kernel)) (goodIn_ca (goodIn_r (.code yX10_isClass cX10_isClass 2 (some .boolean) :: l_z_X10_isClass) [8, 9] rfl (by decide +kernel)) (goodIn_in (in_z_X11_field_X10) gd_X10))
set_option maxHeartbeats 4000000 in
set_option maxRecDepth 100000 in
theorem z_X11_field (l : Launch) (dC : Nat → ClassId) (dI : Nat → Nat → Nat) (sz : Nat) (Ad0 : Nat) (Fs0 : List Value) (Ad1 : Nat) (Fs1 : List Value) (Va0 : Int32) (Va1 : Int32) (Va2 : Int32) (k_Fs0 : fh Fs0 18 [(1, .ref Ad1)]) (k_Fs1 : fh Fs1 18 [(0, .int 0)]) (hst : l.stackTraces = false)  : vx_Met l yX11_field w_z_X11_field ({ frames := 7, cells := 1, slots := 6, locals := 140 }) (va_Pc [.ref Ad0, .int Va0, .int Va1, .int Va2, .int 0] (fun U => U.heap.size = sz ∧ Zz (va_A [(Ad0, .inr (14, Fs0)), (Ad1, .inr (13, Fs1))] sz) U ∧ Wd dC dI [] (fun _ => True) [(Ad0, .inr (14, Fs0)), (Ad1, .inr (13, Fs1))] U)) (va_Qi (fun (r : Int32) (u : Unit) => False) (fun (u : Unit) t => Wd dC dI [] (va_A [(Ad0, .inr (14, Fs0)), (Ad1, .inr (13, Fs1))] sz) [(Ad0, .inr (14, Fs0)), (Ad1, .inr (13, Fs1))] t) (va_A [(Ad0, .inr (14, Fs0)), (Ad1, .inr (13, Fs1))] sz)) (vx_X (fun _ : Unit => True) (fun E _ _ => (E = "java/lang/IndexOutOfBoundsException" ∧ Va0 < 0) ∨ (E = "java/lang/IndexOutOfBoundsException" ∧ ¬ Va0 < 0 ∧ 0 ≤ Va0)) (va_A [(Ad0, .inr (14, Fs0)), (Ad1, .inr (13, Fs1))] sz)) 1 6 (va_A [(Ad0, .inr (14, Fs0)), (Ad1, .inr (13, Fs1))] sz) := by
  refine vx_ofW (cc := cX11_field) (maxL := 8) (ret := (some .int)) (by decide) rfl ?_
  intro p e s m args below meth c s₁ B hml htab hv
  obtain ⟨rfl, hsz, hZ, hP, hK, hD0⟩ := hv
  have hx := B.exec
  have hb := B.bytes
  have hr := B.returns
  have hts := atoms_spec (ws := w_z_X11_field) B.pre
  have hown : s.vm.findClass RX11 = some m.cls := findClass_of_methodNamed B.named
  have hlocks := B.notSynchronized
  subst hsz
  have hD := hD0.self (sz := s.heap.size)
  generalize hAe : va_A [(Ad0, .inr (14, Fs0)), (Ad1, .inr (13, Fs1))] s.heap.size = A at hD hZ ⊢
  have hA : ∀ q : Nat, s.heap.size ≤ q → A q := fun q h => by rw [← hAe]; exact Or.inr h
  have hS : va_S A s.heap s.heap [] := va_S.rf
  have hl := lv_entry ([.ref Ad0, .int Va0, .int Va1, .int Va2, .int 0]) (n := 8) (Nat.le_of_ble_eq_true rfl)
  rw [lg_entry_eq]
  generalize (lg_sl ([.ref Ad0, .int Va0, .int Va1, .int Va2, .int 0]) ++ List.replicate (8 - (lg_sl ([.ref Ad0, .int Va0, .int Va1, .int Va2, .int 0])).length) Slot.unset).toArray = ls at hl ⊢
  have hl : lv_has ls 8 [(0, .ref Ad0), (1, .int Va0), (2, .int Va1), (3, .int Va2), (4, .int 0)] := hl
  have o_Fs0 := ow_0 k_Fs0
  have o_Fs1 := ow_0 k_Fs1
  refine lv_aload_n hx hb dX11_field_0 rfl (lv_at hl 0 rfl) ?_
  refine va_get (D := (dC, dI)) (ci := 14) (v := .ref Ad1) (C := RX11) (T := TX11) (N := 18) hx hb hts (in_z_X11_field_X11) hown hK hP 0 rfl rfl 1 (by decide) (hts (.fieldLink RX11 19 "HeapWorks" "types" "LHeapWorks$Types;") (by decide +kernel)) (fun _ h9 => h9) (ow_at o_Fs0 0 rfl) dX11_field_1 ?_
  refine lv_iload_n hx hb dX11_field_4 rfl (lv_at hl 1 rfl) ?_
  have hPc := hP.sub (ws' := [(Ad1, .inr (13, Fs1))]) [1] rfl
  have hDc := hD.sub (ws' := [(Ad1, .inr (13, Fs1))]) [1] (by decide) rfl
  have hKc := hK.sub (tys' := []) [] rfl
  have hFc := va_free (wc := [(Ad1, .inr (13, Fs1))]) hD hS hA [1] rfl
  refine va_calli (va_runV (As := [.int Va0]) (rest := []) ⟨hx, hb, hml, hown, hts⟩ (z_X10_isClass l dC dI s.heap.size Ad1 Fs1 Va0 (fh_sub o_Fs1.2 [0] rfl) ) (cwV 1 hts g_z_X11_field_z_X10_isClass_116 rfl rfl rfl (by decide +kernel) ⟨Nat.le_of_ble_eq_true rfl, Nat.le_of_ble_eq_true rfl⟩) ⟨fun a U g mk q => by obtain ⟨q0, q1, qP, qK, qD⟩ := q; exact ⟨q0, q1, qP, va_K.moved (u := U) (U := U.calling g mk a) (Vm.Alike.refl U.vm) qK, qD⟩, va_recv hK hP (ci := 13) (q0 := 1) rfl rfl, fun U hU hW => ⟨rfl, by rw [hU], by rw [hU]; exact hPc, va_K.moved hW.alike hKc, hDc.weaken (fun _ _ _ _ => trivial)⟩⟩ rfl rfl hl.1 rfl (lv_room (Nat.le_of_ble_eq_true rfl)) dX11_field_5 ⟨Nat.le_of_ble_eq_true rfl, Nat.le_of_ble_eq_true rfl⟩) hS (fun q _ h => hFc q h) hFc (fun r101 u t H1 locs ht hvm hw hB hz1 hk1 hS => ?_)
  obtain ⟨hP1, hK1, hD1⟩ := hB
  rw [ht] at hP1
  try dsimp only at hw
  obtain ⟨hP, hD⟩ := va_join (wr := [(Ad0, .inr (14, Fs0))]) (w1 := [(Ad1, .inr (13, Fs1))]) hP hD [1] [0] rfl rfl (by decide) (by decide) hk1 hFc hP1 hD1
  have hK := hK.sub (tys' := []) [] rfl
  generalize H1 = H at hP hS ⊢
  have hP : va_P (dC, dI) vwCl [(Ad0, .inr (14, Fs0)), (Ad1, .inr (13, Fs1))] H := hP
  have hD : va_D A [(Ad0, .inr (14, Fs0)), (Ad1, .inr (13, Fs1))] := hD
  rcases hw with ⟨c102, er103⟩ | ⟨c104, c105, er106⟩
  · skip
    subst er103
    refine lv_if_ne (tgt := 19) hx hb dX11_field_8 (by decide) (fun c107 => absurd c107 (by decide)) (fun c107 => ?_)
    exact vx_throw0 (names := ["java/lang/RuntimeException", "java/lang/Exception"]) hx hb hst hown (by decide +kernel) (by decide +kernel) (hts (.classLink RX11 120 "java/lang/IndexOutOfBoundsException") (by decide +kernel)) (hts (.initialized "java/lang/IndexOutOfBoundsException") (by decide +kernel)) (vx_hat (B := xB "java/lang/IndexOutOfBoundsException") (fun w h => hts w ((in_z_X11_field_at0_X11_122) w h)) (by decide +kernel) (Zz_xB hZ (by decide))) (by decide +kernel) hZ.1 hZ.2.1 hS (hl.1.trans hml.symm) dX11_field_11 dX11_field_14 dX11_field_15 dX11_field_18 (fun x h => (htab x h).elim) (by decide) (Nat.le_of_ble_eq_true rfl) (Nat.le_of_ble_eq_true rfl) (Nat.le_of_ble_eq_true rfl) hlocks (fun t _ h1 h2 => ⟨(), trivial, (Or.inl ⟨rfl, c102⟩), xx_F hS h1 h2⟩) hS.2.2 (by decide) (by decide)
  · skip
    subst er106
    refine lv_if_ne (tgt := 19) hx hb dX11_field_8 (by decide) (fun c108 => absurd c108 (by decide)) (fun c108 => ?_)
    exact vx_throw0 (names := ["java/lang/RuntimeException", "java/lang/Exception"]) hx hb hst hown (by decide +kernel) (by decide +kernel) (hts (.classLink RX11 120 "java/lang/IndexOutOfBoundsException") (by decide +kernel)) (hts (.initialized "java/lang/IndexOutOfBoundsException") (by decide +kernel)) (vx_hat (B := xB "java/lang/IndexOutOfBoundsException") (fun w h => hts w ((in_z_X11_field_at0_X11_122) w h)) (by decide +kernel) (Zz_xB hZ (by decide))) (by decide +kernel) hZ.1 hZ.2.1 hS (hl.1.trans hml.symm) dX11_field_11 dX11_field_14 dX11_field_15 dX11_field_18 (fun x h => (htab x h).elim) (by decide) (Nat.le_of_ble_eq_true rfl) (Nat.le_of_ble_eq_true rfl) (Nat.le_of_ble_eq_true rfl) hlocks (fun t _ h1 h2 => ⟨(), trivial, (Or.inr (⟨rfl, c104, c105⟩)), xx_F hS h1 h2⟩) hS.2.2 (by decide) (by decide)

def l_z_X11_field_1 : List Cond := [.fieldLink RX11 19 "HeapWorks" "types" "LHeapWorks$Types;", .methodLink RX11 116 yX10_isClass, .instanceMethod yX10_isClass, .selects RX10 yX10_isClass yX10_isClass, .initialized RX10, .classLink RX11 120 "java/lang/IndexOutOfBoundsException", .initialized "java/lang/IndexOutOfBoundsException", .code yX10_isClass cX10_isClass 2 (some .boolean), .fieldLink RX10 65 "HeapWorks$Types" "count" "I"]
def w_z_X11_field_1 : List Cond := .code yX11_field cX11_field 8 (some .int) :: (l_z_X11_field_1 ++ ((wsX110 ++ (((vx_at0 RX11 122 "java/lang/IndexOutOfBoundsException" ["java/lang/RuntimeException", "java/lang/Exception"]).filter goodWord) ++ wsX100))))
theorem in_z_X11_field_1_X11 : ∀ w ∈ wsX110, w ∈ w_z_X11_field_1 := fun w h => List.mem_cons_of_mem _ (List.mem_append_right _ (List.mem_append_left _ h))
theorem in_z_X11_field_1_at0_X11_122 : ∀ w ∈ ((vx_at0 RX11 122 "java/lang/IndexOutOfBoundsException" ["java/lang/RuntimeException", "java/lang/Exception"]).filter goodWord), w ∈ w_z_X11_field_1 := fun w h => List.mem_cons_of_mem _ (List.mem_append_right _ (List.mem_append_right _ (List.mem_append_left _ h)))
theorem in_z_X11_field_1_X10 : ∀ w ∈ wsX100, w ∈ w_z_X11_field_1 := fun w h => List.mem_cons_of_mem _ (List.mem_append_right _ (List.mem_append_right _ (List.mem_append_right _ (h))))
theorem g_z_X11_field_1_z_X10_isClass_116 : GoodIn w_z_X11_field_1 (wsV RX11 116 RX10 yX10_isClass w_z_X10_isClass) := goodIn_app (goodIn_r (([.methodLink RX11 116 yX10_isClass, .instanceMethod yX10_isClass, .selects RX10 yX10_isClass yX10_isClass, .initialized RX10] : List Cond)) [2, 3, 4, 5] rfl (by decide +kernel)) (goodIn_ca (goodIn_r (.code yX10_isClass cX10_isClass 2 (some .boolean) :: l_z_X10_isClass) [8, 9] rfl (by decide +kernel)) (goodIn_in (in_z_X11_field_1_X10) gd_X10))
set_option maxHeartbeats 4000000 in
set_option maxRecDepth 100000 in
theorem z_X11_field_1 (l : Launch) (dC : Nat → ClassId) (dI : Nat → Nat → Nat) (sz : Nat) (Ad0 : Nat) (Fs0 : List Value) (Ad1 : Nat) (Fs1 : List Value) (Va0 : Int32) (Va1 : Int32) (Va2 : Int32) (k_Fs0 : fh Fs0 18 [(1, .ref Ad1)]) (k_Fs1 : fh Fs1 18 [(0, .int 0)]) (hst : l.stackTraces = false)  : vx_Met l yX11_field w_z_X11_field_1 ({ frames := 7, cells := 1, slots := 6, locals := 140 }) (va_Pc [.ref Ad0, .int Va0, .int Va1, .int Va2, .int 1] (fun U => U.heap.size = sz ∧ Zz (va_A [(Ad0, .inr (14, Fs0)), (Ad1, .inr (13, Fs1))] sz) U ∧ Wd dC dI [] (fun _ => True) [(Ad0, .inr (14, Fs0)), (Ad1, .inr (13, Fs1))] U)) (va_Qi (fun (r : Int32) (u : Unit) => False) (fun (u : Unit) t => Wd dC dI [] (va_A [(Ad0, .inr (14, Fs0)), (Ad1, .inr (13, Fs1))] sz) [(Ad0, .inr (14, Fs0)), (Ad1, .inr (13, Fs1))] t) (va_A [(Ad0, .inr (14, Fs0)), (Ad1, .inr (13, Fs1))] sz)) (vx_X (fun _ : Unit => True) (fun E _ _ => (E = "java/lang/IndexOutOfBoundsException" ∧ Va0 < 0) ∨ (E = "java/lang/IndexOutOfBoundsException" ∧ ¬ Va0 < 0 ∧ 0 ≤ Va0)) (va_A [(Ad0, .inr (14, Fs0)), (Ad1, .inr (13, Fs1))] sz)) 1 6 (va_A [(Ad0, .inr (14, Fs0)), (Ad1, .inr (13, Fs1))] sz) := by
  refine vx_ofW (cc := cX11_field) (maxL := 8) (ret := (some .int)) (by decide) rfl ?_
  intro p e s m args below meth c s₁ B hml htab hv
  obtain ⟨rfl, hsz, hZ, hP, hK, hD0⟩ := hv
  have hx := B.exec
  have hb := B.bytes
  have hr := B.returns
  have hts := atoms_spec (ws := w_z_X11_field_1) B.pre
  have hown : s.vm.findClass RX11 = some m.cls := findClass_of_methodNamed B.named
  have hlocks := B.notSynchronized
  subst hsz
  have hD := hD0.self (sz := s.heap.size)
  generalize hAe : va_A [(Ad0, .inr (14, Fs0)), (Ad1, .inr (13, Fs1))] s.heap.size = A at hD hZ ⊢
  have hA : ∀ q : Nat, s.heap.size ≤ q → A q := fun q h => by rw [← hAe]; exact Or.inr h
  have hS : va_S A s.heap s.heap [] := va_S.rf
  have hl := lv_entry ([.ref Ad0, .int Va0, .int Va1, .int Va2, .int 1]) (n := 8) (Nat.le_of_ble_eq_true rfl)
  rw [lg_entry_eq]
  generalize (lg_sl ([.ref Ad0, .int Va0, .int Va1, .int Va2, .int 1]) ++ List.replicate (8 - (lg_sl ([.ref Ad0, .int Va0, .int Va1, .int Va2, .int 1])).length) Slot.unset).toArray = ls at hl ⊢
  have hl : lv_has ls 8 [(0, .ref Ad0), (1, .int Va0), (2, .int Va1), (3, .int Va2), (4, .int 1)] := hl
  have o_Fs0 := ow_0 k_Fs0
  have o_Fs1 := ow_0 k_Fs1
  refine lv_aload_n hx hb dX11_field_0 rfl (lv_at hl 0 rfl) ?_
  refine va_get (D := (dC, dI)) (ci := 14) (v := .ref Ad1) (C := RX11) (T := TX11) (N := 18) hx hb hts (in_z_X11_field_1_X11) hown hK hP 0 rfl rfl 1 (by decide) (hts (.fieldLink RX11 19 "HeapWorks" "types" "LHeapWorks$Types;") (by decide +kernel)) (fun _ h9 => h9) (ow_at o_Fs0 0 rfl) dX11_field_1 ?_
  refine lv_iload_n hx hb dX11_field_4 rfl (lv_at hl 1 rfl) ?_
  have hPc := hP.sub (ws' := [(Ad1, .inr (13, Fs1))]) [1] rfl
  have hDc := hD.sub (ws' := [(Ad1, .inr (13, Fs1))]) [1] (by decide) rfl
  have hKc := hK.sub (tys' := []) [] rfl
  have hFc := va_free (wc := [(Ad1, .inr (13, Fs1))]) hD hS hA [1] rfl
  refine va_calli (va_runV (As := [.int Va0]) (rest := []) ⟨hx, hb, hml, hown, hts⟩ (z_X10_isClass l dC dI s.heap.size Ad1 Fs1 Va0 (fh_sub o_Fs1.2 [0] rfl) ) (cwV 1 hts g_z_X11_field_1_z_X10_isClass_116 rfl rfl rfl (by decide +kernel) ⟨Nat.le_of_ble_eq_true rfl, Nat.le_of_ble_eq_true rfl⟩) ⟨fun a U g mk q => by obtain ⟨q0, q1, qP, qK, qD⟩ := q; exact ⟨q0, q1, qP, va_K.moved (u := U) (U := U.calling g mk a) (Vm.Alike.refl U.vm) qK, qD⟩, va_recv hK hP (ci := 13) (q0 := 1) rfl rfl, fun U hU hW => ⟨rfl, by rw [hU], by rw [hU]; exact hPc, va_K.moved hW.alike hKc, hDc.weaken (fun _ _ _ _ => trivial)⟩⟩ rfl rfl hl.1 rfl (lv_room (Nat.le_of_ble_eq_true rfl)) dX11_field_5 ⟨Nat.le_of_ble_eq_true rfl, Nat.le_of_ble_eq_true rfl⟩) hS (fun q _ h => hFc q h) hFc (fun r101 u t H1 locs ht hvm hw hB hz1 hk1 hS => ?_)
  obtain ⟨hP1, hK1, hD1⟩ := hB
  rw [ht] at hP1
  try dsimp only at hw
  obtain ⟨hP, hD⟩ := va_join (wr := [(Ad0, .inr (14, Fs0))]) (w1 := [(Ad1, .inr (13, Fs1))]) hP hD [1] [0] rfl rfl (by decide) (by decide) hk1 hFc hP1 hD1
  have hK := hK.sub (tys' := []) [] rfl
  generalize H1 = H at hP hS ⊢
  have hP : va_P (dC, dI) vwCl [(Ad0, .inr (14, Fs0)), (Ad1, .inr (13, Fs1))] H := hP
  have hD : va_D A [(Ad0, .inr (14, Fs0)), (Ad1, .inr (13, Fs1))] := hD
  rcases hw with ⟨c102, er103⟩ | ⟨c104, c105, er106⟩
  · skip
    subst er103
    refine lv_if_ne (tgt := 19) hx hb dX11_field_8 (by decide) (fun c107 => absurd c107 (by decide)) (fun c107 => ?_)
    exact vx_throw0 (names := ["java/lang/RuntimeException", "java/lang/Exception"]) hx hb hst hown (by decide +kernel) (by decide +kernel) (hts (.classLink RX11 120 "java/lang/IndexOutOfBoundsException") (by decide +kernel)) (hts (.initialized "java/lang/IndexOutOfBoundsException") (by decide +kernel)) (vx_hat (B := xB "java/lang/IndexOutOfBoundsException") (fun w h => hts w ((in_z_X11_field_1_at0_X11_122) w h)) (by decide +kernel) (Zz_xB hZ (by decide))) (by decide +kernel) hZ.1 hZ.2.1 hS (hl.1.trans hml.symm) dX11_field_11 dX11_field_14 dX11_field_15 dX11_field_18 (fun x h => (htab x h).elim) (by decide) (Nat.le_of_ble_eq_true rfl) (Nat.le_of_ble_eq_true rfl) (Nat.le_of_ble_eq_true rfl) hlocks (fun t _ h1 h2 => ⟨(), trivial, (Or.inl ⟨rfl, c102⟩), xx_F hS h1 h2⟩) hS.2.2 (by decide) (by decide)
  · skip
    subst er106
    refine lv_if_ne (tgt := 19) hx hb dX11_field_8 (by decide) (fun c108 => absurd c108 (by decide)) (fun c108 => ?_)
    exact vx_throw0 (names := ["java/lang/RuntimeException", "java/lang/Exception"]) hx hb hst hown (by decide +kernel) (by decide +kernel) (hts (.classLink RX11 120 "java/lang/IndexOutOfBoundsException") (by decide +kernel)) (hts (.initialized "java/lang/IndexOutOfBoundsException") (by decide +kernel)) (vx_hat (B := xB "java/lang/IndexOutOfBoundsException") (fun w h => hts w ((in_z_X11_field_1_at0_X11_122) w h)) (by decide +kernel) (Zz_xB hZ (by decide))) (by decide +kernel) hZ.1 hZ.2.1 hS (hl.1.trans hml.symm) dX11_field_11 dX11_field_14 dX11_field_15 dX11_field_18 (fun x h => (htab x h).elim) (by decide) (Nat.le_of_ble_eq_true rfl) (Nat.le_of_ble_eq_true rfl) (Nat.le_of_ble_eq_true rfl) hlocks (fun t _ h1 h2 => ⟨(), trivial, (Or.inr (⟨rfl, c104, c105⟩)), xx_F hS h1 h2⟩) hS.2.2 (by decide) (by decide)

def l_z_X11_typeLook : List Cond := [.fieldLink RX11 19 "HeapWorks" "types" "LHeapWorks$Types;", .methodLink RX11 116 yX10_isClass, .instanceMethod yX10_isClass, .selects RX10 yX10_isClass yX10_isClass, .initialized RX10, .code yX10_isClass cX10_isClass 2 (some .boolean), .fieldLink RX10 65 "HeapWorks$Types" "count" "I"]
def w_z_X11_typeLook : List Cond := .code yX11_typeLook cX11_typeLook 3 (some .int) :: (l_z_X11_typeLook ++ ((wsX110 ++ wsX100)))
theorem in_z_X11_typeLook_X11 : ∀ w ∈ wsX110, w ∈ w_z_X11_typeLook := fun w h => List.mem_cons_of_mem _ (List.mem_append_right _ (List.mem_append_left _ h))
theorem in_z_X11_typeLook_X10 : ∀ w ∈ wsX100, w ∈ w_z_X11_typeLook := fun w h => List.mem_cons_of_mem _ (List.mem_append_right _ (List.mem_append_right _ (h)))
theorem g_z_X11_typeLook_z_X10_isClass_116 : GoodIn w_z_X11_typeLook (wsV RX11 116 RX10 yX10_isClass w_z_X10_isClass) := goodIn_app (goodIn_r (([.methodLink RX11 116 yX10_isClass, .instanceMethod yX10_isClass, .selects RX10 yX10_isClass yX10_isClass, .initialized RX10] : List Cond)) [2, 3, 4, 5] rfl (by decide +kernel)) (goodIn_ca (goodIn_r (.code yX10_isClass cX10_isClass 2 (some .boolean) :: l_z_X10_isClass) [6, 7] rfl (by decide +kernel)) (goodIn_in (in_z_X11_typeLook_X10) gd_X10))
set_option maxHeartbeats 4000000 in
set_option maxRecDepth 100000 in
theorem z_X11_typeLook (l : Launch) (dC : Nat → ClassId) (dI : Nat → Nat → Nat) (sz : Nat) (Ad0 : Nat) (Fs0 : List Value) (Ad1 : Nat) (Fs1 : List Value) (Va0 : Int32) (Va1 : Int32) (k_Fs0 : fh Fs0 18 [(1, .ref Ad1)]) (k_Fs1 : fh Fs1 18 [(0, .int 0)])  : Met l yX11_typeLook w_z_X11_typeLook ({ frames := 1, cells := 0, slots := 0, locals := 21 }) (va_Pc [.ref Ad0, .int Va0, .int Va1] (fun U => U.heap.size = sz ∧ Wd dC dI [] (fun _ => True) [(Ad0, .inr (14, Fs0)), (Ad1, .inr (13, Fs1))] U)) (va_Qi (fun (r : Int32) (u : Unit) => (Va0 < 0 ∧ r = (-1)) ∨ (¬ Va0 < 0 ∧ 0 ≤ Va0 ∧ r = (-1))) (fun (u : Unit) t => Wd dC dI [] (va_A [(Ad0, .inr (14, Fs0)), (Ad1, .inr (13, Fs1))] sz) [(Ad0, .inr (14, Fs0)), (Ad1, .inr (13, Fs1))] t) (va_A [(Ad0, .inr (14, Fs0)), (Ad1, .inr (13, Fs1))] sz))  0 0 (va_A [(Ad0, .inr (14, Fs0)), (Ad1, .inr (13, Fs1))] sz) := by
  refine Met.ofW (cc := cX11_typeLook) (maxL := 3) (ret := (some .int)) (by decide) rfl ?_
  intro p e s m args below meth c s₁ B hml hv
  obtain ⟨rfl, hsz, hP, hK, hD0⟩ := hv
  have hx := B.exec
  have hb := B.bytes
  have hr := B.returns
  have hts := atoms_spec (ws := w_z_X11_typeLook) B.pre
  have hown : s.vm.findClass RX11 = some m.cls := findClass_of_methodNamed B.named
  have hlocks := B.notSynchronized
  subst hsz
  have hD := hD0.self (sz := s.heap.size)
  generalize hAe : va_A [(Ad0, .inr (14, Fs0)), (Ad1, .inr (13, Fs1))] s.heap.size = A at hD ⊢
  have hA : ∀ q : Nat, s.heap.size ≤ q → A q := fun q h => by rw [← hAe]; exact Or.inr h
  have hS : va_S A s.heap s.heap [] := va_S.rf
  have hl := lv_entry ([.ref Ad0, .int Va0, .int Va1]) (n := 3) (Nat.le_of_ble_eq_true rfl)
  rw [lg_entry_eq]
  generalize (lg_sl ([.ref Ad0, .int Va0, .int Va1]) ++ List.replicate (3 - (lg_sl ([.ref Ad0, .int Va0, .int Va1])).length) Slot.unset).toArray = ls at hl ⊢
  have hl : lv_has ls 3 [(0, .ref Ad0), (1, .int Va0), (2, .int Va1)] := hl
  have o_Fs0 := ow_0 k_Fs0
  have o_Fs1 := ow_0 k_Fs1
  refine lv_aload_n hx hb dX11_typeLook_0 rfl (lv_at hl 0 rfl) ?_
  refine va_get (D := (dC, dI)) (ci := 14) (v := .ref Ad1) (C := RX11) (T := TX11) (N := 18) hx hb hts (in_z_X11_typeLook_X11) hown hK hP 0 rfl rfl 1 (by decide) (hts (.fieldLink RX11 19 "HeapWorks" "types" "LHeapWorks$Types;") (by decide +kernel)) (fun _ h9 => h9) (ow_at o_Fs0 0 rfl) dX11_typeLook_1 ?_
  refine lv_iload_n hx hb dX11_typeLook_4 rfl (lv_at hl 1 rfl) ?_
  have hPc := hP.sub (ws' := [(Ad1, .inr (13, Fs1))]) [1] rfl
  have hDc := hD.sub (ws' := [(Ad1, .inr (13, Fs1))]) [1] (by decide) rfl
  have hKc := hK.sub (tys' := []) [] rfl
  have hFc := va_free (wc := [(Ad1, .inr (13, Fs1))]) hD hS hA [1] rfl
  refine va_calli (va_runV (As := [.int Va0]) (rest := []) ⟨hx, hb, hml, hown, hts⟩ (z_X10_isClass l dC dI s.heap.size Ad1 Fs1 Va0 (fh_sub o_Fs1.2 [0] rfl) ) (cwV 1 hts g_z_X11_typeLook_z_X10_isClass_116 rfl rfl rfl (by decide +kernel) ⟨Nat.le_of_ble_eq_true rfl, Nat.le_of_ble_eq_true rfl⟩) ⟨fun a U g mk q => by obtain ⟨q0, q1, qP, qK, qD⟩ := q; exact ⟨q0, q1, qP, va_K.moved (u := U) (U := U.calling g mk a) (Vm.Alike.refl U.vm) qK, qD⟩, va_recv hK hP (ci := 13) (q0 := 1) rfl rfl, fun U hU hW => ⟨rfl, by rw [hU], by rw [hU]; exact hPc, va_K.moved hW.alike hKc, hDc.weaken (fun _ _ _ _ => trivial)⟩⟩ rfl rfl hl.1 rfl (lv_room (Nat.le_of_ble_eq_true rfl)) dX11_typeLook_5 ⟨Nat.le_of_ble_eq_true rfl, Nat.le_of_ble_eq_true rfl⟩) hS (fun q _ h => hFc q h) hFc (fun r101 u t H1 locs ht hvm hw hB hz1 hk1 hS => ?_)
  obtain ⟨hP1, hK1, hD1⟩ := hB
  rw [ht] at hP1
  try dsimp only at hw
  obtain ⟨hP, hD⟩ := va_join (wr := [(Ad0, .inr (14, Fs0))]) (w1 := [(Ad1, .inr (13, Fs1))]) hP hD [1] [0] rfl rfl (by decide) (by decide) hk1 hFc hP1 hD1
  have hK := hK.sub (tys' := []) [] rfl
  generalize H1 = H at hP hS ⊢
  have hP : va_P (dC, dI) vwCl [(Ad0, .inr (14, Fs0)), (Ad1, .inr (13, Fs1))] H := hP
  have hD : va_D A [(Ad0, .inr (14, Fs0)), (Ad1, .inr (13, Fs1))] := hD
  rcases hw with ⟨c102, er103⟩ | ⟨c104, c105, er106⟩
  · skip
    subst er103
    refine lv_if_ne (tgt := 13) hx hb dX11_typeLook_8 (by decide) (fun c107 => absurd c107 (by decide)) (fun c107 => ?_)
    refine lv_iconst (v := (-1)) hx hb dX11_typeLook_11 (by decide) ?_
    have hP9 := hP.sub (ws' := [(Ad0, .inr (14, Fs0)), (Ad1, .inr (13, Fs1))]) [0, 1] rfl
    have hD9 := hD.sub (ws' := [(Ad0, .inr (14, Fs0)), (Ad1, .inr (13, Fs1))]) [0, 1] (by decide) rfl
    have hK9 := hK.sub (tys' := []) [] rfl
    exact W.iret (v := (-1)) hx hb hr (fun t ht hW => ⟨⟨(-1), (), rfl, (Or.inl ⟨c102, rfl⟩), by rw [ht]; exact hP9, va_K.moved hW.alike hK9, hD9⟩, hS.F ht⟩) hS.2.2 dX11_typeLook_12
  · skip
    subst er106
    refine lv_if_ne (tgt := 13) hx hb dX11_typeLook_8 (by decide) (fun c108 => absurd c108 (by decide)) (fun c108 => ?_)
    refine lv_iconst (v := (-1)) hx hb dX11_typeLook_11 (by decide) ?_
    have hP9 := hP.sub (ws' := [(Ad0, .inr (14, Fs0)), (Ad1, .inr (13, Fs1))]) [0, 1] rfl
    have hD9 := hD.sub (ws' := [(Ad0, .inr (14, Fs0)), (Ad1, .inr (13, Fs1))]) [0, 1] (by decide) rfl
    have hK9 := hK.sub (tys' := []) [] rfl
    exact W.iret (v := (-1)) hx hb hr (fun t ht hW => ⟨⟨(-1), (), rfl, (Or.inr (⟨c104, c105, rfl⟩)), by rw [ht]; exact hP9, va_K.moved hW.alike hK9, hD9⟩, hS.F ht⟩) hS.2.2 dX11_typeLook_12

def l_z_X10_hasField_ : List Cond := [.methodLink RX10 69 yX10_isClass, .instanceMethod yX10_isClass, .selects RX10 yX10_isClass yX10_isClass, .initialized RX10, .code yX10_isClass cX10_isClass 2 (some .boolean), .fieldLink RX10 65 "HeapWorks$Types" "count" "I"]
def w_z_X10_hasField_ : List Cond := .code yX10_hasField_ cX10_hasField_ 3 (some .boolean) :: (l_z_X10_hasField_ ++ (wsX100))
theorem in_z_X10_hasField__X10 : ∀ w ∈ wsX100, w ∈ w_z_X10_hasField_ := fun w h => List.mem_cons_of_mem _ (List.mem_append_right _ (h))
theorem g_z_X10_hasField__z_X10_isClass_69 : GoodIn w_z_X10_hasField_ (wsV RX10 69 RX10 yX10_isClass w_z_X10_isClass) := goodIn_app (goodIn_r (([.methodLink RX10 69 yX10_isClass, .instanceMethod yX10_isClass, .selects RX10 yX10_isClass yX10_isClass, .initialized RX10] : List Cond)) [1, 2, 3, 4] rfl (by decide +kernel)) (goodIn_ca (goodIn_r (.code yX10_isClass cX10_isClass 2 (some .boolean) :: l_z_X10_isClass) [5, 6] rfl (by decide +kernel)) (goodIn_in (in_z_X10_hasField__X10) gd_X10))
set_option maxHeartbeats 4000000 in
set_option maxRecDepth 100000 in
theorem z_X10_hasField_ (l : Launch) (dC : Nat → ClassId) (dI : Nat → Nat → Nat) (sz : Nat) (Ad0 : Nat) (Fs0 : List Value) (Va0 : Int32) (Va1 : Int32) (k_Fs0 : fh Fs0 18 [(0, .int 0)])  : Met l yX10_hasField_ w_z_X10_hasField_ ({ frames := 1, cells := 0, slots := 0, locals := 21 }) (va_Pc [.ref Ad0, .int Va0, .int Va1] (fun U => U.heap.size = sz ∧ Wd dC dI [] (fun _ => True) [(Ad0, .inr (13, Fs0))] U)) (va_Qi (fun (r : Int32) (u : Unit) => (Va0 < 0 ∧ r = 0) ∨ (¬ Va0 < 0 ∧ 0 ≤ Va0 ∧ r = 0)) (fun (u : Unit) t => Wd dC dI [] (va_A [(Ad0, .inr (13, Fs0))] sz) [(Ad0, .inr (13, Fs0))] t) (va_A [(Ad0, .inr (13, Fs0))] sz))  0 0 (va_A [(Ad0, .inr (13, Fs0))] sz) := by
  refine Met.ofW (cc := cX10_hasField_) (maxL := 3) (ret := (some .boolean)) (by decide) rfl ?_
  intro p e s m args below meth c s₁ B hml hv
  obtain ⟨rfl, hsz, hP, hK, hD0⟩ := hv
  have hx := B.exec
  have hb := B.bytes
  have hr := B.returns
  have hts := atoms_spec (ws := w_z_X10_hasField_) B.pre
  have hown : s.vm.findClass RX10 = some m.cls := findClass_of_methodNamed B.named
  have hlocks := B.notSynchronized
  subst hsz
  have hD := hD0.self (sz := s.heap.size)
  generalize hAe : va_A [(Ad0, .inr (13, Fs0))] s.heap.size = A at hD ⊢
  have hA : ∀ q : Nat, s.heap.size ≤ q → A q := fun q h => by rw [← hAe]; exact Or.inr h
  have hS : va_S A s.heap s.heap [] := va_S.rf
  have hl := lv_entry ([.ref Ad0, .int Va0, .int Va1]) (n := 3) (Nat.le_of_ble_eq_true rfl)
  rw [lg_entry_eq]
  generalize (lg_sl ([.ref Ad0, .int Va0, .int Va1]) ++ List.replicate (3 - (lg_sl ([.ref Ad0, .int Va0, .int Va1])).length) Slot.unset).toArray = ls at hl ⊢
  have hl : lv_has ls 3 [(0, .ref Ad0), (1, .int Va0), (2, .int Va1)] := hl
  have o_Fs0 := ow_0 k_Fs0
  refine lv_aload_n hx hb dX10_hasField__0 rfl (lv_at hl 0 rfl) ?_
  refine lv_iload_n hx hb dX10_hasField__1 rfl (lv_at hl 1 rfl) ?_
  have hPc := hP.sub (ws' := [(Ad0, .inr (13, Fs0))]) [0] rfl
  have hDc := hD.sub (ws' := [(Ad0, .inr (13, Fs0))]) [0] (by decide) rfl
  have hKc := hK.sub (tys' := []) [] rfl
  have hFc := va_free (wc := [(Ad0, .inr (13, Fs0))]) hD hS hA [0] rfl
  refine va_calli (va_runV (As := [.int Va0]) (rest := []) ⟨hx, hb, hml, hown, hts⟩ (z_X10_isClass l dC dI s.heap.size Ad0 Fs0 Va0 (fh_sub o_Fs0.2 [0] rfl) ) (cwV 1 hts g_z_X10_hasField__z_X10_isClass_69 rfl rfl rfl (by decide +kernel) ⟨Nat.le_of_ble_eq_true rfl, Nat.le_of_ble_eq_true rfl⟩) ⟨fun a U g mk q => by obtain ⟨q0, q1, qP, qK, qD⟩ := q; exact ⟨q0, q1, qP, va_K.moved (u := U) (U := U.calling g mk a) (Vm.Alike.refl U.vm) qK, qD⟩, va_recv hK hP (ci := 13) (q0 := 0) rfl rfl, fun U hU hW => ⟨rfl, by rw [hU], by rw [hU]; exact hPc, va_K.moved hW.alike hKc, hDc.weaken (fun _ _ _ _ => trivial)⟩⟩ rfl rfl hl.1 rfl (lv_room (Nat.le_of_ble_eq_true rfl)) dX10_hasField__2 ⟨Nat.le_of_ble_eq_true rfl, Nat.le_of_ble_eq_true rfl⟩) hS (fun q _ h => hFc q h) hFc (fun r101 u t H1 locs ht hvm hw hB hz1 hk1 hS => ?_)
  obtain ⟨hP1, hK1, hD1⟩ := hB
  rw [ht] at hP1
  try dsimp only at hw
  obtain ⟨hP, hD⟩ := va_join (wr := []) (w1 := [(Ad0, .inr (13, Fs0))]) hP hD [0] [] rfl rfl (by decide) (by decide) hk1 hFc hP1 hD1
  have hK := hK.sub (tys' := []) [] rfl
  generalize H1 = H at hP hS ⊢
  have hP : va_P (dC, dI) vwCl [(Ad0, .inr (13, Fs0))] H := hP
  have hD : va_D A [(Ad0, .inr (13, Fs0))] := hD
  rcases hw with ⟨c102, er103⟩ | ⟨c104, c105, er106⟩
  · skip
    subst er103
    refine lv_if_eq (tgt := 26) hx hb dX10_hasField__5 (by decide) (fun c107 => ?_) (fun c107 => absurd c107 (by decide))
    refine lv_iconst (v := 0) hx hb dX10_hasField__26 (by decide) ?_
    have hP9 := hP.sub (ws' := [(Ad0, .inr (13, Fs0))]) [0] rfl
    have hD9 := hD.sub (ws' := [(Ad0, .inr (13, Fs0))]) [0] (by decide) rfl
    have hK9 := hK.sub (tys' := []) [] rfl
    exact W.zret (v := 0) hx hb hr rfl (fun t ht hW => ⟨⟨0, (), rfl, (Or.inl ⟨c102, rfl⟩), by rw [ht]; exact hP9, va_K.moved hW.alike hK9, hD9⟩, hS.F ht⟩) hS.2.2 dX10_hasField__27
  · skip
    subst er106
    refine lv_if_eq (tgt := 26) hx hb dX10_hasField__5 (by decide) (fun c108 => ?_) (fun c108 => absurd c108 (by decide))
    refine lv_iconst (v := 0) hx hb dX10_hasField__26 (by decide) ?_
    have hP9 := hP.sub (ws' := [(Ad0, .inr (13, Fs0))]) [0] rfl
    have hD9 := hD.sub (ws' := [(Ad0, .inr (13, Fs0))]) [0] (by decide) rfl
    have hK9 := hK.sub (tys' := []) [] rfl
    exact W.zret (v := 0) hx hb hr rfl (fun t ht hW => ⟨⟨0, (), rfl, (Or.inr (⟨c104, c105, rfl⟩)), by rw [ht]; exact hP9, va_K.moved hW.alike hK9, hD9⟩, hS.F ht⟩) hS.2.2 dX10_hasField__27

