def l_x_fault : List Cond := [.fieldLink RX11 98 "HeapWorks" "faultPlace" "I", .fieldLink RX11 469 "HeapWorks" "faultCode" "I"]
def w_x_fault : List Cond := .code yX11_fault cX11_fault 2 (some .int) :: (l_x_fault ++ (wsX110))
theorem in_x_fault_X11 : ∀ w ∈ wsX110, w ∈ w_x_fault := fun w h => List.mem_cons_of_mem _ (List.mem_append_right _ (h))
set_option maxHeartbeats 4000000 in
set_option maxRecDepth 100000 in
theorem x_fault (l : Launch) (dC : Nat → ClassId) (dI : Nat → Nat → Nat) (sz : Nat) (aX : Nat) (fsX : List Value) (p0 : Int32) (k_fsX : fh fsX 18 [(16, .int 0), (17, .int (-1))])  : Met l yX11_fault w_x_fault ({ frames := 0, cells := 0, slots := 0, locals := 0 }) (va_Pc [.ref aX, .int p0] (fun U => U.heap.size = sz ∧ Wd dC dI [] (fun _ => True) [(aX, .inr (14, fsX))] U)) (va_Qi (fun (r : Int32) (u : Unit) => (¬ p0 = 0 ∧ ¬ p0 = 1 ∧ r = (-1)) ∨ (¬ p0 = 0 ∧ p0 = 1 ∧ r = (-1)) ∨ (p0 = 0 ∧ r = 0)) (fun (u : Unit) t => Wd dC dI [] (va_A [(aX, .inr (14, fsX))] sz) [(aX, .inr (14, fsX))] t) (va_A [(aX, .inr (14, fsX))] sz))  0 0 (va_A [(aX, .inr (14, fsX))] sz) := by
  refine Met.ofW (cc := cX11_fault) (maxL := 2) (ret := (some .int)) (by decide) rfl ?_
  intro p e s m args below meth c s₁ B hml hv
  obtain ⟨rfl, hsz, hP, hK, hD0⟩ := hv
  have hx := B.exec
  have hb := B.bytes
  have hr := B.returns
  have hts := atoms_spec (ws := w_x_fault) B.pre
  have hown : s.vm.findClass RX11 = some m.cls := findClass_of_methodNamed B.named
  have hlocks := B.notSynchronized
  subst hsz
  have hD := hD0.self (sz := s.heap.size)
  generalize hAe : va_A [(aX, .inr (14, fsX))] s.heap.size = A at hD ⊢
  have hA : ∀ q : Nat, s.heap.size ≤ q → A q := fun q h => by rw [← hAe]; exact Or.inr h
  have hS : va_S A s.heap s.heap [] := va_S.rf
  have hl := lv_entry ([.ref aX, .int p0]) (n := 2) (Nat.le_of_ble_eq_true rfl)
  rw [lg_entry_eq]
  generalize (lg_sl ([.ref aX, .int p0]) ++ List.replicate (2 - (lg_sl ([.ref aX, .int p0])).length) Slot.unset).toArray = ls at hl ⊢
  have hl : lv_has ls 2 [(0, .ref aX), (1, .int p0)] := hl
  have o_fsX := ow_0 k_fsX
  refine lv_iload_n hx hb dX11_fault_0 rfl (lv_at hl 1 rfl) ?_
  refine lv_if_ne (tgt := 9) hx hb dX11_fault_1 (by decide) (fun c7320 => ?_) (fun c7320 => ?_)
  · skip
    refine lv_iload_n hx hb dX11_fault_9 rfl (lv_at hl 1 rfl) ?_
    refine lv_iconst (v := 1) hx hb dX11_fault_10 (by decide) ?_
    refine lv_icmp_ne (tgt := 21) hx hb dX11_fault_11 (by decide) (fun c7321 => ?_) (fun c7321 => ?_)
    · skip
      refine lv_iconst (v := (-1)) hx hb dX11_fault_21 (by decide) ?_
      have hP9 := hP.sub (ws' := [(aX, .inr (14, fsX))]) [0] rfl
      have hD9 := hD.sub (ws' := [(aX, .inr (14, fsX))]) [0] (by decide) rfl
      have hK9 := hK.sub (tys' := []) [] rfl
      exact W.iret (v := (-1)) hx hb hr (fun t ht hW => ⟨⟨(-1), (), rfl, (Or.inl ⟨c7320, c7321, rfl⟩), by rw [ht]; exact hP9, va_K.moved hW.alike hK9, hD9⟩, hS.F ht⟩) hS.2.2 dX11_fault_22
    · skip
      refine lv_aload_n hx hb dX11_fault_14 rfl (lv_at hl 0 rfl) ?_
      refine va_get (D := (dC, dI)) (ci := 14) (v := .int (-1)) (C := RX11) (T := TX11) (N := 18) hx hb hts (in_x_fault_X11) hown hK hP 0 rfl rfl 17 (by decide) (hts (.fieldLink RX11 98 "HeapWorks" "faultPlace" "I") (by decide +kernel)) (fun _ h9 => h9) (ow_at o_fsX 1 rfl) dX11_fault_15 ?_
      refine lv_goto (tgt := 22) hx hb dX11_fault_18 (by decide) ?_
      have hP9 := hP.sub (ws' := [(aX, .inr (14, fsX))]) [0] rfl
      have hD9 := hD.sub (ws' := [(aX, .inr (14, fsX))]) [0] (by decide) rfl
      have hK9 := hK.sub (tys' := []) [] rfl
      exact W.iret (v := (-1)) hx hb hr (fun t ht hW => ⟨⟨(-1), (), rfl, (Or.inr (Or.inl ⟨c7320, c7321, rfl⟩)), by rw [ht]; exact hP9, va_K.moved hW.alike hK9, hD9⟩, hS.F ht⟩) hS.2.2 dX11_fault_22
  · skip
    refine lv_aload_n hx hb dX11_fault_4 rfl (lv_at hl 0 rfl) ?_
    refine va_get (D := (dC, dI)) (ci := 14) (v := .int 0) (C := RX11) (T := TX11) (N := 18) hx hb hts (in_x_fault_X11) hown hK hP 0 rfl rfl 16 (by decide) (hts (.fieldLink RX11 469 "HeapWorks" "faultCode" "I") (by decide +kernel)) (fun _ h9 => h9) (ow_at o_fsX 0 rfl) dX11_fault_5 ?_
    have hP9 := hP.sub (ws' := [(aX, .inr (14, fsX))]) [0] rfl
    have hD9 := hD.sub (ws' := [(aX, .inr (14, fsX))]) [0] (by decide) rfl
    have hK9 := hK.sub (tys' := []) [] rfl
    exact W.iret (v := 0) hx hb hr (fun t ht hW => ⟨⟨0, (), rfl, (Or.inr (Or.inr (⟨c7320, rfl⟩))), by rw [ht]; exact hP9, va_K.moved hW.alike hK9, hD9⟩, hS.F ht⟩) hS.2.2 dX11_fault_8

def l_z_X0_put : List Cond := [.fieldLink RX0 35 "HeapWorks$Archive" "filled" "I", .fieldLink RX0 19 "HeapWorks$Archive" "buffer" "[I"]
def w_z_X0_put : List Cond := .code yX0_put cX0_put 2 none :: (l_z_X0_put ++ (wsX00))
theorem in_z_X0_put_X0 : ∀ w ∈ wsX00, w ∈ w_z_X0_put := fun w h => List.mem_cons_of_mem _ (List.mem_append_right _ (h))
set_option maxHeartbeats 4000000 in
set_option maxRecDepth 100000 in
theorem z_X0_put (l : Launch) (dC : Nat → ClassId) (dI : Nat → Nat → Nat) (sz : Nat) (Ad0 : Nat) (Fs0 : List Value) (Ad1 : Nat) (Fa0 : Nat → Int32) (Ka0 : ClassId) (k_Fs0 : fh Fs0 15 [(2, .int 0), (1, .ref Ad1)])  : Met l yX0_put w_z_X0_put ({ frames := 0, cells := 0, slots := 0, locals := 0 }) (va_Pc [.ref Ad0, .int 72] (fun U => U.heap.size = sz ∧ Wd dC dI [(Ka0, .int)] (fun _ => True) [(Ad0, .inr (3, Fs0)), (Ad1, .inl (Ka0, 4000, .inl Fa0))] U)) (va_Qv (fun (u : List Value × (Nat → Int32)) => (ow Fs0 (u.1) 15 [2] [(2, .int 1), (1, .ref Ad1)] ∧ (u.2) (0 : Int32).toNatClampNeg = 72)) (fun (u : List Value × (Nat → Int32)) t => Wd dC dI [(Ka0, .int)] (va_A [(Ad0, .inr (3, Fs0)), (Ad1, .inl (Ka0, 4000, .inl Fa0))] sz) [(Ad0, .inr (3, (u.1))), (Ad1, .inl (Ka0, 4000, .inl ((u.2))))] t) (va_A [(Ad0, .inr (3, Fs0)), (Ad1, .inl (Ka0, 4000, .inl Fa0))] sz))  0 0 (va_A [(Ad0, .inr (3, Fs0)), (Ad1, .inl (Ka0, 4000, .inl Fa0))] sz) := by
  refine Met.ofW (cc := cX0_put) (maxL := 2) (ret := none) (by decide) rfl ?_
  intro p e s m args below meth c s₁ B hml hv
  obtain ⟨rfl, hsz, hP, hK, hD0⟩ := hv
  have hx := B.exec
  have hb := B.bytes
  have hr := B.returns
  have hts := atoms_spec (ws := w_z_X0_put) B.pre
  have hown : s.vm.findClass RX0 = some m.cls := findClass_of_methodNamed B.named
  have hlocks := B.notSynchronized
  subst hsz
  have hD := hD0.self (sz := s.heap.size)
  generalize hAe : va_A [(Ad0, .inr (3, Fs0)), (Ad1, .inl (Ka0, 4000, .inl Fa0))] s.heap.size = A at hD ⊢
  have hA : ∀ q : Nat, s.heap.size ≤ q → A q := fun q h => by rw [← hAe]; exact Or.inr h
  have hS : va_S A s.heap s.heap [] := va_S.rf
  have hl := lv_entry ([.ref Ad0, .int 72]) (n := 2) (Nat.le_of_ble_eq_true rfl)
  rw [lg_entry_eq]
  generalize (lg_sl ([.ref Ad0, .int 72]) ++ List.replicate (2 - (lg_sl ([.ref Ad0, .int 72])).length) Slot.unset).toArray = ls at hl ⊢
  have hl : lv_has ls 2 [(0, .ref Ad0), (1, .int 72)] := hl
  have o_Fs0 := ow_0 k_Fs0
  refine lv_aload_n hx hb dX0_put_0 rfl (lv_at hl 0 rfl) ?_
  refine va_get (D := (dC, dI)) (ci := 3) (v := .int 0) (C := RX0) (T := TX0) (N := 15) hx hb hts (in_z_X0_put_X0) hown hK hP 0 rfl rfl 2 (by decide) (hts (.fieldLink RX0 35 "HeapWorks$Archive" "filled" "I") (by decide +kernel)) (fun _ h9 => h9) (ow_at o_Fs0 0 rfl) dX0_put_1 ?_
  refine lv_aload_n hx hb dX0_put_4 rfl (lv_at hl 0 rfl) ?_
  refine va_get (D := (dC, dI)) (ci := 3) (v := .ref Ad1) (C := RX0) (T := TX0) (N := 15) hx hb hts (in_z_X0_put_X0) hown hK hP 0 rfl rfl 1 (by decide) (hts (.fieldLink RX0 19 "HeapWorks$Archive" "buffer" "[I") (by decide +kernel)) (fun _ h9 => h9) (ow_at o_Fs0 1 rfl) dX0_put_5 ?_
  refine va_alen (v := 4000) hx hb hK hP 1 0 rfl rfl (show Int32.ofNat 4000 = 4000 from by decide) dX0_put_8 ?_
  refine lv_icmp_ge (tgt := 22) hx hb dX0_put_9 (by decide) (fun c7347 => absurd c7347 (by decide)) (fun c7347 => ?_)
  refine lv_aload_n hx hb dX0_put_12 rfl (lv_at hl 0 rfl) ?_
  refine va_get (D := (dC, dI)) (ci := 3) (v := .ref Ad1) (C := RX0) (T := TX0) (N := 15) hx hb hts (in_z_X0_put_X0) hown hK hP 0 rfl rfl 1 (by decide) (hts (.fieldLink RX0 19 "HeapWorks$Archive" "buffer" "[I") (by decide +kernel)) (fun _ h9 => h9) (ow_at o_Fs0 1 rfl) dX0_put_13 ?_
  refine lv_aload_n hx hb dX0_put_16 rfl (lv_at hl 0 rfl) ?_
  refine va_get (D := (dC, dI)) (ci := 3) (v := .int 0) (C := RX0) (T := TX0) (N := 15) hx hb hts (in_z_X0_put_X0) hown hK hP 0 rfl rfl 2 (by decide) (hts (.fieldLink RX0 35 "HeapWorks$Archive" "filled" "I") (by decide +kernel)) (fun _ h9 => h9) (ow_at o_Fs0 0 rfl) dX0_put_17 ?_
  refine lv_iload_n hx hb dX0_put_20 rfl (lv_at hl 1 rfl) ?_
  refine va_iast hx hb hK hP hD hS 1 0 rfl rfl (show vp_in 0 4000 from by unfold vp_in; decide) dX0_put_21 (fun H locs hP hD hS => ?_)
  have hP : va_P (dC, dI) vwCl [(Ad0, .inr (3, Fs0)), (Ad1, .inl (Ka0, 4000, .inl (upd Fa0 (0 : Int32).toNatClampNeg 72)))] H := hP
  have hD : va_D A [(Ad0, .inr (3, Fs0)), (Ad1, .inl (Ka0, 4000, .inl (upd Fa0 (0 : Int32).toNatClampNeg 72)))] := hD
  have q7349 : (upd Fa0 (0 : Int32).toNatClampNeg 72) (0 : Int32).toNatClampNeg = 72 := pk_us
  generalize upd Fa0 (0 : Int32).toNatClampNeg 72 = f7348 at hP hD q7349
  refine lv_aload_n hx hb dX0_put_22 rfl (lv_at hl 0 rfl) ?_
  refine lv_dup hx hb dX0_put_23 rfl ?_
  refine va_get (D := (dC, dI)) (ci := 3) (v := .int 0) (C := RX0) (T := TX0) (N := 15) hx hb hts (in_z_X0_put_X0) hown hK hP 0 rfl rfl 2 (by decide) (hts (.fieldLink RX0 35 "HeapWorks$Archive" "filled" "I") (by decide +kernel)) (fun _ h9 => h9) (ow_at o_Fs0 0 rfl) dX0_put_24 ?_
  refine lv_iconst (v := 1) hx hb dX0_put_27 (by decide) ?_
  refine lv_iadd hx hb dX0_put_28  ?_
  refine lv_topi (fun x7350 ex7350 => ?_)
  obtain rfl : x7350 = 1 := ex7350.trans (by decide)
  refine va_put (D := (dC, dI)) (ci := 3) (v := .int 1) (ty := .int) (C := RX0) (T := TX0) (N := 15) hx hb hts (in_z_X0_put_X0) tyX0 tyX0_ok nmX0 hown hK hP hD hS 0 rfl rfl 2 (by decide) (hts (.fieldLink RX0 35 "HeapWorks$Archive" "filled" "I") (by decide +kernel)) (fun _ h9 => h9) rfl (by decide +kernel) rfl rfl (by rw [o_Fs0.2.1]; decide) dX0_put_29 (fun H locs hP hD hS => ?_)
  have hP : va_P (dC, dI) vwCl [(Ad0, .inr (3, (Fs0.set 2 (.int 1)))), (Ad1, .inl (Ka0, 4000, .inl f7348))] H := hP
  have hD : va_D A [(Ad0, .inr (3, (Fs0.set 2 (.int 1)))), (Ad1, .inl (Ka0, 4000, .inl f7348))] := hD
  have o_s7351 := ow_set o_Fs0 2 (.int 1) (by decide) (l' := [(2, .int 1), (1, .ref Ad1)]) (w' := [2]) rfl rfl
  generalize (Fs0.set 2 (.int 1)) = s7351 at hP hD o_s7351
  have hP9 := hP.sub (ws' := [(Ad0, .inr (3, s7351)), (Ad1, .inl (Ka0, 4000, .inl f7348))]) [0, 1] rfl
  have hD9 := hD.sub (ws' := [(Ad0, .inr (3, s7351)), (Ad1, .inl (Ka0, 4000, .inl f7348))]) [0, 1] (by decide) rfl
  have hK9 := hK.sub (tys' := [(Ka0, .int)]) [0] rfl
  exact W.vret hx hb hr (fun t ht hW => ⟨⟨(s7351, f7348), rfl, ⟨o_s7351, q7349⟩, by rw [ht]; exact hP9, va_K.moved hW.alike hK9, hD9⟩, hS.F ht⟩) hS.2.2 dX0_put_32

def l_z_X0_put_1 : List Cond := [.fieldLink RX0 35 "HeapWorks$Archive" "filled" "I", .fieldLink RX0 19 "HeapWorks$Archive" "buffer" "[I"]
def w_z_X0_put_1 : List Cond := .code yX0_put cX0_put 2 none :: (l_z_X0_put_1 ++ (wsX00))
theorem in_z_X0_put_1_X0 : ∀ w ∈ wsX00, w ∈ w_z_X0_put_1 := fun w h => List.mem_cons_of_mem _ (List.mem_append_right _ (h))
set_option maxHeartbeats 4000000 in
set_option maxRecDepth 100000 in
theorem z_X0_put_1 (l : Launch) (dC : Nat → ClassId) (dI : Nat → Nat → Nat) (sz : Nat) (Ad0 : Nat) (Fs0 : List Value) (Ad1 : Nat) (Fa0 : Nat → Int32) (Ka0 : ClassId) (k_Fs0 : fh Fs0 15 [(2, .int 1), (1, .ref Ad1), (1, .ref Ad1)])  : Met l yX0_put w_z_X0_put_1 ({ frames := 0, cells := 0, slots := 0, locals := 0 }) (va_Pc [.ref Ad0, .int 80] (fun U => U.heap.size = sz ∧ Wd dC dI [(Ka0, .int)] (fun _ => True) [(Ad0, .inr (3, Fs0)), (Ad1, .inl (Ka0, 4000, .inl Fa0))] U)) (va_Qv (fun (u : List Value × (Nat → Int32)) => (ow Fs0 (u.1) 15 [2] [(2, .int 2), (1, .ref Ad1), (1, .ref Ad1)] ∧ (u.2) (1 : Int32).toNatClampNeg = 80)) (fun (u : List Value × (Nat → Int32)) t => Wd dC dI [(Ka0, .int)] (va_A [(Ad0, .inr (3, Fs0)), (Ad1, .inl (Ka0, 4000, .inl Fa0))] sz) [(Ad0, .inr (3, (u.1))), (Ad1, .inl (Ka0, 4000, .inl ((u.2))))] t) (va_A [(Ad0, .inr (3, Fs0)), (Ad1, .inl (Ka0, 4000, .inl Fa0))] sz))  0 0 (va_A [(Ad0, .inr (3, Fs0)), (Ad1, .inl (Ka0, 4000, .inl Fa0))] sz) := by
  refine Met.ofW (cc := cX0_put) (maxL := 2) (ret := none) (by decide) rfl ?_
  intro p e s m args below meth c s₁ B hml hv
  obtain ⟨rfl, hsz, hP, hK, hD0⟩ := hv
  have hx := B.exec
  have hb := B.bytes
  have hr := B.returns
  have hts := atoms_spec (ws := w_z_X0_put_1) B.pre
  have hown : s.vm.findClass RX0 = some m.cls := findClass_of_methodNamed B.named
  have hlocks := B.notSynchronized
  subst hsz
  have hD := hD0.self (sz := s.heap.size)
  generalize hAe : va_A [(Ad0, .inr (3, Fs0)), (Ad1, .inl (Ka0, 4000, .inl Fa0))] s.heap.size = A at hD ⊢
  have hA : ∀ q : Nat, s.heap.size ≤ q → A q := fun q h => by rw [← hAe]; exact Or.inr h
  have hS : va_S A s.heap s.heap [] := va_S.rf
  have hl := lv_entry ([.ref Ad0, .int 80]) (n := 2) (Nat.le_of_ble_eq_true rfl)
  rw [lg_entry_eq]
  generalize (lg_sl ([.ref Ad0, .int 80]) ++ List.replicate (2 - (lg_sl ([.ref Ad0, .int 80])).length) Slot.unset).toArray = ls at hl ⊢
  have hl : lv_has ls 2 [(0, .ref Ad0), (1, .int 80)] := hl
  have o_Fs0 := ow_0 k_Fs0
  refine lv_aload_n hx hb dX0_put_0 rfl (lv_at hl 0 rfl) ?_
  refine va_get (D := (dC, dI)) (ci := 3) (v := .int 1) (C := RX0) (T := TX0) (N := 15) hx hb hts (in_z_X0_put_1_X0) hown hK hP 0 rfl rfl 2 (by decide) (hts (.fieldLink RX0 35 "HeapWorks$Archive" "filled" "I") (by decide +kernel)) (fun _ h9 => h9) (ow_at o_Fs0 0 rfl) dX0_put_1 ?_
  refine lv_aload_n hx hb dX0_put_4 rfl (lv_at hl 0 rfl) ?_
  refine va_get (D := (dC, dI)) (ci := 3) (v := .ref Ad1) (C := RX0) (T := TX0) (N := 15) hx hb hts (in_z_X0_put_1_X0) hown hK hP 0 rfl rfl 1 (by decide) (hts (.fieldLink RX0 19 "HeapWorks$Archive" "buffer" "[I") (by decide +kernel)) (fun _ h9 => h9) (ow_at o_Fs0 1 rfl) dX0_put_5 ?_
  refine va_alen (v := 4000) hx hb hK hP 1 0 rfl rfl (show Int32.ofNat 4000 = 4000 from by decide) dX0_put_8 ?_
  refine lv_icmp_ge (tgt := 22) hx hb dX0_put_9 (by decide) (fun c7361 => absurd c7361 (by decide)) (fun c7361 => ?_)
  refine lv_aload_n hx hb dX0_put_12 rfl (lv_at hl 0 rfl) ?_
  refine va_get (D := (dC, dI)) (ci := 3) (v := .ref Ad1) (C := RX0) (T := TX0) (N := 15) hx hb hts (in_z_X0_put_1_X0) hown hK hP 0 rfl rfl 1 (by decide) (hts (.fieldLink RX0 19 "HeapWorks$Archive" "buffer" "[I") (by decide +kernel)) (fun _ h9 => h9) (ow_at o_Fs0 1 rfl) dX0_put_13 ?_
  refine lv_aload_n hx hb dX0_put_16 rfl (lv_at hl 0 rfl) ?_
  refine va_get (D := (dC, dI)) (ci := 3) (v := .int 1) (C := RX0) (T := TX0) (N := 15) hx hb hts (in_z_X0_put_1_X0) hown hK hP 0 rfl rfl 2 (by decide) (hts (.fieldLink RX0 35 "HeapWorks$Archive" "filled" "I") (by decide +kernel)) (fun _ h9 => h9) (ow_at o_Fs0 0 rfl) dX0_put_17 ?_
  refine lv_iload_n hx hb dX0_put_20 rfl (lv_at hl 1 rfl) ?_
  refine va_iast hx hb hK hP hD hS 1 0 rfl rfl (show vp_in 1 4000 from by unfold vp_in; decide) dX0_put_21 (fun H locs hP hD hS => ?_)
  have hP : va_P (dC, dI) vwCl [(Ad0, .inr (3, Fs0)), (Ad1, .inl (Ka0, 4000, .inl (upd Fa0 (1 : Int32).toNatClampNeg 80)))] H := hP
  have hD : va_D A [(Ad0, .inr (3, Fs0)), (Ad1, .inl (Ka0, 4000, .inl (upd Fa0 (1 : Int32).toNatClampNeg 80)))] := hD
  have q7363 : (upd Fa0 (1 : Int32).toNatClampNeg 80) (1 : Int32).toNatClampNeg = 80 := pk_us
  generalize upd Fa0 (1 : Int32).toNatClampNeg 80 = f7362 at hP hD q7363
  refine lv_aload_n hx hb dX0_put_22 rfl (lv_at hl 0 rfl) ?_
  refine lv_dup hx hb dX0_put_23 rfl ?_
  refine va_get (D := (dC, dI)) (ci := 3) (v := .int 1) (C := RX0) (T := TX0) (N := 15) hx hb hts (in_z_X0_put_1_X0) hown hK hP 0 rfl rfl 2 (by decide) (hts (.fieldLink RX0 35 "HeapWorks$Archive" "filled" "I") (by decide +kernel)) (fun _ h9 => h9) (ow_at o_Fs0 0 rfl) dX0_put_24 ?_
  refine lv_iconst (v := 1) hx hb dX0_put_27 (by decide) ?_
  refine lv_iadd hx hb dX0_put_28  ?_
  refine lv_topi (fun x7364 ex7364 => ?_)
  obtain rfl : x7364 = 2 := ex7364.trans (by decide)
  refine va_put (D := (dC, dI)) (ci := 3) (v := .int 2) (ty := .int) (C := RX0) (T := TX0) (N := 15) hx hb hts (in_z_X0_put_1_X0) tyX0 tyX0_ok nmX0 hown hK hP hD hS 0 rfl rfl 2 (by decide) (hts (.fieldLink RX0 35 "HeapWorks$Archive" "filled" "I") (by decide +kernel)) (fun _ h9 => h9) rfl (by decide +kernel) rfl rfl (by rw [o_Fs0.2.1]; decide) dX0_put_29 (fun H locs hP hD hS => ?_)
  have hP : va_P (dC, dI) vwCl [(Ad0, .inr (3, (Fs0.set 2 (.int 2)))), (Ad1, .inl (Ka0, 4000, .inl f7362))] H := hP
  have hD : va_D A [(Ad0, .inr (3, (Fs0.set 2 (.int 2)))), (Ad1, .inl (Ka0, 4000, .inl f7362))] := hD
  have o_s7365 := ow_set o_Fs0 2 (.int 2) (by decide) (l' := [(2, .int 2), (1, .ref Ad1), (1, .ref Ad1)]) (w' := [2]) rfl rfl
  generalize (Fs0.set 2 (.int 2)) = s7365 at hP hD o_s7365
  have hP9 := hP.sub (ws' := [(Ad0, .inr (3, s7365)), (Ad1, .inl (Ka0, 4000, .inl f7362))]) [0, 1] rfl
  have hD9 := hD.sub (ws' := [(Ad0, .inr (3, s7365)), (Ad1, .inl (Ka0, 4000, .inl f7362))]) [0, 1] (by decide) rfl
  have hK9 := hK.sub (tys' := [(Ka0, .int)]) [0] rfl
  exact W.vret hx hb hr (fun t ht hW => ⟨⟨(s7365, f7362), rfl, ⟨o_s7365, q7363⟩, by rw [ht]; exact hP9, va_K.moved hW.alike hK9, hD9⟩, hS.F ht⟩) hS.2.2 dX0_put_32

def l_z_X0_put_2 : List Cond := [.fieldLink RX0 35 "HeapWorks$Archive" "filled" "I", .fieldLink RX0 19 "HeapWorks$Archive" "buffer" "[I"]
def w_z_X0_put_2 : List Cond := .code yX0_put cX0_put 2 none :: (l_z_X0_put_2 ++ (wsX00))
theorem in_z_X0_put_2_X0 : ∀ w ∈ wsX00, w ∈ w_z_X0_put_2 := fun w h => List.mem_cons_of_mem _ (List.mem_append_right _ (h))
set_option maxHeartbeats 4000000 in
set_option maxRecDepth 100000 in
theorem z_X0_put_2 (l : Launch) (dC : Nat → ClassId) (dI : Nat → Nat → Nat) (sz : Nat) (Ad0 : Nat) (Fs0 : List Value) (Ad1 : Nat) (Fa0 : Nat → Int32) (Ka0 : ClassId) (k_Fs0 : fh Fs0 15 [(2, .int 2), (1, .ref Ad1), (1, .ref Ad1), (1, .ref Ad1), (1, .ref Ad1)])  : Met l yX0_put w_z_X0_put_2 ({ frames := 0, cells := 0, slots := 0, locals := 0 }) (va_Pc [.ref Ad0, .int 0] (fun U => U.heap.size = sz ∧ Wd dC dI [(Ka0, .int)] (fun _ => True) [(Ad0, .inr (3, Fs0)), (Ad1, .inl (Ka0, 4000, .inl Fa0))] U)) (va_Qv (fun (u : List Value × (Nat → Int32)) => (ow Fs0 (u.1) 15 [2] [(2, .int 3), (1, .ref Ad1), (1, .ref Ad1), (1, .ref Ad1), (1, .ref Ad1)] ∧ (u.2) (2 : Int32).toNatClampNeg = 0)) (fun (u : List Value × (Nat → Int32)) t => Wd dC dI [(Ka0, .int)] (va_A [(Ad0, .inr (3, Fs0)), (Ad1, .inl (Ka0, 4000, .inl Fa0))] sz) [(Ad0, .inr (3, (u.1))), (Ad1, .inl (Ka0, 4000, .inl ((u.2))))] t) (va_A [(Ad0, .inr (3, Fs0)), (Ad1, .inl (Ka0, 4000, .inl Fa0))] sz))  0 0 (va_A [(Ad0, .inr (3, Fs0)), (Ad1, .inl (Ka0, 4000, .inl Fa0))] sz) := by
  refine Met.ofW (cc := cX0_put) (maxL := 2) (ret := none) (by decide) rfl ?_
  intro p e s m args below meth c s₁ B hml hv
  obtain ⟨rfl, hsz, hP, hK, hD0⟩ := hv
  have hx := B.exec
  have hb := B.bytes
  have hr := B.returns
  have hts := atoms_spec (ws := w_z_X0_put_2) B.pre
  have hown : s.vm.findClass RX0 = some m.cls := findClass_of_methodNamed B.named
  have hlocks := B.notSynchronized
  subst hsz
  have hD := hD0.self (sz := s.heap.size)
  generalize hAe : va_A [(Ad0, .inr (3, Fs0)), (Ad1, .inl (Ka0, 4000, .inl Fa0))] s.heap.size = A at hD ⊢
  have hA : ∀ q : Nat, s.heap.size ≤ q → A q := fun q h => by rw [← hAe]; exact Or.inr h
  have hS : va_S A s.heap s.heap [] := va_S.rf
  have hl := lv_entry ([.ref Ad0, .int 0]) (n := 2) (Nat.le_of_ble_eq_true rfl)
  rw [lg_entry_eq]
  generalize (lg_sl ([.ref Ad0, .int 0]) ++ List.replicate (2 - (lg_sl ([.ref Ad0, .int 0])).length) Slot.unset).toArray = ls at hl ⊢
  have hl : lv_has ls 2 [(0, .ref Ad0), (1, .int 0)] := hl
  have o_Fs0 := ow_0 k_Fs0
  refine lv_aload_n hx hb dX0_put_0 rfl (lv_at hl 0 rfl) ?_
  refine va_get (D := (dC, dI)) (ci := 3) (v := .int 2) (C := RX0) (T := TX0) (N := 15) hx hb hts (in_z_X0_put_2_X0) hown hK hP 0 rfl rfl 2 (by decide) (hts (.fieldLink RX0 35 "HeapWorks$Archive" "filled" "I") (by decide +kernel)) (fun _ h9 => h9) (ow_at o_Fs0 0 rfl) dX0_put_1 ?_
  refine lv_aload_n hx hb dX0_put_4 rfl (lv_at hl 0 rfl) ?_
  refine va_get (D := (dC, dI)) (ci := 3) (v := .ref Ad1) (C := RX0) (T := TX0) (N := 15) hx hb hts (in_z_X0_put_2_X0) hown hK hP 0 rfl rfl 1 (by decide) (hts (.fieldLink RX0 19 "HeapWorks$Archive" "buffer" "[I") (by decide +kernel)) (fun _ h9 => h9) (ow_at o_Fs0 1 rfl) dX0_put_5 ?_
  refine va_alen (v := 4000) hx hb hK hP 1 0 rfl rfl (show Int32.ofNat 4000 = 4000 from by decide) dX0_put_8 ?_
  refine lv_icmp_ge (tgt := 22) hx hb dX0_put_9 (by decide) (fun c7385 => absurd c7385 (by decide)) (fun c7385 => ?_)
  refine lv_aload_n hx hb dX0_put_12 rfl (lv_at hl 0 rfl) ?_
  refine va_get (D := (dC, dI)) (ci := 3) (v := .ref Ad1) (C := RX0) (T := TX0) (N := 15) hx hb hts (in_z_X0_put_2_X0) hown hK hP 0 rfl rfl 1 (by decide) (hts (.fieldLink RX0 19 "HeapWorks$Archive" "buffer" "[I") (by decide +kernel)) (fun _ h9 => h9) (ow_at o_Fs0 1 rfl) dX0_put_13 ?_
  refine lv_aload_n hx hb dX0_put_16 rfl (lv_at hl 0 rfl) ?_
  refine va_get (D := (dC, dI)) (ci := 3) (v := .int 2) (C := RX0) (T := TX0) (N := 15) hx hb hts (in_z_X0_put_2_X0) hown hK hP 0 rfl rfl 2 (by decide) (hts (.fieldLink RX0 35 "HeapWorks$Archive" "filled" "I") (by decide +kernel)) (fun _ h9 => h9) (ow_at o_Fs0 0 rfl) dX0_put_17 ?_
  refine lv_iload_n hx hb dX0_put_20 rfl (lv_at hl 1 rfl) ?_
  refine va_iast hx hb hK hP hD hS 1 0 rfl rfl (show vp_in 2 4000 from by unfold vp_in; decide) dX0_put_21 (fun H locs hP hD hS => ?_)
  have hP : va_P (dC, dI) vwCl [(Ad0, .inr (3, Fs0)), (Ad1, .inl (Ka0, 4000, .inl (upd Fa0 (2 : Int32).toNatClampNeg 0)))] H := hP
  have hD : va_D A [(Ad0, .inr (3, Fs0)), (Ad1, .inl (Ka0, 4000, .inl (upd Fa0 (2 : Int32).toNatClampNeg 0)))] := hD
  have q7387 : (upd Fa0 (2 : Int32).toNatClampNeg 0) (2 : Int32).toNatClampNeg = 0 := pk_us
  generalize upd Fa0 (2 : Int32).toNatClampNeg 0 = f7386 at hP hD q7387
  refine lv_aload_n hx hb dX0_put_22 rfl (lv_at hl 0 rfl) ?_
  refine lv_dup hx hb dX0_put_23 rfl ?_
  refine va_get (D := (dC, dI)) (ci := 3) (v := .int 2) (C := RX0) (T := TX0) (N := 15) hx hb hts (in_z_X0_put_2_X0) hown hK hP 0 rfl rfl 2 (by decide) (hts (.fieldLink RX0 35 "HeapWorks$Archive" "filled" "I") (by decide +kernel)) (fun _ h9 => h9) (ow_at o_Fs0 0 rfl) dX0_put_24 ?_
  refine lv_iconst (v := 1) hx hb dX0_put_27 (by decide) ?_
  refine lv_iadd hx hb dX0_put_28  ?_
  refine lv_topi (fun x7388 ex7388 => ?_)
  obtain rfl : x7388 = 3 := ex7388.trans (by decide)
  refine va_put (D := (dC, dI)) (ci := 3) (v := .int 3) (ty := .int) (C := RX0) (T := TX0) (N := 15) hx hb hts (in_z_X0_put_2_X0) tyX0 tyX0_ok nmX0 hown hK hP hD hS 0 rfl rfl 2 (by decide) (hts (.fieldLink RX0 35 "HeapWorks$Archive" "filled" "I") (by decide +kernel)) (fun _ h9 => h9) rfl (by decide +kernel) rfl rfl (by rw [o_Fs0.2.1]; decide) dX0_put_29 (fun H locs hP hD hS => ?_)
  have hP : va_P (dC, dI) vwCl [(Ad0, .inr (3, (Fs0.set 2 (.int 3)))), (Ad1, .inl (Ka0, 4000, .inl f7386))] H := hP
  have hD : va_D A [(Ad0, .inr (3, (Fs0.set 2 (.int 3)))), (Ad1, .inl (Ka0, 4000, .inl f7386))] := hD
  have o_s7389 := ow_set o_Fs0 2 (.int 3) (by decide) (l' := [(2, .int 3), (1, .ref Ad1), (1, .ref Ad1), (1, .ref Ad1), (1, .ref Ad1)]) (w' := [2]) rfl rfl
  generalize (Fs0.set 2 (.int 3)) = s7389 at hP hD o_s7389
  have hP9 := hP.sub (ws' := [(Ad0, .inr (3, s7389)), (Ad1, .inl (Ka0, 4000, .inl f7386))]) [0, 1] rfl
  have hD9 := hD.sub (ws' := [(Ad0, .inr (3, s7389)), (Ad1, .inl (Ka0, 4000, .inl f7386))]) [0, 1] (by decide) rfl
  have hK9 := hK.sub (tys' := [(Ka0, .int)]) [0] rfl
  exact W.vret hx hb hr (fun t ht hW => ⟨⟨(s7389, f7386), rfl, ⟨o_s7389, q7387⟩, by rw [ht]; exact hP9, va_K.moved hW.alike hK9, hD9⟩, hS.F ht⟩) hS.2.2 dX0_put_32

def l_z_X0_putNumber : List Cond := [.methodLink RX0 39 yX0_put, .instanceMethod yX0_put, .selects RX0 yX0_put yX0_put, .initialized RX0, .code yX0_put cX0_put 2 none, .fieldLink RX0 35 "HeapWorks$Archive" "filled" "I", .fieldLink RX0 19 "HeapWorks$Archive" "buffer" "[I"]
def w_z_X0_putNumber : List Cond := .code yX0_putNumber cX0_putNumber 6 none :: (l_z_X0_putNumber ++ (wsX00))
theorem in_z_X0_putNumber_X0 : ∀ w ∈ wsX00, w ∈ w_z_X0_putNumber := fun w h => List.mem_cons_of_mem _ (List.mem_append_right _ (h))
theorem g_z_X0_putNumber_z_X0_put_2_39 : GoodIn w_z_X0_putNumber (wsV RX0 39 RX0 yX0_put w_z_X0_put_2) := goodIn_app (goodIn_sub (by decide +kernel) (by decide +kernel)) (goodIn_ca (goodIn_sub (by decide +kernel) (by decide +kernel)) (goodIn_in in_z_X0_putNumber_X0 gd_X0))
set_option maxHeartbeats 4000000 in
set_option maxRecDepth 100000 in
theorem z_X0_putNumber (l : Launch) (dC : Nat → ClassId) (dI : Nat → Nat → Nat) (sz : Nat) (Ad0 : Nat) (Fs0 : List Value) (Ad1 : Nat) (Fa0 : Nat → Int32) (Ka0 : ClassId) (k_Fs0 : fh Fs0 15 [(2, .int 2), (1, .ref Ad1), (1, .ref Ad1), (1, .ref Ad1), (1, .ref Ad1)])  : Met l yX0_putNumber w_z_X0_putNumber ({ frames := 1, cells := 0, slots := 0, locals := 21 }) (va_Pc [.ref Ad0, .long 0] (fun U => U.heap.size = sz ∧ Wd dC dI [(Ka0, .int)] (fun _ => True) [(Ad0, .inr (3, Fs0)), (Ad1, .inl (Ka0, 4000, .inl Fa0))] U)) (va_Qv (fun (u : List Value × (Nat → Int32)) => (ow Fs0 (u.1) 15 [2] [(2, .int 3), (1, .ref Ad1), (1, .ref Ad1), (1, .ref Ad1), (1, .ref Ad1), (1, .ref Ad1), (1, .ref Ad1), (1, .ref Ad1), (1, .ref Ad1)] ∧ (u.2) (2 : Int32).toNatClampNeg = 0) ∨ (ow Fs0 (u.1) 15 [2] [(2, .int 3), (1, .ref Ad1), (1, .ref Ad1), (1, .ref Ad1), (1, .ref Ad1), (1, .ref Ad1), (1, .ref Ad1), (1, .ref Ad1), (1, .ref Ad1)] ∧ (u.2) (2 : Int32).toNatClampNeg = 0)) (fun (u : List Value × (Nat → Int32)) t => Wd dC dI [(Ka0, .int)] (va_A [(Ad0, .inr (3, Fs0)), (Ad1, .inl (Ka0, 4000, .inl Fa0))] sz) [(Ad0, .inr (3, (u.1))), (Ad1, .inl (Ka0, 4000, .inl ((u.2))))] t) (va_A [(Ad0, .inr (3, Fs0)), (Ad1, .inl (Ka0, 4000, .inl Fa0))] sz))  0 0 (va_A [(Ad0, .inr (3, Fs0)), (Ad1, .inl (Ka0, 4000, .inl Fa0))] sz) := by
  refine Met.ofW (cc := cX0_putNumber) (maxL := 6) (ret := none) (by decide) rfl ?_
  intro p e s m args below meth c s₁ B hml hv
  obtain ⟨rfl, hsz, hP, hK, hD0⟩ := hv
  have hx := B.exec
  have hb := B.bytes
  have hr := B.returns
  have hts := atoms_spec (ws := w_z_X0_putNumber) B.pre
  have hown : s.vm.findClass RX0 = some m.cls := findClass_of_methodNamed B.named
  have hlocks := B.notSynchronized
  subst hsz
  have hD := hD0.self (sz := s.heap.size)
  generalize hAe : va_A [(Ad0, .inr (3, Fs0)), (Ad1, .inl (Ka0, 4000, .inl Fa0))] s.heap.size = A at hD ⊢
  have hA : ∀ q : Nat, s.heap.size ≤ q → A q := fun q h => by rw [← hAe]; exact Or.inr h
  have hS : va_S A s.heap s.heap [] := va_S.rf
  have hl := lv_entry ([.ref Ad0, .long 0]) (n := 6) (Nat.le_of_ble_eq_true rfl)
  rw [lg_entry_eq]
  generalize (lg_sl ([.ref Ad0, .long 0]) ++ List.replicate (6 - (lg_sl ([.ref Ad0, .long 0])).length) Slot.unset).toArray = ls at hl ⊢
  have hl : lv_has ls 6 [(0, .ref Ad0), (1, .long 0)] := hl
  have o_Fs0 := ow_0 k_Fs0
  refine lv_lload_n hx hb dX0_putNumber_0 rfl (lv_at hl 1 rfl) ?_
  refine lv_lstore_n (lv' := [(3, .long 0), (0, .ref Ad0), (1, .long 0)]) hx hb dX0_putNumber_1 rfl hl (by decide) rfl (fun ls hl => ?_)
  refine lv_iconst (v := 0) hx hb dX0_putNumber_2 (by decide) ?_
  refine lv_istore (lv' := [(5, .int 0), (3, .long 0), (0, .ref Ad0), (1, .long 0)]) hx hb dX0_putNumber_3 hl (by decide) rfl (fun ls hl => ?_)
  have HL1 : ∀ (n j7466 : Nat) (x7467 : Int32), x7467 = nI j7466 → 0 ≤ j7466 → j7466 ≤ 10 → 11 ≤ j7466 + n → ∀ (H : Heap) (locs : List Loc) (ls : Array Slot), va_P (dC, dI) vwCl [(Ad0, .inr (3, Fs0)), (Ad1, .inl (Ka0, 4000, .inl Fa0))] H → va_D A [(Ad0, .inr (3, Fs0)), (Ad1, .inl (Ka0, 4000, .inl Fa0))] → va_S A s.heap H locs → lv_has ls 6 [(5, .int x7467), (3, .long 0), (0, .ref Ad0), (1, .long 0)] → W p l e (headSpec w_z_X0_putNumber ({ frames := 1, cells := 0, slots := 0, locals := 21 })).room s m ([.ref Ad0, .long 0]).toArray below meth c H locs 0 0 (MQ below (va_Qv (fun (u : List Value × (Nat → Int32)) => (ow Fs0 (u.1) 15 [2] [(2, .int 3), (1, .ref Ad1), (1, .ref Ad1), (1, .ref Ad1), (1, .ref Ad1), (1, .ref Ad1), (1, .ref Ad1), (1, .ref Ad1), (1, .ref Ad1)] ∧ (u.2) (2 : Int32).toNatClampNeg = 0) ∨ (ow Fs0 (u.1) 15 [2] [(2, .int 3), (1, .ref Ad1), (1, .ref Ad1), (1, .ref Ad1), (1, .ref Ad1), (1, .ref Ad1), (1, .ref Ad1), (1, .ref Ad1), (1, .ref Ad1)] ∧ (u.2) (2 : Int32).toNatClampNeg = 0)) (fun (u : List Value × (Nat → Int32)) t => Wd dC dI [(Ka0, .int)] A [(Ad0, .inr (3, (u.1))), (Ad1, .inl (Ka0, 4000, .inl ((u.2))))] t) A) ([.ref Ad0, .long 0]).toArray s 0 0 A) (F0 m 5 ls []) := by
    intro n
    induction n with
    | zero =>
      intro j7466 x7467 e7468 h7470 h7471 h7472
      exact absurd h7472 (by omega)
    | succ n ih =>
      intro j7466 x7467 e7468 h7470 h7471 h7472 H locs ls hP hD hS hl
      have t7469 : x7467.toInt = (j7466 : Int) := by rw [e7468]; exact nI_toInt (by omega)
      refine lv_iload hx hb dX0_putNumber_5 (lv_at hl 0 rfl) ?_
      refine lv_bipush (v := 10) hx hb dX0_putNumber_7 (by decide) ?_
      refine lv_icmp_ge (tgt := 46) hx hb dX0_putNumber_9 (by decide) (fun c7473 => ?_) (fun c7473 => ?_)
      · skip
        refine lv_aload_n hx hb dX0_putNumber_46 rfl (lv_at hl 2 rfl) ?_
        refine lv_lload_n hx hb dX0_putNumber_47 rfl (lv_at hl 1 rfl) ?_
        refine lv_l2i hx hb dX0_putNumber_48 rfl ?_
        refine lv_topi (fun x7474 ex7474 => ?_)
        obtain rfl : x7474 = 0 := ex7474.trans (by decide)
        have hPc := hP.sub (ws' := [(Ad0, .inr (3, Fs0)), (Ad1, .inl (Ka0, 4000, .inl Fa0))]) [0, 1] rfl
        have hDc := hD.sub (ws' := [(Ad0, .inr (3, Fs0)), (Ad1, .inl (Ka0, 4000, .inl Fa0))]) [0, 1] (by decide) rfl
        have hKc := hK.sub (tys' := [(Ka0, .int)]) [0] rfl
        have hFc := va_free (wc := [(Ad0, .inr (3, Fs0)), (Ad1, .inl (Ka0, 4000, .inl Fa0))]) hD hS hA [0, 1] rfl
        refine va_callv (va_runV (As := [.int 0]) (rest := []) ⟨hx, hb, hml, hown, hts⟩ (z_X0_put_2 l dC dI H.size Ad0 Fs0 Ad1 Fa0 Ka0 (fh_sub o_Fs0.2 [0, 1, 1, 1, 1] rfl) ) (cwV 1 hts g_z_X0_putNumber_z_X0_put_2_39 rfl rfl rfl (by decide +kernel) ⟨Nat.le_of_ble_eq_true rfl, Nat.le_of_ble_eq_true rfl⟩) ⟨fun a U g mk q => by obtain ⟨q0, q1, qP, qK, qD⟩ := q; exact ⟨q0, q1, qP, va_K.moved (u := U) (U := U.calling g mk a) (Vm.Alike.refl U.vm) qK, qD⟩, va_recv hK hP (ci := 3) (q0 := 0) rfl rfl, fun U hU hW => ⟨rfl, by rw [hU], by rw [hU]; exact hPc, va_K.moved hW.alike hKc, hDc.weaken (fun _ _ _ _ => trivial)⟩⟩ rfl rfl hl.1 rfl (lv_room (Nat.le_of_ble_eq_true rfl)) dX0_putNumber_49 ⟨Nat.le_of_ble_eq_true rfl, Nat.le_of_ble_eq_true rfl⟩) hS (fun q _ h => hFc q h) hFc (fun u t H1 locs ht hvm hw hB hz1 hk1 hS => ?_)
        obtain ⟨s7480, f7481⟩ := u
        obtain ⟨hP1, hK1, hD1⟩ := hB
        rw [ht] at hP1
        try dsimp only at hw
        obtain ⟨hP, hD⟩ := va_join (wr := []) (w1 := [(Ad0, .inr (3, s7480)), (Ad1, .inl (Ka0, 4000, .inl f7481))]) hP hD [0, 1] [] rfl rfl (by decide) (by decide) hk1 hFc hP1 hD1
        have hK := hK.sub (tys' := [(Ka0, .int)]) [0] rfl
        generalize H1 = H at hP hS ⊢
        have hP : va_P (dC, dI) vwCl [(Ad0, .inr (3, s7480)), (Ad1, .inl (Ka0, 4000, .inl f7481))] H := hP
        have hD : va_D A [(Ad0, .inr (3, s7480)), (Ad1, .inl (Ka0, 4000, .inl f7481))] := hD
        obtain ⟨o_s7480, q7482⟩ := hw
        have o_s7480 := ow_on o_Fs0 o_s7480 (l' := [(2, .int 3), (1, .ref Ad1), (1, .ref Ad1), (1, .ref Ad1), (1, .ref Ad1), (1, .ref Ad1), (1, .ref Ad1), (1, .ref Ad1), (1, .ref Ad1)]) (w' := [2]) rfl rfl
        have hP9 := hP.sub (ws' := [(Ad0, .inr (3, s7480)), (Ad1, .inl (Ka0, 4000, .inl f7481))]) [0, 1] rfl
        have hD9 := hD.sub (ws' := [(Ad0, .inr (3, s7480)), (Ad1, .inl (Ka0, 4000, .inl f7481))]) [0, 1] (by decide) rfl
        have hK9 := hK.sub (tys' := [(Ka0, .int)]) [0] rfl
        exact W.vret hx hb hr (fun t ht hW => ⟨⟨(s7480, f7481), rfl, (Or.inl ⟨o_s7480, q7482⟩), by rw [ht]; exact hP9, va_K.moved hW.alike hK9, hD9⟩, hS.F ht⟩) hS.2.2 dX0_putNumber_52
      · skip
        refine lv_lload_n hx hb dX0_putNumber_12 rfl (lv_at hl 1 rfl) ?_
        refine lv_bipush (v := 7) hx hb dX0_putNumber_13 (by decide) ?_
        refine lv_lushr hx hb dX0_putNumber_15 rfl ?_
        refine lv_topl (fun x7483 ex7483 => ?_)
        obtain rfl : x7483 = 0 := ex7483.trans (by decide)
        refine lv_lconst (v := 0) hx hb dX0_putNumber_16 (by decide) ?_
        refine W.lcmp hx hb dX0_putNumber_17  ?_
        refine lv_topi (fun x7484 ex7484 => ?_)
        obtain rfl : x7484 = 0 := ex7484.trans (by decide)
        refine lv_if_eq (tgt := 46) hx hb dX0_putNumber_18 (by decide) (fun c7485 => ?_) (fun c7485 => absurd c7485 (by decide))
        refine lv_aload_n hx hb dX0_putNumber_46 rfl (lv_at hl 2 rfl) ?_
        refine lv_lload_n hx hb dX0_putNumber_47 rfl (lv_at hl 1 rfl) ?_
        refine lv_l2i hx hb dX0_putNumber_48 rfl ?_
        refine lv_topi (fun x7486 ex7486 => ?_)
        obtain rfl : x7486 = 0 := ex7486.trans (by decide)
        have hPc := hP.sub (ws' := [(Ad0, .inr (3, Fs0)), (Ad1, .inl (Ka0, 4000, .inl Fa0))]) [0, 1] rfl
        have hDc := hD.sub (ws' := [(Ad0, .inr (3, Fs0)), (Ad1, .inl (Ka0, 4000, .inl Fa0))]) [0, 1] (by decide) rfl
        have hKc := hK.sub (tys' := [(Ka0, .int)]) [0] rfl
        have hFc := va_free (wc := [(Ad0, .inr (3, Fs0)), (Ad1, .inl (Ka0, 4000, .inl Fa0))]) hD hS hA [0, 1] rfl
        refine va_callv (va_runV (As := [.int 0]) (rest := []) ⟨hx, hb, hml, hown, hts⟩ (z_X0_put_2 l dC dI H.size Ad0 Fs0 Ad1 Fa0 Ka0 (fh_sub o_Fs0.2 [0, 1, 1, 1, 1] rfl) ) (cwV 1 hts g_z_X0_putNumber_z_X0_put_2_39 rfl rfl rfl (by decide +kernel) ⟨Nat.le_of_ble_eq_true rfl, Nat.le_of_ble_eq_true rfl⟩) ⟨fun a U g mk q => by obtain ⟨q0, q1, qP, qK, qD⟩ := q; exact ⟨q0, q1, qP, va_K.moved (u := U) (U := U.calling g mk a) (Vm.Alike.refl U.vm) qK, qD⟩, va_recv hK hP (ci := 3) (q0 := 0) rfl rfl, fun U hU hW => ⟨rfl, by rw [hU], by rw [hU]; exact hPc, va_K.moved hW.alike hKc, hDc.weaken (fun _ _ _ _ => trivial)⟩⟩ rfl rfl hl.1 rfl (lv_room (Nat.le_of_ble_eq_true rfl)) dX0_putNumber_49 ⟨Nat.le_of_ble_eq_true rfl, Nat.le_of_ble_eq_true rfl⟩) hS (fun q _ h => hFc q h) hFc (fun u t H1 locs ht hvm hw hB hz1 hk1 hS => ?_)
        obtain ⟨s7492, f7493⟩ := u
        obtain ⟨hP1, hK1, hD1⟩ := hB
        rw [ht] at hP1
        try dsimp only at hw
        obtain ⟨hP, hD⟩ := va_join (wr := []) (w1 := [(Ad0, .inr (3, s7492)), (Ad1, .inl (Ka0, 4000, .inl f7493))]) hP hD [0, 1] [] rfl rfl (by decide) (by decide) hk1 hFc hP1 hD1
        have hK := hK.sub (tys' := [(Ka0, .int)]) [0] rfl
        generalize H1 = H at hP hS ⊢
        have hP : va_P (dC, dI) vwCl [(Ad0, .inr (3, s7492)), (Ad1, .inl (Ka0, 4000, .inl f7493))] H := hP
        have hD : va_D A [(Ad0, .inr (3, s7492)), (Ad1, .inl (Ka0, 4000, .inl f7493))] := hD
        obtain ⟨o_s7492, q7494⟩ := hw
        have o_s7492 := ow_on o_Fs0 o_s7492 (l' := [(2, .int 3), (1, .ref Ad1), (1, .ref Ad1), (1, .ref Ad1), (1, .ref Ad1), (1, .ref Ad1), (1, .ref Ad1), (1, .ref Ad1), (1, .ref Ad1)]) (w' := [2]) rfl rfl
        have hP9 := hP.sub (ws' := [(Ad0, .inr (3, s7492)), (Ad1, .inl (Ka0, 4000, .inl f7493))]) [0, 1] rfl
        have hD9 := hD.sub (ws' := [(Ad0, .inr (3, s7492)), (Ad1, .inl (Ka0, 4000, .inl f7493))]) [0, 1] (by decide) rfl
        have hK9 := hK.sub (tys' := [(Ka0, .int)]) [0] rfl
        exact W.vret hx hb hr (fun t ht hW => ⟨⟨(s7492, f7493), rfl, (Or.inr (⟨o_s7492, q7494⟩)), by rw [ht]; exact hP9, va_K.moved hW.alike hK9, hD9⟩, hS.F ht⟩) hS.2.2 dX0_putNumber_52
  exact HL1 11 0 (0)  (by decide) (by omega) (by omega) (by omega) _ _ _ hP hD hS  hl

def l_z_X0_put_3 : List Cond := [.fieldLink RX0 35 "HeapWorks$Archive" "filled" "I", .fieldLink RX0 19 "HeapWorks$Archive" "buffer" "[I"]
def w_z_X0_put_3 : List Cond := .code yX0_put cX0_put 2 none :: (l_z_X0_put_3 ++ (wsX00))
theorem in_z_X0_put_3_X0 : ∀ w ∈ wsX00, w ∈ w_z_X0_put_3 := fun w h => List.mem_cons_of_mem _ (List.mem_append_right _ (h))
set_option maxHeartbeats 4000000 in
set_option maxRecDepth 100000 in
theorem z_X0_put_3 (l : Launch) (dC : Nat → ClassId) (dI : Nat → Nat → Nat) (sz : Nat) (Ad0 : Nat) (Fs0 : List Value) (Ad1 : Nat) (Fa0 : Nat → Int32) (Ka0 : ClassId) (k_Fs0 : fh Fs0 15 [(2, .int 3), (1, .ref Ad1), (1, .ref Ad1), (1, .ref Ad1), (1, .ref Ad1), (1, .ref Ad1), (1, .ref Ad1), (1, .ref Ad1), (1, .ref Ad1), (1, .ref Ad1), (1, .ref Ad1), (1, .ref Ad1), (1, .ref Ad1)])  : Met l yX0_put w_z_X0_put_3 ({ frames := 0, cells := 0, slots := 0, locals := 0 }) (va_Pc [.ref Ad0, .int 0] (fun U => U.heap.size = sz ∧ Wd dC dI [(Ka0, .int)] (fun _ => True) [(Ad0, .inr (3, Fs0)), (Ad1, .inl (Ka0, 4000, .inl Fa0))] U)) (va_Qv (fun (u : List Value × (Nat → Int32)) => (ow Fs0 (u.1) 15 [2] [(2, .int 4), (1, .ref Ad1), (1, .ref Ad1), (1, .ref Ad1), (1, .ref Ad1), (1, .ref Ad1), (1, .ref Ad1), (1, .ref Ad1), (1, .ref Ad1), (1, .ref Ad1), (1, .ref Ad1), (1, .ref Ad1), (1, .ref Ad1)] ∧ (u.2) (3 : Int32).toNatClampNeg = 0)) (fun (u : List Value × (Nat → Int32)) t => Wd dC dI [(Ka0, .int)] (va_A [(Ad0, .inr (3, Fs0)), (Ad1, .inl (Ka0, 4000, .inl Fa0))] sz) [(Ad0, .inr (3, (u.1))), (Ad1, .inl (Ka0, 4000, .inl ((u.2))))] t) (va_A [(Ad0, .inr (3, Fs0)), (Ad1, .inl (Ka0, 4000, .inl Fa0))] sz))  0 0 (va_A [(Ad0, .inr (3, Fs0)), (Ad1, .inl (Ka0, 4000, .inl Fa0))] sz) := by
  refine Met.ofW (cc := cX0_put) (maxL := 2) (ret := none) (by decide) rfl ?_
  intro p e s m args below meth c s₁ B hml hv
  obtain ⟨rfl, hsz, hP, hK, hD0⟩ := hv
  have hx := B.exec
  have hb := B.bytes
  have hr := B.returns
  have hts := atoms_spec (ws := w_z_X0_put_3) B.pre
  have hown : s.vm.findClass RX0 = some m.cls := findClass_of_methodNamed B.named
  have hlocks := B.notSynchronized
  subst hsz
  have hD := hD0.self (sz := s.heap.size)
  generalize hAe : va_A [(Ad0, .inr (3, Fs0)), (Ad1, .inl (Ka0, 4000, .inl Fa0))] s.heap.size = A at hD ⊢
  have hA : ∀ q : Nat, s.heap.size ≤ q → A q := fun q h => by rw [← hAe]; exact Or.inr h
  have hS : va_S A s.heap s.heap [] := va_S.rf
  have hl := lv_entry ([.ref Ad0, .int 0]) (n := 2) (Nat.le_of_ble_eq_true rfl)
  rw [lg_entry_eq]
  generalize (lg_sl ([.ref Ad0, .int 0]) ++ List.replicate (2 - (lg_sl ([.ref Ad0, .int 0])).length) Slot.unset).toArray = ls at hl ⊢
  have hl : lv_has ls 2 [(0, .ref Ad0), (1, .int 0)] := hl
  have o_Fs0 := ow_0 k_Fs0
  refine lv_aload_n hx hb dX0_put_0 rfl (lv_at hl 0 rfl) ?_
  refine va_get (D := (dC, dI)) (ci := 3) (v := .int 3) (C := RX0) (T := TX0) (N := 15) hx hb hts (in_z_X0_put_3_X0) hown hK hP 0 rfl rfl 2 (by decide) (hts (.fieldLink RX0 35 "HeapWorks$Archive" "filled" "I") (by decide +kernel)) (fun _ h9 => h9) (ow_at o_Fs0 0 rfl) dX0_put_1 ?_
  refine lv_aload_n hx hb dX0_put_4 rfl (lv_at hl 0 rfl) ?_
  refine va_get (D := (dC, dI)) (ci := 3) (v := .ref Ad1) (C := RX0) (T := TX0) (N := 15) hx hb hts (in_z_X0_put_3_X0) hown hK hP 0 rfl rfl 1 (by decide) (hts (.fieldLink RX0 19 "HeapWorks$Archive" "buffer" "[I") (by decide +kernel)) (fun _ h9 => h9) (ow_at o_Fs0 1 rfl) dX0_put_5 ?_
  refine va_alen (v := 4000) hx hb hK hP 1 0 rfl rfl (show Int32.ofNat 4000 = 4000 from by decide) dX0_put_8 ?_
  refine lv_icmp_ge (tgt := 22) hx hb dX0_put_9 (by decide) (fun c7516 => absurd c7516 (by decide)) (fun c7516 => ?_)
  refine lv_aload_n hx hb dX0_put_12 rfl (lv_at hl 0 rfl) ?_
  refine va_get (D := (dC, dI)) (ci := 3) (v := .ref Ad1) (C := RX0) (T := TX0) (N := 15) hx hb hts (in_z_X0_put_3_X0) hown hK hP 0 rfl rfl 1 (by decide) (hts (.fieldLink RX0 19 "HeapWorks$Archive" "buffer" "[I") (by decide +kernel)) (fun _ h9 => h9) (ow_at o_Fs0 1 rfl) dX0_put_13 ?_
  refine lv_aload_n hx hb dX0_put_16 rfl (lv_at hl 0 rfl) ?_
  refine va_get (D := (dC, dI)) (ci := 3) (v := .int 3) (C := RX0) (T := TX0) (N := 15) hx hb hts (in_z_X0_put_3_X0) hown hK hP 0 rfl rfl 2 (by decide) (hts (.fieldLink RX0 35 "HeapWorks$Archive" "filled" "I") (by decide +kernel)) (fun _ h9 => h9) (ow_at o_Fs0 0 rfl) dX0_put_17 ?_
  refine lv_iload_n hx hb dX0_put_20 rfl (lv_at hl 1 rfl) ?_
  refine va_iast hx hb hK hP hD hS 1 0 rfl rfl (show vp_in 3 4000 from by unfold vp_in; decide) dX0_put_21 (fun H locs hP hD hS => ?_)
  have hP : va_P (dC, dI) vwCl [(Ad0, .inr (3, Fs0)), (Ad1, .inl (Ka0, 4000, .inl (upd Fa0 (3 : Int32).toNatClampNeg 0)))] H := hP
  have hD : va_D A [(Ad0, .inr (3, Fs0)), (Ad1, .inl (Ka0, 4000, .inl (upd Fa0 (3 : Int32).toNatClampNeg 0)))] := hD
  have q7518 : (upd Fa0 (3 : Int32).toNatClampNeg 0) (3 : Int32).toNatClampNeg = 0 := pk_us
  generalize upd Fa0 (3 : Int32).toNatClampNeg 0 = f7517 at hP hD q7518
  refine lv_aload_n hx hb dX0_put_22 rfl (lv_at hl 0 rfl) ?_
  refine lv_dup hx hb dX0_put_23 rfl ?_
  refine va_get (D := (dC, dI)) (ci := 3) (v := .int 3) (C := RX0) (T := TX0) (N := 15) hx hb hts (in_z_X0_put_3_X0) hown hK hP 0 rfl rfl 2 (by decide) (hts (.fieldLink RX0 35 "HeapWorks$Archive" "filled" "I") (by decide +kernel)) (fun _ h9 => h9) (ow_at o_Fs0 0 rfl) dX0_put_24 ?_
  refine lv_iconst (v := 1) hx hb dX0_put_27 (by decide) ?_
  refine lv_iadd hx hb dX0_put_28  ?_
  refine lv_topi (fun x7519 ex7519 => ?_)
  obtain rfl : x7519 = 4 := ex7519.trans (by decide)
  refine va_put (D := (dC, dI)) (ci := 3) (v := .int 4) (ty := .int) (C := RX0) (T := TX0) (N := 15) hx hb hts (in_z_X0_put_3_X0) tyX0 tyX0_ok nmX0 hown hK hP hD hS 0 rfl rfl 2 (by decide) (hts (.fieldLink RX0 35 "HeapWorks$Archive" "filled" "I") (by decide +kernel)) (fun _ h9 => h9) rfl (by decide +kernel) rfl rfl (by rw [o_Fs0.2.1]; decide) dX0_put_29 (fun H locs hP hD hS => ?_)
  have hP : va_P (dC, dI) vwCl [(Ad0, .inr (3, (Fs0.set 2 (.int 4)))), (Ad1, .inl (Ka0, 4000, .inl f7517))] H := hP
  have hD : va_D A [(Ad0, .inr (3, (Fs0.set 2 (.int 4)))), (Ad1, .inl (Ka0, 4000, .inl f7517))] := hD
  have o_s7520 := ow_set o_Fs0 2 (.int 4) (by decide) (l' := [(2, .int 4), (1, .ref Ad1), (1, .ref Ad1), (1, .ref Ad1), (1, .ref Ad1), (1, .ref Ad1), (1, .ref Ad1), (1, .ref Ad1), (1, .ref Ad1), (1, .ref Ad1), (1, .ref Ad1), (1, .ref Ad1), (1, .ref Ad1)]) (w' := [2]) rfl rfl
  generalize (Fs0.set 2 (.int 4)) = s7520 at hP hD o_s7520
  have hP9 := hP.sub (ws' := [(Ad0, .inr (3, s7520)), (Ad1, .inl (Ka0, 4000, .inl f7517))]) [0, 1] rfl
  have hD9 := hD.sub (ws' := [(Ad0, .inr (3, s7520)), (Ad1, .inl (Ka0, 4000, .inl f7517))]) [0, 1] (by decide) rfl
  have hK9 := hK.sub (tys' := [(Ka0, .int)]) [0] rfl
  exact W.vret hx hb hr (fun t ht hW => ⟨⟨(s7520, f7517), rfl, ⟨o_s7520, q7518⟩, by rw [ht]; exact hP9, va_K.moved hW.alike hK9, hD9⟩, hS.F ht⟩) hS.2.2 dX0_put_32

def l_z_X0_putNumber_1 : List Cond := [.methodLink RX0 39 yX0_put, .instanceMethod yX0_put, .selects RX0 yX0_put yX0_put, .initialized RX0, .code yX0_put cX0_put 2 none, .fieldLink RX0 35 "HeapWorks$Archive" "filled" "I", .fieldLink RX0 19 "HeapWorks$Archive" "buffer" "[I"]
def w_z_X0_putNumber_1 : List Cond := .code yX0_putNumber cX0_putNumber 6 none :: (l_z_X0_putNumber_1 ++ (wsX00))
theorem in_z_X0_putNumber_1_X0 : ∀ w ∈ wsX00, w ∈ w_z_X0_putNumber_1 := fun w h => List.mem_cons_of_mem _ (List.mem_append_right _ (h))
theorem g_z_X0_putNumber_1_z_X0_put_3_39 : GoodIn w_z_X0_putNumber_1 (wsV RX0 39 RX0 yX0_put w_z_X0_put_3) := goodIn_app (goodIn_sub (by decide +kernel) (by decide +kernel)) (goodIn_ca (goodIn_sub (by decide +kernel) (by decide +kernel)) (goodIn_in in_z_X0_putNumber_1_X0 gd_X0))
set_option maxHeartbeats 4000000 in
set_option maxRecDepth 100000 in
theorem z_X0_putNumber_1 (l : Launch) (dC : Nat → ClassId) (dI : Nat → Nat → Nat) (sz : Nat) (Ad0 : Nat) (Fs0 : List Value) (Ad1 : Nat) (Fa0 : Nat → Int32) (Ka0 : ClassId) (k_Fs0 : fh Fs0 15 [(2, .int 3), (1, .ref Ad1), (1, .ref Ad1), (1, .ref Ad1), (1, .ref Ad1), (1, .ref Ad1), (1, .ref Ad1), (1, .ref Ad1), (1, .ref Ad1), (1, .ref Ad1), (1, .ref Ad1), (1, .ref Ad1), (1, .ref Ad1)])  : Met l yX0_putNumber w_z_X0_putNumber_1 ({ frames := 1, cells := 0, slots := 0, locals := 21 }) (va_Pc [.ref Ad0, .long 0] (fun U => U.heap.size = sz ∧ Wd dC dI [(Ka0, .int)] (fun _ => True) [(Ad0, .inr (3, Fs0)), (Ad1, .inl (Ka0, 4000, .inl Fa0))] U)) (va_Qv (fun (u : List Value × (Nat → Int32)) => (ow Fs0 (u.1) 15 [2] [(2, .int 4), (1, .ref Ad1), (1, .ref Ad1), (1, .ref Ad1), (1, .ref Ad1), (1, .ref Ad1), (1, .ref Ad1), (1, .ref Ad1), (1, .ref Ad1), (1, .ref Ad1), (1, .ref Ad1), (1, .ref Ad1), (1, .ref Ad1), (1, .ref Ad1), (1, .ref Ad1), (1, .ref Ad1), (1, .ref Ad1), (1, .ref Ad1), (1, .ref Ad1), (1, .ref Ad1), (1, .ref Ad1), (1, .ref Ad1), (1, .ref Ad1), (1, .ref Ad1), (1, .ref Ad1)] ∧ (u.2) (3 : Int32).toNatClampNeg = 0) ∨ (ow Fs0 (u.1) 15 [2] [(2, .int 4), (1, .ref Ad1), (1, .ref Ad1), (1, .ref Ad1), (1, .ref Ad1), (1, .ref Ad1), (1, .ref Ad1), (1, .ref Ad1), (1, .ref Ad1), (1, .ref Ad1), (1, .ref Ad1), (1, .ref Ad1), (1, .ref Ad1), (1, .ref Ad1), (1, .ref Ad1), (1, .ref Ad1), (1, .ref Ad1), (1, .ref Ad1), (1, .ref Ad1), (1, .ref Ad1), (1, .ref Ad1), (1, .ref Ad1), (1, .ref Ad1), (1, .ref Ad1), (1, .ref Ad1)] ∧ (u.2) (3 : Int32).toNatClampNeg = 0)) (fun (u : List Value × (Nat → Int32)) t => Wd dC dI [(Ka0, .int)] (va_A [(Ad0, .inr (3, Fs0)), (Ad1, .inl (Ka0, 4000, .inl Fa0))] sz) [(Ad0, .inr (3, (u.1))), (Ad1, .inl (Ka0, 4000, .inl ((u.2))))] t) (va_A [(Ad0, .inr (3, Fs0)), (Ad1, .inl (Ka0, 4000, .inl Fa0))] sz))  0 0 (va_A [(Ad0, .inr (3, Fs0)), (Ad1, .inl (Ka0, 4000, .inl Fa0))] sz) := by
  refine Met.ofW (cc := cX0_putNumber) (maxL := 6) (ret := none) (by decide) rfl ?_
  intro p e s m args below meth c s₁ B hml hv
  obtain ⟨rfl, hsz, hP, hK, hD0⟩ := hv
  have hx := B.exec
  have hb := B.bytes
  have hr := B.returns
  have hts := atoms_spec (ws := w_z_X0_putNumber_1) B.pre
  have hown : s.vm.findClass RX0 = some m.cls := findClass_of_methodNamed B.named
  have hlocks := B.notSynchronized
  subst hsz
  have hD := hD0.self (sz := s.heap.size)
  generalize hAe : va_A [(Ad0, .inr (3, Fs0)), (Ad1, .inl (Ka0, 4000, .inl Fa0))] s.heap.size = A at hD ⊢
  have hA : ∀ q : Nat, s.heap.size ≤ q → A q := fun q h => by rw [← hAe]; exact Or.inr h
  have hS : va_S A s.heap s.heap [] := va_S.rf
  have hl := lv_entry ([.ref Ad0, .long 0]) (n := 6) (Nat.le_of_ble_eq_true rfl)
  rw [lg_entry_eq]
  generalize (lg_sl ([.ref Ad0, .long 0]) ++ List.replicate (6 - (lg_sl ([.ref Ad0, .long 0])).length) Slot.unset).toArray = ls at hl ⊢
  have hl : lv_has ls 6 [(0, .ref Ad0), (1, .long 0)] := hl
  have o_Fs0 := ow_0 k_Fs0
  refine lv_lload_n hx hb dX0_putNumber_0 rfl (lv_at hl 1 rfl) ?_
  refine lv_lstore_n (lv' := [(3, .long 0), (0, .ref Ad0), (1, .long 0)]) hx hb dX0_putNumber_1 rfl hl (by decide) rfl (fun ls hl => ?_)
  refine lv_iconst (v := 0) hx hb dX0_putNumber_2 (by decide) ?_
  refine lv_istore (lv' := [(5, .int 0), (3, .long 0), (0, .ref Ad0), (1, .long 0)]) hx hb dX0_putNumber_3 hl (by decide) rfl (fun ls hl => ?_)
  have HL1 : ∀ (n j7597 : Nat) (x7598 : Int32), x7598 = nI j7597 → 0 ≤ j7597 → j7597 ≤ 10 → 11 ≤ j7597 + n → ∀ (H : Heap) (locs : List Loc) (ls : Array Slot), va_P (dC, dI) vwCl [(Ad0, .inr (3, Fs0)), (Ad1, .inl (Ka0, 4000, .inl Fa0))] H → va_D A [(Ad0, .inr (3, Fs0)), (Ad1, .inl (Ka0, 4000, .inl Fa0))] → va_S A s.heap H locs → lv_has ls 6 [(5, .int x7598), (3, .long 0), (0, .ref Ad0), (1, .long 0)] → W p l e (headSpec w_z_X0_putNumber_1 ({ frames := 1, cells := 0, slots := 0, locals := 21 })).room s m ([.ref Ad0, .long 0]).toArray below meth c H locs 0 0 (MQ below (va_Qv (fun (u : List Value × (Nat → Int32)) => (ow Fs0 (u.1) 15 [2] [(2, .int 4), (1, .ref Ad1), (1, .ref Ad1), (1, .ref Ad1), (1, .ref Ad1), (1, .ref Ad1), (1, .ref Ad1), (1, .ref Ad1), (1, .ref Ad1), (1, .ref Ad1), (1, .ref Ad1), (1, .ref Ad1), (1, .ref Ad1), (1, .ref Ad1), (1, .ref Ad1), (1, .ref Ad1), (1, .ref Ad1), (1, .ref Ad1), (1, .ref Ad1), (1, .ref Ad1), (1, .ref Ad1), (1, .ref Ad1), (1, .ref Ad1), (1, .ref Ad1), (1, .ref Ad1)] ∧ (u.2) (3 : Int32).toNatClampNeg = 0) ∨ (ow Fs0 (u.1) 15 [2] [(2, .int 4), (1, .ref Ad1), (1, .ref Ad1), (1, .ref Ad1), (1, .ref Ad1), (1, .ref Ad1), (1, .ref Ad1), (1, .ref Ad1), (1, .ref Ad1), (1, .ref Ad1), (1, .ref Ad1), (1, .ref Ad1), (1, .ref Ad1), (1, .ref Ad1), (1, .ref Ad1), (1, .ref Ad1), (1, .ref Ad1), (1, .ref Ad1), (1, .ref Ad1), (1, .ref Ad1), (1, .ref Ad1), (1, .ref Ad1), (1, .ref Ad1), (1, .ref Ad1), (1, .ref Ad1)] ∧ (u.2) (3 : Int32).toNatClampNeg = 0)) (fun (u : List Value × (Nat → Int32)) t => Wd dC dI [(Ka0, .int)] A [(Ad0, .inr (3, (u.1))), (Ad1, .inl (Ka0, 4000, .inl ((u.2))))] t) A) ([.ref Ad0, .long 0]).toArray s 0 0 A) (F0 m 5 ls []) := by
    intro n
    induction n with
    | zero =>
      intro j7597 x7598 e7599 h7601 h7602 h7603
      exact absurd h7603 (by omega)
    | succ n ih =>
      intro j7597 x7598 e7599 h7601 h7602 h7603 H locs ls hP hD hS hl
      have t7600 : x7598.toInt = (j7597 : Int) := by rw [e7599]; exact nI_toInt (by omega)
      refine lv_iload hx hb dX0_putNumber_5 (lv_at hl 0 rfl) ?_
      refine lv_bipush (v := 10) hx hb dX0_putNumber_7 (by decide) ?_
      refine lv_icmp_ge (tgt := 46) hx hb dX0_putNumber_9 (by decide) (fun c7604 => ?_) (fun c7604 => ?_)
      · skip
        refine lv_aload_n hx hb dX0_putNumber_46 rfl (lv_at hl 2 rfl) ?_
        refine lv_lload_n hx hb dX0_putNumber_47 rfl (lv_at hl 1 rfl) ?_
        refine lv_l2i hx hb dX0_putNumber_48 rfl ?_
        refine lv_topi (fun x7605 ex7605 => ?_)
        obtain rfl : x7605 = 0 := ex7605.trans (by decide)
        have hPc := hP.sub (ws' := [(Ad0, .inr (3, Fs0)), (Ad1, .inl (Ka0, 4000, .inl Fa0))]) [0, 1] rfl
        have hDc := hD.sub (ws' := [(Ad0, .inr (3, Fs0)), (Ad1, .inl (Ka0, 4000, .inl Fa0))]) [0, 1] (by decide) rfl
        have hKc := hK.sub (tys' := [(Ka0, .int)]) [0] rfl
        have hFc := va_free (wc := [(Ad0, .inr (3, Fs0)), (Ad1, .inl (Ka0, 4000, .inl Fa0))]) hD hS hA [0, 1] rfl
        refine va_callv (va_runV (As := [.int 0]) (rest := []) ⟨hx, hb, hml, hown, hts⟩ (z_X0_put_3 l dC dI H.size Ad0 Fs0 Ad1 Fa0 Ka0 (fh_sub o_Fs0.2 [0, 1, 1, 1, 1, 1, 1, 1, 1, 1, 1, 1, 1] rfl) ) (cwV 1 hts g_z_X0_putNumber_1_z_X0_put_3_39 rfl rfl rfl (by decide +kernel) ⟨Nat.le_of_ble_eq_true rfl, Nat.le_of_ble_eq_true rfl⟩) ⟨fun a U g mk q => by obtain ⟨q0, q1, qP, qK, qD⟩ := q; exact ⟨q0, q1, qP, va_K.moved (u := U) (U := U.calling g mk a) (Vm.Alike.refl U.vm) qK, qD⟩, va_recv hK hP (ci := 3) (q0 := 0) rfl rfl, fun U hU hW => ⟨rfl, by rw [hU], by rw [hU]; exact hPc, va_K.moved hW.alike hKc, hDc.weaken (fun _ _ _ _ => trivial)⟩⟩ rfl rfl hl.1 rfl (lv_room (Nat.le_of_ble_eq_true rfl)) dX0_putNumber_49 ⟨Nat.le_of_ble_eq_true rfl, Nat.le_of_ble_eq_true rfl⟩) hS (fun q _ h => hFc q h) hFc (fun u t H1 locs ht hvm hw hB hz1 hk1 hS => ?_)
        obtain ⟨s7611, f7612⟩ := u
        obtain ⟨hP1, hK1, hD1⟩ := hB
        rw [ht] at hP1
        try dsimp only at hw
        obtain ⟨hP, hD⟩ := va_join (wr := []) (w1 := [(Ad0, .inr (3, s7611)), (Ad1, .inl (Ka0, 4000, .inl f7612))]) hP hD [0, 1] [] rfl rfl (by decide) (by decide) hk1 hFc hP1 hD1
        have hK := hK.sub (tys' := [(Ka0, .int)]) [0] rfl
        generalize H1 = H at hP hS ⊢
        have hP : va_P (dC, dI) vwCl [(Ad0, .inr (3, s7611)), (Ad1, .inl (Ka0, 4000, .inl f7612))] H := hP
        have hD : va_D A [(Ad0, .inr (3, s7611)), (Ad1, .inl (Ka0, 4000, .inl f7612))] := hD
        obtain ⟨o_s7611, q7613⟩ := hw
        have o_s7611 := ow_on o_Fs0 o_s7611 (l' := [(2, .int 4), (1, .ref Ad1), (1, .ref Ad1), (1, .ref Ad1), (1, .ref Ad1), (1, .ref Ad1), (1, .ref Ad1), (1, .ref Ad1), (1, .ref Ad1), (1, .ref Ad1), (1, .ref Ad1), (1, .ref Ad1), (1, .ref Ad1), (1, .ref Ad1), (1, .ref Ad1), (1, .ref Ad1), (1, .ref Ad1), (1, .ref Ad1), (1, .ref Ad1), (1, .ref Ad1), (1, .ref Ad1), (1, .ref Ad1), (1, .ref Ad1), (1, .ref Ad1), (1, .ref Ad1)]) (w' := [2]) rfl rfl
        have hP9 := hP.sub (ws' := [(Ad0, .inr (3, s7611)), (Ad1, .inl (Ka0, 4000, .inl f7612))]) [0, 1] rfl
        have hD9 := hD.sub (ws' := [(Ad0, .inr (3, s7611)), (Ad1, .inl (Ka0, 4000, .inl f7612))]) [0, 1] (by decide) rfl
        have hK9 := hK.sub (tys' := [(Ka0, .int)]) [0] rfl
        exact W.vret hx hb hr (fun t ht hW => ⟨⟨(s7611, f7612), rfl, (Or.inl ⟨o_s7611, q7613⟩), by rw [ht]; exact hP9, va_K.moved hW.alike hK9, hD9⟩, hS.F ht⟩) hS.2.2 dX0_putNumber_52
      · skip
        refine lv_lload_n hx hb dX0_putNumber_12 rfl (lv_at hl 1 rfl) ?_
        refine lv_bipush (v := 7) hx hb dX0_putNumber_13 (by decide) ?_
        refine lv_lushr hx hb dX0_putNumber_15 rfl ?_
        refine lv_topl (fun x7614 ex7614 => ?_)
        obtain rfl : x7614 = 0 := ex7614.trans (by decide)
        refine lv_lconst (v := 0) hx hb dX0_putNumber_16 (by decide) ?_
        refine W.lcmp hx hb dX0_putNumber_17  ?_
        refine lv_topi (fun x7615 ex7615 => ?_)
        obtain rfl : x7615 = 0 := ex7615.trans (by decide)
        refine lv_if_eq (tgt := 46) hx hb dX0_putNumber_18 (by decide) (fun c7616 => ?_) (fun c7616 => absurd c7616 (by decide))
        refine lv_aload_n hx hb dX0_putNumber_46 rfl (lv_at hl 2 rfl) ?_
        refine lv_lload_n hx hb dX0_putNumber_47 rfl (lv_at hl 1 rfl) ?_
        refine lv_l2i hx hb dX0_putNumber_48 rfl ?_
        refine lv_topi (fun x7617 ex7617 => ?_)
        obtain rfl : x7617 = 0 := ex7617.trans (by decide)
        have hPc := hP.sub (ws' := [(Ad0, .inr (3, Fs0)), (Ad1, .inl (Ka0, 4000, .inl Fa0))]) [0, 1] rfl
        have hDc := hD.sub (ws' := [(Ad0, .inr (3, Fs0)), (Ad1, .inl (Ka0, 4000, .inl Fa0))]) [0, 1] (by decide) rfl
        have hKc := hK.sub (tys' := [(Ka0, .int)]) [0] rfl
        have hFc := va_free (wc := [(Ad0, .inr (3, Fs0)), (Ad1, .inl (Ka0, 4000, .inl Fa0))]) hD hS hA [0, 1] rfl
        refine va_callv (va_runV (As := [.int 0]) (rest := []) ⟨hx, hb, hml, hown, hts⟩ (z_X0_put_3 l dC dI H.size Ad0 Fs0 Ad1 Fa0 Ka0 (fh_sub o_Fs0.2 [0, 1, 1, 1, 1, 1, 1, 1, 1, 1, 1, 1, 1] rfl) ) (cwV 1 hts g_z_X0_putNumber_1_z_X0_put_3_39 rfl rfl rfl (by decide +kernel) ⟨Nat.le_of_ble_eq_true rfl, Nat.le_of_ble_eq_true rfl⟩) ⟨fun a U g mk q => by obtain ⟨q0, q1, qP, qK, qD⟩ := q; exact ⟨q0, q1, qP, va_K.moved (u := U) (U := U.calling g mk a) (Vm.Alike.refl U.vm) qK, qD⟩, va_recv hK hP (ci := 3) (q0 := 0) rfl rfl, fun U hU hW => ⟨rfl, by rw [hU], by rw [hU]; exact hPc, va_K.moved hW.alike hKc, hDc.weaken (fun _ _ _ _ => trivial)⟩⟩ rfl rfl hl.1 rfl (lv_room (Nat.le_of_ble_eq_true rfl)) dX0_putNumber_49 ⟨Nat.le_of_ble_eq_true rfl, Nat.le_of_ble_eq_true rfl⟩) hS (fun q _ h => hFc q h) hFc (fun u t H1 locs ht hvm hw hB hz1 hk1 hS => ?_)
        obtain ⟨s7623, f7624⟩ := u
        obtain ⟨hP1, hK1, hD1⟩ := hB
        rw [ht] at hP1
        try dsimp only at hw
        obtain ⟨hP, hD⟩ := va_join (wr := []) (w1 := [(Ad0, .inr (3, s7623)), (Ad1, .inl (Ka0, 4000, .inl f7624))]) hP hD [0, 1] [] rfl rfl (by decide) (by decide) hk1 hFc hP1 hD1
        have hK := hK.sub (tys' := [(Ka0, .int)]) [0] rfl
        generalize H1 = H at hP hS ⊢
        have hP : va_P (dC, dI) vwCl [(Ad0, .inr (3, s7623)), (Ad1, .inl (Ka0, 4000, .inl f7624))] H := hP
        have hD : va_D A [(Ad0, .inr (3, s7623)), (Ad1, .inl (Ka0, 4000, .inl f7624))] := hD
        obtain ⟨o_s7623, q7625⟩ := hw
        have o_s7623 := ow_on o_Fs0 o_s7623 (l' := [(2, .int 4), (1, .ref Ad1), (1, .ref Ad1), (1, .ref Ad1), (1, .ref Ad1), (1, .ref Ad1), (1, .ref Ad1), (1, .ref Ad1), (1, .ref Ad1), (1, .ref Ad1), (1, .ref Ad1), (1, .ref Ad1), (1, .ref Ad1), (1, .ref Ad1), (1, .ref Ad1), (1, .ref Ad1), (1, .ref Ad1), (1, .ref Ad1), (1, .ref Ad1), (1, .ref Ad1), (1, .ref Ad1), (1, .ref Ad1), (1, .ref Ad1), (1, .ref Ad1), (1, .ref Ad1)]) (w' := [2]) rfl rfl
        have hP9 := hP.sub (ws' := [(Ad0, .inr (3, s7623)), (Ad1, .inl (Ka0, 4000, .inl f7624))]) [0, 1] rfl
        have hD9 := hD.sub (ws' := [(Ad0, .inr (3, s7623)), (Ad1, .inl (Ka0, 4000, .inl f7624))]) [0, 1] (by decide) rfl
        have hK9 := hK.sub (tys' := [(Ka0, .int)]) [0] rfl
        exact W.vret hx hb hr (fun t ht hW => ⟨⟨(s7623, f7624), rfl, (Or.inr (⟨o_s7623, q7625⟩)), by rw [ht]; exact hP9, va_K.moved hW.alike hK9, hD9⟩, hS.F ht⟩) hS.2.2 dX0_putNumber_52
  exact HL1 11 0 (0)  (by decide) (by omega) (by omega) (by omega) _ _ _ hP hD hS  hl

def l_z_X0_checkOf : List Cond := [.constant RX0 91 (16777619)]
def w_z_X0_checkOf : List Cond := .code yX0_checkOf cX0_checkOf 5 (some .int) :: (l_z_X0_checkOf)
set_option maxHeartbeats 4000000 in
set_option maxRecDepth 100000 in
theorem z_X0_checkOf (l : Launch) (dC : Nat → ClassId) (dI : Nat → Nat → Nat) (sz : Nat) (Ad0 : Nat) (Fa0 : Nat → Int32) (Ka0 : ClassId)  (hk0_Fa0 : Fa0 (3 : Int32).toNatClampNeg = 0) : Met l yX0_checkOf w_z_X0_checkOf ({ frames := 0, cells := 0, slots := 0, locals := 0 }) (va_Pc [.ref Ad0, .int 0, .int 4] (fun U => U.heap.size = sz ∧ Wd dC dI [(Ka0, .int)] (fun _ => True) [(Ad0, .inl (Ka0, 4000, .inl Fa0))] U)) (va_Qi (fun (r : Int32) (u : Unit) => True) (fun (u : Unit) t => Wd dC dI [(Ka0, .int)] (va_A [(Ad0, .inl (Ka0, 4000, .inl Fa0))] sz) [(Ad0, .inl (Ka0, 4000, .inl Fa0))] t) (va_A [(Ad0, .inl (Ka0, 4000, .inl Fa0))] sz))  0 0 (va_A [(Ad0, .inl (Ka0, 4000, .inl Fa0))] sz) := by
  refine Met.ofW (cc := cX0_checkOf) (maxL := 5) (ret := (some .int)) (by decide) rfl ?_
  intro p e s m args below meth c s₁ B hml hv
  obtain ⟨rfl, hsz, hP, hK, hD0⟩ := hv
  have hx := B.exec
  have hb := B.bytes
  have hr := B.returns
  have hts := atoms_spec (ws := w_z_X0_checkOf) B.pre
  have hown : s.vm.findClass RX0 = some m.cls := findClass_of_methodNamed B.named
  have hlocks := B.notSynchronized
  subst hsz
  have hD := hD0.self (sz := s.heap.size)
  generalize hAe : va_A [(Ad0, .inl (Ka0, 4000, .inl Fa0))] s.heap.size = A at hD ⊢
  have hA : ∀ q : Nat, s.heap.size ≤ q → A q := fun q h => by rw [← hAe]; exact Or.inr h
  have hS : va_S A s.heap s.heap [] := va_S.rf
  have hl := lv_entry ([.ref Ad0, .int 0, .int 4]) (n := 5) (Nat.le_of_ble_eq_true rfl)
  rw [lg_entry_eq]
  generalize (lg_sl ([.ref Ad0, .int 0, .int 4]) ++ List.replicate (5 - (lg_sl ([.ref Ad0, .int 0, .int 4])).length) Slot.unset).toArray = ls at hl ⊢
  have hl : lv_has ls 5 [(0, .ref Ad0), (1, .int 0), (2, .int 4)] := hl
  refine lv_iconst (v := 1) hx hb dX0_checkOf_0 (by decide) ?_
  refine lv_istore_n (lv' := [(3, .int 1), (0, .ref Ad0), (1, .int 0), (2, .int 4)]) hx hb dX0_checkOf_1 rfl hl (by decide) rfl (fun ls hl => ?_)
  refine lv_iload_n hx hb dX0_checkOf_2 rfl (lv_at hl 2 rfl) ?_
  refine lv_istore (lv' := [(4, .int 0), (3, .int 1), (0, .ref Ad0), (1, .int 0), (2, .int 4)]) hx hb dX0_checkOf_3 hl (by decide) rfl (fun ls hl => ?_)
  refine lv_iload hx hb dX0_checkOf_5 (lv_at hl 0 rfl) ?_
  refine lv_iload_n hx hb dX0_checkOf_7 rfl (lv_at hl 4 rfl) ?_
  refine lv_icmp_ge (tgt := 27) hx hb dX0_checkOf_8 (by decide) (fun c7649 => absurd c7649 (by decide)) (fun c7649 => ?_)
  refine lv_iload_n hx hb dX0_checkOf_11 rfl (lv_at hl 1 rfl) ?_
  refine lv_ldc (v := 16777619) hx hb hown (hts (.constant RX0 91 (16777619)) (by decide +kernel)) dX0_checkOf_12 ?_
  refine lv_imul hx hb dX0_checkOf_14  ?_
  refine lv_topi (fun x7650 ex7650 => ?_)
  obtain rfl : x7650 = 16777619 := ex7650.trans (by decide)
  refine lv_aload_n hx hb dX0_checkOf_15 rfl (lv_at hl 2 rfl) ?_
  refine lv_iload hx hb dX0_checkOf_16 (lv_at hl 0 rfl) ?_
  refine va_iald hx hb hK hP 0 0 rfl rfl (show vp_in 0 4000 from by unfold vp_in; decide) dX0_checkOf_18 ?_
  refine lv_topi (fun x7651 ex7651 => ?_)
  refine lv_ixor hx hb dX0_checkOf_19  ?_
  refine lv_topi (fun x7652 ex7652 => ?_)
  refine lv_istore_n (lv' := [(3, .int x7652), (4, .int 0), (0, .ref Ad0), (1, .int 0), (2, .int 4)]) hx hb dX0_checkOf_20 rfl hl (by decide) rfl (fun ls hl => ?_)
  refine lv_iinc (v := 1) (lv' := [(4, .int 1), (3, .int x7652), (0, .ref Ad0), (1, .int 0), (2, .int 4)]) hx hb dX0_checkOf_21 hl (k := 1) rfl (by decide) (by decide) rfl (fun ls hl => ?_)
  refine lv_goto (tgt := 5) hx hb dX0_checkOf_24 (by decide) ?_
  refine lv_iload hx hb dX0_checkOf_5 (lv_at hl 0 rfl) ?_
  refine lv_iload_n hx hb dX0_checkOf_7 rfl (lv_at hl 4 rfl) ?_
  refine lv_icmp_ge (tgt := 27) hx hb dX0_checkOf_8 (by decide) (fun c7653 => absurd c7653 (by decide)) (fun c7653 => ?_)
  refine lv_iload_n hx hb dX0_checkOf_11 rfl (lv_at hl 1 rfl) ?_
  refine lv_ldc (v := 16777619) hx hb hown (hts (.constant RX0 91 (16777619)) (by decide +kernel)) dX0_checkOf_12 ?_
  refine lv_imul hx hb dX0_checkOf_14  ?_
  refine lv_topi (fun x7654 ex7654 => ?_)
  refine lv_aload_n hx hb dX0_checkOf_15 rfl (lv_at hl 2 rfl) ?_
  refine lv_iload hx hb dX0_checkOf_16 (lv_at hl 0 rfl) ?_
  refine va_iald hx hb hK hP 0 0 rfl rfl (show vp_in 1 4000 from by unfold vp_in; decide) dX0_checkOf_18 ?_
  refine lv_topi (fun x7655 ex7655 => ?_)
  refine lv_ixor hx hb dX0_checkOf_19  ?_
  refine lv_topi (fun x7656 ex7656 => ?_)
  refine lv_istore_n (lv' := [(3, .int x7656), (4, .int 1), (0, .ref Ad0), (1, .int 0), (2, .int 4)]) hx hb dX0_checkOf_20 rfl hl (by decide) rfl (fun ls hl => ?_)
  refine lv_iinc (v := 2) (lv' := [(4, .int 2), (3, .int x7656), (0, .ref Ad0), (1, .int 0), (2, .int 4)]) hx hb dX0_checkOf_21 hl (k := 1) rfl (by decide) (by decide) rfl (fun ls hl => ?_)
  refine lv_goto (tgt := 5) hx hb dX0_checkOf_24 (by decide) ?_
  refine lv_iload hx hb dX0_checkOf_5 (lv_at hl 0 rfl) ?_
  refine lv_iload_n hx hb dX0_checkOf_7 rfl (lv_at hl 4 rfl) ?_
  refine lv_icmp_ge (tgt := 27) hx hb dX0_checkOf_8 (by decide) (fun c7657 => absurd c7657 (by decide)) (fun c7657 => ?_)
  refine lv_iload_n hx hb dX0_checkOf_11 rfl (lv_at hl 1 rfl) ?_
  refine lv_ldc (v := 16777619) hx hb hown (hts (.constant RX0 91 (16777619)) (by decide +kernel)) dX0_checkOf_12 ?_
  refine lv_imul hx hb dX0_checkOf_14  ?_
  refine lv_topi (fun x7658 ex7658 => ?_)
  refine lv_aload_n hx hb dX0_checkOf_15 rfl (lv_at hl 2 rfl) ?_
  refine lv_iload hx hb dX0_checkOf_16 (lv_at hl 0 rfl) ?_
  refine va_iald hx hb hK hP 0 0 rfl rfl (show vp_in 2 4000 from by unfold vp_in; decide) dX0_checkOf_18 ?_
  refine lv_topi (fun x7659 ex7659 => ?_)
  refine lv_ixor hx hb dX0_checkOf_19  ?_
  refine lv_topi (fun x7660 ex7660 => ?_)
  refine lv_istore_n (lv' := [(3, .int x7660), (4, .int 2), (0, .ref Ad0), (1, .int 0), (2, .int 4)]) hx hb dX0_checkOf_20 rfl hl (by decide) rfl (fun ls hl => ?_)
  refine lv_iinc (v := 3) (lv' := [(4, .int 3), (3, .int x7660), (0, .ref Ad0), (1, .int 0), (2, .int 4)]) hx hb dX0_checkOf_21 hl (k := 1) rfl (by decide) (by decide) rfl (fun ls hl => ?_)
  refine lv_goto (tgt := 5) hx hb dX0_checkOf_24 (by decide) ?_
  refine lv_iload hx hb dX0_checkOf_5 (lv_at hl 0 rfl) ?_
  refine lv_iload_n hx hb dX0_checkOf_7 rfl (lv_at hl 4 rfl) ?_
  refine lv_icmp_ge (tgt := 27) hx hb dX0_checkOf_8 (by decide) (fun c7661 => absurd c7661 (by decide)) (fun c7661 => ?_)
  refine lv_iload_n hx hb dX0_checkOf_11 rfl (lv_at hl 1 rfl) ?_
  refine lv_ldc (v := 16777619) hx hb hown (hts (.constant RX0 91 (16777619)) (by decide +kernel)) dX0_checkOf_12 ?_
  refine lv_imul hx hb dX0_checkOf_14  ?_
  refine lv_topi (fun x7662 ex7662 => ?_)
  refine lv_aload_n hx hb dX0_checkOf_15 rfl (lv_at hl 2 rfl) ?_
  refine lv_iload hx hb dX0_checkOf_16 (lv_at hl 0 rfl) ?_
  refine va_iald hx hb hK hP 0 0 rfl rfl (show vp_in 3 4000 from by unfold vp_in; decide) dX0_checkOf_18 ?_
  refine lv_topi (fun x7663 ex7663 => ?_)
  obtain rfl : 0 = x7663 := (ex7663.trans hk0_Fa0).symm
  refine lv_ixor hx hb dX0_checkOf_19  ?_
  refine lv_topi (fun x7664 ex7664 => ?_)
  refine lv_istore_n (lv' := [(3, .int x7664), (4, .int 3), (0, .ref Ad0), (1, .int 0), (2, .int 4)]) hx hb dX0_checkOf_20 rfl hl (by decide) rfl (fun ls hl => ?_)
  refine lv_iinc (v := 4) (lv' := [(4, .int 4), (3, .int x7664), (0, .ref Ad0), (1, .int 0), (2, .int 4)]) hx hb dX0_checkOf_21 hl (k := 1) rfl (by decide) (by decide) rfl (fun ls hl => ?_)
  refine lv_goto (tgt := 5) hx hb dX0_checkOf_24 (by decide) ?_
  refine lv_iload hx hb dX0_checkOf_5 (lv_at hl 0 rfl) ?_
  refine lv_iload_n hx hb dX0_checkOf_7 rfl (lv_at hl 4 rfl) ?_
  refine lv_icmp_ge (tgt := 27) hx hb dX0_checkOf_8 (by decide) (fun c7665 => ?_) (fun c7665 => absurd c7665 (by decide))
  refine lv_iload_n hx hb dX0_checkOf_27 rfl (lv_at hl 1 rfl) ?_
  have hP9 := hP.sub (ws' := [(Ad0, .inl (Ka0, 4000, .inl Fa0))]) [0] rfl
  have hD9 := hD.sub (ws' := [(Ad0, .inl (Ka0, 4000, .inl Fa0))]) [0] (by decide) rfl
  have hK9 := hK.sub (tys' := [(Ka0, .int)]) [0] rfl
  exact W.iret (v := x7664) hx hb hr (fun t ht hW => ⟨⟨x7664, (), rfl, trivial, by rw [ht]; exact hP9, va_K.moved hW.alike hK9, hD9⟩, hS.F ht⟩) hS.2.2 dX0_checkOf_28

def l_z_X0_put_4 : List Cond := [.fieldLink RX0 35 "HeapWorks$Archive" "filled" "I", .fieldLink RX0 19 "HeapWorks$Archive" "buffer" "[I"]
def w_z_X0_put_4 : List Cond := .code yX0_put cX0_put 2 none :: (l_z_X0_put_4 ++ (wsX00))
theorem in_z_X0_put_4_X0 : ∀ w ∈ wsX00, w ∈ w_z_X0_put_4 := fun w h => List.mem_cons_of_mem _ (List.mem_append_right _ (h))
set_option maxHeartbeats 4000000 in
set_option maxRecDepth 100000 in
theorem z_X0_put_4 (l : Launch) (dC : Nat → ClassId) (dI : Nat → Nat → Nat) (sz : Nat) (Ad0 : Nat) (Fs0 : List Value) (Ad1 : Nat) (Fa0 : Nat → Int32) (Ka0 : ClassId) (Va0 : Int32) (k_Fs0 : fh Fs0 15 [(2, .int 4), (1, .ref Ad1), (1, .ref Ad1), (1, .ref Ad1), (1, .ref Ad1), (1, .ref Ad1), (1, .ref Ad1), (1, .ref Ad1), (1, .ref Ad1), (1, .ref Ad1), (1, .ref Ad1), (1, .ref Ad1), (1, .ref Ad1), (1, .ref Ad1), (1, .ref Ad1), (1, .ref Ad1), (1, .ref Ad1), (1, .ref Ad1), (1, .ref Ad1), (1, .ref Ad1), (1, .ref Ad1), (1, .ref Ad1), (1, .ref Ad1), (1, .ref Ad1), (1, .ref Ad1), (1, .ref Ad1), (1, .ref Ad1), (1, .ref Ad1), (1, .ref Ad1), (1, .ref Ad1), (1, .ref Ad1), (1, .ref Ad1), (1, .ref Ad1), (1, .ref Ad1), (1, .ref Ad1), (1, .ref Ad1), (1, .ref Ad1)])  : Met l yX0_put w_z_X0_put_4 ({ frames := 0, cells := 0, slots := 0, locals := 0 }) (va_Pc [.ref Ad0, .int Va0] (fun U => U.heap.size = sz ∧ Wd dC dI [(Ka0, .int)] (fun _ => True) [(Ad0, .inr (3, Fs0)), (Ad1, .inl (Ka0, 4000, .inl Fa0))] U)) (va_Qv (fun (u : List Value × (Nat → Int32)) => (ow Fs0 (u.1) 15 [2] [(2, .int 5), (1, .ref Ad1), (1, .ref Ad1), (1, .ref Ad1), (1, .ref Ad1), (1, .ref Ad1), (1, .ref Ad1), (1, .ref Ad1), (1, .ref Ad1), (1, .ref Ad1), (1, .ref Ad1), (1, .ref Ad1), (1, .ref Ad1), (1, .ref Ad1), (1, .ref Ad1), (1, .ref Ad1), (1, .ref Ad1), (1, .ref Ad1), (1, .ref Ad1), (1, .ref Ad1), (1, .ref Ad1), (1, .ref Ad1), (1, .ref Ad1), (1, .ref Ad1), (1, .ref Ad1), (1, .ref Ad1), (1, .ref Ad1), (1, .ref Ad1), (1, .ref Ad1), (1, .ref Ad1), (1, .ref Ad1), (1, .ref Ad1), (1, .ref Ad1), (1, .ref Ad1), (1, .ref Ad1), (1, .ref Ad1), (1, .ref Ad1)] ∧ (u.2) (4 : Int32).toNatClampNeg = Va0)) (fun (u : List Value × (Nat → Int32)) t => Wd dC dI [(Ka0, .int)] (va_A [(Ad0, .inr (3, Fs0)), (Ad1, .inl (Ka0, 4000, .inl Fa0))] sz) [(Ad0, .inr (3, (u.1))), (Ad1, .inl (Ka0, 4000, .inl ((u.2))))] t) (va_A [(Ad0, .inr (3, Fs0)), (Ad1, .inl (Ka0, 4000, .inl Fa0))] sz))  0 0 (va_A [(Ad0, .inr (3, Fs0)), (Ad1, .inl (Ka0, 4000, .inl Fa0))] sz) := by
  refine Met.ofW (cc := cX0_put) (maxL := 2) (ret := none) (by decide) rfl ?_
  intro p e s m args below meth c s₁ B hml hv
  obtain ⟨rfl, hsz, hP, hK, hD0⟩ := hv
  have hx := B.exec
  have hb := B.bytes
  have hr := B.returns
  have hts := atoms_spec (ws := w_z_X0_put_4) B.pre
  have hown : s.vm.findClass RX0 = some m.cls := findClass_of_methodNamed B.named
  have hlocks := B.notSynchronized
  subst hsz
  have hD := hD0.self (sz := s.heap.size)
  generalize hAe : va_A [(Ad0, .inr (3, Fs0)), (Ad1, .inl (Ka0, 4000, .inl Fa0))] s.heap.size = A at hD ⊢
  have hA : ∀ q : Nat, s.heap.size ≤ q → A q := fun q h => by rw [← hAe]; exact Or.inr h
  have hS : va_S A s.heap s.heap [] := va_S.rf
  have hl := lv_entry ([.ref Ad0, .int Va0]) (n := 2) (Nat.le_of_ble_eq_true rfl)
  rw [lg_entry_eq]
  generalize (lg_sl ([.ref Ad0, .int Va0]) ++ List.replicate (2 - (lg_sl ([.ref Ad0, .int Va0])).length) Slot.unset).toArray = ls at hl ⊢
  have hl : lv_has ls 2 [(0, .ref Ad0), (1, .int Va0)] := hl
  have o_Fs0 := ow_0 k_Fs0
  refine lv_aload_n hx hb dX0_put_0 rfl (lv_at hl 0 rfl) ?_
  refine va_get (D := (dC, dI)) (ci := 3) (v := .int 4) (C := RX0) (T := TX0) (N := 15) hx hb hts (in_z_X0_put_4_X0) hown hK hP 0 rfl rfl 2 (by decide) (hts (.fieldLink RX0 35 "HeapWorks$Archive" "filled" "I") (by decide +kernel)) (fun _ h9 => h9) (ow_at o_Fs0 0 rfl) dX0_put_1 ?_
  refine lv_aload_n hx hb dX0_put_4 rfl (lv_at hl 0 rfl) ?_
  refine va_get (D := (dC, dI)) (ci := 3) (v := .ref Ad1) (C := RX0) (T := TX0) (N := 15) hx hb hts (in_z_X0_put_4_X0) hown hK hP 0 rfl rfl 1 (by decide) (hts (.fieldLink RX0 19 "HeapWorks$Archive" "buffer" "[I") (by decide +kernel)) (fun _ h9 => h9) (ow_at o_Fs0 1 rfl) dX0_put_5 ?_
  refine va_alen (v := 4000) hx hb hK hP 1 0 rfl rfl (show Int32.ofNat 4000 = 4000 from by decide) dX0_put_8 ?_
  refine lv_icmp_ge (tgt := 22) hx hb dX0_put_9 (by decide) (fun c7677 => absurd c7677 (by decide)) (fun c7677 => ?_)
  refine lv_aload_n hx hb dX0_put_12 rfl (lv_at hl 0 rfl) ?_
  refine va_get (D := (dC, dI)) (ci := 3) (v := .ref Ad1) (C := RX0) (T := TX0) (N := 15) hx hb hts (in_z_X0_put_4_X0) hown hK hP 0 rfl rfl 1 (by decide) (hts (.fieldLink RX0 19 "HeapWorks$Archive" "buffer" "[I") (by decide +kernel)) (fun _ h9 => h9) (ow_at o_Fs0 1 rfl) dX0_put_13 ?_
  refine lv_aload_n hx hb dX0_put_16 rfl (lv_at hl 0 rfl) ?_
  refine va_get (D := (dC, dI)) (ci := 3) (v := .int 4) (C := RX0) (T := TX0) (N := 15) hx hb hts (in_z_X0_put_4_X0) hown hK hP 0 rfl rfl 2 (by decide) (hts (.fieldLink RX0 35 "HeapWorks$Archive" "filled" "I") (by decide +kernel)) (fun _ h9 => h9) (ow_at o_Fs0 0 rfl) dX0_put_17 ?_
  refine lv_iload_n hx hb dX0_put_20 rfl (lv_at hl 1 rfl) ?_
  refine va_iast hx hb hK hP hD hS 1 0 rfl rfl (show vp_in 4 4000 from by unfold vp_in; decide) dX0_put_21 (fun H locs hP hD hS => ?_)
  have hP : va_P (dC, dI) vwCl [(Ad0, .inr (3, Fs0)), (Ad1, .inl (Ka0, 4000, .inl (upd Fa0 (4 : Int32).toNatClampNeg Va0)))] H := hP
  have hD : va_D A [(Ad0, .inr (3, Fs0)), (Ad1, .inl (Ka0, 4000, .inl (upd Fa0 (4 : Int32).toNatClampNeg Va0)))] := hD
  have q7679 : (upd Fa0 (4 : Int32).toNatClampNeg Va0) (4 : Int32).toNatClampNeg = Va0 := pk_us
  generalize upd Fa0 (4 : Int32).toNatClampNeg Va0 = f7678 at hP hD q7679
  refine lv_aload_n hx hb dX0_put_22 rfl (lv_at hl 0 rfl) ?_
  refine lv_dup hx hb dX0_put_23 rfl ?_
  refine va_get (D := (dC, dI)) (ci := 3) (v := .int 4) (C := RX0) (T := TX0) (N := 15) hx hb hts (in_z_X0_put_4_X0) hown hK hP 0 rfl rfl 2 (by decide) (hts (.fieldLink RX0 35 "HeapWorks$Archive" "filled" "I") (by decide +kernel)) (fun _ h9 => h9) (ow_at o_Fs0 0 rfl) dX0_put_24 ?_
  refine lv_iconst (v := 1) hx hb dX0_put_27 (by decide) ?_
  refine lv_iadd hx hb dX0_put_28  ?_
  refine lv_topi (fun x7680 ex7680 => ?_)
  obtain rfl : x7680 = 5 := ex7680.trans (by decide)
  refine va_put (D := (dC, dI)) (ci := 3) (v := .int 5) (ty := .int) (C := RX0) (T := TX0) (N := 15) hx hb hts (in_z_X0_put_4_X0) tyX0 tyX0_ok nmX0 hown hK hP hD hS 0 rfl rfl 2 (by decide) (hts (.fieldLink RX0 35 "HeapWorks$Archive" "filled" "I") (by decide +kernel)) (fun _ h9 => h9) rfl (by decide +kernel) rfl rfl (by rw [o_Fs0.2.1]; decide) dX0_put_29 (fun H locs hP hD hS => ?_)
  have hP : va_P (dC, dI) vwCl [(Ad0, .inr (3, (Fs0.set 2 (.int 5)))), (Ad1, .inl (Ka0, 4000, .inl f7678))] H := hP
  have hD : va_D A [(Ad0, .inr (3, (Fs0.set 2 (.int 5)))), (Ad1, .inl (Ka0, 4000, .inl f7678))] := hD
  have o_s7681 := ow_set o_Fs0 2 (.int 5) (by decide) (l' := [(2, .int 5), (1, .ref Ad1), (1, .ref Ad1), (1, .ref Ad1), (1, .ref Ad1), (1, .ref Ad1), (1, .ref Ad1), (1, .ref Ad1), (1, .ref Ad1), (1, .ref Ad1), (1, .ref Ad1), (1, .ref Ad1), (1, .ref Ad1), (1, .ref Ad1), (1, .ref Ad1), (1, .ref Ad1), (1, .ref Ad1), (1, .ref Ad1), (1, .ref Ad1), (1, .ref Ad1), (1, .ref Ad1), (1, .ref Ad1), (1, .ref Ad1), (1, .ref Ad1), (1, .ref Ad1), (1, .ref Ad1), (1, .ref Ad1), (1, .ref Ad1), (1, .ref Ad1), (1, .ref Ad1), (1, .ref Ad1), (1, .ref Ad1), (1, .ref Ad1), (1, .ref Ad1), (1, .ref Ad1), (1, .ref Ad1), (1, .ref Ad1)]) (w' := [2]) rfl rfl
  generalize (Fs0.set 2 (.int 5)) = s7681 at hP hD o_s7681
  have hP9 := hP.sub (ws' := [(Ad0, .inr (3, s7681)), (Ad1, .inl (Ka0, 4000, .inl f7678))]) [0, 1] rfl
  have hD9 := hD.sub (ws' := [(Ad0, .inr (3, s7681)), (Ad1, .inl (Ka0, 4000, .inl f7678))]) [0, 1] (by decide) rfl
  have hK9 := hK.sub (tys' := [(Ka0, .int)]) [0] rfl
  exact W.vret hx hb hr (fun t ht hW => ⟨⟨(s7681, f7678), rfl, ⟨o_s7681, q7679⟩, by rw [ht]; exact hP9, va_K.moved hW.alike hK9, hD9⟩, hS.F ht⟩) hS.2.2 dX0_put_32

def l_z_X0_put_5 : List Cond := [.fieldLink RX0 35 "HeapWorks$Archive" "filled" "I", .fieldLink RX0 19 "HeapWorks$Archive" "buffer" "[I"]
def w_z_X0_put_5 : List Cond := .code yX0_put cX0_put 2 none :: (l_z_X0_put_5 ++ (wsX00))
theorem in_z_X0_put_5_X0 : ∀ w ∈ wsX00, w ∈ w_z_X0_put_5 := fun w h => List.mem_cons_of_mem _ (List.mem_append_right _ (h))
set_option maxHeartbeats 4000000 in
set_option maxRecDepth 100000 in
theorem z_X0_put_5 (l : Launch) (dC : Nat → ClassId) (dI : Nat → Nat → Nat) (sz : Nat) (Ad0 : Nat) (Fs0 : List Value) (Ad1 : Nat) (Fa0 : Nat → Int32) (Ka0 : ClassId) (Va0 : Int32) (k_Fs0 : fh Fs0 15 [(2, .int 5), (1, .ref Ad1), (1, .ref Ad1), (1, .ref Ad1), (1, .ref Ad1), (1, .ref Ad1), (1, .ref Ad1), (1, .ref Ad1), (1, .ref Ad1), (1, .ref Ad1), (1, .ref Ad1), (1, .ref Ad1), (1, .ref Ad1), (1, .ref Ad1), (1, .ref Ad1), (1, .ref Ad1), (1, .ref Ad1), (1, .ref Ad1), (1, .ref Ad1), (1, .ref Ad1), (1, .ref Ad1), (1, .ref Ad1), (1, .ref Ad1), (1, .ref Ad1), (1, .ref Ad1), (1, .ref Ad1), (1, .ref Ad1), (1, .ref Ad1), (1, .ref Ad1), (1, .ref Ad1), (1, .ref Ad1), (1, .ref Ad1), (1, .ref Ad1), (1, .ref Ad1), (1, .ref Ad1), (1, .ref Ad1), (1, .ref Ad1), (1, .ref Ad1), (1, .ref Ad1), (1, .ref Ad1), (1, .ref Ad1), (1, .ref Ad1), (1, .ref Ad1), (1, .ref Ad1), (1, .ref Ad1), (1, .ref Ad1), (1, .ref Ad1), (1, .ref Ad1), (1, .ref Ad1), (1, .ref Ad1), (1, .ref Ad1), (1, .ref Ad1), (1, .ref Ad1), (1, .ref Ad1), (1, .ref Ad1), (1, .ref Ad1), (1, .ref Ad1), (1, .ref Ad1), (1, .ref Ad1), (1, .ref Ad1), (1, .ref Ad1), (1, .ref Ad1), (1, .ref Ad1), (1, .ref Ad1), (1, .ref Ad1), (1, .ref Ad1), (1, .ref Ad1), (1, .ref Ad1), (1, .ref Ad1), (1, .ref Ad1), (1, .ref Ad1), (1, .ref Ad1), (1, .ref Ad1)])  : Met l yX0_put w_z_X0_put_5 ({ frames := 0, cells := 0, slots := 0, locals := 0 }) (va_Pc [.ref Ad0, .int Va0] (fun U => U.heap.size = sz ∧ Wd dC dI [(Ka0, .int)] (fun _ => True) [(Ad0, .inr (3, Fs0)), (Ad1, .inl (Ka0, 4000, .inl Fa0))] U)) (va_Qv (fun (u : List Value × (Nat → Int32)) => (ow Fs0 (u.1) 15 [2] [(2, .int 6), (1, .ref Ad1), (1, .ref Ad1), (1, .ref Ad1), (1, .ref Ad1), (1, .ref Ad1), (1, .ref Ad1), (1, .ref Ad1), (1, .ref Ad1), (1, .ref Ad1), (1, .ref Ad1), (1, .ref Ad1), (1, .ref Ad1), (1, .ref Ad1), (1, .ref Ad1), (1, .ref Ad1), (1, .ref Ad1), (1, .ref Ad1), (1, .ref Ad1), (1, .ref Ad1), (1, .ref Ad1), (1, .ref Ad1), (1, .ref Ad1), (1, .ref Ad1), (1, .ref Ad1), (1, .ref Ad1), (1, .ref Ad1), (1, .ref Ad1), (1, .ref Ad1), (1, .ref Ad1), (1, .ref Ad1), (1, .ref Ad1), (1, .ref Ad1), (1, .ref Ad1), (1, .ref Ad1), (1, .ref Ad1), (1, .ref Ad1), (1, .ref Ad1), (1, .ref Ad1), (1, .ref Ad1), (1, .ref Ad1), (1, .ref Ad1), (1, .ref Ad1), (1, .ref Ad1), (1, .ref Ad1), (1, .ref Ad1), (1, .ref Ad1), (1, .ref Ad1), (1, .ref Ad1), (1, .ref Ad1), (1, .ref Ad1), (1, .ref Ad1), (1, .ref Ad1), (1, .ref Ad1), (1, .ref Ad1), (1, .ref Ad1), (1, .ref Ad1), (1, .ref Ad1), (1, .ref Ad1), (1, .ref Ad1), (1, .ref Ad1), (1, .ref Ad1), (1, .ref Ad1), (1, .ref Ad1), (1, .ref Ad1), (1, .ref Ad1), (1, .ref Ad1), (1, .ref Ad1), (1, .ref Ad1), (1, .ref Ad1), (1, .ref Ad1), (1, .ref Ad1), (1, .ref Ad1)] ∧ (u.2) (5 : Int32).toNatClampNeg = Va0)) (fun (u : List Value × (Nat → Int32)) t => Wd dC dI [(Ka0, .int)] (va_A [(Ad0, .inr (3, Fs0)), (Ad1, .inl (Ka0, 4000, .inl Fa0))] sz) [(Ad0, .inr (3, (u.1))), (Ad1, .inl (Ka0, 4000, .inl ((u.2))))] t) (va_A [(Ad0, .inr (3, Fs0)), (Ad1, .inl (Ka0, 4000, .inl Fa0))] sz))  0 0 (va_A [(Ad0, .inr (3, Fs0)), (Ad1, .inl (Ka0, 4000, .inl Fa0))] sz) := by
  refine Met.ofW (cc := cX0_put) (maxL := 2) (ret := none) (by decide) rfl ?_
  intro p e s m args below meth c s₁ B hml hv
  obtain ⟨rfl, hsz, hP, hK, hD0⟩ := hv
  have hx := B.exec
  have hb := B.bytes
  have hr := B.returns
  have hts := atoms_spec (ws := w_z_X0_put_5) B.pre
  have hown : s.vm.findClass RX0 = some m.cls := findClass_of_methodNamed B.named
  have hlocks := B.notSynchronized
  subst hsz
  have hD := hD0.self (sz := s.heap.size)
  generalize hAe : va_A [(Ad0, .inr (3, Fs0)), (Ad1, .inl (Ka0, 4000, .inl Fa0))] s.heap.size = A at hD ⊢
  have hA : ∀ q : Nat, s.heap.size ≤ q → A q := fun q h => by rw [← hAe]; exact Or.inr h
  have hS : va_S A s.heap s.heap [] := va_S.rf
  have hl := lv_entry ([.ref Ad0, .int Va0]) (n := 2) (Nat.le_of_ble_eq_true rfl)
  rw [lg_entry_eq]
  generalize (lg_sl ([.ref Ad0, .int Va0]) ++ List.replicate (2 - (lg_sl ([.ref Ad0, .int Va0])).length) Slot.unset).toArray = ls at hl ⊢
  have hl : lv_has ls 2 [(0, .ref Ad0), (1, .int Va0)] := hl
  have o_Fs0 := ow_0 k_Fs0
  refine lv_aload_n hx hb dX0_put_0 rfl (lv_at hl 0 rfl) ?_
  refine va_get (D := (dC, dI)) (ci := 3) (v := .int 5) (C := RX0) (T := TX0) (N := 15) hx hb hts (in_z_X0_put_5_X0) hown hK hP 0 rfl rfl 2 (by decide) (hts (.fieldLink RX0 35 "HeapWorks$Archive" "filled" "I") (by decide +kernel)) (fun _ h9 => h9) (ow_at o_Fs0 0 rfl) dX0_put_1 ?_
  refine lv_aload_n hx hb dX0_put_4 rfl (lv_at hl 0 rfl) ?_
  refine va_get (D := (dC, dI)) (ci := 3) (v := .ref Ad1) (C := RX0) (T := TX0) (N := 15) hx hb hts (in_z_X0_put_5_X0) hown hK hP 0 rfl rfl 1 (by decide) (hts (.fieldLink RX0 19 "HeapWorks$Archive" "buffer" "[I") (by decide +kernel)) (fun _ h9 => h9) (ow_at o_Fs0 1 rfl) dX0_put_5 ?_
  refine va_alen (v := 4000) hx hb hK hP 1 0 rfl rfl (show Int32.ofNat 4000 = 4000 from by decide) dX0_put_8 ?_
  refine lv_icmp_ge (tgt := 22) hx hb dX0_put_9 (by decide) (fun c7695 => absurd c7695 (by decide)) (fun c7695 => ?_)
  refine lv_aload_n hx hb dX0_put_12 rfl (lv_at hl 0 rfl) ?_
  refine va_get (D := (dC, dI)) (ci := 3) (v := .ref Ad1) (C := RX0) (T := TX0) (N := 15) hx hb hts (in_z_X0_put_5_X0) hown hK hP 0 rfl rfl 1 (by decide) (hts (.fieldLink RX0 19 "HeapWorks$Archive" "buffer" "[I") (by decide +kernel)) (fun _ h9 => h9) (ow_at o_Fs0 1 rfl) dX0_put_13 ?_
  refine lv_aload_n hx hb dX0_put_16 rfl (lv_at hl 0 rfl) ?_
  refine va_get (D := (dC, dI)) (ci := 3) (v := .int 5) (C := RX0) (T := TX0) (N := 15) hx hb hts (in_z_X0_put_5_X0) hown hK hP 0 rfl rfl 2 (by decide) (hts (.fieldLink RX0 35 "HeapWorks$Archive" "filled" "I") (by decide +kernel)) (fun _ h9 => h9) (ow_at o_Fs0 0 rfl) dX0_put_17 ?_
  refine lv_iload_n hx hb dX0_put_20 rfl (lv_at hl 1 rfl) ?_
  refine va_iast hx hb hK hP hD hS 1 0 rfl rfl (show vp_in 5 4000 from by unfold vp_in; decide) dX0_put_21 (fun H locs hP hD hS => ?_)
  have hP : va_P (dC, dI) vwCl [(Ad0, .inr (3, Fs0)), (Ad1, .inl (Ka0, 4000, .inl (upd Fa0 (5 : Int32).toNatClampNeg Va0)))] H := hP
  have hD : va_D A [(Ad0, .inr (3, Fs0)), (Ad1, .inl (Ka0, 4000, .inl (upd Fa0 (5 : Int32).toNatClampNeg Va0)))] := hD
  have q7697 : (upd Fa0 (5 : Int32).toNatClampNeg Va0) (5 : Int32).toNatClampNeg = Va0 := pk_us
  generalize upd Fa0 (5 : Int32).toNatClampNeg Va0 = f7696 at hP hD q7697
  refine lv_aload_n hx hb dX0_put_22 rfl (lv_at hl 0 rfl) ?_
  refine lv_dup hx hb dX0_put_23 rfl ?_
  refine va_get (D := (dC, dI)) (ci := 3) (v := .int 5) (C := RX0) (T := TX0) (N := 15) hx hb hts (in_z_X0_put_5_X0) hown hK hP 0 rfl rfl 2 (by decide) (hts (.fieldLink RX0 35 "HeapWorks$Archive" "filled" "I") (by decide +kernel)) (fun _ h9 => h9) (ow_at o_Fs0 0 rfl) dX0_put_24 ?_
  refine lv_iconst (v := 1) hx hb dX0_put_27 (by decide) ?_
  refine lv_iadd hx hb dX0_put_28  ?_
  refine lv_topi (fun x7698 ex7698 => ?_)
  obtain rfl : x7698 = 6 := ex7698.trans (by decide)
  refine va_put (D := (dC, dI)) (ci := 3) (v := .int 6) (ty := .int) (C := RX0) (T := TX0) (N := 15) hx hb hts (in_z_X0_put_5_X0) tyX0 tyX0_ok nmX0 hown hK hP hD hS 0 rfl rfl 2 (by decide) (hts (.fieldLink RX0 35 "HeapWorks$Archive" "filled" "I") (by decide +kernel)) (fun _ h9 => h9) rfl (by decide +kernel) rfl rfl (by rw [o_Fs0.2.1]; decide) dX0_put_29 (fun H locs hP hD hS => ?_)
  have hP : va_P (dC, dI) vwCl [(Ad0, .inr (3, (Fs0.set 2 (.int 6)))), (Ad1, .inl (Ka0, 4000, .inl f7696))] H := hP
  have hD : va_D A [(Ad0, .inr (3, (Fs0.set 2 (.int 6)))), (Ad1, .inl (Ka0, 4000, .inl f7696))] := hD
  have o_s7699 := ow_set o_Fs0 2 (.int 6) (by decide) (l' := [(2, .int 6), (1, .ref Ad1), (1, .ref Ad1), (1, .ref Ad1), (1, .ref Ad1), (1, .ref Ad1), (1, .ref Ad1), (1, .ref Ad1), (1, .ref Ad1), (1, .ref Ad1), (1, .ref Ad1), (1, .ref Ad1), (1, .ref Ad1), (1, .ref Ad1), (1, .ref Ad1), (1, .ref Ad1), (1, .ref Ad1), (1, .ref Ad1), (1, .ref Ad1), (1, .ref Ad1), (1, .ref Ad1), (1, .ref Ad1), (1, .ref Ad1), (1, .ref Ad1), (1, .ref Ad1), (1, .ref Ad1), (1, .ref Ad1), (1, .ref Ad1), (1, .ref Ad1), (1, .ref Ad1), (1, .ref Ad1), (1, .ref Ad1), (1, .ref Ad1), (1, .ref Ad1), (1, .ref Ad1), (1, .ref Ad1), (1, .ref Ad1), (1, .ref Ad1), (1, .ref Ad1), (1, .ref Ad1), (1, .ref Ad1), (1, .ref Ad1), (1, .ref Ad1), (1, .ref Ad1), (1, .ref Ad1), (1, .ref Ad1), (1, .ref Ad1), (1, .ref Ad1), (1, .ref Ad1), (1, .ref Ad1), (1, .ref Ad1), (1, .ref Ad1), (1, .ref Ad1), (1, .ref Ad1), (1, .ref Ad1), (1, .ref Ad1), (1, .ref Ad1), (1, .ref Ad1), (1, .ref Ad1), (1, .ref Ad1), (1, .ref Ad1), (1, .ref Ad1), (1, .ref Ad1), (1, .ref Ad1), (1, .ref Ad1), (1, .ref Ad1), (1, .ref Ad1), (1, .ref Ad1), (1, .ref Ad1), (1, .ref Ad1), (1, .ref Ad1), (1, .ref Ad1), (1, .ref Ad1)]) (w' := [2]) rfl rfl
  generalize (Fs0.set 2 (.int 6)) = s7699 at hP hD o_s7699
  have hP9 := hP.sub (ws' := [(Ad0, .inr (3, s7699)), (Ad1, .inl (Ka0, 4000, .inl f7696))]) [0, 1] rfl
  have hD9 := hD.sub (ws' := [(Ad0, .inr (3, s7699)), (Ad1, .inl (Ka0, 4000, .inl f7696))]) [0, 1] (by decide) rfl
  have hK9 := hK.sub (tys' := [(Ka0, .int)]) [0] rfl
  exact W.vret hx hb hr (fun t ht hW => ⟨⟨(s7699, f7696), rfl, ⟨o_s7699, q7697⟩, by rw [ht]; exact hP9, va_K.moved hW.alike hK9, hD9⟩, hS.F ht⟩) hS.2.2 dX0_put_32

def l_z_X0_put_6 : List Cond := [.fieldLink RX0 35 "HeapWorks$Archive" "filled" "I", .fieldLink RX0 19 "HeapWorks$Archive" "buffer" "[I"]
def w_z_X0_put_6 : List Cond := .code yX0_put cX0_put 2 none :: (l_z_X0_put_6 ++ (wsX00))
theorem in_z_X0_put_6_X0 : ∀ w ∈ wsX00, w ∈ w_z_X0_put_6 := fun w h => List.mem_cons_of_mem _ (List.mem_append_right _ (h))
set_option maxHeartbeats 4000000 in
set_option maxRecDepth 100000 in
theorem z_X0_put_6 (l : Launch) (dC : Nat → ClassId) (dI : Nat → Nat → Nat) (sz : Nat) (Ad0 : Nat) (Fs0 : List Value) (Ad1 : Nat) (Fa0 : Nat → Int32) (Ka0 : ClassId) (Va0 : Int32) (k_Fs0 : fh Fs0 15 [(2, .int 6), (1, .ref Ad1), (1, .ref Ad1), (1, .ref Ad1), (1, .ref Ad1), (1, .ref Ad1), (1, .ref Ad1), (1, .ref Ad1), (1, .ref Ad1), (1, .ref Ad1), (1, .ref Ad1), (1, .ref Ad1), (1, .ref Ad1), (1, .ref Ad1), (1, .ref Ad1), (1, .ref Ad1), (1, .ref Ad1), (1, .ref Ad1), (1, .ref Ad1), (1, .ref Ad1), (1, .ref Ad1), (1, .ref Ad1), (1, .ref Ad1), (1, .ref Ad1), (1, .ref Ad1), (1, .ref Ad1), (1, .ref Ad1), (1, .ref Ad1), (1, .ref Ad1), (1, .ref Ad1), (1, .ref Ad1), (1, .ref Ad1), (1, .ref Ad1), (1, .ref Ad1), (1, .ref Ad1), (1, .ref Ad1), (1, .ref Ad1), (1, .ref Ad1), (1, .ref Ad1), (1, .ref Ad1), (1, .ref Ad1), (1, .ref Ad1), (1, .ref Ad1), (1, .ref Ad1), (1, .ref Ad1), (1, .ref Ad1), (1, .ref Ad1), (1, .ref Ad1), (1, .ref Ad1), (1, .ref Ad1), (1, .ref Ad1), (1, .ref Ad1), (1, .ref Ad1), (1, .ref Ad1), (1, .ref Ad1), (1, .ref Ad1), (1, .ref Ad1), (1, .ref Ad1), (1, .ref Ad1), (1, .ref Ad1), (1, .ref Ad1), (1, .ref Ad1), (1, .ref Ad1), (1, .ref Ad1), (1, .ref Ad1), (1, .ref Ad1), (1, .ref Ad1), (1, .ref Ad1), (1, .ref Ad1), (1, .ref Ad1), (1, .ref Ad1), (1, .ref Ad1), (1, .ref Ad1), (1, .ref Ad1), (1, .ref Ad1), (1, .ref Ad1), (1, .ref Ad1), (1, .ref Ad1), (1, .ref Ad1), (1, .ref Ad1), (1, .ref Ad1), (1, .ref Ad1), (1, .ref Ad1), (1, .ref Ad1), (1, .ref Ad1), (1, .ref Ad1), (1, .ref Ad1), (1, .ref Ad1), (1, .ref Ad1), (1, .ref Ad1), (1, .ref Ad1), (1, .ref Ad1), (1, .ref Ad1), (1, .ref Ad1), (1, .ref Ad1), (1, .ref Ad1), (1, .ref Ad1), (1, .ref Ad1), (1, .ref Ad1), (1, .ref Ad1), (1, .ref Ad1), (1, .ref Ad1), (1, .ref Ad1), (1, .ref Ad1), (1, .ref Ad1), (1, .ref Ad1), (1, .ref Ad1), (1, .ref Ad1), (1, .ref Ad1), (1, .ref Ad1), (1, .ref Ad1), (1, .ref Ad1), (1, .ref Ad1), (1, .ref Ad1), (1, .ref Ad1), (1, .ref Ad1), (1, .ref Ad1), (1, .ref Ad1), (1, .ref Ad1), (1, .ref Ad1), (1, .ref Ad1), (1, .ref Ad1), (1, .ref Ad1), (1, .ref Ad1), (1, .ref Ad1), (1, .ref Ad1), (1, .ref Ad1), (1, .ref Ad1), (1, .ref Ad1), (1, .ref Ad1), (1, .ref Ad1), (1, .ref Ad1), (1, .ref Ad1), (1, .ref Ad1), (1, .ref Ad1), (1, .ref Ad1), (1, .ref Ad1), (1, .ref Ad1), (1, .ref Ad1), (1, .ref Ad1), (1, .ref Ad1), (1, .ref Ad1), (1, .ref Ad1), (1, .ref Ad1), (1, .ref Ad1)])  : Met l yX0_put w_z_X0_put_6 ({ frames := 0, cells := 0, slots := 0, locals := 0 }) (va_Pc [.ref Ad0, .int Va0] (fun U => U.heap.size = sz ∧ Wd dC dI [(Ka0, .int)] (fun _ => True) [(Ad0, .inr (3, Fs0)), (Ad1, .inl (Ka0, 4000, .inl Fa0))] U)) (va_Qv (fun (u : List Value × (Nat → Int32)) => (ow Fs0 (u.1) 15 [2] [(2, .int 7), (1, .ref Ad1), (1, .ref Ad1), (1, .ref Ad1), (1, .ref Ad1), (1, .ref Ad1), (1, .ref Ad1), (1, .ref Ad1), (1, .ref Ad1), (1, .ref Ad1), (1, .ref Ad1), (1, .ref Ad1), (1, .ref Ad1), (1, .ref Ad1), (1, .ref Ad1), (1, .ref Ad1), (1, .ref Ad1), (1, .ref Ad1), (1, .ref Ad1), (1, .ref Ad1), (1, .ref Ad1), (1, .ref Ad1), (1, .ref Ad1), (1, .ref Ad1), (1, .ref Ad1), (1, .ref Ad1), (1, .ref Ad1), (1, .ref Ad1), (1, .ref Ad1), (1, .ref Ad1), (1, .ref Ad1), (1, .ref Ad1), (1, .ref Ad1), (1, .ref Ad1), (1, .ref Ad1), (1, .ref Ad1), (1, .ref Ad1), (1, .ref Ad1), (1, .ref Ad1), (1, .ref Ad1), (1, .ref Ad1), (1, .ref Ad1), (1, .ref Ad1), (1, .ref Ad1), (1, .ref Ad1), (1, .ref Ad1), (1, .ref Ad1), (1, .ref Ad1), (1, .ref Ad1), (1, .ref Ad1), (1, .ref Ad1), (1, .ref Ad1), (1, .ref Ad1), (1, .ref Ad1), (1, .ref Ad1), (1, .ref Ad1), (1, .ref Ad1), (1, .ref Ad1), (1, .ref Ad1), (1, .ref Ad1), (1, .ref Ad1), (1, .ref Ad1), (1, .ref Ad1), (1, .ref Ad1), (1, .ref Ad1), (1, .ref Ad1), (1, .ref Ad1), (1, .ref Ad1), (1, .ref Ad1), (1, .ref Ad1), (1, .ref Ad1), (1, .ref Ad1), (1, .ref Ad1), (1, .ref Ad1), (1, .ref Ad1), (1, .ref Ad1), (1, .ref Ad1), (1, .ref Ad1), (1, .ref Ad1), (1, .ref Ad1), (1, .ref Ad1), (1, .ref Ad1), (1, .ref Ad1), (1, .ref Ad1), (1, .ref Ad1), (1, .ref Ad1), (1, .ref Ad1), (1, .ref Ad1), (1, .ref Ad1), (1, .ref Ad1), (1, .ref Ad1), (1, .ref Ad1), (1, .ref Ad1), (1, .ref Ad1), (1, .ref Ad1), (1, .ref Ad1), (1, .ref Ad1), (1, .ref Ad1), (1, .ref Ad1), (1, .ref Ad1), (1, .ref Ad1), (1, .ref Ad1), (1, .ref Ad1), (1, .ref Ad1), (1, .ref Ad1), (1, .ref Ad1), (1, .ref Ad1), (1, .ref Ad1), (1, .ref Ad1), (1, .ref Ad1), (1, .ref Ad1), (1, .ref Ad1), (1, .ref Ad1), (1, .ref Ad1), (1, .ref Ad1), (1, .ref Ad1), (1, .ref Ad1), (1, .ref Ad1), (1, .ref Ad1), (1, .ref Ad1), (1, .ref Ad1), (1, .ref Ad1), (1, .ref Ad1), (1, .ref Ad1), (1, .ref Ad1), (1, .ref Ad1), (1, .ref Ad1), (1, .ref Ad1), (1, .ref Ad1), (1, .ref Ad1), (1, .ref Ad1), (1, .ref Ad1), (1, .ref Ad1), (1, .ref Ad1), (1, .ref Ad1), (1, .ref Ad1), (1, .ref Ad1), (1, .ref Ad1), (1, .ref Ad1), (1, .ref Ad1), (1, .ref Ad1), (1, .ref Ad1), (1, .ref Ad1), (1, .ref Ad1), (1, .ref Ad1)] ∧ (u.2) (6 : Int32).toNatClampNeg = Va0)) (fun (u : List Value × (Nat → Int32)) t => Wd dC dI [(Ka0, .int)] (va_A [(Ad0, .inr (3, Fs0)), (Ad1, .inl (Ka0, 4000, .inl Fa0))] sz) [(Ad0, .inr (3, (u.1))), (Ad1, .inl (Ka0, 4000, .inl ((u.2))))] t) (va_A [(Ad0, .inr (3, Fs0)), (Ad1, .inl (Ka0, 4000, .inl Fa0))] sz))  0 0 (va_A [(Ad0, .inr (3, Fs0)), (Ad1, .inl (Ka0, 4000, .inl Fa0))] sz) := by
  refine Met.ofW (cc := cX0_put) (maxL := 2) (ret := none) (by decide) rfl ?_
  intro p e s m args below meth c s₁ B hml hv
  obtain ⟨rfl, hsz, hP, hK, hD0⟩ := hv
  have hx := B.exec
  have hb := B.bytes
  have hr := B.returns
  have hts := atoms_spec (ws := w_z_X0_put_6) B.pre
  have hown : s.vm.findClass RX0 = some m.cls := findClass_of_methodNamed B.named
  have hlocks := B.notSynchronized
  subst hsz
  have hD := hD0.self (sz := s.heap.size)
  generalize hAe : va_A [(Ad0, .inr (3, Fs0)), (Ad1, .inl (Ka0, 4000, .inl Fa0))] s.heap.size = A at hD ⊢
  have hA : ∀ q : Nat, s.heap.size ≤ q → A q := fun q h => by rw [← hAe]; exact Or.inr h
  have hS : va_S A s.heap s.heap [] := va_S.rf
  have hl := lv_entry ([.ref Ad0, .int Va0]) (n := 2) (Nat.le_of_ble_eq_true rfl)
  rw [lg_entry_eq]
  generalize (lg_sl ([.ref Ad0, .int Va0]) ++ List.replicate (2 - (lg_sl ([.ref Ad0, .int Va0])).length) Slot.unset).toArray = ls at hl ⊢
  have hl : lv_has ls 2 [(0, .ref Ad0), (1, .int Va0)] := hl
  have o_Fs0 := ow_0 k_Fs0
  refine lv_aload_n hx hb dX0_put_0 rfl (lv_at hl 0 rfl) ?_
  refine va_get (D := (dC, dI)) (ci := 3) (v := .int 6) (C := RX0) (T := TX0) (N := 15) hx hb hts (in_z_X0_put_6_X0) hown hK hP 0 rfl rfl 2 (by decide) (hts (.fieldLink RX0 35 "HeapWorks$Archive" "filled" "I") (by decide +kernel)) (fun _ h9 => h9) (ow_at o_Fs0 0 rfl) dX0_put_1 ?_
  refine lv_aload_n hx hb dX0_put_4 rfl (lv_at hl 0 rfl) ?_
  refine va_get (D := (dC, dI)) (ci := 3) (v := .ref Ad1) (C := RX0) (T := TX0) (N := 15) hx hb hts (in_z_X0_put_6_X0) hown hK hP 0 rfl rfl 1 (by decide) (hts (.fieldLink RX0 19 "HeapWorks$Archive" "buffer" "[I") (by decide +kernel)) (fun _ h9 => h9) (ow_at o_Fs0 1 rfl) dX0_put_5 ?_
  refine va_alen (v := 4000) hx hb hK hP 1 0 rfl rfl (show Int32.ofNat 4000 = 4000 from by decide) dX0_put_8 ?_
  refine lv_icmp_ge (tgt := 22) hx hb dX0_put_9 (by decide) (fun c7713 => absurd c7713 (by decide)) (fun c7713 => ?_)
  refine lv_aload_n hx hb dX0_put_12 rfl (lv_at hl 0 rfl) ?_
  refine va_get (D := (dC, dI)) (ci := 3) (v := .ref Ad1) (C := RX0) (T := TX0) (N := 15) hx hb hts (in_z_X0_put_6_X0) hown hK hP 0 rfl rfl 1 (by decide) (hts (.fieldLink RX0 19 "HeapWorks$Archive" "buffer" "[I") (by decide +kernel)) (fun _ h9 => h9) (ow_at o_Fs0 1 rfl) dX0_put_13 ?_
  refine lv_aload_n hx hb dX0_put_16 rfl (lv_at hl 0 rfl) ?_
  refine va_get (D := (dC, dI)) (ci := 3) (v := .int 6) (C := RX0) (T := TX0) (N := 15) hx hb hts (in_z_X0_put_6_X0) hown hK hP 0 rfl rfl 2 (by decide) (hts (.fieldLink RX0 35 "HeapWorks$Archive" "filled" "I") (by decide +kernel)) (fun _ h9 => h9) (ow_at o_Fs0 0 rfl) dX0_put_17 ?_
  refine lv_iload_n hx hb dX0_put_20 rfl (lv_at hl 1 rfl) ?_
  refine va_iast hx hb hK hP hD hS 1 0 rfl rfl (show vp_in 6 4000 from by unfold vp_in; decide) dX0_put_21 (fun H locs hP hD hS => ?_)
  have hP : va_P (dC, dI) vwCl [(Ad0, .inr (3, Fs0)), (Ad1, .inl (Ka0, 4000, .inl (upd Fa0 (6 : Int32).toNatClampNeg Va0)))] H := hP
  have hD : va_D A [(Ad0, .inr (3, Fs0)), (Ad1, .inl (Ka0, 4000, .inl (upd Fa0 (6 : Int32).toNatClampNeg Va0)))] := hD
  have q7715 : (upd Fa0 (6 : Int32).toNatClampNeg Va0) (6 : Int32).toNatClampNeg = Va0 := pk_us
  generalize upd Fa0 (6 : Int32).toNatClampNeg Va0 = f7714 at hP hD q7715
  refine lv_aload_n hx hb dX0_put_22 rfl (lv_at hl 0 rfl) ?_
  refine lv_dup hx hb dX0_put_23 rfl ?_
  refine va_get (D := (dC, dI)) (ci := 3) (v := .int 6) (C := RX0) (T := TX0) (N := 15) hx hb hts (in_z_X0_put_6_X0) hown hK hP 0 rfl rfl 2 (by decide) (hts (.fieldLink RX0 35 "HeapWorks$Archive" "filled" "I") (by decide +kernel)) (fun _ h9 => h9) (ow_at o_Fs0 0 rfl) dX0_put_24 ?_
  refine lv_iconst (v := 1) hx hb dX0_put_27 (by decide) ?_
  refine lv_iadd hx hb dX0_put_28  ?_
  refine lv_topi (fun x7716 ex7716 => ?_)
  obtain rfl : x7716 = 7 := ex7716.trans (by decide)
  refine va_put (D := (dC, dI)) (ci := 3) (v := .int 7) (ty := .int) (C := RX0) (T := TX0) (N := 15) hx hb hts (in_z_X0_put_6_X0) tyX0 tyX0_ok nmX0 hown hK hP hD hS 0 rfl rfl 2 (by decide) (hts (.fieldLink RX0 35 "HeapWorks$Archive" "filled" "I") (by decide +kernel)) (fun _ h9 => h9) rfl (by decide +kernel) rfl rfl (by rw [o_Fs0.2.1]; decide) dX0_put_29 (fun H locs hP hD hS => ?_)
  have hP : va_P (dC, dI) vwCl [(Ad0, .inr (3, (Fs0.set 2 (.int 7)))), (Ad1, .inl (Ka0, 4000, .inl f7714))] H := hP
  have hD : va_D A [(Ad0, .inr (3, (Fs0.set 2 (.int 7)))), (Ad1, .inl (Ka0, 4000, .inl f7714))] := hD
  have o_s7717 := ow_set o_Fs0 2 (.int 7) (by decide) (l' := [(2, .int 7), (1, .ref Ad1), (1, .ref Ad1), (1, .ref Ad1), (1, .ref Ad1), (1, .ref Ad1), (1, .ref Ad1), (1, .ref Ad1), (1, .ref Ad1), (1, .ref Ad1), (1, .ref Ad1), (1, .ref Ad1), (1, .ref Ad1), (1, .ref Ad1), (1, .ref Ad1), (1, .ref Ad1), (1, .ref Ad1), (1, .ref Ad1), (1, .ref Ad1), (1, .ref Ad1), (1, .ref Ad1), (1, .ref Ad1), (1, .ref Ad1), (1, .ref Ad1), (1, .ref Ad1), (1, .ref Ad1), (1, .ref Ad1), (1, .ref Ad1), (1, .ref Ad1), (1, .ref Ad1), (1, .ref Ad1), (1, .ref Ad1), (1, .ref Ad1), (1, .ref Ad1), (1, .ref Ad1), (1, .ref Ad1), (1, .ref Ad1), (1, .ref Ad1), (1, .ref Ad1), (1, .ref Ad1), (1, .ref Ad1), (1, .ref Ad1), (1, .ref Ad1), (1, .ref Ad1), (1, .ref Ad1), (1, .ref Ad1), (1, .ref Ad1), (1, .ref Ad1), (1, .ref Ad1), (1, .ref Ad1), (1, .ref Ad1), (1, .ref Ad1), (1, .ref Ad1), (1, .ref Ad1), (1, .ref Ad1), (1, .ref Ad1), (1, .ref Ad1), (1, .ref Ad1), (1, .ref Ad1), (1, .ref Ad1), (1, .ref Ad1), (1, .ref Ad1), (1, .ref Ad1), (1, .ref Ad1), (1, .ref Ad1), (1, .ref Ad1), (1, .ref Ad1), (1, .ref Ad1), (1, .ref Ad1), (1, .ref Ad1), (1, .ref Ad1), (1, .ref Ad1), (1, .ref Ad1), (1, .ref Ad1), (1, .ref Ad1), (1, .ref Ad1), (1, .ref Ad1), (1, .ref Ad1), (1, .ref Ad1), (1, .ref Ad1), (1, .ref Ad1), (1, .ref Ad1), (1, .ref Ad1), (1, .ref Ad1), (1, .ref Ad1), (1, .ref Ad1), (1, .ref Ad1), (1, .ref Ad1), (1, .ref Ad1), (1, .ref Ad1), (1, .ref Ad1), (1, .ref Ad1), (1, .ref Ad1), (1, .ref Ad1), (1, .ref Ad1), (1, .ref Ad1), (1, .ref Ad1), (1, .ref Ad1), (1, .ref Ad1), (1, .ref Ad1), (1, .ref Ad1), (1, .ref Ad1), (1, .ref Ad1), (1, .ref Ad1), (1, .ref Ad1), (1, .ref Ad1), (1, .ref Ad1), (1, .ref Ad1), (1, .ref Ad1), (1, .ref Ad1), (1, .ref Ad1), (1, .ref Ad1), (1, .ref Ad1), (1, .ref Ad1), (1, .ref Ad1), (1, .ref Ad1), (1, .ref Ad1), (1, .ref Ad1), (1, .ref Ad1), (1, .ref Ad1), (1, .ref Ad1), (1, .ref Ad1), (1, .ref Ad1), (1, .ref Ad1), (1, .ref Ad1), (1, .ref Ad1), (1, .ref Ad1), (1, .ref Ad1), (1, .ref Ad1), (1, .ref Ad1), (1, .ref Ad1), (1, .ref Ad1), (1, .ref Ad1), (1, .ref Ad1), (1, .ref Ad1), (1, .ref Ad1), (1, .ref Ad1), (1, .ref Ad1), (1, .ref Ad1), (1, .ref Ad1), (1, .ref Ad1), (1, .ref Ad1), (1, .ref Ad1), (1, .ref Ad1), (1, .ref Ad1)]) (w' := [2]) rfl rfl
  generalize (Fs0.set 2 (.int 7)) = s7717 at hP hD o_s7717
  have hP9 := hP.sub (ws' := [(Ad0, .inr (3, s7717)), (Ad1, .inl (Ka0, 4000, .inl f7714))]) [0, 1] rfl
  have hD9 := hD.sub (ws' := [(Ad0, .inr (3, s7717)), (Ad1, .inl (Ka0, 4000, .inl f7714))]) [0, 1] (by decide) rfl
  have hK9 := hK.sub (tys' := [(Ka0, .int)]) [0] rfl
  exact W.vret hx hb hr (fun t ht hW => ⟨⟨(s7717, f7714), rfl, ⟨o_s7717, q7715⟩, by rw [ht]; exact hP9, va_K.moved hW.alike hK9, hD9⟩, hS.F ht⟩) hS.2.2 dX0_put_32

def l_z_X0_put_7 : List Cond := [.fieldLink RX0 35 "HeapWorks$Archive" "filled" "I", .fieldLink RX0 19 "HeapWorks$Archive" "buffer" "[I"]
def w_z_X0_put_7 : List Cond := .code yX0_put cX0_put 2 none :: (l_z_X0_put_7 ++ (wsX00))
theorem in_z_X0_put_7_X0 : ∀ w ∈ wsX00, w ∈ w_z_X0_put_7 := fun w h => List.mem_cons_of_mem _ (List.mem_append_right _ (h))
set_option maxHeartbeats 4000000 in
set_option maxRecDepth 100000 in
theorem z_X0_put_7 (l : Launch) (dC : Nat → ClassId) (dI : Nat → Nat → Nat) (sz : Nat) (Ad0 : Nat) (Fs0 : List Value) (Ad1 : Nat) (Fa0 : Nat → Int32) (Ka0 : ClassId) (Va0 : Int32) (k_Fs0 : fh Fs0 15 [(2, .int 7), (1, .ref Ad1), (1, .ref Ad1), (1, .ref Ad1), (1, .ref Ad1), (1, .ref Ad1), (1, .ref Ad1), (1, .ref Ad1), (1, .ref Ad1), (1, .ref Ad1), (1, .ref Ad1), (1, .ref Ad1), (1, .ref Ad1), (1, .ref Ad1), (1, .ref Ad1), (1, .ref Ad1), (1, .ref Ad1), (1, .ref Ad1), (1, .ref Ad1), (1, .ref Ad1), (1, .ref Ad1), (1, .ref Ad1), (1, .ref Ad1), (1, .ref Ad1), (1, .ref Ad1), (1, .ref Ad1), (1, .ref Ad1), (1, .ref Ad1), (1, .ref Ad1), (1, .ref Ad1), (1, .ref Ad1), (1, .ref Ad1), (1, .ref Ad1), (1, .ref Ad1), (1, .ref Ad1), (1, .ref Ad1), (1, .ref Ad1), (1, .ref Ad1), (1, .ref Ad1), (1, .ref Ad1), (1, .ref Ad1), (1, .ref Ad1), (1, .ref Ad1), (1, .ref Ad1), (1, .ref Ad1), (1, .ref Ad1), (1, .ref Ad1), (1, .ref Ad1), (1, .ref Ad1), (1, .ref Ad1), (1, .ref Ad1), (1, .ref Ad1), (1, .ref Ad1), (1, .ref Ad1), (1, .ref Ad1), (1, .ref Ad1), (1, .ref Ad1), (1, .ref Ad1), (1, .ref Ad1), (1, .ref Ad1), (1, .ref Ad1), (1, .ref Ad1), (1, .ref Ad1), (1, .ref Ad1), (1, .ref Ad1), (1, .ref Ad1), (1, .ref Ad1), (1, .ref Ad1), (1, .ref Ad1), (1, .ref Ad1), (1, .ref Ad1), (1, .ref Ad1), (1, .ref Ad1), (1, .ref Ad1), (1, .ref Ad1), (1, .ref Ad1), (1, .ref Ad1), (1, .ref Ad1), (1, .ref Ad1), (1, .ref Ad1), (1, .ref Ad1), (1, .ref Ad1), (1, .ref Ad1), (1, .ref Ad1), (1, .ref Ad1), (1, .ref Ad1), (1, .ref Ad1), (1, .ref Ad1), (1, .ref Ad1), (1, .ref Ad1), (1, .ref Ad1), (1, .ref Ad1), (1, .ref Ad1), (1, .ref Ad1), (1, .ref Ad1), (1, .ref Ad1), (1, .ref Ad1), (1, .ref Ad1), (1, .ref Ad1), (1, .ref Ad1), (1, .ref Ad1), (1, .ref Ad1), (1, .ref Ad1), (1, .ref Ad1), (1, .ref Ad1), (1, .ref Ad1), (1, .ref Ad1), (1, .ref Ad1), (1, .ref Ad1), (1, .ref Ad1), (1, .ref Ad1), (1, .ref Ad1), (1, .ref Ad1), (1, .ref Ad1), (1, .ref Ad1), (1, .ref Ad1), (1, .ref Ad1), (1, .ref Ad1), (1, .ref Ad1), (1, .ref Ad1), (1, .ref Ad1), (1, .ref Ad1), (1, .ref Ad1), (1, .ref Ad1), (1, .ref Ad1), (1, .ref Ad1), (1, .ref Ad1), (1, .ref Ad1), (1, .ref Ad1), (1, .ref Ad1), (1, .ref Ad1), (1, .ref Ad1), (1, .ref Ad1), (1, .ref Ad1), (1, .ref Ad1), (1, .ref Ad1), (1, .ref Ad1), (1, .ref Ad1), (1, .ref Ad1), (1, .ref Ad1), (1, .ref Ad1), (1, .ref Ad1), (1, .ref Ad1), (1, .ref Ad1), (1, .ref Ad1), (1, .ref Ad1), (1, .ref Ad1), (1, .ref Ad1), (1, .ref Ad1), (1, .ref Ad1), (1, .ref Ad1), (1, .ref Ad1), (1, .ref Ad1), (1, .ref Ad1), (1, .ref Ad1), (1, .ref Ad1), (1, .ref Ad1), (1, .ref Ad1), (1, .ref Ad1), (1, .ref Ad1), (1, .ref Ad1), (1, .ref Ad1), (1, .ref Ad1), (1, .ref Ad1), (1, .ref Ad1), (1, .ref Ad1), (1, .ref Ad1), (1, .ref Ad1), (1, .ref Ad1), (1, .ref Ad1), (1, .ref Ad1), (1, .ref Ad1), (1, .ref Ad1), (1, .ref Ad1), (1, .ref Ad1), (1, .ref Ad1), (1, .ref Ad1), (1, .ref Ad1), (1, .ref Ad1), (1, .ref Ad1), (1, .ref Ad1), (1, .ref Ad1), (1, .ref Ad1), (1, .ref Ad1), (1, .ref Ad1), (1, .ref Ad1), (1, .ref Ad1), (1, .ref Ad1), (1, .ref Ad1), (1, .ref Ad1), (1, .ref Ad1), (1, .ref Ad1), (1, .ref Ad1), (1, .ref Ad1), (1, .ref Ad1), (1, .ref Ad1), (1, .ref Ad1), (1, .ref Ad1), (1, .ref Ad1), (1, .ref Ad1), (1, .ref Ad1), (1, .ref Ad1), (1, .ref Ad1), (1, .ref Ad1), (1, .ref Ad1), (1, .ref Ad1), (1, .ref Ad1), (1, .ref Ad1), (1, .ref Ad1), (1, .ref Ad1), (1, .ref Ad1), (1, .ref Ad1), (1, .ref Ad1), (1, .ref Ad1), (1, .ref Ad1), (1, .ref Ad1), (1, .ref Ad1), (1, .ref Ad1), (1, .ref Ad1), (1, .ref Ad1), (1, .ref Ad1), (1, .ref Ad1), (1, .ref Ad1), (1, .ref Ad1), (1, .ref Ad1), (1, .ref Ad1), (1, .ref Ad1), (1, .ref Ad1), (1, .ref Ad1), (1, .ref Ad1), (1, .ref Ad1), (1, .ref Ad1), (1, .ref Ad1), (1, .ref Ad1), (1, .ref Ad1), (1, .ref Ad1), (1, .ref Ad1), (1, .ref Ad1), (1, .ref Ad1), (1, .ref Ad1), (1, .ref Ad1), (1, .ref Ad1), (1, .ref Ad1), (1, .ref Ad1), (1, .ref Ad1), (1, .ref Ad1), (1, .ref Ad1), (1, .ref Ad1), (1, .ref Ad1), (1, .ref Ad1), (1, .ref Ad1), (1, .ref Ad1), (1, .ref Ad1), (1, .ref Ad1), (1, .ref Ad1), (1, .ref Ad1), (1, .ref Ad1), (1, .ref Ad1), (1, .ref Ad1), (1, .ref Ad1), (1, .ref Ad1), (1, .ref Ad1), (1, .ref Ad1), (1, .ref Ad1), (1, .ref Ad1), (1, .ref Ad1), (1, .ref Ad1), (1, .ref Ad1), (1, .ref Ad1), (1, .ref Ad1), (1, .ref Ad1), (1, .ref Ad1), (1, .ref Ad1), (1, .ref Ad1), (1, .ref Ad1), (1, .ref Ad1), (1, .ref Ad1), (1, .ref Ad1), (1, .ref Ad1), (1, .ref Ad1), (1, .ref Ad1), (1, .ref Ad1), (1, .ref Ad1), (1, .ref Ad1), (1, .ref Ad1), (1, .ref Ad1), (1, .ref Ad1), (1, .ref Ad1), (1, .ref Ad1)])  : Met l yX0_put w_z_X0_put_7 ({ frames := 0, cells := 0, slots := 0, locals := 0 }) (va_Pc [.ref Ad0, .int Va0] (fun U => U.heap.size = sz ∧ Wd dC dI [(Ka0, .int)] (fun _ => True) [(Ad0, .inr (3, Fs0)), (Ad1, .inl (Ka0, 4000, .inl Fa0))] U)) (va_Qv (fun (u : List Value × (Nat → Int32)) => (ow Fs0 (u.1) 15 [2] [(2, .int 8), (1, .ref Ad1), (1, .ref Ad1), (1, .ref Ad1), (1, .ref Ad1), (1, .ref Ad1), (1, .ref Ad1), (1, .ref Ad1), (1, .ref Ad1), (1, .ref Ad1), (1, .ref Ad1), (1, .ref Ad1), (1, .ref Ad1), (1, .ref Ad1), (1, .ref Ad1), (1, .ref Ad1), (1, .ref Ad1), (1, .ref Ad1), (1, .ref Ad1), (1, .ref Ad1), (1, .ref Ad1), (1, .ref Ad1), (1, .ref Ad1), (1, .ref Ad1), (1, .ref Ad1), (1, .ref Ad1), (1, .ref Ad1), (1, .ref Ad1), (1, .ref Ad1), (1, .ref Ad1), (1, .ref Ad1), (1, .ref Ad1), (1, .ref Ad1), (1, .ref Ad1), (1, .ref Ad1), (1, .ref Ad1), (1, .ref Ad1), (1, .ref Ad1), (1, .ref Ad1), (1, .ref Ad1), (1, .ref Ad1), (1, .ref Ad1), (1, .ref Ad1), (1, .ref Ad1), (1, .ref Ad1), (1, .ref Ad1), (1, .ref Ad1), (1, .ref Ad1), (1, .ref Ad1), (1, .ref Ad1), (1, .ref Ad1), (1, .ref Ad1), (1, .ref Ad1), (1, .ref Ad1), (1, .ref Ad1), (1, .ref Ad1), (1, .ref Ad1), (1, .ref Ad1), (1, .ref Ad1), (1, .ref Ad1), (1, .ref Ad1), (1, .ref Ad1), (1, .ref Ad1), (1, .ref Ad1), (1, .ref Ad1), (1, .ref Ad1), (1, .ref Ad1), (1, .ref Ad1), (1, .ref Ad1), (1, .ref Ad1), (1, .ref Ad1), (1, .ref Ad1), (1, .ref Ad1), (1, .ref Ad1), (1, .ref Ad1), (1, .ref Ad1), (1, .ref Ad1), (1, .ref Ad1), (1, .ref Ad1), (1, .ref Ad1), (1, .ref Ad1), (1, .ref Ad1), (1, .ref Ad1), (1, .ref Ad1), (1, .ref Ad1), (1, .ref Ad1), (1, .ref Ad1), (1, .ref Ad1), (1, .ref Ad1), (1, .ref Ad1), (1, .ref Ad1), (1, .ref Ad1), (1, .ref Ad1), (1, .ref Ad1), (1, .ref Ad1), (1, .ref Ad1), (1, .ref Ad1), (1, .ref Ad1), (1, .ref Ad1), (1, .ref Ad1), (1, .ref Ad1), (1, .ref Ad1), (1, .ref Ad1), (1, .ref Ad1), (1, .ref Ad1), (1, .ref Ad1), (1, .ref Ad1), (1, .ref Ad1), (1, .ref Ad1), (1, .ref Ad1), (1, .ref Ad1), (1, .ref Ad1), (1, .ref Ad1), (1, .ref Ad1), (1, .ref Ad1), (1, .ref Ad1), (1, .ref Ad1), (1, .ref Ad1), (1, .ref Ad1), (1, .ref Ad1), (1, .ref Ad1), (1, .ref Ad1), (1, .ref Ad1), (1, .ref Ad1), (1, .ref Ad1), (1, .ref Ad1), (1, .ref Ad1), (1, .ref Ad1), (1, .ref Ad1), (1, .ref Ad1), (1, .ref Ad1), (1, .ref Ad1), (1, .ref Ad1), (1, .ref Ad1), (1, .ref Ad1), (1, .ref Ad1), (1, .ref Ad1), (1, .ref Ad1), (1, .ref Ad1), (1, .ref Ad1), (1, .ref Ad1), (1, .ref Ad1), (1, .ref Ad1), (1, .ref Ad1), (1, .ref Ad1), (1, .ref Ad1), (1, .ref Ad1), (1, .ref Ad1), (1, .ref Ad1), (1, .ref Ad1), (1, .ref Ad1), (1, .ref Ad1), (1, .ref Ad1), (1, .ref Ad1), (1, .ref Ad1), (1, .ref Ad1), (1, .ref Ad1), (1, .ref Ad1), (1, .ref Ad1), (1, .ref Ad1), (1, .ref Ad1), (1, .ref Ad1), (1, .ref Ad1), (1, .ref Ad1), (1, .ref Ad1), (1, .ref Ad1), (1, .ref Ad1), (1, .ref Ad1), (1, .ref Ad1), (1, .ref Ad1), (1, .ref Ad1), (1, .ref Ad1), (1, .ref Ad1), (1, .ref Ad1), (1, .ref Ad1), (1, .ref Ad1), (1, .ref Ad1), (1, .ref Ad1), (1, .ref Ad1), (1, .ref Ad1), (1, .ref Ad1), (1, .ref Ad1), (1, .ref Ad1), (1, .ref Ad1), (1, .ref Ad1), (1, .ref Ad1), (1, .ref Ad1), (1, .ref Ad1), (1, .ref Ad1), (1, .ref Ad1), (1, .ref Ad1), (1, .ref Ad1), (1, .ref Ad1), (1, .ref Ad1), (1, .ref Ad1), (1, .ref Ad1), (1, .ref Ad1), (1, .ref Ad1), (1, .ref Ad1), (1, .ref Ad1), (1, .ref Ad1), (1, .ref Ad1), (1, .ref Ad1), (1, .ref Ad1), (1, .ref Ad1), (1, .ref Ad1), (1, .ref Ad1), (1, .ref Ad1), (1, .ref Ad1), (1, .ref Ad1), (1, .ref Ad1), (1, .ref Ad1), (1, .ref Ad1), (1, .ref Ad1), (1, .ref Ad1), (1, .ref Ad1), (1, .ref Ad1), (1, .ref Ad1), (1, .ref Ad1), (1, .ref Ad1), (1, .ref Ad1), (1, .ref Ad1), (1, .ref Ad1), (1, .ref Ad1), (1, .ref Ad1), (1, .ref Ad1), (1, .ref Ad1), (1, .ref Ad1), (1, .ref Ad1), (1, .ref Ad1), (1, .ref Ad1), (1, .ref Ad1), (1, .ref Ad1), (1, .ref Ad1), (1, .ref Ad1), (1, .ref Ad1), (1, .ref Ad1), (1, .ref Ad1), (1, .ref Ad1), (1, .ref Ad1), (1, .ref Ad1), (1, .ref Ad1), (1, .ref Ad1), (1, .ref Ad1), (1, .ref Ad1), (1, .ref Ad1), (1, .ref Ad1), (1, .ref Ad1), (1, .ref Ad1), (1, .ref Ad1), (1, .ref Ad1), (1, .ref Ad1), (1, .ref Ad1), (1, .ref Ad1), (1, .ref Ad1), (1, .ref Ad1), (1, .ref Ad1), (1, .ref Ad1), (1, .ref Ad1), (1, .ref Ad1), (1, .ref Ad1), (1, .ref Ad1), (1, .ref Ad1), (1, .ref Ad1), (1, .ref Ad1), (1, .ref Ad1), (1, .ref Ad1), (1, .ref Ad1), (1, .ref Ad1), (1, .ref Ad1), (1, .ref Ad1), (1, .ref Ad1), (1, .ref Ad1), (1, .ref Ad1), (1, .ref Ad1), (1, .ref Ad1), (1, .ref Ad1), (1, .ref Ad1), (1, .ref Ad1), (1, .ref Ad1), (1, .ref Ad1), (1, .ref Ad1), (1, .ref Ad1), (1, .ref Ad1), (1, .ref Ad1), (1, .ref Ad1), (1, .ref Ad1), (1, .ref Ad1), (1, .ref Ad1)] ∧ (u.2) (7 : Int32).toNatClampNeg = Va0)) (fun (u : List Value × (Nat → Int32)) t => Wd dC dI [(Ka0, .int)] (va_A [(Ad0, .inr (3, Fs0)), (Ad1, .inl (Ka0, 4000, .inl Fa0))] sz) [(Ad0, .inr (3, (u.1))), (Ad1, .inl (Ka0, 4000, .inl ((u.2))))] t) (va_A [(Ad0, .inr (3, Fs0)), (Ad1, .inl (Ka0, 4000, .inl Fa0))] sz))  0 0 (va_A [(Ad0, .inr (3, Fs0)), (Ad1, .inl (Ka0, 4000, .inl Fa0))] sz) := by
  refine Met.ofW (cc := cX0_put) (maxL := 2) (ret := none) (by decide) rfl ?_
  intro p e s m args below meth c s₁ B hml hv
  obtain ⟨rfl, hsz, hP, hK, hD0⟩ := hv
  have hx := B.exec
  have hb := B.bytes
  have hr := B.returns
  have hts := atoms_spec (ws := w_z_X0_put_7) B.pre
  have hown : s.vm.findClass RX0 = some m.cls := findClass_of_methodNamed B.named
  have hlocks := B.notSynchronized
  subst hsz
  have hD := hD0.self (sz := s.heap.size)
  generalize hAe : va_A [(Ad0, .inr (3, Fs0)), (Ad1, .inl (Ka0, 4000, .inl Fa0))] s.heap.size = A at hD ⊢
  have hA : ∀ q : Nat, s.heap.size ≤ q → A q := fun q h => by rw [← hAe]; exact Or.inr h
  have hS : va_S A s.heap s.heap [] := va_S.rf
  have hl := lv_entry ([.ref Ad0, .int Va0]) (n := 2) (Nat.le_of_ble_eq_true rfl)
  rw [lg_entry_eq]
  generalize (lg_sl ([.ref Ad0, .int Va0]) ++ List.replicate (2 - (lg_sl ([.ref Ad0, .int Va0])).length) Slot.unset).toArray = ls at hl ⊢
  have hl : lv_has ls 2 [(0, .ref Ad0), (1, .int Va0)] := hl
  have o_Fs0 := ow_0 k_Fs0
  refine lv_aload_n hx hb dX0_put_0 rfl (lv_at hl 0 rfl) ?_
  refine va_get (D := (dC, dI)) (ci := 3) (v := .int 7) (C := RX0) (T := TX0) (N := 15) hx hb hts (in_z_X0_put_7_X0) hown hK hP 0 rfl rfl 2 (by decide) (hts (.fieldLink RX0 35 "HeapWorks$Archive" "filled" "I") (by decide +kernel)) (fun _ h9 => h9) (ow_at o_Fs0 0 rfl) dX0_put_1 ?_
  refine lv_aload_n hx hb dX0_put_4 rfl (lv_at hl 0 rfl) ?_
  refine va_get (D := (dC, dI)) (ci := 3) (v := .ref Ad1) (C := RX0) (T := TX0) (N := 15) hx hb hts (in_z_X0_put_7_X0) hown hK hP 0 rfl rfl 1 (by decide) (hts (.fieldLink RX0 19 "HeapWorks$Archive" "buffer" "[I") (by decide +kernel)) (fun _ h9 => h9) (ow_at o_Fs0 1 rfl) dX0_put_5 ?_
  refine va_alen (v := 4000) hx hb hK hP 1 0 rfl rfl (show Int32.ofNat 4000 = 4000 from by decide) dX0_put_8 ?_
  refine lv_icmp_ge (tgt := 22) hx hb dX0_put_9 (by decide) (fun c7731 => absurd c7731 (by decide)) (fun c7731 => ?_)
  refine lv_aload_n hx hb dX0_put_12 rfl (lv_at hl 0 rfl) ?_
  refine va_get (D := (dC, dI)) (ci := 3) (v := .ref Ad1) (C := RX0) (T := TX0) (N := 15) hx hb hts (in_z_X0_put_7_X0) hown hK hP 0 rfl rfl 1 (by decide) (hts (.fieldLink RX0 19 "HeapWorks$Archive" "buffer" "[I") (by decide +kernel)) (fun _ h9 => h9) (ow_at o_Fs0 1 rfl) dX0_put_13 ?_
  refine lv_aload_n hx hb dX0_put_16 rfl (lv_at hl 0 rfl) ?_
  refine va_get (D := (dC, dI)) (ci := 3) (v := .int 7) (C := RX0) (T := TX0) (N := 15) hx hb hts (in_z_X0_put_7_X0) hown hK hP 0 rfl rfl 2 (by decide) (hts (.fieldLink RX0 35 "HeapWorks$Archive" "filled" "I") (by decide +kernel)) (fun _ h9 => h9) (ow_at o_Fs0 0 rfl) dX0_put_17 ?_
  refine lv_iload_n hx hb dX0_put_20 rfl (lv_at hl 1 rfl) ?_
  refine va_iast hx hb hK hP hD hS 1 0 rfl rfl (show vp_in 7 4000 from by unfold vp_in; decide) dX0_put_21 (fun H locs hP hD hS => ?_)
  have hP : va_P (dC, dI) vwCl [(Ad0, .inr (3, Fs0)), (Ad1, .inl (Ka0, 4000, .inl (upd Fa0 (7 : Int32).toNatClampNeg Va0)))] H := hP
  have hD : va_D A [(Ad0, .inr (3, Fs0)), (Ad1, .inl (Ka0, 4000, .inl (upd Fa0 (7 : Int32).toNatClampNeg Va0)))] := hD
  have q7733 : (upd Fa0 (7 : Int32).toNatClampNeg Va0) (7 : Int32).toNatClampNeg = Va0 := pk_us
  generalize upd Fa0 (7 : Int32).toNatClampNeg Va0 = f7732 at hP hD q7733
  refine lv_aload_n hx hb dX0_put_22 rfl (lv_at hl 0 rfl) ?_
  refine lv_dup hx hb dX0_put_23 rfl ?_
  refine va_get (D := (dC, dI)) (ci := 3) (v := .int 7) (C := RX0) (T := TX0) (N := 15) hx hb hts (in_z_X0_put_7_X0) hown hK hP 0 rfl rfl 2 (by decide) (hts (.fieldLink RX0 35 "HeapWorks$Archive" "filled" "I") (by decide +kernel)) (fun _ h9 => h9) (ow_at o_Fs0 0 rfl) dX0_put_24 ?_
  refine lv_iconst (v := 1) hx hb dX0_put_27 (by decide) ?_
  refine lv_iadd hx hb dX0_put_28  ?_
  refine lv_topi (fun x7734 ex7734 => ?_)
  obtain rfl : x7734 = 8 := ex7734.trans (by decide)
  refine va_put (D := (dC, dI)) (ci := 3) (v := .int 8) (ty := .int) (C := RX0) (T := TX0) (N := 15) hx hb hts (in_z_X0_put_7_X0) tyX0 tyX0_ok nmX0 hown hK hP hD hS 0 rfl rfl 2 (by decide) (hts (.fieldLink RX0 35 "HeapWorks$Archive" "filled" "I") (by decide +kernel)) (fun _ h9 => h9) rfl (by decide +kernel) rfl rfl (by rw [o_Fs0.2.1]; decide) dX0_put_29 (fun H locs hP hD hS => ?_)
  have hP : va_P (dC, dI) vwCl [(Ad0, .inr (3, (Fs0.set 2 (.int 8)))), (Ad1, .inl (Ka0, 4000, .inl f7732))] H := hP
  have hD : va_D A [(Ad0, .inr (3, (Fs0.set 2 (.int 8)))), (Ad1, .inl (Ka0, 4000, .inl f7732))] := hD
  have o_s7735 := ow_set o_Fs0 2 (.int 8) (by decide) (l' := [(2, .int 8), (1, .ref Ad1), (1, .ref Ad1), (1, .ref Ad1), (1, .ref Ad1), (1, .ref Ad1), (1, .ref Ad1), (1, .ref Ad1), (1, .ref Ad1), (1, .ref Ad1), (1, .ref Ad1), (1, .ref Ad1), (1, .ref Ad1), (1, .ref Ad1), (1, .ref Ad1), (1, .ref Ad1), (1, .ref Ad1), (1, .ref Ad1), (1, .ref Ad1), (1, .ref Ad1), (1, .ref Ad1), (1, .ref Ad1), (1, .ref Ad1), (1, .ref Ad1), (1, .ref Ad1), (1, .ref Ad1), (1, .ref Ad1), (1, .ref Ad1), (1, .ref Ad1), (1, .ref Ad1), (1, .ref Ad1), (1, .ref Ad1), (1, .ref Ad1), (1, .ref Ad1), (1, .ref Ad1), (1, .ref Ad1), (1, .ref Ad1), (1, .ref Ad1), (1, .ref Ad1), (1, .ref Ad1), (1, .ref Ad1), (1, .ref Ad1), (1, .ref Ad1), (1, .ref Ad1), (1, .ref Ad1), (1, .ref Ad1), (1, .ref Ad1), (1, .ref Ad1), (1, .ref Ad1), (1, .ref Ad1), (1, .ref Ad1), (1, .ref Ad1), (1, .ref Ad1), (1, .ref Ad1), (1, .ref Ad1), (1, .ref Ad1), (1, .ref Ad1), (1, .ref Ad1), (1, .ref Ad1), (1, .ref Ad1), (1, .ref Ad1), (1, .ref Ad1), (1, .ref Ad1), (1, .ref Ad1), (1, .ref Ad1), (1, .ref Ad1), (1, .ref Ad1), (1, .ref Ad1), (1, .ref Ad1), (1, .ref Ad1), (1, .ref Ad1), (1, .ref Ad1), (1, .ref Ad1), (1, .ref Ad1), (1, .ref Ad1), (1, .ref Ad1), (1, .ref Ad1), (1, .ref Ad1), (1, .ref Ad1), (1, .ref Ad1), (1, .ref Ad1), (1, .ref Ad1), (1, .ref Ad1), (1, .ref Ad1), (1, .ref Ad1), (1, .ref Ad1), (1, .ref Ad1), (1, .ref Ad1), (1, .ref Ad1), (1, .ref Ad1), (1, .ref Ad1), (1, .ref Ad1), (1, .ref Ad1), (1, .ref Ad1), (1, .ref Ad1), (1, .ref Ad1), (1, .ref Ad1), (1, .ref Ad1), (1, .ref Ad1), (1, .ref Ad1), (1, .ref Ad1), (1, .ref Ad1), (1, .ref Ad1), (1, .ref Ad1), (1, .ref Ad1), (1, .ref Ad1), (1, .ref Ad1), (1, .ref Ad1), (1, .ref Ad1), (1, .ref Ad1), (1, .ref Ad1), (1, .ref Ad1), (1, .ref Ad1), (1, .ref Ad1), (1, .ref Ad1), (1, .ref Ad1), (1, .ref Ad1), (1, .ref Ad1), (1, .ref Ad1), (1, .ref Ad1), (1, .ref Ad1), (1, .ref Ad1), (1, .ref Ad1), (1, .ref Ad1), (1, .ref Ad1), (1, .ref Ad1), (1, .ref Ad1), (1, .ref Ad1), (1, .ref Ad1), (1, .ref Ad1), (1, .ref Ad1), (1, .ref Ad1), (1, .ref Ad1), (1, .ref Ad1), (1, .ref Ad1), (1, .ref Ad1), (1, .ref Ad1), (1, .ref Ad1), (1, .ref Ad1), (1, .ref Ad1), (1, .ref Ad1), (1, .ref Ad1), (1, .ref Ad1), (1, .ref Ad1), (1, .ref Ad1), (1, .ref Ad1), (1, .ref Ad1), (1, .ref Ad1), (1, .ref Ad1), (1, .ref Ad1), (1, .ref Ad1), (1, .ref Ad1), (1, .ref Ad1), (1, .ref Ad1), (1, .ref Ad1), (1, .ref Ad1), (1, .ref Ad1), (1, .ref Ad1), (1, .ref Ad1), (1, .ref Ad1), (1, .ref Ad1), (1, .ref Ad1), (1, .ref Ad1), (1, .ref Ad1), (1, .ref Ad1), (1, .ref Ad1), (1, .ref Ad1), (1, .ref Ad1), (1, .ref Ad1), (1, .ref Ad1), (1, .ref Ad1), (1, .ref Ad1), (1, .ref Ad1), (1, .ref Ad1), (1, .ref Ad1), (1, .ref Ad1), (1, .ref Ad1), (1, .ref Ad1), (1, .ref Ad1), (1, .ref Ad1), (1, .ref Ad1), (1, .ref Ad1), (1, .ref Ad1), (1, .ref Ad1), (1, .ref Ad1), (1, .ref Ad1), (1, .ref Ad1), (1, .ref Ad1), (1, .ref Ad1), (1, .ref Ad1), (1, .ref Ad1), (1, .ref Ad1), (1, .ref Ad1), (1, .ref Ad1), (1, .ref Ad1), (1, .ref Ad1), (1, .ref Ad1), (1, .ref Ad1), (1, .ref Ad1), (1, .ref Ad1), (1, .ref Ad1), (1, .ref Ad1), (1, .ref Ad1), (1, .ref Ad1), (1, .ref Ad1), (1, .ref Ad1), (1, .ref Ad1), (1, .ref Ad1), (1, .ref Ad1), (1, .ref Ad1), (1, .ref Ad1), (1, .ref Ad1), (1, .ref Ad1), (1, .ref Ad1), (1, .ref Ad1), (1, .ref Ad1), (1, .ref Ad1), (1, .ref Ad1), (1, .ref Ad1), (1, .ref Ad1), (1, .ref Ad1), (1, .ref Ad1), (1, .ref Ad1), (1, .ref Ad1), (1, .ref Ad1), (1, .ref Ad1), (1, .ref Ad1), (1, .ref Ad1), (1, .ref Ad1), (1, .ref Ad1), (1, .ref Ad1), (1, .ref Ad1), (1, .ref Ad1), (1, .ref Ad1), (1, .ref Ad1), (1, .ref Ad1), (1, .ref Ad1), (1, .ref Ad1), (1, .ref Ad1), (1, .ref Ad1), (1, .ref Ad1), (1, .ref Ad1), (1, .ref Ad1), (1, .ref Ad1), (1, .ref Ad1), (1, .ref Ad1), (1, .ref Ad1), (1, .ref Ad1), (1, .ref Ad1), (1, .ref Ad1), (1, .ref Ad1), (1, .ref Ad1), (1, .ref Ad1), (1, .ref Ad1), (1, .ref Ad1), (1, .ref Ad1), (1, .ref Ad1), (1, .ref Ad1), (1, .ref Ad1), (1, .ref Ad1), (1, .ref Ad1), (1, .ref Ad1), (1, .ref Ad1), (1, .ref Ad1), (1, .ref Ad1), (1, .ref Ad1), (1, .ref Ad1), (1, .ref Ad1), (1, .ref Ad1), (1, .ref Ad1), (1, .ref Ad1), (1, .ref Ad1), (1, .ref Ad1), (1, .ref Ad1), (1, .ref Ad1), (1, .ref Ad1), (1, .ref Ad1), (1, .ref Ad1), (1, .ref Ad1), (1, .ref Ad1), (1, .ref Ad1), (1, .ref Ad1), (1, .ref Ad1), (1, .ref Ad1), (1, .ref Ad1), (1, .ref Ad1), (1, .ref Ad1), (1, .ref Ad1), (1, .ref Ad1)]) (w' := [2]) rfl rfl
  generalize (Fs0.set 2 (.int 8)) = s7735 at hP hD o_s7735
  have hP9 := hP.sub (ws' := [(Ad0, .inr (3, s7735)), (Ad1, .inl (Ka0, 4000, .inl f7732))]) [0, 1] rfl
  have hD9 := hD.sub (ws' := [(Ad0, .inr (3, s7735)), (Ad1, .inl (Ka0, 4000, .inl f7732))]) [0, 1] (by decide) rfl
  have hK9 := hK.sub (tys' := [(Ka0, .int)]) [0] rfl
  exact W.vret hx hb hr (fun t ht hW => ⟨⟨(s7735, f7732), rfl, ⟨o_s7735, q7733⟩, by rw [ht]; exact hP9, va_K.moved hW.alike hK9, hD9⟩, hS.F ht⟩) hS.2.2 dX0_put_32
