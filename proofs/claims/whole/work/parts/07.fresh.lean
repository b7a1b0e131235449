theorem kc_0 : (0 : Int32).toInt = 0 := by decide
theorem kc_4 : (4 : Int32).toInt = 4 := by decide
def w_x_wipe : List Cond := .code yX11_wipe cX11_wipe 1 none :: ([.fieldLink RX11 12 "HeapWorks" "tape" "LHeapWorks$Tape;", .fieldLink RX11 110 "HeapWorks$Tape" "size" "I"] ++ wsX110 ++ wsX90)
theorem in_x_wipe_X11 : ∀ w ∈ wsX110, w ∈ w_x_wipe := by decide +kernel
theorem in_x_wipe_X9 : ∀ w ∈ wsX90, w ∈ w_x_wipe := by decide +kernel
set_option maxHeartbeats 4000000 in
set_option maxRecDepth 100000 in
theorem x_wipe (l : Launch) (dC : Nat → ClassId) (dI : Nat → Nat → Nat) (sz : Nat) (aX : Nat) (fsX : List Value) (aT : Nat) (fsT : List Value) (k_fsX : fh fsX 18 [(0, .ref aT)]) (k_fsT : fh fsT 12 [])  : Met l yX11_wipe w_x_wipe ({ frames := 0, cells := 0, slots := 0, locals := 0 }) (va_Pc [.ref aX] (fun U => U.heap.size = sz ∧ Wd dC dI [] (fun _ => True) [(aX, .inr (14, fsX)), (aT, .inr (12, fsT))] U)) (va_Qv (fun (u : List Value) => ow fsT (u) 12 [1] [(1, .int 0)]) (fun (u : List Value) t => Wd dC dI [] (va_A [(aX, .inr (14, fsX)), (aT, .inr (12, fsT))] sz) [(aX, .inr (14, fsX)), (aT, .inr (12, (u)))] t) (va_A [(aX, .inr (14, fsX)), (aT, .inr (12, fsT))] sz)) 0 0 (va_A [(aX, .inr (14, fsX)), (aT, .inr (12, fsT))] sz) := by
  refine Met.ofW (cc := cX11_wipe) (maxL := 1) (ret := none) (by decide) rfl ?_
  intro p e s m args below meth c s₁ B hml hv
  obtain ⟨rfl, hsz, hP, hK, hD0⟩ := hv
  have hx := B.exec
  have hb := B.bytes
  have hr := B.returns
  have hts := atoms_spec (ws := w_x_wipe) B.pre
  have hown : s.vm.findClass RX11 = some m.cls := findClass_of_methodNamed B.named
  have hlocks := B.notSynchronized
  subst hsz
  have hD := hD0.self (sz := s.heap.size)
  generalize hAe : va_A [(aX, .inr (14, fsX)), (aT, .inr (12, fsT))] s.heap.size = A at hD ⊢
  have hA : ∀ q : Nat, s.heap.size ≤ q → A q := fun q h => by rw [← hAe]; exact Or.inr h
  have hS : va_S A s.heap s.heap [] := va_S.rf
  have hl := lv_entry ([.ref aX]) (n := 1) (Nat.le_of_ble_eq_true rfl)
  rw [lg_entry_eq]
  generalize (lg_sl ([.ref aX]) ++ List.replicate (1 - (lg_sl ([.ref aX])).length) Slot.unset).toArray = ls at hl ⊢
  have hl : lv_has ls 1 [(0, .ref aX)] := hl
  have o_fsX := ow_0 k_fsX
  have o_fsT := ow_0 k_fsT
  refine lv_aload_n hx hb dX11_wipe_0 rfl (lv_at hl 0 rfl) ?_
  refine va_get (D := (dC, dI)) (ci := 14) (v := .ref aT) (C := RX11) (T := TX11) (N := 18) hx hb hts (in_x_wipe_X11) hown hK hP 0 rfl rfl 0 (by decide) (hts (.fieldLink RX11 12 "HeapWorks" "tape" "LHeapWorks$Tape;") (by decide +kernel)) (fun _ h9 => h9) (ow_at o_fsX 0 rfl) dX11_wipe_1 ?_
  refine lv_iconst (v := 0) hx hb dX11_wipe_4 (by decide) ?_
  refine va_put (D := (dC, dI)) (ci := 12) (v := .int 0) (ty := .int) (C := RX9) (T := TX9) (N := 12) hx hb hts (in_x_wipe_X9) tyX9 tyX9_ok nmX9 hown hK hP hD hS 1 rfl rfl 1 (by decide) (hts (.fieldLink RX11 110 "HeapWorks$Tape" "size" "I") (by decide +kernel)) (fun _ h9 => h9) rfl (by decide +kernel) rfl rfl (by rw [o_fsT.2.1]; decide) dX11_wipe_5 (fun H locs hP hD hS => ?_)
  have hP : va_P (dC, dI) vwCl [(aX, .inr (14, fsX)), (aT, .inr (12, (fsT.set 1 (.int 0))))] H := hP
  have hD : va_D A [(aX, .inr (14, fsX)), (aT, .inr (12, (fsT.set 1 (.int 0))))] := hD
  have o_s2 := ow_set o_fsT 1 (.int 0) (by decide) (l' := [(1, .int 0)]) (w' := [1]) rfl rfl
  generalize (fsT.set 1 (.int 0)) = s2 at hP hD o_s2
  have hP9 := hP.sub (ws' := [(aX, .inr (14, fsX)), (aT, .inr (12, s2))]) [0, 1] rfl
  have hD9 := hD.sub (ws' := [(aX, .inr (14, fsX)), (aT, .inr (12, s2))]) [0, 1] (by decide) rfl
  have hK9 := hK
  exact W.vret hx hb hr (fun t ht hW => ⟨⟨s2, rfl, o_s2, by rw [ht]; exact hP9, va_K.moved hW.alike hK9, hD9⟩, hS.F ht⟩) hS.2.2 dX11_wipe_8

def w_x_flip : List Cond := .code yX11_flip cX11_flip 3 (some .boolean) :: ([.fieldLink RX11 12 "HeapWorks" "tape" "LHeapWorks$Tape;", .fieldLink RX11 110 "HeapWorks$Tape" "size" "I"] ++ wsX110 ++ wsX90)
theorem in_x_flip_X11 : ∀ w ∈ wsX110, w ∈ w_x_flip := by decide +kernel
theorem in_x_flip_X9 : ∀ w ∈ wsX90, w ∈ w_x_flip := by decide +kernel
set_option maxHeartbeats 4000000 in
set_option maxRecDepth 100000 in
theorem x_flip (l : Launch) (dC : Nat → ClassId) (dI : Nat → Nat → Nat) (sz : Nat) (aX : Nat) (fsX : List Value) (aT : Nat) (fsT : List Value) (p0 : Int32) (p1 : Int32) (k_fsX : fh fsX 18 [(0, .ref aT)]) (k_fsT : fh fsT 12 [(1, .int 0)])  : Met l yX11_flip w_x_flip ({ frames := 0, cells := 0, slots := 0, locals := 0 }) (va_Pc [.ref aX, .int p0, .int p1] (fun U => U.heap.size = sz ∧ Wd dC dI [] (fun _ => True) [(aX, .inr (14, fsX)), (aT, .inr (12, fsT))] U)) (va_Qi (fun (r : Int32) (u : Unit) => (p0 < 0 ∧ r = 0) ∨ (¬ p0 < 0 ∧ 0 ≤ p0 ∧ r = 0)) (fun (u : Unit) t => Wd dC dI [] (va_A [(aX, .inr (14, fsX)), (aT, .inr (12, fsT))] sz) [(aX, .inr (14, fsX)), (aT, .inr (12, fsT))] t) (va_A [(aX, .inr (14, fsX)), (aT, .inr (12, fsT))] sz)) 0 0 (va_A [(aX, .inr (14, fsX)), (aT, .inr (12, fsT))] sz) := by
  refine Met.ofW (cc := cX11_flip) (maxL := 3) (ret := (some .boolean)) (by decide) rfl ?_
  intro p e s m args below meth c s₁ B hml hv
  obtain ⟨rfl, hsz, hP, hK, hD0⟩ := hv
  have hx := B.exec
  have hb := B.bytes
  have hr := B.returns
  have hts := atoms_spec (ws := w_x_flip) B.pre
  have hown : s.vm.findClass RX11 = some m.cls := findClass_of_methodNamed B.named
  have hlocks := B.notSynchronized
  subst hsz
  have hD := hD0.self (sz := s.heap.size)
  generalize hAe : va_A [(aX, .inr (14, fsX)), (aT, .inr (12, fsT))] s.heap.size = A at hD ⊢
  have hA : ∀ q : Nat, s.heap.size ≤ q → A q := fun q h => by rw [← hAe]; exact Or.inr h
  have hS : va_S A s.heap s.heap [] := va_S.rf
  have hl := lv_entry ([.ref aX, .int p0, .int p1]) (n := 3) (Nat.le_of_ble_eq_true rfl)
  rw [lg_entry_eq]
  generalize (lg_sl ([.ref aX, .int p0, .int p1]) ++ List.replicate (3 - (lg_sl ([.ref aX, .int p0, .int p1])).length) Slot.unset).toArray = ls at hl ⊢
  have hl : lv_has ls 3 [(0, .ref aX), (1, .int p0), (2, .int p1)] := hl
  have o_fsX := ow_0 k_fsX
  have o_fsT := ow_0 k_fsT
  refine lv_iload_n hx hb dX11_flip_0 rfl (lv_at hl 1 rfl) ?_
  refine lv_if_lt (tgt := 25) hx hb dX11_flip_1 (by decide) (fun c5 => ?_) (fun c5 => ?_)
  · skip
    refine lv_iconst (v := 0) hx hb dX11_flip_25 (by decide) ?_
    have hP9 := hP.sub (ws' := [(aX, .inr (14, fsX)), (aT, .inr (12, fsT))]) [0, 1] rfl
    have hD9 := hD.sub (ws' := [(aX, .inr (14, fsX)), (aT, .inr (12, fsT))]) [0, 1] (by decide) rfl
    have hK9 := hK
    exact W.zret (v := 0) hx hb hr rfl (fun t ht hW => ⟨⟨0, (), rfl, (Or.inl ⟨c5, rfl⟩), by rw [ht]; exact hP9, va_K.moved hW.alike hK9, hD9⟩, hS.F ht⟩) hS.2.2 dX11_flip_26
  · skip
    refine lv_iload_n hx hb dX11_flip_4 rfl (lv_at hl 1 rfl) ?_
    refine lv_aload_n hx hb dX11_flip_5 rfl (lv_at hl 0 rfl) ?_
    refine va_get (D := (dC, dI)) (ci := 14) (v := .ref aT) (C := RX11) (T := TX11) (N := 18) hx hb hts (in_x_flip_X11) hown hK hP 0 rfl rfl 0 (by decide) (hts (.fieldLink RX11 12 "HeapWorks" "tape" "LHeapWorks$Tape;") (by decide +kernel)) (fun _ h9 => h9) (ow_at o_fsX 0 rfl) dX11_flip_6 ?_
    refine va_get (D := (dC, dI)) (ci := 12) (v := .int 0) (C := RX9) (T := TX9) (N := 12) hx hb hts (in_x_flip_X9) hown hK hP 1 rfl rfl 1 (by decide) (hts (.fieldLink RX11 110 "HeapWorks$Tape" "size" "I") (by decide +kernel)) (fun _ h9 => h9) (ow_at o_fsT 0 rfl) dX11_flip_9 ?_
    refine lv_icmp_ge (tgt := 25) hx hb dX11_flip_12 (by decide) (fun c6 => ?_) (fun c6 => (by exfalso; simp only [i_lt, i_le, i_eq, kc_0] at c5 c6; omega))
    refine lv_iconst (v := 0) hx hb dX11_flip_25 (by decide) ?_
    have hP9 := hP.sub (ws' := [(aX, .inr (14, fsX)), (aT, .inr (12, fsT))]) [0, 1] rfl
    have hD9 := hD.sub (ws' := [(aX, .inr (14, fsX)), (aT, .inr (12, fsT))]) [0, 1] (by decide) rfl
    have hK9 := hK
    exact W.zret (v := 0) hx hb hr rfl (fun t ht hW => ⟨⟨0, (), rfl, (Or.inr (⟨c5, c6, rfl⟩)), by rw [ht]; exact hP9, va_K.moved hW.alike hK9, hD9⟩, hS.F ht⟩) hS.2.2 dX11_flip_26

def w_x_cut : List Cond := .code yX11_cut cX11_cut 2 (some .boolean) :: ([.fieldLink RX11 12 "HeapWorks" "tape" "LHeapWorks$Tape;", .fieldLink RX11 110 "HeapWorks$Tape" "size" "I"] ++ wsX110 ++ wsX90)
theorem in_x_cut_X11 : ∀ w ∈ wsX110, w ∈ w_x_cut := by decide +kernel
theorem in_x_cut_X9 : ∀ w ∈ wsX90, w ∈ w_x_cut := by decide +kernel
set_option maxHeartbeats 4000000 in
set_option maxRecDepth 100000 in
theorem x_cut (l : Launch) (dC : Nat → ClassId) (dI : Nat → Nat → Nat) (sz : Nat) (aX : Nat) (fsX : List Value) (aT : Nat) (fsT : List Value) (p0 : Int32) (k_fsX : fh fsX 18 [(0, .ref aT)]) (k_fsT : fh fsT 12 [(1, .int 0)])  : Met l yX11_cut w_x_cut ({ frames := 0, cells := 0, slots := 0, locals := 0 }) (va_Pc [.ref aX, .int p0] (fun U => U.heap.size = sz ∧ Wd dC dI [] (fun _ => True) [(aX, .inr (14, fsX)), (aT, .inr (12, fsT))] U)) (va_Qi (fun (r : Int32) (u : List Value) => (p0 < 0 ∧ r = 0 ∧ ow fsT (u) 12 [] [(1, .int 0)]) ∨ (¬ p0 < 0 ∧ p0 ≤ 0 ∧ r = 1 ∧ ow fsT (u) 12 [1] [(1, .int p0)]) ∨ (¬ p0 < 0 ∧ ¬ p0 ≤ 0 ∧ r = 0 ∧ ow fsT (u) 12 [] [(1, .int 0)])) (fun (u : List Value) t => Wd dC dI [] (va_A [(aX, .inr (14, fsX)), (aT, .inr (12, fsT))] sz) [(aX, .inr (14, fsX)), (aT, .inr (12, (u)))] t) (va_A [(aX, .inr (14, fsX)), (aT, .inr (12, fsT))] sz)) 0 0 (va_A [(aX, .inr (14, fsX)), (aT, .inr (12, fsT))] sz) := by
  refine Met.ofW (cc := cX11_cut) (maxL := 2) (ret := (some .boolean)) (by decide) rfl ?_
  intro p e s m args below meth c s₁ B hml hv
  obtain ⟨rfl, hsz, hP, hK, hD0⟩ := hv
  have hx := B.exec
  have hb := B.bytes
  have hr := B.returns
  have hts := atoms_spec (ws := w_x_cut) B.pre
  have hown : s.vm.findClass RX11 = some m.cls := findClass_of_methodNamed B.named
  have hlocks := B.notSynchronized
  subst hsz
  have hD := hD0.self (sz := s.heap.size)
  generalize hAe : va_A [(aX, .inr (14, fsX)), (aT, .inr (12, fsT))] s.heap.size = A at hD ⊢
  have hA : ∀ q : Nat, s.heap.size ≤ q → A q := fun q h => by rw [← hAe]; exact Or.inr h
  have hS : va_S A s.heap s.heap [] := va_S.rf
  have hl := lv_entry ([.ref aX, .int p0]) (n := 2) (Nat.le_of_ble_eq_true rfl)
  rw [lg_entry_eq]
  generalize (lg_sl ([.ref aX, .int p0]) ++ List.replicate (2 - (lg_sl ([.ref aX, .int p0])).length) Slot.unset).toArray = ls at hl ⊢
  have hl : lv_has ls 2 [(0, .ref aX), (1, .int p0)] := hl
  have o_fsX := ow_0 k_fsX
  have o_fsT := ow_0 k_fsT
  refine lv_iload_n hx hb dX11_cut_0 rfl (lv_at hl 1 rfl) ?_
  refine lv_if_lt (tgt := 15) hx hb dX11_cut_1 (by decide) (fun c10 => ?_) (fun c10 => ?_)
  · skip
    refine lv_iconst (v := 0) hx hb dX11_cut_15 (by decide) ?_
    have hP9 := hP.sub (ws' := [(aX, .inr (14, fsX)), (aT, .inr (12, fsT))]) [0, 1] rfl
    have hD9 := hD.sub (ws' := [(aX, .inr (14, fsX)), (aT, .inr (12, fsT))]) [0, 1] (by decide) rfl
    have hK9 := hK
    exact W.zret (v := 0) hx hb hr rfl (fun t ht hW => ⟨⟨0, fsT, rfl, (Or.inl ⟨c10, rfl, o_fsT⟩), by rw [ht]; exact hP9, va_K.moved hW.alike hK9, hD9⟩, hS.F ht⟩) hS.2.2 dX11_cut_16
  · skip
    refine lv_iload_n hx hb dX11_cut_4 rfl (lv_at hl 1 rfl) ?_
    refine lv_aload_n hx hb dX11_cut_5 rfl (lv_at hl 0 rfl) ?_
    refine va_get (D := (dC, dI)) (ci := 14) (v := .ref aT) (C := RX11) (T := TX11) (N := 18) hx hb hts (in_x_cut_X11) hown hK hP 0 rfl rfl 0 (by decide) (hts (.fieldLink RX11 12 "HeapWorks" "tape" "LHeapWorks$Tape;") (by decide +kernel)) (fun _ h9 => h9) (ow_at o_fsX 0 rfl) dX11_cut_6 ?_
    refine va_get (D := (dC, dI)) (ci := 12) (v := .int 0) (C := RX9) (T := TX9) (N := 12) hx hb hts (in_x_cut_X9) hown hK hP 1 rfl rfl 1 (by decide) (hts (.fieldLink RX11 110 "HeapWorks$Tape" "size" "I") (by decide +kernel)) (fun _ h9 => h9) (ow_at o_fsT 0 rfl) dX11_cut_9 ?_
    refine lv_icmp_le (tgt := 17) hx hb dX11_cut_12 (by decide) (fun c11 => ?_) (fun c11 => ?_)
    · skip
      refine lv_aload_n hx hb dX11_cut_17 rfl (lv_at hl 0 rfl) ?_
      refine va_get (D := (dC, dI)) (ci := 14) (v := .ref aT) (C := RX11) (T := TX11) (N := 18) hx hb hts (in_x_cut_X11) hown hK hP 0 rfl rfl 0 (by decide) (hts (.fieldLink RX11 12 "HeapWorks" "tape" "LHeapWorks$Tape;") (by decide +kernel)) (fun _ h9 => h9) (ow_at o_fsX 0 rfl) dX11_cut_18 ?_
      refine lv_iload_n hx hb dX11_cut_21 rfl (lv_at hl 1 rfl) ?_
      refine va_put (D := (dC, dI)) (ci := 12) (v := .int p0) (ty := .int) (C := RX9) (T := TX9) (N := 12) hx hb hts (in_x_cut_X9) tyX9 tyX9_ok nmX9 hown hK hP hD hS 1 rfl rfl 1 (by decide) (hts (.fieldLink RX11 110 "HeapWorks$Tape" "size" "I") (by decide +kernel)) (fun _ h9 => h9) rfl (by decide +kernel) rfl rfl (by rw [o_fsT.2.1]; decide) dX11_cut_22 (fun H locs hP hD hS => ?_)
      have hP : va_P (dC, dI) vwCl [(aX, .inr (14, fsX)), (aT, .inr (12, (fsT.set 1 (.int p0))))] H := hP
      have hD : va_D A [(aX, .inr (14, fsX)), (aT, .inr (12, (fsT.set 1 (.int p0))))] := hD
      have o_s12 := ow_set o_fsT 1 (.int p0) (by decide) (l' := [(1, .int p0)]) (w' := [1]) rfl rfl
      generalize (fsT.set 1 (.int p0)) = s12 at hP hD o_s12
      refine lv_iconst (v := 1) hx hb dX11_cut_25 (by decide) ?_
      have hP9 := hP.sub (ws' := [(aX, .inr (14, fsX)), (aT, .inr (12, s12))]) [0, 1] rfl
      have hD9 := hD.sub (ws' := [(aX, .inr (14, fsX)), (aT, .inr (12, s12))]) [0, 1] (by decide) rfl
      have hK9 := hK
      exact W.zret (v := 1) hx hb hr rfl (fun t ht hW => ⟨⟨1, s12, rfl, (Or.inr (Or.inl ⟨c10, c11, rfl, o_s12⟩)), by rw [ht]; exact hP9, va_K.moved hW.alike hK9, hD9⟩, hS.F ht⟩) hS.2.2 dX11_cut_26
    · skip
      refine lv_iconst (v := 0) hx hb dX11_cut_15 (by decide) ?_
      have hP9 := hP.sub (ws' := [(aX, .inr (14, fsX)), (aT, .inr (12, fsT))]) [0, 1] rfl
      have hD9 := hD.sub (ws' := [(aX, .inr (14, fsX)), (aT, .inr (12, fsT))]) [0, 1] (by decide) rfl
      have hK9 := hK
      exact W.zret (v := 0) hx hb hr rfl (fun t ht hW => ⟨⟨0, fsT, rfl, (Or.inr (Or.inr (⟨c10, c11, rfl, o_fsT⟩))), by rw [ht]; exact hP9, va_K.moved hW.alike hK9, hD9⟩, hS.F ht⟩) hS.2.2 dX11_cut_16

def w_z_X10_isClass : List Cond := .code yX10_isClass cX10_isClass 2 (some .boolean) :: ([.fieldLink RX10 65 "HeapWorks$Types" "count" "I"] ++ wsX100)
theorem in_z_X10_isClass_X10 : ∀ w ∈ wsX100, w ∈ w_z_X10_isClass := by decide +kernel
set_option maxHeartbeats 4000000 in
set_option maxRecDepth 100000 in
theorem z_X10_isClass (l : Launch) (dC : Nat → ClassId) (dI : Nat → Nat → Nat) (sz : Nat) (Ad0 : Nat) (Fs0 : List Value) (Va0 : Int32) (k_Fs0 : fh Fs0 18 [(0, .int 0)])  : Met l yX10_isClass w_z_X10_isClass ({ frames := 0, cells := 0, slots := 0, locals := 0 }) (va_Pc [.ref Ad0, .int Va0] (fun U => U.heap.size = sz ∧ Wd dC dI [] (fun _ => True) [(Ad0, .inr (13, Fs0))] U)) (va_Qi (fun (r : Int32) (u : Unit) => (Va0 < 0 ∧ r = 0) ∨ (¬ Va0 < 0 ∧ 0 ≤ Va0 ∧ r = 0)) (fun (u : Unit) t => Wd dC dI [] (va_A [(Ad0, .inr (13, Fs0))] sz) [(Ad0, .inr (13, Fs0))] t) (va_A [(Ad0, .inr (13, Fs0))] sz)) 0 0 (va_A [(Ad0, .inr (13, Fs0))] sz) := by
  refine Met.ofW (cc := cX10_isClass) (maxL := 2) (ret := (some .boolean)) (by decide) rfl ?_
  intro p e s m args below meth c s₁ B hml hv
  obtain ⟨rfl, hsz, hP, hK, hD0⟩ := hv
  have hx := B.exec
  have hb := B.bytes
  have hr := B.returns
  have hts := atoms_spec (ws := w_z_X10_isClass) B.pre
  have hown : s.vm.findClass RX10 = some m.cls := findClass_of_methodNamed B.named
  have hlocks := B.notSynchronized
  subst hsz
  have hD := hD0.self (sz := s.heap.size)
  generalize hAe : va_A [(Ad0, .inr (13, Fs0))] s.heap.size = A at hD ⊢
  have hA : ∀ q : Nat, s.heap.size ≤ q → A q := fun q h => by rw [← hAe]; exact Or.inr h
  have hS : va_S A s.heap s.heap [] := va_S.rf
  have hl := lv_entry ([.ref Ad0, .int Va0]) (n := 2) (Nat.le_of_ble_eq_true rfl)
  rw [lg_entry_eq]
  generalize (lg_sl ([.ref Ad0, .int Va0]) ++ List.replicate (2 - (lg_sl ([.ref Ad0, .int Va0])).length) Slot.unset).toArray = ls at hl ⊢
  have hl : lv_has ls 2 [(0, .ref Ad0), (1, .int Va0)] := hl
  have o_Fs0 := ow_0 k_Fs0
  refine lv_iload_n hx hb dX10_isClass_0 rfl (lv_at hl 1 rfl) ?_
  refine lv_if_lt (tgt := 16) hx hb dX10_isClass_1 (by decide) (fun c15 => ?_) (fun c15 => ?_)
  · skip
    refine lv_iconst (v := 0) hx hb dX10_isClass_16 (by decide) ?_
    have hP9 := hP.sub (ws' := [(Ad0, .inr (13, Fs0))]) [0] rfl
    have hD9 := hD.sub (ws' := [(Ad0, .inr (13, Fs0))]) [0] (by decide) rfl
    have hK9 := hK
    exact W.zret (v := 0) hx hb hr rfl (fun t ht hW => ⟨⟨0, (), rfl, (Or.inl ⟨c15, rfl⟩), by rw [ht]; exact hP9, va_K.moved hW.alike hK9, hD9⟩, hS.F ht⟩) hS.2.2 dX10_isClass_17
  · skip
    refine lv_iload_n hx hb dX10_isClass_4 rfl (lv_at hl 1 rfl) ?_
    refine lv_aload_n hx hb dX10_isClass_5 rfl (lv_at hl 0 rfl) ?_
    refine va_get (D := (dC, dI)) (ci := 13) (v := .int 0) (C := RX10) (T := TX10) (N := 18) hx hb hts (in_z_X10_isClass_X10) hown hK hP 0 rfl rfl 0 (by decide) (hts (.fieldLink RX10 65 "HeapWorks$Types" "count" "I") (by decide +kernel)) (fun _ h9 => h9) (ow_at o_Fs0 0 rfl) dX10_isClass_6 ?_
    refine lv_icmp_ge (tgt := 16) hx hb dX10_isClass_9 (by decide) (fun c16 => ?_) (fun c16 => (by exfalso; simp only [i_lt, i_le, i_eq, kc_0] at c15 c16; omega))
    refine lv_iconst (v := 0) hx hb dX10_isClass_16 (by decide) ?_
    have hP9 := hP.sub (ws' := [(Ad0, .inr (13, Fs0))]) [0] rfl
    have hD9 := hD.sub (ws' := [(Ad0, .inr (13, Fs0))]) [0] (by decide) rfl
    have hK9 := hK
    exact W.zret (v := 0) hx hb hr rfl (fun t ht hW => ⟨⟨0, (), rfl, (Or.inr (⟨c15, c16, rfl⟩)), by rw [ht]; exact hP9, va_K.moved hW.alike hK9, hD9⟩, hS.F ht⟩) hS.2.2 dX10_isClass_17

def w_x_typeLook : List Cond := .code yX11_typeLook cX11_typeLook 3 (some .int) :: ([.fieldLink RX11 19 "HeapWorks" "types" "LHeapWorks$Types;", .methodLink RX11 116 yX10_isClass, .instanceMethod yX10_isClass, .selects RX10 yX10_isClass yX10_isClass, .initialized RX10] ++ wsX110 ++ w_z_X10_isClass)
theorem in_x_typeLook_X11 : ∀ w ∈ wsX110, w ∈ w_x_typeLook := by decide +kernel
theorem g_x_typeLook_z_X10_isClass_116 : GoodIn w_x_typeLook (wsV RX11 116 RX10 yX10_isClass w_z_X10_isClass) := goodIn_sub (by decide +kernel) (by decide +kernel)
set_option maxHeartbeats 4000000 in
set_option maxRecDepth 100000 in
theorem x_typeLook (l : Launch) (dC : Nat → ClassId) (dI : Nat → Nat → Nat) (sz : Nat) (aX : Nat) (fsX : List Value) (aY : Nat) (fsY : List Value) (p0 : Int32) (p1 : Int32) (k_fsX : fh fsX 18 [(1, .ref aY)]) (k_fsY : fh fsY 18 [(0, .int 0)])  : Met l yX11_typeLook w_x_typeLook ({ frames := 1, cells := 0, slots := 0, locals := 21 }) (va_Pc [.ref aX, .int p0, .int p1] (fun U => U.heap.size = sz ∧ Wd dC dI [] (fun _ => True) [(aX, .inr (14, fsX)), (aY, .inr (13, fsY))] U)) (va_Qi (fun (r : Int32) (u : Unit) => (p0 < 0 ∧ r = (-1)) ∨ (¬ p0 < 0 ∧ 0 ≤ p0 ∧ r = (-1))) (fun (u : Unit) t => Wd dC dI [] (va_A [(aX, .inr (14, fsX)), (aY, .inr (13, fsY))] sz) [(aX, .inr (14, fsX)), (aY, .inr (13, fsY))] t) (va_A [(aX, .inr (14, fsX)), (aY, .inr (13, fsY))] sz)) 0 0 (va_A [(aX, .inr (14, fsX)), (aY, .inr (13, fsY))] sz) := by
  refine Met.ofW (cc := cX11_typeLook) (maxL := 3) (ret := (some .int)) (by decide) rfl ?_
  intro p e s m args below meth c s₁ B hml hv
  obtain ⟨rfl, hsz, hP, hK, hD0⟩ := hv
  have hx := B.exec
  have hb := B.bytes
  have hr := B.returns
  have hts := atoms_spec (ws := w_x_typeLook) B.pre
  have hown : s.vm.findClass RX11 = some m.cls := findClass_of_methodNamed B.named
  have hlocks := B.notSynchronized
  subst hsz
  have hD := hD0.self (sz := s.heap.size)
  generalize hAe : va_A [(aX, .inr (14, fsX)), (aY, .inr (13, fsY))] s.heap.size = A at hD ⊢
  have hA : ∀ q : Nat, s.heap.size ≤ q → A q := fun q h => by rw [← hAe]; exact Or.inr h
  have hS : va_S A s.heap s.heap [] := va_S.rf
  have hl := lv_entry ([.ref aX, .int p0, .int p1]) (n := 3) (Nat.le_of_ble_eq_true rfl)
  rw [lg_entry_eq]
  generalize (lg_sl ([.ref aX, .int p0, .int p1]) ++ List.replicate (3 - (lg_sl ([.ref aX, .int p0, .int p1])).length) Slot.unset).toArray = ls at hl ⊢
  have hl : lv_has ls 3 [(0, .ref aX), (1, .int p0), (2, .int p1)] := hl
  have o_fsX := ow_0 k_fsX
  have o_fsY := ow_0 k_fsY
  refine lv_aload_n hx hb dX11_typeLook_0 rfl (lv_at hl 0 rfl) ?_
  refine va_get (D := (dC, dI)) (ci := 14) (v := .ref aY) (C := RX11) (T := TX11) (N := 18) hx hb hts (in_x_typeLook_X11) hown hK hP 0 rfl rfl 1 (by decide) (hts (.fieldLink RX11 19 "HeapWorks" "types" "LHeapWorks$Types;") (by decide +kernel)) (fun _ h9 => h9) (ow_at o_fsX 0 rfl) dX11_typeLook_1 ?_
  refine lv_iload_n hx hb dX11_typeLook_4 rfl (lv_at hl 1 rfl) ?_
  have hPc := hP.sub (ws' := [(aY, .inr (13, fsY))]) [1] rfl
  have hDc := hD.sub (ws' := [(aY, .inr (13, fsY))]) [1] (by decide) rfl
  have hKc := hK.sub (tys' := []) [] rfl
  have hFc := va_free (wc := [(aY, .inr (13, fsY))]) hD hS hA [1] rfl
  refine va_calli (va_runV (As := [.int p0]) (rest := []) ⟨hx, hb, hml, hown, hts⟩ (z_X10_isClass l dC dI s.heap.size aY fsY p0 (fh_sub o_fsY.2 [0] rfl) ) (cwV 1 hts g_x_typeLook_z_X10_isClass_116 rfl rfl rfl (by decide +kernel) ⟨Nat.le_of_ble_eq_true rfl, Nat.le_of_ble_eq_true rfl⟩) ⟨fun a U g mk q => by obtain ⟨q0, q1, qP, qK, qD⟩ := q; exact ⟨q0, q1, qP, va_K.moved (u := U) (U := U.calling g mk a) (Vm.Alike.refl U.vm) qK, qD⟩, va_recv hK hP (ci := 13) (q0 := 1) rfl rfl, fun U hU hW => ⟨rfl, by rw [hU], by rw [hU]; exact hPc, va_K.moved hW.alike hKc, hDc.weaken (fun _ _ _ _ => trivial)⟩⟩ rfl rfl hl.1 rfl (lv_room (Nat.le_of_ble_eq_true rfl)) dX11_typeLook_5 ⟨Nat.le_of_ble_eq_true rfl, Nat.le_of_ble_eq_true rfl⟩) hS (fun q _ h => hFc q h) hFc (fun r27 u t H1 locs ht hvm hw hB hz1 hk1 hS => ?_)
  obtain ⟨hP1, hK1, hD1⟩ := hB
  rw [ht] at hP1
  try dsimp only at hw
  obtain ⟨hP, hD⟩ := va_join (wr := [(aX, .inr (14, fsX))]) (w1 := [(aY, .inr (13, fsY))]) hP hD [1] [0] rfl rfl (by decide) (by decide) hk1 hFc hP1 hD1
  have hK := hK.sub (tys' := []) [] rfl
  generalize H1 = H at hP hS ⊢
  have hP : va_P (dC, dI) vwCl [(aX, .inr (14, fsX)), (aY, .inr (13, fsY))] H := hP
  have hD : va_D A [(aX, .inr (14, fsX)), (aY, .inr (13, fsY))] := hD
  rcases hw with ⟨c28, er29⟩ | ⟨c30, c31, er32⟩
  · skip
    subst er29
    refine lv_if_ne (tgt := 13) hx hb dX11_typeLook_8 (by decide) (fun c33 => absurd c33 (by decide)) (fun c33 => ?_)
    refine lv_iconst (v := (-1)) hx hb dX11_typeLook_11 (by decide) ?_
    have hP9 := hP.sub (ws' := [(aX, .inr (14, fsX)), (aY, .inr (13, fsY))]) [0, 1] rfl
    have hD9 := hD.sub (ws' := [(aX, .inr (14, fsX)), (aY, .inr (13, fsY))]) [0, 1] (by decide) rfl
    have hK9 := hK
    exact W.iret (v := (-1)) hx hb hr (fun t ht hW => ⟨⟨(-1), (), rfl, (Or.inl ⟨c28, rfl⟩), by rw [ht]; exact hP9, va_K.moved hW.alike hK9, hD9⟩, hS.F ht⟩) hS.2.2 dX11_typeLook_12
  · skip
    subst er32
    refine lv_if_ne (tgt := 13) hx hb dX11_typeLook_8 (by decide) (fun c34 => absurd c34 (by decide)) (fun c34 => ?_)
    refine lv_iconst (v := (-1)) hx hb dX11_typeLook_11 (by decide) ?_
    have hP9 := hP.sub (ws' := [(aX, .inr (14, fsX)), (aY, .inr (13, fsY))]) [0, 1] rfl
    have hD9 := hD.sub (ws' := [(aX, .inr (14, fsX)), (aY, .inr (13, fsY))]) [0, 1] (by decide) rfl
    have hK9 := hK
    exact W.iret (v := (-1)) hx hb hr (fun t ht hW => ⟨⟨(-1), (), rfl, (Or.inr (⟨c30, c31, rfl⟩)), by rw [ht]; exact hP9, va_K.moved hW.alike hK9, hD9⟩, hS.F ht⟩) hS.2.2 dX11_typeLook_12

def w_z_X10_hasField_ : List Cond := .code yX10_hasField_ cX10_hasField_ 3 (some .boolean) :: ([.methodLink RX10 69 yX10_isClass, .instanceMethod yX10_isClass, .selects RX10 yX10_isClass yX10_isClass, .initialized RX10] ++ w_z_X10_isClass)
theorem g_z_X10_hasField__z_X10_isClass_69 : GoodIn w_z_X10_hasField_ (wsV RX10 69 RX10 yX10_isClass w_z_X10_isClass) := goodIn_sub (by decide +kernel) (by decide +kernel)
set_option maxHeartbeats 4000000 in
set_option maxRecDepth 100000 in
theorem z_X10_hasField_ (l : Launch) (dC : Nat → ClassId) (dI : Nat → Nat → Nat) (sz : Nat) (Ad0 : Nat) (Fs0 : List Value) (Va0 : Int32) (Va1 : Int32) (k_Fs0 : fh Fs0 18 [(0, .int 0)])  : Met l yX10_hasField_ w_z_X10_hasField_ ({ frames := 1, cells := 0, slots := 0, locals := 21 }) (va_Pc [.ref Ad0, .int Va0, .int Va1] (fun U => U.heap.size = sz ∧ Wd dC dI [] (fun _ => True) [(Ad0, .inr (13, Fs0))] U)) (va_Qi (fun (r : Int32) (u : Unit) => (Va0 < 0 ∧ r = 0) ∨ (¬ Va0 < 0 ∧ 0 ≤ Va0 ∧ r = 0)) (fun (u : Unit) t => Wd dC dI [] (va_A [(Ad0, .inr (13, Fs0))] sz) [(Ad0, .inr (13, Fs0))] t) (va_A [(Ad0, .inr (13, Fs0))] sz)) 0 0 (va_A [(Ad0, .inr (13, Fs0))] sz) := by
  refine Met.ofW (cc := cX10_hasField_) (maxL := 3) (ret := (some .boolean)) (by decide) rfl ?_
  intro p e s m args below meth c s₁ B hml hv
  obtain ⟨rfl, hsz, hP, hK, hD0⟩ := hv
  have hx := B.exec
  have hb := B.bytes
  have hr := B.returns
  have hts := atoms_spec (ws := w_z_X10_hasField_) B.pre
  have hown : s.vm.findClass RX10 = some m.cls := findClass_of_methodNamed B.named
  have hlocks := B.notSynchronized
  subst hsz
  have hD := hD0.self (sz := s.heap.size)
  generalize hAe : va_A [(Ad0, .inr (13, Fs0))] s.heap.size = A at hD ⊢
  have hA : ∀ q : Nat, s.heap.size ≤ q → A q := fun q h => by rw [← hAe]; exact Or.inr h
  have hS : va_S A s.heap s.heap [] := va_S.rf
  have hl := lv_entry ([.ref Ad0, .int Va0, .int Va1]) (n := 3) (Nat.le_of_ble_eq_true rfl)
  rw [lg_entry_eq]
  generalize (lg_sl ([.ref Ad0, .int Va0, .int Va1]) ++ List.replicate (3 - (lg_sl ([.ref Ad0, .int Va0, .int Va1])).length) Slot.unset).toArray = ls at hl ⊢
  have hl : lv_has ls 3 [(0, .ref Ad0), (1, .int Va0), (2, .int Va1)] := hl
  have o_Fs0 := ow_0 k_Fs0
  refine lv_aload_n hx hb dX10_hasField__0 rfl (lv_at hl 0 rfl) ?_
  refine lv_iload_n hx hb dX10_hasField__1 rfl (lv_at hl 1 rfl) ?_
  have hPc := hP.sub (ws' := [(Ad0, .inr (13, Fs0))]) [0] rfl
  have hDc := hD.sub (ws' := [(Ad0, .inr (13, Fs0))]) [0] (by decide) rfl
  have hKc := hK.sub (tys' := []) [] rfl
  have hFc := va_free (wc := [(Ad0, .inr (13, Fs0))]) hD hS hA [0] rfl
  refine va_calli (va_runV (As := [.int Va0]) (rest := []) ⟨hx, hb, hml, hown, hts⟩ (z_X10_isClass l dC dI s.heap.size Ad0 Fs0 Va0 (fh_sub o_Fs0.2 [0] rfl) ) (cwV 1 hts g_z_X10_hasField__z_X10_isClass_69 rfl rfl rfl (by decide +kernel) ⟨Nat.le_of_ble_eq_true rfl, Nat.le_of_ble_eq_true rfl⟩) ⟨fun a U g mk q => by obtain ⟨q0, q1, qP, qK, qD⟩ := q; exact ⟨q0, q1, qP, va_K.moved (u := U) (U := U.calling g mk a) (Vm.Alike.refl U.vm) qK, qD⟩, va_recv hK hP (ci := 13) (q0 := 0) rfl rfl, fun U hU hW => ⟨rfl, by rw [hU], by rw [hU]; exact hPc, va_K.moved hW.alike hKc, hDc.weaken (fun _ _ _ _ => trivial)⟩⟩ rfl rfl hl.1 rfl (lv_room (Nat.le_of_ble_eq_true rfl)) dX10_hasField__2 ⟨Nat.le_of_ble_eq_true rfl, Nat.le_of_ble_eq_true rfl⟩) hS (fun q _ h => hFc q h) hFc (fun r47 u t H1 locs ht hvm hw hB hz1 hk1 hS => ?_)
  obtain ⟨hP1, hK1, hD1⟩ := hB
  rw [ht] at hP1
  try dsimp only at hw
  obtain ⟨hP, hD⟩ := va_join (wr := []) (w1 := [(Ad0, .inr (13, Fs0))]) hP hD [0] [] rfl rfl (by decide) (by decide) hk1 hFc hP1 hD1
  have hK := hK.sub (tys' := []) [] rfl
  generalize H1 = H at hP hS ⊢
  have hP : va_P (dC, dI) vwCl [(Ad0, .inr (13, Fs0))] H := hP
  have hD : va_D A [(Ad0, .inr (13, Fs0))] := hD
  rcases hw with ⟨c48, er49⟩ | ⟨c50, c51, er52⟩
  · skip
    subst er49
    refine lv_if_eq (tgt := 26) hx hb dX10_hasField__5 (by decide) (fun c53 => ?_) (fun c53 => absurd c53 (by decide))
    refine lv_iconst (v := 0) hx hb dX10_hasField__26 (by decide) ?_
    have hP9 := hP.sub (ws' := [(Ad0, .inr (13, Fs0))]) [0] rfl
    have hD9 := hD.sub (ws' := [(Ad0, .inr (13, Fs0))]) [0] (by decide) rfl
    have hK9 := hK
    exact W.zret (v := 0) hx hb hr rfl (fun t ht hW => ⟨⟨0, (), rfl, (Or.inl ⟨c48, rfl⟩), by rw [ht]; exact hP9, va_K.moved hW.alike hK9, hD9⟩, hS.F ht⟩) hS.2.2 dX10_hasField__27
  · skip
    subst er52
    refine lv_if_eq (tgt := 26) hx hb dX10_hasField__5 (by decide) (fun c54 => ?_) (fun c54 => absurd c54 (by decide))
    refine lv_iconst (v := 0) hx hb dX10_hasField__26 (by decide) ?_
    have hP9 := hP.sub (ws' := [(Ad0, .inr (13, Fs0))]) [0] rfl
    have hD9 := hD.sub (ws' := [(Ad0, .inr (13, Fs0))]) [0] (by decide) rfl
    have hK9 := hK
    exact W.zret (v := 0) hx hb hr rfl (fun t ht hW => ⟨⟨0, (), rfl, (Or.inr (⟨c50, c51, rfl⟩)), by rw [ht]; exact hP9, va_K.moved hW.alike hK9, hD9⟩, hS.F ht⟩) hS.2.2 dX10_hasField__27

def w_x_fieldLook : List Cond := .code yX11_fieldLook cX11_fieldLook 5 (some .int) :: ([.fieldLink RX11 19 "HeapWorks" "types" "LHeapWorks$Types;", .methodLink RX11 188 yX10_hasField_, .instanceMethod yX10_hasField_, .selects RX10 yX10_hasField_ yX10_hasField_, .initialized RX10] ++ wsX110 ++ w_z_X10_hasField_)
theorem in_x_fieldLook_X11 : ∀ w ∈ wsX110, w ∈ w_x_fieldLook := by decide +kernel
theorem g_x_fieldLook_z_X10_hasField__188 : GoodIn w_x_fieldLook (wsV RX11 188 RX10 yX10_hasField_ w_z_X10_hasField_) := goodIn_sub (by decide +kernel) (by decide +kernel)
set_option maxHeartbeats 4000000 in
set_option maxRecDepth 100000 in
theorem x_fieldLook (l : Launch) (dC : Nat → ClassId) (dI : Nat → Nat → Nat) (sz : Nat) (aX : Nat) (fsX : List Value) (aY : Nat) (fsY : List Value) (p0 : Int32) (p1 : Int32) (p2 : Int32) (k_fsX : fh fsX 18 [(1, .ref aY)]) (k_fsY : fh fsY 18 [(0, .int 0)])  : Met l yX11_fieldLook w_x_fieldLook ({ frames := 2, cells := 0, slots := 0, locals := 43 }) (va_Pc [.ref aX, .int p0, .int p1, .int p2] (fun U => U.heap.size = sz ∧ Wd dC dI [] (fun _ => True) [(aX, .inr (14, fsX)), (aY, .inr (13, fsY))] U)) (va_Qi (fun (r : Int32) (u : Unit) => (p0 < 0 ∧ r = (-1)) ∨ (¬ p0 < 0 ∧ 0 ≤ p0 ∧ r = (-1))) (fun (u : Unit) t => Wd dC dI [] (va_A [(aX, .inr (14, fsX)), (aY, .inr (13, fsY))] sz) [(aX, .inr (14, fsX)), (aY, .inr (13, fsY))] t) (va_A [(aX, .inr (14, fsX)), (aY, .inr (13, fsY))] sz)) 0 0 (va_A [(aX, .inr (14, fsX)), (aY, .inr (13, fsY))] sz) := by
  refine Met.ofW (cc := cX11_fieldLook) (maxL := 5) (ret := (some .int)) (by decide) rfl ?_
  intro p e s m args below meth c s₁ B hml hv
  obtain ⟨rfl, hsz, hP, hK, hD0⟩ := hv
  have hx := B.exec
  have hb := B.bytes
  have hr := B.returns
  have hts := atoms_spec (ws := w_x_fieldLook) B.pre
  have hown : s.vm.findClass RX11 = some m.cls := findClass_of_methodNamed B.named
  have hlocks := B.notSynchronized
  subst hsz
  have hD := hD0.self (sz := s.heap.size)
  generalize hAe : va_A [(aX, .inr (14, fsX)), (aY, .inr (13, fsY))] s.heap.size = A at hD ⊢
  have hA : ∀ q : Nat, s.heap.size ≤ q → A q := fun q h => by rw [← hAe]; exact Or.inr h
  have hS : va_S A s.heap s.heap [] := va_S.rf
  have hl := lv_entry ([.ref aX, .int p0, .int p1, .int p2]) (n := 5) (Nat.le_of_ble_eq_true rfl)
  rw [lg_entry_eq]
  generalize (lg_sl ([.ref aX, .int p0, .int p1, .int p2]) ++ List.replicate (5 - (lg_sl ([.ref aX, .int p0, .int p1, .int p2])).length) Slot.unset).toArray = ls at hl ⊢
  have hl : lv_has ls 5 [(0, .ref aX), (1, .int p0), (2, .int p1), (3, .int p2)] := hl
  have o_fsX := ow_0 k_fsX
  have o_fsY := ow_0 k_fsY
  refine lv_aload_n hx hb dX11_fieldLook_0 rfl (lv_at hl 0 rfl) ?_
  refine va_get (D := (dC, dI)) (ci := 14) (v := .ref aY) (C := RX11) (T := TX11) (N := 18) hx hb hts (in_x_fieldLook_X11) hown hK hP 0 rfl rfl 1 (by decide) (hts (.fieldLink RX11 19 "HeapWorks" "types" "LHeapWorks$Types;") (by decide +kernel)) (fun _ h9 => h9) (ow_at o_fsX 0 rfl) dX11_fieldLook_1 ?_
  refine lv_iload_n hx hb dX11_fieldLook_4 rfl (lv_at hl 1 rfl) ?_
  refine lv_iload_n hx hb dX11_fieldLook_5 rfl (lv_at hl 2 rfl) ?_
  have hPc := hP.sub (ws' := [(aY, .inr (13, fsY))]) [1] rfl
  have hDc := hD.sub (ws' := [(aY, .inr (13, fsY))]) [1] (by decide) rfl
  have hKc := hK.sub (tys' := []) [] rfl
  have hFc := va_free (wc := [(aY, .inr (13, fsY))]) hD hS hA [1] rfl
  refine va_calli (va_runV (As := [.int p0, .int p1]) (rest := []) ⟨hx, hb, hml, hown, hts⟩ (z_X10_hasField_ l dC dI s.heap.size aY fsY p0 p1 (fh_sub o_fsY.2 [0] rfl) ) (cwV 2 hts g_x_fieldLook_z_X10_hasField__188 rfl rfl rfl (by decide +kernel) ⟨Nat.le_of_ble_eq_true rfl, Nat.le_of_ble_eq_true rfl⟩) ⟨fun a U g mk q => by obtain ⟨q0, q1, qP, qK, qD⟩ := q; exact ⟨q0, q1, qP, va_K.moved (u := U) (U := U.calling g mk a) (Vm.Alike.refl U.vm) qK, qD⟩, va_recv hK hP (ci := 13) (q0 := 1) rfl rfl, fun U hU hW => ⟨rfl, by rw [hU], by rw [hU]; exact hPc, va_K.moved hW.alike hKc, hDc.weaken (fun _ _ _ _ => trivial)⟩⟩ rfl rfl hl.1 rfl (lv_room (Nat.le_of_ble_eq_true rfl)) dX11_fieldLook_6 ⟨Nat.le_of_ble_eq_true rfl, Nat.le_of_ble_eq_true rfl⟩) hS (fun q _ h => hFc q h) hFc (fun r73 u t H1 locs ht hvm hw hB hz1 hk1 hS => ?_)
  obtain ⟨hP1, hK1, hD1⟩ := hB
  rw [ht] at hP1
  try dsimp only at hw
  obtain ⟨hP, hD⟩ := va_join (wr := [(aX, .inr (14, fsX))]) (w1 := [(aY, .inr (13, fsY))]) hP hD [1] [0] rfl rfl (by decide) (by decide) hk1 hFc hP1 hD1
  have hK := hK.sub (tys' := []) [] rfl
  generalize H1 = H at hP hS ⊢
  have hP : va_P (dC, dI) vwCl [(aX, .inr (14, fsX)), (aY, .inr (13, fsY))] H := hP
  have hD : va_D A [(aX, .inr (14, fsX)), (aY, .inr (13, fsY))] := hD
  rcases hw with ⟨c74, er75⟩ | ⟨c76, c77, er78⟩
  · skip
    subst er75
    refine lv_if_ne (tgt := 14) hx hb dX11_fieldLook_9 (by decide) (fun c79 => absurd c79 (by decide)) (fun c79 => ?_)
    refine lv_iconst (v := (-1)) hx hb dX11_fieldLook_12 (by decide) ?_
    have hP9 := hP.sub (ws' := [(aX, .inr (14, fsX)), (aY, .inr (13, fsY))]) [0, 1] rfl
    have hD9 := hD.sub (ws' := [(aX, .inr (14, fsX)), (aY, .inr (13, fsY))]) [0, 1] (by decide) rfl
    have hK9 := hK
    exact W.iret (v := (-1)) hx hb hr (fun t ht hW => ⟨⟨(-1), (), rfl, (Or.inl ⟨c74, rfl⟩), by rw [ht]; exact hP9, va_K.moved hW.alike hK9, hD9⟩, hS.F ht⟩) hS.2.2 dX11_fieldLook_13
  · skip
    subst er78
    refine lv_if_ne (tgt := 14) hx hb dX11_fieldLook_9 (by decide) (fun c80 => absurd c80 (by decide)) (fun c80 => ?_)
    refine lv_iconst (v := (-1)) hx hb dX11_fieldLook_12 (by decide) ?_
    have hP9 := hP.sub (ws' := [(aX, .inr (14, fsX)), (aY, .inr (13, fsY))]) [0, 1] rfl
    have hD9 := hD.sub (ws' := [(aX, .inr (14, fsX)), (aY, .inr (13, fsY))]) [0, 1] (by decide) rfl
    have hK9 := hK
    exact W.iret (v := (-1)) hx hb hr (fun t ht hW => ⟨⟨(-1), (), rfl, (Or.inr (⟨c76, c77, rfl⟩)), by rw [ht]; exact hP9, va_K.moved hW.alike hK9, hD9⟩, hS.F ht⟩) hS.2.2 dX11_fieldLook_13

def w_z_X2_isThere : List Cond := .code yX2_isThere cX2_isThere 2 (some .boolean) :: ([.fieldLink RX2 47 "HeapWorks$Heap" "made" "I"] ++ wsX20)
theorem in_z_X2_isThere_X2 : ∀ w ∈ wsX20, w ∈ w_z_X2_isThere := by decide +kernel
set_option maxHeartbeats 4000000 in
set_option maxRecDepth 100000 in
theorem z_X2_isThere (l : Launch) (dC : Nat → ClassId) (dI : Nat → Nat → Nat) (sz : Nat) (Ad0 : Nat) (Fs0 : List Value) (Va0 : Int32) (k_Fs0 : fh Fs0 14 [(1, .int 0)])  : Met l yX2_isThere w_z_X2_isThere ({ frames := 0, cells := 0, slots := 0, locals := 0 }) (va_Pc [.ref Ad0, .int Va0] (fun U => U.heap.size = sz ∧ Wd dC dI [] (fun _ => True) [(Ad0, .inr (5, Fs0))] U)) (va_Qi (fun (r : Int32) (u : Unit) => (Va0 < 0 ∧ r = 0) ∨ (¬ Va0 < 0 ∧ 0 ≤ Va0 ∧ r = 0)) (fun (u : Unit) t => Wd dC dI [] (va_A [(Ad0, .inr (5, Fs0))] sz) [(Ad0, .inr (5, Fs0))] t) (va_A [(Ad0, .inr (5, Fs0))] sz)) 0 0 (va_A [(Ad0, .inr (5, Fs0))] sz) := by
  refine Met.ofW (cc := cX2_isThere) (maxL := 2) (ret := (some .boolean)) (by decide) rfl ?_
  intro p e s m args below meth c s₁ B hml hv
  obtain ⟨rfl, hsz, hP, hK, hD0⟩ := hv
  have hx := B.exec
  have hb := B.bytes
  have hr := B.returns
  have hts := atoms_spec (ws := w_z_X2_isThere) B.pre
  have hown : s.vm.findClass RX2 = some m.cls := findClass_of_methodNamed B.named
  have hlocks := B.notSynchronized
  subst hsz
  have hD := hD0.self (sz := s.heap.size)
  generalize hAe : va_A [(Ad0, .inr (5, Fs0))] s.heap.size = A at hD ⊢
  have hA : ∀ q : Nat, s.heap.size ≤ q → A q := fun q h => by rw [← hAe]; exact Or.inr h
  have hS : va_S A s.heap s.heap [] := va_S.rf
  have hl := lv_entry ([.ref Ad0, .int Va0]) (n := 2) (Nat.le_of_ble_eq_true rfl)
  rw [lg_entry_eq]
  generalize (lg_sl ([.ref Ad0, .int Va0]) ++ List.replicate (2 - (lg_sl ([.ref Ad0, .int Va0])).length) Slot.unset).toArray = ls at hl ⊢
  have hl : lv_has ls 2 [(0, .ref Ad0), (1, .int Va0)] := hl
  have o_Fs0 := ow_0 k_Fs0
  refine lv_iload_n hx hb dX2_isThere_0 rfl (lv_at hl 1 rfl) ?_
  refine lv_if_lt (tgt := 26) hx hb dX2_isThere_1 (by decide) (fun c83 => ?_) (fun c83 => ?_)
  · skip
    refine lv_iconst (v := 0) hx hb dX2_isThere_26 (by decide) ?_
    have hP9 := hP.sub (ws' := [(Ad0, .inr (5, Fs0))]) [0] rfl
    have hD9 := hD.sub (ws' := [(Ad0, .inr (5, Fs0))]) [0] (by decide) rfl
    have hK9 := hK
    exact W.zret (v := 0) hx hb hr rfl (fun t ht hW => ⟨⟨0, (), rfl, (Or.inl ⟨c83, rfl⟩), by rw [ht]; exact hP9, va_K.moved hW.alike hK9, hD9⟩, hS.F ht⟩) hS.2.2 dX2_isThere_27
  · skip
    refine lv_iload_n hx hb dX2_isThere_4 rfl (lv_at hl 1 rfl) ?_
    refine lv_aload_n hx hb dX2_isThere_5 rfl (lv_at hl 0 rfl) ?_
    refine va_get (D := (dC, dI)) (ci := 5) (v := .int 0) (C := RX2) (T := TX2) (N := 14) hx hb hts (in_z_X2_isThere_X2) hown hK hP 0 rfl rfl 1 (by decide) (hts (.fieldLink RX2 47 "HeapWorks$Heap" "made" "I") (by decide +kernel)) (fun _ h9 => h9) (ow_at o_Fs0 0 rfl) dX2_isThere_6 ?_
    refine lv_icmp_ge (tgt := 26) hx hb dX2_isThere_9 (by decide) (fun c84 => ?_) (fun c84 => (by exfalso; simp only [i_lt, i_le, i_eq, kc_0] at c83 c84; omega))
    refine lv_iconst (v := 0) hx hb dX2_isThere_26 (by decide) ?_
    have hP9 := hP.sub (ws' := [(Ad0, .inr (5, Fs0))]) [0] rfl
    have hD9 := hD.sub (ws' := [(Ad0, .inr (5, Fs0))]) [0] (by decide) rfl
    have hK9 := hK
    exact W.zret (v := 0) hx hb hr rfl (fun t ht hW => ⟨⟨0, (), rfl, (Or.inr (⟨c83, c84, rfl⟩)), by rw [ht]; exact hP9, va_K.moved hW.alike hK9, hD9⟩, hS.F ht⟩) hS.2.2 dX2_isThere_27

def w_x_object : List Cond := .code yX11_object cX11_object 3 (some .int) :: ([.fieldLink RX11 28 "HeapWorks" "heap" "LHeapWorks$Heap;", .methodLink RX11 218 yX2_isThere, .instanceMethod yX2_isThere, .selects RX2 yX2_isThere yX2_isThere, .initialized RX2] ++ wsX110 ++ w_z_X2_isThere)
theorem in_x_object_X11 : ∀ w ∈ wsX110, w ∈ w_x_object := by decide +kernel
theorem g_x_object_z_X2_isThere_218 : GoodIn w_x_object (wsV RX11 218 RX2 yX2_isThere w_z_X2_isThere) := goodIn_sub (by decide +kernel) (by decide +kernel)
set_option maxHeartbeats 4000000 in
set_option maxRecDepth 100000 in
theorem x_object (l : Launch) (dC : Nat → ClassId) (dI : Nat → Nat → Nat) (sz : Nat) (aX : Nat) (fsX : List Value) (aH : Nat) (fsHe : List Value) (p0 : Int32) (p1 : Int32) (k_fsX : fh fsX 18 [(2, .ref aH)]) (k_fsHe : fh fsHe 14 [(1, .int 0)])  : Met l yX11_object w_x_object ({ frames := 1, cells := 0, slots := 0, locals := 21 }) (va_Pc [.ref aX, .int p0, .int p1] (fun U => U.heap.size = sz ∧ Wd dC dI [] (fun _ => True) [(aX, .inr (14, fsX)), (aH, .inr (5, fsHe))] U)) (va_Qi (fun (r : Int32) (u : Unit) => (p0 < 0 ∧ r = (-1)) ∨ (¬ p0 < 0 ∧ 0 ≤ p0 ∧ r = (-1))) (fun (u : Unit) t => Wd dC dI [] (va_A [(aX, .inr (14, fsX)), (aH, .inr (5, fsHe))] sz) [(aX, .inr (14, fsX)), (aH, .inr (5, fsHe))] t) (va_A [(aX, .inr (14, fsX)), (aH, .inr (5, fsHe))] sz)) 0 0 (va_A [(aX, .inr (14, fsX)), (aH, .inr (5, fsHe))] sz) := by
  refine Met.ofW (cc := cX11_object) (maxL := 3) (ret := (some .int)) (by decide) rfl ?_
  intro p e s m args below meth c s₁ B hml hv
  obtain ⟨rfl, hsz, hP, hK, hD0⟩ := hv
  have hx := B.exec
  have hb := B.bytes
  have hr := B.returns
  have hts := atoms_spec (ws := w_x_object) B.pre
  have hown : s.vm.findClass RX11 = some m.cls := findClass_of_methodNamed B.named
  have hlocks := B.notSynchronized
  subst hsz
  have hD := hD0.self (sz := s.heap.size)
  generalize hAe : va_A [(aX, .inr (14, fsX)), (aH, .inr (5, fsHe))] s.heap.size = A at hD ⊢
  have hA : ∀ q : Nat, s.heap.size ≤ q → A q := fun q h => by rw [← hAe]; exact Or.inr h
  have hS : va_S A s.heap s.heap [] := va_S.rf
  have hl := lv_entry ([.ref aX, .int p0, .int p1]) (n := 3) (Nat.le_of_ble_eq_true rfl)
  rw [lg_entry_eq]
  generalize (lg_sl ([.ref aX, .int p0, .int p1]) ++ List.replicate (3 - (lg_sl ([.ref aX, .int p0, .int p1])).length) Slot.unset).toArray = ls at hl ⊢
  have hl : lv_has ls 3 [(0, .ref aX), (1, .int p0), (2, .int p1)] := hl
  have o_fsX := ow_0 k_fsX
  have o_fsHe := ow_0 k_fsHe
  refine lv_aload_n hx hb dX11_object_0 rfl (lv_at hl 0 rfl) ?_
  refine va_get (D := (dC, dI)) (ci := 14) (v := .ref aH) (C := RX11) (T := TX11) (N := 18) hx hb hts (in_x_object_X11) hown hK hP 0 rfl rfl 2 (by decide) (hts (.fieldLink RX11 28 "HeapWorks" "heap" "LHeapWorks$Heap;") (by decide +kernel)) (fun _ h9 => h9) (ow_at o_fsX 0 rfl) dX11_object_1 ?_
  refine lv_iload_n hx hb dX11_object_4 rfl (lv_at hl 1 rfl) ?_
  have hPc := hP.sub (ws' := [(aH, .inr (5, fsHe))]) [1] rfl
  have hDc := hD.sub (ws' := [(aH, .inr (5, fsHe))]) [1] (by decide) rfl
  have hKc := hK.sub (tys' := []) [] rfl
  have hFc := va_free (wc := [(aH, .inr (5, fsHe))]) hD hS hA [1] rfl
  refine va_calli (va_runV (As := [.int p0]) (rest := []) ⟨hx, hb, hml, hown, hts⟩ (z_X2_isThere l dC dI s.heap.size aH fsHe p0 (fh_sub o_fsHe.2 [0] rfl) ) (cwV 1 hts g_x_object_z_X2_isThere_218 rfl rfl rfl (by decide +kernel) ⟨Nat.le_of_ble_eq_true rfl, Nat.le_of_ble_eq_true rfl⟩) ⟨fun a U g mk q => by obtain ⟨q0, q1, qP, qK, qD⟩ := q; exact ⟨q0, q1, qP, va_K.moved (u := U) (U := U.calling g mk a) (Vm.Alike.refl U.vm) qK, qD⟩, va_recv hK hP (ci := 5) (q0 := 1) rfl rfl, fun U hU hW => ⟨rfl, by rw [hU], by rw [hU]; exact hPc, va_K.moved hW.alike hKc, hDc.weaken (fun _ _ _ _ => trivial)⟩⟩ rfl rfl hl.1 rfl (lv_room (Nat.le_of_ble_eq_true rfl)) dX11_object_5 ⟨Nat.le_of_ble_eq_true rfl, Nat.le_of_ble_eq_true rfl⟩) hS (fun q _ h => hFc q h) hFc (fun r95 u t H1 locs ht hvm hw hB hz1 hk1 hS => ?_)
  obtain ⟨hP1, hK1, hD1⟩ := hB
  rw [ht] at hP1
  try dsimp only at hw
  obtain ⟨hP, hD⟩ := va_join (wr := [(aX, .inr (14, fsX))]) (w1 := [(aH, .inr (5, fsHe))]) hP hD [1] [0] rfl rfl (by decide) (by decide) hk1 hFc hP1 hD1
  have hK := hK.sub (tys' := []) [] rfl
  generalize H1 = H at hP hS ⊢
  have hP : va_P (dC, dI) vwCl [(aX, .inr (14, fsX)), (aH, .inr (5, fsHe))] H := hP
  have hD : va_D A [(aX, .inr (14, fsX)), (aH, .inr (5, fsHe))] := hD
  rcases hw with ⟨c96, er97⟩ | ⟨c98, c99, er100⟩
  · skip
    subst er97
    refine lv_if_ne (tgt := 13) hx hb dX11_object_8 (by decide) (fun c101 => absurd c101 (by decide)) (fun c101 => ?_)
    refine lv_iconst (v := (-1)) hx hb dX11_object_11 (by decide) ?_
    have hP9 := hP.sub (ws' := [(aX, .inr (14, fsX)), (aH, .inr (5, fsHe))]) [0, 1] rfl
    have hD9 := hD.sub (ws' := [(aX, .inr (14, fsX)), (aH, .inr (5, fsHe))]) [0, 1] (by decide) rfl
    have hK9 := hK
    exact W.iret (v := (-1)) hx hb hr (fun t ht hW => ⟨⟨(-1), (), rfl, (Or.inl ⟨c96, rfl⟩), by rw [ht]; exact hP9, va_K.moved hW.alike hK9, hD9⟩, hS.F ht⟩) hS.2.2 dX11_object_12
  · skip
    subst er100
    refine lv_if_ne (tgt := 13) hx hb dX11_object_8 (by decide) (fun c102 => absurd c102 (by decide)) (fun c102 => ?_)
    refine lv_iconst (v := (-1)) hx hb dX11_object_11 (by decide) ?_
    have hP9 := hP.sub (ws' := [(aX, .inr (14, fsX)), (aH, .inr (5, fsHe))]) [0, 1] rfl
    have hD9 := hD.sub (ws' := [(aX, .inr (14, fsX)), (aH, .inr (5, fsHe))]) [0, 1] (by decide) rfl
    have hK9 := hK
    exact W.iret (v := (-1)) hx hb hr (fun t ht hW => ⟨⟨(-1), (), rfl, (Or.inr (⟨c98, c99, rfl⟩)), by rw [ht]; exact hP9, va_K.moved hW.alike hK9, hD9⟩, hS.F ht⟩) hS.2.2 dX11_object_12

def w_z_X3_takeBack : List Cond := .code yX3_takeBack cX3_takeBack 3 (some .int) :: ([.fieldLink RX3 119 "HeapWorks$Journal" "undoCount" "I"] ++ wsX30)
theorem in_z_X3_takeBack_X3 : ∀ w ∈ wsX30, w ∈ w_z_X3_takeBack := by decide +kernel
set_option maxHeartbeats 4000000 in
set_option maxRecDepth 100000 in
theorem z_X3_takeBack (l : Launch) (dC : Nat → ClassId) (dI : Nat → Nat → Nat) (sz : Nat) (Ad0 : Nat) (Fs0 : List Value) (Br0 : Nat) (k_Fs0 : fh Fs0 13 [(6, .int 0)])  : Met l yX3_takeBack w_z_X3_takeBack ({ frames := 0, cells := 0, slots := 0, locals := 0 }) (va_Pc [.ref Ad0, .ref Br0] (fun U => U.heap.size = sz ∧ Wd dC dI [] (fun _ => True) [(Ad0, .inr (6, Fs0))] U)) (va_Qi (fun (r : Int32) (u : Unit) => r = (-1)) (fun (u : Unit) t => Wd dC dI [] (va_A [(Ad0, .inr (6, Fs0))] sz) [(Ad0, .inr (6, Fs0))] t) (va_A [(Ad0, .inr (6, Fs0))] sz)) 0 0 (va_A [(Ad0, .inr (6, Fs0))] sz) := by
  refine Met.ofW (cc := cX3_takeBack) (maxL := 3) (ret := (some .int)) (by decide) rfl ?_
  intro p e s m args below meth c s₁ B hml hv
  obtain ⟨rfl, hsz, hP, hK, hD0⟩ := hv
  have hx := B.exec
  have hb := B.bytes
  have hr := B.returns
  have hts := atoms_spec (ws := w_z_X3_takeBack) B.pre
  have hown : s.vm.findClass RX3 = some m.cls := findClass_of_methodNamed B.named
  have hlocks := B.notSynchronized
  subst hsz
  have hD := hD0.self (sz := s.heap.size)
  generalize hAe : va_A [(Ad0, .inr (6, Fs0))] s.heap.size = A at hD ⊢
  have hA : ∀ q : Nat, s.heap.size ≤ q → A q := fun q h => by rw [← hAe]; exact Or.inr h
  have hS : va_S A s.heap s.heap [] := va_S.rf
  have hl := lv_entry ([.ref Ad0, .ref Br0]) (n := 3) (Nat.le_of_ble_eq_true rfl)
  rw [lg_entry_eq]
  generalize (lg_sl ([.ref Ad0, .ref Br0]) ++ List.replicate (3 - (lg_sl ([.ref Ad0, .ref Br0])).length) Slot.unset).toArray = ls at hl ⊢
  have hl : lv_has ls 3 [(0, .ref Ad0), (1, .ref Br0)] := hl
  have o_Fs0 := ow_0 k_Fs0
  refine lv_aload_n hx hb dX3_takeBack_0 rfl (lv_at hl 0 rfl) ?_
  refine va_get (D := (dC, dI)) (ci := 6) (v := .int 0) (C := RX3) (T := TX3) (N := 13) hx hb hts (in_z_X3_takeBack_X3) hown hK hP 0 rfl rfl 6 (by decide) (hts (.fieldLink RX3 119 "HeapWorks$Journal" "undoCount" "I") (by decide +kernel)) (fun _ h9 => h9) (ow_at o_Fs0 0 rfl) dX3_takeBack_1 ?_
  refine lv_if_ne (tgt := 9) hx hb dX3_takeBack_4 (by decide) (fun c104 => absurd c104 (by decide)) (fun c104 => ?_)
  refine lv_iconst (v := (-1)) hx hb dX3_takeBack_7 (by decide) ?_
  have hP9 := hP.sub (ws' := [(Ad0, .inr (6, Fs0))]) [0] rfl
  have hD9 := hD.sub (ws' := [(Ad0, .inr (6, Fs0))]) [0] (by decide) rfl
  have hK9 := hK
  exact W.iret (v := (-1)) hx hb hr (fun t ht hW => ⟨⟨(-1), (), rfl, rfl, by rw [ht]; exact hP9, va_K.moved hW.alike hK9, hD9⟩, hS.F ht⟩) hS.2.2 dX3_takeBack_8

def w_x_undo : List Cond := .code yX11_undo cX11_undo 1 (some .int) :: ([.fieldLink RX11 35 "HeapWorks" "journal" "LHeapWorks$Journal;", .fieldLink RX11 28 "HeapWorks" "heap" "LHeapWorks$Heap;", .methodLink RX11 283 yX3_takeBack, .instanceMethod yX3_takeBack, .selects RX3 yX3_takeBack yX3_takeBack, .initialized RX3] ++ wsX110 ++ w_z_X3_takeBack)
theorem in_x_undo_X11 : ∀ w ∈ wsX110, w ∈ w_x_undo := by decide +kernel
theorem g_x_undo_z_X3_takeBack_283 : GoodIn w_x_undo (wsV RX11 283 RX3 yX3_takeBack w_z_X3_takeBack) := goodIn_sub (by decide +kernel) (by decide +kernel)
set_option maxHeartbeats 4000000 in
set_option maxRecDepth 100000 in
theorem x_undo (l : Launch) (dC : Nat → ClassId) (dI : Nat → Nat → Nat) (sz : Nat) (aX : Nat) (fsX : List Value) (aJ : Nat) (fsJ : List Value) (aH : Nat) (k_fsX : fh fsX 18 [(2, .ref aH), (3, .ref aJ)]) (k_fsJ : fh fsJ 13 [(6, .int 0)])  : Met l yX11_undo w_x_undo ({ frames := 1, cells := 0, slots := 0, locals := 22 }) (va_Pc [.ref aX] (fun U => U.heap.size = sz ∧ Wd dC dI [] (fun _ => True) [(aX, .inr (14, fsX)), (aJ, .inr (6, fsJ))] U)) (va_Qi (fun (r : Int32) (u : Unit) => r = (-1)) (fun (u : Unit) t => Wd dC dI [] (va_A [(aX, .inr (14, fsX)), (aJ, .inr (6, fsJ))] sz) [(aX, .inr (14, fsX)), (aJ, .inr (6, fsJ))] t) (va_A [(aX, .inr (14, fsX)), (aJ, .inr (6, fsJ))] sz)) 0 0 (va_A [(aX, .inr (14, fsX)), (aJ, .inr (6, fsJ))] sz) := by
  refine Met.ofW (cc := cX11_undo) (maxL := 1) (ret := (some .int)) (by decide) rfl ?_
  intro p e s m args below meth c s₁ B hml hv
  obtain ⟨rfl, hsz, hP, hK, hD0⟩ := hv
  have hx := B.exec
  have hb := B.bytes
  have hr := B.returns
  have hts := atoms_spec (ws := w_x_undo) B.pre
  have hown : s.vm.findClass RX11 = some m.cls := findClass_of_methodNamed B.named
  have hlocks := B.notSynchronized
  subst hsz
  have hD := hD0.self (sz := s.heap.size)
  generalize hAe : va_A [(aX, .inr (14, fsX)), (aJ, .inr (6, fsJ))] s.heap.size = A at hD ⊢
  have hA : ∀ q : Nat, s.heap.size ≤ q → A q := fun q h => by rw [← hAe]; exact Or.inr h
  have hS : va_S A s.heap s.heap [] := va_S.rf
  have hl := lv_entry ([.ref aX]) (n := 1) (Nat.le_of_ble_eq_true rfl)
  rw [lg_entry_eq]
  generalize (lg_sl ([.ref aX]) ++ List.replicate (1 - (lg_sl ([.ref aX])).length) Slot.unset).toArray = ls at hl ⊢
  have hl : lv_has ls 1 [(0, .ref aX)] := hl
  have o_fsX := ow_0 k_fsX
  have o_fsJ := ow_0 k_fsJ
  refine lv_aload_n hx hb dX11_undo_0 rfl (lv_at hl 0 rfl) ?_
  refine va_get (D := (dC, dI)) (ci := 14) (v := .ref aJ) (C := RX11) (T := TX11) (N := 18) hx hb hts (in_x_undo_X11) hown hK hP 0 rfl rfl 3 (by decide) (hts (.fieldLink RX11 35 "HeapWorks" "journal" "LHeapWorks$Journal;") (by decide +kernel)) (fun _ h9 => h9) (ow_at o_fsX 1 rfl) dX11_undo_1 ?_
  refine lv_aload_n hx hb dX11_undo_4 rfl (lv_at hl 0 rfl) ?_
  refine va_get (D := (dC, dI)) (ci := 14) (v := .ref aH) (C := RX11) (T := TX11) (N := 18) hx hb hts (in_x_undo_X11) hown hK hP 0 rfl rfl 2 (by decide) (hts (.fieldLink RX11 28 "HeapWorks" "heap" "LHeapWorks$Heap;") (by decide +kernel)) (fun _ h9 => h9) (ow_at o_fsX 0 rfl) dX11_undo_5 ?_
  have hPc := hP.sub (ws' := [(aJ, .inr (6, fsJ))]) [1] rfl
  have hDc := hD.sub (ws' := [(aJ, .inr (6, fsJ))]) [1] (by decide) rfl
  have hKc := hK.sub (tys' := []) [] rfl
  have hFc := va_free (wc := [(aJ, .inr (6, fsJ))]) hD hS hA [1] rfl
  refine va_calli (va_runV (As := [.ref aH]) (rest := []) ⟨hx, hb, hml, hown, hts⟩ (z_X3_takeBack l dC dI s.heap.size aJ fsJ aH (fh_sub o_fsJ.2 [0] rfl) ) (cwV 1 hts g_x_undo_z_X3_takeBack_283 rfl rfl rfl (by decide +kernel) ⟨Nat.le_of_ble_eq_true rfl, Nat.le_of_ble_eq_true rfl⟩) ⟨fun a U g mk q => by obtain ⟨q0, q1, qP, qK, qD⟩ := q; exact ⟨q0, q1, qP, va_K.moved (u := U) (U := U.calling g mk a) (Vm.Alike.refl U.vm) qK, qD⟩, va_recv hK hP (ci := 6) (q0 := 1) rfl rfl, fun U hU hW => ⟨rfl, by rw [hU], by rw [hU]; exact hPc, va_K.moved hW.alike hKc, hDc.weaken (fun _ _ _ _ => trivial)⟩⟩ rfl rfl hl.1 rfl (lv_room (Nat.le_of_ble_eq_true rfl)) dX11_undo_8 ⟨Nat.le_of_ble_eq_true rfl, Nat.le_of_ble_eq_true rfl⟩) hS (fun q _ h => hFc q h) hFc (fun r108 u t H1 locs ht hvm hw hB hz1 hk1 hS => ?_)
  obtain ⟨hP1, hK1, hD1⟩ := hB
  rw [ht] at hP1
  try dsimp only at hw
  obtain ⟨hP, hD⟩ := va_join (wr := [(aX, .inr (14, fsX))]) (w1 := [(aJ, .inr (6, fsJ))]) hP hD [1] [0] rfl rfl (by decide) (by decide) hk1 hFc hP1 hD1
  have hK := hK.sub (tys' := []) [] rfl
  generalize H1 = H at hP hS ⊢
  have hP : va_P (dC, dI) vwCl [(aX, .inr (14, fsX)), (aJ, .inr (6, fsJ))] H := hP
  have hD : va_D A [(aX, .inr (14, fsX)), (aJ, .inr (6, fsJ))] := hD
  have er109 := hw
  subst er109
  have hP9 := hP.sub (ws' := [(aX, .inr (14, fsX)), (aJ, .inr (6, fsJ))]) [0, 1] rfl
  have hD9 := hD.sub (ws' := [(aX, .inr (14, fsX)), (aJ, .inr (6, fsJ))]) [0, 1] (by decide) rfl
  have hK9 := hK
  exact W.iret (v := (-1)) hx hb hr (fun t ht hW => ⟨⟨(-1), (), rfl, rfl, by rw [ht]; exact hP9, va_K.moved hW.alike hK9, hD9⟩, hS.F ht⟩) hS.2.2 dX11_undo_11

def w_x_apart : List Cond := .code yX11_apart cX11_apart 3 (some .boolean) :: ([.fieldLink RX11 19 "HeapWorks" "types" "LHeapWorks$Types;", .methodLink RX11 116 yX10_isClass, .instanceMethod yX10_isClass, .selects RX10 yX10_isClass yX10_isClass, .initialized RX10] ++ wsX110 ++ w_z_X10_isClass)
theorem in_x_apart_X11 : ∀ w ∈ wsX110, w ∈ w_x_apart := by decide +kernel
theorem g_x_apart_z_X10_isClass_116 : GoodIn w_x_apart (wsV RX11 116 RX10 yX10_isClass w_z_X10_isClass) := goodIn_sub (by decide +kernel) (by decide +kernel)
set_option maxHeartbeats 4000000 in
set_option maxRecDepth 100000 in
theorem x_apart (l : Launch) (dC : Nat → ClassId) (dI : Nat → Nat → Nat) (sz : Nat) (aX : Nat) (fsX : List Value) (aY : Nat) (fsY : List Value) (p0 : Int32) (p1 : Int32) (k_fsX : fh fsX 18 [(1, .ref aY)]) (k_fsY : fh fsY 18 [(0, .int 0)])  : Met l yX11_apart w_x_apart ({ frames := 1, cells := 0, slots := 0, locals := 21 }) (va_Pc [.ref aX, .int p0, .int p1] (fun U => U.heap.size = sz ∧ Wd dC dI [] (fun _ => True) [(aX, .inr (14, fsX)), (aY, .inr (13, fsY))] U)) (va_Qi (fun (r : Int32) (u : Unit) => (p0 < 0 ∧ r = 0) ∨ (¬ p0 < 0 ∧ 0 ≤ p0 ∧ r = 0)) (fun (u : Unit) t => Wd dC dI [] (va_A [(aX, .inr (14, fsX)), (aY, .inr (13, fsY))] sz) [(aX, .inr (14, fsX)), (aY, .inr (13, fsY))] t) (va_A [(aX, .inr (14, fsX)), (aY, .inr (13, fsY))] sz)) 0 0 (va_A [(aX, .inr (14, fsX)), (aY, .inr (13, fsY))] sz) := by
  refine Met.ofW (cc := cX11_apart) (maxL := 3) (ret := (some .boolean)) (by decide) rfl ?_
  intro p e s m args below meth c s₁ B hml hv
  obtain ⟨rfl, hsz, hP, hK, hD0⟩ := hv
  have hx := B.exec
  have hb := B.bytes
  have hr := B.returns
  have hts := atoms_spec (ws := w_x_apart) B.pre
  have hown : s.vm.findClass RX11 = some m.cls := findClass_of_methodNamed B.named
  have hlocks := B.notSynchronized
  subst hsz
  have hD := hD0.self (sz := s.heap.size)
  generalize hAe : va_A [(aX, .inr (14, fsX)), (aY, .inr (13, fsY))] s.heap.size = A at hD ⊢
  have hA : ∀ q : Nat, s.heap.size ≤ q → A q := fun q h => by rw [← hAe]; exact Or.inr h
  have hS : va_S A s.heap s.heap [] := va_S.rf
  have hl := lv_entry ([.ref aX, .int p0, .int p1]) (n := 3) (Nat.le_of_ble_eq_true rfl)
  rw [lg_entry_eq]
  generalize (lg_sl ([.ref aX, .int p0, .int p1]) ++ List.replicate (3 - (lg_sl ([.ref aX, .int p0, .int p1])).length) Slot.unset).toArray = ls at hl ⊢
  have hl : lv_has ls 3 [(0, .ref aX), (1, .int p0), (2, .int p1)] := hl
  have o_fsX := ow_0 k_fsX
  have o_fsY := ow_0 k_fsY
  refine lv_aload_n hx hb dX11_apart_0 rfl (lv_at hl 0 rfl) ?_
  refine va_get (D := (dC, dI)) (ci := 14) (v := .ref aY) (C := RX11) (T := TX11) (N := 18) hx hb hts (in_x_apart_X11) hown hK hP 0 rfl rfl 1 (by decide) (hts (.fieldLink RX11 19 "HeapWorks" "types" "LHeapWorks$Types;") (by decide +kernel)) (fun _ h9 => h9) (ow_at o_fsX 0 rfl) dX11_apart_1 ?_
  refine lv_iload_n hx hb dX11_apart_4 rfl (lv_at hl 1 rfl) ?_
  have hPc := hP.sub (ws' := [(aY, .inr (13, fsY))]) [1] rfl
  have hDc := hD.sub (ws' := [(aY, .inr (13, fsY))]) [1] (by decide) rfl
  have hKc := hK.sub (tys' := []) [] rfl
  have hFc := va_free (wc := [(aY, .inr (13, fsY))]) hD hS hA [1] rfl
  refine va_calli (va_runV (As := [.int p0]) (rest := []) ⟨hx, hb, hml, hown, hts⟩ (z_X10_isClass l dC dI s.heap.size aY fsY p0 (fh_sub o_fsY.2 [0] rfl) ) (cwV 1 hts g_x_apart_z_X10_isClass_116 rfl rfl rfl (by decide +kernel) ⟨Nat.le_of_ble_eq_true rfl, Nat.le_of_ble_eq_true rfl⟩) ⟨fun a U g mk q => by obtain ⟨q0, q1, qP, qK, qD⟩ := q; exact ⟨q0, q1, qP, va_K.moved (u := U) (U := U.calling g mk a) (Vm.Alike.refl U.vm) qK, qD⟩, va_recv hK hP (ci := 13) (q0 := 1) rfl rfl, fun U hU hW => ⟨rfl, by rw [hU], by rw [hU]; exact hPc, va_K.moved hW.alike hKc, hDc.weaken (fun _ _ _ _ => trivial)⟩⟩ rfl rfl hl.1 rfl (lv_room (Nat.le_of_ble_eq_true rfl)) dX11_apart_5 ⟨Nat.le_of_ble_eq_true rfl, Nat.le_of_ble_eq_true rfl⟩) hS (fun q _ h => hFc q h) hFc (fun r122 u t H1 locs ht hvm hw hB hz1 hk1 hS => ?_)
  obtain ⟨hP1, hK1, hD1⟩ := hB
  rw [ht] at hP1
  try dsimp only at hw
  obtain ⟨hP, hD⟩ := va_join (wr := [(aX, .inr (14, fsX))]) (w1 := [(aY, .inr (13, fsY))]) hP hD [1] [0] rfl rfl (by decide) (by decide) hk1 hFc hP1 hD1
  have hK := hK.sub (tys' := []) [] rfl
  generalize H1 = H at hP hS ⊢
  have hP : va_P (dC, dI) vwCl [(aX, .inr (14, fsX)), (aY, .inr (13, fsY))] H := hP
  have hD : va_D A [(aX, .inr (14, fsX)), (aY, .inr (13, fsY))] := hD
  rcases hw with ⟨c123, er124⟩ | ⟨c125, c126, er127⟩
  · skip
    subst er124
    refine lv_if_ne (tgt := 13) hx hb dX11_apart_8 (by decide) (fun c128 => absurd c128 (by decide)) (fun c128 => ?_)
    refine lv_iconst (v := 0) hx hb dX11_apart_11 (by decide) ?_
    have hP9 := hP.sub (ws' := [(aX, .inr (14, fsX)), (aY, .inr (13, fsY))]) [0, 1] rfl
    have hD9 := hD.sub (ws' := [(aX, .inr (14, fsX)), (aY, .inr (13, fsY))]) [0, 1] (by decide) rfl
    have hK9 := hK
    exact W.zret (v := 0) hx hb hr rfl (fun t ht hW => ⟨⟨0, (), rfl, (Or.inl ⟨c123, rfl⟩), by rw [ht]; exact hP9, va_K.moved hW.alike hK9, hD9⟩, hS.F ht⟩) hS.2.2 dX11_apart_12
  · skip
    subst er127
    refine lv_if_ne (tgt := 13) hx hb dX11_apart_8 (by decide) (fun c129 => absurd c129 (by decide)) (fun c129 => ?_)
    refine lv_iconst (v := 0) hx hb dX11_apart_11 (by decide) ?_
    have hP9 := hP.sub (ws' := [(aX, .inr (14, fsX)), (aY, .inr (13, fsY))]) [0, 1] rfl
    have hD9 := hD.sub (ws' := [(aX, .inr (14, fsX)), (aY, .inr (13, fsY))]) [0, 1] (by decide) rfl
    have hK9 := hK
    exact W.zret (v := 0) hx hb hr rfl (fun t ht hW => ⟨⟨0, (), rfl, (Or.inr (⟨c125, c126, rfl⟩)), by rw [ht]; exact hP9, va_K.moved hW.alike hK9, hD9⟩, hS.F ht⟩) hS.2.2 dX11_apart_12

def w_x_rows : List Cond := .code yX11_rows cX11_rows 2 (some .int) :: ([.fieldLink RX11 35 "HeapWorks" "journal" "LHeapWorks$Journal;", .fieldLink RX11 309 "HeapWorks$Journal" "watches" "I"] ++ wsX110 ++ wsX30)
theorem in_x_rows_X11 : ∀ w ∈ wsX110, w ∈ w_x_rows := by decide +kernel
theorem in_x_rows_X3 : ∀ w ∈ wsX30, w ∈ w_x_rows := by decide +kernel
set_option maxHeartbeats 4000000 in
set_option maxRecDepth 100000 in
theorem x_rows (l : Launch) (dC : Nat → ClassId) (dI : Nat → Nat → Nat) (sz : Nat) (aX : Nat) (fsX : List Value) (aJ : Nat) (fsJ : List Value) (p0 : Int32) (k_fsX : fh fsX 18 [(3, .ref aJ)]) (k_fsJ : fh fsJ 13 [(7, .int 0)])  : Met l yX11_rows w_x_rows ({ frames := 0, cells := 0, slots := 0, locals := 0 }) (va_Pc [.ref aX, .int p0] (fun U => U.heap.size = sz ∧ Wd dC dI [] (fun _ => True) [(aX, .inr (14, fsX)), (aJ, .inr (6, fsJ))] U)) (va_Qi (fun (r : Int32) (u : Unit) => (p0 < 0 ∧ r = (-1)) ∨ (¬ p0 < 0 ∧ 0 ≤ p0 ∧ r = (-1))) (fun (u : Unit) t => Wd dC dI [] (va_A [(aX, .inr (14, fsX)), (aJ, .inr (6, fsJ))] sz) [(aX, .inr (14, fsX)), (aJ, .inr (6, fsJ))] t) (va_A [(aX, .inr (14, fsX)), (aJ, .inr (6, fsJ))] sz)) 0 0 (va_A [(aX, .inr (14, fsX)), (aJ, .inr (6, fsJ))] sz) := by
  refine Met.ofW (cc := cX11_rows) (maxL := 2) (ret := (some .int)) (by decide) rfl ?_
  intro p e s m args below meth c s₁ B hml hv
  obtain ⟨rfl, hsz, hP, hK, hD0⟩ := hv
  have hx := B.exec
  have hb := B.bytes
  have hr := B.returns
  have hts := atoms_spec (ws := w_x_rows) B.pre
  have hown : s.vm.findClass RX11 = some m.cls := findClass_of_methodNamed B.named
  have hlocks := B.notSynchronized
  subst hsz
  have hD := hD0.self (sz := s.heap.size)
  generalize hAe : va_A [(aX, .inr (14, fsX)), (aJ, .inr (6, fsJ))] s.heap.size = A at hD ⊢
  have hA : ∀ q : Nat, s.heap.size ≤ q → A q := fun q h => by rw [← hAe]; exact Or.inr h
  have hS : va_S A s.heap s.heap [] := va_S.rf
  have hl := lv_entry ([.ref aX, .int p0]) (n := 2) (Nat.le_of_ble_eq_true rfl)
  rw [lg_entry_eq]
  generalize (lg_sl ([.ref aX, .int p0]) ++ List.replicate (2 - (lg_sl ([.ref aX, .int p0])).length) Slot.unset).toArray = ls at hl ⊢
  have hl : lv_has ls 2 [(0, .ref aX), (1, .int p0)] := hl
  have o_fsX := ow_0 k_fsX
  have o_fsJ := ow_0 k_fsJ
  refine lv_iload_n hx hb dX11_rows_0 rfl (lv_at hl 1 rfl) ?_
  refine lv_if_lt (tgt := 27) hx hb dX11_rows_1 (by decide) (fun c132 => ?_) (fun c132 => ?_)
  · skip
    refine lv_iconst (v := (-1)) hx hb dX11_rows_27 (by decide) ?_
    have hP9 := hP.sub (ws' := [(aX, .inr (14, fsX)), (aJ, .inr (6, fsJ))]) [0, 1] rfl
    have hD9 := hD.sub (ws' := [(aX, .inr (14, fsX)), (aJ, .inr (6, fsJ))]) [0, 1] (by decide) rfl
    have hK9 := hK
    exact W.iret (v := (-1)) hx hb hr (fun t ht hW => ⟨⟨(-1), (), rfl, (Or.inl ⟨c132, rfl⟩), by rw [ht]; exact hP9, va_K.moved hW.alike hK9, hD9⟩, hS.F ht⟩) hS.2.2 dX11_rows_28
  · skip
    refine lv_iload_n hx hb dX11_rows_4 rfl (lv_at hl 1 rfl) ?_
    refine lv_aload_n hx hb dX11_rows_5 rfl (lv_at hl 0 rfl) ?_
    refine va_get (D := (dC, dI)) (ci := 14) (v := .ref aJ) (C := RX11) (T := TX11) (N := 18) hx hb hts (in_x_rows_X11) hown hK hP 0 rfl rfl 3 (by decide) (hts (.fieldLink RX11 35 "HeapWorks" "journal" "LHeapWorks$Journal;") (by decide +kernel)) (fun _ h9 => h9) (ow_at o_fsX 0 rfl) dX11_rows_6 ?_
    refine va_get (D := (dC, dI)) (ci := 6) (v := .int 0) (C := RX3) (T := TX3) (N := 13) hx hb hts (in_x_rows_X3) hown hK hP 1 rfl rfl 7 (by decide) (hts (.fieldLink RX11 309 "HeapWorks$Journal" "watches" "I") (by decide +kernel)) (fun _ h9 => h9) (ow_at o_fsJ 0 rfl) dX11_rows_9 ?_
    refine lv_icmp_ge (tgt := 27) hx hb dX11_rows_12 (by decide) (fun c133 => ?_) (fun c133 => (by exfalso; simp only [i_lt, i_le, i_eq, kc_0] at c132 c133; omega))
    refine lv_iconst (v := (-1)) hx hb dX11_rows_27 (by decide) ?_
    have hP9 := hP.sub (ws' := [(aX, .inr (14, fsX)), (aJ, .inr (6, fsJ))]) [0, 1] rfl
    have hD9 := hD.sub (ws' := [(aX, .inr (14, fsX)), (aJ, .inr (6, fsJ))]) [0, 1] (by decide) rfl
    have hK9 := hK
    exact W.iret (v := (-1)) hx hb hr (fun t ht hW => ⟨⟨(-1), (), rfl, (Or.inr (⟨c132, c133, rfl⟩)), by rw [ht]; exact hP9, va_K.moved hW.alike hK9, hD9⟩, hS.F ht⟩) hS.2.2 dX11_rows_28

def w_z_X11_isPicture : List Cond := .code yX11_isPicture cX11_isPicture 1 (some .boolean) :: ([])
set_option maxHeartbeats 4000000 in
set_option maxRecDepth 100000 in
theorem z_X11_isPicture (l : Launch) (dC : Nat → ClassId) (dI : Nat → Nat → Nat) (sz : Nat) (Va0 : Int32)   : Met l yX11_isPicture w_z_X11_isPicture ({ frames := 0, cells := 0, slots := 0, locals := 0 }) (va_Pc [.int Va0] (fun U => U.heap.size = sz ∧ Wd dC dI [] (fun _ => True) [] U)) (va_Qi (fun (r : Int32) (u : Unit) => (Va0 < 0 ∧ r = 0) ∨ (¬ Va0 < 0 ∧ 4 ≤ Va0 ∧ r = 0) ∨ (¬ Va0 < 0 ∧ ¬ 4 ≤ Va0 ∧ r = 1)) (fun (u : Unit) t => Wd dC dI [] (va_A [] sz) [] t) (va_A [] sz)) 0 0 (va_A [] sz) := by
  refine Met.ofW (cc := cX11_isPicture) (maxL := 1) (ret := (some .boolean)) (by decide) rfl ?_
  intro p e s m args below meth c s₁ B hml hv
  obtain ⟨rfl, hsz, hP, hK, hD0⟩ := hv
  have hx := B.exec
  have hb := B.bytes
  have hr := B.returns
  have hts := atoms_spec (ws := w_z_X11_isPicture) B.pre
  have hown : s.vm.findClass RX11 = some m.cls := findClass_of_methodNamed B.named
  have hlocks := B.notSynchronized
  subst hsz
  have hD := hD0.self (sz := s.heap.size)
  generalize hAe : va_A [] s.heap.size = A at hD ⊢
  have hA : ∀ q : Nat, s.heap.size ≤ q → A q := fun q h => by rw [← hAe]; exact Or.inr h
  have hS : va_S A s.heap s.heap [] := va_S.rf
  have hl := lv_entry ([.int Va0]) (n := 1) (Nat.le_of_ble_eq_true rfl)
  rw [lg_entry_eq]
  generalize (lg_sl ([.int Va0]) ++ List.replicate (1 - (lg_sl ([.int Va0])).length) Slot.unset).toArray = ls at hl ⊢
  have hl : lv_has ls 1 [(0, .int Va0)] := hl
  refine lv_iload_n hx hb dX11_isPicture_0 rfl (lv_at hl 0 rfl) ?_
  refine lv_if_lt (tgt := 13) hx hb dX11_isPicture_1 (by decide) (fun c136 => ?_) (fun c136 => ?_)
  · skip
    refine lv_iconst (v := 0) hx hb dX11_isPicture_13 (by decide) ?_
    have hP9 := hP.sub (ws' := []) [] rfl
    have hD9 := hD.sub (ws' := []) [] (by decide) rfl
    have hK9 := hK
    exact W.zret (v := 0) hx hb hr rfl (fun t ht hW => ⟨⟨0, (), rfl, (Or.inl ⟨c136, rfl⟩), by rw [ht]; exact hP9, va_K.moved hW.alike hK9, hD9⟩, hS.F ht⟩) hS.2.2 dX11_isPicture_14
  · skip
    refine lv_iload_n hx hb dX11_isPicture_4 rfl (lv_at hl 0 rfl) ?_
    refine lv_iconst (v := 4) hx hb dX11_isPicture_5 (by decide) ?_
    refine lv_icmp_ge (tgt := 13) hx hb dX11_isPicture_6 (by decide) (fun c137 => ?_) (fun c137 => ?_)
    · skip
      refine lv_iconst (v := 0) hx hb dX11_isPicture_13 (by decide) ?_
      have hP9 := hP.sub (ws' := []) [] rfl
      have hD9 := hD.sub (ws' := []) [] (by decide) rfl
      have hK9 := hK
      exact W.zret (v := 0) hx hb hr rfl (fun t ht hW => ⟨⟨0, (), rfl, (Or.inr (Or.inl ⟨c136, c137, rfl⟩)), by rw [ht]; exact hP9, va_K.moved hW.alike hK9, hD9⟩, hS.F ht⟩) hS.2.2 dX11_isPicture_14
    · skip
      refine lv_iconst (v := 1) hx hb dX11_isPicture_9 (by decide) ?_
      refine lv_goto (tgt := 14) hx hb dX11_isPicture_10 (by decide) ?_
      have hP9 := hP.sub (ws' := []) [] rfl
      have hD9 := hD.sub (ws' := []) [] (by decide) rfl
      have hK9 := hK
      exact W.zret (v := 1) hx hb hr rfl (fun t ht hW => ⟨⟨1, (), rfl, (Or.inr (Or.inr (⟨c136, c137, rfl⟩))), by rw [ht]; exact hP9, va_K.moved hW.alike hK9, hD9⟩, hS.F ht⟩) hS.2.2 dX11_isPicture_14

def w_z_X11_isThing : List Cond := .code yX11_isThing cX11_isThing 3 (some .boolean) :: ([.methodLink RX11 411 yX11_isPicture, .static yX11_isPicture, .initialized RX11, .fieldLink RX11 41 "HeapWorks" "pictures" "[LHeapWorks$Picture;", .fieldLink RX11 356 "HeapWorks$Picture" "things" "I"] ++ wsX110 ++ wsX50 ++ w_z_X11_isPicture)
theorem in_z_X11_isThing_X11 : ∀ w ∈ wsX110, w ∈ w_z_X11_isThing := by decide +kernel
theorem in_z_X11_isThing_X5 : ∀ w ∈ wsX50, w ∈ w_z_X11_isThing := by decide +kernel
theorem g_z_X11_isThing_z_X11_isPicture_411 : GoodIn w_z_X11_isThing (wsS RX11 411 yX11_isPicture w_z_X11_isPicture) := goodIn_sub (by decide +kernel) (by decide +kernel)
set_option maxHeartbeats 4000000 in
set_option maxRecDepth 100000 in
theorem z_X11_isThing (l : Launch) (dC : Nat → ClassId) (dI : Nat → Nat → Nat) (sz : Nat) (Ad0 : Nat) (Fs0 : List Value) (Ad1 : Nat) (Fa0 : Nat → Option Nat) (Ka0 : ClassId) (Ad2 : Nat) (Fs1 : List Value) (Va0 : Int32) (Va1 : Int32) (k_Fs0 : fh Fs0 18 [(4, .ref Ad1)]) (k_Fs1 : fh Fs1 21 [(0, .int 0)]) (hg0 : Fa0 Va0.toNatClampNeg = some Ad2) : Met l yX11_isThing w_z_X11_isThing ({ frames := 1, cells := 0, slots := 0, locals := 20 }) (va_Pc [.ref Ad0, .int Va0, .int Va1] (fun U => U.heap.size = sz ∧ Wd dC dI [(Ka0, .object "HeapWorks$Picture")] (fun _ => True) [(Ad0, .inr (14, Fs0)), (Ad1, .inl (Ka0, 4, .inr (.inr (.inr (.inr Fa0))))), (Ad2, .inr (8, Fs1))] U)) (va_Qi (fun (r : Int32) (u : Unit) => (Va0 < 0 ∧ r = 0) ∨ (¬ Va0 < 0 ∧ 4 ≤ Va0 ∧ r = 0) ∨ (¬ Va0 < 0 ∧ ¬ 4 ≤ Va0 ∧ Va1 < 0 ∧ r = 0) ∨ (¬ Va0 < 0 ∧ ¬ 4 ≤ Va0 ∧ ¬ Va1 < 0 ∧ 0 ≤ Va1 ∧ r = 0)) (fun (u : Unit) t => Wd dC dI [(Ka0, .object "HeapWorks$Picture")] (va_A [(Ad0, .inr (14, Fs0)), (Ad1, .inl (Ka0, 4, .inr (.inr (.inr (.inr Fa0))))), (Ad2, .inr (8, Fs1))] sz) [(Ad0, .inr (14, Fs0)), (Ad1, .inl (Ka0, 4, .inr (.inr (.inr (.inr Fa0))))), (Ad2, .inr (8, Fs1))] t) (va_A [(Ad0, .inr (14, Fs0)), (Ad1, .inl (Ka0, 4, .inr (.inr (.inr (.inr Fa0))))), (Ad2, .inr (8, Fs1))] sz)) 0 0 (va_A [(Ad0, .inr (14, Fs0)), (Ad1, .inl (Ka0, 4, .inr (.inr (.inr (.inr Fa0))))), (Ad2, .inr (8, Fs1))] sz) := by
  refine Met.ofW (cc := cX11_isThing) (maxL := 3) (ret := (some .boolean)) (by decide) rfl ?_
  intro p e s m args below meth c s₁ B hml hv
  obtain ⟨rfl, hsz, hP, hK, hD0⟩ := hv
  have hx := B.exec
  have hb := B.bytes
  have hr := B.returns
  have hts := atoms_spec (ws := w_z_X11_isThing) B.pre
  have hown : s.vm.findClass RX11 = some m.cls := findClass_of_methodNamed B.named
  have hlocks := B.notSynchronized
  subst hsz
  have hD := hD0.self (sz := s.heap.size)
  generalize hAe : va_A [(Ad0, .inr (14, Fs0)), (Ad1, .inl (Ka0, 4, .inr (.inr (.inr (.inr Fa0))))), (Ad2, .inr (8, Fs1))] s.heap.size = A at hD ⊢
  have hA : ∀ q : Nat, s.heap.size ≤ q → A q := fun q h => by rw [← hAe]; exact Or.inr h
  have hS : va_S A s.heap s.heap [] := va_S.rf
  have hl := lv_entry ([.ref Ad0, .int Va0, .int Va1]) (n := 3) (Nat.le_of_ble_eq_true rfl)
  rw [lg_entry_eq]
  generalize (lg_sl ([.ref Ad0, .int Va0, .int Va1]) ++ List.replicate (3 - (lg_sl ([.ref Ad0, .int Va0, .int Va1])).length) Slot.unset).toArray = ls at hl ⊢
  have hl : lv_has ls 3 [(0, .ref Ad0), (1, .int Va0), (2, .int Va1)] := hl
  have o_Fs0 := ow_0 k_Fs0
  have o_Fs1 := ow_0 k_Fs1
  refine lv_iload_n hx hb dX11_isThing_0 rfl (lv_at hl 1 rfl) ?_
  have hPc := hP.sub (ws' := []) [] rfl
  have hDc := hD.sub (ws' := []) [] (by decide) rfl
  have hKc := hK.sub (tys' := []) [] rfl
  have hFc := va_free (wc := []) hD hS hA [] rfl
  refine va_calli (va_runS (As := [.int Va0]) (rest := []) ⟨hx, hb, hml, hown, hts⟩ (z_X11_isPicture l dC dI s.heap.size Va0  ) (cwS 1 hts g_z_X11_isThing_z_X11_isPicture_411 rfl rfl rfl (by decide +kernel) ⟨Nat.le_of_ble_eq_true rfl, Nat.le_of_ble_eq_true rfl⟩) ⟨fun a U g mk q => by obtain ⟨q0, q1, qP, qK, qD⟩ := q; exact ⟨q0, q1, qP, va_K.moved (u := U) (U := U.calling g mk a) (Vm.Alike.refl U.vm) qK, qD⟩, fun U hU hW => ⟨rfl, by rw [hU], by rw [hU]; exact hPc, va_K.moved hW.alike hKc, hDc.weaken (fun _ _ _ _ => trivial)⟩⟩ rfl rfl hl.1 rfl (lv_room (Nat.le_of_ble_eq_true rfl)) dX11_isThing_1 ⟨Nat.le_of_ble_eq_true rfl, Nat.le_of_ble_eq_true rfl⟩) hS (fun q _ h => hFc q h) hFc (fun r154 u t H1 locs ht hvm hw hB hz1 hk1 hS => ?_)
  obtain ⟨hP1, hK1, hD1⟩ := hB
  rw [ht] at hP1
  try dsimp only at hw
  obtain ⟨hP, hD⟩ := va_join (wr := [(Ad0, .inr (14, Fs0)), (Ad1, .inl (Ka0, 4, .inr (.inr (.inr (.inr Fa0))))), (Ad2, .inr (8, Fs1))]) (w1 := []) hP hD [] [0, 1, 2] rfl rfl (by decide) (by decide) hk1 hFc hP1 hD1
  have hK := hK.sub (tys' := [(Ka0, .object "HeapWorks$Picture")]) [0] rfl
  generalize H1 = H at hP hS ⊢
  have hP : va_P (dC, dI) vwCl [(Ad0, .inr (14, Fs0)), (Ad1, .inl (Ka0, 4, .inr (.inr (.inr (.inr Fa0))))), (Ad2, .inr (8, Fs1))] H := hP
  have hD : va_D A [(Ad0, .inr (14, Fs0)), (Ad1, .inl (Ka0, 4, .inr (.inr (.inr (.inr Fa0))))), (Ad2, .inr (8, Fs1))] := hD
  rcases hw with ⟨c155, er156⟩ | ⟨c157, c158, er159⟩ | ⟨c160, c161, er162⟩
  · skip
    subst er156
    refine lv_if_eq (tgt := 28) hx hb dX11_isThing_4 (by decide) (fun c163 => ?_) (fun c163 => absurd c163 (by decide))
    refine lv_iconst (v := 0) hx hb dX11_isThing_28 (by decide) ?_
    have hP9 := hP.sub (ws' := [(Ad0, .inr (14, Fs0)), (Ad1, .inl (Ka0, 4, .inr (.inr (.inr (.inr Fa0))))), (Ad2, .inr (8, Fs1))]) [0, 1, 2] rfl
    have hD9 := hD.sub (ws' := [(Ad0, .inr (14, Fs0)), (Ad1, .inl (Ka0, 4, .inr (.inr (.inr (.inr Fa0))))), (Ad2, .inr (8, Fs1))]) [0, 1, 2] (by decide) rfl
    have hK9 := hK
    exact W.zret (v := 0) hx hb hr rfl (fun t ht hW => ⟨⟨0, (), rfl, (Or.inl ⟨c155, rfl⟩), by rw [ht]; exact hP9, va_K.moved hW.alike hK9, hD9⟩, hS.F ht⟩) hS.2.2 dX11_isThing_29
  · skip
    subst er159
    refine lv_if_eq (tgt := 28) hx hb dX11_isThing_4 (by decide) (fun c164 => ?_) (fun c164 => absurd c164 (by decide))
    refine lv_iconst (v := 0) hx hb dX11_isThing_28 (by decide) ?_
    have hP9 := hP.sub (ws' := [(Ad0, .inr (14, Fs0)), (Ad1, .inl (Ka0, 4, .inr (.inr (.inr (.inr Fa0))))), (Ad2, .inr (8, Fs1))]) [0, 1, 2] rfl
    have hD9 := hD.sub (ws' := [(Ad0, .inr (14, Fs0)), (Ad1, .inl (Ka0, 4, .inr (.inr (.inr (.inr Fa0))))), (Ad2, .inr (8, Fs1))]) [0, 1, 2] (by decide) rfl
    have hK9 := hK
    exact W.zret (v := 0) hx hb hr rfl (fun t ht hW => ⟨⟨0, (), rfl, (Or.inr (Or.inl ⟨c157, c158, rfl⟩)), by rw [ht]; exact hP9, va_K.moved hW.alike hK9, hD9⟩, hS.F ht⟩) hS.2.2 dX11_isThing_29
  · skip
    subst er162
    refine lv_if_eq (tgt := 28) hx hb dX11_isThing_4 (by decide) (fun c165 => absurd c165 (by decide)) (fun c165 => ?_)
    refine lv_iload_n hx hb dX11_isThing_7 rfl (lv_at hl 2 rfl) ?_
    refine lv_if_lt (tgt := 28) hx hb dX11_isThing_8 (by decide) (fun c166 => ?_) (fun c166 => ?_)
    · skip
      refine lv_iconst (v := 0) hx hb dX11_isThing_28 (by decide) ?_
      have hP9 := hP.sub (ws' := [(Ad0, .inr (14, Fs0)), (Ad1, .inl (Ka0, 4, .inr (.inr (.inr (.inr Fa0))))), (Ad2, .inr (8, Fs1))]) [0, 1, 2] rfl
      have hD9 := hD.sub (ws' := [(Ad0, .inr (14, Fs0)), (Ad1, .inl (Ka0, 4, .inr (.inr (.inr (.inr Fa0))))), (Ad2, .inr (8, Fs1))]) [0, 1, 2] (by decide) rfl
      have hK9 := hK
      exact W.zret (v := 0) hx hb hr rfl (fun t ht hW => ⟨⟨0, (), rfl, (Or.inr (Or.inr (Or.inl ⟨c160, c161, c166, rfl⟩))), by rw [ht]; exact hP9, va_K.moved hW.alike hK9, hD9⟩, hS.F ht⟩) hS.2.2 dX11_isThing_29
    · skip
      refine lv_iload_n hx hb dX11_isThing_11 rfl (lv_at hl 2 rfl) ?_
      refine lv_aload_n hx hb dX11_isThing_12 rfl (lv_at hl 0 rfl) ?_
      refine va_get (D := (dC, dI)) (ci := 14) (v := .ref Ad1) (C := RX11) (T := TX11) (N := 18) hx hb hts (in_z_X11_isThing_X11) hown hK hP 0 rfl rfl 4 (by decide) (hts (.fieldLink RX11 41 "HeapWorks" "pictures" "[LHeapWorks$Picture;") (by decide +kernel)) (fun _ h9 => h9) (ow_at o_Fs0 0 rfl) dX11_isThing_13 ?_
      refine lv_iload_n hx hb dX11_isThing_16 rfl (lv_at hl 1 rfl) ?_
      refine va_aldq hx hb hK hP 1 0 rfl rfl (by rw [vp_in_iff]; simp only [i_lt, i_le, i_eq, kc_0, kc_4] at c160 c161; omega) dX11_isThing_17 ?_
      refine W.eq (g2 := F0 m 18 ls (.ref Ad2 :: [.int Va1])) (by rw [hg0]; rfl) ?_
      refine va_get (D := (dC, dI)) (ci := 8) (v := .int 0) (C := RX5) (T := TX5) (N := 21) hx hb hts (in_z_X11_isThing_X5) hown hK hP 2 rfl rfl 0 (by decide) (hts (.fieldLink RX11 356 "HeapWorks$Picture" "things" "I") (by decide +kernel)) (fun _ h9 => h9) (ow_at o_Fs1 0 rfl) dX11_isThing_18 ?_
      refine lv_icmp_ge (tgt := 28) hx hb dX11_isThing_21 (by decide) (fun c167 => ?_) (fun c167 => (by exfalso; simp only [i_lt, i_le, i_eq, kc_0] at c166 c167; omega))
      refine lv_iconst (v := 0) hx hb dX11_isThing_28 (by decide) ?_
      have hP9 := hP.sub (ws' := [(Ad0, .inr (14, Fs0)), (Ad1, .inl (Ka0, 4, .inr (.inr (.inr (.inr Fa0))))), (Ad2, .inr (8, Fs1))]) [0, 1, 2] rfl
      have hD9 := hD.sub (ws' := [(Ad0, .inr (14, Fs0)), (Ad1, .inl (Ka0, 4, .inr (.inr (.inr (.inr Fa0))))), (Ad2, .inr (8, Fs1))]) [0, 1, 2] (by decide) rfl
      have hK9 := hK
      exact W.zret (v := 0) hx hb hr rfl (fun t ht hW => ⟨⟨0, (), rfl, (Or.inr (Or.inr (Or.inr (⟨c160, c161, c166, c167, rfl⟩)))), by rw [ht]; exact hP9, va_K.moved hW.alike hK9, hD9⟩, hS.F ht⟩) hS.2.2 dX11_isThing_29

def w_x_choose : List Cond := .code yX11_choose cX11_choose 4 (some .boolean) :: ([.methodLink RX11 359 yX11_isThing, .instanceMethod yX11_isThing, .selects RX11 yX11_isThing yX11_isThing, .initialized RX11] ++ w_z_X11_isThing)
theorem g_x_choose_z_X11_isThing_359 : GoodIn w_x_choose (wsV RX11 359 RX11 yX11_isThing w_z_X11_isThing) := goodIn_sub (by decide +kernel) (by decide +kernel)
set_option maxHeartbeats 4000000 in
set_option maxRecDepth 100000 in
theorem x_choose (l : Launch) (dC : Nat → ClassId) (dI : Nat → Nat → Nat) (sz : Nat) (aX : Nat) (fsX : List Value) (qP : Nat) (gP : Nat → Option Nat) (kP : ClassId) (ap : Nat) (fsp : List Value) (p0 : Int32) (p1 : Int32) (p2 : Int32) (k_fsX : fh fsX 18 [(4, .ref qP)]) (k_fsp : fh fsp 21 [(0, .int 0)]) (hg : gP p0.toNatClampNeg = some ap) : Met l yX11_choose w_x_choose ({ frames := 2, cells := 0, slots := 0, locals := 42 }) (va_Pc [.ref aX, .int p0, .int p1, .int p2] (fun U => U.heap.size = sz ∧ Wd dC dI [(kP, .object "HeapWorks$Picture")] (fun _ => True) [(aX, .inr (14, fsX)), (qP, .inl (kP, 4, .inr (.inr (.inr (.inr gP))))), (ap, .inr (8, fsp))] U)) (va_Qi (fun (r : Int32) (u : Unit) => (p0 < 0 ∧ r = 0) ∨ (¬ p0 < 0 ∧ 4 ≤ p0 ∧ r = 0) ∨ (¬ p0 < 0 ∧ ¬ 4 ≤ p0 ∧ p1 < 0 ∧ r = 0) ∨ (¬ p0 < 0 ∧ ¬ 4 ≤ p0 ∧ ¬ p1 < 0 ∧ 0 ≤ p1 ∧ r = 0)) (fun (u : Unit) t => Wd dC dI [(kP, .object "HeapWorks$Picture")] (va_A [(aX, .inr (14, fsX)), (qP, .inl (kP, 4, .inr (.inr (.inr (.inr gP))))), (ap, .inr (8, fsp))] sz) [(aX, .inr (14, fsX)), (qP, .inl (kP, 4, .inr (.inr (.inr (.inr gP))))), (ap, .inr (8, fsp))] t) (va_A [(aX, .inr (14, fsX)), (qP, .inl (kP, 4, .inr (.inr (.inr (.inr gP))))), (ap, .inr (8, fsp))] sz)) 0 0 (va_A [(aX, .inr (14, fsX)), (qP, .inl (kP, 4, .inr (.inr (.inr (.inr gP))))), (ap, .inr (8, fsp))] sz) := by
  refine Met.ofW (cc := cX11_choose) (maxL := 4) (ret := (some .boolean)) (by decide) rfl ?_
  intro p e s m args below meth c s₁ B hml hv
  obtain ⟨rfl, hsz, hP, hK, hD0⟩ := hv
  have hx := B.exec
  have hb := B.bytes
  have hr := B.returns
  have hts := atoms_spec (ws := w_x_choose) B.pre
  have hown : s.vm.findClass RX11 = some m.cls := findClass_of_methodNamed B.named
  have hlocks := B.notSynchronized
  subst hsz
  have hD := hD0.self (sz := s.heap.size)
  generalize hAe : va_A [(aX, .inr (14, fsX)), (qP, .inl (kP, 4, .inr (.inr (.inr (.inr gP))))), (ap, .inr (8, fsp))] s.heap.size = A at hD ⊢
  have hA : ∀ q : Nat, s.heap.size ≤ q → A q := fun q h => by rw [← hAe]; exact Or.inr h
  have hS : va_S A s.heap s.heap [] := va_S.rf
  have hl := lv_entry ([.ref aX, .int p0, .int p1, .int p2]) (n := 4) (Nat.le_of_ble_eq_true rfl)
  rw [lg_entry_eq]
  generalize (lg_sl ([.ref aX, .int p0, .int p1, .int p2]) ++ List.replicate (4 - (lg_sl ([.ref aX, .int p0, .int p1, .int p2])).length) Slot.unset).toArray = ls at hl ⊢
  have hl : lv_has ls 4 [(0, .ref aX), (1, .int p0), (2, .int p1), (3, .int p2)] := hl
  have o_fsX := ow_0 k_fsX
  have o_fsp := ow_0 k_fsp
  refine lv_aload_n hx hb dX11_choose_0 rfl (lv_at hl 0 rfl) ?_
  refine lv_iload_n hx hb dX11_choose_1 rfl (lv_at hl 1 rfl) ?_
  refine lv_iload_n hx hb dX11_choose_2 rfl (lv_at hl 2 rfl) ?_
  have hPc := hP.sub (ws' := [(aX, .inr (14, fsX)), (qP, .inl (kP, 4, .inr (.inr (.inr (.inr gP))))), (ap, .inr (8, fsp))]) [0, 1, 2] rfl
  have hDc := hD.sub (ws' := [(aX, .inr (14, fsX)), (qP, .inl (kP, 4, .inr (.inr (.inr (.inr gP))))), (ap, .inr (8, fsp))]) [0, 1, 2] (by decide) rfl
  have hKc := hK.sub (tys' := [(kP, .object "HeapWorks$Picture")]) [0] rfl
  have hFc := va_free (wc := [(aX, .inr (14, fsX)), (qP, .inl (kP, 4, .inr (.inr (.inr (.inr gP))))), (ap, .inr (8, fsp))]) hD hS hA [0, 1, 2] rfl
  refine va_calli (va_runV (As := [.int p0, .int p1]) (rest := []) ⟨hx, hb, hml, hown, hts⟩ (z_X11_isThing l dC dI s.heap.size aX fsX qP gP kP ap fsp p0 p1 (fh_sub o_fsX.2 [0] rfl) (fh_sub o_fsp.2 [0] rfl) hg) (cwV 2 hts g_x_choose_z_X11_isThing_359 rfl rfl rfl (by decide +kernel) ⟨Nat.le_of_ble_eq_true rfl, Nat.le_of_ble_eq_true rfl⟩) ⟨fun a U g mk q => by obtain ⟨q0, q1, qP, qK, qD⟩ := q; exact ⟨q0, q1, qP, va_K.moved (u := U) (U := U.calling g mk a) (Vm.Alike.refl U.vm) qK, qD⟩, va_recv hK hP (ci := 14) (q0 := 0) rfl rfl, fun U hU hW => ⟨rfl, by rw [hU], by rw [hU]; exact hPc, va_K.moved hW.alike hKc, hDc.weaken (fun _ _ _ _ => trivial)⟩⟩ rfl rfl hl.1 rfl (lv_room (Nat.le_of_ble_eq_true rfl)) dX11_choose_3 ⟨Nat.le_of_ble_eq_true rfl, Nat.le_of_ble_eq_true rfl⟩) hS (fun q _ h => hFc q h) hFc (fun r203 u t H1 locs ht hvm hw hB hz1 hk1 hS => ?_)
  obtain ⟨hP1, hK1, hD1⟩ := hB
  rw [ht] at hP1
  try dsimp only at hw
  obtain ⟨hP, hD⟩ := va_join (wr := []) (w1 := [(aX, .inr (14, fsX)), (qP, .inl (kP, 4, .inr (.inr (.inr (.inr gP))))), (ap, .inr (8, fsp))]) hP hD [0, 1, 2] [] rfl rfl (by decide) (by decide) hk1 hFc hP1 hD1
  have hK := hK.sub (tys' := [(kP, .object "HeapWorks$Picture")]) [0] rfl
  generalize H1 = H at hP hS ⊢
  have hP : va_P (dC, dI) vwCl [(aX, .inr (14, fsX)), (qP, .inl (kP, 4, .inr (.inr (.inr (.inr gP))))), (ap, .inr (8, fsp))] H := hP
  have hD : va_D A [(aX, .inr (14, fsX)), (qP, .inl (kP, 4, .inr (.inr (.inr (.inr gP))))), (ap, .inr (8, fsp))] := hD
  rcases hw with ⟨c204, er205⟩ | ⟨c206, c207, er208⟩ | ⟨c209, c210, c211, er212⟩ | ⟨c213, c214, c215, c216, er217⟩
  · skip
    subst er205
    refine lv_if_ne (tgt := 11) hx hb dX11_choose_6 (by decide) (fun c218 => absurd c218 (by decide)) (fun c218 => ?_)
    refine lv_iconst (v := 0) hx hb dX11_choose_9 (by decide) ?_
    have hP9 := hP.sub (ws' := [(aX, .inr (14, fsX)), (qP, .inl (kP, 4, .inr (.inr (.inr (.inr gP))))), (ap, .inr (8, fsp))]) [0, 1, 2] rfl
    have hD9 := hD.sub (ws' := [(aX, .inr (14, fsX)), (qP, .inl (kP, 4, .inr (.inr (.inr (.inr gP))))), (ap, .inr (8, fsp))]) [0, 1, 2] (by decide) rfl
    have hK9 := hK
    exact W.zret (v := 0) hx hb hr rfl (fun t ht hW => ⟨⟨0, (), rfl, (Or.inl ⟨c204, rfl⟩), by rw [ht]; exact hP9, va_K.moved hW.alike hK9, hD9⟩, hS.F ht⟩) hS.2.2 dX11_choose_10
  · skip
    subst er208
    refine lv_if_ne (tgt := 11) hx hb dX11_choose_6 (by decide) (fun c219 => absurd c219 (by decide)) (fun c219 => ?_)
    refine lv_iconst (v := 0) hx hb dX11_choose_9 (by decide) ?_
    have hP9 := hP.sub (ws' := [(aX, .inr (14, fsX)), (qP, .inl (kP, 4, .inr (.inr (.inr (.inr gP))))), (ap, .inr (8, fsp))]) [0, 1, 2] rfl
    have hD9 := hD.sub (ws' := [(aX, .inr (14, fsX)), (qP, .inl (kP, 4, .inr (.inr (.inr (.inr gP))))), (ap, .inr (8, fsp))]) [0, 1, 2] (by decide) rfl
    have hK9 := hK
    exact W.zret (v := 0) hx hb hr rfl (fun t ht hW => ⟨⟨0, (), rfl, (Or.inr (Or.inl ⟨c206, c207, rfl⟩)), by rw [ht]; exact hP9, va_K.moved hW.alike hK9, hD9⟩, hS.F ht⟩) hS.2.2 dX11_choose_10
  · skip
    subst er212
    refine lv_if_ne (tgt := 11) hx hb dX11_choose_6 (by decide) (fun c220 => absurd c220 (by decide)) (fun c220 => ?_)
    refine lv_iconst (v := 0) hx hb dX11_choose_9 (by decide) ?_
    have hP9 := hP.sub (ws' := [(aX, .inr (14, fsX)), (qP, .inl (kP, 4, .inr (.inr (.inr (.inr gP))))), (ap, .inr (8, fsp))]) [0, 1, 2] rfl
    have hD9 := hD.sub (ws' := [(aX, .inr (14, fsX)), (qP, .inl (kP, 4, .inr (.inr (.inr (.inr gP))))), (ap, .inr (8, fsp))]) [0, 1, 2] (by decide) rfl
    have hK9 := hK
    exact W.zret (v := 0) hx hb hr rfl (fun t ht hW => ⟨⟨0, (), rfl, (Or.inr (Or.inr (Or.inl ⟨c209, c210, c211, rfl⟩))), by rw [ht]; exact hP9, va_K.moved hW.alike hK9, hD9⟩, hS.F ht⟩) hS.2.2 dX11_choose_10
  · skip
    subst er217
    refine lv_if_ne (tgt := 11) hx hb dX11_choose_6 (by decide) (fun c221 => absurd c221 (by decide)) (fun c221 => ?_)
    refine lv_iconst (v := 0) hx hb dX11_choose_9 (by decide) ?_
    have hP9 := hP.sub (ws' := [(aX, .inr (14, fsX)), (qP, .inl (kP, 4, .inr (.inr (.inr (.inr gP))))), (ap, .inr (8, fsp))]) [0, 1, 2] rfl
    have hD9 := hD.sub (ws' := [(aX, .inr (14, fsX)), (qP, .inl (kP, 4, .inr (.inr (.inr (.inr gP))))), (ap, .inr (8, fsp))]) [0, 1, 2] (by decide) rfl
    have hK9 := hK
    exact W.zret (v := 0) hx hb hr rfl (fun t ht hW => ⟨⟨0, (), rfl, (Or.inr (Or.inr (Or.inr (⟨c213, c214, c215, c216, rfl⟩)))), by rw [ht]; exact hP9, va_K.moved hW.alike hK9, hD9⟩, hS.F ht⟩) hS.2.2 dX11_choose_10

def w_x_lostThing : List Cond := .code yX11_lostThing cX11_lostThing 3 (some .int) :: ([.methodLink RX11 411 yX11_isPicture, .static yX11_isPicture, .initialized RX11, .fieldLink RX11 41 "HeapWorks" "pictures" "[LHeapWorks$Picture;", .fieldLink RX11 444 "HeapWorks$Picture" "lostCount" "I"] ++ wsX110 ++ wsX50 ++ w_z_X11_isPicture)
theorem in_x_lostThing_X11 : ∀ w ∈ wsX110, w ∈ w_x_lostThing := by decide +kernel
theorem in_x_lostThing_X5 : ∀ w ∈ wsX50, w ∈ w_x_lostThing := by decide +kernel
theorem g_x_lostThing_z_X11_isPicture_411 : GoodIn w_x_lostThing (wsS RX11 411 yX11_isPicture w_z_X11_isPicture) := goodIn_sub (by decide +kernel) (by decide +kernel)
set_option maxHeartbeats 4000000 in
set_option maxRecDepth 100000 in
theorem x_lostThing (l : Launch) (dC : Nat → ClassId) (dI : Nat → Nat → Nat) (sz : Nat) (aX : Nat) (fsX : List Value) (qP : Nat) (gP : Nat → Option Nat) (kP : ClassId) (ap : Nat) (fsp : List Value) (p0 : Int32) (p1 : Int32) (k_fsX : fh fsX 18 [(4, .ref qP)]) (k_fsp : fh fsp 21 [(16, .int 0)]) (hg : gP p0.toNatClampNeg = some ap) : Met l yX11_lostThing w_x_lostThing ({ frames := 1, cells := 0, slots := 0, locals := 20 }) (va_Pc [.ref aX, .int p0, .int p1] (fun U => U.heap.size = sz ∧ Wd dC dI [(kP, .object "HeapWorks$Picture")] (fun _ => True) [(aX, .inr (14, fsX)), (qP, .inl (kP, 4, .inr (.inr (.inr (.inr gP))))), (ap, .inr (8, fsp))] U)) (va_Qi (fun (r : Int32) (u : Unit) => (p0 < 0 ∧ r = (-1)) ∨ (¬ p0 < 0 ∧ 4 ≤ p0 ∧ r = (-1)) ∨ (¬ p0 < 0 ∧ ¬ 4 ≤ p0 ∧ p1 < 0 ∧ r = (-1)) ∨ (¬ p0 < 0 ∧ ¬ 4 ≤ p0 ∧ ¬ p1 < 0 ∧ 0 ≤ p1 ∧ r = (-1))) (fun (u : Unit) t => Wd dC dI [(kP, .object "HeapWorks$Picture")] (va_A [(aX, .inr (14, fsX)), (qP, .inl (kP, 4, .inr (.inr (.inr (.inr gP))))), (ap, .inr (8, fsp))] sz) [(aX, .inr (14, fsX)), (qP, .inl (kP, 4, .inr (.inr (.inr (.inr gP))))), (ap, .inr (8, fsp))] t) (va_A [(aX, .inr (14, fsX)), (qP, .inl (kP, 4, .inr (.inr (.inr (.inr gP))))), (ap, .inr (8, fsp))] sz)) 0 0 (va_A [(aX, .inr (14, fsX)), (qP, .inl (kP, 4, .inr (.inr (.inr (.inr gP))))), (ap, .inr (8, fsp))] sz) := by
  refine Met.ofW (cc := cX11_lostThing) (maxL := 3) (ret := (some .int)) (by decide) rfl ?_
  intro p e s m args below meth c s₁ B hml hv
  obtain ⟨rfl, hsz, hP, hK, hD0⟩ := hv
  have hx := B.exec
  have hb := B.bytes
  have hr := B.returns
  have hts := atoms_spec (ws := w_x_lostThing) B.pre
  have hown : s.vm.findClass RX11 = some m.cls := findClass_of_methodNamed B.named
  have hlocks := B.notSynchronized
  subst hsz
  have hD := hD0.self (sz := s.heap.size)
  generalize hAe : va_A [(aX, .inr (14, fsX)), (qP, .inl (kP, 4, .inr (.inr (.inr (.inr gP))))), (ap, .inr (8, fsp))] s.heap.size = A at hD ⊢
  have hA : ∀ q : Nat, s.heap.size ≤ q → A q := fun q h => by rw [← hAe]; exact Or.inr h
  have hS : va_S A s.heap s.heap [] := va_S.rf
  have hl := lv_entry ([.ref aX, .int p0, .int p1]) (n := 3) (Nat.le_of_ble_eq_true rfl)
  rw [lg_entry_eq]
  generalize (lg_sl ([.ref aX, .int p0, .int p1]) ++ List.replicate (3 - (lg_sl ([.ref aX, .int p0, .int p1])).length) Slot.unset).toArray = ls at hl ⊢
  have hl : lv_has ls 3 [(0, .ref aX), (1, .int p0), (2, .int p1)] := hl
  have o_fsX := ow_0 k_fsX
  have o_fsp := ow_0 k_fsp
  refine lv_iload_n hx hb dX11_lostThing_0 rfl (lv_at hl 1 rfl) ?_
  have hPc := hP.sub (ws' := []) [] rfl
  have hDc := hD.sub (ws' := []) [] (by decide) rfl
  have hKc := hK.sub (tys' := []) [] rfl
  have hFc := va_free (wc := []) hD hS hA [] rfl
  refine va_calli (va_runS (As := [.int p0]) (rest := []) ⟨hx, hb, hml, hown, hts⟩ (z_X11_isPicture l dC dI s.heap.size p0  ) (cwS 1 hts g_x_lostThing_z_X11_isPicture_411 rfl rfl rfl (by decide +kernel) ⟨Nat.le_of_ble_eq_true rfl, Nat.le_of_ble_eq_true rfl⟩) ⟨fun a U g mk q => by obtain ⟨q0, q1, qP, qK, qD⟩ := q; exact ⟨q0, q1, qP, va_K.moved (u := U) (U := U.calling g mk a) (Vm.Alike.refl U.vm) qK, qD⟩, fun U hU hW => ⟨rfl, by rw [hU], by rw [hU]; exact hPc, va_K.moved hW.alike hKc, hDc.weaken (fun _ _ _ _ => trivial)⟩⟩ rfl rfl hl.1 rfl (lv_room (Nat.le_of_ble_eq_true rfl)) dX11_lostThing_1 ⟨Nat.le_of_ble_eq_true rfl, Nat.le_of_ble_eq_true rfl⟩) hS (fun q _ h => hFc q h) hFc (fun r240 u t H1 locs ht hvm hw hB hz1 hk1 hS => ?_)
  obtain ⟨hP1, hK1, hD1⟩ := hB
  rw [ht] at hP1
  try dsimp only at hw
  obtain ⟨hP, hD⟩ := va_join (wr := [(aX, .inr (14, fsX)), (qP, .inl (kP, 4, .inr (.inr (.inr (.inr gP))))), (ap, .inr (8, fsp))]) (w1 := []) hP hD [] [0, 1, 2] rfl rfl (by decide) (by decide) hk1 hFc hP1 hD1
  have hK := hK.sub (tys' := [(kP, .object "HeapWorks$Picture")]) [0] rfl
  generalize H1 = H at hP hS ⊢
  have hP : va_P (dC, dI) vwCl [(aX, .inr (14, fsX)), (qP, .inl (kP, 4, .inr (.inr (.inr (.inr gP))))), (ap, .inr (8, fsp))] H := hP
  have hD : va_D A [(aX, .inr (14, fsX)), (qP, .inl (kP, 4, .inr (.inr (.inr (.inr gP))))), (ap, .inr (8, fsp))] := hD
  rcases hw with ⟨c241, er242⟩ | ⟨c243, c244, er245⟩ | ⟨c246, c247, er248⟩
  · skip
    subst er242
    refine lv_if_eq (tgt := 38) hx hb dX11_lostThing_4 (by decide) (fun c249 => ?_) (fun c249 => absurd c249 (by decide))
    refine lv_iconst (v := (-1)) hx hb dX11_lostThing_38 (by decide) ?_
    have hP9 := hP.sub (ws' := [(aX, .inr (14, fsX)), (qP, .inl (kP, 4, .inr (.inr (.inr (.inr gP))))), (ap, .inr (8, fsp))]) [0, 1, 2] rfl
    have hD9 := hD.sub (ws' := [(aX, .inr (14, fsX)), (qP, .inl (kP, 4, .inr (.inr (.inr (.inr gP))))), (ap, .inr (8, fsp))]) [0, 1, 2] (by decide) rfl
    have hK9 := hK
    exact W.iret (v := (-1)) hx hb hr (fun t ht hW => ⟨⟨(-1), (), rfl, (Or.inl ⟨c241, rfl⟩), by rw [ht]; exact hP9, va_K.moved hW.alike hK9, hD9⟩, hS.F ht⟩) hS.2.2 dX11_lostThing_39
  · skip
    subst er245
    refine lv_if_eq (tgt := 38) hx hb dX11_lostThing_4 (by decide) (fun c250 => ?_) (fun c250 => absurd c250 (by decide))
    refine lv_iconst (v := (-1)) hx hb dX11_lostThing_38 (by decide) ?_
    have hP9 := hP.sub (ws' := [(aX, .inr (14, fsX)), (qP, .inl (kP, 4, .inr (.inr (.inr (.inr gP))))), (ap, .inr (8, fsp))]) [0, 1, 2] rfl
    have hD9 := hD.sub (ws' := [(aX, .inr (14, fsX)), (qP, .inl (kP, 4, .inr (.inr (.inr (.inr gP))))), (ap, .inr (8, fsp))]) [0, 1, 2] (by decide) rfl
    have hK9 := hK
    exact W.iret (v := (-1)) hx hb hr (fun t ht hW => ⟨⟨(-1), (), rfl, (Or.inr (Or.inl ⟨c243, c244, rfl⟩)), by rw [ht]; exact hP9, va_K.moved hW.alike hK9, hD9⟩, hS.F ht⟩) hS.2.2 dX11_lostThing_39
  · skip
    subst er248
    refine lv_if_eq (tgt := 38) hx hb dX11_lostThing_4 (by decide) (fun c251 => absurd c251 (by decide)) (fun c251 => ?_)
    refine lv_iload_n hx hb dX11_lostThing_7 rfl (lv_at hl 2 rfl) ?_
    refine lv_if_lt (tgt := 38) hx hb dX11_lostThing_8 (by decide) (fun c252 => ?_) (fun c252 => ?_)
    · skip
      refine lv_iconst (v := (-1)) hx hb dX11_lostThing_38 (by decide) ?_
      have hP9 := hP.sub (ws' := [(aX, .inr (14, fsX)), (qP, .inl (kP, 4, .inr (.inr (.inr (.inr gP))))), (ap, .inr (8, fsp))]) [0, 1, 2] rfl
      have hD9 := hD.sub (ws' := [(aX, .inr (14, fsX)), (qP, .inl (kP, 4, .inr (.inr (.inr (.inr gP))))), (ap, .inr (8, fsp))]) [0, 1, 2] (by decide) rfl
      have hK9 := hK
      exact W.iret (v := (-1)) hx hb hr (fun t ht hW => ⟨⟨(-1), (), rfl, (Or.inr (Or.inr (Or.inl ⟨c246, c247, c252, rfl⟩))), by rw [ht]; exact hP9, va_K.moved hW.alike hK9, hD9⟩, hS.F ht⟩) hS.2.2 dX11_lostThing_39
    · skip
      refine lv_iload_n hx hb dX11_lostThing_11 rfl (lv_at hl 2 rfl) ?_
      refine lv_aload_n hx hb dX11_lostThing_12 rfl (lv_at hl 0 rfl) ?_
      refine va_get (D := (dC, dI)) (ci := 14) (v := .ref qP) (C := RX11) (T := TX11) (N := 18) hx hb hts (in_x_lostThing_X11) hown hK hP 0 rfl rfl 4 (by decide) (hts (.fieldLink RX11 41 "HeapWorks" "pictures" "[LHeapWorks$Picture;") (by decide +kernel)) (fun _ h9 => h9) (ow_at o_fsX 0 rfl) dX11_lostThing_13 ?_
      refine lv_iload_n hx hb dX11_lostThing_16 rfl (lv_at hl 1 rfl) ?_
      refine va_aldq hx hb hK hP 1 0 rfl rfl (by rw [vp_in_iff]; simp only [i_lt, i_le, i_eq, kc_0, kc_4] at c246 c247; omega) dX11_lostThing_17 ?_
      refine W.eq (g2 := F0 m 18 ls (.ref ap :: [.int p1])) (by rw [hg]; rfl) ?_
      refine va_get (D := (dC, dI)) (ci := 8) (v := .int 0) (C := RX5) (T := TX5) (N := 21) hx hb hts (in_x_lostThing_X5) hown hK hP 2 rfl rfl 16 (by decide) (hts (.fieldLink RX11 444 "HeapWorks$Picture" "lostCount" "I") (by decide +kernel)) (fun _ h9 => h9) (ow_at o_fsp 0 rfl) dX11_lostThing_18 ?_
      refine lv_icmp_ge (tgt := 38) hx hb dX11_lostThing_21 (by decide) (fun c253 => ?_) (fun c253 => (by exfalso; simp only [i_lt, i_le, i_eq, kc_0] at c252 c253; omega))
      refine lv_iconst (v := (-1)) hx hb dX11_lostThing_38 (by decide) ?_
      have hP9 := hP.sub (ws' := [(aX, .inr (14, fsX)), (qP, .inl (kP, 4, .inr (.inr (.inr (.inr gP))))), (ap, .inr (8, fsp))]) [0, 1, 2] rfl
      have hD9 := hD.sub (ws' := [(aX, .inr (14, fsX)), (qP, .inl (kP, 4, .inr (.inr (.inr (.inr gP))))), (ap, .inr (8, fsp))]) [0, 1, 2] (by decide) rfl
      have hK9 := hK
      exact W.iret (v := (-1)) hx hb hr (fun t ht hW => ⟨⟨(-1), (), rfl, (Or.inr (Or.inr (Or.inr (⟨c246, c247, c252, c253, rfl⟩)))), by rw [ht]; exact hP9, va_K.moved hW.alike hK9, hD9⟩, hS.F ht⟩) hS.2.2 dX11_lostThing_39

def w_x_grown : List Cond := .code yX11_grown cX11_grown 2 (some .int) :: ([.fieldLink RX11 454 "HeapWorks" "grownCount" "I"] ++ wsX110)
theorem in_x_grown_X11 : ∀ w ∈ wsX110, w ∈ w_x_grown := by decide +kernel
set_option maxHeartbeats 4000000 in
set_option maxRecDepth 100000 in
theorem x_grown (l : Launch) (dC : Nat → ClassId) (dI : Nat → Nat → Nat) (sz : Nat) (aX : Nat) (fsX : List Value) (p0 : Int32) (k_fsX : fh fsX 18 [(15, .int 0)])  : Met l yX11_grown w_x_grown ({ frames := 0, cells := 0, slots := 0, locals := 0 }) (va_Pc [.ref aX, .int p0] (fun U => U.heap.size = sz ∧ Wd dC dI [] (fun _ => True) [(aX, .inr (14, fsX))] U)) (va_Qi (fun (r : Int32) (u : Unit) => (p0 < 0 ∧ r = (-1)) ∨ (¬ p0 < 0 ∧ 0 ≤ p0 ∧ r = (-1))) (fun (u : Unit) t => Wd dC dI [] (va_A [(aX, .inr (14, fsX))] sz) [(aX, .inr (14, fsX))] t) (va_A [(aX, .inr (14, fsX))] sz)) 0 0 (va_A [(aX, .inr (14, fsX))] sz) := by
  refine Met.ofW (cc := cX11_grown) (maxL := 2) (ret := (some .int)) (by decide) rfl ?_
  intro p e s m args below meth c s₁ B hml hv
  obtain ⟨rfl, hsz, hP, hK, hD0⟩ := hv
  have hx := B.exec
  have hb := B.bytes
  have hr := B.returns
  have hts := atoms_spec (ws := w_x_grown) B.pre
  have hown : s.vm.findClass RX11 = some m.cls := findClass_of_methodNamed B.named
  have hlocks := B.notSynchronized
  subst hsz
  have hD := hD0.self (sz := s.heap.size)
  generalize hAe : va_A [(aX, .inr (14, fsX))] s.heap.size = A at hD ⊢
  have hA : ∀ q : Nat, s.heap.size ≤ q → A q := fun q h => by rw [← hAe]; exact Or.inr h
  have hS : va_S A s.heap s.heap [] := va_S.rf
  have hl := lv_entry ([.ref aX, .int p0]) (n := 2) (Nat.le_of_ble_eq_true rfl)
  rw [lg_entry_eq]
  generalize (lg_sl ([.ref aX, .int p0]) ++ List.replicate (2 - (lg_sl ([.ref aX, .int p0])).length) Slot.unset).toArray = ls at hl ⊢
  have hl : lv_has ls 2 [(0, .ref aX), (1, .int p0)] := hl
  have o_fsX := ow_0 k_fsX
  refine lv_iload_n hx hb dX11_grown_0 rfl (lv_at hl 1 rfl) ?_
  refine lv_if_lt (tgt := 21) hx hb dX11_grown_1 (by decide) (fun c256 => ?_) (fun c256 => ?_)
  · skip
    refine lv_iconst (v := (-1)) hx hb dX11_grown_21 (by decide) ?_
    have hP9 := hP.sub (ws' := [(aX, .inr (14, fsX))]) [0] rfl
    have hD9 := hD.sub (ws' := [(aX, .inr (14, fsX))]) [0] (by decide) rfl
    have hK9 := hK
    exact W.iret (v := (-1)) hx hb hr (fun t ht hW => ⟨⟨(-1), (), rfl, (Or.inl ⟨c256, rfl⟩), by rw [ht]; exact hP9, va_K.moved hW.alike hK9, hD9⟩, hS.F ht⟩) hS.2.2 dX11_grown_22
  · skip
    refine lv_iload_n hx hb dX11_grown_4 rfl (lv_at hl 1 rfl) ?_
    refine lv_aload_n hx hb dX11_grown_5 rfl (lv_at hl 0 rfl) ?_
    refine va_get (D := (dC, dI)) (ci := 14) (v := .int 0) (C := RX11) (T := TX11) (N := 18) hx hb hts (in_x_grown_X11) hown hK hP 0 rfl rfl 15 (by decide) (hts (.fieldLink RX11 454 "HeapWorks" "grownCount" "I") (by decide +kernel)) (fun _ h9 => h9) (ow_at o_fsX 0 rfl) dX11_grown_6 ?_
    refine lv_icmp_ge (tgt := 21) hx hb dX11_grown_9 (by decide) (fun c257 => ?_) (fun c257 => (by exfalso; simp only [i_lt, i_le, i_eq, kc_0] at c256 c257; omega))
    refine lv_iconst (v := (-1)) hx hb dX11_grown_21 (by decide) ?_
    have hP9 := hP.sub (ws' := [(aX, .inr (14, fsX))]) [0] rfl
    have hD9 := hD.sub (ws' := [(aX, .inr (14, fsX))]) [0] (by decide) rfl
    have hK9 := hK
    exact W.iret (v := (-1)) hx hb hr (fun t ht hW => ⟨⟨(-1), (), rfl, (Or.inr (⟨c256, c257, rfl⟩)), by rw [ht]; exact hP9, va_K.moved hW.alike hK9, hD9⟩, hS.F ht⟩) hS.2.2 dX11_grown_22

def w_x_facts : List Cond := .code yX11_facts cX11_facts 2 (some .int) :: ([.fieldLink RX11 77 "HeapWorks" "ruleText" "LHeapWorks$RuleText;", .fieldLink RX11 490 "HeapWorks$RuleText" "relations" "I"] ++ wsX110 ++ wsX70)
theorem in_x_facts_X11 : ∀ w ∈ wsX110, w ∈ w_x_facts := by decide +kernel
theorem in_x_facts_X7 : ∀ w ∈ wsX70, w ∈ w_x_facts := by decide +kernel
set_option maxHeartbeats 4000000 in
set_option maxRecDepth 100000 in
theorem x_facts (l : Launch) (dC : Nat → ClassId) (dI : Nat → Nat → Nat) (sz : Nat) (aX : Nat) (fsX : List Value) (aR : Nat) (fsR : List Value) (p0 : Int32) (k_fsX : fh fsX 18 [(11, .ref aR)]) (k_fsR : fh fsR 21 [(16, .int 0)])  : Met l yX11_facts w_x_facts ({ frames := 0, cells := 0, slots := 0, locals := 0 }) (va_Pc [.ref aX, .int p0] (fun U => U.heap.size = sz ∧ Wd dC dI [] (fun _ => True) [(aX, .inr (14, fsX)), (aR, .inr (10, fsR))] U)) (va_Qi (fun (r : Int32) (u : Unit) => (p0 < 0 ∧ r = (-1)) ∨ (¬ p0 < 0 ∧ 0 ≤ p0 ∧ r = (-1))) (fun (u : Unit) t => Wd dC dI [] (va_A [(aX, .inr (14, fsX)), (aR, .inr (10, fsR))] sz) [(aX, .inr (14, fsX)), (aR, .inr (10, fsR))] t) (va_A [(aX, .inr (14, fsX)), (aR, .inr (10, fsR))] sz)) 0 0 (va_A [(aX, .inr (14, fsX)), (aR, .inr (10, fsR))] sz) := by
  refine Met.ofW (cc := cX11_facts) (maxL := 2) (ret := (some .int)) (by decide) rfl ?_
  intro p e s m args below meth c s₁ B hml hv
  obtain ⟨rfl, hsz, hP, hK, hD0⟩ := hv
  have hx := B.exec
  have hb := B.bytes
  have hr := B.returns
  have hts := atoms_spec (ws := w_x_facts) B.pre
  have hown : s.vm.findClass RX11 = some m.cls := findClass_of_methodNamed B.named
  have hlocks := B.notSynchronized
  subst hsz
  have hD := hD0.self (sz := s.heap.size)
  generalize hAe : va_A [(aX, .inr (14, fsX)), (aR, .inr (10, fsR))] s.heap.size = A at hD ⊢
  have hA : ∀ q : Nat, s.heap.size ≤ q → A q := fun q h => by rw [← hAe]; exact Or.inr h
  have hS : va_S A s.heap s.heap [] := va_S.rf
  have hl := lv_entry ([.ref aX, .int p0]) (n := 2) (Nat.le_of_ble_eq_true rfl)
  rw [lg_entry_eq]
  generalize (lg_sl ([.ref aX, .int p0]) ++ List.replicate (2 - (lg_sl ([.ref aX, .int p0])).length) Slot.unset).toArray = ls at hl ⊢
  have hl : lv_has ls 2 [(0, .ref aX), (1, .int p0)] := hl
  have o_fsX := ow_0 k_fsX
  have o_fsR := ow_0 k_fsR
  refine lv_iload_n hx hb dX11_facts_0 rfl (lv_at hl 1 rfl) ?_
  refine lv_if_lt (tgt := 26) hx hb dX11_facts_1 (by decide) (fun c260 => ?_) (fun c260 => ?_)
  · skip
    refine lv_iconst (v := (-1)) hx hb dX11_facts_26 (by decide) ?_
    have hP9 := hP.sub (ws' := [(aX, .inr (14, fsX)), (aR, .inr (10, fsR))]) [0, 1] rfl
    have hD9 := hD.sub (ws' := [(aX, .inr (14, fsX)), (aR, .inr (10, fsR))]) [0, 1] (by decide) rfl
    have hK9 := hK
    exact W.iret (v := (-1)) hx hb hr (fun t ht hW => ⟨⟨(-1), (), rfl, (Or.inl ⟨c260, rfl⟩), by rw [ht]; exact hP9, va_K.moved hW.alike hK9, hD9⟩, hS.F ht⟩) hS.2.2 dX11_facts_27
  · skip
    refine lv_iload_n hx hb dX11_facts_4 rfl (lv_at hl 1 rfl) ?_
    refine lv_aload_n hx hb dX11_facts_5 rfl (lv_at hl 0 rfl) ?_
    refine va_get (D := (dC, dI)) (ci := 14) (v := .ref aR) (C := RX11) (T := TX11) (N := 18) hx hb hts (in_x_facts_X11) hown hK hP 0 rfl rfl 11 (by decide) (hts (.fieldLink RX11 77 "HeapWorks" "ruleText" "LHeapWorks$RuleText;") (by decide +kernel)) (fun _ h9 => h9) (ow_at o_fsX 0 rfl) dX11_facts_6 ?_
    refine va_get (D := (dC, dI)) (ci := 10) (v := .int 0) (C := RX7) (T := TX7) (N := 21) hx hb hts (in_x_facts_X7) hown hK hP 1 rfl rfl 16 (by decide) (hts (.fieldLink RX11 490 "HeapWorks$RuleText" "relations" "I") (by decide +kernel)) (fun _ h9 => h9) (ow_at o_fsR 0 rfl) dX11_facts_9 ?_
    refine lv_icmp_ge (tgt := 26) hx hb dX11_facts_12 (by decide) (fun c261 => ?_) (fun c261 => (by exfalso; simp only [i_lt, i_le, i_eq, kc_0] at c260 c261; omega))
    refine lv_iconst (v := (-1)) hx hb dX11_facts_26 (by decide) ?_
    have hP9 := hP.sub (ws' := [(aX, .inr (14, fsX)), (aR, .inr (10, fsR))]) [0, 1] rfl
    have hD9 := hD.sub (ws' := [(aX, .inr (14, fsX)), (aR, .inr (10, fsR))]) [0, 1] (by decide) rfl
    have hK9 := hK
    exact W.iret (v := (-1)) hx hb hr (fun t ht hW => ⟨⟨(-1), (), rfl, (Or.inr (⟨c260, c261, rfl⟩)), by rw [ht]; exact hP9, va_K.moved hW.alike hK9, hD9⟩, hS.F ht⟩) hS.2.2 dX11_facts_27

def w_x_fault : List Cond := .code yX11_fault cX11_fault 2 (some .int) :: ([.fieldLink RX11 98 "HeapWorks" "faultPlace" "I", .fieldLink RX11 469 "HeapWorks" "faultCode" "I"] ++ wsX110)
theorem in_x_fault_X11 : ∀ w ∈ wsX110, w ∈ w_x_fault := by decide +kernel
set_option maxHeartbeats 4000000 in
set_option maxRecDepth 100000 in
theorem x_fault (l : Launch) (dC : Nat → ClassId) (dI : Nat → Nat → Nat) (sz : Nat) (aX : Nat) (fsX : List Value) (p0 : Int32) (k_fsX : fh fsX 18 [(16, .int 0), (17, .int (-1))])  : Met l yX11_fault w_x_fault ({ frames := 0, cells := 0, slots := 0, locals := 0 }) (va_Pc [.ref aX, .int p0] (fun U => U.heap.size = sz ∧ Wd dC dI [] (fun _ => True) [(aX, .inr (14, fsX))] U)) (va_Qi (fun (r : Int32) (u : Unit) => (¬ p0 = 0 ∧ ¬ p0 = 1 ∧ r = (-1)) ∨ (¬ p0 = 0 ∧ p0 = 1 ∧ r = (-1)) ∨ (p0 = 0 ∧ r = 0)) (fun (u : Unit) t => Wd dC dI [] (va_A [(aX, .inr (14, fsX))] sz) [(aX, .inr (14, fsX))] t) (va_A [(aX, .inr (14, fsX))] sz)) 0 0 (va_A [(aX, .inr (14, fsX))] sz) := by
  refine Met.ofW (cc := cX11_fault) (maxL := 2) (ret := (some .int)) (by decide) rfl ?_
  intro p e s m args below meth c s₁ B hml hv
  obtain ⟨rfl, hsz, hP, hK, hD0⟩ := hv
  have hx := B.exec
  have hb := B.bytes
  have hr := B.returns
  have hts := atoms_spec (ws := w_x_fault) B.pre
  have hown : s.vm.findClass RX11 = some m.cls := findClass_of_methodNamed B.named
  have hlocks := B.notSynchronized
  subst hsz
  have hD := hD0.self (sz := s.heap.size)
  generalize hAe : va_A [(aX, .inr (14, fsX))] s.heap.size = A at hD ⊢
  have hA : ∀ q : Nat, s.heap.size ≤ q → A q := fun q h => by rw [← hAe]; exact Or.inr h
  have hS : va_S A s.heap s.heap [] := va_S.rf
  have hl := lv_entry ([.ref aX, .int p0]) (n := 2) (Nat.le_of_ble_eq_true rfl)
  rw [lg_entry_eq]
  generalize (lg_sl ([.ref aX, .int p0]) ++ List.replicate (2 - (lg_sl ([.ref aX, .int p0])).length) Slot.unset).toArray = ls at hl ⊢
  have hl : lv_has ls 2 [(0, .ref aX), (1, .int p0)] := hl
  have o_fsX := ow_0 k_fsX
  refine lv_iload_n hx hb dX11_fault_0 rfl (lv_at hl 1 rfl) ?_
  refine lv_if_ne (tgt := 9) hx hb dX11_fault_1 (by decide) (fun c264 => ?_) (fun c264 => ?_)
  · skip
    refine lv_iload_n hx hb dX11_fault_9 rfl (lv_at hl 1 rfl) ?_
    refine lv_iconst (v := 1) hx hb dX11_fault_10 (by decide) ?_
    refine lv_icmp_ne (tgt := 21) hx hb dX11_fault_11 (by decide) (fun c265 => ?_) (fun c265 => ?_)
    · skip
      refine lv_iconst (v := (-1)) hx hb dX11_fault_21 (by decide) ?_
      have hP9 := hP.sub (ws' := [(aX, .inr (14, fsX))]) [0] rfl
      have hD9 := hD.sub (ws' := [(aX, .inr (14, fsX))]) [0] (by decide) rfl
      have hK9 := hK
      exact W.iret (v := (-1)) hx hb hr (fun t ht hW => ⟨⟨(-1), (), rfl, (Or.inl ⟨c264, c265, rfl⟩), by rw [ht]; exact hP9, va_K.moved hW.alike hK9, hD9⟩, hS.F ht⟩) hS.2.2 dX11_fault_22
    · skip
      refine lv_aload_n hx hb dX11_fault_14 rfl (lv_at hl 0 rfl) ?_
      refine va_get (D := (dC, dI)) (ci := 14) (v := .int (-1)) (C := RX11) (T := TX11) (N := 18) hx hb hts (in_x_fault_X11) hown hK hP 0 rfl rfl 17 (by decide) (hts (.fieldLink RX11 98 "HeapWorks" "faultPlace" "I") (by decide +kernel)) (fun _ h9 => h9) (ow_at o_fsX 1 rfl) dX11_fault_15 ?_
      refine lv_goto (tgt := 22) hx hb dX11_fault_18 (by decide) ?_
      have hP9 := hP.sub (ws' := [(aX, .inr (14, fsX))]) [0] rfl
      have hD9 := hD.sub (ws' := [(aX, .inr (14, fsX))]) [0] (by decide) rfl
      have hK9 := hK
      exact W.iret (v := (-1)) hx hb hr (fun t ht hW => ⟨⟨(-1), (), rfl, (Or.inr (Or.inl ⟨c264, c265, rfl⟩)), by rw [ht]; exact hP9, va_K.moved hW.alike hK9, hD9⟩, hS.F ht⟩) hS.2.2 dX11_fault_22
  · skip
    refine lv_aload_n hx hb dX11_fault_4 rfl (lv_at hl 0 rfl) ?_
    refine va_get (D := (dC, dI)) (ci := 14) (v := .int 0) (C := RX11) (T := TX11) (N := 18) hx hb hts (in_x_fault_X11) hown hK hP 0 rfl rfl 16 (by decide) (hts (.fieldLink RX11 469 "HeapWorks" "faultCode" "I") (by decide +kernel)) (fun _ h9 => h9) (ow_at o_fsX 0 rfl) dX11_fault_5 ?_
    have hP9 := hP.sub (ws' := [(aX, .inr (14, fsX))]) [0] rfl
    have hD9 := hD.sub (ws' := [(aX, .inr (14, fsX))]) [0] (by decide) rfl
    have hK9 := hK
    exact W.iret (v := 0) hx hb hr (fun t ht hW => ⟨⟨0, (), rfl, (Or.inr (Or.inr (⟨c264, rfl⟩))), by rw [ht]; exact hP9, va_K.moved hW.alike hK9, hD9⟩, hS.F ht⟩) hS.2.2 dX11_fault_8

def w_x_letter : List Cond := .code yX11_letter cX11_letter 2 (some .int) :: ([.fieldLink RX11 12 "HeapWorks" "tape" "LHeapWorks$Tape;", .fieldLink RX11 110 "HeapWorks$Tape" "size" "I"] ++ wsX110 ++ wsX90)
theorem in_x_letter_X11 : ∀ w ∈ wsX110, w ∈ w_x_letter := by decide +kernel
theorem in_x_letter_X9 : ∀ w ∈ wsX90, w ∈ w_x_letter := by decide +kernel
set_option maxHeartbeats 4000000 in
set_option maxRecDepth 100000 in
theorem x_letter (l : Launch) (dC : Nat → ClassId) (dI : Nat → Nat → Nat) (sz : Nat) (aX : Nat) (fsX : List Value) (aT : Nat) (fsT : List Value) (p0 : Int32) (k_fsX : fh fsX 18 [(0, .ref aT)]) (k_fsT : fh fsT 12 [(1, .int 0)])  : Met l yX11_letter w_x_letter ({ frames := 0, cells := 0, slots := 0, locals := 0 }) (va_Pc [.ref aX, .int p0] (fun U => U.heap.size = sz ∧ Wd dC dI [] (fun _ => True) [(aX, .inr (14, fsX)), (aT, .inr (12, fsT))] U)) (va_Qi (fun (r : Int32) (u : Unit) => (p0 < 0 ∧ r = (-1)) ∨ (¬ p0 < 0 ∧ 0 ≤ p0 ∧ r = (-1))) (fun (u : Unit) t => Wd dC dI [] (va_A [(aX, .inr (14, fsX)), (aT, .inr (12, fsT))] sz) [(aX, .inr (14, fsX)), (aT, .inr (12, fsT))] t) (va_A [(aX, .inr (14, fsX)), (aT, .inr (12, fsT))] sz)) 0 0 (va_A [(aX, .inr (14, fsX)), (aT, .inr (12, fsT))] sz) := by
  refine Met.ofW (cc := cX11_letter) (maxL := 2) (ret := (some .int)) (by decide) rfl ?_
  intro p e s m args below meth c s₁ B hml hv
  obtain ⟨rfl, hsz, hP, hK, hD0⟩ := hv
  have hx := B.exec
  have hb := B.bytes
  have hr := B.returns
  have hts := atoms_spec (ws := w_x_letter) B.pre
  have hown : s.vm.findClass RX11 = some m.cls := findClass_of_methodNamed B.named
  have hlocks := B.notSynchronized
  subst hsz
  have hD := hD0.self (sz := s.heap.size)
  generalize hAe : va_A [(aX, .inr (14, fsX)), (aT, .inr (12, fsT))] s.heap.size = A at hD ⊢
  have hA : ∀ q : Nat, s.heap.size ≤ q → A q := fun q h => by rw [← hAe]; exact Or.inr h
  have hS : va_S A s.heap s.heap [] := va_S.rf
  have hl := lv_entry ([.ref aX, .int p0]) (n := 2) (Nat.le_of_ble_eq_true rfl)
  rw [lg_entry_eq]
  generalize (lg_sl ([.ref aX, .int p0]) ++ List.replicate (2 - (lg_sl ([.ref aX, .int p0])).length) Slot.unset).toArray = ls at hl ⊢
  have hl : lv_has ls 2 [(0, .ref aX), (1, .int p0)] := hl
  have o_fsX := ow_0 k_fsX
  have o_fsT := ow_0 k_fsT
  refine lv_iload_n hx hb dX11_letter_0 rfl (lv_at hl 1 rfl) ?_
  refine lv_if_lt (tgt := 27) hx hb dX11_letter_1 (by decide) (fun c268 => ?_) (fun c268 => ?_)
  · skip
    refine lv_iconst (v := (-1)) hx hb dX11_letter_27 (by decide) ?_
    have hP9 := hP.sub (ws' := [(aX, .inr (14, fsX)), (aT, .inr (12, fsT))]) [0, 1] rfl
    have hD9 := hD.sub (ws' := [(aX, .inr (14, fsX)), (aT, .inr (12, fsT))]) [0, 1] (by decide) rfl
    have hK9 := hK
    exact W.iret (v := (-1)) hx hb hr (fun t ht hW => ⟨⟨(-1), (), rfl, (Or.inl ⟨c268, rfl⟩), by rw [ht]; exact hP9, va_K.moved hW.alike hK9, hD9⟩, hS.F ht⟩) hS.2.2 dX11_letter_28
  · skip
    refine lv_iload_n hx hb dX11_letter_4 rfl (lv_at hl 1 rfl) ?_
    refine lv_aload_n hx hb dX11_letter_5 rfl (lv_at hl 0 rfl) ?_
    refine va_get (D := (dC, dI)) (ci := 14) (v := .ref aT) (C := RX11) (T := TX11) (N := 18) hx hb hts (in_x_letter_X11) hown hK hP 0 rfl rfl 0 (by decide) (hts (.fieldLink RX11 12 "HeapWorks" "tape" "LHeapWorks$Tape;") (by decide +kernel)) (fun _ h9 => h9) (ow_at o_fsX 0 rfl) dX11_letter_6 ?_
    refine va_get (D := (dC, dI)) (ci := 12) (v := .int 0) (C := RX9) (T := TX9) (N := 12) hx hb hts (in_x_letter_X9) hown hK hP 1 rfl rfl 1 (by decide) (hts (.fieldLink RX11 110 "HeapWorks$Tape" "size" "I") (by decide +kernel)) (fun _ h9 => h9) (ow_at o_fsT 0 rfl) dX11_letter_9 ?_
    refine lv_icmp_ge (tgt := 27) hx hb dX11_letter_12 (by decide) (fun c269 => ?_) (fun c269 => (by exfalso; simp only [i_lt, i_le, i_eq, kc_0] at c268 c269; omega))
    refine lv_iconst (v := (-1)) hx hb dX11_letter_27 (by decide) ?_
    have hP9 := hP.sub (ws' := [(aX, .inr (14, fsX)), (aT, .inr (12, fsT))]) [0, 1] rfl
    have hD9 := hD.sub (ws' := [(aX, .inr (14, fsX)), (aT, .inr (12, fsT))]) [0, 1] (by decide) rfl
    have hK9 := hK
    exact W.iret (v := (-1)) hx hb hr (fun t ht hW => ⟨⟨(-1), (), rfl, (Or.inr (⟨c268, c269, rfl⟩)), by rw [ht]; exact hP9, va_K.moved hW.alike hK9, hD9⟩, hS.F ht⟩) hS.2.2 dX11_letter_28

def w_x_thing : List Cond := .code yX11_thing cX11_thing 5 (some .int) :: ([.methodLink RX11 359 yX11_isThing, .instanceMethod yX11_isThing, .selects RX11 yX11_isThing yX11_isThing, .initialized RX11] ++ w_z_X11_isThing)
theorem g_x_thing_z_X11_isThing_359 : GoodIn w_x_thing (wsV RX11 359 RX11 yX11_isThing w_z_X11_isThing) := goodIn_sub (by decide +kernel) (by decide +kernel)
set_option maxHeartbeats 4000000 in
set_option maxRecDepth 100000 in
theorem x_thing (l : Launch) (dC : Nat → ClassId) (dI : Nat → Nat → Nat) (sz : Nat) (aX : Nat) (fsX : List Value) (qP : Nat) (gP : Nat → Option Nat) (kP : ClassId) (ap : Nat) (fsp : List Value) (p0 : Int32) (p1 : Int32) (p2 : Int32) (k_fsX : fh fsX 18 [(4, .ref qP)]) (k_fsp : fh fsp 21 [(0, .int 0)]) (hg : gP p0.toNatClampNeg = some ap) : Met l yX11_thing w_x_thing ({ frames := 2, cells := 0, slots := 0, locals := 42 }) (va_Pc [.ref aX, .int p0, .int p1, .int p2] (fun U => U.heap.size = sz ∧ Wd dC dI [(kP, .object "HeapWorks$Picture")] (fun _ => True) [(aX, .inr (14, fsX)), (qP, .inl (kP, 4, .inr (.inr (.inr (.inr gP))))), (ap, .inr (8, fsp))] U)) (va_Qi (fun (r : Int32) (u : Unit) => (p0 < 0 ∧ r = (-1)) ∨ (¬ p0 < 0 ∧ 4 ≤ p0 ∧ r = (-1)) ∨ (¬ p0 < 0 ∧ ¬ 4 ≤ p0 ∧ p1 < 0 ∧ r = (-1)) ∨ (¬ p0 < 0 ∧ ¬ 4 ≤ p0 ∧ ¬ p1 < 0 ∧ 0 ≤ p1 ∧ r = (-1))) (fun (u : Unit) t => Wd dC dI [(kP, .object "HeapWorks$Picture")] (va_A [(aX, .inr (14, fsX)), (qP, .inl (kP, 4, .inr (.inr (.inr (.inr gP))))), (ap, .inr (8, fsp))] sz) [(aX, .inr (14, fsX)), (qP, .inl (kP, 4, .inr (.inr (.inr (.inr gP))))), (ap, .inr (8, fsp))] t) (va_A [(aX, .inr (14, fsX)), (qP, .inl (kP, 4, .inr (.inr (.inr (.inr gP))))), (ap, .inr (8, fsp))] sz)) 0 0 (va_A [(aX, .inr (14, fsX)), (qP, .inl (kP, 4, .inr (.inr (.inr (.inr gP))))), (ap, .inr (8, fsp))] sz) := by
  refine Met.ofW (cc := cX11_thing) (maxL := 5) (ret := (some .int)) (by decide) rfl ?_
  intro p e s m args below meth c s₁ B hml hv
  obtain ⟨rfl, hsz, hP, hK, hD0⟩ := hv
  have hx := B.exec
  have hb := B.bytes
  have hr := B.returns
  have hts := atoms_spec (ws := w_x_thing) B.pre
  have hown : s.vm.findClass RX11 = some m.cls := findClass_of_methodNamed B.named
  have hlocks := B.notSynchronized
  subst hsz
  have hD := hD0.self (sz := s.heap.size)
  generalize hAe : va_A [(aX, .inr (14, fsX)), (qP, .inl (kP, 4, .inr (.inr (.inr (.inr gP))))), (ap, .inr (8, fsp))] s.heap.size = A at hD ⊢
  have hA : ∀ q : Nat, s.heap.size ≤ q → A q := fun q h => by rw [← hAe]; exact Or.inr h
  have hS : va_S A s.heap s.heap [] := va_S.rf
  have hl := lv_entry ([.ref aX, .int p0, .int p1, .int p2]) (n := 5) (Nat.le_of_ble_eq_true rfl)
  rw [lg_entry_eq]
  generalize (lg_sl ([.ref aX, .int p0, .int p1, .int p2]) ++ List.replicate (5 - (lg_sl ([.ref aX, .int p0, .int p1, .int p2])).length) Slot.unset).toArray = ls at hl ⊢
  have hl : lv_has ls 5 [(0, .ref aX), (1, .int p0), (2, .int p1), (3, .int p2)] := hl
  have o_fsX := ow_0 k_fsX
  have o_fsp := ow_0 k_fsp
  refine lv_aload_n hx hb dX11_thing_0 rfl (lv_at hl 0 rfl) ?_
  refine lv_iload_n hx hb dX11_thing_1 rfl (lv_at hl 1 rfl) ?_
  refine lv_iload_n hx hb dX11_thing_2 rfl (lv_at hl 2 rfl) ?_
  have hPc := hP.sub (ws' := [(aX, .inr (14, fsX)), (qP, .inl (kP, 4, .inr (.inr (.inr (.inr gP))))), (ap, .inr (8, fsp))]) [0, 1, 2] rfl
  have hDc := hD.sub (ws' := [(aX, .inr (14, fsX)), (qP, .inl (kP, 4, .inr (.inr (.inr (.inr gP))))), (ap, .inr (8, fsp))]) [0, 1, 2] (by decide) rfl
  have hKc := hK.sub (tys' := [(kP, .object "HeapWorks$Picture")]) [0] rfl
  have hFc := va_free (wc := [(aX, .inr (14, fsX)), (qP, .inl (kP, 4, .inr (.inr (.inr (.inr gP))))), (ap, .inr (8, fsp))]) hD hS hA [0, 1, 2] rfl
  refine va_calli (va_runV (As := [.int p0, .int p1]) (rest := []) ⟨hx, hb, hml, hown, hts⟩ (z_X11_isThing l dC dI s.heap.size aX fsX qP gP kP ap fsp p0 p1 (fh_sub o_fsX.2 [0] rfl) (fh_sub o_fsp.2 [0] rfl) hg) (cwV 2 hts g_x_thing_z_X11_isThing_359 rfl rfl rfl (by decide +kernel) ⟨Nat.le_of_ble_eq_true rfl, Nat.le_of_ble_eq_true rfl⟩) ⟨fun a U g mk q => by obtain ⟨q0, q1, qP, qK, qD⟩ := q; exact ⟨q0, q1, qP, va_K.moved (u := U) (U := U.calling g mk a) (Vm.Alike.refl U.vm) qK, qD⟩, va_recv hK hP (ci := 14) (q0 := 0) rfl rfl, fun U hU hW => ⟨rfl, by rw [hU], by rw [hU]; exact hPc, va_K.moved hW.alike hKc, hDc.weaken (fun _ _ _ _ => trivial)⟩⟩ rfl rfl hl.1 rfl (lv_room (Nat.le_of_ble_eq_true rfl)) dX11_thing_3 ⟨Nat.le_of_ble_eq_true rfl, Nat.le_of_ble_eq_true rfl⟩) hS (fun q _ h => hFc q h) hFc (fun r321 u t H1 locs ht hvm hw hB hz1 hk1 hS => ?_)
  obtain ⟨hP1, hK1, hD1⟩ := hB
  rw [ht] at hP1
  try dsimp only at hw
  obtain ⟨hP, hD⟩ := va_join (wr := []) (w1 := [(aX, .inr (14, fsX)), (qP, .inl (kP, 4, .inr (.inr (.inr (.inr gP))))), (ap, .inr (8, fsp))]) hP hD [0, 1, 2] [] rfl rfl (by decide) (by decide) hk1 hFc hP1 hD1
  have hK := hK.sub (tys' := [(kP, .object "HeapWorks$Picture")]) [0] rfl
  generalize H1 = H at hP hS ⊢
  have hP : va_P (dC, dI) vwCl [(aX, .inr (14, fsX)), (qP, .inl (kP, 4, .inr (.inr (.inr (.inr gP))))), (ap, .inr (8, fsp))] H := hP
  have hD : va_D A [(aX, .inr (14, fsX)), (qP, .inl (kP, 4, .inr (.inr (.inr (.inr gP))))), (ap, .inr (8, fsp))] := hD
  rcases hw with ⟨c322, er323⟩ | ⟨c324, c325, er326⟩ | ⟨c327, c328, c329, er330⟩ | ⟨c331, c332, c333, c334, er335⟩
  · skip
    subst er323
    refine lv_if_ne (tgt := 11) hx hb dX11_thing_6 (by decide) (fun c336 => absurd c336 (by decide)) (fun c336 => ?_)
    refine lv_iconst (v := (-1)) hx hb dX11_thing_9 (by decide) ?_
    have hP9 := hP.sub (ws' := [(aX, .inr (14, fsX)), (qP, .inl (kP, 4, .inr (.inr (.inr (.inr gP))))), (ap, .inr (8, fsp))]) [0, 1, 2] rfl
    have hD9 := hD.sub (ws' := [(aX, .inr (14, fsX)), (qP, .inl (kP, 4, .inr (.inr (.inr (.inr gP))))), (ap, .inr (8, fsp))]) [0, 1, 2] (by decide) rfl
    have hK9 := hK
    exact W.iret (v := (-1)) hx hb hr (fun t ht hW => ⟨⟨(-1), (), rfl, (Or.inl ⟨c322, rfl⟩), by rw [ht]; exact hP9, va_K.moved hW.alike hK9, hD9⟩, hS.F ht⟩) hS.2.2 dX11_thing_10
  · skip
    subst er326
    refine lv_if_ne (tgt := 11) hx hb dX11_thing_6 (by decide) (fun c337 => absurd c337 (by decide)) (fun c337 => ?_)
    refine lv_iconst (v := (-1)) hx hb dX11_thing_9 (by decide) ?_
    have hP9 := hP.sub (ws' := [(aX, .inr (14, fsX)), (qP, .inl (kP, 4, .inr (.inr (.inr (.inr gP))))), (ap, .inr (8, fsp))]) [0, 1, 2] rfl
    have hD9 := hD.sub (ws' := [(aX, .inr (14, fsX)), (qP, .inl (kP, 4, .inr (.inr (.inr (.inr gP))))), (ap, .inr (8, fsp))]) [0, 1, 2] (by decide) rfl
    have hK9 := hK
    exact W.iret (v := (-1)) hx hb hr (fun t ht hW => ⟨⟨(-1), (), rfl, (Or.inr (Or.inl ⟨c324, c325, rfl⟩)), by rw [ht]; exact hP9, va_K.moved hW.alike hK9, hD9⟩, hS.F ht⟩) hS.2.2 dX11_thing_10
  · skip
    subst er330
    refine lv_if_ne (tgt := 11) hx hb dX11_thing_6 (by decide) (fun c338 => absurd c338 (by decide)) (fun c338 => ?_)
    refine lv_iconst (v := (-1)) hx hb dX11_thing_9 (by decide) ?_
    have hP9 := hP.sub (ws' := [(aX, .inr (14, fsX)), (qP, .inl (kP, 4, .inr (.inr (.inr (.inr gP))))), (ap, .inr (8, fsp))]) [0, 1, 2] rfl
    have hD9 := hD.sub (ws' := [(aX, .inr (14, fsX)), (qP, .inl (kP, 4, .inr (.inr (.inr (.inr gP))))), (ap, .inr (8, fsp))]) [0, 1, 2] (by decide) rfl
    have hK9 := hK
    exact W.iret (v := (-1)) hx hb hr (fun t ht hW => ⟨⟨(-1), (), rfl, (Or.inr (Or.inr (Or.inl ⟨c327, c328, c329, rfl⟩))), by rw [ht]; exact hP9, va_K.moved hW.alike hK9, hD9⟩, hS.F ht⟩) hS.2.2 dX11_thing_10
  · skip
    subst er335
    refine lv_if_ne (tgt := 11) hx hb dX11_thing_6 (by decide) (fun c339 => absurd c339 (by decide)) (fun c339 => ?_)
    refine lv_iconst (v := (-1)) hx hb dX11_thing_9 (by decide) ?_
    have hP9 := hP.sub (ws' := [(aX, .inr (14, fsX)), (qP, .inl (kP, 4, .inr (.inr (.inr (.inr gP))))), (ap, .inr (8, fsp))]) [0, 1, 2] rfl
    have hD9 := hD.sub (ws' := [(aX, .inr (14, fsX)), (qP, .inl (kP, 4, .inr (.inr (.inr (.inr gP))))), (ap, .inr (8, fsp))]) [0, 1, 2] (by decide) rfl
    have hK9 := hK
    exact W.iret (v := (-1)) hx hb hr (fun t ht hW => ⟨⟨(-1), (), rfl, (Or.inr (Or.inr (Or.inr (⟨c331, c332, c333, c334, rfl⟩)))), by rw [ht]; exact hP9, va_K.moved hW.alike hK9, hD9⟩, hS.F ht⟩) hS.2.2 dX11_thing_10
