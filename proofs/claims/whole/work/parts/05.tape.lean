theorem in_c_letter_X11 : ∀ w ∈ wsX110, w ∈ wsX11_letter := by decide +kernel
theorem in_c_letter_X9 : ∀ w ∈ wsX90, w ∈ wsX11_letter := by decide +kernel
set_option maxHeartbeats 4000000 in
set_option maxRecDepth 100000 in
/-- letter(i): byte i of the tape, else -1 -/
theorem c_letter (l : Launch) (dC : Nat → ClassId) (dI : Nat → Nat → Nat) (cy : Nat → ClassId) (sz : Nat) (h0 : Nat) (h1 : Nat) (q2 : Nat) (fsH : List Value) (fsT : List Value) (f2 : Nat → Int32) (n : Nat) (p0 : Int32) (k_fsH : fh fsH 18 [(0, .ref h1)]) (k_fsT : fh fsT 12 [(1, .int (nI n)), (0, .ref q2)]) (hn : n ≤ 4000) : Met l yX11_letter wsX11_letter ({ frames := 0, cells := 0, slots := 0, locals := 0 }) (va_Pc [.ref h0, .int p0] (fun U => U.heap.size = sz ∧ Wc dC dI cy (fun _ => True) [(h0, .inr (14, fsH)), (h1, .inr (12, fsT)), (q2, .inl (cy 1, 4000, .inl f2))] U)) (va_Qi (fun (r : Int32) (u : Unit) => ((¬ p0 < 0 ∧ p0 < nI n → r = f2 p0.toNatClampNeg) ∧ ((p0 < 0 ∨ ¬ p0 < nI n) → r = -1))) (fun (u : Unit) t => Wc dC dI cy (va_A [(h0, .inr (14, fsH)), (h1, .inr (12, fsT)), (q2, .inl (cy 1, 4000, .inl f2))] sz) [(h0, .inr (14, fsH)), (h1, .inr (12, fsT)), (q2, .inl (cy 1, 4000, .inl f2))] t) (va_A [(h0, .inr (14, fsH)), (h1, .inr (12, fsT)), (q2, .inl (cy 1, 4000, .inl f2))] sz)) 0 0 (va_A [(h0, .inr (14, fsH)), (h1, .inr (12, fsT)), (q2, .inl (cy 1, 4000, .inl f2))] sz) := by
  refine Met.ofW (cc := cX11_letter) (maxL := 2) (ret := (some .int)) (by decide) rfl ?_
  intro p e s m args below meth c s₁ B hml hv
  obtain ⟨rfl, hsz, hP, hK, hD0⟩ := hv
  have hx := B.exec
  have hb := B.bytes
  have hr := B.returns
  have hts := atoms_spec (ws := wsX11_letter) B.pre
  have hown : s.vm.findClass RX11 = some m.cls := findClass_of_methodNamed B.named
  have hlocks := B.notSynchronized
  subst hsz
  have hD := hD0.self (sz := s.heap.size)
  generalize hAe : va_A [(h0, .inr (14, fsH)), (h1, .inr (12, fsT)), (q2, .inl (cy 1, 4000, .inl f2))] s.heap.size = A at hD ⊢
  have hA : ∀ q : Nat, s.heap.size ≤ q → A q := fun q h => by rw [← hAe]; exact Or.inr h
  have hS : va_S A s.heap s.heap [] := va_S.rf
  have hl := lv_entry ([.ref h0, .int p0]) (n := 2) (Nat.le_of_ble_eq_true rfl)
  rw [lg_entry_eq]
  generalize (lg_sl ([.ref h0, .int p0]) ++ List.replicate (2 - (lg_sl ([.ref h0, .int p0])).length) Slot.unset).toArray = ls at hl ⊢
  have hl : lv_has ls 2 [(0, .ref h0), (1, .int p0)] := hl
  have o_fsH := ow_0 k_fsH
  have o_fsT := ow_0 k_fsT
  refine lv_iload_n hx hb dX11_letter_0 rfl (lv_at hl 1 rfl) ?_
  refine lv_if_lt (tgt := 27) hx hb dX11_letter_1 (by decide) (fun c1 => ?_) (fun c1 => ?_)
  · skip
    refine lv_iconst (v := (-1)) hx hb dX11_letter_27 (by decide) ?_
    have hP9 := hP
    have hD9 := hD
    exact W.iret (v := (-1)) hx hb hr (fun t ht hW => ⟨⟨(-1), (), rfl, ⟨fun ⟨g1, g2⟩ => (by exfalso; simp only [i_lt, i_le] at g1 g2 c1; omega), fun _ => rfl⟩, by rw [ht]; exact hP9, va_K.moved hW.alike hK, hD9⟩, hS.F ht⟩) hS.2.2 dX11_letter_28
  · skip
    refine lv_iload_n hx hb dX11_letter_4 rfl (lv_at hl 1 rfl) ?_
    refine lv_aload_n hx hb dX11_letter_5 rfl (lv_at hl 0 rfl) ?_
    refine va_get (D := (dC, dI)) (ci := 14) (v := .ref h1) (C := RX11) (T := TX11) (N := 18) hx hb hts (in_c_letter_X11) hown hK hP 0 rfl rfl 0 (by decide) (hts (.fieldLink RX11 12 "HeapWorks" "tape" "LHeapWorks$Tape;") (by decide +kernel)) (fun _ h9 => h9) (ow_at o_fsH 0 rfl) dX11_letter_6 ?_
    refine va_get (D := (dC, dI)) (ci := 12) (v := .int (nI n)) (C := RX9) (T := TX9) (N := 12) hx hb hts (in_c_letter_X9) hown hK hP 1 rfl rfl 1 (by decide) (hts (.fieldLink RX11 110 "HeapWorks$Tape" "size" "I") (by decide +kernel)) (fun _ h9 => h9) (ow_at o_fsT 0 rfl) dX11_letter_9 ?_
    refine lv_icmp_ge (tgt := 27) hx hb dX11_letter_12 (by decide) (fun c2 => ?_) (fun c2 => ?_)
    · skip
      refine lv_iconst (v := (-1)) hx hb dX11_letter_27 (by decide) ?_
      have hP9 := hP
      have hD9 := hD
      exact W.iret (v := (-1)) hx hb hr (fun t ht hW => ⟨⟨(-1), (), rfl, ⟨fun ⟨g1, g2⟩ => (by exfalso; simp only [i_lt, i_le] at g1 g2 c1 c2; omega), fun _ => rfl⟩, by rw [ht]; exact hP9, va_K.moved hW.alike hK, hD9⟩, hS.F ht⟩) hS.2.2 dX11_letter_28
    · skip
      refine lv_aload_n hx hb dX11_letter_15 rfl (lv_at hl 0 rfl) ?_
      refine va_get (D := (dC, dI)) (ci := 14) (v := .ref h1) (C := RX11) (T := TX11) (N := 18) hx hb hts (in_c_letter_X11) hown hK hP 0 rfl rfl 0 (by decide) (hts (.fieldLink RX11 12 "HeapWorks" "tape" "LHeapWorks$Tape;") (by decide +kernel)) (fun _ h9 => h9) (ow_at o_fsH 0 rfl) dX11_letter_16 ?_
      refine va_get (D := (dC, dI)) (ci := 12) (v := .ref q2) (C := RX9) (T := TX9) (N := 12) hx hb hts (in_c_letter_X9) hown hK hP 1 rfl rfl 0 (by decide) (hts (.fieldLink RX11 113 "HeapWorks$Tape" "bytes" "[I") (by decide +kernel)) (fun _ h9 => h9) (ow_at o_fsT 1 rfl) dX11_letter_19 ?_
      refine lv_iload_n hx hb dX11_letter_22 rfl (lv_at hl 1 rfl) ?_
      refine va_iald hx hb hK hP 2 1 rfl rfl (in_of c1 (by have q := c2; simp only [i_lt, i_le] at q ⊢; omega) hn (by decide)) dX11_letter_23 ?_
      refine lv_topi (fun x3 ex3 => ?_)
      refine lv_goto (tgt := 28) hx hb dX11_letter_24 (by decide) ?_
      have hP9 := hP
      have hD9 := hD
      exact W.iret (v := x3) hx hb hr (fun t ht hW => ⟨⟨x3, (), rfl, ⟨fun _ => (by subst_vars; rfl), fun h => (by exfalso; simp only [i_lt, i_le] at h c1 c2; omega)⟩, by rw [ht]; exact hP9, va_K.moved hW.alike hK, hD9⟩, hS.F ht⟩) hS.2.2 dX11_letter_28

theorem in_c_wipe_X11 : ∀ w ∈ wsX110, w ∈ wsX11_wipe := by decide +kernel
theorem in_c_wipe_X9 : ∀ w ∈ wsX90, w ∈ wsX11_wipe := by decide +kernel
set_option maxHeartbeats 4000000 in
set_option maxRecDepth 100000 in
/-- wipe(): the tape has no bytes -/
theorem c_wipe (l : Launch) (dC : Nat → ClassId) (dI : Nat → Nat → Nat) (cy : Nat → ClassId) (sz : Nat) (h0 : Nat) (h1 : Nat) (fsH : List Value) (fsT : List Value) (n : Nat) (k_fsH : fh fsH 18 [(0, .ref h1)]) (k_fsT : fh fsT 12 [(1, .int (nI n))])  : Met l yX11_wipe wsX11_wipe ({ frames := 0, cells := 0, slots := 0, locals := 0 }) (va_Pc [.ref h0] (fun U => U.heap.size = sz ∧ Wc dC dI cy (fun _ => True) [(h0, .inr (14, fsH)), (h1, .inr (12, fsT))] U)) (va_Qv (fun (u : List Value) => ow fsT u 12 [1] [(1, .int 0)]) (fun (u : List Value) t => Wc dC dI cy (va_A [(h0, .inr (14, fsH)), (h1, .inr (12, fsT))] sz) [(h0, .inr (14, fsH)), (h1, .inr (12, (u)))] t) (va_A [(h0, .inr (14, fsH)), (h1, .inr (12, fsT))] sz)) 0 0 (va_A [(h0, .inr (14, fsH)), (h1, .inr (12, fsT))] sz) := by
  refine Met.ofW (cc := cX11_wipe) (maxL := 1) (ret := none) (by decide) rfl ?_
  intro p e s m args below meth c s₁ B hml hv
  obtain ⟨rfl, hsz, hP, hK, hD0⟩ := hv
  have hx := B.exec
  have hb := B.bytes
  have hr := B.returns
  have hts := atoms_spec (ws := wsX11_wipe) B.pre
  have hown : s.vm.findClass RX11 = some m.cls := findClass_of_methodNamed B.named
  have hlocks := B.notSynchronized
  subst hsz
  have hD := hD0.self (sz := s.heap.size)
  generalize hAe : va_A [(h0, .inr (14, fsH)), (h1, .inr (12, fsT))] s.heap.size = A at hD ⊢
  have hA : ∀ q : Nat, s.heap.size ≤ q → A q := fun q h => by rw [← hAe]; exact Or.inr h
  have hS : va_S A s.heap s.heap [] := va_S.rf
  have hl := lv_entry ([.ref h0]) (n := 1) (Nat.le_of_ble_eq_true rfl)
  rw [lg_entry_eq]
  generalize (lg_sl ([.ref h0]) ++ List.replicate (1 - (lg_sl ([.ref h0])).length) Slot.unset).toArray = ls at hl ⊢
  have hl : lv_has ls 1 [(0, .ref h0)] := hl
  have o_fsH := ow_0 k_fsH
  have o_fsT := ow_0 k_fsT
  refine lv_aload_n hx hb dX11_wipe_0 rfl (lv_at hl 0 rfl) ?_
  refine va_get (D := (dC, dI)) (ci := 14) (v := .ref h1) (C := RX11) (T := TX11) (N := 18) hx hb hts (in_c_wipe_X11) hown hK hP 0 rfl rfl 0 (by decide) (hts (.fieldLink RX11 12 "HeapWorks" "tape" "LHeapWorks$Tape;") (by decide +kernel)) (fun _ h9 => h9) (ow_at o_fsH 0 rfl) dX11_wipe_1 ?_
  refine lv_iconst (v := 0) hx hb dX11_wipe_4 (by decide) ?_
  refine va_put (D := (dC, dI)) (ci := 12) (v := .int 0) (ty := .int) (C := RX9) (T := TX9) (N := 12) hx hb hts (in_c_wipe_X9) tyX9 tyX9_ok nmX9 hown hK hP hD hS 1 rfl rfl 1 (by decide) (hts (.fieldLink RX11 110 "HeapWorks$Tape" "size" "I") (by decide +kernel)) (fun _ h9 => h9) rfl (by decide +kernel) rfl rfl (by rw [o_fsT.2.1]; decide) dX11_wipe_5 (fun H locs hP hD hS => ?_)
  have hP : va_P (dC, dI) vwCl [(h0, .inr (14, fsH)), (h1, .inr (12, (fsT.set 1 (.int 0))))] H := hP
  have hD : va_D A [(h0, .inr (14, fsH)), (h1, .inr (12, (fsT.set 1 (.int 0))))] := hD
  have o_fsT_1 := ow_set o_fsT 1 (.int 0) (by decide) (l' := [(1, .int 0)]) (w' := [1]) rfl rfl
  generalize (fsT.set 1 (.int 0)) = fsT_1 at hP hD o_fsT_1
  have hP9 := hP
  have hD9 := hD
  exact W.vret hx hb hr (fun t ht hW => ⟨⟨fsT_1, rfl, o_fsT_1, by rw [ht]; exact hP9, va_K.moved hW.alike hK, hD9⟩, hS.F ht⟩) hS.2.2 dX11_wipe_8

theorem in_c_cut_X11 : ∀ w ∈ wsX110, w ∈ wsX11_cut := by decide +kernel
theorem in_c_cut_X9 : ∀ w ∈ wsX90, w ∈ wsX11_cut := by decide +kernel
set_option maxHeartbeats 4000000 in
set_option maxRecDepth 100000 in
/-- cut(k): the tape has its first k bytes, if it has so many -/
theorem c_cut (l : Launch) (dC : Nat → ClassId) (dI : Nat → Nat → Nat) (cy : Nat → ClassId) (sz : Nat) (h0 : Nat) (h1 : Nat) (fsH : List Value) (fsT : List Value) (n : Nat) (p0 : Int32) (k_fsH : fh fsH 18 [(0, .ref h1)]) (k_fsT : fh fsT 12 [(1, .int (nI n))])  : Met l yX11_cut wsX11_cut ({ frames := 0, cells := 0, slots := 0, locals := 0 }) (va_Pc [.ref h0, .int p0] (fun U => U.heap.size = sz ∧ Wc dC dI cy (fun _ => True) [(h0, .inr (14, fsH)), (h1, .inr (12, fsT))] U)) (va_Qi (fun (r : Int32) (u : List Value) => (r = 1 ∧ (¬ p0 < 0 ∧ p0 ≤ nI n) ∧ ow fsT u 12 [1] [(1, .int p0)]) ∨ (r = 0 ∧ ¬ (¬ p0 < 0 ∧ p0 ≤ nI n) ∧ u = fsT)) (fun (u : List Value) t => Wc dC dI cy (va_A [(h0, .inr (14, fsH)), (h1, .inr (12, fsT))] sz) [(h0, .inr (14, fsH)), (h1, .inr (12, (u)))] t) (va_A [(h0, .inr (14, fsH)), (h1, .inr (12, fsT))] sz)) 0 0 (va_A [(h0, .inr (14, fsH)), (h1, .inr (12, fsT))] sz) := by
  refine Met.ofW (cc := cX11_cut) (maxL := 2) (ret := (some .boolean)) (by decide) rfl ?_
  intro p e s m args below meth c s₁ B hml hv
  obtain ⟨rfl, hsz, hP, hK, hD0⟩ := hv
  have hx := B.exec
  have hb := B.bytes
  have hr := B.returns
  have hts := atoms_spec (ws := wsX11_cut) B.pre
  have hown : s.vm.findClass RX11 = some m.cls := findClass_of_methodNamed B.named
  have hlocks := B.notSynchronized
  subst hsz
  have hD := hD0.self (sz := s.heap.size)
  generalize hAe : va_A [(h0, .inr (14, fsH)), (h1, .inr (12, fsT))] s.heap.size = A at hD ⊢
  have hA : ∀ q : Nat, s.heap.size ≤ q → A q := fun q h => by rw [← hAe]; exact Or.inr h
  have hS : va_S A s.heap s.heap [] := va_S.rf
  have hl := lv_entry ([.ref h0, .int p0]) (n := 2) (Nat.le_of_ble_eq_true rfl)
  rw [lg_entry_eq]
  generalize (lg_sl ([.ref h0, .int p0]) ++ List.replicate (2 - (lg_sl ([.ref h0, .int p0])).length) Slot.unset).toArray = ls at hl ⊢
  have hl : lv_has ls 2 [(0, .ref h0), (1, .int p0)] := hl
  have o_fsH := ow_0 k_fsH
  have o_fsT := ow_0 k_fsT
  refine lv_iload_n hx hb dX11_cut_0 rfl (lv_at hl 1 rfl) ?_
  refine lv_if_lt (tgt := 15) hx hb dX11_cut_1 (by decide) (fun c1 => ?_) (fun c1 => ?_)
  · skip
    refine lv_iconst (v := 0) hx hb dX11_cut_15 (by decide) ?_
    have hP9 := hP
    have hD9 := hD
    exact W.zret (v := 0) hx hb hr rfl (fun t ht hW => ⟨⟨0, fsT, rfl, Or.inr ⟨rfl, fun ⟨g1, g2⟩ => (by exfalso; simp only [i_lt, i_le] at g1 g2 c1; omega), rfl⟩, by rw [ht]; exact hP9, va_K.moved hW.alike hK, hD9⟩, hS.F ht⟩) hS.2.2 dX11_cut_16
  · skip
    refine lv_iload_n hx hb dX11_cut_4 rfl (lv_at hl 1 rfl) ?_
    refine lv_aload_n hx hb dX11_cut_5 rfl (lv_at hl 0 rfl) ?_
    refine va_get (D := (dC, dI)) (ci := 14) (v := .ref h1) (C := RX11) (T := TX11) (N := 18) hx hb hts (in_c_cut_X11) hown hK hP 0 rfl rfl 0 (by decide) (hts (.fieldLink RX11 12 "HeapWorks" "tape" "LHeapWorks$Tape;") (by decide +kernel)) (fun _ h9 => h9) (ow_at o_fsH 0 rfl) dX11_cut_6 ?_
    refine va_get (D := (dC, dI)) (ci := 12) (v := .int (nI n)) (C := RX9) (T := TX9) (N := 12) hx hb hts (in_c_cut_X9) hown hK hP 1 rfl rfl 1 (by decide) (hts (.fieldLink RX11 110 "HeapWorks$Tape" "size" "I") (by decide +kernel)) (fun _ h9 => h9) (ow_at o_fsT 0 rfl) dX11_cut_9 ?_
    refine lv_icmp_le (tgt := 17) hx hb dX11_cut_12 (by decide) (fun c2 => ?_) (fun c2 => ?_)
    · skip
      refine lv_aload_n hx hb dX11_cut_17 rfl (lv_at hl 0 rfl) ?_
      refine va_get (D := (dC, dI)) (ci := 14) (v := .ref h1) (C := RX11) (T := TX11) (N := 18) hx hb hts (in_c_cut_X11) hown hK hP 0 rfl rfl 0 (by decide) (hts (.fieldLink RX11 12 "HeapWorks" "tape" "LHeapWorks$Tape;") (by decide +kernel)) (fun _ h9 => h9) (ow_at o_fsH 0 rfl) dX11_cut_18 ?_
      refine lv_iload_n hx hb dX11_cut_21 rfl (lv_at hl 1 rfl) ?_
      refine va_put (D := (dC, dI)) (ci := 12) (v := .int p0) (ty := .int) (C := RX9) (T := TX9) (N := 12) hx hb hts (in_c_cut_X9) tyX9 tyX9_ok nmX9 hown hK hP hD hS 1 rfl rfl 1 (by decide) (hts (.fieldLink RX11 110 "HeapWorks$Tape" "size" "I") (by decide +kernel)) (fun _ h9 => h9) rfl (by decide +kernel) rfl rfl (by rw [o_fsT.2.1]; decide) dX11_cut_22 (fun H locs hP hD hS => ?_)
      have hP : va_P (dC, dI) vwCl [(h0, .inr (14, fsH)), (h1, .inr (12, (fsT.set 1 (.int p0))))] H := hP
      have hD : va_D A [(h0, .inr (14, fsH)), (h1, .inr (12, (fsT.set 1 (.int p0))))] := hD
      have o_fsT_3 := ow_set o_fsT 1 (.int p0) (by decide) (l' := [(1, .int p0)]) (w' := [1]) rfl rfl
      generalize (fsT.set 1 (.int p0)) = fsT_3 at hP hD o_fsT_3
      refine lv_iconst (v := 1) hx hb dX11_cut_25 (by decide) ?_
      have hP9 := hP
      have hD9 := hD
      exact W.zret (v := 1) hx hb hr rfl (fun t ht hW => ⟨⟨1, fsT_3, rfl, Or.inl ⟨rfl, ⟨c1, c2⟩, o_fsT_3⟩, by rw [ht]; exact hP9, va_K.moved hW.alike hK, hD9⟩, hS.F ht⟩) hS.2.2 dX11_cut_26
    · skip
      refine lv_iconst (v := 0) hx hb dX11_cut_15 (by decide) ?_
      have hP9 := hP
      have hD9 := hD
      exact W.zret (v := 0) hx hb hr rfl (fun t ht hW => ⟨⟨0, fsT, rfl, Or.inr ⟨rfl, fun ⟨g1, g2⟩ => (by exfalso; simp only [i_lt, i_le] at g1 g2 c1 c2; omega), rfl⟩, by rw [ht]; exact hP9, va_K.moved hW.alike hK, hD9⟩, hS.F ht⟩) hS.2.2 dX11_cut_16

theorem in_c_flip_X11 : ∀ w ∈ wsX110, w ∈ wsX11_flip := by decide +kernel
theorem in_c_flip_X9 : ∀ w ∈ wsX90, w ∈ wsX11_flip := by decide +kernel
set_option maxHeartbeats 4000000 in
set_option maxRecDepth 100000 in
/-- flip(i, bit): one bit of byte i is turned -/
theorem c_flip (l : Launch) (dC : Nat → ClassId) (dI : Nat → Nat → Nat) (cy : Nat → ClassId) (sz : Nat) (h0 : Nat) (h1 : Nat) (q2 : Nat) (fsH : List Value) (fsT : List Value) (f2 : Nat → Int32) (n : Nat) (p0 : Int32) (p1 : Int32) (k_fsH : fh fsH 18 [(0, .ref h1)]) (k_fsT : fh fsT 12 [(1, .int (nI n)), (0, .ref q2)]) (hn : n ≤ 4000) : Met l yX11_flip wsX11_flip ({ frames := 0, cells := 0, slots := 0, locals := 0 }) (va_Pc [.ref h0, .int p0, .int p1] (fun U => U.heap.size = sz ∧ Wc dC dI cy (fun _ => True) [(h0, .inr (14, fsH)), (h1, .inr (12, fsT)), (q2, .inl (cy 1, 4000, .inl f2))] U)) (va_Qi (fun (r : Int32) (u : (Nat → Int32)) => (r = 1 ∧ (¬ p0 < 0 ∧ p0 < nI n ∧ ¬ p1 < 0 ∧ p1 ≤ 7) ∧ u = upd f2 p0.toNatClampNeg (f2 p0.toNatClampNeg ^^^ ((1 : Int32) <<< (p1 &&& 31)))) ∨ (r = 0 ∧ ¬ (¬ p0 < 0 ∧ p0 < nI n ∧ ¬ p1 < 0 ∧ p1 ≤ 7) ∧ u = f2)) (fun (u : (Nat → Int32)) t => Wc dC dI cy (va_A [(h0, .inr (14, fsH)), (h1, .inr (12, fsT)), (q2, .inl (cy 1, 4000, .inl f2))] sz) [(h0, .inr (14, fsH)), (h1, .inr (12, fsT)), (q2, .inl (cy 1, 4000, .inl ((u))))] t) (va_A [(h0, .inr (14, fsH)), (h1, .inr (12, fsT)), (q2, .inl (cy 1, 4000, .inl f2))] sz)) 0 0 (va_A [(h0, .inr (14, fsH)), (h1, .inr (12, fsT)), (q2, .inl (cy 1, 4000, .inl f2))] sz) := by
  refine Met.ofW (cc := cX11_flip) (maxL := 3) (ret := (some .boolean)) (by decide) rfl ?_
  intro p e s m args below meth c s₁ B hml hv
  obtain ⟨rfl, hsz, hP, hK, hD0⟩ := hv
  have hx := B.exec
  have hb := B.bytes
  have hr := B.returns
  have hts := atoms_spec (ws := wsX11_flip) B.pre
  have hown : s.vm.findClass RX11 = some m.cls := findClass_of_methodNamed B.named
  have hlocks := B.notSynchronized
  subst hsz
  have hD := hD0.self (sz := s.heap.size)
  generalize hAe : va_A [(h0, .inr (14, fsH)), (h1, .inr (12, fsT)), (q2, .inl (cy 1, 4000, .inl f2))] s.heap.size = A at hD ⊢
  have hA : ∀ q : Nat, s.heap.size ≤ q → A q := fun q h => by rw [← hAe]; exact Or.inr h
  have hS : va_S A s.heap s.heap [] := va_S.rf
  have hl := lv_entry ([.ref h0, .int p0, .int p1]) (n := 3) (Nat.le_of_ble_eq_true rfl)
  rw [lg_entry_eq]
  generalize (lg_sl ([.ref h0, .int p0, .int p1]) ++ List.replicate (3 - (lg_sl ([.ref h0, .int p0, .int p1])).length) Slot.unset).toArray = ls at hl ⊢
  have hl : lv_has ls 3 [(0, .ref h0), (1, .int p0), (2, .int p1)] := hl
  have o_fsH := ow_0 k_fsH
  have o_fsT := ow_0 k_fsT
  refine lv_iload_n hx hb dX11_flip_0 rfl (lv_at hl 1 rfl) ?_
  refine lv_if_lt (tgt := 25) hx hb dX11_flip_1 (by decide) (fun c1 => ?_) (fun c1 => ?_)
  · skip
    refine lv_iconst (v := 0) hx hb dX11_flip_25 (by decide) ?_
    have hP9 := hP
    have hD9 := hD
    exact W.zret (v := 0) hx hb hr rfl (fun t ht hW => ⟨⟨0, f2, rfl, Or.inr ⟨rfl, fun ⟨g1, g2, g3, g4⟩ => (by exfalso; simp only [i_lt, i_le] at g1 g2 g3 g4 c1; omega), rfl⟩, by rw [ht]; exact hP9, va_K.moved hW.alike hK, hD9⟩, hS.F ht⟩) hS.2.2 dX11_flip_26
  · skip
    refine lv_iload_n hx hb dX11_flip_4 rfl (lv_at hl 1 rfl) ?_
    refine lv_aload_n hx hb dX11_flip_5 rfl (lv_at hl 0 rfl) ?_
    refine va_get (D := (dC, dI)) (ci := 14) (v := .ref h1) (C := RX11) (T := TX11) (N := 18) hx hb hts (in_c_flip_X11) hown hK hP 0 rfl rfl 0 (by decide) (hts (.fieldLink RX11 12 "HeapWorks" "tape" "LHeapWorks$Tape;") (by decide +kernel)) (fun _ h9 => h9) (ow_at o_fsH 0 rfl) dX11_flip_6 ?_
    refine va_get (D := (dC, dI)) (ci := 12) (v := .int (nI n)) (C := RX9) (T := TX9) (N := 12) hx hb hts (in_c_flip_X9) hown hK hP 1 rfl rfl 1 (by decide) (hts (.fieldLink RX11 110 "HeapWorks$Tape" "size" "I") (by decide +kernel)) (fun _ h9 => h9) (ow_at o_fsT 0 rfl) dX11_flip_9 ?_
    refine lv_icmp_ge (tgt := 25) hx hb dX11_flip_12 (by decide) (fun c2 => ?_) (fun c2 => ?_)
    · skip
      refine lv_iconst (v := 0) hx hb dX11_flip_25 (by decide) ?_
      have hP9 := hP
      have hD9 := hD
      exact W.zret (v := 0) hx hb hr rfl (fun t ht hW => ⟨⟨0, f2, rfl, Or.inr ⟨rfl, fun ⟨g1, g2, g3, g4⟩ => (by exfalso; simp only [i_lt, i_le] at g1 g2 g3 g4 c1 c2; omega), rfl⟩, by rw [ht]; exact hP9, va_K.moved hW.alike hK, hD9⟩, hS.F ht⟩) hS.2.2 dX11_flip_26
    · skip
      refine lv_iload_n hx hb dX11_flip_15 rfl (lv_at hl 2 rfl) ?_
      refine lv_if_lt (tgt := 25) hx hb dX11_flip_16 (by decide) (fun c3 => ?_) (fun c3 => ?_)
      · skip
        refine lv_iconst (v := 0) hx hb dX11_flip_25 (by decide) ?_
        have hP9 := hP
        have hD9 := hD
        exact W.zret (v := 0) hx hb hr rfl (fun t ht hW => ⟨⟨0, f2, rfl, Or.inr ⟨rfl, fun ⟨g1, g2, g3, g4⟩ => (by exfalso; simp only [i_lt, i_le] at g1 g2 g3 g4 c1 c2 c3; omega), rfl⟩, by rw [ht]; exact hP9, va_K.moved hW.alike hK, hD9⟩, hS.F ht⟩) hS.2.2 dX11_flip_26
      · skip
        refine lv_iload_n hx hb dX11_flip_19 rfl (lv_at hl 2 rfl) ?_
        refine lv_bipush (v := 7) hx hb dX11_flip_20 (by decide) ?_
        refine lv_icmp_le (tgt := 27) hx hb dX11_flip_22 (by decide) (fun c4 => ?_) (fun c4 => ?_)
        · skip
          refine lv_aload_n hx hb dX11_flip_27 rfl (lv_at hl 0 rfl) ?_
          refine va_get (D := (dC, dI)) (ci := 14) (v := .ref h1) (C := RX11) (T := TX11) (N := 18) hx hb hts (in_c_flip_X11) hown hK hP 0 rfl rfl 0 (by decide) (hts (.fieldLink RX11 12 "HeapWorks" "tape" "LHeapWorks$Tape;") (by decide +kernel)) (fun _ h9 => h9) (ow_at o_fsH 0 rfl) dX11_flip_28 ?_
          refine va_get (D := (dC, dI)) (ci := 12) (v := .ref q2) (C := RX9) (T := TX9) (N := 12) hx hb hts (in_c_flip_X9) hown hK hP 1 rfl rfl 0 (by decide) (hts (.fieldLink RX11 113 "HeapWorks$Tape" "bytes" "[I") (by decide +kernel)) (fun _ h9 => h9) (ow_at o_fsT 1 rfl) dX11_flip_31 ?_
          refine lv_iload_n hx hb dX11_flip_34 rfl (lv_at hl 1 rfl) ?_
          refine lv_dup2_11 hx hb dX11_flip_35 rfl rfl ?_
          refine va_iald hx hb hK hP 2 1 rfl rfl (in_of c1 (by have q := c2; simp only [i_lt, i_le] at q ⊢; omega) hn (by decide)) dX11_flip_36 ?_
          refine lv_topi (fun x5 ex5 => ?_)
          refine lv_iconst (v := 1) hx hb dX11_flip_37 (by decide) ?_
          refine lv_iload_n hx hb dX11_flip_38 rfl (lv_at hl 2 rfl) ?_
          refine lv_ishl hx hb dX11_flip_39  ?_
          refine lv_topi (fun x6 ex6 => ?_)
          refine lv_ixor hx hb dX11_flip_40  ?_
          refine lv_topi (fun x7 ex7 => ?_)
          refine va_iast hx hb hK hP hD hS 2 1 rfl rfl (in_of c1 (by have q := c2; simp only [i_lt, i_le] at q ⊢; omega) hn (by decide)) dX11_flip_41 (fun H locs hP hD hS => ?_)
          have hP : va_P (dC, dI) vwCl [(h0, .inr (14, fsH)), (h1, .inr (12, fsT)), (q2, .inl (cy 1, 4000, .inl (upd f2 p0.toNatClampNeg x7)))] H := hP
          have hD : va_D A [(h0, .inr (14, fsH)), (h1, .inr (12, fsT)), (q2, .inl (cy 1, 4000, .inl (upd f2 p0.toNatClampNeg x7)))] := hD
          obtain ⟨f2_8, ef2_8⟩ : ∃ y, y = upd f2 p0.toNatClampNeg x7 := ⟨_, rfl⟩
          rw [← ef2_8] at hP hD
          refine lv_iconst (v := 1) hx hb dX11_flip_42 (by decide) ?_
          have hP9 := hP
          have hD9 := hD
          exact W.zret (v := 1) hx hb hr rfl (fun t ht hW => ⟨⟨1, f2_8, rfl, Or.inl ⟨rfl, ⟨c1, (by have q := c2; simp only [i_lt, i_le] at q ⊢; omega), c3, c4⟩, (by subst_vars; rfl)⟩, by rw [ht]; exact hP9, va_K.moved hW.alike hK, hD9⟩, hS.F ht⟩) hS.2.2 dX11_flip_43
        · skip
          refine lv_iconst (v := 0) hx hb dX11_flip_25 (by decide) ?_
          have hP9 := hP
          have hD9 := hD
          exact W.zret (v := 0) hx hb hr rfl (fun t ht hW => ⟨⟨0, f2, rfl, Or.inr ⟨rfl, fun ⟨g1, g2, g3, g4⟩ => (by exfalso; simp only [i_lt, i_le] at g1 g2 g3 g4 c1 c2 c3 c4; omega), rfl⟩, by rw [ht]; exact hP9, va_K.moved hW.alike hK, hD9⟩, hS.F ht⟩) hS.2.2 dX11_flip_26

theorem in_m_letter_X12 : ∀ w ∈ wsX120, w ∈ wsX12_letter := by decide +kernel
set_option maxHeartbeats 4000000 in
set_option maxRecDepth 100000 in
/-- letter(i): byte i of the tape, else -1 -/
theorem m_letter (l : Launch) (dC : Nat → ClassId) (dI : Nat → Nat → Nat) (cy : Nat → ClassId) (sz : Nat) (h0 : Nat) (q1 : Nat) (fsM : List Value) (f1 : Nat → Int32) (n : Nat) (p0 : Int32) (k_fsM : fh fsM 150 [(3, .int (nI n)), (1, .ref q1)]) (hn : n ≤ 4000) : Met l yX12_letter wsX12_letter ({ frames := 0, cells := 0, slots := 0, locals := 0 }) (va_Pc [.ref h0, .int p0] (fun U => U.heap.size = sz ∧ Wc dC dI cy (fun _ => True) [(h0, .inr (15, fsM)), (q1, .inl (cy 0, 4000, .inl f1))] U)) (va_Qi (fun (r : Int32) (u : List Value) => ((¬ p0 < 0 ∧ p0 < nI n → r = f1 p0.toNatClampNeg &&& 255) ∧ ((p0 < 0 ∨ ¬ p0 < nI n) → r = -1)) ∧ ow fsM u 150 [0] [(0, .int 0), (3, .int (nI n)), (1, .ref q1)]) (fun (u : List Value) t => Wc dC dI cy (va_A [(h0, .inr (15, fsM)), (q1, .inl (cy 0, 4000, .inl f1))] sz) [(h0, .inr (15, (u))), (q1, .inl (cy 0, 4000, .inl f1))] t) (va_A [(h0, .inr (15, fsM)), (q1, .inl (cy 0, 4000, .inl f1))] sz)) 0 0 (va_A [(h0, .inr (15, fsM)), (q1, .inl (cy 0, 4000, .inl f1))] sz) := by
  refine Met.ofW (cc := cX12_letter) (maxL := 2) (ret := (some .int)) (by decide) rfl ?_
  intro p e s m args below meth c s₁ B hml hv
  obtain ⟨rfl, hsz, hP, hK, hD0⟩ := hv
  have hx := B.exec
  have hb := B.bytes
  have hr := B.returns
  have hts := atoms_spec (ws := wsX12_letter) B.pre
  have hown : s.vm.findClass RX12 = some m.cls := findClass_of_methodNamed B.named
  have hlocks := B.notSynchronized
  subst hsz
  have hD := hD0.self (sz := s.heap.size)
  generalize hAe : va_A [(h0, .inr (15, fsM)), (q1, .inl (cy 0, 4000, .inl f1))] s.heap.size = A at hD ⊢
  have hA : ∀ q : Nat, s.heap.size ≤ q → A q := fun q h => by rw [← hAe]; exact Or.inr h
  have hS : va_S A s.heap s.heap [] := va_S.rf
  have hl := lv_entry ([.ref h0, .int p0]) (n := 2) (Nat.le_of_ble_eq_true rfl)
  rw [lg_entry_eq]
  generalize (lg_sl ([.ref h0, .int p0]) ++ List.replicate (2 - (lg_sl ([.ref h0, .int p0])).length) Slot.unset).toArray = ls at hl ⊢
  have hl : lv_has ls 2 [(0, .ref h0), (1, .int p0)] := hl
  have o_fsM := ow_0 k_fsM
  refine lv_aload_n hx hb dX12_letter_0 rfl (lv_at hl 0 rfl) ?_
  refine lv_iconst (v := 0) hx hb dX12_letter_1 (by decide) ?_
  refine va_put (D := (dC, dI)) (ci := 15) (v := .int 0) (ty := .int) (C := RX12) (T := TX12) (N := 150) hx hb hts (in_m_letter_X12) tyX12 tyX12_ok nmX12 hown hK hP hD hS 0 rfl rfl 0 (by decide) (hts (.fieldLink RX12 388 "HeapWorksModel" "thrown" "I") (by decide +kernel)) (fun _ h9 => h9) rfl (by decide +kernel) rfl rfl (by rw [o_fsM.2.1]; decide) dX12_letter_2 (fun H locs hP hD hS => ?_)
  have hP : va_P (dC, dI) vwCl [(h0, .inr (15, (fsM.set 0 (.int 0)))), (q1, .inl (cy 0, 4000, .inl f1))] H := hP
  have hD : va_D A [(h0, .inr (15, (fsM.set 0 (.int 0)))), (q1, .inl (cy 0, 4000, .inl f1))] := hD
  have o_fsM_1 := ow_set o_fsM 0 (.int 0) (by decide) (l' := [(0, .int 0), (3, .int (nI n)), (1, .ref q1)]) (w' := [0]) rfl rfl
  generalize (fsM.set 0 (.int 0)) = fsM_1 at hP hD o_fsM_1
  refine lv_iload_n hx hb dX12_letter_5 rfl (lv_at hl 1 rfl) ?_
  refine lv_if_lt (tgt := 30) hx hb dX12_letter_6 (by decide) (fun c2 => ?_) (fun c2 => ?_)
  · skip
    refine lv_iconst (v := (-1)) hx hb dX12_letter_30 (by decide) ?_
    have hP9 := hP
    have hD9 := hD
    exact W.iret (v := (-1)) hx hb hr (fun t ht hW => ⟨⟨(-1), fsM_1, rfl, ⟨⟨fun ⟨g1, g2⟩ => (by exfalso; simp only [i_lt, i_le] at g1 g2 c2; omega), fun _ => rfl⟩, o_fsM_1⟩, by rw [ht]; exact hP9, va_K.moved hW.alike hK, hD9⟩, hS.F ht⟩) hS.2.2 dX12_letter_31
  · skip
    refine lv_iload_n hx hb dX12_letter_9 rfl (lv_at hl 1 rfl) ?_
    refine lv_aload_n hx hb dX12_letter_10 rfl (lv_at hl 0 rfl) ?_
    refine va_get (D := (dC, dI)) (ci := 15) (v := .int (nI n)) (C := RX12) (T := TX12) (N := 150) hx hb hts (in_m_letter_X12) hown hK hP 0 rfl rfl 3 (by decide) (hts (.fieldLink RX12 391 "HeapWorksModel" "taped" "I") (by decide +kernel)) (fun _ h9 => h9) (ow_at o_fsM_1 1 rfl) dX12_letter_11 ?_
    refine lv_icmp_ge (tgt := 30) hx hb dX12_letter_14 (by decide) (fun c3 => ?_) (fun c3 => ?_)
    · skip
      refine lv_iconst (v := (-1)) hx hb dX12_letter_30 (by decide) ?_
      have hP9 := hP
      have hD9 := hD
      exact W.iret (v := (-1)) hx hb hr (fun t ht hW => ⟨⟨(-1), fsM_1, rfl, ⟨⟨fun ⟨g1, g2⟩ => (by exfalso; simp only [i_lt, i_le] at g1 g2 c2 c3; omega), fun _ => rfl⟩, o_fsM_1⟩, by rw [ht]; exact hP9, va_K.moved hW.alike hK, hD9⟩, hS.F ht⟩) hS.2.2 dX12_letter_31
    · skip
      refine lv_aload_n hx hb dX12_letter_17 rfl (lv_at hl 0 rfl) ?_
      refine va_get (D := (dC, dI)) (ci := 15) (v := .ref q1) (C := RX12) (T := TX12) (N := 150) hx hb hts (in_m_letter_X12) hown hK hP 0 rfl rfl 1 (by decide) (hts (.fieldLink RX12 7 "HeapWorksModel" "tape" "[B") (by decide +kernel)) (fun _ h9 => h9) (ow_at o_fsM_1 2 rfl) dX12_letter_18 ?_
      refine lv_iload_n hx hb dX12_letter_21 rfl (lv_at hl 1 rfl) ?_
      refine va_bald hx hb hK hP 1 0 rfl rfl (in_of c2 (by have q := c3; simp only [i_lt, i_le] at q ⊢; omega) hn (by decide)) dX12_letter_22 ?_
      refine lv_topi (fun x4 ex4 => ?_)
      refine lv_sipush (v := 255) hx hb dX12_letter_23 (by decide) ?_
      refine lv_iand hx hb dX12_letter_26  ?_
      refine lv_topi (fun x5 ex5 => ?_)
      refine lv_goto (tgt := 31) hx hb dX12_letter_27 (by decide) ?_
      have hP9 := hP
      have hD9 := hD
      exact W.iret (v := x5) hx hb hr (fun t ht hW => ⟨⟨x5, fsM_1, rfl, ⟨⟨fun _ => (by subst_vars; rfl), fun h => (by exfalso; simp only [i_lt, i_le] at h c2 c3; omega)⟩, o_fsM_1⟩, by rw [ht]; exact hP9, va_K.moved hW.alike hK, hD9⟩, hS.F ht⟩) hS.2.2 dX12_letter_31

theorem in_m_wipe_X12 : ∀ w ∈ wsX120, w ∈ wsX12_wipe := by decide +kernel
set_option maxHeartbeats 4000000 in
set_option maxRecDepth 100000 in
/-- wipe() -/
theorem m_wipe (l : Launch) (dC : Nat → ClassId) (dI : Nat → Nat → Nat) (cy : Nat → ClassId) (sz : Nat) (h0 : Nat) (fsM : List Value) (n : Nat) (k_fsM : fh fsM 150 [(3, .int (nI n))])  : Met l yX12_wipe wsX12_wipe ({ frames := 0, cells := 0, slots := 0, locals := 0 }) (va_Pc [.ref h0] (fun U => U.heap.size = sz ∧ Wc dC dI cy (fun _ => True) [(h0, .inr (15, fsM))] U)) (va_Qv (fun (u : List Value) => ow fsM u 150 [3, 0] [(3, .int 0), (0, .int 0)]) (fun (u : List Value) t => Wc dC dI cy (va_A [(h0, .inr (15, fsM))] sz) [(h0, .inr (15, (u)))] t) (va_A [(h0, .inr (15, fsM))] sz)) 0 0 (va_A [(h0, .inr (15, fsM))] sz) := by
  refine Met.ofW (cc := cX12_wipe) (maxL := 1) (ret := none) (by decide) rfl ?_
  intro p e s m args below meth c s₁ B hml hv
  obtain ⟨rfl, hsz, hP, hK, hD0⟩ := hv
  have hx := B.exec
  have hb := B.bytes
  have hr := B.returns
  have hts := atoms_spec (ws := wsX12_wipe) B.pre
  have hown : s.vm.findClass RX12 = some m.cls := findClass_of_methodNamed B.named
  have hlocks := B.notSynchronized
  subst hsz
  have hD := hD0.self (sz := s.heap.size)
  generalize hAe : va_A [(h0, .inr (15, fsM))] s.heap.size = A at hD ⊢
  have hA : ∀ q : Nat, s.heap.size ≤ q → A q := fun q h => by rw [← hAe]; exact Or.inr h
  have hS : va_S A s.heap s.heap [] := va_S.rf
  have hl := lv_entry ([.ref h0]) (n := 1) (Nat.le_of_ble_eq_true rfl)
  rw [lg_entry_eq]
  generalize (lg_sl ([.ref h0]) ++ List.replicate (1 - (lg_sl ([.ref h0])).length) Slot.unset).toArray = ls at hl ⊢
  have hl : lv_has ls 1 [(0, .ref h0)] := hl
  have o_fsM := ow_0 k_fsM
  refine lv_aload_n hx hb dX12_wipe_0 rfl (lv_at hl 0 rfl) ?_
  refine lv_iconst (v := 0) hx hb dX12_wipe_1 (by decide) ?_
  refine va_put (D := (dC, dI)) (ci := 15) (v := .int 0) (ty := .int) (C := RX12) (T := TX12) (N := 150) hx hb hts (in_m_wipe_X12) tyX12 tyX12_ok nmX12 hown hK hP hD hS 0 rfl rfl 0 (by decide) (hts (.fieldLink RX12 388 "HeapWorksModel" "thrown" "I") (by decide +kernel)) (fun _ h9 => h9) rfl (by decide +kernel) rfl rfl (by rw [o_fsM.2.1]; decide) dX12_wipe_2 (fun H locs hP hD hS => ?_)
  have hP : va_P (dC, dI) vwCl [(h0, .inr (15, (fsM.set 0 (.int 0))))] H := hP
  have hD : va_D A [(h0, .inr (15, (fsM.set 0 (.int 0))))] := hD
  have o_fsM_1 := ow_set o_fsM 0 (.int 0) (by decide) (l' := [(0, .int 0), (3, .int (nI n))]) (w' := [0]) rfl rfl
  generalize (fsM.set 0 (.int 0)) = fsM_1 at hP hD o_fsM_1
  refine lv_aload_n hx hb dX12_wipe_5 rfl (lv_at hl 0 rfl) ?_
  refine lv_iconst (v := 0) hx hb dX12_wipe_6 (by decide) ?_
  refine va_put (D := (dC, dI)) (ci := 15) (v := .int 0) (ty := .int) (C := RX12) (T := TX12) (N := 150) hx hb hts (in_m_wipe_X12) tyX12 tyX12_ok nmX12 hown hK hP hD hS 0 rfl rfl 3 (by decide) (hts (.fieldLink RX12 391 "HeapWorksModel" "taped" "I") (by decide +kernel)) (fun _ h9 => h9) rfl (by decide +kernel) rfl rfl (by rw [o_fsM_1.2.1]; decide) dX12_wipe_7 (fun H locs hP hD hS => ?_)
  have hP : va_P (dC, dI) vwCl [(h0, .inr (15, (fsM_1.set 3 (.int 0))))] H := hP
  have hD : va_D A [(h0, .inr (15, (fsM_1.set 3 (.int 0))))] := hD
  have o_fsM_2 := ow_set o_fsM_1 3 (.int 0) (by decide) (l' := [(3, .int 0), (0, .int 0)]) (w' := [3, 0]) rfl rfl
  generalize (fsM_1.set 3 (.int 0)) = fsM_2 at hP hD o_fsM_2
  have hP9 := hP
  have hD9 := hD
  exact W.vret hx hb hr (fun t ht hW => ⟨⟨fsM_2, rfl, o_fsM_2, by rw [ht]; exact hP9, va_K.moved hW.alike hK, hD9⟩, hS.F ht⟩) hS.2.2 dX12_wipe_10

theorem in_m_cut_X12 : ∀ w ∈ wsX120, w ∈ wsX12_cut := by decide +kernel
set_option maxHeartbeats 4000000 in
set_option maxRecDepth 100000 in
/-- cut(k) -/
theorem m_cut (l : Launch) (dC : Nat → ClassId) (dI : Nat → Nat → Nat) (cy : Nat → ClassId) (sz : Nat) (h0 : Nat) (fsM : List Value) (n : Nat) (p0 : Int32) (k_fsM : fh fsM 150 [(3, .int (nI n))])  : Met l yX12_cut wsX12_cut ({ frames := 0, cells := 0, slots := 0, locals := 0 }) (va_Pc [.ref h0, .int p0] (fun U => U.heap.size = sz ∧ Wc dC dI cy (fun _ => True) [(h0, .inr (15, fsM))] U)) (va_Qi (fun (r : Int32) (u : List Value) => (r = 1 ∧ (¬ p0 < 0 ∧ p0 ≤ nI n) ∧ ow fsM u 150 [3, 0] [(3, .int p0), (0, .int 0)]) ∨ (r = 0 ∧ ¬ (¬ p0 < 0 ∧ p0 ≤ nI n) ∧ ow fsM u 150 [0] [(0, .int 0), (3, .int (nI n))])) (fun (u : List Value) t => Wc dC dI cy (va_A [(h0, .inr (15, fsM))] sz) [(h0, .inr (15, (u)))] t) (va_A [(h0, .inr (15, fsM))] sz)) 0 0 (va_A [(h0, .inr (15, fsM))] sz) := by
  refine Met.ofW (cc := cX12_cut) (maxL := 2) (ret := (some .boolean)) (by decide) rfl ?_
  intro p e s m args below meth c s₁ B hml hv
  obtain ⟨rfl, hsz, hP, hK, hD0⟩ := hv
  have hx := B.exec
  have hb := B.bytes
  have hr := B.returns
  have hts := atoms_spec (ws := wsX12_cut) B.pre
  have hown : s.vm.findClass RX12 = some m.cls := findClass_of_methodNamed B.named
  have hlocks := B.notSynchronized
  subst hsz
  have hD := hD0.self (sz := s.heap.size)
  generalize hAe : va_A [(h0, .inr (15, fsM))] s.heap.size = A at hD ⊢
  have hA : ∀ q : Nat, s.heap.size ≤ q → A q := fun q h => by rw [← hAe]; exact Or.inr h
  have hS : va_S A s.heap s.heap [] := va_S.rf
  have hl := lv_entry ([.ref h0, .int p0]) (n := 2) (Nat.le_of_ble_eq_true rfl)
  rw [lg_entry_eq]
  generalize (lg_sl ([.ref h0, .int p0]) ++ List.replicate (2 - (lg_sl ([.ref h0, .int p0])).length) Slot.unset).toArray = ls at hl ⊢
  have hl : lv_has ls 2 [(0, .ref h0), (1, .int p0)] := hl
  have o_fsM := ow_0 k_fsM
  refine lv_aload_n hx hb dX12_cut_0 rfl (lv_at hl 0 rfl) ?_
  refine lv_iconst (v := 0) hx hb dX12_cut_1 (by decide) ?_
  refine va_put (D := (dC, dI)) (ci := 15) (v := .int 0) (ty := .int) (C := RX12) (T := TX12) (N := 150) hx hb hts (in_m_cut_X12) tyX12 tyX12_ok nmX12 hown hK hP hD hS 0 rfl rfl 0 (by decide) (hts (.fieldLink RX12 388 "HeapWorksModel" "thrown" "I") (by decide +kernel)) (fun _ h9 => h9) rfl (by decide +kernel) rfl rfl (by rw [o_fsM.2.1]; decide) dX12_cut_2 (fun H locs hP hD hS => ?_)
  have hP : va_P (dC, dI) vwCl [(h0, .inr (15, (fsM.set 0 (.int 0))))] H := hP
  have hD : va_D A [(h0, .inr (15, (fsM.set 0 (.int 0))))] := hD
  have o_fsM_1 := ow_set o_fsM 0 (.int 0) (by decide) (l' := [(0, .int 0), (3, .int (nI n))]) (w' := [0]) rfl rfl
  generalize (fsM.set 0 (.int 0)) = fsM_1 at hP hD o_fsM_1
  refine lv_iload_n hx hb dX12_cut_5 rfl (lv_at hl 1 rfl) ?_
  refine lv_if_lt (tgt := 17) hx hb dX12_cut_6 (by decide) (fun c2 => ?_) (fun c2 => ?_)
  · skip
    refine lv_iconst (v := 0) hx hb dX12_cut_17 (by decide) ?_
    have hP9 := hP
    have hD9 := hD
    exact W.zret (v := 0) hx hb hr rfl (fun t ht hW => ⟨⟨0, fsM_1, rfl, Or.inr ⟨rfl, fun ⟨g1, g2⟩ => (by exfalso; simp only [i_lt, i_le] at g1 g2 c2; omega), o_fsM_1⟩, by rw [ht]; exact hP9, va_K.moved hW.alike hK, hD9⟩, hS.F ht⟩) hS.2.2 dX12_cut_18
  · skip
    refine lv_iload_n hx hb dX12_cut_9 rfl (lv_at hl 1 rfl) ?_
    refine lv_aload_n hx hb dX12_cut_10 rfl (lv_at hl 0 rfl) ?_
    refine va_get (D := (dC, dI)) (ci := 15) (v := .int (nI n)) (C := RX12) (T := TX12) (N := 150) hx hb hts (in_m_cut_X12) hown hK hP 0 rfl rfl 3 (by decide) (hts (.fieldLink RX12 391 "HeapWorksModel" "taped" "I") (by decide +kernel)) (fun _ h9 => h9) (ow_at o_fsM_1 1 rfl) dX12_cut_11 ?_
    refine lv_icmp_le (tgt := 19) hx hb dX12_cut_14 (by decide) (fun c3 => ?_) (fun c3 => ?_)
    · skip
      refine lv_aload_n hx hb dX12_cut_19 rfl (lv_at hl 0 rfl) ?_
      refine lv_iload_n hx hb dX12_cut_20 rfl (lv_at hl 1 rfl) ?_
      refine va_put (D := (dC, dI)) (ci := 15) (v := .int p0) (ty := .int) (C := RX12) (T := TX12) (N := 150) hx hb hts (in_m_cut_X12) tyX12 tyX12_ok nmX12 hown hK hP hD hS 0 rfl rfl 3 (by decide) (hts (.fieldLink RX12 391 "HeapWorksModel" "taped" "I") (by decide +kernel)) (fun _ h9 => h9) rfl (by decide +kernel) rfl rfl (by rw [o_fsM_1.2.1]; decide) dX12_cut_21 (fun H locs hP hD hS => ?_)
      have hP : va_P (dC, dI) vwCl [(h0, .inr (15, (fsM_1.set 3 (.int p0))))] H := hP
      have hD : va_D A [(h0, .inr (15, (fsM_1.set 3 (.int p0))))] := hD
      have o_fsM_4 := ow_set o_fsM_1 3 (.int p0) (by decide) (l' := [(3, .int p0), (0, .int 0)]) (w' := [3, 0]) rfl rfl
      generalize (fsM_1.set 3 (.int p0)) = fsM_4 at hP hD o_fsM_4
      refine lv_iconst (v := 1) hx hb dX12_cut_24 (by decide) ?_
      have hP9 := hP
      have hD9 := hD
      exact W.zret (v := 1) hx hb hr rfl (fun t ht hW => ⟨⟨1, fsM_4, rfl, Or.inl ⟨rfl, ⟨c2, c3⟩, o_fsM_4⟩, by rw [ht]; exact hP9, va_K.moved hW.alike hK, hD9⟩, hS.F ht⟩) hS.2.2 dX12_cut_25
    · skip
      refine lv_iconst (v := 0) hx hb dX12_cut_17 (by decide) ?_
      have hP9 := hP
      have hD9 := hD
      exact W.zret (v := 0) hx hb hr rfl (fun t ht hW => ⟨⟨0, fsM_1, rfl, Or.inr ⟨rfl, fun ⟨g1, g2⟩ => (by exfalso; simp only [i_lt, i_le] at g1 g2 c2 c3; omega), o_fsM_1⟩, by rw [ht]; exact hP9, va_K.moved hW.alike hK, hD9⟩, hS.F ht⟩) hS.2.2 dX12_cut_18

theorem in_m_flip_X12 : ∀ w ∈ wsX120, w ∈ wsX12_flip := by decide +kernel
set_option maxHeartbeats 4000000 in
set_option maxRecDepth 100000 in
/-- flip(i, bit) -/
theorem m_flip (l : Launch) (dC : Nat → ClassId) (dI : Nat → Nat → Nat) (cy : Nat → ClassId) (sz : Nat) (h0 : Nat) (q1 : Nat) (fsM : List Value) (f1 : Nat → Int32) (n : Nat) (p0 : Int32) (p1 : Int32) (k_fsM : fh fsM 150 [(3, .int (nI n)), (1, .ref q1)]) (hn : n ≤ 4000) : Met l yX12_flip wsX12_flip ({ frames := 0, cells := 0, slots := 0, locals := 0 }) (va_Pc [.ref h0, .int p0, .int p1] (fun U => U.heap.size = sz ∧ Wc dC dI cy (fun _ => True) [(h0, .inr (15, fsM)), (q1, .inl (cy 0, 4000, .inl f1))] U)) (va_Qi (fun (r : Int32) (u : List Value × (Nat → Int32)) => ((r = 1 ∧ (¬ p0 < 0 ∧ p0 < nI n ∧ ¬ p1 < 0 ∧ p1 ≤ 7) ∧ u.2 = upd f1 p0.toNatClampNeg (vp_nar .byte (f1 p0.toNatClampNeg ^^^ ((1 : Int32) <<< (p1 &&& 31))).toInt8.toInt32)) ∨ (r = 0 ∧ ¬ (¬ p0 < 0 ∧ p0 < nI n ∧ ¬ p1 < 0 ∧ p1 ≤ 7) ∧ u.2 = f1)) ∧ ow fsM u.1 150 [0] [(0, .int 0), (3, .int (nI n)), (1, .ref q1)]) (fun (u : List Value × (Nat → Int32)) t => Wc dC dI cy (va_A [(h0, .inr (15, fsM)), (q1, .inl (cy 0, 4000, .inl f1))] sz) [(h0, .inr (15, (u.1))), (q1, .inl (cy 0, 4000, .inl ((u.2))))] t) (va_A [(h0, .inr (15, fsM)), (q1, .inl (cy 0, 4000, .inl f1))] sz)) 0 0 (va_A [(h0, .inr (15, fsM)), (q1, .inl (cy 0, 4000, .inl f1))] sz) := by
  refine Met.ofW (cc := cX12_flip) (maxL := 3) (ret := (some .boolean)) (by decide) rfl ?_
  intro p e s m args below meth c s₁ B hml hv
  obtain ⟨rfl, hsz, hP, hK, hD0⟩ := hv
  have hx := B.exec
  have hb := B.bytes
  have hr := B.returns
  have hts := atoms_spec (ws := wsX12_flip) B.pre
  have hown : s.vm.findClass RX12 = some m.cls := findClass_of_methodNamed B.named
  have hlocks := B.notSynchronized
  subst hsz
  have hD := hD0.self (sz := s.heap.size)
  generalize hAe : va_A [(h0, .inr (15, fsM)), (q1, .inl (cy 0, 4000, .inl f1))] s.heap.size = A at hD ⊢
  have hA : ∀ q : Nat, s.heap.size ≤ q → A q := fun q h => by rw [← hAe]; exact Or.inr h
  have hS : va_S A s.heap s.heap [] := va_S.rf
  have hl := lv_entry ([.ref h0, .int p0, .int p1]) (n := 3) (Nat.le_of_ble_eq_true rfl)
  rw [lg_entry_eq]
  generalize (lg_sl ([.ref h0, .int p0, .int p1]) ++ List.replicate (3 - (lg_sl ([.ref h0, .int p0, .int p1])).length) Slot.unset).toArray = ls at hl ⊢
  have hl : lv_has ls 3 [(0, .ref h0), (1, .int p0), (2, .int p1)] := hl
  have o_fsM := ow_0 k_fsM
  refine lv_aload_n hx hb dX12_flip_0 rfl (lv_at hl 0 rfl) ?_
  refine lv_iconst (v := 0) hx hb dX12_flip_1 (by decide) ?_
  refine va_put (D := (dC, dI)) (ci := 15) (v := .int 0) (ty := .int) (C := RX12) (T := TX12) (N := 150) hx hb hts (in_m_flip_X12) tyX12 tyX12_ok nmX12 hown hK hP hD hS 0 rfl rfl 0 (by decide) (hts (.fieldLink RX12 388 "HeapWorksModel" "thrown" "I") (by decide +kernel)) (fun _ h9 => h9) rfl (by decide +kernel) rfl rfl (by rw [o_fsM.2.1]; decide) dX12_flip_2 (fun H locs hP hD hS => ?_)
  have hP : va_P (dC, dI) vwCl [(h0, .inr (15, (fsM.set 0 (.int 0)))), (q1, .inl (cy 0, 4000, .inl f1))] H := hP
  have hD : va_D A [(h0, .inr (15, (fsM.set 0 (.int 0)))), (q1, .inl (cy 0, 4000, .inl f1))] := hD
  have o_fsM_1 := ow_set o_fsM 0 (.int 0) (by decide) (l' := [(0, .int 0), (3, .int (nI n)), (1, .ref q1)]) (w' := [0]) rfl rfl
  generalize (fsM.set 0 (.int 0)) = fsM_1 at hP hD o_fsM_1
  refine lv_iload_n hx hb dX12_flip_5 rfl (lv_at hl 1 rfl) ?_
  refine lv_if_lt (tgt := 27) hx hb dX12_flip_6 (by decide) (fun c2 => ?_) (fun c2 => ?_)
  · skip
    refine lv_iconst (v := 0) hx hb dX12_flip_27 (by decide) ?_
    have hP9 := hP
    have hD9 := hD
    exact W.zret (v := 0) hx hb hr rfl (fun t ht hW => ⟨⟨0, (fsM_1, f1), rfl, ⟨Or.inr ⟨rfl, fun ⟨g1, g2, g3, g4⟩ => (by exfalso; simp only [i_lt, i_le] at g1 g2 g3 g4 c2; omega), rfl⟩, o_fsM_1⟩, by rw [ht]; exact hP9, va_K.moved hW.alike hK, hD9⟩, hS.F ht⟩) hS.2.2 dX12_flip_28
  · skip
    refine lv_iload_n hx hb dX12_flip_9 rfl (lv_at hl 1 rfl) ?_
    refine lv_aload_n hx hb dX12_flip_10 rfl (lv_at hl 0 rfl) ?_
    refine va_get (D := (dC, dI)) (ci := 15) (v := .int (nI n)) (C := RX12) (T := TX12) (N := 150) hx hb hts (in_m_flip_X12) hown hK hP 0 rfl rfl 3 (by decide) (hts (.fieldLink RX12 391 "HeapWorksModel" "taped" "I") (by decide +kernel)) (fun _ h9 => h9) (ow_at o_fsM_1 1 rfl) dX12_flip_11 ?_
    refine lv_icmp_ge (tgt := 27) hx hb dX12_flip_14 (by decide) (fun c3 => ?_) (fun c3 => ?_)
    · skip
      refine lv_iconst (v := 0) hx hb dX12_flip_27 (by decide) ?_
      have hP9 := hP
      have hD9 := hD
      exact W.zret (v := 0) hx hb hr rfl (fun t ht hW => ⟨⟨0, (fsM_1, f1), rfl, ⟨Or.inr ⟨rfl, fun ⟨g1, g2, g3, g4⟩ => (by exfalso; simp only [i_lt, i_le] at g1 g2 g3 g4 c2 c3; omega), rfl⟩, o_fsM_1⟩, by rw [ht]; exact hP9, va_K.moved hW.alike hK, hD9⟩, hS.F ht⟩) hS.2.2 dX12_flip_28
    · skip
      refine lv_iload_n hx hb dX12_flip_17 rfl (lv_at hl 2 rfl) ?_
      refine lv_if_lt (tgt := 27) hx hb dX12_flip_18 (by decide) (fun c4 => ?_) (fun c4 => ?_)
      · skip
        refine lv_iconst (v := 0) hx hb dX12_flip_27 (by decide) ?_
        have hP9 := hP
        have hD9 := hD
        exact W.zret (v := 0) hx hb hr rfl (fun t ht hW => ⟨⟨0, (fsM_1, f1), rfl, ⟨Or.inr ⟨rfl, fun ⟨g1, g2, g3, g4⟩ => (by exfalso; simp only [i_lt, i_le] at g1 g2 g3 g4 c2 c3 c4; omega), rfl⟩, o_fsM_1⟩, by rw [ht]; exact hP9, va_K.moved hW.alike hK, hD9⟩, hS.F ht⟩) hS.2.2 dX12_flip_28
      · skip
        refine lv_iload_n hx hb dX12_flip_21 rfl (lv_at hl 2 rfl) ?_
        refine lv_bipush (v := 7) hx hb dX12_flip_22 (by decide) ?_
        refine lv_icmp_le (tgt := 29) hx hb dX12_flip_24 (by decide) (fun c5 => ?_) (fun c5 => ?_)
        · skip
          refine lv_aload_n hx hb dX12_flip_29 rfl (lv_at hl 0 rfl) ?_
          refine va_get (D := (dC, dI)) (ci := 15) (v := .ref q1) (C := RX12) (T := TX12) (N := 150) hx hb hts (in_m_flip_X12) hown hK hP 0 rfl rfl 1 (by decide) (hts (.fieldLink RX12 7 "HeapWorksModel" "tape" "[B") (by decide +kernel)) (fun _ h9 => h9) (ow_at o_fsM_1 2 rfl) dX12_flip_30 ?_
          refine lv_iload_n hx hb dX12_flip_33 rfl (lv_at hl 1 rfl) ?_
          refine lv_aload_n hx hb dX12_flip_34 rfl (lv_at hl 0 rfl) ?_
          refine va_get (D := (dC, dI)) (ci := 15) (v := .ref q1) (C := RX12) (T := TX12) (N := 150) hx hb hts (in_m_flip_X12) hown hK hP 0 rfl rfl 1 (by decide) (hts (.fieldLink RX12 7 "HeapWorksModel" "tape" "[B") (by decide +kernel)) (fun _ h9 => h9) (ow_at o_fsM_1 2 rfl) dX12_flip_35 ?_
          refine lv_iload_n hx hb dX12_flip_38 rfl (lv_at hl 1 rfl) ?_
          refine va_bald hx hb hK hP 1 0 rfl rfl (in_of c2 (by have q := c3; simp only [i_lt, i_le] at q ⊢; omega) hn (by decide)) dX12_flip_39 ?_
          refine lv_topi (fun x6 ex6 => ?_)
          refine lv_iconst (v := 1) hx hb dX12_flip_40 (by decide) ?_
          refine lv_iload_n hx hb dX12_flip_41 rfl (lv_at hl 2 rfl) ?_
          refine lv_ishl hx hb dX12_flip_42  ?_
          refine lv_topi (fun x7 ex7 => ?_)
          refine lv_ixor hx hb dX12_flip_43  ?_
          refine lv_topi (fun x8 ex8 => ?_)
          refine lv_i2b hx hb dX12_flip_44 rfl ?_
          refine lv_topi (fun x9 ex9 => ?_)
          refine va_bast hx hb hK hP hD hS 1 0 rfl rfl (in_of c2 (by have q := c3; simp only [i_lt, i_le] at q ⊢; omega) hn (by decide)) dX12_flip_45 (fun H locs hP hD hS => ?_)
          have hP : va_P (dC, dI) vwCl [(h0, .inr (15, fsM_1)), (q1, .inl (cy 0, 4000, .inl (upd f1 p0.toNatClampNeg (vp_nar .byte x9))))] H := hP
          have hD : va_D A [(h0, .inr (15, fsM_1)), (q1, .inl (cy 0, 4000, .inl (upd f1 p0.toNatClampNeg (vp_nar .byte x9))))] := hD
          obtain ⟨f1_10, ef1_10⟩ : ∃ y, y = upd f1 p0.toNatClampNeg (vp_nar .byte x9) := ⟨_, rfl⟩
          rw [← ef1_10] at hP hD
          refine lv_iconst (v := 1) hx hb dX12_flip_46 (by decide) ?_
          have hP9 := hP
          have hD9 := hD
          exact W.zret (v := 1) hx hb hr rfl (fun t ht hW => ⟨⟨1, (fsM_1, f1_10), rfl, ⟨Or.inl ⟨rfl, ⟨c2, (by have q := c3; simp only [i_lt, i_le] at q ⊢; omega), c4, c5⟩, (by subst_vars; rfl)⟩, o_fsM_1⟩, by rw [ht]; exact hP9, va_K.moved hW.alike hK, hD9⟩, hS.F ht⟩) hS.2.2 dX12_flip_47
        · skip
          refine lv_iconst (v := 0) hx hb dX12_flip_27 (by decide) ?_
          have hP9 := hP
          have hD9 := hD
          exact W.zret (v := 0) hx hb hr rfl (fun t ht hW => ⟨⟨0, (fsM_1, f1), rfl, ⟨Or.inr ⟨rfl, fun ⟨g1, g2, g3, g4⟩ => (by exfalso; simp only [i_lt, i_le] at g1 g2 g3 g4 c2 c3 c4 c5; omega), rfl⟩, o_fsM_1⟩, by rw [ht]; exact hP9, va_K.moved hW.alike hK, hD9⟩, hS.F ht⟩) hS.2.2 dX12_flip_28
