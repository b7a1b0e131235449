def l_z_X12_answer : List Cond := [.fieldLink RX12 388 "HeapWorksModel" "thrown" "I", .fieldLink RX12 852 "HeapWorksModel" "answers" "I"]
def w_z_X12_answer : List Cond := .code yX12_answer cX12_answer 3 (some .long) :: (l_z_X12_answer ++ (wsX120))
theorem in_z_X12_answer_X12 : ∀ w ∈ wsX120, w ∈ w_z_X12_answer := fun w h => List.mem_cons_of_mem _ (List.mem_append_right _ (h))
set_option maxHeartbeats 4000000 in
set_option maxRecDepth 100000 in
theorem z_X12_answer (l : Launch) (dC : Nat → ClassId) (dI : Nat → Nat → Nat) (sz : Nat) (Ad0 : Nat) (Fs0 : List Value) (Va0 : Int32) (Va1 : Int32) (k_Fs0 : fh Fs0 150 [(0, .int 0), (110, .int 0)])  : Met l yX12_answer w_z_X12_answer ({ frames := 0, cells := 0, slots := 0, locals := 0 }) (va_Pc [.ref Ad0, .int Va0, .int Va1] (fun U => U.heap.size = sz ∧ Wd dC dI [] (fun _ => True) [(Ad0, .inr (15, Fs0))] U)) (va_Ql (fun (r : Int64) (u : List Value) => (Va0 < 0 ∧ r = 0 ∧ ow Fs0 (u) 150 [0] [(0, .int 1), (110, .int 0)]) ∨ (¬ Va0 < 0 ∧ 0 ≤ Va0 ∧ r = 0 ∧ ow Fs0 (u) 150 [0] [(0, .int 1), (110, .int 0)])) (fun (u : List Value) t => Wd dC dI [] (va_A [(Ad0, .inr (15, Fs0))] sz) [(Ad0, .inr (15, (u)))] t) (va_A [(Ad0, .inr (15, Fs0))] sz))  0 0 (va_A [(Ad0, .inr (15, Fs0))] sz) := by
  refine Met.ofW (cc := cX12_answer) (maxL := 3) (ret := (some .long)) (by decide) rfl ?_
  intro p e s m args below meth c s₁ B hml hv
  obtain ⟨rfl, hsz, hP, hK, hD0⟩ := hv
  have hx := B.exec
  have hb := B.bytes
  have hr := B.returns
  have hts := atoms_spec (ws := w_z_X12_answer) B.pre
  have hown : s.vm.findClass RX12 = some m.cls := findClass_of_methodNamed B.named
  have hlocks := B.notSynchronized
  subst hsz
  have hD := hD0.self (sz := s.heap.size)
  generalize hAe : va_A [(Ad0, .inr (15, Fs0))] s.heap.size = A at hD ⊢
  have hA : ∀ q : Nat, s.heap.size ≤ q → A q := fun q h => by rw [← hAe]; exact Or.inr h
  have hS : va_S A s.heap s.heap [] := va_S.rf
  have hl := lv_entry ([.ref Ad0, .int Va0, .int Va1]) (n := 3) (Nat.le_of_ble_eq_true rfl)
  rw [lg_entry_eq]
  generalize (lg_sl ([.ref Ad0, .int Va0, .int Va1]) ++ List.replicate (3 - (lg_sl ([.ref Ad0, .int Va0, .int Va1])).length) Slot.unset).toArray = ls at hl ⊢
  have hl : lv_has ls 3 [(0, .ref Ad0), (1, .int Va0), (2, .int Va1)] := hl
  have o_Fs0 := ow_0 k_Fs0
  refine lv_aload_n hx hb dX12_answer_0 rfl (lv_at hl 0 rfl) ?_
  refine lv_iload_n hx hb dX12_answer_1 rfl (lv_at hl 1 rfl) ?_
  refine lv_if_lt (tgt := 22) hx hb dX12_answer_2 (by decide) (fun c101 => ?_) (fun c101 => ?_)
  · skip
    refine lv_iconst (v := 1) hx hb dX12_answer_22 (by decide) ?_
    refine lv_goto (tgt := 27) hx hb dX12_answer_23 (by decide) ?_
    refine va_put (D := (dC, dI)) (ci := 15) (v := .int 1) (ty := .int) (C := RX12) (T := TX12) (N := 150) hx hb hts (in_z_X12_answer_X12) tyX12 tyX12_ok nmX12 hown hK hP hD hS 0 rfl rfl 0 (by decide) (hts (.fieldLink RX12 388 "HeapWorksModel" "thrown" "I") (by decide +kernel)) (fun _ h9 => h9) rfl (by decide +kernel) rfl rfl (by rw [o_Fs0.2.1]; decide) dX12_answer_27 (fun H locs hP hD hS => ?_)
    have hP : va_P (dC, dI) vwCl [(Ad0, .inr (15, (Fs0.set 0 (.int 1))))] H := hP
    have hD : va_D A [(Ad0, .inr (15, (Fs0.set 0 (.int 1))))] := hD
    have o_s102 := ow_set o_Fs0 0 (.int 1) (by decide) (l' := [(0, .int 1), (110, .int 0)]) (w' := [0]) rfl rfl
    generalize (Fs0.set 0 (.int 1)) = s102 at hP hD o_s102
    refine lv_aload_n hx hb dX12_answer_30 rfl (lv_at hl 0 rfl) ?_
    refine va_get (D := (dC, dI)) (ci := 15) (v := .int 1) (C := RX12) (T := TX12) (N := 150) hx hb hts (in_z_X12_answer_X12) hown hK hP 0 rfl rfl 0 (by decide) (hts (.fieldLink RX12 388 "HeapWorksModel" "thrown" "I") (by decide +kernel)) (fun _ h9 => h9) (ow_at o_s102 0 rfl) dX12_answer_31 ?_
    refine lv_if_le (tgt := 39) hx hb dX12_answer_34 (by decide) (fun c103 => absurd c103 (by decide)) (fun c103 => ?_)
    refine lv_lconst (v := 0) hx hb dX12_answer_37 (by decide) ?_
    have hP9 := hP.sub (ws' := [(Ad0, .inr (15, s102))]) [0] rfl
    have hD9 := hD.sub (ws' := [(Ad0, .inr (15, s102))]) [0] (by decide) rfl
    have hK9 := hK.sub (tys' := []) [] rfl
    exact W.lret (v := 0) hx hb hr (fun t ht hW => ⟨⟨0, s102, rfl, (Or.inl ⟨c101, rfl, o_s102⟩), by rw [ht]; exact hP9, va_K.moved hW.alike hK9, hD9⟩, hS.F ht⟩) hS.2.2 dX12_answer_38
  · skip
    refine lv_iload_n hx hb dX12_answer_5 rfl (lv_at hl 1 rfl) ?_
    refine lv_aload_n hx hb dX12_answer_6 rfl (lv_at hl 0 rfl) ?_
    refine va_get (D := (dC, dI)) (ci := 15) (v := .int 0) (C := RX12) (T := TX12) (N := 150) hx hb hts (in_z_X12_answer_X12) hown hK hP 0 rfl rfl 110 (by decide) (hts (.fieldLink RX12 852 "HeapWorksModel" "answers" "I") (by decide +kernel)) (fun _ h9 => h9) (ow_at o_Fs0 1 rfl) dX12_answer_7 ?_
    refine lv_icmp_ge (tgt := 22) hx hb dX12_answer_10 (by decide) (fun c104 => ?_) (fun c104 => (by exfalso; have bd_Va0 := i_bd Va0; (try simp only [i_lt, i_le, i_eq, kc_0] at c101 c104); omega))
    refine lv_iconst (v := 1) hx hb dX12_answer_22 (by decide) ?_
    refine lv_goto (tgt := 27) hx hb dX12_answer_23 (by decide) ?_
    refine va_put (D := (dC, dI)) (ci := 15) (v := .int 1) (ty := .int) (C := RX12) (T := TX12) (N := 150) hx hb hts (in_z_X12_answer_X12) tyX12 tyX12_ok nmX12 hown hK hP hD hS 0 rfl rfl 0 (by decide) (hts (.fieldLink RX12 388 "HeapWorksModel" "thrown" "I") (by decide +kernel)) (fun _ h9 => h9) rfl (by decide +kernel) rfl rfl (by rw [o_Fs0.2.1]; decide) dX12_answer_27 (fun H locs hP hD hS => ?_)
    have hP : va_P (dC, dI) vwCl [(Ad0, .inr (15, (Fs0.set 0 (.int 1))))] H := hP
    have hD : va_D A [(Ad0, .inr (15, (Fs0.set 0 (.int 1))))] := hD
    have o_s105 := ow_set o_Fs0 0 (.int 1) (by decide) (l' := [(0, .int 1), (110, .int 0)]) (w' := [0]) rfl rfl
    generalize (Fs0.set 0 (.int 1)) = s105 at hP hD o_s105
    refine lv_aload_n hx hb dX12_answer_30 rfl (lv_at hl 0 rfl) ?_
    refine va_get (D := (dC, dI)) (ci := 15) (v := .int 1) (C := RX12) (T := TX12) (N := 150) hx hb hts (in_z_X12_answer_X12) hown hK hP 0 rfl rfl 0 (by decide) (hts (.fieldLink RX12 388 "HeapWorksModel" "thrown" "I") (by decide +kernel)) (fun _ h9 => h9) (ow_at o_s105 0 rfl) dX12_answer_31 ?_
    refine lv_if_le (tgt := 39) hx hb dX12_answer_34 (by decide) (fun c106 => absurd c106 (by decide)) (fun c106 => ?_)
    refine lv_lconst (v := 0) hx hb dX12_answer_37 (by decide) ?_
    have hP9 := hP.sub (ws' := [(Ad0, .inr (15, s105))]) [0] rfl
    have hD9 := hD.sub (ws' := [(Ad0, .inr (15, s105))]) [0] (by decide) rfl
    have hK9 := hK.sub (tys' := []) [] rfl
    exact W.lret (v := 0) hx hb hr (fun t ht hW => ⟨⟨0, s105, rfl, (Or.inr (⟨c101, c104, rfl, o_s105⟩)), by rw [ht]; exact hP9, va_K.moved hW.alike hK9, hD9⟩, hS.F ht⟩) hS.2.2 dX12_answer_38

def l_z_X12_endText_1 : List Cond := [.fieldLink RX12 625 "HeapWorksModel" "stop" "I", .fieldLink RX12 644 "HeapWorksModel" "kind" "I", .fieldLink RX12 776 "HeapWorksModel" "fault" "I", .fieldLink RX12 268 "HeapWorksModel" "faultAt" "I"]
def w_z_X12_endText_1 : List Cond := .code yX12_endText cX12_endText 1 none :: (l_z_X12_endText_1 ++ (wsX120))
theorem in_z_X12_endText_1_X12 : ∀ w ∈ wsX120, w ∈ w_z_X12_endText_1 := fun w h => List.mem_cons_of_mem _ (List.mem_append_right _ (h))
set_option maxHeartbeats 4000000 in
set_option maxRecDepth 100000 in
theorem z_X12_endText_1 (l : Launch) (dC : Nat → ClassId) (dI : Nat → Nat → Nat) (sz : Nat) (Ad0 : Nat) (Fs0 : List Value) (k_Fs0 : fh Fs0 150 [(80, .int 0), (83, .int 0)])  : Met l yX12_endText w_z_X12_endText_1 ({ frames := 0, cells := 0, slots := 0, locals := 0 }) (va_Pc [.ref Ad0] (fun U => U.heap.size = sz ∧ Wd dC dI [] (fun _ => True) [(Ad0, .inr (15, Fs0))] U)) (va_Qv (fun (u : List Value) => ow Fs0 (u) 150 [82, 81] [(82, .int (-1)), (81, .int 0), (80, .int 0), (83, .int 0)]) (fun (u : List Value) t => Wd dC dI [] (va_A [(Ad0, .inr (15, Fs0))] sz) [(Ad0, .inr (15, (u)))] t) (va_A [(Ad0, .inr (15, Fs0))] sz))  0 0 (va_A [(Ad0, .inr (15, Fs0))] sz) := by
  refine Met.ofW (cc := cX12_endText) (maxL := 1) (ret := none) (by decide) rfl ?_
  intro p e s m args below meth c s₁ B hml hv
  obtain ⟨rfl, hsz, hP, hK, hD0⟩ := hv
  have hx := B.exec
  have hb := B.bytes
  have hr := B.returns
  have hts := atoms_spec (ws := w_z_X12_endText_1) B.pre
  have hown : s.vm.findClass RX12 = some m.cls := findClass_of_methodNamed B.named
  have hlocks := B.notSynchronized
  subst hsz
  have hD := hD0.self (sz := s.heap.size)
  generalize hAe : va_A [(Ad0, .inr (15, Fs0))] s.heap.size = A at hD ⊢
  have hA : ∀ q : Nat, s.heap.size ≤ q → A q := fun q h => by rw [← hAe]; exact Or.inr h
  have hS : va_S A s.heap s.heap [] := va_S.rf
  have hl := lv_entry ([.ref Ad0]) (n := 1) (Nat.le_of_ble_eq_true rfl)
  rw [lg_entry_eq]
  generalize (lg_sl ([.ref Ad0]) ++ List.replicate (1 - (lg_sl ([.ref Ad0])).length) Slot.unset).toArray = ls at hl ⊢
  have hl : lv_has ls 1 [(0, .ref Ad0)] := hl
  have o_Fs0 := ow_0 k_Fs0
  refine lv_aload_n hx hb dX12_endText_0 rfl (lv_at hl 0 rfl) ?_
  refine va_get (D := (dC, dI)) (ci := 15) (v := .int 0) (C := RX12) (T := TX12) (N := 150) hx hb hts (in_z_X12_endText_1_X12) hown hK hP 0 rfl rfl 83 (by decide) (hts (.fieldLink RX12 625 "HeapWorksModel" "stop" "I") (by decide +kernel)) (fun _ h9 => h9) (ow_at o_Fs0 1 rfl) dX12_endText_1 ?_
  refine lv_if_ne (tgt := 18) hx hb dX12_endText_4 (by decide) (fun c101 => absurd c101 (by decide)) (fun c101 => ?_)
  refine lv_aload_n hx hb dX12_endText_7 rfl (lv_at hl 0 rfl) ?_
  refine va_get (D := (dC, dI)) (ci := 15) (v := .int 0) (C := RX12) (T := TX12) (N := 150) hx hb hts (in_z_X12_endText_1_X12) hown hK hP 0 rfl rfl 80 (by decide) (hts (.fieldLink RX12 644 "HeapWorksModel" "kind" "I") (by decide +kernel)) (fun _ h9 => h9) (ow_at o_Fs0 0 rfl) dX12_endText_8 ?_
  refine lv_if_eq (tgt := 18) hx hb dX12_endText_11 (by decide) (fun c102 => ?_) (fun c102 => absurd c102 (by decide))
  refine lv_aload_n hx hb dX12_endText_18 rfl (lv_at hl 0 rfl) ?_
  refine lv_aload_n hx hb dX12_endText_19 rfl (lv_at hl 0 rfl) ?_
  refine va_get (D := (dC, dI)) (ci := 15) (v := .int 0) (C := RX12) (T := TX12) (N := 150) hx hb hts (in_z_X12_endText_1_X12) hown hK hP 0 rfl rfl 83 (by decide) (hts (.fieldLink RX12 625 "HeapWorksModel" "stop" "I") (by decide +kernel)) (fun _ h9 => h9) (ow_at o_Fs0 1 rfl) dX12_endText_20 ?_
  refine va_put (D := (dC, dI)) (ci := 15) (v := .int 0) (ty := .int) (C := RX12) (T := TX12) (N := 150) hx hb hts (in_z_X12_endText_1_X12) tyX12 tyX12_ok nmX12 hown hK hP hD hS 0 rfl rfl 81 (by decide) (hts (.fieldLink RX12 776 "HeapWorksModel" "fault" "I") (by decide +kernel)) (fun _ h9 => h9) rfl (by decide +kernel) rfl rfl (by rw [o_Fs0.2.1]; decide) dX12_endText_23 (fun H locs hP hD hS => ?_)
  have hP : va_P (dC, dI) vwCl [(Ad0, .inr (15, (Fs0.set 81 (.int 0))))] H := hP
  have hD : va_D A [(Ad0, .inr (15, (Fs0.set 81 (.int 0))))] := hD
  have o_s103 := ow_set o_Fs0 81 (.int 0) (by decide) (l' := [(81, .int 0), (80, .int 0), (83, .int 0)]) (w' := [81]) rfl rfl
  generalize (Fs0.set 81 (.int 0)) = s103 at hP hD o_s103
  refine lv_aload_n hx hb dX12_endText_26 rfl (lv_at hl 0 rfl) ?_
  refine lv_aload_n hx hb dX12_endText_27 rfl (lv_at hl 0 rfl) ?_
  refine va_get (D := (dC, dI)) (ci := 15) (v := .int 0) (C := RX12) (T := TX12) (N := 150) hx hb hts (in_z_X12_endText_1_X12) hown hK hP 0 rfl rfl 83 (by decide) (hts (.fieldLink RX12 625 "HeapWorksModel" "stop" "I") (by decide +kernel)) (fun _ h9 => h9) (ow_at o_s103 2 rfl) dX12_endText_28 ?_
  refine lv_if_le (tgt := 41) hx hb dX12_endText_31 (by decide) (fun c104 => ?_) (fun c104 => absurd c104 (by decide))
  refine lv_iconst (v := (-1)) hx hb dX12_endText_41 (by decide) ?_
  refine va_put (D := (dC, dI)) (ci := 15) (v := .int (-1)) (ty := .int) (C := RX12) (T := TX12) (N := 150) hx hb hts (in_z_X12_endText_1_X12) tyX12 tyX12_ok nmX12 hown hK hP hD hS 0 rfl rfl 82 (by decide) (hts (.fieldLink RX12 268 "HeapWorksModel" "faultAt" "I") (by decide +kernel)) (fun _ h9 => h9) rfl (by decide +kernel) rfl rfl (by rw [o_s103.2.1]; decide) dX12_endText_42 (fun H locs hP hD hS => ?_)
  have hP : va_P (dC, dI) vwCl [(Ad0, .inr (15, (s103.set 82 (.int (-1)))))] H := hP
  have hD : va_D A [(Ad0, .inr (15, (s103.set 82 (.int (-1)))))] := hD
  have o_s105 := ow_set o_s103 82 (.int (-1)) (by decide) (l' := [(82, .int (-1)), (81, .int 0), (80, .int 0), (83, .int 0)]) (w' := [82, 81]) rfl rfl
  generalize (s103.set 82 (.int (-1))) = s105 at hP hD o_s105
  have hP9 := hP.sub (ws' := [(Ad0, .inr (15, s105))]) [0] rfl
  have hD9 := hD.sub (ws' := [(Ad0, .inr (15, s105))]) [0] (by decide) rfl
  have hK9 := hK.sub (tys' := []) [] rfl
  exact W.vret hx hb hr (fun t ht hW => ⟨⟨s105, rfl, o_s105, by rw [ht]; exact hP9, va_K.moved hW.alike hK9, hD9⟩, hS.F ht⟩) hS.2.2 dX12_endText_45

def l_z_X12_findLinks : List Cond := [.fieldLink RX12 183 "HeapWorksModel" "things" "[I"]
def w_z_X12_findLinks : List Cond := .code yX12_findLinks cX12_findLinks 5 none :: (l_z_X12_findLinks ++ (wsX120))
theorem in_z_X12_findLinks_X12 : ∀ w ∈ wsX120, w ∈ w_z_X12_findLinks := fun w h => List.mem_cons_of_mem _ (List.mem_append_right _ (h))
set_option maxHeartbeats 4000000 in
set_option maxRecDepth 100000 in
theorem z_X12_findLinks (l : Launch) (dC : Nat → ClassId) (dI : Nat → Nat → Nat) (sz : Nat) (Ad0 : Nat) (Fa0 : Nat → Int32) (Ka0 : ClassId) (Ad1 : Nat) (Fs0 : List Value) (Va0 : Int32) (k_Fs0 : fh Fs0 150 [(48, .ref Ad0)]) (hz_Fa0 : ∀ j, Fa0 j = 0) (gv_Va0 : (0 : Int) ≤ Va0.toInt ∧ Va0.toInt ≤ 3) : Met l yX12_findLinks w_z_X12_findLinks ({ frames := 0, cells := 0, slots := 0, locals := 0 }) (va_Pc [.ref Ad1, .int Va0] (fun U => U.heap.size = sz ∧ Wd dC dI [(Ka0, .int)] (fun _ => True) [(Ad0, .inl (Ka0, 5, .inl Fa0)), (Ad1, .inr (15, Fs0))] U)) (va_Qv (fun (u : Unit) => True) (fun (u : Unit) t => Wd dC dI [(Ka0, .int)] (va_A [(Ad0, .inl (Ka0, 5, .inl Fa0)), (Ad1, .inr (15, Fs0))] sz) [(Ad0, .inl (Ka0, 5, .inl Fa0)), (Ad1, .inr (15, Fs0))] t) (va_A [(Ad0, .inl (Ka0, 5, .inl Fa0)), (Ad1, .inr (15, Fs0))] sz))  0 0 (va_A [(Ad0, .inl (Ka0, 5, .inl Fa0)), (Ad1, .inr (15, Fs0))] sz) := by
  refine Met.ofW (cc := cX12_findLinks) (maxL := 5) (ret := none) (by decide) rfl ?_
  intro p e s m args below meth c s₁ B hml hv
  obtain ⟨rfl, hsz, hP, hK, hD0⟩ := hv
  have hx := B.exec
  have hb := B.bytes
  have hr := B.returns
  have hts := atoms_spec (ws := w_z_X12_findLinks) B.pre
  have hown : s.vm.findClass RX12 = some m.cls := findClass_of_methodNamed B.named
  have hlocks := B.notSynchronized
  subst hsz
  have hD := hD0.self (sz := s.heap.size)
  generalize hAe : va_A [(Ad0, .inl (Ka0, 5, .inl Fa0)), (Ad1, .inr (15, Fs0))] s.heap.size = A at hD ⊢
  have hA : ∀ q : Nat, s.heap.size ≤ q → A q := fun q h => by rw [← hAe]; exact Or.inr h
  have hS : va_S A s.heap s.heap [] := va_S.rf
  have hl := lv_entry ([.ref Ad1, .int Va0]) (n := 5) (Nat.le_of_ble_eq_true rfl)
  rw [lg_entry_eq]
  generalize (lg_sl ([.ref Ad1, .int Va0]) ++ List.replicate (5 - (lg_sl ([.ref Ad1, .int Va0])).length) Slot.unset).toArray = ls at hl ⊢
  have hl : lv_has ls 5 [(0, .ref Ad1), (1, .int Va0)] := hl
  have o_Fs0 := ow_0 k_Fs0
  refine lv_aload_n hx hb dX12_findLinks_0 rfl (lv_at hl 0 rfl) ?_
  refine va_get (D := (dC, dI)) (ci := 15) (v := .ref Ad0) (C := RX12) (T := TX12) (N := 150) hx hb hts (in_z_X12_findLinks_X12) hown hK hP 1 rfl rfl 48 (by decide) (hts (.fieldLink RX12 183 "HeapWorksModel" "things" "[I") (by decide +kernel)) (fun _ h9 => h9) (ow_at o_Fs0 0 rfl) dX12_findLinks_1 ?_
  refine lv_iload_n hx hb dX12_findLinks_4 rfl (lv_at hl 1 rfl) ?_
  refine va_iald hx hb hK hP 0 0 rfl rfl (by rw [vp_in_iff]; (try simp only [i_lt, i_le, i_eq] at gv_Va0); omega) dX12_findLinks_5 ?_
  refine lv_topi (fun x101 ex101 => ?_)
  obtain rfl : x101 = 0 := ex101.trans (hz_Fa0 _)
  refine lv_istore_n (lv' := [(2, .int 0), (0, .ref Ad1), (1, .int Va0)]) hx hb dX12_findLinks_6 rfl hl (by decide) rfl (fun ls hl => ?_)
  refine lv_iconst (v := 0) hx hb dX12_findLinks_7 (by decide) ?_
  refine lv_istore_n (lv' := [(3, .int 0), (2, .int 0), (0, .ref Ad1), (1, .int Va0)]) hx hb dX12_findLinks_8 rfl hl (by decide) rfl (fun ls hl => ?_)
  refine lv_iload_n hx hb dX12_findLinks_9 rfl (lv_at hl 0 rfl) ?_
  refine lv_iload_n hx hb dX12_findLinks_10 rfl (lv_at hl 1 rfl) ?_
  refine lv_icmp_ge (tgt := 116) hx hb dX12_findLinks_11 (by decide) (fun c102 => ?_) (fun c102 => absurd c102 (by decide))
  have hP9 := hP.sub (ws' := [(Ad0, .inl (Ka0, 5, .inl Fa0)), (Ad1, .inr (15, Fs0))]) [0, 1] rfl
  have hD9 := hD.sub (ws' := [(Ad0, .inl (Ka0, 5, .inl Fa0)), (Ad1, .inr (15, Fs0))]) [0, 1] (by decide) rfl
  have hK9 := hK.sub (tys' := [(Ka0, .int)]) [0] rfl
  exact W.vret hx hb hr (fun t ht hW => ⟨⟨(), rfl, trivial, by rw [ht]; exact hP9, va_K.moved hW.alike hK9, hD9⟩, hS.F ht⟩) hS.2.2 dX12_findLinks_116

def l_z_X12_rules : List Cond := [.methodLink RX12 542 yX12_isPicture, .instanceMethod yX12_isPicture, .selects RX12 yX12_isPicture yX12_isPicture, .initialized RX12, .fieldLink RX12 388 "HeapWorksModel" "thrown" "I", .fieldLink RX12 183 "HeapWorksModel" "things" "[I", .fieldLink RX12 905 "HeapWorksModel" "relations" "I", .fieldLink RX12 908 "HeapWorksModel" "rules" "I", .methodLink RX12 855 yX12_beginText, .instanceMethod yX12_beginText, .selects RX12 yX12_beginText yX12_beginText, .fieldLink RX12 625 "HeapWorksModel" "stop" "I", .fieldLink RX12 644 "HeapWorksModel" "kind" "I", .methodLink RX12 858 yX12_endText, .instanceMethod yX12_endText, .selects RX12 yX12_endText yX12_endText, .fieldLink RX12 776 "HeapWorksModel" "fault" "I", .fieldLink RX12 826 "HeapWorksModel" "over" "I", .methodLink RX12 945 yX12_findLinks, .instanceMethod yX12_findLinks, .selects RX12 yX12_findLinks yX12_findLinks, .fieldLink RX12 933 "HeapWorksModel" "grows" "Z", .fieldLink RX12 357 "HeapWorksModel" "factOne" "[Z", .code yX12_isPicture cX12_isPicture 2 (some .boolean), .code yX12_beginText cX12_beginText 2 none, .fieldLink RX12 673 "HeapWorksModel" "nodeBase" "I", .fieldLink RX12 670 "HeapWorksModel" "nodes" "I", .fieldLink RX12 676 "HeapWorksModel" "nested" "I", .fieldLink RX12 761 "HeapWorksModel" "known" "I", .fieldLink RX12 628 "HeapWorksModel" "stopAt" "I", .fieldLink RX12 631 "HeapWorksModel" "at0" "I", .methodLink RX12 661 yX12_advance, .instanceMethod yX12_advance, .selects RX12 yX12_advance yX12_advance, .code yX12_advance cX12_advance 5 none, .methodLink RX12 634 yX12_byteAt, .instanceMethod yX12_byteAt, .selects RX12 yX12_byteAt yX12_byteAt, .fieldLink RX12 637 "HeapWorksModel" "from0" "I", .fieldLink RX12 640 "HeapWorksModel" "word" "J", .code yX12_byteAt cX12_byteAt 2 (some .int), .fieldLink RX12 391 "HeapWorksModel" "taped" "I", .code yX12_endText cX12_endText 1 none, .fieldLink RX12 268 "HeapWorksModel" "faultAt" "I", .code yX12_findLinks cX12_findLinks 5 none]
def w_z_X12_rules : List Cond := .code yX12_rules cX12_rules 4 (some .int) :: (l_z_X12_rules ++ (wsX120))
theorem in_z_X12_rules_X12 : ∀ w ∈ wsX120, w ∈ w_z_X12_rules := fun w h => List.mem_cons_of_mem _ (List.mem_append_right _ (h))
theorem g_z_X12_rules_z_X12_isPicture_542 : GoodIn w_z_X12_rules (wsV RX12 542 RX12 yX12_isPicture w_z_X12_isPicture) := goodIn_app (goodIn_r (([.methodLink RX12 542 yX12_isPicture, .instanceMethod yX12_isPicture, .selects RX12 yX12_isPicture yX12_isPicture, .initialized RX12] : List Cond)) [1, 2, 3, 4] rfl (by decide +kernel)) (goodIn_r (.code yX12_isPicture cX12_isPicture 2 (some .boolean) :: l_z_X12_isPicture) [24] rfl (by decide +kernel))
theorem g_z_X12_rules_z_X12_beginText_1_855 : GoodIn w_z_X12_rules (wsV RX12 855 RX12 yX12_beginText w_z_X12_beginText_1) := goodIn_app (goodIn_r (([.methodLink RX12 855 yX12_beginText, .instanceMethod yX12_beginText, .selects RX12 yX12_beginText yX12_beginText, .initialized RX12] : List Cond)) [9, 10, 11, 4] rfl (by decide +kernel)) (goodIn_ca (goodIn_r (.code yX12_beginText cX12_beginText 2 none :: l_z_X12_beginText_1) [25, 26, 27, 28, 29, 12, 30, 31, 32, 33, 34, 4, 35, 36, 37, 38, 39, 40, 13, 41, 42] rfl (by decide +kernel)) (goodIn_in (in_z_X12_rules_X12) gd_X12))
theorem g_z_X12_rules_z_X12_endText_1_858 : GoodIn w_z_X12_rules (wsV RX12 858 RX12 yX12_endText w_z_X12_endText_1) := goodIn_app (goodIn_r (([.methodLink RX12 858 yX12_endText, .instanceMethod yX12_endText, .selects RX12 yX12_endText yX12_endText, .initialized RX12] : List Cond)) [14, 15, 16, 4] rfl (by decide +kernel)) (goodIn_ca (goodIn_r (.code yX12_endText cX12_endText 1 none :: l_z_X12_endText_1) [43, 12, 13, 17, 44] rfl (by decide +kernel)) (goodIn_in (in_z_X12_rules_X12) gd_X12))
theorem g_z_X12_rules_z_X12_findLinks_945 : GoodIn w_z_X12_rules (wsV RX12 945 RX12 yX12_findLinks w_z_X12_findLinks) := goodIn_app (goodIn_r (([.methodLink RX12 945 yX12_findLinks, .instanceMethod yX12_findLinks, .selects RX12 yX12_findLinks yX12_findLinks, .initialized RX12] : List Cond)) [19, 20, 21, 4] rfl (by decide +kernel)) (goodIn_ca (goodIn_r (.code yX12_findLinks cX12_findLinks 5 none :: l_z_X12_findLinks) [45, 6] rfl (by decide +kernel)) (goodIn_in (in_z_X12_rules_X12) gd_X12))
set_option maxHeartbeats 4000000 in
set_option maxRecDepth 100000 in
theorem z_X12_rules (l : Launch) (dC : Nat → ClassId) (dI : Nat → Nat → Nat) (sz : Nat) (Ad0 : Nat) (Fs0 : List Value) (Ad1 : Nat) (Fa0 : Nat → Int32) (Ka0 : ClassId) (Ad2 : Nat) (Fa1 : Nat → Int32) (Ka1 : ClassId) (Va0 : Int32) (k_Fs0 : fh Fs0 150 [(0, .int 0), (3, .int 0), (48, .ref Ad1), (78, .int 0), (80, .int 0), (81, .int 0), (83, .int 0), (129, .ref Ad2), (133, .int 0), (134, .int 0), (138, .int 0)]) (hz_Fa0 : ∀ j, Fa0 j = 0) (hz_Fa1 : ∀ j, Fa1 j = 0) : Met l yX12_rules w_z_X12_rules ({ frames := 3, cells := 0, slots := 0, locals := 66 }) (va_Pc [.ref Ad0, .int Va0] (fun U => U.heap.size = sz ∧ Wd dC dI [(Ka0, .int), (Ka1, .boolean)] (fun _ => True) [(Ad0, .inr (15, Fs0)), (Ad1, .inl (Ka0, 5, .inl Fa0)), (Ad2, .inl (Ka1, 240, .inl Fa1))] U)) (va_Qi (fun (r : Int32) (u : List Value × (Nat → Int32)) => (Va0 < 0 ∧ r = 0 ∧ ow Fs0 (u.1) 150 [0] [(0, .int 1), (3, .int 0), (48, .ref Ad1), (78, .int 0), (80, .int 0), (81, .int 0), (83, .int 0), (129, .ref Ad2), (133, .int 0), (134, .int 0), (138, .int 0)] ∧ (∀ j, (u.2) j = 0)) ∨ (¬ Va0 < 0 ∧ 4 ≤ Va0 ∧ r = 0 ∧ ow Fs0 (u.1) 150 [0] [(0, .int 1), (3, .int 0), (48, .ref Ad1), (78, .int 0), (80, .int 0), (81, .int 0), (83, .int 0), (129, .ref Ad2), (133, .int 0), (134, .int 0), (138, .int 0)] ∧ (∀ j, (u.2) j = 0)) ∨ (¬ Va0 < 0 ∧ ¬ 4 ≤ Va0 ∧ r = 0 ∧ ow Fs0 (u.1) 150 [138, 97, 0, 82, 81, 80, 85, 79, 78, 84, 83, 94, 93, 92, 91, 134, 133] [(138, .int 0), (97, .int Va0), (0, .int 0), (82, .int (-1)), (81, .int 0), (80, .int 0), (83, .int 0), (80, .int 0), (85, .long 0), (79, .int 0), (78, .int 0), (3, .int 0), (78, .int 0), (84, .int (-1)), (83, .int 0), (94, .int 0), (93, .int 0), (92, .int 0), (91, .int 0), (3, .int 0), (134, .int 0), (133, .int 0), (3, .int 0), (48, .ref Ad1), (129, .ref Ad2)])) (fun (u : List Value × (Nat → Int32)) t => Wd dC dI [(Ka0, .int), (Ka1, .boolean)] (va_A [(Ad0, .inr (15, Fs0)), (Ad1, .inl (Ka0, 5, .inl Fa0)), (Ad2, .inl (Ka1, 240, .inl Fa1))] sz) [(Ad0, .inr (15, (u.1))), (Ad1, .inl (Ka0, 5, .inl Fa0)), (Ad2, .inl (Ka1, 240, .inl ((u.2))))] t) (va_A [(Ad0, .inr (15, Fs0)), (Ad1, .inl (Ka0, 5, .inl Fa0)), (Ad2, .inl (Ka1, 240, .inl Fa1))] sz))  0 0 (va_A [(Ad0, .inr (15, Fs0)), (Ad1, .inl (Ka0, 5, .inl Fa0)), (Ad2, .inl (Ka1, 240, .inl Fa1))] sz) := by
  refine Met.ofW (cc := cX12_rules) (maxL := 4) (ret := (some .int)) (by decide) rfl ?_
  intro p e s m args below meth c s₁ B hml hv
  obtain ⟨rfl, hsz, hP, hK, hD0⟩ := hv
  have hx := B.exec
  have hb := B.bytes
  have hr := B.returns
  have hts := atoms_spec (ws := w_z_X12_rules) B.pre
  have hown : s.vm.findClass RX12 = some m.cls := findClass_of_methodNamed B.named
  have hlocks := B.notSynchronized
  subst hsz
  have hD := hD0.self (sz := s.heap.size)
  generalize hAe : va_A [(Ad0, .inr (15, Fs0)), (Ad1, .inl (Ka0, 5, .inl Fa0)), (Ad2, .inl (Ka1, 240, .inl Fa1))] s.heap.size = A at hD ⊢
  have hA : ∀ q : Nat, s.heap.size ≤ q → A q := fun q h => by rw [← hAe]; exact Or.inr h
  have hS : va_S A s.heap s.heap [] := va_S.rf
  have hl := lv_entry ([.ref Ad0, .int Va0]) (n := 4) (Nat.le_of_ble_eq_true rfl)
  rw [lg_entry_eq]
  generalize (lg_sl ([.ref Ad0, .int Va0]) ++ List.replicate (4 - (lg_sl ([.ref Ad0, .int Va0])).length) Slot.unset).toArray = ls at hl ⊢
  have hl : lv_has ls 4 [(0, .ref Ad0), (1, .int Va0)] := hl
  have o_Fs0 := ow_0 k_Fs0
  refine lv_aload_n hx hb dX12_rules_0 rfl (lv_at hl 0 rfl) ?_
  refine lv_aload_n hx hb dX12_rules_1 rfl (lv_at hl 0 rfl) ?_
  refine lv_iload_n hx hb dX12_rules_2 rfl (lv_at hl 1 rfl) ?_
  have hPc := hP.sub (ws' := []) [] rfl
  have hDc := hD.sub (ws' := []) [] (by decide) rfl
  have hKc := hK.sub (tys' := []) [] rfl
  have hFc := va_free (wc := []) hD hS hA [] rfl
  refine va_calli (va_runV (As := [.int Va0]) (rest := [.ref Ad0]) ⟨hx, hb, hml, hown, hts⟩ (z_X12_isPicture l dC dI s.heap.size Ad0 Va0  ) (cwV 1 hts g_z_X12_rules_z_X12_isPicture_542 rfl rfl rfl (by decide +kernel) ⟨Nat.le_of_ble_eq_true rfl, Nat.le_of_ble_eq_true rfl⟩) ⟨fun a U g mk q => by obtain ⟨q0, q1, qP, qK, qD⟩ := q; exact ⟨q0, q1, qP, va_K.moved (u := U) (U := U.calling g mk a) (Vm.Alike.refl U.vm) qK, qD⟩, va_recv hK hP (ci := 15) (q0 := 0) rfl rfl, fun U hU hW => ⟨rfl, by rw [hU], by rw [hU]; exact hPc, va_K.moved hW.alike hKc, hDc.weaken (fun _ _ _ _ => trivial)⟩⟩ rfl rfl hl.1 rfl (lv_room (Nat.le_of_ble_eq_true rfl)) dX12_rules_3 ⟨Nat.le_of_ble_eq_true rfl, Nat.le_of_ble_eq_true rfl⟩) hS (fun q _ h => hFc q h) hFc (fun r101 u t H1 locs ht hvm hw hB hz1 hk1 hS => ?_)
  obtain ⟨hP1, hK1, hD1⟩ := hB
  rw [ht] at hP1
  try dsimp only at hw
  obtain ⟨hP, hD⟩ := va_join (wr := [(Ad0, .inr (15, Fs0)), (Ad1, .inl (Ka0, 5, .inl Fa0)), (Ad2, .inl (Ka1, 240, .inl Fa1))]) (w1 := []) hP hD [] [0, 1, 2] rfl rfl (by decide) (by decide) hk1 hFc hP1 hD1
  have hK := hK.sub (tys' := [(Ka0, .int), (Ka1, .boolean)]) [0, 1] rfl
  generalize H1 = H at hP hS ⊢
  have hP : va_P (dC, dI) vwCl [(Ad0, .inr (15, Fs0)), (Ad1, .inl (Ka0, 5, .inl Fa0)), (Ad2, .inl (Ka1, 240, .inl Fa1))] H := hP
  have hD : va_D A [(Ad0, .inr (15, Fs0)), (Ad1, .inl (Ka0, 5, .inl Fa0)), (Ad2, .inl (Ka1, 240, .inl Fa1))] := hD
  rcases hw with ⟨c102, er103⟩ | ⟨c104, c105, er106⟩ | ⟨c107, c108, er109⟩
  · skip
    subst er103
    refine lv_if_eq (tgt := 28) hx hb dX12_rules_6 (by decide) (fun c110 => ?_) (fun c110 => absurd c110 (by decide))
    refine lv_iconst (v := 1) hx hb dX12_rules_28 (by decide) ?_
    refine va_put (D := (dC, dI)) (ci := 15) (v := .int 1) (ty := .int) (C := RX12) (T := TX12) (N := 150) hx hb hts (in_z_X12_rules_X12) tyX12 tyX12_ok nmX12 hown hK hP hD hS 0 rfl rfl 0 (by decide) (hts (.fieldLink RX12 388 "HeapWorksModel" "thrown" "I") (by decide +kernel)) (fun _ h9 => h9) rfl (by decide +kernel) rfl rfl (by rw [o_Fs0.2.1]; decide) dX12_rules_29 (fun H locs hP hD hS => ?_)
    have hP : va_P (dC, dI) vwCl [(Ad0, .inr (15, (Fs0.set 0 (.int 1)))), (Ad1, .inl (Ka0, 5, .inl Fa0)), (Ad2, .inl (Ka1, 240, .inl Fa1))] H := hP
    have hD : va_D A [(Ad0, .inr (15, (Fs0.set 0 (.int 1)))), (Ad1, .inl (Ka0, 5, .inl Fa0)), (Ad2, .inl (Ka1, 240, .inl Fa1))] := hD
    have o_s111 := ow_set o_Fs0 0 (.int 1) (by decide) (l' := [(0, .int 1), (3, .int 0), (48, .ref Ad1), (78, .int 0), (80, .int 0), (81, .int 0), (83, .int 0), (129, .ref Ad2), (133, .int 0), (134, .int 0), (138, .int 0)]) (w' := [0]) rfl rfl
    generalize (Fs0.set 0 (.int 1)) = s111 at hP hD o_s111
    refine lv_aload_n hx hb dX12_rules_32 rfl (lv_at hl 0 rfl) ?_
    refine va_get (D := (dC, dI)) (ci := 15) (v := .int 1) (C := RX12) (T := TX12) (N := 150) hx hb hts (in_z_X12_rules_X12) hown hK hP 0 rfl rfl 0 (by decide) (hts (.fieldLink RX12 388 "HeapWorksModel" "thrown" "I") (by decide +kernel)) (fun _ h9 => h9) (ow_at o_s111 0 rfl) dX12_rules_33 ?_
    refine lv_if_le (tgt := 41) hx hb dX12_rules_36 (by decide) (fun c112 => absurd c112 (by decide)) (fun c112 => ?_)
    refine lv_iconst (v := 0) hx hb dX12_rules_39 (by decide) ?_
    have hP9 := hP.sub (ws' := [(Ad0, .inr (15, s111)), (Ad1, .inl (Ka0, 5, .inl Fa0)), (Ad2, .inl (Ka1, 240, .inl Fa1))]) [0, 1, 2] rfl
    have hD9 := hD.sub (ws' := [(Ad0, .inr (15, s111)), (Ad1, .inl (Ka0, 5, .inl Fa0)), (Ad2, .inl (Ka1, 240, .inl Fa1))]) [0, 1, 2] (by decide) rfl
    have hK9 := hK.sub (tys' := [(Ka0, .int), (Ka1, .boolean)]) [0, 1] rfl
    exact W.iret (v := 0) hx hb hr (fun t ht hW => ⟨⟨0, (s111, Fa1), rfl, (Or.inl ⟨c102, rfl, o_s111, hz_Fa1⟩), by rw [ht]; exact hP9, va_K.moved hW.alike hK9, hD9⟩, hS.F ht⟩) hS.2.2 dX12_rules_40
  · skip
    subst er106
    refine lv_if_eq (tgt := 28) hx hb dX12_rules_6 (by decide) (fun c113 => ?_) (fun c113 => absurd c113 (by decide))
    refine lv_iconst (v := 1) hx hb dX12_rules_28 (by decide) ?_
    refine va_put (D := (dC, dI)) (ci := 15) (v := .int 1) (ty := .int) (C := RX12) (T := TX12) (N := 150) hx hb hts (in_z_X12_rules_X12) tyX12 tyX12_ok nmX12 hown hK hP hD hS 0 rfl rfl 0 (by decide) (hts (.fieldLink RX12 388 "HeapWorksModel" "thrown" "I") (by decide +kernel)) (fun _ h9 => h9) rfl (by decide +kernel) rfl rfl (by rw [o_Fs0.2.1]; decide) dX12_rules_29 (fun H locs hP hD hS => ?_)
    have hP : va_P (dC, dI) vwCl [(Ad0, .inr (15, (Fs0.set 0 (.int 1)))), (Ad1, .inl (Ka0, 5, .inl Fa0)), (Ad2, .inl (Ka1, 240, .inl Fa1))] H := hP
    have hD : va_D A [(Ad0, .inr (15, (Fs0.set 0 (.int 1)))), (Ad1, .inl (Ka0, 5, .inl Fa0)), (Ad2, .inl (Ka1, 240, .inl Fa1))] := hD
    have o_s114 := ow_set o_Fs0 0 (.int 1) (by decide) (l' := [(0, .int 1), (3, .int 0), (48, .ref Ad1), (78, .int 0), (80, .int 0), (81, .int 0), (83, .int 0), (129, .ref Ad2), (133, .int 0), (134, .int 0), (138, .int 0)]) (w' := [0]) rfl rfl
    generalize (Fs0.set 0 (.int 1)) = s114 at hP hD o_s114
    refine lv_aload_n hx hb dX12_rules_32 rfl (lv_at hl 0 rfl) ?_
    refine va_get (D := (dC, dI)) (ci := 15) (v := .int 1) (C := RX12) (T := TX12) (N := 150) hx hb hts (in_z_X12_rules_X12) hown hK hP 0 rfl rfl 0 (by decide) (hts (.fieldLink RX12 388 "HeapWorksModel" "thrown" "I") (by decide +kernel)) (fun _ h9 => h9) (ow_at o_s114 0 rfl) dX12_rules_33 ?_
    refine lv_if_le (tgt := 41) hx hb dX12_rules_36 (by decide) (fun c115 => absurd c115 (by decide)) (fun c115 => ?_)
    refine lv_iconst (v := 0) hx hb dX12_rules_39 (by decide) ?_
    have hP9 := hP.sub (ws' := [(Ad0, .inr (15, s114)), (Ad1, .inl (Ka0, 5, .inl Fa0)), (Ad2, .inl (Ka1, 240, .inl Fa1))]) [0, 1, 2] rfl
    have hD9 := hD.sub (ws' := [(Ad0, .inr (15, s114)), (Ad1, .inl (Ka0, 5, .inl Fa0)), (Ad2, .inl (Ka1, 240, .inl Fa1))]) [0, 1, 2] (by decide) rfl
    have hK9 := hK.sub (tys' := [(Ka0, .int), (Ka1, .boolean)]) [0, 1] rfl
    exact W.iret (v := 0) hx hb hr (fun t ht hW => ⟨⟨0, (s114, Fa1), rfl, (Or.inr (Or.inl ⟨c104, c105, rfl, o_s114, hz_Fa1⟩)), by rw [ht]; exact hP9, va_K.moved hW.alike hK9, hD9⟩, hS.F ht⟩) hS.2.2 dX12_rules_40
  · skip
    subst er109
    refine lv_if_eq (tgt := 28) hx hb dX12_rules_6 (by decide) (fun c116 => absurd c116 (by decide)) (fun c116 => ?_)
    refine lv_aload_n hx hb dX12_rules_9 rfl (lv_at hl 0 rfl) ?_
    refine va_get (D := (dC, dI)) (ci := 15) (v := .ref Ad1) (C := RX12) (T := TX12) (N := 150) hx hb hts (in_z_X12_rules_X12) hown hK hP 0 rfl rfl 48 (by decide) (hts (.fieldLink RX12 183 "HeapWorksModel" "things" "[I") (by decide +kernel)) (fun _ h9 => h9) (ow_at o_Fs0 2 rfl) dX12_rules_10 ?_
    refine lv_iload_n hx hb dX12_rules_13 rfl (lv_at hl 1 rfl) ?_
    refine va_iald hx hb hK hP 1 0 rfl rfl (by rw [vp_in_iff]; (try simp only [i_lt, i_le, i_eq, kc_0, kc_4] at c107 c108); omega) dX12_rules_14 ?_
    refine lv_topi (fun x117 ex117 => ?_)
    obtain rfl : x117 = 0 := ex117.trans (hz_Fa0 _)
    refine lv_bipush (v := 40) hx hb dX12_rules_15 (by decide) ?_
    refine lv_icmp_le (tgt := 24) hx hb dX12_rules_17 (by decide) (fun c118 => ?_) (fun c118 => absurd c118 (by decide))
    refine lv_iconst (v := 0) hx hb dX12_rules_24 (by decide) ?_
    refine lv_goto (tgt := 29) hx hb dX12_rules_25 (by decide) ?_
    refine va_put (D := (dC, dI)) (ci := 15) (v := .int 0) (ty := .int) (C := RX12) (T := TX12) (N := 150) hx hb hts (in_z_X12_rules_X12) tyX12 tyX12_ok nmX12 hown hK hP hD hS 0 rfl rfl 0 (by decide) (hts (.fieldLink RX12 388 "HeapWorksModel" "thrown" "I") (by decide +kernel)) (fun _ h9 => h9) rfl (by decide +kernel) rfl rfl (by rw [o_Fs0.2.1]; decide) dX12_rules_29 (fun H locs hP hD hS => ?_)
    have hP : va_P (dC, dI) vwCl [(Ad0, .inr (15, (Fs0.set 0 (.int 0)))), (Ad1, .inl (Ka0, 5, .inl Fa0)), (Ad2, .inl (Ka1, 240, .inl Fa1))] H := hP
    have hD : va_D A [(Ad0, .inr (15, (Fs0.set 0 (.int 0)))), (Ad1, .inl (Ka0, 5, .inl Fa0)), (Ad2, .inl (Ka1, 240, .inl Fa1))] := hD
    have o_s119 := ow_set o_Fs0 0 (.int 0) (by decide) (l' := [(0, .int 0), (3, .int 0), (48, .ref Ad1), (78, .int 0), (80, .int 0), (81, .int 0), (83, .int 0), (129, .ref Ad2), (133, .int 0), (134, .int 0), (138, .int 0)]) (w' := [0]) rfl rfl
    generalize (Fs0.set 0 (.int 0)) = s119 at hP hD o_s119
    refine lv_aload_n hx hb dX12_rules_32 rfl (lv_at hl 0 rfl) ?_
    refine va_get (D := (dC, dI)) (ci := 15) (v := .int 0) (C := RX12) (T := TX12) (N := 150) hx hb hts (in_z_X12_rules_X12) hown hK hP 0 rfl rfl 0 (by decide) (hts (.fieldLink RX12 388 "HeapWorksModel" "thrown" "I") (by decide +kernel)) (fun _ h9 => h9) (ow_at o_s119 0 rfl) dX12_rules_33 ?_
    refine lv_if_le (tgt := 41) hx hb dX12_rules_36 (by decide) (fun c120 => ?_) (fun c120 => absurd c120 (by decide))
    refine lv_aload_n hx hb dX12_rules_41 rfl (lv_at hl 0 rfl) ?_
    refine lv_iconst (v := 0) hx hb dX12_rules_42 (by decide) ?_
    refine va_put (D := (dC, dI)) (ci := 15) (v := .int 0) (ty := .int) (C := RX12) (T := TX12) (N := 150) hx hb hts (in_z_X12_rules_X12) tyX12 tyX12_ok nmX12 hown hK hP hD hS 0 rfl rfl 133 (by decide) (hts (.fieldLink RX12 905 "HeapWorksModel" "relations" "I") (by decide +kernel)) (fun _ h9 => h9) rfl (by decide +kernel) rfl rfl (by rw [o_s119.2.1]; decide) dX12_rules_43 (fun H locs hP hD hS => ?_)
    have hP : va_P (dC, dI) vwCl [(Ad0, .inr (15, (s119.set 133 (.int 0)))), (Ad1, .inl (Ka0, 5, .inl Fa0)), (Ad2, .inl (Ka1, 240, .inl Fa1))] H := hP
    have hD : va_D A [(Ad0, .inr (15, (s119.set 133 (.int 0)))), (Ad1, .inl (Ka0, 5, .inl Fa0)), (Ad2, .inl (Ka1, 240, .inl Fa1))] := hD
    have o_s121 := ow_set o_s119 133 (.int 0) (by decide) (l' := [(133, .int 0), (0, .int 0), (3, .int 0), (48, .ref Ad1), (78, .int 0), (80, .int 0), (81, .int 0), (83, .int 0), (129, .ref Ad2), (134, .int 0), (138, .int 0)]) (w' := [133, 0]) rfl rfl
    generalize (s119.set 133 (.int 0)) = s121 at hP hD o_s121
    refine lv_aload_n hx hb dX12_rules_46 rfl (lv_at hl 0 rfl) ?_
    refine lv_iconst (v := 0) hx hb dX12_rules_47 (by decide) ?_
    refine va_put (D := (dC, dI)) (ci := 15) (v := .int 0) (ty := .int) (C := RX12) (T := TX12) (N := 150) hx hb hts (in_z_X12_rules_X12) tyX12 tyX12_ok nmX12 hown hK hP hD hS 0 rfl rfl 134 (by decide) (hts (.fieldLink RX12 908 "HeapWorksModel" "rules" "I") (by decide +kernel)) (fun _ h9 => h9) rfl (by decide +kernel) rfl rfl (by rw [o_s121.2.1]; decide) dX12_rules_48 (fun H locs hP hD hS => ?_)
    have hP : va_P (dC, dI) vwCl [(Ad0, .inr (15, (s121.set 134 (.int 0)))), (Ad1, .inl (Ka0, 5, .inl Fa0)), (Ad2, .inl (Ka1, 240, .inl Fa1))] H := hP
    have hD : va_D A [(Ad0, .inr (15, (s121.set 134 (.int 0)))), (Ad1, .inl (Ka0, 5, .inl Fa0)), (Ad2, .inl (Ka1, 240, .inl Fa1))] := hD
    have o_s122 := ow_set o_s121 134 (.int 0) (by decide) (l' := [(134, .int 0), (133, .int 0), (0, .int 0), (3, .int 0), (48, .ref Ad1), (78, .int 0), (80, .int 0), (81, .int 0), (83, .int 0), (129, .ref Ad2), (138, .int 0)]) (w' := [134, 133, 0]) rfl rfl
    generalize (s121.set 134 (.int 0)) = s122 at hP hD o_s122
    refine lv_aload_n hx hb dX12_rules_51 rfl (lv_at hl 0 rfl) ?_
    refine lv_iconst (v := 0) hx hb dX12_rules_52 (by decide) ?_
    have hPc := hP.sub (ws' := [(Ad0, .inr (15, s122))]) [0] rfl
    have hDc := hD.sub (ws' := [(Ad0, .inr (15, s122))]) [0] (by decide) rfl
    have hKc := hK.sub (tys' := []) [] rfl
    have hFc := va_free (wc := [(Ad0, .inr (15, s122))]) hD hS hA [0] rfl
    refine va_callv (va_runV (As := [.int 0]) (rest := []) ⟨hx, hb, hml, hown, hts⟩ (z_X12_beginText_1 l dC dI H.size Ad0 s122 (fh_sub o_s122.2 [3, 5] rfl) ) (cwV 1 hts g_z_X12_rules_z_X12_beginText_1_855 rfl rfl rfl (by decide +kernel) ⟨Nat.le_of_ble_eq_true rfl, Nat.le_of_ble_eq_true rfl⟩) ⟨fun a U g mk q => by obtain ⟨q0, q1, qP, qK, qD⟩ := q; exact ⟨q0, q1, qP, va_K.moved (u := U) (U := U.calling g mk a) (Vm.Alike.refl U.vm) qK, qD⟩, va_recv hK hP (ci := 15) (q0 := 0) rfl rfl, fun U hU hW => ⟨rfl, by rw [hU], by rw [hU]; exact hPc, va_K.moved hW.alike hKc, hDc.weaken (fun _ _ _ _ => trivial)⟩⟩ rfl rfl hl.1 rfl (lv_room (Nat.le_of_ble_eq_true rfl)) dX12_rules_53 ⟨Nat.le_of_ble_eq_true rfl, Nat.le_of_ble_eq_true rfl⟩) hS (fun q _ h => hFc q h) hFc (fun u t H1 locs ht hvm hw hB hz1 hk1 hS => ?_)
    obtain ⟨s123, rfl⟩ : ∃ z, z = u := ⟨_, rfl⟩
    obtain ⟨hP1, hK1, hD1⟩ := hB
    rw [ht] at hP1
    try dsimp only at hw
    obtain ⟨hP, hD⟩ := va_join (wr := [(Ad1, .inl (Ka0, 5, .inl Fa0)), (Ad2, .inl (Ka1, 240, .inl Fa1))]) (w1 := [(Ad0, .inr (15, s123))]) hP hD [0] [1, 2] rfl rfl (by decide) (by decide) hk1 hFc hP1 hD1
    have hK := hK.sub (tys' := [(Ka0, .int), (Ka1, .boolean)]) [0, 1] rfl
    generalize H1 = H at hP hS ⊢
    have hP : va_P (dC, dI) vwCl [(Ad1, .inl (Ka0, 5, .inl Fa0)), (Ad2, .inl (Ka1, 240, .inl Fa1)), (Ad0, .inr (15, s123))] H := hP
    have hD : va_D A [(Ad1, .inl (Ka0, 5, .inl Fa0)), (Ad2, .inl (Ka1, 240, .inl Fa1)), (Ad0, .inr (15, s123))] := hD
    have o_s123 := hw
    have o_s123 := ow_on o_s122 o_s123 (l' := [(80, .int 0), (85, .long 0), (79, .int 0), (78, .int 0), (3, .int 0), (78, .int 0), (84, .int (-1)), (83, .int 0), (94, .int 0), (93, .int 0), (92, .int 0), (91, .int 0), (3, .int 0), (134, .int 0), (133, .int 0), (0, .int 0), (3, .int 0), (48, .ref Ad1), (81, .int 0), (129, .ref Ad2), (138, .int 0)]) (w' := [80, 85, 79, 78, 84, 83, 94, 93, 92, 91, 134, 133, 0]) rfl rfl
    refine lv_aload_n hx hb dX12_rules_56 rfl (lv_at hl 0 rfl) ?_
    refine va_get (D := (dC, dI)) (ci := 15) (v := .int 0) (C := RX12) (T := TX12) (N := 150) hx hb hts (in_z_X12_rules_X12) hown hK hP 2 rfl rfl 83 (by decide) (hts (.fieldLink RX12 625 "HeapWorksModel" "stop" "I") (by decide +kernel)) (fun _ h9 => h9) (ow_at o_s123 7 rfl) dX12_rules_57 ?_
    refine lv_if_ne (tgt := 77) hx hb dX12_rules_60 (by decide) (fun c124 => absurd c124 (by decide)) (fun c124 => ?_)
    refine lv_aload_n hx hb dX12_rules_63 rfl (lv_at hl 0 rfl) ?_
    refine va_get (D := (dC, dI)) (ci := 15) (v := .int 0) (C := RX12) (T := TX12) (N := 150) hx hb hts (in_z_X12_rules_X12) hown hK hP 2 rfl rfl 80 (by decide) (hts (.fieldLink RX12 644 "HeapWorksModel" "kind" "I") (by decide +kernel)) (fun _ h9 => h9) (ow_at o_s123 0 rfl) dX12_rules_64 ?_
    refine lv_if_eq (tgt := 77) hx hb dX12_rules_67 (by decide) (fun c125 => ?_) (fun c125 => absurd c125 (by decide))
    refine lv_aload_n hx hb dX12_rules_77 rfl (lv_at hl 0 rfl) ?_
    have hPc := hP.sub (ws' := [(Ad0, .inr (15, s123))]) [2] rfl
    have hDc := hD.sub (ws' := [(Ad0, .inr (15, s123))]) [2] (by decide) rfl
    have hKc := hK.sub (tys' := []) [] rfl
    have hFc := va_free (wc := [(Ad0, .inr (15, s123))]) hD hS hA [2] rfl
    refine va_callv (va_runV (As := []) (rest := []) ⟨hx, hb, hml, hown, hts⟩ (z_X12_endText_1 l dC dI H.size Ad0 s123 (fh_sub o_s123.2 [0, 7] rfl) ) (cwV 0 hts g_z_X12_rules_z_X12_endText_1_858 rfl rfl rfl (by decide +kernel) ⟨Nat.le_of_ble_eq_true rfl, Nat.le_of_ble_eq_true rfl⟩) ⟨fun a U g mk q => by obtain ⟨q0, q1, qP, qK, qD⟩ := q; exact ⟨q0, q1, qP, va_K.moved (u := U) (U := U.calling g mk a) (Vm.Alike.refl U.vm) qK, qD⟩, va_recv hK hP (ci := 15) (q0 := 2) rfl rfl, fun U hU hW => ⟨rfl, by rw [hU], by rw [hU]; exact hPc, va_K.moved hW.alike hKc, hDc.weaken (fun _ _ _ _ => trivial)⟩⟩ rfl rfl hl.1 rfl (lv_room (Nat.le_of_ble_eq_true rfl)) dX12_rules_78 ⟨Nat.le_of_ble_eq_true rfl, Nat.le_of_ble_eq_true rfl⟩) hS (fun q _ h => hFc q h) hFc (fun u t H1 locs ht hvm hw hB hz1 hk1 hS => ?_)
    obtain ⟨s126, rfl⟩ : ∃ z, z = u := ⟨_, rfl⟩
    obtain ⟨hP1, hK1, hD1⟩ := hB
    rw [ht] at hP1
    try dsimp only at hw
    obtain ⟨hP, hD⟩ := va_join (wr := [(Ad1, .inl (Ka0, 5, .inl Fa0)), (Ad2, .inl (Ka1, 240, .inl Fa1))]) (w1 := [(Ad0, .inr (15, s126))]) hP hD [2] [0, 1] rfl rfl (by decide) (by decide) hk1 hFc hP1 hD1
    have hK := hK.sub (tys' := [(Ka0, .int), (Ka1, .boolean)]) [0, 1] rfl
    generalize H1 = H at hP hS ⊢
    have hP : va_P (dC, dI) vwCl [(Ad1, .inl (Ka0, 5, .inl Fa0)), (Ad2, .inl (Ka1, 240, .inl Fa1)), (Ad0, .inr (15, s126))] H := hP
    have hD : va_D A [(Ad1, .inl (Ka0, 5, .inl Fa0)), (Ad2, .inl (Ka1, 240, .inl Fa1)), (Ad0, .inr (15, s126))] := hD
    have o_s126 := hw
    have o_s126 := ow_on o_s123 o_s126 (l' := [(82, .int (-1)), (81, .int 0), (80, .int 0), (83, .int 0), (80, .int 0), (85, .long 0), (79, .int 0), (78, .int 0), (3, .int 0), (78, .int 0), (84, .int (-1)), (83, .int 0), (94, .int 0), (93, .int 0), (92, .int 0), (91, .int 0), (3, .int 0), (134, .int 0), (133, .int 0), (0, .int 0), (3, .int 0), (48, .ref Ad1), (129, .ref Ad2), (138, .int 0)]) (w' := [82, 81, 80, 85, 79, 78, 84, 83, 94, 93, 92, 91, 134, 133, 0]) rfl rfl
    refine lv_aload_n hx hb dX12_rules_81 rfl (lv_at hl 0 rfl) ?_
    refine lv_aload_n hx hb dX12_rules_82 rfl (lv_at hl 0 rfl) ?_
    refine va_get (D := (dC, dI)) (ci := 15) (v := .int 0) (C := RX12) (T := TX12) (N := 150) hx hb hts (in_z_X12_rules_X12) hown hK hP 2 rfl rfl 81 (by decide) (hts (.fieldLink RX12 776 "HeapWorksModel" "fault" "I") (by decide +kernel)) (fun _ h9 => h9) (ow_at o_s126 1 rfl) dX12_rules_83 ?_
    refine lv_if_le (tgt := 93) hx hb dX12_rules_86 (by decide) (fun c127 => ?_) (fun c127 => absurd c127 (by decide))
    refine lv_iconst (v := 0) hx hb dX12_rules_93 (by decide) ?_
    refine va_put (D := (dC, dI)) (ci := 15) (v := .int 0) (ty := .int) (C := RX12) (T := TX12) (N := 150) hx hb hts (in_z_X12_rules_X12) tyX12 tyX12_ok nmX12 hown hK hP hD hS 2 rfl rfl 0 (by decide) (hts (.fieldLink RX12 388 "HeapWorksModel" "thrown" "I") (by decide +kernel)) (fun _ h9 => h9) rfl (by decide +kernel) rfl rfl (by rw [o_s126.2.1]; decide) dX12_rules_94 (fun H locs hP hD hS => ?_)
    have hP : va_P (dC, dI) vwCl [(Ad1, .inl (Ka0, 5, .inl Fa0)), (Ad2, .inl (Ka1, 240, .inl Fa1)), (Ad0, .inr (15, (s126.set 0 (.int 0))))] H := hP
    have hD : va_D A [(Ad1, .inl (Ka0, 5, .inl Fa0)), (Ad2, .inl (Ka1, 240, .inl Fa1)), (Ad0, .inr (15, (s126.set 0 (.int 0))))] := hD
    have o_s128 := ow_set o_s126 0 (.int 0) (by decide) (l' := [(0, .int 0), (82, .int (-1)), (81, .int 0), (80, .int 0), (83, .int 0), (80, .int 0), (85, .long 0), (79, .int 0), (78, .int 0), (3, .int 0), (78, .int 0), (84, .int (-1)), (83, .int 0), (94, .int 0), (93, .int 0), (92, .int 0), (91, .int 0), (3, .int 0), (134, .int 0), (133, .int 0), (3, .int 0), (48, .ref Ad1), (129, .ref Ad2), (138, .int 0)]) (w' := [0, 82, 81, 80, 85, 79, 78, 84, 83, 94, 93, 92, 91, 134, 133]) rfl rfl
    generalize (s126.set 0 (.int 0)) = s128 at hP hD o_s128
    refine lv_aload_n hx hb dX12_rules_97 rfl (lv_at hl 0 rfl) ?_
    refine va_get (D := (dC, dI)) (ci := 15) (v := .int 0) (C := RX12) (T := TX12) (N := 150) hx hb hts (in_z_X12_rules_X12) hown hK hP 2 rfl rfl 0 (by decide) (hts (.fieldLink RX12 388 "HeapWorksModel" "thrown" "I") (by decide +kernel)) (fun _ h9 => h9) (ow_at o_s128 0 rfl) dX12_rules_98 ?_
    refine lv_if_le (tgt := 111) hx hb dX12_rules_101 (by decide) (fun c129 => ?_) (fun c129 => absurd c129 (by decide))
    refine lv_aload_n hx hb dX12_rules_111 rfl (lv_at hl 0 rfl) ?_
    refine lv_iload_n hx hb dX12_rules_112 rfl (lv_at hl 1 rfl) ?_
    refine va_put (D := (dC, dI)) (ci := 15) (v := .int Va0) (ty := .int) (C := RX12) (T := TX12) (N := 150) hx hb hts (in_z_X12_rules_X12) tyX12 tyX12_ok nmX12 hown hK hP hD hS 2 rfl rfl 97 (by decide) (hts (.fieldLink RX12 826 "HeapWorksModel" "over" "I") (by decide +kernel)) (fun _ h9 => h9) rfl (by decide +kernel) rfl rfl (by rw [o_s128.2.1]; decide) dX12_rules_113 (fun H locs hP hD hS => ?_)
    have hP : va_P (dC, dI) vwCl [(Ad1, .inl (Ka0, 5, .inl Fa0)), (Ad2, .inl (Ka1, 240, .inl Fa1)), (Ad0, .inr (15, (s128.set 97 (.int Va0))))] H := hP
    have hD : va_D A [(Ad1, .inl (Ka0, 5, .inl Fa0)), (Ad2, .inl (Ka1, 240, .inl Fa1)), (Ad0, .inr (15, (s128.set 97 (.int Va0))))] := hD
    have o_s130 := ow_set o_s128 97 (.int Va0) (by decide) (l' := [(97, .int Va0), (0, .int 0), (82, .int (-1)), (81, .int 0), (80, .int 0), (83, .int 0), (80, .int 0), (85, .long 0), (79, .int 0), (78, .int 0), (3, .int 0), (78, .int 0), (84, .int (-1)), (83, .int 0), (94, .int 0), (93, .int 0), (92, .int 0), (91, .int 0), (3, .int 0), (134, .int 0), (133, .int 0), (3, .int 0), (48, .ref Ad1), (129, .ref Ad2), (138, .int 0)]) (w' := [97, 0, 82, 81, 80, 85, 79, 78, 84, 83, 94, 93, 92, 91, 134, 133]) rfl rfl
    generalize (s128.set 97 (.int Va0)) = s130 at hP hD o_s130
    refine lv_aload_n hx hb dX12_rules_116 rfl (lv_at hl 0 rfl) ?_
    refine lv_iload_n hx hb dX12_rules_117 rfl (lv_at hl 1 rfl) ?_
    have hPc := hP.sub (ws' := [(Ad1, .inl (Ka0, 5, .inl Fa0)), (Ad0, .inr (15, s130))]) [0, 2] rfl
    have hDc := hD.sub (ws' := [(Ad1, .inl (Ka0, 5, .inl Fa0)), (Ad0, .inr (15, s130))]) [0, 2] (by decide) rfl
    have hKc := hK.sub (tys' := [(Ka0, .int)]) [0] rfl
    have hFc := va_free (wc := [(Ad1, .inl (Ka0, 5, .inl Fa0)), (Ad0, .inr (15, s130))]) hD hS hA [0, 2] rfl
    refine va_callv (va_runV (As := [.int Va0]) (rest := []) ⟨hx, hb, hml, hown, hts⟩ (z_X12_findLinks l dC dI H.size Ad1 Fa0 Ka0 Ad0 s130 Va0 (fh_sub o_s130.2 [22] rfl) hz_Fa0 (by (try simp only [i_lt, i_le, i_eq, kc_0, kc_4] at c107 c108); omega)) (cwV 1 hts g_z_X12_rules_z_X12_findLinks_945 rfl rfl rfl (by decide +kernel) ⟨Nat.le_of_ble_eq_true rfl, Nat.le_of_ble_eq_true rfl⟩) ⟨fun a U g mk q => by obtain ⟨q0, q1, qP, qK, qD⟩ := q; exact ⟨q0, q1, qP, va_K.moved (u := U) (U := U.calling g mk a) (Vm.Alike.refl U.vm) qK, qD⟩, va_recv hK hP (ci := 15) (q0 := 2) rfl rfl, fun U hU hW => ⟨rfl, by rw [hU], by rw [hU]; exact hPc, va_K.moved hW.alike hKc, hDc.weaken (fun _ _ _ _ => trivial)⟩⟩ rfl rfl hl.1 rfl (lv_room (Nat.le_of_ble_eq_true rfl)) dX12_rules_118 ⟨Nat.le_of_ble_eq_true rfl, Nat.le_of_ble_eq_true rfl⟩) hS (fun q _ h => hFc q h) hFc (fun u t H1 locs ht hvm hw hB hz1 hk1 hS => ?_)
    obtain ⟨hP1, hK1, hD1⟩ := hB
    rw [ht] at hP1
    try dsimp only at hw
    obtain ⟨hP, hD⟩ := va_join (wr := [(Ad2, .inl (Ka1, 240, .inl Fa1))]) (w1 := [(Ad1, .inl (Ka0, 5, .inl Fa0)), (Ad0, .inr (15, s130))]) hP hD [0, 2] [1] rfl rfl (by decide) (by decide) hk1 hFc hP1 hD1
    have hK := hK.sub (tys' := [(Ka1, .boolean), (Ka0, .int)]) [1, 0] rfl
    generalize H1 = H at hP hS ⊢
    have hP : va_P (dC, dI) vwCl [(Ad2, .inl (Ka1, 240, .inl Fa1)), (Ad1, .inl (Ka0, 5, .inl Fa0)), (Ad0, .inr (15, s130))] H := hP
    have hD : va_D A [(Ad2, .inl (Ka1, 240, .inl Fa1)), (Ad1, .inl (Ka0, 5, .inl Fa0)), (Ad0, .inr (15, s130))] := hD
    refine lv_iconst (v := 0) hx hb dX12_rules_121 (by decide) ?_
    refine lv_istore_n (lv' := [(2, .int 0), (0, .ref Ad0), (1, .int Va0)]) hx hb dX12_rules_122 rfl hl (by decide) rfl (fun ls hl => ?_)
    have HL1 : ∀ (n j171 : Nat) (x172 : Int32) (f173 : Nat → Int32), x172 = nI j171 → 0 ≤ j171 → j171 ≤ 240 → 241 ≤ j171 + n → ∀ (H : Heap) (locs : List Loc) (ls : Array Slot), va_P (dC, dI) vwCl [(Ad2, .inl (Ka1, 240, .inl f173)), (Ad1, .inl (Ka0, 5, .inl Fa0)), (Ad0, .inr (15, s130))] H → va_D A [(Ad2, .inl (Ka1, 240, .inl f173)), (Ad1, .inl (Ka0, 5, .inl Fa0)), (Ad0, .inr (15, s130))] → va_S A s.heap H locs → lv_has ls 4 [(2, .int x172), (0, .ref Ad0), (1, .int Va0)] → W p l e (headSpec w_z_X12_rules ({ frames := 3, cells := 0, slots := 0, locals := 66 })).room s m ([.ref Ad0, .int Va0]).toArray below meth c H locs 0 0 (MQ below (va_Qi (fun (r : Int32) (u : List Value × (Nat → Int32)) => (Va0 < 0 ∧ r = 0 ∧ ow Fs0 (u.1) 150 [0] [(0, .int 1), (3, .int 0), (48, .ref Ad1), (78, .int 0), (80, .int 0), (81, .int 0), (83, .int 0), (129, .ref Ad2), (133, .int 0), (134, .int 0), (138, .int 0)] ∧ (∀ j, (u.2) j = 0)) ∨ (¬ Va0 < 0 ∧ 4 ≤ Va0 ∧ r = 0 ∧ ow Fs0 (u.1) 150 [0] [(0, .int 1), (3, .int 0), (48, .ref Ad1), (78, .int 0), (80, .int 0), (81, .int 0), (83, .int 0), (129, .ref Ad2), (133, .int 0), (134, .int 0), (138, .int 0)] ∧ (∀ j, (u.2) j = 0)) ∨ (¬ Va0 < 0 ∧ ¬ 4 ≤ Va0 ∧ r = 0 ∧ ow Fs0 (u.1) 150 [138, 97, 0, 82, 81, 80, 85, 79, 78, 84, 83, 94, 93, 92, 91, 134, 133] [(138, .int 0), (97, .int Va0), (0, .int 0), (82, .int (-1)), (81, .int 0), (80, .int 0), (83, .int 0), (80, .int 0), (85, .long 0), (79, .int 0), (78, .int 0), (3, .int 0), (78, .int 0), (84, .int (-1)), (83, .int 0), (94, .int 0), (93, .int 0), (92, .int 0), (91, .int 0), (3, .int 0), (134, .int 0), (133, .int 0), (3, .int 0), (48, .ref Ad1), (129, .ref Ad2)])) (fun (u : List Value × (Nat → Int32)) t => Wd dC dI [(Ka0, .int), (Ka1, .boolean)] A [(Ad0, .inr (15, (u.1))), (Ad1, .inl (Ka0, 5, .inl Fa0)), (Ad2, .inl (Ka1, 240, .inl ((u.2))))] t) A) ([.ref Ad0, .int Va0]).toArray s 0 0 A) (F0 m 123 ls []) := by
      intro n
      induction n with
      | zero =>
        intro j171 x172 f173 e174 h176 h177 h178
        exact absurd h178 (by omega)
      | succ n ih =>
        intro j171 x172 f173 e174 h176 h177 h178 H locs ls hP hD hS hl
        have t175 : x172.toInt = (j171 : Int) := by rw [e174]; exact nI_toInt (by omega)
        refine lv_iload_n hx hb dX12_rules_123 rfl (lv_at hl 0 rfl) ?_
        refine lv_sipush (v := 240) hx hb dX12_rules_124 (by decide) ?_
        refine lv_icmp_ge (tgt := 143) hx hb dX12_rules_127 (by decide) (fun c179 => ?_) (fun c179 => ?_)
        · skip
          refine lv_iconst (v := 0) hx hb dX12_rules_143 (by decide) ?_
          refine lv_istore_n (lv' := [(2, .int 0), (0, .ref Ad0), (1, .int Va0)]) hx hb dX12_rules_144 rfl hl (by decide) rfl (fun ls hl => ?_)
          refine lv_iload_n hx hb dX12_rules_145 rfl (lv_at hl 0 rfl) ?_
          refine lv_sipush (v := 1600) hx hb dX12_rules_146 (by decide) ?_
          refine lv_aload_n hx hb dX12_rules_149 rfl (lv_at hl 1 rfl) ?_
          refine va_get (D := (dC, dI)) (ci := 15) (v := .int 0) (C := RX12) (T := TX12) (N := 150) hx hb hts (in_z_X12_rules_X12) hown hK hP 2 rfl rfl 133 (by decide) (hts (.fieldLink RX12 905 "HeapWorksModel" "relations" "I") (by decide +kernel)) (fun _ h9 => h9) (ow_at o_s130 20 rfl) dX12_rules_150 ?_
          refine lv_imul hx hb dX12_rules_153  ?_
          refine lv_topi (fun x180 ex180 => ?_)
          obtain rfl : x180 = 0 := ex180.trans (by decide)
          refine lv_icmp_ge (tgt := 170) hx hb dX12_rules_154 (by decide) (fun c181 => ?_) (fun c181 => absurd c181 (by decide))
          refine lv_aload_n hx hb dX12_rules_170 rfl (lv_at hl 1 rfl) ?_
          refine lv_iconst (v := 1) hx hb dX12_rules_171 (by decide) ?_
          refine va_put (D := (dC, dI)) (ci := 15) (v := .int 1) (ty := .boolean) (C := RX12) (T := TX12) (N := 150) hx hb hts (in_z_X12_rules_X12) tyX12 tyX12_ok nmX12 hown hK hP hD hS 2 rfl rfl 138 (by decide) (hts (.fieldLink RX12 933 "HeapWorksModel" "grows" "Z") (by decide +kernel)) (fun _ h9 => h9) rfl (by decide +kernel) rfl rfl (by rw [o_s130.2.1]; decide) dX12_rules_172 (fun H locs hP hD hS => ?_)
          have hP : va_P (dC, dI) vwCl [(Ad2, .inl (Ka1, 240, .inl f173)), (Ad1, .inl (Ka0, 5, .inl Fa0)), (Ad0, .inr (15, (s130.set 138 (.int 1))))] H := hP
          have hD : va_D A [(Ad2, .inl (Ka1, 240, .inl f173)), (Ad1, .inl (Ka0, 5, .inl Fa0)), (Ad0, .inr (15, (s130.set 138 (.int 1))))] := hD
          have o_s182 := ow_set o_s130 138 (.int 1) (by decide) (l' := [(138, .int 1), (97, .int Va0), (0, .int 0), (82, .int (-1)), (81, .int 0), (80, .int 0), (83, .int 0), (80, .int 0), (85, .long 0), (79, .int 0), (78, .int 0), (3, .int 0), (78, .int 0), (84, .int (-1)), (83, .int 0), (94, .int 0), (93, .int 0), (92, .int 0), (91, .int 0), (3, .int 0), (134, .int 0), (133, .int 0), (3, .int 0), (48, .ref Ad1), (129, .ref Ad2)]) (w' := [138, 97, 0, 82, 81, 80, 85, 79, 78, 84, 83, 94, 93, 92, 91, 134, 133]) rfl rfl
          generalize (s130.set 138 (.int 1)) = s182 at hP hD o_s182
          refine lv_aload_n hx hb dX12_rules_175 rfl (lv_at hl 1 rfl) ?_
          refine va_get (D := (dC, dI)) (ci := 15) (v := .int 1) (C := RX12) (T := TX12) (N := 150) hx hb hts (in_z_X12_rules_X12) hown hK hP 2 rfl rfl 138 (by decide) (hts (.fieldLink RX12 933 "HeapWorksModel" "grows" "Z") (by decide +kernel)) (fun _ h9 => h9) (ow_at o_s182 0 rfl) dX12_rules_176 ?_
          refine lv_if_eq (tgt := 234) hx hb dX12_rules_179 (by decide) (fun c183 => absurd c183 (by decide)) (fun c183 => ?_)
          refine lv_aload_n hx hb dX12_rules_182 rfl (lv_at hl 1 rfl) ?_
          refine lv_iconst (v := 0) hx hb dX12_rules_183 (by decide) ?_
          refine va_put (D := (dC, dI)) (ci := 15) (v := .int 0) (ty := .boolean) (C := RX12) (T := TX12) (N := 150) hx hb hts (in_z_X12_rules_X12) tyX12 tyX12_ok nmX12 hown hK hP hD hS 2 rfl rfl 138 (by decide) (hts (.fieldLink RX12 933 "HeapWorksModel" "grows" "Z") (by decide +kernel)) (fun _ h9 => h9) rfl (by decide +kernel) rfl rfl (by rw [o_s182.2.1]; decide) dX12_rules_184 (fun H locs hP hD hS => ?_)
          have hP : va_P (dC, dI) vwCl [(Ad2, .inl (Ka1, 240, .inl f173)), (Ad1, .inl (Ka0, 5, .inl Fa0)), (Ad0, .inr (15, (s182.set 138 (.int 0))))] H := hP
          have hD : va_D A [(Ad2, .inl (Ka1, 240, .inl f173)), (Ad1, .inl (Ka0, 5, .inl Fa0)), (Ad0, .inr (15, (s182.set 138 (.int 0))))] := hD
          have o_s184 := ow_set o_s182 138 (.int 0) (by decide) (l' := [(138, .int 0), (97, .int Va0), (0, .int 0), (82, .int (-1)), (81, .int 0), (80, .int 0), (83, .int 0), (80, .int 0), (85, .long 0), (79, .int 0), (78, .int 0), (3, .int 0), (78, .int 0), (84, .int (-1)), (83, .int 0), (94, .int 0), (93, .int 0), (92, .int 0), (91, .int 0), (3, .int 0), (134, .int 0), (133, .int 0), (3, .int 0), (48, .ref Ad1), (129, .ref Ad2)]) (w' := [138, 97, 0, 82, 81, 80, 85, 79, 78, 84, 83, 94, 93, 92, 91, 134, 133]) rfl rfl
          generalize (s182.set 138 (.int 0)) = s184 at hP hD o_s184
          refine lv_iconst (v := 0) hx hb dX12_rules_187 (by decide) ?_
          refine lv_istore_n (lv' := [(2, .int 0), (0, .ref Ad0), (1, .int Va0)]) hx hb dX12_rules_188 rfl hl (by decide) rfl (fun ls hl => ?_)
          refine lv_iload_n hx hb dX12_rules_189 rfl (lv_at hl 0 rfl) ?_
          refine lv_aload_n hx hb dX12_rules_190 rfl (lv_at hl 1 rfl) ?_
          refine va_get (D := (dC, dI)) (ci := 15) (v := .int 0) (C := RX12) (T := TX12) (N := 150) hx hb hts (in_z_X12_rules_X12) hown hK hP 2 rfl rfl 134 (by decide) (hts (.fieldLink RX12 908 "HeapWorksModel" "rules" "I") (by decide +kernel)) (fun _ h9 => h9) (ow_at o_s184 20 rfl) dX12_rules_191 ?_
          refine lv_icmp_ge (tgt := 231) hx hb dX12_rules_194 (by decide) (fun c185 => ?_) (fun c185 => absurd c185 (by decide))
          refine lv_goto (tgt := 175) hx hb dX12_rules_231 (by decide) ?_
          refine lv_aload_n hx hb dX12_rules_175 rfl (lv_at hl 1 rfl) ?_
          refine va_get (D := (dC, dI)) (ci := 15) (v := .int 0) (C := RX12) (T := TX12) (N := 150) hx hb hts (in_z_X12_rules_X12) hown hK hP 2 rfl rfl 138 (by decide) (hts (.fieldLink RX12 933 "HeapWorksModel" "grows" "Z") (by decide +kernel)) (fun _ h9 => h9) (ow_at o_s184 0 rfl) dX12_rules_176 ?_
          refine lv_if_eq (tgt := 234) hx hb dX12_rules_179 (by decide) (fun c186 => ?_) (fun c186 => absurd c186 (by decide))
          refine lv_iconst (v := 0) hx hb dX12_rules_234 (by decide) ?_
          refine lv_istore_n (lv' := [(2, .int 0), (0, .ref Ad0), (1, .int Va0)]) hx hb dX12_rules_235 rfl hl (by decide) rfl (fun ls hl => ?_)
          refine lv_iconst (v := 0) hx hb dX12_rules_236 (by decide) ?_
          refine lv_istore_n (lv' := [(3, .int 0), (2, .int 0), (0, .ref Ad0), (1, .int Va0)]) hx hb dX12_rules_237 rfl hl (by decide) rfl (fun ls hl => ?_)
          refine lv_iload_n hx hb dX12_rules_238 rfl (lv_at hl 0 rfl) ?_
          refine lv_aload_n hx hb dX12_rules_239 rfl (lv_at hl 2 rfl) ?_
          refine va_get (D := (dC, dI)) (ci := 15) (v := .int 0) (C := RX12) (T := TX12) (N := 150) hx hb hts (in_z_X12_rules_X12) hown hK hP 2 rfl rfl 133 (by decide) (hts (.fieldLink RX12 905 "HeapWorksModel" "relations" "I") (by decide +kernel)) (fun _ h9 => h9) (ow_at o_s184 21 rfl) dX12_rules_240 ?_
          refine lv_icmp_ge (tgt := 260) hx hb dX12_rules_243 (by decide) (fun c187 => ?_) (fun c187 => absurd c187 (by decide))
          refine lv_iload_n hx hb dX12_rules_260 rfl (lv_at hl 1 rfl) ?_
          have hP9 := hP.sub (ws' := [(Ad0, .inr (15, s184)), (Ad1, .inl (Ka0, 5, .inl Fa0)), (Ad2, .inl (Ka1, 240, .inl f173))]) [2, 1, 0] rfl
          have hD9 := hD.sub (ws' := [(Ad0, .inr (15, s184)), (Ad1, .inl (Ka0, 5, .inl Fa0)), (Ad2, .inl (Ka1, 240, .inl f173))]) [2, 1, 0] (by decide) rfl
          have hK9 := hK.sub (tys' := [(Ka0, .int), (Ka1, .boolean)]) [1, 0] rfl
          exact W.iret (v := 0) hx hb hr (fun t ht hW => ⟨⟨0, (s184, f173), rfl, (Or.inr (Or.inr (⟨c107, c108, rfl, o_s184⟩))), by rw [ht]; exact hP9, va_K.moved hW.alike hK9, hD9⟩, hS.F ht⟩) hS.2.2 dX12_rules_261
        · skip
          refine lv_aload_n hx hb dX12_rules_130 rfl (lv_at hl 1 rfl) ?_
          refine va_get (D := (dC, dI)) (ci := 15) (v := .ref Ad2) (C := RX12) (T := TX12) (N := 150) hx hb hts (in_z_X12_rules_X12) hown hK hP 2 rfl rfl 129 (by decide) (hts (.fieldLink RX12 357 "HeapWorksModel" "factOne" "[Z") (by decide +kernel)) (fun _ h9 => h9) (ow_at o_s130 23 rfl) dX12_rules_131 ?_
          refine lv_iload_n hx hb dX12_rules_134 rfl (lv_at hl 0 rfl) ?_
          refine lv_iconst (v := 0) hx hb dX12_rules_135 (by decide) ?_
          refine va_zast hx hb hK hP hD hS 0 0 rfl rfl (by rw [vp_in_iff]; (try simp only [i_lt, i_le, i_eq, kc_240] at t175 h177 h176 c179); omega) dX12_rules_136 (fun H locs hP hD hS => ?_)
          have hP : va_P (dC, dI) vwCl [(Ad2, .inl (Ka1, 240, .inl (upd f173 (x172 : Int32).toNatClampNeg (vp_nar .boolean 0)))), (Ad1, .inl (Ka0, 5, .inl Fa0)), (Ad0, .inr (15, s130))] H := hP
          have hD : va_D A [(Ad2, .inl (Ka1, 240, .inl (upd f173 (x172 : Int32).toNatClampNeg (vp_nar .boolean 0)))), (Ad1, .inl (Ka0, 5, .inl Fa0)), (Ad0, .inr (15, s130))] := hD
          have q189 : (upd f173 (x172 : Int32).toNatClampNeg (vp_nar .boolean 0)) (x172 : Int32).toNatClampNeg = 0 := (pk_us.trans (by decide))
          generalize upd f173 (x172 : Int32).toNatClampNeg (vp_nar .boolean 0) = f188 at hP hD q189
          obtain ⟨x190, ex190⟩ : ∃ y : Int32, y = x172 + 1 := ⟨_, rfl⟩
          refine lv_iinc (v := x190) (lv' := [(2, .int x190), (0, .ref Ad0), (1, .int Va0)]) hx hb dX12_rules_137 hl (k := 0) rfl (by rw [ex190]; rfl) (by decide) rfl (fun ls hl => ?_)
          have tx190 : x190.toInt = x172.toInt + (1 : Int32).toInt := by rw [ex190]; exact i_add (by have bd_x172 := i_bd x172; (try simp only [i_lt, i_le, i_eq, kc_240, kc_1] at t175 h177 h176 c179 ⊢); omega) (by have bd_x172 := i_bd x172; (try simp only [i_lt, i_le, i_eq, kc_240, kc_1] at t175 h177 h176 c179 ⊢); omega)
          refine lv_goto (tgt := 123) hx hb dX12_rules_140 (by decide) ?_
          exact ih (j171 + 1) x190 f188 (by rw [ex190, e174]; exact nI_1 _) (by omega) (by (try simp only [i_lt, i_le, i_eq, kc_240, kc_1] at t175 h177 h176 c179 tx190); omega) (by omega)  _ _ _ (hP.sub [0, 1, 2] rfl) (hD.sub [0, 1, 2] (by decide) rfl) hS  (lv_sub hl [0, 1, 2] rfl)
    exact HL1 241 0 (0) Fa1 (by decide) (by omega) (by omega) (by omega)  _ _ _ hP hD hS  hl

def l_z_X12_facts : List Cond := [.fieldLink RX12 388 "HeapWorksModel" "thrown" "I", .fieldLink RX12 905 "HeapWorksModel" "relations" "I"]
def w_z_X12_facts : List Cond := .code yX12_facts cX12_facts 2 (some .int) :: (l_z_X12_facts ++ (wsX120))
theorem in_z_X12_facts_X12 : ∀ w ∈ wsX120, w ∈ w_z_X12_facts := fun w h => List.mem_cons_of_mem _ (List.mem_append_right _ (h))
set_option maxHeartbeats 4000000 in
set_option maxRecDepth 100000 in
theorem z_X12_facts (l : Launch) (dC : Nat → ClassId) (dI : Nat → Nat → Nat) (sz : Nat) (Ad0 : Nat) (Fs0 : List Value) (Va0 : Int32) (k_Fs0 : fh Fs0 150 [(133, .int 0)])  : Met l yX12_facts w_z_X12_facts ({ frames := 0, cells := 0, slots := 0, locals := 0 }) (va_Pc [.ref Ad0, .int Va0] (fun U => U.heap.size = sz ∧ Wd dC dI [] (fun _ => True) [(Ad0, .inr (15, Fs0))] U)) (va_Qi (fun (r : Int32) (u : List Value) => (Va0 < 0 ∧ r = (-1) ∧ ow Fs0 (u) 150 [0] [(0, .int 0), (133, .int 0)]) ∨ (¬ Va0 < 0 ∧ 0 ≤ Va0 ∧ r = (-1) ∧ ow Fs0 (u) 150 [0] [(0, .int 0), (133, .int 0)])) (fun (u : List Value) t => Wd dC dI [] (va_A [(Ad0, .inr (15, Fs0))] sz) [(Ad0, .inr (15, (u)))] t) (va_A [(Ad0, .inr (15, Fs0))] sz))  0 0 (va_A [(Ad0, .inr (15, Fs0))] sz) := by
  refine Met.ofW (cc := cX12_facts) (maxL := 2) (ret := (some .int)) (by decide) rfl ?_
  intro p e s m args below meth c s₁ B hml hv
  obtain ⟨rfl, hsz, hP, hK, hD0⟩ := hv
  have hx := B.exec
  have hb := B.bytes
  have hr := B.returns
  have hts := atoms_spec (ws := w_z_X12_facts) B.pre
  have hown : s.vm.findClass RX12 = some m.cls := findClass_of_methodNamed B.named
  have hlocks := B.notSynchronized
  subst hsz
  have hD := hD0.self (sz := s.heap.size)
  generalize hAe : va_A [(Ad0, .inr (15, Fs0))] s.heap.size = A at hD ⊢
  have hA : ∀ q : Nat, s.heap.size ≤ q → A q := fun q h => by rw [← hAe]; exact Or.inr h
  have hS : va_S A s.heap s.heap [] := va_S.rf
  have hl := lv_entry ([.ref Ad0, .int Va0]) (n := 2) (Nat.le_of_ble_eq_true rfl)
  rw [lg_entry_eq]
  generalize (lg_sl ([.ref Ad0, .int Va0]) ++ List.replicate (2 - (lg_sl ([.ref Ad0, .int Va0])).length) Slot.unset).toArray = ls at hl ⊢
  have hl : lv_has ls 2 [(0, .ref Ad0), (1, .int Va0)] := hl
  have o_Fs0 := ow_0 k_Fs0
  refine lv_aload_n hx hb dX12_facts_0 rfl (lv_at hl 0 rfl) ?_
  refine lv_iconst (v := 0) hx hb dX12_facts_1 (by decide) ?_
  refine va_put (D := (dC, dI)) (ci := 15) (v := .int 0) (ty := .int) (C := RX12) (T := TX12) (N := 150) hx hb hts (in_z_X12_facts_X12) tyX12 tyX12_ok nmX12 hown hK hP hD hS 0 rfl rfl 0 (by decide) (hts (.fieldLink RX12 388 "HeapWorksModel" "thrown" "I") (by decide +kernel)) (fun _ h9 => h9) rfl (by decide +kernel) rfl rfl (by rw [o_Fs0.2.1]; decide) dX12_facts_2 (fun H locs hP hD hS => ?_)
  have hP : va_P (dC, dI) vwCl [(Ad0, .inr (15, (Fs0.set 0 (.int 0))))] H := hP
  have hD : va_D A [(Ad0, .inr (15, (Fs0.set 0 (.int 0))))] := hD
  have o_s101 := ow_set o_Fs0 0 (.int 0) (by decide) (l' := [(0, .int 0), (133, .int 0)]) (w' := [0]) rfl rfl
  generalize (Fs0.set 0 (.int 0)) = s101 at hP hD o_s101
  refine lv_iload_n hx hb dX12_facts_5 rfl (lv_at hl 1 rfl) ?_
  refine lv_if_lt (tgt := 25) hx hb dX12_facts_6 (by decide) (fun c102 => ?_) (fun c102 => ?_)
  · skip
    refine lv_iconst (v := (-1)) hx hb dX12_facts_25 (by decide) ?_
    have hP9 := hP.sub (ws' := [(Ad0, .inr (15, s101))]) [0] rfl
    have hD9 := hD.sub (ws' := [(Ad0, .inr (15, s101))]) [0] (by decide) rfl
    have hK9 := hK.sub (tys' := []) [] rfl
    exact W.iret (v := (-1)) hx hb hr (fun t ht hW => ⟨⟨(-1), s101, rfl, (Or.inl ⟨c102, rfl, o_s101⟩), by rw [ht]; exact hP9, va_K.moved hW.alike hK9, hD9⟩, hS.F ht⟩) hS.2.2 dX12_facts_26
  · skip
    refine lv_iload_n hx hb dX12_facts_9 rfl (lv_at hl 1 rfl) ?_
    refine lv_aload_n hx hb dX12_facts_10 rfl (lv_at hl 0 rfl) ?_
    refine va_get (D := (dC, dI)) (ci := 15) (v := .int 0) (C := RX12) (T := TX12) (N := 150) hx hb hts (in_z_X12_facts_X12) hown hK hP 0 rfl rfl 133 (by decide) (hts (.fieldLink RX12 905 "HeapWorksModel" "relations" "I") (by decide +kernel)) (fun _ h9 => h9) (ow_at o_s101 1 rfl) dX12_facts_11 ?_
    refine lv_icmp_ge (tgt := 25) hx hb dX12_facts_14 (by decide) (fun c103 => ?_) (fun c103 => (by exfalso; have bd_Va0 := i_bd Va0; (try simp only [i_lt, i_le, i_eq, kc_0] at c102 c103); omega))
    refine lv_iconst (v := (-1)) hx hb dX12_facts_25 (by decide) ?_
    have hP9 := hP.sub (ws' := [(Ad0, .inr (15, s101))]) [0] rfl
    have hD9 := hD.sub (ws' := [(Ad0, .inr (15, s101))]) [0] (by decide) rfl
    have hK9 := hK.sub (tys' := []) [] rfl
    exact W.iret (v := (-1)) hx hb hr (fun t ht hW => ⟨⟨(-1), s101, rfl, (Or.inr (⟨c102, c103, rfl, o_s101⟩)), by rw [ht]; exact hP9, va_K.moved hW.alike hK9, hD9⟩, hS.F ht⟩) hS.2.2 dX12_facts_26

def l_z_X12_isFact : List Cond := [.fieldLink RX12 388 "HeapWorksModel" "thrown" "I", .fieldLink RX12 905 "HeapWorksModel" "relations" "I"]
def w_z_X12_isFact : List Cond := .code yX12_isFact cX12_isFact 5 (some .boolean) :: (l_z_X12_isFact ++ (wsX120))
theorem in_z_X12_isFact_X12 : ∀ w ∈ wsX120, w ∈ w_z_X12_isFact := fun w h => List.mem_cons_of_mem _ (List.mem_append_right _ (h))
set_option maxHeartbeats 4000000 in
set_option maxRecDepth 100000 in
theorem z_X12_isFact (l : Launch) (dC : Nat → ClassId) (dI : Nat → Nat → Nat) (sz : Nat) (Ad0 : Nat) (Fs0 : List Value) (Va0 : Int32) (Va1 : Int32) (Va2 : Int32) (k_Fs0 : fh Fs0 150 [(0, .int 0), (133, .int 0)])  : Met l yX12_isFact w_z_X12_isFact ({ frames := 0, cells := 0, slots := 0, locals := 0 }) (va_Pc [.ref Ad0, .int Va0, .int Va1, .int Va2] (fun U => U.heap.size = sz ∧ Wd dC dI [] (fun _ => True) [(Ad0, .inr (15, Fs0))] U)) (va_Qi (fun (r : Int32) (u : List Value) => (Va0 < 0 ∧ r = 0 ∧ ow Fs0 (u) 150 [0] [(0, .int 1), (133, .int 0)]) ∨ (¬ Va0 < 0 ∧ ¬ Va0 < 0 ∧ r = 0 ∧ ow Fs0 (u) 150 [0] [(0, .int 1), (133, .int 0)])) (fun (u : List Value) t => Wd dC dI [] (va_A [(Ad0, .inr (15, Fs0))] sz) [(Ad0, .inr (15, (u)))] t) (va_A [(Ad0, .inr (15, Fs0))] sz))  0 0 (va_A [(Ad0, .inr (15, Fs0))] sz) := by
  refine Met.ofW (cc := cX12_isFact) (maxL := 5) (ret := (some .boolean)) (by decide) rfl ?_
  intro p e s m args below meth c s₁ B hml hv
  obtain ⟨rfl, hsz, hP, hK, hD0⟩ := hv
  have hx := B.exec
  have hb := B.bytes
  have hr := B.returns
  have hts := atoms_spec (ws := w_z_X12_isFact) B.pre
  have hown : s.vm.findClass RX12 = some m.cls := findClass_of_methodNamed B.named
  have hlocks := B.notSynchronized
  subst hsz
  have hD := hD0.self (sz := s.heap.size)
  generalize hAe : va_A [(Ad0, .inr (15, Fs0))] s.heap.size = A at hD ⊢
  have hA : ∀ q : Nat, s.heap.size ≤ q → A q := fun q h => by rw [← hAe]; exact Or.inr h
  have hS : va_S A s.heap s.heap [] := va_S.rf
  have hl := lv_entry ([.ref Ad0, .int Va0, .int Va1, .int Va2]) (n := 5) (Nat.le_of_ble_eq_true rfl)
  rw [lg_entry_eq]
  generalize (lg_sl ([.ref Ad0, .int Va0, .int Va1, .int Va2]) ++ List.replicate (5 - (lg_sl ([.ref Ad0, .int Va0, .int Va1, .int Va2])).length) Slot.unset).toArray = ls at hl ⊢
  have hl : lv_has ls 5 [(0, .ref Ad0), (1, .int Va0), (2, .int Va1), (3, .int Va2)] := hl
  have o_Fs0 := ow_0 k_Fs0
  refine lv_aload_n hx hb dX12_isFact_0 rfl (lv_at hl 0 rfl) ?_
  refine lv_iload_n hx hb dX12_isFact_1 rfl (lv_at hl 1 rfl) ?_
  refine lv_if_lt (tgt := 13) hx hb dX12_isFact_2 (by decide) (fun c101 => ?_) (fun c101 => ?_)
  · skip
    refine lv_iconst (v := 1) hx hb dX12_isFact_13 (by decide) ?_
    refine lv_goto (tgt := 18) hx hb dX12_isFact_14 (by decide) ?_
    refine va_put (D := (dC, dI)) (ci := 15) (v := .int 1) (ty := .int) (C := RX12) (T := TX12) (N := 150) hx hb hts (in_z_X12_isFact_X12) tyX12 tyX12_ok nmX12 hown hK hP hD hS 0 rfl rfl 0 (by decide) (hts (.fieldLink RX12 388 "HeapWorksModel" "thrown" "I") (by decide +kernel)) (fun _ h9 => h9) rfl (by decide +kernel) rfl rfl (by rw [o_Fs0.2.1]; decide) dX12_isFact_18 (fun H locs hP hD hS => ?_)
    have hP : va_P (dC, dI) vwCl [(Ad0, .inr (15, (Fs0.set 0 (.int 1))))] H := hP
    have hD : va_D A [(Ad0, .inr (15, (Fs0.set 0 (.int 1))))] := hD
    have o_s102 := ow_set o_Fs0 0 (.int 1) (by decide) (l' := [(0, .int 1), (133, .int 0)]) (w' := [0]) rfl rfl
    generalize (Fs0.set 0 (.int 1)) = s102 at hP hD o_s102
    refine lv_aload_n hx hb dX12_isFact_21 rfl (lv_at hl 0 rfl) ?_
    refine va_get (D := (dC, dI)) (ci := 15) (v := .int 1) (C := RX12) (T := TX12) (N := 150) hx hb hts (in_z_X12_isFact_X12) hown hK hP 0 rfl rfl 0 (by decide) (hts (.fieldLink RX12 388 "HeapWorksModel" "thrown" "I") (by decide +kernel)) (fun _ h9 => h9) (ow_at o_s102 0 rfl) dX12_isFact_22 ?_
    refine lv_if_le (tgt := 30) hx hb dX12_isFact_25 (by decide) (fun c103 => absurd c103 (by decide)) (fun c103 => ?_)
    refine lv_iconst (v := 0) hx hb dX12_isFact_28 (by decide) ?_
    have hP9 := hP.sub (ws' := [(Ad0, .inr (15, s102))]) [0] rfl
    have hD9 := hD.sub (ws' := [(Ad0, .inr (15, s102))]) [0] (by decide) rfl
    have hK9 := hK.sub (tys' := []) [] rfl
    exact W.zret (v := 0) hx hb hr rfl (fun t ht hW => ⟨⟨0, s102, rfl, (Or.inl ⟨c101, rfl, o_s102⟩), by rw [ht]; exact hP9, va_K.moved hW.alike hK9, hD9⟩, hS.F ht⟩) hS.2.2 dX12_isFact_29
  · skip
    refine lv_iload_n hx hb dX12_isFact_5 rfl (lv_at hl 1 rfl) ?_
    refine lv_aload_n hx hb dX12_isFact_6 rfl (lv_at hl 0 rfl) ?_
    refine va_get (D := (dC, dI)) (ci := 15) (v := .int 0) (C := RX12) (T := TX12) (N := 150) hx hb hts (in_z_X12_isFact_X12) hown hK hP 0 rfl rfl 133 (by decide) (hts (.fieldLink RX12 905 "HeapWorksModel" "relations" "I") (by decide +kernel)) (fun _ h9 => h9) (ow_at o_Fs0 1 rfl) dX12_isFact_7 ?_
    refine lv_icmp_lt (tgt := 17) hx hb dX12_isFact_10 (by decide) (fun c104 => (by exfalso; have bd_Va0 := i_bd Va0; (try simp only [i_lt, i_le, i_eq, kc_0] at c101 c104); omega)) (fun c104 => ?_)
    refine lv_iconst (v := 1) hx hb dX12_isFact_13 (by decide) ?_
    refine lv_goto (tgt := 18) hx hb dX12_isFact_14 (by decide) ?_
    refine va_put (D := (dC, dI)) (ci := 15) (v := .int 1) (ty := .int) (C := RX12) (T := TX12) (N := 150) hx hb hts (in_z_X12_isFact_X12) tyX12 tyX12_ok nmX12 hown hK hP hD hS 0 rfl rfl 0 (by decide) (hts (.fieldLink RX12 388 "HeapWorksModel" "thrown" "I") (by decide +kernel)) (fun _ h9 => h9) rfl (by decide +kernel) rfl rfl (by rw [o_Fs0.2.1]; decide) dX12_isFact_18 (fun H locs hP hD hS => ?_)
    have hP : va_P (dC, dI) vwCl [(Ad0, .inr (15, (Fs0.set 0 (.int 1))))] H := hP
    have hD : va_D A [(Ad0, .inr (15, (Fs0.set 0 (.int 1))))] := hD
    have o_s105 := ow_set o_Fs0 0 (.int 1) (by decide) (l' := [(0, .int 1), (133, .int 0)]) (w' := [0]) rfl rfl
    generalize (Fs0.set 0 (.int 1)) = s105 at hP hD o_s105
    refine lv_aload_n hx hb dX12_isFact_21 rfl (lv_at hl 0 rfl) ?_
    refine va_get (D := (dC, dI)) (ci := 15) (v := .int 1) (C := RX12) (T := TX12) (N := 150) hx hb hts (in_z_X12_isFact_X12) hown hK hP 0 rfl rfl 0 (by decide) (hts (.fieldLink RX12 388 "HeapWorksModel" "thrown" "I") (by decide +kernel)) (fun _ h9 => h9) (ow_at o_s105 0 rfl) dX12_isFact_22 ?_
    refine lv_if_le (tgt := 30) hx hb dX12_isFact_25 (by decide) (fun c106 => absurd c106 (by decide)) (fun c106 => ?_)
    refine lv_iconst (v := 0) hx hb dX12_isFact_28 (by decide) ?_
    have hP9 := hP.sub (ws' := [(Ad0, .inr (15, s105))]) [0] rfl
    have hD9 := hD.sub (ws' := [(Ad0, .inr (15, s105))]) [0] (by decide) rfl
    have hK9 := hK.sub (tys' := []) [] rfl
    exact W.zret (v := 0) hx hb hr rfl (fun t ht hW => ⟨⟨0, s105, rfl, (Or.inr (⟨c101, c104, rfl, o_s105⟩)), by rw [ht]; exact hP9, va_K.moved hW.alike hK9, hD9⟩, hS.F ht⟩) hS.2.2 dX12_isFact_29

def l_z_X12_fault : List Cond := [.fieldLink RX12 388 "HeapWorksModel" "thrown" "I", .fieldLink RX12 268 "HeapWorksModel" "faultAt" "I", .fieldLink RX12 776 "HeapWorksModel" "fault" "I"]
def w_z_X12_fault : List Cond := .code yX12_fault cX12_fault 2 (some .int) :: (l_z_X12_fault ++ (wsX120))
theorem in_z_X12_fault_X12 : ∀ w ∈ wsX120, w ∈ w_z_X12_fault := fun w h => List.mem_cons_of_mem _ (List.mem_append_right _ (h))
set_option maxHeartbeats 4000000 in
set_option maxRecDepth 100000 in
theorem z_X12_fault (l : Launch) (dC : Nat → ClassId) (dI : Nat → Nat → Nat) (sz : Nat) (Ad0 : Nat) (Fs0 : List Value) (Va0 : Int32) (k_Fs0 : fh Fs0 150 [(81, .int 0), (82, .int (-1))])  : Met l yX12_fault w_z_X12_fault ({ frames := 0, cells := 0, slots := 0, locals := 0 }) (va_Pc [.ref Ad0, .int Va0] (fun U => U.heap.size = sz ∧ Wd dC dI [] (fun _ => True) [(Ad0, .inr (15, Fs0))] U)) (va_Qi (fun (r : Int32) (u : List Value) => (¬ Va0 = 0 ∧ ¬ Va0 = 1 ∧ r = (-1) ∧ ow Fs0 (u) 150 [0] [(0, .int 0), (81, .int 0), (82, .int (-1))]) ∨ (¬ Va0 = 0 ∧ Va0 = 1 ∧ r = (-1) ∧ ow Fs0 (u) 150 [0] [(0, .int 0), (81, .int 0), (82, .int (-1))]) ∨ (Va0 = 0 ∧ r = 0 ∧ ow Fs0 (u) 150 [0] [(0, .int 0), (81, .int 0), (82, .int (-1))])) (fun (u : List Value) t => Wd dC dI [] (va_A [(Ad0, .inr (15, Fs0))] sz) [(Ad0, .inr (15, (u)))] t) (va_A [(Ad0, .inr (15, Fs0))] sz))  0 0 (va_A [(Ad0, .inr (15, Fs0))] sz) := by
  refine Met.ofW (cc := cX12_fault) (maxL := 2) (ret := (some .int)) (by decide) rfl ?_
  intro p e s m args below meth c s₁ B hml hv
  obtain ⟨rfl, hsz, hP, hK, hD0⟩ := hv
  have hx := B.exec
  have hb := B.bytes
  have hr := B.returns
  have hts := atoms_spec (ws := w_z_X12_fault) B.pre
  have hown : s.vm.findClass RX12 = some m.cls := findClass_of_methodNamed B.named
  have hlocks := B.notSynchronized
  subst hsz
  have hD := hD0.self (sz := s.heap.size)
  generalize hAe : va_A [(Ad0, .inr (15, Fs0))] s.heap.size = A at hD ⊢
  have hA : ∀ q : Nat, s.heap.size ≤ q → A q := fun q h => by rw [← hAe]; exact Or.inr h
  have hS : va_S A s.heap s.heap [] := va_S.rf
  have hl := lv_entry ([.ref Ad0, .int Va0]) (n := 2) (Nat.le_of_ble_eq_true rfl)
  rw [lg_entry_eq]
  generalize (lg_sl ([.ref Ad0, .int Va0]) ++ List.replicate (2 - (lg_sl ([.ref Ad0, .int Va0])).length) Slot.unset).toArray = ls at hl ⊢
  have hl : lv_has ls 2 [(0, .ref Ad0), (1, .int Va0)] := hl
  have o_Fs0 := ow_0 k_Fs0
  refine lv_aload_n hx hb dX12_fault_0 rfl (lv_at hl 0 rfl) ?_
  refine lv_iconst (v := 0) hx hb dX12_fault_1 (by decide) ?_
  refine va_put (D := (dC, dI)) (ci := 15) (v := .int 0) (ty := .int) (C := RX12) (T := TX12) (N := 150) hx hb hts (in_z_X12_fault_X12) tyX12 tyX12_ok nmX12 hown hK hP hD hS 0 rfl rfl 0 (by decide) (hts (.fieldLink RX12 388 "HeapWorksModel" "thrown" "I") (by decide +kernel)) (fun _ h9 => h9) rfl (by decide +kernel) rfl rfl (by rw [o_Fs0.2.1]; decide) dX12_fault_2 (fun H locs hP hD hS => ?_)
  have hP : va_P (dC, dI) vwCl [(Ad0, .inr (15, (Fs0.set 0 (.int 0))))] H := hP
  have hD : va_D A [(Ad0, .inr (15, (Fs0.set 0 (.int 0))))] := hD
  have o_s101 := ow_set o_Fs0 0 (.int 0) (by decide) (l' := [(0, .int 0), (81, .int 0), (82, .int (-1))]) (w' := [0]) rfl rfl
  generalize (Fs0.set 0 (.int 0)) = s101 at hP hD o_s101
  refine lv_iload_n hx hb dX12_fault_5 rfl (lv_at hl 1 rfl) ?_
  refine lv_if_ne (tgt := 16) hx hb dX12_fault_6 (by decide) (fun c102 => ?_) (fun c102 => ?_)
  · skip
    refine lv_iload_n hx hb dX12_fault_16 rfl (lv_at hl 1 rfl) ?_
    refine lv_iconst (v := 1) hx hb dX12_fault_17 (by decide) ?_
    refine lv_icmp_ne (tgt := 28) hx hb dX12_fault_18 (by decide) (fun c103 => ?_) (fun c103 => ?_)
    · skip
      refine lv_iconst (v := (-1)) hx hb dX12_fault_28 (by decide) ?_
      have hP9 := hP.sub (ws' := [(Ad0, .inr (15, s101))]) [0] rfl
      have hD9 := hD.sub (ws' := [(Ad0, .inr (15, s101))]) [0] (by decide) rfl
      have hK9 := hK.sub (tys' := []) [] rfl
      exact W.iret (v := (-1)) hx hb hr (fun t ht hW => ⟨⟨(-1), s101, rfl, (Or.inl ⟨c102, c103, rfl, o_s101⟩), by rw [ht]; exact hP9, va_K.moved hW.alike hK9, hD9⟩, hS.F ht⟩) hS.2.2 dX12_fault_29
    · skip
      refine lv_aload_n hx hb dX12_fault_21 rfl (lv_at hl 0 rfl) ?_
      refine va_get (D := (dC, dI)) (ci := 15) (v := .int (-1)) (C := RX12) (T := TX12) (N := 150) hx hb hts (in_z_X12_fault_X12) hown hK hP 0 rfl rfl 82 (by decide) (hts (.fieldLink RX12 268 "HeapWorksModel" "faultAt" "I") (by decide +kernel)) (fun _ h9 => h9) (ow_at o_s101 2 rfl) dX12_fault_22 ?_
      refine lv_goto (tgt := 29) hx hb dX12_fault_25 (by decide) ?_
      have hP9 := hP.sub (ws' := [(Ad0, .inr (15, s101))]) [0] rfl
      have hD9 := hD.sub (ws' := [(Ad0, .inr (15, s101))]) [0] (by decide) rfl
      have hK9 := hK.sub (tys' := []) [] rfl
      exact W.iret (v := (-1)) hx hb hr (fun t ht hW => ⟨⟨(-1), s101, rfl, (Or.inr (Or.inl ⟨c102, c103, rfl, o_s101⟩)), by rw [ht]; exact hP9, va_K.moved hW.alike hK9, hD9⟩, hS.F ht⟩) hS.2.2 dX12_fault_29
  · skip
    refine lv_aload_n hx hb dX12_fault_9 rfl (lv_at hl 0 rfl) ?_
    refine va_get (D := (dC, dI)) (ci := 15) (v := .int 0) (C := RX12) (T := TX12) (N := 150) hx hb hts (in_z_X12_fault_X12) hown hK hP 0 rfl rfl 81 (by decide) (hts (.fieldLink RX12 776 "HeapWorksModel" "fault" "I") (by decide +kernel)) (fun _ h9 => h9) (ow_at o_s101 1 rfl) dX12_fault_10 ?_
    refine lv_goto (tgt := 29) hx hb dX12_fault_13 (by decide) ?_
    have hP9 := hP.sub (ws' := [(Ad0, .inr (15, s101))]) [0] rfl
    have hD9 := hD.sub (ws' := [(Ad0, .inr (15, s101))]) [0] (by decide) rfl
    have hK9 := hK.sub (tys' := []) [] rfl
    exact W.iret (v := 0) hx hb hr (fun t ht hW => ⟨⟨0, s101, rfl, (Or.inr (Or.inr (⟨c102, rfl, o_s101⟩))), by rw [ht]; exact hP9, va_K.moved hW.alike hK9, hD9⟩, hS.F ht⟩) hS.2.2 dX12_fault_29

def l_z_X12_putNumber : List Cond := [.constantLong RX12 951 (127), .fieldLink RX12 953 "HeapWorksModel" "rowEnd" "I", .fieldLink RX12 369 "HeapWorksModel" "row0" "[B"]
def w_z_X12_putNumber : List Cond := .code yX12_putNumber cX12_putNumber 6 none :: (l_z_X12_putNumber ++ (wsX120))
theorem in_z_X12_putNumber_X12 : ∀ w ∈ wsX120, w ∈ w_z_X12_putNumber := fun w h => List.mem_cons_of_mem _ (List.mem_append_right _ (h))
set_option maxHeartbeats 4000000 in
set_option maxRecDepth 100000 in
theorem z_X12_putNumber (l : Launch) (dC : Nat → ClassId) (dI : Nat → Nat → Nat) (sz : Nat) (Ad0 : Nat) (Fs0 : List Value) (Ad1 : Nat) (Fa0 : Nat → Int32) (Ka0 : ClassId) (k_Fs0 : fh Fs0 150 [(141, .int 0), (139, .ref Ad1)])  : Met l yX12_putNumber w_z_X12_putNumber ({ frames := 0, cells := 0, slots := 0, locals := 0 }) (va_Pc [.ref Ad0, .long 72] (fun U => U.heap.size = sz ∧ Wd dC dI [(Ka0, .byte)] (fun _ => True) [(Ad0, .inr (15, Fs0)), (Ad1, .inl (Ka0, 9000, .inl Fa0))] U)) (va_Qv (fun (u : List Value × (Nat → Int32)) => (ow Fs0 (u.1) 150 [141] [(141, .int 1), (139, .ref Ad1)] ∧ (u.2) (0 : Int32).toNatClampNeg = 72)) (fun (u : List Value × (Nat → Int32)) t => Wd dC dI [(Ka0, .byte)] (va_A [(Ad0, .inr (15, Fs0)), (Ad1, .inl (Ka0, 9000, .inl Fa0))] sz) [(Ad0, .inr (15, (u.1))), (Ad1, .inl (Ka0, 9000, .inl ((u.2))))] t) (va_A [(Ad0, .inr (15, Fs0)), (Ad1, .inl (Ka0, 9000, .inl Fa0))] sz))  0 0 (va_A [(Ad0, .inr (15, Fs0)), (Ad1, .inl (Ka0, 9000, .inl Fa0))] sz) := by
  refine Met.ofW (cc := cX12_putNumber) (maxL := 6) (ret := none) (by decide) rfl ?_
  intro p e s m args below meth c s₁ B hml hv
  obtain ⟨rfl, hsz, hP, hK, hD0⟩ := hv
  have hx := B.exec
  have hb := B.bytes
  have hr := B.returns
  have hts := atoms_spec (ws := w_z_X12_putNumber) B.pre
  have hown : s.vm.findClass RX12 = some m.cls := findClass_of_methodNamed B.named
  have hlocks := B.notSynchronized
  subst hsz
  have hD := hD0.self (sz := s.heap.size)
  generalize hAe : va_A [(Ad0, .inr (15, Fs0)), (Ad1, .inl (Ka0, 9000, .inl Fa0))] s.heap.size = A at hD ⊢
  have hA : ∀ q : Nat, s.heap.size ≤ q → A q := fun q h => by rw [← hAe]; exact Or.inr h
  have hS : va_S A s.heap s.heap [] := va_S.rf
  have hl := lv_entry ([.ref Ad0, .long 72]) (n := 6) (Nat.le_of_ble_eq_true rfl)
  rw [lg_entry_eq]
  generalize (lg_sl ([.ref Ad0, .long 72]) ++ List.replicate (6 - (lg_sl ([.ref Ad0, .long 72])).length) Slot.unset).toArray = ls at hl ⊢
  have hl : lv_has ls 6 [(0, .ref Ad0), (1, .long 72)] := hl
  have o_Fs0 := ow_0 k_Fs0
  refine lv_lload_n hx hb dX12_putNumber_0 rfl (lv_at hl 1 rfl) ?_
  refine lv_lstore_n (lv' := [(3, .long 72), (0, .ref Ad0), (1, .long 72)]) hx hb dX12_putNumber_1 rfl hl (by decide) rfl (fun ls hl => ?_)
  refine lv_lload_n hx hb dX12_putNumber_2 rfl (lv_at hl 0 rfl) ?_
  refine lv_ldc2 (v := 127) hx hb hown (hts (.constantLong RX12 951 (127)) (by decide +kernel)) dX12_putNumber_3 ?_
  refine lv_land hx hb dX12_putNumber_6  ?_
  refine lv_topl (fun x101 ex101 => ?_)
  obtain rfl : x101 = 72 := ex101.trans (by decide)
  refine lv_l2i hx hb dX12_putNumber_7 rfl ?_
  refine lv_topi (fun x102 ex102 => ?_)
  obtain rfl : x102 = 72 := ex102.trans (by decide)
  refine lv_istore (lv' := [(5, .int 72), (3, .long 72), (0, .ref Ad0), (1, .long 72)]) hx hb dX12_putNumber_8 hl (by decide) rfl (fun ls hl => ?_)
  refine lv_lload_n hx hb dX12_putNumber_10 rfl (lv_at hl 1 rfl) ?_
  refine lv_bipush (v := 7) hx hb dX12_putNumber_11 (by decide) ?_
  refine lv_lushr hx hb dX12_putNumber_13 rfl ?_
  refine lv_topl (fun x103 ex103 => ?_)
  obtain rfl : x103 = 0 := ex103.trans (by decide)
  refine lv_lstore_n (lv' := [(3, .long 0), (5, .int 72), (0, .ref Ad0), (1, .long 72)]) hx hb dX12_putNumber_14 rfl hl (by decide) rfl (fun ls hl => ?_)
  refine lv_aload_n hx hb dX12_putNumber_15 rfl (lv_at hl 2 rfl) ?_
  refine va_get (D := (dC, dI)) (ci := 15) (v := .int 0) (C := RX12) (T := TX12) (N := 150) hx hb hts (in_z_X12_putNumber_X12) hown hK hP 0 rfl rfl 141 (by decide) (hts (.fieldLink RX12 953 "HeapWorksModel" "rowEnd" "I") (by decide +kernel)) (fun _ h9 => h9) (ow_at o_Fs0 0 rfl) dX12_putNumber_16 ?_
  refine lv_sipush (v := 9000) hx hb dX12_putNumber_19 (by decide) ?_
  refine lv_icmp_ge (tgt := 52) hx hb dX12_putNumber_22 (by decide) (fun c104 => absurd c104 (by decide)) (fun c104 => ?_)
  refine lv_aload_n hx hb dX12_putNumber_25 rfl (lv_at hl 2 rfl) ?_
  refine va_get (D := (dC, dI)) (ci := 15) (v := .ref Ad1) (C := RX12) (T := TX12) (N := 150) hx hb hts (in_z_X12_putNumber_X12) hown hK hP 0 rfl rfl 139 (by decide) (hts (.fieldLink RX12 369 "HeapWorksModel" "row0" "[B") (by decide +kernel)) (fun _ h9 => h9) (ow_at o_Fs0 1 rfl) dX12_putNumber_26 ?_
  refine lv_aload_n hx hb dX12_putNumber_29 rfl (lv_at hl 2 rfl) ?_
  refine va_get (D := (dC, dI)) (ci := 15) (v := .int 0) (C := RX12) (T := TX12) (N := 150) hx hb hts (in_z_X12_putNumber_X12) hown hK hP 0 rfl rfl 141 (by decide) (hts (.fieldLink RX12 953 "HeapWorksModel" "rowEnd" "I") (by decide +kernel)) (fun _ h9 => h9) (ow_at o_Fs0 0 rfl) dX12_putNumber_30 ?_
  refine lv_lload_n hx hb dX12_putNumber_33 rfl (lv_at hl 0 rfl) ?_
  refine lv_lconst (v := 0) hx hb dX12_putNumber_34 (by decide) ?_
  refine W.lcmp hx hb dX12_putNumber_35  ?_
  refine lv_topi (fun x105 ex105 => ?_)
  obtain rfl : x105 = 0 := ex105.trans (by decide)
  refine lv_if_ne (tgt := 44) hx hb dX12_putNumber_36 (by decide) (fun c106 => absurd c106 (by decide)) (fun c106 => ?_)
  refine lv_iload hx hb dX12_putNumber_39 (lv_at hl 1 rfl) ?_
  refine lv_goto (tgt := 50) hx hb dX12_putNumber_41 (by decide) ?_
  refine lv_i2b hx hb dX12_putNumber_50 rfl ?_
  refine lv_topi (fun x107 ex107 => ?_)
  obtain rfl : x107 = 72 := ex107.trans (by decide)
  refine va_bast hx hb hK hP hD hS 1 0 rfl rfl (show vp_in 0 9000 from by unfold vp_in; decide) dX12_putNumber_51 (fun H locs hP hD hS => ?_)
  have hP : va_P (dC, dI) vwCl [(Ad0, .inr (15, Fs0)), (Ad1, .inl (Ka0, 9000, .inl (upd Fa0 (0 : Int32).toNatClampNeg (vp_nar .byte 72))))] H := hP
  have hD : va_D A [(Ad0, .inr (15, Fs0)), (Ad1, .inl (Ka0, 9000, .inl (upd Fa0 (0 : Int32).toNatClampNeg (vp_nar .byte 72))))] := hD
  have q109 : (upd Fa0 (0 : Int32).toNatClampNeg (vp_nar .byte 72)) (0 : Int32).toNatClampNeg = 72 := (pk_us.trans (by decide))
  generalize upd Fa0 (0 : Int32).toNatClampNeg (vp_nar .byte 72) = f108 at hP hD q109
  refine lv_aload_n hx hb dX12_putNumber_52 rfl (lv_at hl 2 rfl) ?_
  refine lv_dup hx hb dX12_putNumber_53 rfl ?_
  refine va_get (D := (dC, dI)) (ci := 15) (v := .int 0) (C := RX12) (T := TX12) (N := 150) hx hb hts (in_z_X12_putNumber_X12) hown hK hP 0 rfl rfl 141 (by decide) (hts (.fieldLink RX12 953 "HeapWorksModel" "rowEnd" "I") (by decide +kernel)) (fun _ h9 => h9) (ow_at o_Fs0 0 rfl) dX12_putNumber_54 ?_
  refine lv_iconst (v := 1) hx hb dX12_putNumber_57 (by decide) ?_
  refine lv_iadd hx hb dX12_putNumber_58  ?_
  refine lv_topi (fun x110 ex110 => ?_)
  obtain rfl : x110 = 1 := ex110.trans (by decide)
  refine va_put (D := (dC, dI)) (ci := 15) (v := .int 1) (ty := .int) (C := RX12) (T := TX12) (N := 150) hx hb hts (in_z_X12_putNumber_X12) tyX12 tyX12_ok nmX12 hown hK hP hD hS 0 rfl rfl 141 (by decide) (hts (.fieldLink RX12 953 "HeapWorksModel" "rowEnd" "I") (by decide +kernel)) (fun _ h9 => h9) rfl (by decide +kernel) rfl rfl (by rw [o_Fs0.2.1]; decide) dX12_putNumber_59 (fun H locs hP hD hS => ?_)
  have hP : va_P (dC, dI) vwCl [(Ad0, .inr (15, (Fs0.set 141 (.int 1)))), (Ad1, .inl (Ka0, 9000, .inl f108))] H := hP
  have hD : va_D A [(Ad0, .inr (15, (Fs0.set 141 (.int 1)))), (Ad1, .inl (Ka0, 9000, .inl f108))] := hD
  have o_s111 := ow_set o_Fs0 141 (.int 1) (by decide) (l' := [(141, .int 1), (139, .ref Ad1)]) (w' := [141]) rfl rfl
  generalize (Fs0.set 141 (.int 1)) = s111 at hP hD o_s111
  refine lv_lload_n hx hb dX12_putNumber_62 rfl (lv_at hl 0 rfl) ?_
  refine lv_lconst (v := 0) hx hb dX12_putNumber_63 (by decide) ?_
  refine W.lcmp hx hb dX12_putNumber_64  ?_
  refine lv_topi (fun x112 ex112 => ?_)
  obtain rfl : x112 = 0 := ex112.trans (by decide)
  refine lv_if_ne (tgt := 2) hx hb dX12_putNumber_65 (by decide) (fun c113 => absurd c113 (by decide)) (fun c113 => ?_)
  have hP9 := hP.sub (ws' := [(Ad0, .inr (15, s111)), (Ad1, .inl (Ka0, 9000, .inl f108))]) [0, 1] rfl
  have hD9 := hD.sub (ws' := [(Ad0, .inr (15, s111)), (Ad1, .inl (Ka0, 9000, .inl f108))]) [0, 1] (by decide) rfl
  have hK9 := hK.sub (tys' := [(Ka0, .byte)]) [0] rfl
  exact W.vret hx hb hr (fun t ht hW => ⟨⟨(s111, f108), rfl, ⟨o_s111, q109⟩, by rw [ht]; exact hP9, va_K.moved hW.alike hK9, hD9⟩, hS.F ht⟩) hS.2.2 dX12_putNumber_68

def l_z_X12_putNumber_1 : List Cond := [.constantLong RX12 951 (127), .fieldLink RX12 953 "HeapWorksModel" "rowEnd" "I", .fieldLink RX12 369 "HeapWorksModel" "row0" "[B"]
def w_z_X12_putNumber_1 : List Cond := .code yX12_putNumber cX12_putNumber 6 none :: (l_z_X12_putNumber_1 ++ (wsX120))
theorem in_z_X12_putNumber_1_X12 : ∀ w ∈ wsX120, w ∈ w_z_X12_putNumber_1 := fun w h => List.mem_cons_of_mem _ (List.mem_append_right _ (h))
set_option maxHeartbeats 4000000 in
set_option maxRecDepth 100000 in
theorem z_X12_putNumber_1 (l : Launch) (dC : Nat → ClassId) (dI : Nat → Nat → Nat) (sz : Nat) (Ad0 : Nat) (Fs0 : List Value) (Ad1 : Nat) (Fa0 : Nat → Int32) (Ka0 : ClassId) (k_Fs0 : fh Fs0 150 [(141, .int 1), (139, .ref Ad1), (139, .ref Ad1)])  : Met l yX12_putNumber w_z_X12_putNumber_1 ({ frames := 0, cells := 0, slots := 0, locals := 0 }) (va_Pc [.ref Ad0, .long 80] (fun U => U.heap.size = sz ∧ Wd dC dI [(Ka0, .byte)] (fun _ => True) [(Ad0, .inr (15, Fs0)), (Ad1, .inl (Ka0, 9000, .inl Fa0))] U)) (va_Qv (fun (u : List Value × (Nat → Int32)) => (ow Fs0 (u.1) 150 [141] [(141, .int 2), (139, .ref Ad1), (139, .ref Ad1)] ∧ (u.2) (1 : Int32).toNatClampNeg = 80)) (fun (u : List Value × (Nat → Int32)) t => Wd dC dI [(Ka0, .byte)] (va_A [(Ad0, .inr (15, Fs0)), (Ad1, .inl (Ka0, 9000, .inl Fa0))] sz) [(Ad0, .inr (15, (u.1))), (Ad1, .inl (Ka0, 9000, .inl ((u.2))))] t) (va_A [(Ad0, .inr (15, Fs0)), (Ad1, .inl (Ka0, 9000, .inl Fa0))] sz))  0 0 (va_A [(Ad0, .inr (15, Fs0)), (Ad1, .inl (Ka0, 9000, .inl Fa0))] sz) := by
  refine Met.ofW (cc := cX12_putNumber) (maxL := 6) (ret := none) (by decide) rfl ?_
  intro p e s m args below meth c s₁ B hml hv
  obtain ⟨rfl, hsz, hP, hK, hD0⟩ := hv
  have hx := B.exec
  have hb := B.bytes
  have hr := B.returns
  have hts := atoms_spec (ws := w_z_X12_putNumber_1) B.pre
  have hown : s.vm.findClass RX12 = some m.cls := findClass_of_methodNamed B.named
  have hlocks := B.notSynchronized
  subst hsz
  have hD := hD0.self (sz := s.heap.size)
  generalize hAe : va_A [(Ad0, .inr (15, Fs0)), (Ad1, .inl (Ka0, 9000, .inl Fa0))] s.heap.size = A at hD ⊢
  have hA : ∀ q : Nat, s.heap.size ≤ q → A q := fun q h => by rw [← hAe]; exact Or.inr h
  have hS : va_S A s.heap s.heap [] := va_S.rf
  have hl := lv_entry ([.ref Ad0, .long 80]) (n := 6) (Nat.le_of_ble_eq_true rfl)
  rw [lg_entry_eq]
  generalize (lg_sl ([.ref Ad0, .long 80]) ++ List.replicate (6 - (lg_sl ([.ref Ad0, .long 80])).length) Slot.unset).toArray = ls at hl ⊢
  have hl : lv_has ls 6 [(0, .ref Ad0), (1, .long 80)] := hl
  have o_Fs0 := ow_0 k_Fs0
  refine lv_lload_n hx hb dX12_putNumber_0 rfl (lv_at hl 1 rfl) ?_
  refine lv_lstore_n (lv' := [(3, .long 80), (0, .ref Ad0), (1, .long 80)]) hx hb dX12_putNumber_1 rfl hl (by decide) rfl (fun ls hl => ?_)
  refine lv_lload_n hx hb dX12_putNumber_2 rfl (lv_at hl 0 rfl) ?_
  refine lv_ldc2 (v := 127) hx hb hown (hts (.constantLong RX12 951 (127)) (by decide +kernel)) dX12_putNumber_3 ?_
  refine lv_land hx hb dX12_putNumber_6  ?_
  refine lv_topl (fun x101 ex101 => ?_)
  obtain rfl : x101 = 80 := ex101.trans (by decide)
  refine lv_l2i hx hb dX12_putNumber_7 rfl ?_
  refine lv_topi (fun x102 ex102 => ?_)
  obtain rfl : x102 = 80 := ex102.trans (by decide)
  refine lv_istore (lv' := [(5, .int 80), (3, .long 80), (0, .ref Ad0), (1, .long 80)]) hx hb dX12_putNumber_8 hl (by decide) rfl (fun ls hl => ?_)
  refine lv_lload_n hx hb dX12_putNumber_10 rfl (lv_at hl 1 rfl) ?_
  refine lv_bipush (v := 7) hx hb dX12_putNumber_11 (by decide) ?_
  refine lv_lushr hx hb dX12_putNumber_13 rfl ?_
  refine lv_topl (fun x103 ex103 => ?_)
  obtain rfl : x103 = 0 := ex103.trans (by decide)
  refine lv_lstore_n (lv' := [(3, .long 0), (5, .int 80), (0, .ref Ad0), (1, .long 80)]) hx hb dX12_putNumber_14 rfl hl (by decide) rfl (fun ls hl => ?_)
  refine lv_aload_n hx hb dX12_putNumber_15 rfl (lv_at hl 2 rfl) ?_
  refine va_get (D := (dC, dI)) (ci := 15) (v := .int 1) (C := RX12) (T := TX12) (N := 150) hx hb hts (in_z_X12_putNumber_1_X12) hown hK hP 0 rfl rfl 141 (by decide) (hts (.fieldLink RX12 953 "HeapWorksModel" "rowEnd" "I") (by decide +kernel)) (fun _ h9 => h9) (ow_at o_Fs0 0 rfl) dX12_putNumber_16 ?_
  refine lv_sipush (v := 9000) hx hb dX12_putNumber_19 (by decide) ?_
  refine lv_icmp_ge (tgt := 52) hx hb dX12_putNumber_22 (by decide) (fun c104 => absurd c104 (by decide)) (fun c104 => ?_)
  refine lv_aload_n hx hb dX12_putNumber_25 rfl (lv_at hl 2 rfl) ?_
  refine va_get (D := (dC, dI)) (ci := 15) (v := .ref Ad1) (C := RX12) (T := TX12) (N := 150) hx hb hts (in_z_X12_putNumber_1_X12) hown hK hP 0 rfl rfl 139 (by decide) (hts (.fieldLink RX12 369 "HeapWorksModel" "row0" "[B") (by decide +kernel)) (fun _ h9 => h9) (ow_at o_Fs0 1 rfl) dX12_putNumber_26 ?_
  refine lv_aload_n hx hb dX12_putNumber_29 rfl (lv_at hl 2 rfl) ?_
  refine va_get (D := (dC, dI)) (ci := 15) (v := .int 1) (C := RX12) (T := TX12) (N := 150) hx hb hts (in_z_X12_putNumber_1_X12) hown hK hP 0 rfl rfl 141 (by decide) (hts (.fieldLink RX12 953 "HeapWorksModel" "rowEnd" "I") (by decide +kernel)) (fun _ h9 => h9) (ow_at o_Fs0 0 rfl) dX12_putNumber_30 ?_
  refine lv_lload_n hx hb dX12_putNumber_33 rfl (lv_at hl 0 rfl) ?_
  refine lv_lconst (v := 0) hx hb dX12_putNumber_34 (by decide) ?_
  refine W.lcmp hx hb dX12_putNumber_35  ?_
  refine lv_topi (fun x105 ex105 => ?_)
  obtain rfl : x105 = 0 := ex105.trans (by decide)
  refine lv_if_ne (tgt := 44) hx hb dX12_putNumber_36 (by decide) (fun c106 => absurd c106 (by decide)) (fun c106 => ?_)
  refine lv_iload hx hb dX12_putNumber_39 (lv_at hl 1 rfl) ?_
  refine lv_goto (tgt := 50) hx hb dX12_putNumber_41 (by decide) ?_
  refine lv_i2b hx hb dX12_putNumber_50 rfl ?_
  refine lv_topi (fun x107 ex107 => ?_)
  obtain rfl : x107 = 80 := ex107.trans (by decide)
  refine va_bast hx hb hK hP hD hS 1 0 rfl rfl (show vp_in 1 9000 from by unfold vp_in; decide) dX12_putNumber_51 (fun H locs hP hD hS => ?_)
  have hP : va_P (dC, dI) vwCl [(Ad0, .inr (15, Fs0)), (Ad1, .inl (Ka0, 9000, .inl (upd Fa0 (1 : Int32).toNatClampNeg (vp_nar .byte 80))))] H := hP
  have hD : va_D A [(Ad0, .inr (15, Fs0)), (Ad1, .inl (Ka0, 9000, .inl (upd Fa0 (1 : Int32).toNatClampNeg (vp_nar .byte 80))))] := hD
  have q109 : (upd Fa0 (1 : Int32).toNatClampNeg (vp_nar .byte 80)) (1 : Int32).toNatClampNeg = 80 := (pk_us.trans (by decide))
  generalize upd Fa0 (1 : Int32).toNatClampNeg (vp_nar .byte 80) = f108 at hP hD q109
  refine lv_aload_n hx hb dX12_putNumber_52 rfl (lv_at hl 2 rfl) ?_
  refine lv_dup hx hb dX12_putNumber_53 rfl ?_
  refine va_get (D := (dC, dI)) (ci := 15) (v := .int 1) (C := RX12) (T := TX12) (N := 150) hx hb hts (in_z_X12_putNumber_1_X12) hown hK hP 0 rfl rfl 141 (by decide) (hts (.fieldLink RX12 953 "HeapWorksModel" "rowEnd" "I") (by decide +kernel)) (fun _ h9 => h9) (ow_at o_Fs0 0 rfl) dX12_putNumber_54 ?_
  refine lv_iconst (v := 1) hx hb dX12_putNumber_57 (by decide) ?_
  refine lv_iadd hx hb dX12_putNumber_58  ?_
  refine lv_topi (fun x110 ex110 => ?_)
  obtain rfl : x110 = 2 := ex110.trans (by decide)
  refine va_put (D := (dC, dI)) (ci := 15) (v := .int 2) (ty := .int) (C := RX12) (T := TX12) (N := 150) hx hb hts (in_z_X12_putNumber_1_X12) tyX12 tyX12_ok nmX12 hown hK hP hD hS 0 rfl rfl 141 (by decide) (hts (.fieldLink RX12 953 "HeapWorksModel" "rowEnd" "I") (by decide +kernel)) (fun _ h9 => h9) rfl (by decide +kernel) rfl rfl (by rw [o_Fs0.2.1]; decide) dX12_putNumber_59 (fun H locs hP hD hS => ?_)
  have hP : va_P (dC, dI) vwCl [(Ad0, .inr (15, (Fs0.set 141 (.int 2)))), (Ad1, .inl (Ka0, 9000, .inl f108))] H := hP
  have hD : va_D A [(Ad0, .inr (15, (Fs0.set 141 (.int 2)))), (Ad1, .inl (Ka0, 9000, .inl f108))] := hD
  have o_s111 := ow_set o_Fs0 141 (.int 2) (by decide) (l' := [(141, .int 2), (139, .ref Ad1), (139, .ref Ad1)]) (w' := [141]) rfl rfl
  generalize (Fs0.set 141 (.int 2)) = s111 at hP hD o_s111
  refine lv_lload_n hx hb dX12_putNumber_62 rfl (lv_at hl 0 rfl) ?_
  refine lv_lconst (v := 0) hx hb dX12_putNumber_63 (by decide) ?_
  refine W.lcmp hx hb dX12_putNumber_64  ?_
  refine lv_topi (fun x112 ex112 => ?_)
  obtain rfl : x112 = 0 := ex112.trans (by decide)
  refine lv_if_ne (tgt := 2) hx hb dX12_putNumber_65 (by decide) (fun c113 => absurd c113 (by decide)) (fun c113 => ?_)
  have hP9 := hP.sub (ws' := [(Ad0, .inr (15, s111)), (Ad1, .inl (Ka0, 9000, .inl f108))]) [0, 1] rfl
  have hD9 := hD.sub (ws' := [(Ad0, .inr (15, s111)), (Ad1, .inl (Ka0, 9000, .inl f108))]) [0, 1] (by decide) rfl
  have hK9 := hK.sub (tys' := [(Ka0, .byte)]) [0] rfl
  exact W.vret hx hb hr (fun t ht hW => ⟨⟨(s111, f108), rfl, ⟨o_s111, q109⟩, by rw [ht]; exact hP9, va_K.moved hW.alike hK9, hD9⟩, hS.F ht⟩) hS.2.2 dX12_putNumber_68

def l_z_X12_putNumber_2 : List Cond := [.constantLong RX12 951 (127), .fieldLink RX12 953 "HeapWorksModel" "rowEnd" "I", .fieldLink RX12 369 "HeapWorksModel" "row0" "[B"]
def w_z_X12_putNumber_2 : List Cond := .code yX12_putNumber cX12_putNumber 6 none :: (l_z_X12_putNumber_2 ++ (wsX120))
theorem in_z_X12_putNumber_2_X12 : ∀ w ∈ wsX120, w ∈ w_z_X12_putNumber_2 := fun w h => List.mem_cons_of_mem _ (List.mem_append_right _ (h))
set_option maxHeartbeats 4000000 in
set_option maxRecDepth 100000 in
theorem z_X12_putNumber_2 (l : Launch) (dC : Nat → ClassId) (dI : Nat → Nat → Nat) (sz : Nat) (Ad0 : Nat) (Fs0 : List Value) (Ad1 : Nat) (Fa0 : Nat → Int32) (Ka0 : ClassId) (k_Fs0 : fh Fs0 150 [(141, .int 2), (139, .ref Ad1), (139, .ref Ad1), (139, .ref Ad1), (139, .ref Ad1)])  : Met l yX12_putNumber w_z_X12_putNumber_2 ({ frames := 0, cells := 0, slots := 0, locals := 0 }) (va_Pc [.ref Ad0, .long 0] (fun U => U.heap.size = sz ∧ Wd dC dI [(Ka0, .byte)] (fun _ => True) [(Ad0, .inr (15, Fs0)), (Ad1, .inl (Ka0, 9000, .inl Fa0))] U)) (va_Qv (fun (u : List Value × (Nat → Int32)) => (ow Fs0 (u.1) 150 [141] [(141, .int 3), (139, .ref Ad1), (139, .ref Ad1), (139, .ref Ad1), (139, .ref Ad1)] ∧ (u.2) (2 : Int32).toNatClampNeg = 0)) (fun (u : List Value × (Nat → Int32)) t => Wd dC dI [(Ka0, .byte)] (va_A [(Ad0, .inr (15, Fs0)), (Ad1, .inl (Ka0, 9000, .inl Fa0))] sz) [(Ad0, .inr (15, (u.1))), (Ad1, .inl (Ka0, 9000, .inl ((u.2))))] t) (va_A [(Ad0, .inr (15, Fs0)), (Ad1, .inl (Ka0, 9000, .inl Fa0))] sz))  0 0 (va_A [(Ad0, .inr (15, Fs0)), (Ad1, .inl (Ka0, 9000, .inl Fa0))] sz) := by
  refine Met.ofW (cc := cX12_putNumber) (maxL := 6) (ret := none) (by decide) rfl ?_
  intro p e s m args below meth c s₁ B hml hv
  obtain ⟨rfl, hsz, hP, hK, hD0⟩ := hv
  have hx := B.exec
  have hb := B.bytes
  have hr := B.returns
  have hts := atoms_spec (ws := w_z_X12_putNumber_2) B.pre
  have hown : s.vm.findClass RX12 = some m.cls := findClass_of_methodNamed B.named
  have hlocks := B.notSynchronized
  subst hsz
  have hD := hD0.self (sz := s.heap.size)
  generalize hAe : va_A [(Ad0, .inr (15, Fs0)), (Ad1, .inl (Ka0, 9000, .inl Fa0))] s.heap.size = A at hD ⊢
  have hA : ∀ q : Nat, s.heap.size ≤ q → A q := fun q h => by rw [← hAe]; exact Or.inr h
  have hS : va_S A s.heap s.heap [] := va_S.rf
  have hl := lv_entry ([.ref Ad0, .long 0]) (n := 6) (Nat.le_of_ble_eq_true rfl)
  rw [lg_entry_eq]
  generalize (lg_sl ([.ref Ad0, .long 0]) ++ List.replicate (6 - (lg_sl ([.ref Ad0, .long 0])).length) Slot.unset).toArray = ls at hl ⊢
  have hl : lv_has ls 6 [(0, .ref Ad0), (1, .long 0)] := hl
  have o_Fs0 := ow_0 k_Fs0
  refine lv_lload_n hx hb dX12_putNumber_0 rfl (lv_at hl 1 rfl) ?_
  refine lv_lstore_n (lv' := [(3, .long 0), (0, .ref Ad0), (1, .long 0)]) hx hb dX12_putNumber_1 rfl hl (by decide) rfl (fun ls hl => ?_)
  refine lv_lload_n hx hb dX12_putNumber_2 rfl (lv_at hl 0 rfl) ?_
  refine lv_ldc2 (v := 127) hx hb hown (hts (.constantLong RX12 951 (127)) (by decide +kernel)) dX12_putNumber_3 ?_
  refine lv_land hx hb dX12_putNumber_6  ?_
  refine lv_topl (fun x101 ex101 => ?_)
  obtain rfl : x101 = 0 := ex101.trans (by decide)
  refine lv_l2i hx hb dX12_putNumber_7 rfl ?_
  refine lv_topi (fun x102 ex102 => ?_)
  obtain rfl : x102 = 0 := ex102.trans (by decide)
  refine lv_istore (lv' := [(5, .int 0), (3, .long 0), (0, .ref Ad0), (1, .long 0)]) hx hb dX12_putNumber_8 hl (by decide) rfl (fun ls hl => ?_)
  refine lv_lload_n hx hb dX12_putNumber_10 rfl (lv_at hl 1 rfl) ?_
  refine lv_bipush (v := 7) hx hb dX12_putNumber_11 (by decide) ?_
  refine lv_lushr hx hb dX12_putNumber_13 rfl ?_
  refine lv_topl (fun x103 ex103 => ?_)
  obtain rfl : x103 = 0 := ex103.trans (by decide)
  refine lv_lstore_n (lv' := [(3, .long 0), (5, .int 0), (0, .ref Ad0), (1, .long 0)]) hx hb dX12_putNumber_14 rfl hl (by decide) rfl (fun ls hl => ?_)
  refine lv_aload_n hx hb dX12_putNumber_15 rfl (lv_at hl 2 rfl) ?_
  refine va_get (D := (dC, dI)) (ci := 15) (v := .int 2) (C := RX12) (T := TX12) (N := 150) hx hb hts (in_z_X12_putNumber_2_X12) hown hK hP 0 rfl rfl 141 (by decide) (hts (.fieldLink RX12 953 "HeapWorksModel" "rowEnd" "I") (by decide +kernel)) (fun _ h9 => h9) (ow_at o_Fs0 0 rfl) dX12_putNumber_16 ?_
  refine lv_sipush (v := 9000) hx hb dX12_putNumber_19 (by decide) ?_
  refine lv_icmp_ge (tgt := 52) hx hb dX12_putNumber_22 (by decide) (fun c104 => absurd c104 (by decide)) (fun c104 => ?_)
  refine lv_aload_n hx hb dX12_putNumber_25 rfl (lv_at hl 2 rfl) ?_
  refine va_get (D := (dC, dI)) (ci := 15) (v := .ref Ad1) (C := RX12) (T := TX12) (N := 150) hx hb hts (in_z_X12_putNumber_2_X12) hown hK hP 0 rfl rfl 139 (by decide) (hts (.fieldLink RX12 369 "HeapWorksModel" "row0" "[B") (by decide +kernel)) (fun _ h9 => h9) (ow_at o_Fs0 1 rfl) dX12_putNumber_26 ?_
  refine lv_aload_n hx hb dX12_putNumber_29 rfl (lv_at hl 2 rfl) ?_
  refine va_get (D := (dC, dI)) (ci := 15) (v := .int 2) (C := RX12) (T := TX12) (N := 150) hx hb hts (in_z_X12_putNumber_2_X12) hown hK hP 0 rfl rfl 141 (by decide) (hts (.fieldLink RX12 953 "HeapWorksModel" "rowEnd" "I") (by decide +kernel)) (fun _ h9 => h9) (ow_at o_Fs0 0 rfl) dX12_putNumber_30 ?_
  refine lv_lload_n hx hb dX12_putNumber_33 rfl (lv_at hl 0 rfl) ?_
  refine lv_lconst (v := 0) hx hb dX12_putNumber_34 (by decide) ?_
  refine W.lcmp hx hb dX12_putNumber_35  ?_
  refine lv_topi (fun x105 ex105 => ?_)
  obtain rfl : x105 = 0 := ex105.trans (by decide)
  refine lv_if_ne (tgt := 44) hx hb dX12_putNumber_36 (by decide) (fun c106 => absurd c106 (by decide)) (fun c106 => ?_)
  refine lv_iload hx hb dX12_putNumber_39 (lv_at hl 1 rfl) ?_
  refine lv_goto (tgt := 50) hx hb dX12_putNumber_41 (by decide) ?_
  refine lv_i2b hx hb dX12_putNumber_50 rfl ?_
  refine lv_topi (fun x107 ex107 => ?_)
  obtain rfl : x107 = 0 := ex107.trans (by decide)
  refine va_bast hx hb hK hP hD hS 1 0 rfl rfl (show vp_in 2 9000 from by unfold vp_in; decide) dX12_putNumber_51 (fun H locs hP hD hS => ?_)
  have hP : va_P (dC, dI) vwCl [(Ad0, .inr (15, Fs0)), (Ad1, .inl (Ka0, 9000, .inl (upd Fa0 (2 : Int32).toNatClampNeg (vp_nar .byte 0))))] H := hP
  have hD : va_D A [(Ad0, .inr (15, Fs0)), (Ad1, .inl (Ka0, 9000, .inl (upd Fa0 (2 : Int32).toNatClampNeg (vp_nar .byte 0))))] := hD
  have q109 : (upd Fa0 (2 : Int32).toNatClampNeg (vp_nar .byte 0)) (2 : Int32).toNatClampNeg = 0 := (pk_us.trans (by decide))
  generalize upd Fa0 (2 : Int32).toNatClampNeg (vp_nar .byte 0) = f108 at hP hD q109
  refine lv_aload_n hx hb dX12_putNumber_52 rfl (lv_at hl 2 rfl) ?_
  refine lv_dup hx hb dX12_putNumber_53 rfl ?_
  refine va_get (D := (dC, dI)) (ci := 15) (v := .int 2) (C := RX12) (T := TX12) (N := 150) hx hb hts (in_z_X12_putNumber_2_X12) hown hK hP 0 rfl rfl 141 (by decide) (hts (.fieldLink RX12 953 "HeapWorksModel" "rowEnd" "I") (by decide +kernel)) (fun _ h9 => h9) (ow_at o_Fs0 0 rfl) dX12_putNumber_54 ?_
  refine lv_iconst (v := 1) hx hb dX12_putNumber_57 (by decide) ?_
  refine lv_iadd hx hb dX12_putNumber_58  ?_
  refine lv_topi (fun x110 ex110 => ?_)
  obtain rfl : x110 = 3 := ex110.trans (by decide)
  refine va_put (D := (dC, dI)) (ci := 15) (v := .int 3) (ty := .int) (C := RX12) (T := TX12) (N := 150) hx hb hts (in_z_X12_putNumber_2_X12) tyX12 tyX12_ok nmX12 hown hK hP hD hS 0 rfl rfl 141 (by decide) (hts (.fieldLink RX12 953 "HeapWorksModel" "rowEnd" "I") (by decide +kernel)) (fun _ h9 => h9) rfl (by decide +kernel) rfl rfl (by rw [o_Fs0.2.1]; decide) dX12_putNumber_59 (fun H locs hP hD hS => ?_)
  have hP : va_P (dC, dI) vwCl [(Ad0, .inr (15, (Fs0.set 141 (.int 3)))), (Ad1, .inl (Ka0, 9000, .inl f108))] H := hP
  have hD : va_D A [(Ad0, .inr (15, (Fs0.set 141 (.int 3)))), (Ad1, .inl (Ka0, 9000, .inl f108))] := hD
  have o_s111 := ow_set o_Fs0 141 (.int 3) (by decide) (l' := [(141, .int 3), (139, .ref Ad1), (139, .ref Ad1), (139, .ref Ad1), (139, .ref Ad1)]) (w' := [141]) rfl rfl
  generalize (Fs0.set 141 (.int 3)) = s111 at hP hD o_s111
  refine lv_lload_n hx hb dX12_putNumber_62 rfl (lv_at hl 0 rfl) ?_
  refine lv_lconst (v := 0) hx hb dX12_putNumber_63 (by decide) ?_
  refine W.lcmp hx hb dX12_putNumber_64  ?_
  refine lv_topi (fun x112 ex112 => ?_)
  obtain rfl : x112 = 0 := ex112.trans (by decide)
  refine lv_if_ne (tgt := 2) hx hb dX12_putNumber_65 (by decide) (fun c113 => absurd c113 (by decide)) (fun c113 => ?_)
  have hP9 := hP.sub (ws' := [(Ad0, .inr (15, s111)), (Ad1, .inl (Ka0, 9000, .inl f108))]) [0, 1] rfl
  have hD9 := hD.sub (ws' := [(Ad0, .inr (15, s111)), (Ad1, .inl (Ka0, 9000, .inl f108))]) [0, 1] (by decide) rfl
  have hK9 := hK.sub (tys' := [(Ka0, .byte)]) [0] rfl
  exact W.vret hx hb hr (fun t ht hW => ⟨⟨(s111, f108), rfl, ⟨o_s111, q109⟩, by rw [ht]; exact hP9, va_K.moved hW.alike hK9, hD9⟩, hS.F ht⟩) hS.2.2 dX12_putNumber_68

def l_z_X12_putNumber_3 : List Cond := [.constantLong RX12 951 (127), .fieldLink RX12 953 "HeapWorksModel" "rowEnd" "I", .fieldLink RX12 369 "HeapWorksModel" "row0" "[B"]
def w_z_X12_putNumber_3 : List Cond := .code yX12_putNumber cX12_putNumber 6 none :: (l_z_X12_putNumber_3 ++ (wsX120))
theorem in_z_X12_putNumber_3_X12 : ∀ w ∈ wsX120, w ∈ w_z_X12_putNumber_3 := fun w h => List.mem_cons_of_mem _ (List.mem_append_right _ (h))
set_option maxHeartbeats 4000000 in
set_option maxRecDepth 100000 in
theorem z_X12_putNumber_3 (l : Launch) (dC : Nat → ClassId) (dI : Nat → Nat → Nat) (sz : Nat) (Ad0 : Nat) (Fs0 : List Value) (Ad1 : Nat) (Fa0 : Nat → Int32) (Ka0 : ClassId) (k_Fs0 : fh Fs0 150 [(141, .int 3), (139, .ref Ad1), (139, .ref Ad1), (139, .ref Ad1), (139, .ref Ad1), (139, .ref Ad1), (139, .ref Ad1), (139, .ref Ad1), (139, .ref Ad1)])  : Met l yX12_putNumber w_z_X12_putNumber_3 ({ frames := 0, cells := 0, slots := 0, locals := 0 }) (va_Pc [.ref Ad0, .long 0] (fun U => U.heap.size = sz ∧ Wd dC dI [(Ka0, .byte)] (fun _ => True) [(Ad0, .inr (15, Fs0)), (Ad1, .inl (Ka0, 9000, .inl Fa0))] U)) (va_Qv (fun (u : List Value × (Nat → Int32)) => (ow Fs0 (u.1) 150 [141] [(141, .int 4), (139, .ref Ad1), (139, .ref Ad1), (139, .ref Ad1), (139, .ref Ad1), (139, .ref Ad1), (139, .ref Ad1), (139, .ref Ad1), (139, .ref Ad1)] ∧ (u.2) (3 : Int32).toNatClampNeg = 0)) (fun (u : List Value × (Nat → Int32)) t => Wd dC dI [(Ka0, .byte)] (va_A [(Ad0, .inr (15, Fs0)), (Ad1, .inl (Ka0, 9000, .inl Fa0))] sz) [(Ad0, .inr (15, (u.1))), (Ad1, .inl (Ka0, 9000, .inl ((u.2))))] t) (va_A [(Ad0, .inr (15, Fs0)), (Ad1, .inl (Ka0, 9000, .inl Fa0))] sz))  0 0 (va_A [(Ad0, .inr (15, Fs0)), (Ad1, .inl (Ka0, 9000, .inl Fa0))] sz) := by
  refine Met.ofW (cc := cX12_putNumber) (maxL := 6) (ret := none) (by decide) rfl ?_
  intro p e s m args below meth c s₁ B hml hv
  obtain ⟨rfl, hsz, hP, hK, hD0⟩ := hv
  have hx := B.exec
  have hb := B.bytes
  have hr := B.returns
  have hts := atoms_spec (ws := w_z_X12_putNumber_3) B.pre
  have hown : s.vm.findClass RX12 = some m.cls := findClass_of_methodNamed B.named
  have hlocks := B.notSynchronized
  subst hsz
  have hD := hD0.self (sz := s.heap.size)
  generalize hAe : va_A [(Ad0, .inr (15, Fs0)), (Ad1, .inl (Ka0, 9000, .inl Fa0))] s.heap.size = A at hD ⊢
  have hA : ∀ q : Nat, s.heap.size ≤ q → A q := fun q h => by rw [← hAe]; exact Or.inr h
  have hS : va_S A s.heap s.heap [] := va_S.rf
  have hl := lv_entry ([.ref Ad0, .long 0]) (n := 6) (Nat.le_of_ble_eq_true rfl)
  rw [lg_entry_eq]
  generalize (lg_sl ([.ref Ad0, .long 0]) ++ List.replicate (6 - (lg_sl ([.ref Ad0, .long 0])).length) Slot.unset).toArray = ls at hl ⊢
  have hl : lv_has ls 6 [(0, .ref Ad0), (1, .long 0)] := hl
  have o_Fs0 := ow_0 k_Fs0
  refine lv_lload_n hx hb dX12_putNumber_0 rfl (lv_at hl 1 rfl) ?_
  refine lv_lstore_n (lv' := [(3, .long 0), (0, .ref Ad0), (1, .long 0)]) hx hb dX12_putNumber_1 rfl hl (by decide) rfl (fun ls hl => ?_)
  refine lv_lload_n hx hb dX12_putNumber_2 rfl (lv_at hl 0 rfl) ?_
  refine lv_ldc2 (v := 127) hx hb hown (hts (.constantLong RX12 951 (127)) (by decide +kernel)) dX12_putNumber_3 ?_
  refine lv_land hx hb dX12_putNumber_6  ?_
  refine lv_topl (fun x101 ex101 => ?_)
  obtain rfl : x101 = 0 := ex101.trans (by decide)
  refine lv_l2i hx hb dX12_putNumber_7 rfl ?_
  refine lv_topi (fun x102 ex102 => ?_)
  obtain rfl : x102 = 0 := ex102.trans (by decide)
  refine lv_istore (lv' := [(5, .int 0), (3, .long 0), (0, .ref Ad0), (1, .long 0)]) hx hb dX12_putNumber_8 hl (by decide) rfl (fun ls hl => ?_)
  refine lv_lload_n hx hb dX12_putNumber_10 rfl (lv_at hl 1 rfl) ?_
  refine lv_bipush (v := 7) hx hb dX12_putNumber_11 (by decide) ?_
  refine lv_lushr hx hb dX12_putNumber_13 rfl ?_
  refine lv_topl (fun x103 ex103 => ?_)
  obtain rfl : x103 = 0 := ex103.trans (by decide)
  refine lv_lstore_n (lv' := [(3, .long 0), (5, .int 0), (0, .ref Ad0), (1, .long 0)]) hx hb dX12_putNumber_14 rfl hl (by decide) rfl (fun ls hl => ?_)
  refine lv_aload_n hx hb dX12_putNumber_15 rfl (lv_at hl 2 rfl) ?_
  refine va_get (D := (dC, dI)) (ci := 15) (v := .int 3) (C := RX12) (T := TX12) (N := 150) hx hb hts (in_z_X12_putNumber_3_X12) hown hK hP 0 rfl rfl 141 (by decide) (hts (.fieldLink RX12 953 "HeapWorksModel" "rowEnd" "I") (by decide +kernel)) (fun _ h9 => h9) (ow_at o_Fs0 0 rfl) dX12_putNumber_16 ?_
  refine lv_sipush (v := 9000) hx hb dX12_putNumber_19 (by decide) ?_
  refine lv_icmp_ge (tgt := 52) hx hb dX12_putNumber_22 (by decide) (fun c104 => absurd c104 (by decide)) (fun c104 => ?_)
  refine lv_aload_n hx hb dX12_putNumber_25 rfl (lv_at hl 2 rfl) ?_
  refine va_get (D := (dC, dI)) (ci := 15) (v := .ref Ad1) (C := RX12) (T := TX12) (N := 150) hx hb hts (in_z_X12_putNumber_3_X12) hown hK hP 0 rfl rfl 139 (by decide) (hts (.fieldLink RX12 369 "HeapWorksModel" "row0" "[B") (by decide +kernel)) (fun _ h9 => h9) (ow_at o_Fs0 1 rfl) dX12_putNumber_26 ?_
  refine lv_aload_n hx hb dX12_putNumber_29 rfl (lv_at hl 2 rfl) ?_
  refine va_get (D := (dC, dI)) (ci := 15) (v := .int 3) (C := RX12) (T := TX12) (N := 150) hx hb hts (in_z_X12_putNumber_3_X12) hown hK hP 0 rfl rfl 141 (by decide) (hts (.fieldLink RX12 953 "HeapWorksModel" "rowEnd" "I") (by decide +kernel)) (fun _ h9 => h9) (ow_at o_Fs0 0 rfl) dX12_putNumber_30 ?_
  refine lv_lload_n hx hb dX12_putNumber_33 rfl (lv_at hl 0 rfl) ?_
  refine lv_lconst (v := 0) hx hb dX12_putNumber_34 (by decide) ?_
  refine W.lcmp hx hb dX12_putNumber_35  ?_
  refine lv_topi (fun x105 ex105 => ?_)
  obtain rfl : x105 = 0 := ex105.trans (by decide)
  refine lv_if_ne (tgt := 44) hx hb dX12_putNumber_36 (by decide) (fun c106 => absurd c106 (by decide)) (fun c106 => ?_)
  refine lv_iload hx hb dX12_putNumber_39 (lv_at hl 1 rfl) ?_
  refine lv_goto (tgt := 50) hx hb dX12_putNumber_41 (by decide) ?_
  refine lv_i2b hx hb dX12_putNumber_50 rfl ?_
  refine lv_topi (fun x107 ex107 => ?_)
  obtain rfl : x107 = 0 := ex107.trans (by decide)
  refine va_bast hx hb hK hP hD hS 1 0 rfl rfl (show vp_in 3 9000 from by unfold vp_in; decide) dX12_putNumber_51 (fun H locs hP hD hS => ?_)
  have hP : va_P (dC, dI) vwCl [(Ad0, .inr (15, Fs0)), (Ad1, .inl (Ka0, 9000, .inl (upd Fa0 (3 : Int32).toNatClampNeg (vp_nar .byte 0))))] H := hP
  have hD : va_D A [(Ad0, .inr (15, Fs0)), (Ad1, .inl (Ka0, 9000, .inl (upd Fa0 (3 : Int32).toNatClampNeg (vp_nar .byte 0))))] := hD
  have q109 : (upd Fa0 (3 : Int32).toNatClampNeg (vp_nar .byte 0)) (3 : Int32).toNatClampNeg = 0 := (pk_us.trans (by decide))
  generalize upd Fa0 (3 : Int32).toNatClampNeg (vp_nar .byte 0) = f108 at hP hD q109
  refine lv_aload_n hx hb dX12_putNumber_52 rfl (lv_at hl 2 rfl) ?_
  refine lv_dup hx hb dX12_putNumber_53 rfl ?_
  refine va_get (D := (dC, dI)) (ci := 15) (v := .int 3) (C := RX12) (T := TX12) (N := 150) hx hb hts (in_z_X12_putNumber_3_X12) hown hK hP 0 rfl rfl 141 (by decide) (hts (.fieldLink RX12 953 "HeapWorksModel" "rowEnd" "I") (by decide +kernel)) (fun _ h9 => h9) (ow_at o_Fs0 0 rfl) dX12_putNumber_54 ?_
  refine lv_iconst (v := 1) hx hb dX12_putNumber_57 (by decide) ?_
  refine lv_iadd hx hb dX12_putNumber_58  ?_
  refine lv_topi (fun x110 ex110 => ?_)
  obtain rfl : x110 = 4 := ex110.trans (by decide)
  refine va_put (D := (dC, dI)) (ci := 15) (v := .int 4) (ty := .int) (C := RX12) (T := TX12) (N := 150) hx hb hts (in_z_X12_putNumber_3_X12) tyX12 tyX12_ok nmX12 hown hK hP hD hS 0 rfl rfl 141 (by decide) (hts (.fieldLink RX12 953 "HeapWorksModel" "rowEnd" "I") (by decide +kernel)) (fun _ h9 => h9) rfl (by decide +kernel) rfl rfl (by rw [o_Fs0.2.1]; decide) dX12_putNumber_59 (fun H locs hP hD hS => ?_)
  have hP : va_P (dC, dI) vwCl [(Ad0, .inr (15, (Fs0.set 141 (.int 4)))), (Ad1, .inl (Ka0, 9000, .inl f108))] H := hP
  have hD : va_D A [(Ad0, .inr (15, (Fs0.set 141 (.int 4)))), (Ad1, .inl (Ka0, 9000, .inl f108))] := hD
  have o_s111 := ow_set o_Fs0 141 (.int 4) (by decide) (l' := [(141, .int 4), (139, .ref Ad1), (139, .ref Ad1), (139, .ref Ad1), (139, .ref Ad1), (139, .ref Ad1), (139, .ref Ad1), (139, .ref Ad1), (139, .ref Ad1)]) (w' := [141]) rfl rfl
  generalize (Fs0.set 141 (.int 4)) = s111 at hP hD o_s111
  refine lv_lload_n hx hb dX12_putNumber_62 rfl (lv_at hl 0 rfl) ?_
  refine lv_lconst (v := 0) hx hb dX12_putNumber_63 (by decide) ?_
  refine W.lcmp hx hb dX12_putNumber_64  ?_
  refine lv_topi (fun x112 ex112 => ?_)
  obtain rfl : x112 = 0 := ex112.trans (by decide)
  refine lv_if_ne (tgt := 2) hx hb dX12_putNumber_65 (by decide) (fun c113 => absurd c113 (by decide)) (fun c113 => ?_)
  have hP9 := hP.sub (ws' := [(Ad0, .inr (15, s111)), (Ad1, .inl (Ka0, 9000, .inl f108))]) [0, 1] rfl
  have hD9 := hD.sub (ws' := [(Ad0, .inr (15, s111)), (Ad1, .inl (Ka0, 9000, .inl f108))]) [0, 1] (by decide) rfl
  have hK9 := hK.sub (tys' := [(Ka0, .byte)]) [0] rfl
  exact W.vret hx hb hr (fun t ht hW => ⟨⟨(s111, f108), rfl, ⟨o_s111, q109⟩, by rw [ht]; exact hP9, va_K.moved hW.alike hK9, hD9⟩, hS.F ht⟩) hS.2.2 dX12_putNumber_68

def l_z_X12_check : List Cond := [.constant RX12 956 (16777619)]
def w_z_X12_check : List Cond := .code yX12_check cX12_check 5 (some .int) :: (l_z_X12_check)
set_option maxHeartbeats 4000000 in
set_option maxRecDepth 100000 in
theorem z_X12_check (l : Launch) (dC : Nat → ClassId) (dI : Nat → Nat → Nat) (sz : Nat) (Ad0 : Nat) (Fa0 : Nat → Int32) (Ka0 : ClassId)  (hk0_Fa0 : Fa0 (3 : Int32).toNatClampNeg = 0) : Met l yX12_check w_z_X12_check ({ frames := 0, cells := 0, slots := 0, locals := 0 }) (va_Pc [.ref Ad0, .int 0, .int 4] (fun U => U.heap.size = sz ∧ Wd dC dI [(Ka0, .byte)] (fun _ => True) [(Ad0, .inl (Ka0, 9000, .inl Fa0))] U)) (va_Qi (fun (r : Int32) (u : Unit) => True) (fun (u : Unit) t => Wd dC dI [(Ka0, .byte)] (va_A [(Ad0, .inl (Ka0, 9000, .inl Fa0))] sz) [(Ad0, .inl (Ka0, 9000, .inl Fa0))] t) (va_A [(Ad0, .inl (Ka0, 9000, .inl Fa0))] sz))  0 0 (va_A [(Ad0, .inl (Ka0, 9000, .inl Fa0))] sz) := by
  refine Met.ofW (cc := cX12_check) (maxL := 5) (ret := (some .int)) (by decide) rfl ?_
  intro p e s m args below meth c s₁ B hml hv
  obtain ⟨rfl, hsz, hP, hK, hD0⟩ := hv
  have hx := B.exec
  have hb := B.bytes
  have hr := B.returns
  have hts := atoms_spec (ws := w_z_X12_check) B.pre
  have hown : s.vm.findClass RX12 = some m.cls := findClass_of_methodNamed B.named
  have hlocks := B.notSynchronized
  subst hsz
  have hD := hD0.self (sz := s.heap.size)
  generalize hAe : va_A [(Ad0, .inl (Ka0, 9000, .inl Fa0))] s.heap.size = A at hD ⊢
  have hA : ∀ q : Nat, s.heap.size ≤ q → A q := fun q h => by rw [← hAe]; exact Or.inr h
  have hS : va_S A s.heap s.heap [] := va_S.rf
  have hl := lv_entry ([.ref Ad0, .int 0, .int 4]) (n := 5) (Nat.le_of_ble_eq_true rfl)
  rw [lg_entry_eq]
  generalize (lg_sl ([.ref Ad0, .int 0, .int 4]) ++ List.replicate (5 - (lg_sl ([.ref Ad0, .int 0, .int 4])).length) Slot.unset).toArray = ls at hl ⊢
  have hl : lv_has ls 5 [(0, .ref Ad0), (1, .int 0), (2, .int 4)] := hl
  refine lv_iconst (v := 1) hx hb dX12_check_0 (by decide) ?_
  refine lv_istore_n (lv' := [(3, .int 1), (0, .ref Ad0), (1, .int 0), (2, .int 4)]) hx hb dX12_check_1 rfl hl (by decide) rfl (fun ls hl => ?_)
  refine lv_iload_n hx hb dX12_check_2 rfl (lv_at hl 2 rfl) ?_
  refine lv_istore (lv' := [(4, .int 0), (3, .int 1), (0, .ref Ad0), (1, .int 0), (2, .int 4)]) hx hb dX12_check_3 hl (by decide) rfl (fun ls hl => ?_)
  refine lv_iload hx hb dX12_check_5 (lv_at hl 0 rfl) ?_
  refine lv_iload_n hx hb dX12_check_7 rfl (lv_at hl 4 rfl) ?_
  refine lv_icmp_ge (tgt := 32) hx hb dX12_check_8 (by decide) (fun c101 => absurd c101 (by decide)) (fun c101 => ?_)
  refine lv_iload_n hx hb dX12_check_11 rfl (lv_at hl 1 rfl) ?_
  refine lv_ldcw (v := 16777619) hx hb hown (hts (.constant RX12 956 (16777619)) (by decide +kernel)) dX12_check_12 ?_
  refine lv_imul hx hb dX12_check_15  ?_
  refine lv_topi (fun x102 ex102 => ?_)
  obtain rfl : x102 = 16777619 := ex102.trans (by decide)
  refine lv_aload_n hx hb dX12_check_16 rfl (lv_at hl 2 rfl) ?_
  refine lv_iload hx hb dX12_check_17 (lv_at hl 0 rfl) ?_
  refine va_bald hx hb hK hP 0 0 rfl rfl (show vp_in 0 9000 from by unfold vp_in; decide) dX12_check_19 ?_
  refine lv_topi (fun x103 ex103 => ?_)
  refine lv_sipush (v := 255) hx hb dX12_check_20 (by decide) ?_
  refine lv_iand hx hb dX12_check_23  ?_
  refine lv_topi (fun x104 ex104 => ?_)
  refine lv_ixor hx hb dX12_check_24  ?_
  refine lv_topi (fun x105 ex105 => ?_)
  refine lv_istore_n (lv' := [(3, .int x105), (4, .int 0), (0, .ref Ad0), (1, .int 0), (2, .int 4)]) hx hb dX12_check_25 rfl hl (by decide) rfl (fun ls hl => ?_)
  refine lv_iinc (v := 1) (lv' := [(4, .int 1), (3, .int x105), (0, .ref Ad0), (1, .int 0), (2, .int 4)]) hx hb dX12_check_26 hl (k := 1) rfl (by decide) (by decide) rfl (fun ls hl => ?_)
  refine lv_goto (tgt := 5) hx hb dX12_check_29 (by decide) ?_
  refine lv_iload hx hb dX12_check_5 (lv_at hl 0 rfl) ?_
  refine lv_iload_n hx hb dX12_check_7 rfl (lv_at hl 4 rfl) ?_
  refine lv_icmp_ge (tgt := 32) hx hb dX12_check_8 (by decide) (fun c106 => absurd c106 (by decide)) (fun c106 => ?_)
  refine lv_iload_n hx hb dX12_check_11 rfl (lv_at hl 1 rfl) ?_
  refine lv_ldcw (v := 16777619) hx hb hown (hts (.constant RX12 956 (16777619)) (by decide +kernel)) dX12_check_12 ?_
  refine lv_imul hx hb dX12_check_15  ?_
  refine lv_topi (fun x107 ex107 => ?_)
  refine lv_aload_n hx hb dX12_check_16 rfl (lv_at hl 2 rfl) ?_
  refine lv_iload hx hb dX12_check_17 (lv_at hl 0 rfl) ?_
  refine va_bald hx hb hK hP 0 0 rfl rfl (show vp_in 1 9000 from by unfold vp_in; decide) dX12_check_19 ?_
  refine lv_topi (fun x108 ex108 => ?_)
  refine lv_sipush (v := 255) hx hb dX12_check_20 (by decide) ?_
  refine lv_iand hx hb dX12_check_23  ?_
  refine lv_topi (fun x109 ex109 => ?_)
  refine lv_ixor hx hb dX12_check_24  ?_
  refine lv_topi (fun x110 ex110 => ?_)
  refine lv_istore_n (lv' := [(3, .int x110), (4, .int 1), (0, .ref Ad0), (1, .int 0), (2, .int 4)]) hx hb dX12_check_25 rfl hl (by decide) rfl (fun ls hl => ?_)
  refine lv_iinc (v := 2) (lv' := [(4, .int 2), (3, .int x110), (0, .ref Ad0), (1, .int 0), (2, .int 4)]) hx hb dX12_check_26 hl (k := 1) rfl (by decide) (by decide) rfl (fun ls hl => ?_)
  refine lv_goto (tgt := 5) hx hb dX12_check_29 (by decide) ?_
  refine lv_iload hx hb dX12_check_5 (lv_at hl 0 rfl) ?_
  refine lv_iload_n hx hb dX12_check_7 rfl (lv_at hl 4 rfl) ?_
  refine lv_icmp_ge (tgt := 32) hx hb dX12_check_8 (by decide) (fun c111 => absurd c111 (by decide)) (fun c111 => ?_)
  refine lv_iload_n hx hb dX12_check_11 rfl (lv_at hl 1 rfl) ?_
  refine lv_ldcw (v := 16777619) hx hb hown (hts (.constant RX12 956 (16777619)) (by decide +kernel)) dX12_check_12 ?_
  refine lv_imul hx hb dX12_check_15  ?_
  refine lv_topi (fun x112 ex112 => ?_)
  refine lv_aload_n hx hb dX12_check_16 rfl (lv_at hl 2 rfl) ?_
  refine lv_iload hx hb dX12_check_17 (lv_at hl 0 rfl) ?_
  refine va_bald hx hb hK hP 0 0 rfl rfl (show vp_in 2 9000 from by unfold vp_in; decide) dX12_check_19 ?_
  refine lv_topi (fun x113 ex113 => ?_)
  refine lv_sipush (v := 255) hx hb dX12_check_20 (by decide) ?_
  refine lv_iand hx hb dX12_check_23  ?_
  refine lv_topi (fun x114 ex114 => ?_)
  refine lv_ixor hx hb dX12_check_24  ?_
  refine lv_topi (fun x115 ex115 => ?_)
  refine lv_istore_n (lv' := [(3, .int x115), (4, .int 2), (0, .ref Ad0), (1, .int 0), (2, .int 4)]) hx hb dX12_check_25 rfl hl (by decide) rfl (fun ls hl => ?_)
  refine lv_iinc (v := 3) (lv' := [(4, .int 3), (3, .int x115), (0, .ref Ad0), (1, .int 0), (2, .int 4)]) hx hb dX12_check_26 hl (k := 1) rfl (by decide) (by decide) rfl (fun ls hl => ?_)
  refine lv_goto (tgt := 5) hx hb dX12_check_29 (by decide) ?_
  refine lv_iload hx hb dX12_check_5 (lv_at hl 0 rfl) ?_
  refine lv_iload_n hx hb dX12_check_7 rfl (lv_at hl 4 rfl) ?_
  refine lv_icmp_ge (tgt := 32) hx hb dX12_check_8 (by decide) (fun c116 => absurd c116 (by decide)) (fun c116 => ?_)
  refine lv_iload_n hx hb dX12_check_11 rfl (lv_at hl 1 rfl) ?_
  refine lv_ldcw (v := 16777619) hx hb hown (hts (.constant RX12 956 (16777619)) (by decide +kernel)) dX12_check_12 ?_
  refine lv_imul hx hb dX12_check_15  ?_
  refine lv_topi (fun x117 ex117 => ?_)
  refine lv_aload_n hx hb dX12_check_16 rfl (lv_at hl 2 rfl) ?_
  refine lv_iload hx hb dX12_check_17 (lv_at hl 0 rfl) ?_
  refine va_bald hx hb hK hP 0 0 rfl rfl (show vp_in 3 9000 from by unfold vp_in; decide) dX12_check_19 ?_
  refine lv_topi (fun x118 ex118 => ?_)
  obtain rfl : 0 = x118 := (ex118.trans hk0_Fa0).symm
  refine lv_sipush (v := 255) hx hb dX12_check_20 (by decide) ?_
  refine lv_iand hx hb dX12_check_23  ?_
  refine lv_topi (fun x119 ex119 => ?_)
  obtain rfl : x119 = 0 := ex119.trans (by decide)
  refine lv_ixor hx hb dX12_check_24  ?_
  refine lv_topi (fun x120 ex120 => ?_)
  refine lv_istore_n (lv' := [(3, .int x120), (4, .int 3), (0, .ref Ad0), (1, .int 0), (2, .int 4)]) hx hb dX12_check_25 rfl hl (by decide) rfl (fun ls hl => ?_)
  refine lv_iinc (v := 4) (lv' := [(4, .int 4), (3, .int x120), (0, .ref Ad0), (1, .int 0), (2, .int 4)]) hx hb dX12_check_26 hl (k := 1) rfl (by decide) (by decide) rfl (fun ls hl => ?_)
  refine lv_goto (tgt := 5) hx hb dX12_check_29 (by decide) ?_
  refine lv_iload hx hb dX12_check_5 (lv_at hl 0 rfl) ?_
  refine lv_iload_n hx hb dX12_check_7 rfl (lv_at hl 4 rfl) ?_
  refine lv_icmp_ge (tgt := 32) hx hb dX12_check_8 (by decide) (fun c121 => ?_) (fun c121 => absurd c121 (by decide))
  refine lv_iload_n hx hb dX12_check_32 rfl (lv_at hl 1 rfl) ?_
  have hP9 := hP.sub (ws' := [(Ad0, .inl (Ka0, 9000, .inl Fa0))]) [0] rfl
  have hD9 := hD.sub (ws' := [(Ad0, .inl (Ka0, 9000, .inl Fa0))]) [0] (by decide) rfl
  have hK9 := hK.sub (tys' := [(Ka0, .byte)]) [0] rfl
  exact W.iret (v := x120) hx hb hr (fun t ht hW => ⟨⟨x120, (), rfl, trivial, by rw [ht]; exact hP9, va_K.moved hW.alike hK9, hD9⟩, hS.F ht⟩) hS.2.2 dX12_check_33

def l_z_X12_putPicture : List Cond := [.fieldLink RX12 953 "HeapWorksModel" "rowEnd" "I", .constantLong RX12 957 (72), .methodLink RX12 959 yX12_putNumber, .instanceMethod yX12_putNumber, .selects RX12 yX12_putNumber yX12_putNumber, .initialized RX12, .constantLong RX12 962 (80), .fieldLink RX12 183 "HeapWorksModel" "things" "[I", .fieldLink RX12 234 "HeapWorksModel" "rootMany" "[I", .fieldLink RX12 369 "HeapWorksModel" "row0" "[B", .methodLink RX12 968 yX12_check, .static yX12_check, .code yX12_putNumber cX12_putNumber 6 none, .constantLong RX12 951 (127), .code yX12_check cX12_check 5 (some .int), .constant RX12 956 (16777619)]
def w_z_X12_putPicture : List Cond := .code yX12_putPicture cX12_putPicture 6 (some .boolean) :: (l_z_X12_putPicture ++ (wsX120))
theorem in_z_X12_putPicture_X12 : ∀ w ∈ wsX120, w ∈ w_z_X12_putPicture := fun w h => List.mem_cons_of_mem _ (List.mem_append_right _ (h))
theorem g_z_X12_putPicture_z_X12_putNumber_959 : GoodIn w_z_X12_putPicture (wsV RX12 959 RX12 yX12_putNumber w_z_X12_putNumber) := goodIn_app (goodIn_r (([.methodLink RX12 959 yX12_putNumber, .instanceMethod yX12_putNumber, .selects RX12 yX12_putNumber yX12_putNumber, .initialized RX12] : List Cond)) [3, 4, 5, 6] rfl (by decide +kernel)) (goodIn_ca (goodIn_r (.code yX12_putNumber cX12_putNumber 6 none :: l_z_X12_putNumber) [13, 14, 1, 10] rfl (by decide +kernel)) (goodIn_in (in_z_X12_putPicture_X12) gd_X12))
theorem g_z_X12_putPicture_z_X12_putNumber_1_959 : GoodIn w_z_X12_putPicture (wsV RX12 959 RX12 yX12_putNumber w_z_X12_putNumber_1) := goodIn_app (goodIn_r (([.methodLink RX12 959 yX12_putNumber, .instanceMethod yX12_putNumber, .selects RX12 yX12_putNumber yX12_putNumber, .initialized RX12] : List Cond)) [3, 4, 5, 6] rfl (by decide +kernel)) (goodIn_ca (goodIn_r (.code yX12_putNumber cX12_putNumber 6 none :: l_z_X12_putNumber_1) [13, 14, 1, 10] rfl (by decide +kernel)) (goodIn_in (in_z_X12_putPicture_X12) gd_X12))
theorem g_z_X12_putPicture_z_X12_putNumber_2_959 : GoodIn w_z_X12_putPicture (wsV RX12 959 RX12 yX12_putNumber w_z_X12_putNumber_2) := goodIn_app (goodIn_r (([.methodLink RX12 959 yX12_putNumber, .instanceMethod yX12_putNumber, .selects RX12 yX12_putNumber yX12_putNumber, .initialized RX12] : List Cond)) [3, 4, 5, 6] rfl (by decide +kernel)) (goodIn_ca (goodIn_r (.code yX12_putNumber cX12_putNumber 6 none :: l_z_X12_putNumber_2) [13, 14, 1, 10] rfl (by decide +kernel)) (goodIn_in (in_z_X12_putPicture_X12) gd_X12))
theorem g_z_X12_putPicture_z_X12_putNumber_3_959 : GoodIn w_z_X12_putPicture (wsV RX12 959 RX12 yX12_putNumber w_z_X12_putNumber_3) := goodIn_app (goodIn_r (([.methodLink RX12 959 yX12_putNumber, .instanceMethod yX12_putNumber, .selects RX12 yX12_putNumber yX12_putNumber, .initialized RX12] : List Cond)) [3, 4, 5, 6] rfl (by decide +kernel)) (goodIn_ca (goodIn_r (.code yX12_putNumber cX12_putNumber 6 none :: l_z_X12_putNumber_3) [13, 14, 1, 10] rfl (by decide +kernel)) (goodIn_in (in_z_X12_putPicture_X12) gd_X12))
theorem g_z_X12_putPicture_z_X12_check_968 : GoodIn w_z_X12_putPicture (wsS RX12 968 yX12_check w_z_X12_check) := goodIn_app (goodIn_r (([.methodLink RX12 968 yX12_check, .static yX12_check, .initialized RX12] : List Cond)) [11, 12, 6] rfl (by decide +kernel)) (goodIn_r (.code yX12_check cX12_check 5 (some .int) :: l_z_X12_check) [15, 16] rfl (by decide +kernel))
set_option maxHeartbeats 4000000 in
set_option maxRecDepth 100000 in
theorem z_X12_putPicture (l : Launch) (dC : Nat → ClassId) (dI : Nat → Nat → Nat) (sz : Nat) (Ad0 : Nat) (Fs0 : List Value) (Ad1 : Nat) (Fa0 : Nat → Int32) (Ka0 : ClassId) (Ad2 : Nat) (Fa1 : Nat → Int32) (Ka1 : ClassId) (Ad3 : Nat) (Fa2 : Nat → Int32) (Ka2 : ClassId) (Va0 : Int32) (k_Fs0 : fh Fs0 150 [(48, .ref Ad1), (65, .ref Ad2), (139, .ref Ad3), (141, .int 0)]) (hz_Fa0 : ∀ j, Fa0 j = 0) (hz_Fa1 : ∀ j, Fa1 j = 0) (gv_Va0 : (0 : Int) ≤ Va0.toInt ∧ Va0.toInt ≤ 3) : Met l yX12_putPicture w_z_X12_putPicture ({ frames := 1, cells := 0, slots := 0, locals := 25 }) (va_Pc [.ref Ad0, .int Va0] (fun U => U.heap.size = sz ∧ Wd dC dI [(Ka0, .int), (Ka1, .int), (Ka2, .byte)] (fun _ => True) [(Ad0, .inr (15, Fs0)), (Ad1, .inl (Ka0, 5, .inl Fa0)), (Ad2, .inl (Ka1, 5, .inl Fa1)), (Ad3, .inl (Ka2, 9000, .inl Fa2))] U)) (va_Qi (fun (r : Int32) (u : List Value × (Nat → Int32)) => (r = 1 ∧ ow Fs0 (u.1) 150 [141] [(141, .int 8), (139, .ref Ad3), (139, .ref Ad3), (139, .ref Ad3), (139, .ref Ad3), (139, .ref Ad3), (139, .ref Ad3), (139, .ref Ad3), (139, .ref Ad3), (139, .ref Ad3), (139, .ref Ad3), (139, .ref Ad3), (139, .ref Ad3), (139, .ref Ad3), (139, .ref Ad3), (139, .ref Ad3), (48, .ref Ad1), (65, .ref Ad2), (139, .ref Ad3)] ∧ (u.2) (3 : Int32).toNatClampNeg = 0)) (fun (u : List Value × (Nat → Int32)) t => Wd dC dI [(Ka0, .int), (Ka1, .int), (Ka2, .byte)] (va_A [(Ad0, .inr (15, Fs0)), (Ad1, .inl (Ka0, 5, .inl Fa0)), (Ad2, .inl (Ka1, 5, .inl Fa1)), (Ad3, .inl (Ka2, 9000, .inl Fa2))] sz) [(Ad0, .inr (15, (u.1))), (Ad1, .inl (Ka0, 5, .inl Fa0)), (Ad2, .inl (Ka1, 5, .inl Fa1)), (Ad3, .inl (Ka2, 9000, .inl ((u.2))))] t) (va_A [(Ad0, .inr (15, Fs0)), (Ad1, .inl (Ka0, 5, .inl Fa0)), (Ad2, .inl (Ka1, 5, .inl Fa1)), (Ad3, .inl (Ka2, 9000, .inl Fa2))] sz))  0 0 (va_A [(Ad0, .inr (15, Fs0)), (Ad1, .inl (Ka0, 5, .inl Fa0)), (Ad2, .inl (Ka1, 5, .inl Fa1)), (Ad3, .inl (Ka2, 9000, .inl Fa2))] sz) := by
  refine Met.ofW (cc := cX12_putPicture) (maxL := 6) (ret := (some .boolean)) (by decide) rfl ?_
  intro p e s m args below meth c s₁ B hml hv
  obtain ⟨rfl, hsz, hP, hK, hD0⟩ := hv
  have hx := B.exec
  have hb := B.bytes
  have hr := B.returns
  have hts := atoms_spec (ws := w_z_X12_putPicture) B.pre
  have hown : s.vm.findClass RX12 = some m.cls := findClass_of_methodNamed B.named
  have hlocks := B.notSynchronized
  subst hsz
  have hD := hD0.self (sz := s.heap.size)
  generalize hAe : va_A [(Ad0, .inr (15, Fs0)), (Ad1, .inl (Ka0, 5, .inl Fa0)), (Ad2, .inl (Ka1, 5, .inl Fa1)), (Ad3, .inl (Ka2, 9000, .inl Fa2))] s.heap.size = A at hD ⊢
  have hA : ∀ q : Nat, s.heap.size ≤ q → A q := fun q h => by rw [← hAe]; exact Or.inr h
  have hS : va_S A s.heap s.heap [] := va_S.rf
  have hl := lv_entry ([.ref Ad0, .int Va0]) (n := 6) (Nat.le_of_ble_eq_true rfl)
  rw [lg_entry_eq]
  generalize (lg_sl ([.ref Ad0, .int Va0]) ++ List.replicate (6 - (lg_sl ([.ref Ad0, .int Va0])).length) Slot.unset).toArray = ls at hl ⊢
  have hl : lv_has ls 6 [(0, .ref Ad0), (1, .int Va0)] := hl
  have o_Fs0 := ow_0 k_Fs0
  refine lv_aload_n hx hb dX12_putPicture_0 rfl (lv_at hl 0 rfl) ?_
  refine lv_iconst (v := 0) hx hb dX12_putPicture_1 (by decide) ?_
  refine va_put (D := (dC, dI)) (ci := 15) (v := .int 0) (ty := .int) (C := RX12) (T := TX12) (N := 150) hx hb hts (in_z_X12_putPicture_X12) tyX12 tyX12_ok nmX12 hown hK hP hD hS 0 rfl rfl 141 (by decide) (hts (.fieldLink RX12 953 "HeapWorksModel" "rowEnd" "I") (by decide +kernel)) (fun _ h9 => h9) rfl (by decide +kernel) rfl rfl (by rw [o_Fs0.2.1]; decide) dX12_putPicture_2 (fun H locs hP hD hS => ?_)
  have hP : va_P (dC, dI) vwCl [(Ad0, .inr (15, (Fs0.set 141 (.int 0)))), (Ad1, .inl (Ka0, 5, .inl Fa0)), (Ad2, .inl (Ka1, 5, .inl Fa1)), (Ad3, .inl (Ka2, 9000, .inl Fa2))] H := hP
  have hD : va_D A [(Ad0, .inr (15, (Fs0.set 141 (.int 0)))), (Ad1, .inl (Ka0, 5, .inl Fa0)), (Ad2, .inl (Ka1, 5, .inl Fa1)), (Ad3, .inl (Ka2, 9000, .inl Fa2))] := hD
  have o_s101 := ow_set o_Fs0 141 (.int 0) (by decide) (l' := [(141, .int 0), (48, .ref Ad1), (65, .ref Ad2), (139, .ref Ad3)]) (w' := [141]) rfl rfl
  generalize (Fs0.set 141 (.int 0)) = s101 at hP hD o_s101
  refine lv_aload_n hx hb dX12_putPicture_5 rfl (lv_at hl 0 rfl) ?_
  refine lv_ldc2 (v := 72) hx hb hown (hts (.constantLong RX12 957 (72)) (by decide +kernel)) dX12_putPicture_6 ?_
  have hPc := hP.sub (ws' := [(Ad0, .inr (15, s101)), (Ad3, .inl (Ka2, 9000, .inl Fa2))]) [0, 3] rfl
  have hDc := hD.sub (ws' := [(Ad0, .inr (15, s101)), (Ad3, .inl (Ka2, 9000, .inl Fa2))]) [0, 3] (by decide) rfl
  have hKc := hK.sub (tys' := [(Ka2, .byte)]) [2] rfl
  have hFc := va_free (wc := [(Ad0, .inr (15, s101)), (Ad3, .inl (Ka2, 9000, .inl Fa2))]) hD hS hA [0, 3] rfl
  refine va_callv (va_runV (As := [.long 72]) (rest := []) ⟨hx, hb, hml, hown, hts⟩ (z_X12_putNumber l dC dI H.size Ad0 s101 Ad3 Fa2 Ka2 (fh_sub o_s101.2 [0, 3] rfl) ) (cwV 1 hts g_z_X12_putPicture_z_X12_putNumber_959 rfl rfl rfl (by decide +kernel) ⟨Nat.le_of_ble_eq_true rfl, Nat.le_of_ble_eq_true rfl⟩) ⟨fun a U g mk q => by obtain ⟨q0, q1, qP, qK, qD⟩ := q; exact ⟨q0, q1, qP, va_K.moved (u := U) (U := U.calling g mk a) (Vm.Alike.refl U.vm) qK, qD⟩, va_recv hK hP (ci := 15) (q0 := 0) rfl rfl, fun U hU hW => ⟨rfl, by rw [hU], by rw [hU]; exact hPc, va_K.moved hW.alike hKc, hDc.weaken (fun _ _ _ _ => trivial)⟩⟩ rfl rfl hl.1 rfl (lv_room (Nat.le_of_ble_eq_true rfl)) dX12_putPicture_9 ⟨Nat.le_of_ble_eq_true rfl, Nat.le_of_ble_eq_true rfl⟩) hS (fun q _ h => hFc q h) hFc (fun u t H1 locs ht hvm hw hB hz1 hk1 hS => ?_)
  obtain ⟨s102, f103⟩ := u
  obtain ⟨hP1, hK1, hD1⟩ := hB
  rw [ht] at hP1
  try dsimp only at hw
  obtain ⟨hP, hD⟩ := va_join (wr := [(Ad1, .inl (Ka0, 5, .inl Fa0)), (Ad2, .inl (Ka1, 5, .inl Fa1))]) (w1 := [(Ad0, .inr (15, s102)), (Ad3, .inl (Ka2, 9000, .inl f103))]) hP hD [0, 3] [1, 2] rfl rfl (by decide) (by decide) hk1 hFc hP1 hD1
  have hK := hK.sub (tys' := [(Ka0, .int), (Ka1, .int), (Ka2, .byte)]) [0, 1, 2] rfl
  generalize H1 = H at hP hS ⊢
  have hP : va_P (dC, dI) vwCl [(Ad1, .inl (Ka0, 5, .inl Fa0)), (Ad2, .inl (Ka1, 5, .inl Fa1)), (Ad0, .inr (15, s102)), (Ad3, .inl (Ka2, 9000, .inl f103))] H := hP
  have hD : va_D A [(Ad1, .inl (Ka0, 5, .inl Fa0)), (Ad2, .inl (Ka1, 5, .inl Fa1)), (Ad0, .inr (15, s102)), (Ad3, .inl (Ka2, 9000, .inl f103))] := hD
  obtain ⟨o_s102, q104⟩ := hw
  have o_s102 := ow_on o_s101 o_s102 (l' := [(141, .int 1), (139, .ref Ad3), (48, .ref Ad1), (65, .ref Ad2), (139, .ref Ad3)]) (w' := [141]) rfl rfl
  refine lv_aload_n hx hb dX12_putPicture_12 rfl (lv_at hl 0 rfl) ?_
  refine lv_ldc2 (v := 80) hx hb hown (hts (.constantLong RX12 962 (80)) (by decide +kernel)) dX12_putPicture_13 ?_
  have hPc := hP.sub (ws' := [(Ad0, .inr (15, s102)), (Ad3, .inl (Ka2, 9000, .inl f103))]) [2, 3] rfl
  have hDc := hD.sub (ws' := [(Ad0, .inr (15, s102)), (Ad3, .inl (Ka2, 9000, .inl f103))]) [2, 3] (by decide) rfl
  have hKc := hK.sub (tys' := [(Ka2, .byte)]) [2] rfl
  have hFc := va_free (wc := [(Ad0, .inr (15, s102)), (Ad3, .inl (Ka2, 9000, .inl f103))]) hD hS hA [2, 3] rfl
  refine va_callv (va_runV (As := [.long 80]) (rest := []) ⟨hx, hb, hml, hown, hts⟩ (z_X12_putNumber_1 l dC dI H.size Ad0 s102 Ad3 f103 Ka2 (fh_sub o_s102.2 [0, 1, 1] rfl) ) (cwV 1 hts g_z_X12_putPicture_z_X12_putNumber_1_959 rfl rfl rfl (by decide +kernel) ⟨Nat.le_of_ble_eq_true rfl, Nat.le_of_ble_eq_true rfl⟩) ⟨fun a U g mk q => by obtain ⟨q0, q1, qP, qK, qD⟩ := q; exact ⟨q0, q1, qP, va_K.moved (u := U) (U := U.calling g mk a) (Vm.Alike.refl U.vm) qK, qD⟩, va_recv hK hP (ci := 15) (q0 := 2) rfl rfl, fun U hU hW => ⟨rfl, by rw [hU], by rw [hU]; exact hPc, va_K.moved hW.alike hKc, hDc.weaken (fun _ _ _ _ => trivial)⟩⟩ rfl rfl hl.1 rfl (lv_room (Nat.le_of_ble_eq_true rfl)) dX12_putPicture_16 ⟨Nat.le_of_ble_eq_true rfl, Nat.le_of_ble_eq_true rfl⟩) hS (fun q _ h => hFc q h) hFc (fun u t H1 locs ht hvm hw hB hz1 hk1 hS => ?_)
  obtain ⟨s105, f106⟩ := u
  obtain ⟨hP1, hK1, hD1⟩ := hB
  rw [ht] at hP1
  try dsimp only at hw
  obtain ⟨hP, hD⟩ := va_join (wr := [(Ad1, .inl (Ka0, 5, .inl Fa0)), (Ad2, .inl (Ka1, 5, .inl Fa1))]) (w1 := [(Ad0, .inr (15, s105)), (Ad3, .inl (Ka2, 9000, .inl f106))]) hP hD [2, 3] [0, 1] rfl rfl (by decide) (by decide) hk1 hFc hP1 hD1
  have hK := hK.sub (tys' := [(Ka0, .int), (Ka1, .int), (Ka2, .byte)]) [0, 1, 2] rfl
  generalize H1 = H at hP hS ⊢
  have hP : va_P (dC, dI) vwCl [(Ad1, .inl (Ka0, 5, .inl Fa0)), (Ad2, .inl (Ka1, 5, .inl Fa1)), (Ad0, .inr (15, s105)), (Ad3, .inl (Ka2, 9000, .inl f106))] H := hP
  have hD : va_D A [(Ad1, .inl (Ka0, 5, .inl Fa0)), (Ad2, .inl (Ka1, 5, .inl Fa1)), (Ad0, .inr (15, s105)), (Ad3, .inl (Ka2, 9000, .inl f106))] := hD
  obtain ⟨o_s105, q107⟩ := hw
  have o_s105 := ow_on o_s102 o_s105 (l' := [(141, .int 2), (139, .ref Ad3), (139, .ref Ad3), (139, .ref Ad3), (48, .ref Ad1), (65, .ref Ad2), (139, .ref Ad3)]) (w' := [141]) rfl rfl
  refine lv_aload_n hx hb dX12_putPicture_19 rfl (lv_at hl 0 rfl) ?_
  refine lv_aload_n hx hb dX12_putPicture_20 rfl (lv_at hl 0 rfl) ?_
  refine va_get (D := (dC, dI)) (ci := 15) (v := .ref Ad1) (C := RX12) (T := TX12) (N := 150) hx hb hts (in_z_X12_putPicture_X12) hown hK hP 2 rfl rfl 48 (by decide) (hts (.fieldLink RX12 183 "HeapWorksModel" "things" "[I") (by decide +kernel)) (fun _ h9 => h9) (ow_at o_s105 4 rfl) dX12_putPicture_21 ?_
  refine lv_iload_n hx hb dX12_putPicture_24 rfl (lv_at hl 1 rfl) ?_
  refine va_iald hx hb hK hP 0 0 rfl rfl (by rw [vp_in_iff]; (try simp only [i_lt, i_le, i_eq] at gv_Va0); omega) dX12_putPicture_25 ?_
  refine lv_topi (fun x108 ex108 => ?_)
  obtain rfl : x108 = 0 := ex108.trans (hz_Fa0 _)
  refine lv_i2l hx hb dX12_putPicture_26 rfl ?_
  refine lv_topl (fun x109 ex109 => ?_)
  obtain rfl : x109 = 0 := ex109.trans (by decide)
  have hPc := hP.sub (ws' := [(Ad0, .inr (15, s105)), (Ad3, .inl (Ka2, 9000, .inl f106))]) [2, 3] rfl
  have hDc := hD.sub (ws' := [(Ad0, .inr (15, s105)), (Ad3, .inl (Ka2, 9000, .inl f106))]) [2, 3] (by decide) rfl
  have hKc := hK.sub (tys' := [(Ka2, .byte)]) [2] rfl
  have hFc := va_free (wc := [(Ad0, .inr (15, s105)), (Ad3, .inl (Ka2, 9000, .inl f106))]) hD hS hA [2, 3] rfl
  refine va_callv (va_runV (As := [.long 0]) (rest := []) ⟨hx, hb, hml, hown, hts⟩ (z_X12_putNumber_2 l dC dI H.size Ad0 s105 Ad3 f106 Ka2 (fh_sub o_s105.2 [0, 1, 1, 1, 1] rfl) ) (cwV 1 hts g_z_X12_putPicture_z_X12_putNumber_2_959 rfl rfl rfl (by decide +kernel) ⟨Nat.le_of_ble_eq_true rfl, Nat.le_of_ble_eq_true rfl⟩) ⟨fun a U g mk q => by obtain ⟨q0, q1, qP, qK, qD⟩ := q; exact ⟨q0, q1, qP, va_K.moved (u := U) (U := U.calling g mk a) (Vm.Alike.refl U.vm) qK, qD⟩, va_recv hK hP (ci := 15) (q0 := 2) rfl rfl, fun U hU hW => ⟨rfl, by rw [hU], by rw [hU]; exact hPc, va_K.moved hW.alike hKc, hDc.weaken (fun _ _ _ _ => trivial)⟩⟩ rfl rfl hl.1 rfl (lv_room (Nat.le_of_ble_eq_true rfl)) dX12_putPicture_27 ⟨Nat.le_of_ble_eq_true rfl, Nat.le_of_ble_eq_true rfl⟩) hS (fun q _ h => hFc q h) hFc (fun u t H1 locs ht hvm hw hB hz1 hk1 hS => ?_)
  obtain ⟨s110, f111⟩ := u
  obtain ⟨hP1, hK1, hD1⟩ := hB
  rw [ht] at hP1
  try dsimp only at hw
  obtain ⟨hP, hD⟩ := va_join (wr := [(Ad1, .inl (Ka0, 5, .inl Fa0)), (Ad2, .inl (Ka1, 5, .inl Fa1))]) (w1 := [(Ad0, .inr (15, s110)), (Ad3, .inl (Ka2, 9000, .inl f111))]) hP hD [2, 3] [0, 1] rfl rfl (by decide) (by decide) hk1 hFc hP1 hD1
  have hK := hK.sub (tys' := [(Ka0, .int), (Ka1, .int), (Ka2, .byte)]) [0, 1, 2] rfl
  generalize H1 = H at hP hS ⊢
  have hP : va_P (dC, dI) vwCl [(Ad1, .inl (Ka0, 5, .inl Fa0)), (Ad2, .inl (Ka1, 5, .inl Fa1)), (Ad0, .inr (15, s110)), (Ad3, .inl (Ka2, 9000, .inl f111))] H := hP
  have hD : va_D A [(Ad1, .inl (Ka0, 5, .inl Fa0)), (Ad2, .inl (Ka1, 5, .inl Fa1)), (Ad0, .inr (15, s110)), (Ad3, .inl (Ka2, 9000, .inl f111))] := hD
  obtain ⟨o_s110, q112⟩ := hw
  have o_s110 := ow_on o_s105 o_s110 (l' := [(141, .int 3), (139, .ref Ad3), (139, .ref Ad3), (139, .ref Ad3), (139, .ref Ad3), (139, .ref Ad3), (139, .ref Ad3), (139, .ref Ad3), (48, .ref Ad1), (65, .ref Ad2), (139, .ref Ad3)]) (w' := [141]) rfl rfl
  refine lv_iconst (v := 0) hx hb dX12_putPicture_30 (by decide) ?_
  refine lv_istore_n (lv' := [(2, .int 0), (0, .ref Ad0), (1, .int Va0)]) hx hb dX12_putPicture_31 rfl hl (by decide) rfl (fun ls hl => ?_)
  refine lv_iload_n hx hb dX12_putPicture_32 rfl (lv_at hl 0 rfl) ?_
  refine lv_aload_n hx hb dX12_putPicture_33 rfl (lv_at hl 1 rfl) ?_
  refine va_get (D := (dC, dI)) (ci := 15) (v := .ref Ad1) (C := RX12) (T := TX12) (N := 150) hx hb hts (in_z_X12_putPicture_X12) hown hK hP 2 rfl rfl 48 (by decide) (hts (.fieldLink RX12 183 "HeapWorksModel" "things" "[I") (by decide +kernel)) (fun _ h9 => h9) (ow_at o_s110 8 rfl) dX12_putPicture_34 ?_
  refine lv_iload_n hx hb dX12_putPicture_37 rfl (lv_at hl 2 rfl) ?_
  refine va_iald hx hb hK hP 0 0 rfl rfl (by rw [vp_in_iff]; (try simp only [i_lt, i_le, i_eq] at gv_Va0); omega) dX12_putPicture_38 ?_
  refine lv_topi (fun x113 ex113 => ?_)
  obtain rfl : x113 = 0 := ex113.trans (hz_Fa0 _)
  refine lv_icmp_ge (tgt := 168) hx hb dX12_putPicture_39 (by decide) (fun c114 => ?_) (fun c114 => absurd c114 (by decide))
  refine lv_aload_n hx hb dX12_putPicture_168 rfl (lv_at hl 1 rfl) ?_
  refine lv_aload_n hx hb dX12_putPicture_169 rfl (lv_at hl 1 rfl) ?_
  refine va_get (D := (dC, dI)) (ci := 15) (v := .ref Ad2) (C := RX12) (T := TX12) (N := 150) hx hb hts (in_z_X12_putPicture_X12) hown hK hP 2 rfl rfl 65 (by decide) (hts (.fieldLink RX12 234 "HeapWorksModel" "rootMany" "[I") (by decide +kernel)) (fun _ h9 => h9) (ow_at o_s110 9 rfl) dX12_putPicture_170 ?_
  refine lv_iload_n hx hb dX12_putPicture_173 rfl (lv_at hl 2 rfl) ?_
  refine va_iald hx hb hK hP 1 1 rfl rfl (by rw [vp_in_iff]; (try simp only [i_lt, i_le, i_eq] at gv_Va0); omega) dX12_putPicture_174 ?_
  refine lv_topi (fun x115 ex115 => ?_)
  obtain rfl : x115 = 0 := ex115.trans (hz_Fa1 _)
  refine lv_i2l hx hb dX12_putPicture_175 rfl ?_
  refine lv_topl (fun x116 ex116 => ?_)
  obtain rfl : x116 = 0 := ex116.trans (by decide)
  have hPc := hP.sub (ws' := [(Ad0, .inr (15, s110)), (Ad3, .inl (Ka2, 9000, .inl f111))]) [2, 3] rfl
  have hDc := hD.sub (ws' := [(Ad0, .inr (15, s110)), (Ad3, .inl (Ka2, 9000, .inl f111))]) [2, 3] (by decide) rfl
  have hKc := hK.sub (tys' := [(Ka2, .byte)]) [2] rfl
  have hFc := va_free (wc := [(Ad0, .inr (15, s110)), (Ad3, .inl (Ka2, 9000, .inl f111))]) hD hS hA [2, 3] rfl
  refine va_callv (va_runV (As := [.long 0]) (rest := []) ⟨hx, hb, hml, hown, hts⟩ (z_X12_putNumber_3 l dC dI H.size Ad0 s110 Ad3 f111 Ka2 (fh_sub o_s110.2 [0, 1, 1, 1, 1, 1, 1, 1, 1] rfl) ) (cwV 1 hts g_z_X12_putPicture_z_X12_putNumber_3_959 rfl rfl rfl (by decide +kernel) ⟨Nat.le_of_ble_eq_true rfl, Nat.le_of_ble_eq_true rfl⟩) ⟨fun a U g mk q => by obtain ⟨q0, q1, qP, qK, qD⟩ := q; exact ⟨q0, q1, qP, va_K.moved (u := U) (U := U.calling g mk a) (Vm.Alike.refl U.vm) qK, qD⟩, va_recv hK hP (ci := 15) (q0 := 2) rfl rfl, fun U hU hW => ⟨rfl, by rw [hU], by rw [hU]; exact hPc, va_K.moved hW.alike hKc, hDc.weaken (fun _ _ _ _ => trivial)⟩⟩ rfl rfl hl.1 rfl (lv_room (Nat.le_of_ble_eq_true rfl)) dX12_putPicture_176 ⟨Nat.le_of_ble_eq_true rfl, Nat.le_of_ble_eq_true rfl⟩) hS (fun q _ h => hFc q h) hFc (fun u t H1 locs ht hvm hw hB hz1 hk1 hS => ?_)
  obtain ⟨s117, f118⟩ := u
  obtain ⟨hP1, hK1, hD1⟩ := hB
  rw [ht] at hP1
  try dsimp only at hw
  obtain ⟨hP, hD⟩ := va_join (wr := [(Ad1, .inl (Ka0, 5, .inl Fa0)), (Ad2, .inl (Ka1, 5, .inl Fa1))]) (w1 := [(Ad0, .inr (15, s117)), (Ad3, .inl (Ka2, 9000, .inl f118))]) hP hD [2, 3] [0, 1] rfl rfl (by decide) (by decide) hk1 hFc hP1 hD1
  have hK := hK.sub (tys' := [(Ka0, .int), (Ka1, .int), (Ka2, .byte)]) [0, 1, 2] rfl
  generalize H1 = H at hP hS ⊢
  have hP : va_P (dC, dI) vwCl [(Ad1, .inl (Ka0, 5, .inl Fa0)), (Ad2, .inl (Ka1, 5, .inl Fa1)), (Ad0, .inr (15, s117)), (Ad3, .inl (Ka2, 9000, .inl f118))] H := hP
  have hD : va_D A [(Ad1, .inl (Ka0, 5, .inl Fa0)), (Ad2, .inl (Ka1, 5, .inl Fa1)), (Ad0, .inr (15, s117)), (Ad3, .inl (Ka2, 9000, .inl f118))] := hD
  obtain ⟨o_s117, q119⟩ := hw
  have o_s117 := ow_on o_s110 o_s117 (l' := [(141, .int 4), (139, .ref Ad3), (139, .ref Ad3), (139, .ref Ad3), (139, .ref Ad3), (139, .ref Ad3), (139, .ref Ad3), (139, .ref Ad3), (139, .ref Ad3), (139, .ref Ad3), (139, .ref Ad3), (139, .ref Ad3), (139, .ref Ad3), (139, .ref Ad3), (139, .ref Ad3), (139, .ref Ad3), (48, .ref Ad1), (65, .ref Ad2), (139, .ref Ad3)]) (w' := [141]) rfl rfl
  refine lv_iconst (v := 0) hx hb dX12_putPicture_179 (by decide) ?_
  refine lv_istore_n (lv' := [(2, .int 0), (0, .ref Ad0), (1, .int Va0)]) hx hb dX12_putPicture_180 rfl hl (by decide) rfl (fun ls hl => ?_)
  refine lv_iload_n hx hb dX12_putPicture_181 rfl (lv_at hl 0 rfl) ?_
  refine lv_aload_n hx hb dX12_putPicture_182 rfl (lv_at hl 1 rfl) ?_
  refine va_get (D := (dC, dI)) (ci := 15) (v := .ref Ad2) (C := RX12) (T := TX12) (N := 150) hx hb hts (in_z_X12_putPicture_X12) hown hK hP 2 rfl rfl 65 (by decide) (hts (.fieldLink RX12 234 "HeapWorksModel" "rootMany" "[I") (by decide +kernel)) (fun _ h9 => h9) (ow_at o_s117 17 rfl) dX12_putPicture_183 ?_
  refine lv_iload_n hx hb dX12_putPicture_186 rfl (lv_at hl 2 rfl) ?_
  refine va_iald hx hb hK hP 1 1 rfl rfl (by rw [vp_in_iff]; (try simp only [i_lt, i_le, i_eq] at gv_Va0); omega) dX12_putPicture_187 ?_
  refine lv_topi (fun x120 ex120 => ?_)
  obtain rfl : x120 = 0 := ex120.trans (hz_Fa1 _)
  refine lv_icmp_ge (tgt := 231) hx hb dX12_putPicture_188 (by decide) (fun c121 => ?_) (fun c121 => absurd c121 (by decide))
  refine lv_aload_n hx hb dX12_putPicture_231 rfl (lv_at hl 1 rfl) ?_
  refine va_get (D := (dC, dI)) (ci := 15) (v := .int 4) (C := RX12) (T := TX12) (N := 150) hx hb hts (in_z_X12_putPicture_X12) hown hK hP 2 rfl rfl 141 (by decide) (hts (.fieldLink RX12 953 "HeapWorksModel" "rowEnd" "I") (by decide +kernel)) (fun _ h9 => h9) (ow_at o_s117 0 rfl) dX12_putPicture_232 ?_
  refine lv_iconst (v := 4) hx hb dX12_putPicture_235 (by decide) ?_
  refine lv_iadd hx hb dX12_putPicture_236  ?_
  refine lv_topi (fun x122 ex122 => ?_)
  obtain rfl : x122 = 8 := ex122.trans (by decide)
  refine lv_sipush (v := 4000) hx hb dX12_putPicture_237 (by decide) ?_
  refine lv_icmp_le (tgt := 245) hx hb dX12_putPicture_240 (by decide) (fun c123 => ?_) (fun c123 => absurd c123 (by decide))
  refine lv_aload_n hx hb dX12_putPicture_245 rfl (lv_at hl 1 rfl) ?_
  refine va_get (D := (dC, dI)) (ci := 15) (v := .ref Ad3) (C := RX12) (T := TX12) (N := 150) hx hb hts (in_z_X12_putPicture_X12) hown hK hP 2 rfl rfl 139 (by decide) (hts (.fieldLink RX12 369 "HeapWorksModel" "row0" "[B") (by decide +kernel)) (fun _ h9 => h9) (ow_at o_s117 1 rfl) dX12_putPicture_246 ?_
  refine lv_iconst (v := 0) hx hb dX12_putPicture_249 (by decide) ?_
  refine lv_aload_n hx hb dX12_putPicture_250 rfl (lv_at hl 1 rfl) ?_
  refine va_get (D := (dC, dI)) (ci := 15) (v := .int 4) (C := RX12) (T := TX12) (N := 150) hx hb hts (in_z_X12_putPicture_X12) hown hK hP 2 rfl rfl 141 (by decide) (hts (.fieldLink RX12 953 "HeapWorksModel" "rowEnd" "I") (by decide +kernel)) (fun _ h9 => h9) (ow_at o_s117 0 rfl) dX12_putPicture_251 ?_
  have hPc := hP.sub (ws' := [(Ad3, .inl (Ka2, 9000, .inl f118))]) [3] rfl
  have hDc := hD.sub (ws' := [(Ad3, .inl (Ka2, 9000, .inl f118))]) [3] (by decide) rfl
  have hKc := hK.sub (tys' := [(Ka2, .byte)]) [2] rfl
  have hFc := va_free (wc := [(Ad3, .inl (Ka2, 9000, .inl f118))]) hD hS hA [3] rfl
  refine va_calli (va_runS (As := [.ref Ad3, .int 0, .int 4]) (rest := []) ⟨hx, hb, hml, hown, hts⟩ (z_X12_check l dC dI H.size Ad3 f118 Ka2  q119) (cwS 3 hts g_z_X12_putPicture_z_X12_check_968 rfl rfl rfl (by decide +kernel) ⟨Nat.le_of_ble_eq_true rfl, Nat.le_of_ble_eq_true rfl⟩) ⟨fun a U g mk q => by obtain ⟨q0, q1, qP, qK, qD⟩ := q; exact ⟨q0, q1, qP, va_K.moved (u := U) (U := U.calling g mk a) (Vm.Alike.refl U.vm) qK, qD⟩, fun U hU hW => ⟨rfl, by rw [hU], by rw [hU]; exact hPc, va_K.moved hW.alike hKc, hDc.weaken (fun _ _ _ _ => trivial)⟩⟩ rfl rfl hl.1 rfl (lv_room (Nat.le_of_ble_eq_true rfl)) dX12_putPicture_254 ⟨Nat.le_of_ble_eq_true rfl, Nat.le_of_ble_eq_true rfl⟩) hS (fun q _ h => hFc q h) hFc (fun r124 u t H1 locs ht hvm hw hB hz1 hk1 hS => ?_)
  obtain ⟨hP1, hK1, hD1⟩ := hB
  rw [ht] at hP1
  try dsimp only at hw
  obtain ⟨hP, hD⟩ := va_join (wr := [(Ad1, .inl (Ka0, 5, .inl Fa0)), (Ad2, .inl (Ka1, 5, .inl Fa1)), (Ad0, .inr (15, s117))]) (w1 := [(Ad3, .inl (Ka2, 9000, .inl f118))]) hP hD [3] [0, 1, 2] rfl rfl (by decide) (by decide) hk1 hFc hP1 hD1
  have hK := hK.sub (tys' := [(Ka0, .int), (Ka1, .int), (Ka2, .byte)]) [0, 1, 2] rfl
  generalize H1 = H at hP hS ⊢
  have hP : va_P (dC, dI) vwCl [(Ad1, .inl (Ka0, 5, .inl Fa0)), (Ad2, .inl (Ka1, 5, .inl Fa1)), (Ad0, .inr (15, s117)), (Ad3, .inl (Ka2, 9000, .inl f118))] H := hP
  have hD : va_D A [(Ad1, .inl (Ka0, 5, .inl Fa0)), (Ad2, .inl (Ka1, 5, .inl Fa1)), (Ad0, .inr (15, s117)), (Ad3, .inl (Ka2, 9000, .inl f118))] := hD
  refine lv_istore_n (lv' := [(2, .int r124), (0, .ref Ad0), (1, .int Va0)]) hx hb dX12_putPicture_257 rfl hl (by decide) rfl (fun ls hl => ?_)
  refine lv_iconst (v := 0) hx hb dX12_putPicture_258 (by decide) ?_
  refine lv_istore_n (lv' := [(3, .int 0), (2, .int r124), (0, .ref Ad0), (1, .int Va0)]) hx hb dX12_putPicture_259 rfl hl (by decide) rfl (fun ls hl => ?_)
  refine lv_iload_n hx hb dX12_putPicture_260 rfl (lv_at hl 0 rfl) ?_
  refine lv_iconst (v := 4) hx hb dX12_putPicture_261 (by decide) ?_
  refine lv_icmp_ge (tgt := 297) hx hb dX12_putPicture_262 (by decide) (fun c125 => absurd c125 (by decide)) (fun c125 => ?_)
  refine lv_aload_n hx hb dX12_putPicture_265 rfl (lv_at hl 2 rfl) ?_
  refine va_get (D := (dC, dI)) (ci := 15) (v := .ref Ad3) (C := RX12) (T := TX12) (N := 150) hx hb hts (in_z_X12_putPicture_X12) hown hK hP 2 rfl rfl 139 (by decide) (hts (.fieldLink RX12 369 "HeapWorksModel" "row0" "[B") (by decide +kernel)) (fun _ h9 => h9) (ow_at o_s117 1 rfl) dX12_putPicture_266 ?_
  refine lv_aload_n hx hb dX12_putPicture_269 rfl (lv_at hl 2 rfl) ?_
  refine va_get (D := (dC, dI)) (ci := 15) (v := .int 4) (C := RX12) (T := TX12) (N := 150) hx hb hts (in_z_X12_putPicture_X12) hown hK hP 2 rfl rfl 141 (by decide) (hts (.fieldLink RX12 953 "HeapWorksModel" "rowEnd" "I") (by decide +kernel)) (fun _ h9 => h9) (ow_at o_s117 0 rfl) dX12_putPicture_270 ?_
  refine lv_iload_n hx hb dX12_putPicture_273 rfl (lv_at hl 1 rfl) ?_
  refine lv_bipush (v := 8) hx hb dX12_putPicture_274 (by decide) ?_
  refine lv_iload_n hx hb dX12_putPicture_276 rfl (lv_at hl 0 rfl) ?_
  refine lv_imul hx hb dX12_putPicture_277  ?_
  refine lv_topi (fun x126 ex126 => ?_)
  obtain rfl : x126 = 0 := ex126.trans (by decide)
  refine lv_ishr hx hb dX12_putPicture_278  ?_
  refine lv_topi (fun x127 ex127 => ?_)
  refine lv_i2b hx hb dX12_putPicture_279 rfl ?_
  refine lv_topi (fun x128 ex128 => ?_)
  refine va_bast hx hb hK hP hD hS 3 2 rfl rfl (show vp_in 4 9000 from by unfold vp_in; decide) dX12_putPicture_280 (fun H locs hP hD hS => ?_)
  have hP : va_P (dC, dI) vwCl [(Ad1, .inl (Ka0, 5, .inl Fa0)), (Ad2, .inl (Ka1, 5, .inl Fa1)), (Ad0, .inr (15, s117)), (Ad3, .inl (Ka2, 9000, .inl (upd f118 (4 : Int32).toNatClampNeg (vp_nar .byte x128))))] H := hP
  have hD : va_D A [(Ad1, .inl (Ka0, 5, .inl Fa0)), (Ad2, .inl (Ka1, 5, .inl Fa1)), (Ad0, .inr (15, s117)), (Ad3, .inl (Ka2, 9000, .inl (upd f118 (4 : Int32).toNatClampNeg (vp_nar .byte x128))))] := hD
  have q130 : (upd f118 (4 : Int32).toNatClampNeg (vp_nar .byte x128)) (3 : Int32).toNatClampNeg = 0 := (kn_ne (by decide)).trans q119
  generalize upd f118 (4 : Int32).toNatClampNeg (vp_nar .byte x128) = f129 at hP hD q130
  refine lv_aload_n hx hb dX12_putPicture_281 rfl (lv_at hl 2 rfl) ?_
  refine lv_dup hx hb dX12_putPicture_282 rfl ?_
  refine va_get (D := (dC, dI)) (ci := 15) (v := .int 4) (C := RX12) (T := TX12) (N := 150) hx hb hts (in_z_X12_putPicture_X12) hown hK hP 2 rfl rfl 141 (by decide) (hts (.fieldLink RX12 953 "HeapWorksModel" "rowEnd" "I") (by decide +kernel)) (fun _ h9 => h9) (ow_at o_s117 0 rfl) dX12_putPicture_283 ?_
  refine lv_iconst (v := 1) hx hb dX12_putPicture_286 (by decide) ?_
  refine lv_iadd hx hb dX12_putPicture_287  ?_
  refine lv_topi (fun x131 ex131 => ?_)
  obtain rfl : x131 = 5 := ex131.trans (by decide)
  refine va_put (D := (dC, dI)) (ci := 15) (v := .int 5) (ty := .int) (C := RX12) (T := TX12) (N := 150) hx hb hts (in_z_X12_putPicture_X12) tyX12 tyX12_ok nmX12 hown hK hP hD hS 2 rfl rfl 141 (by decide) (hts (.fieldLink RX12 953 "HeapWorksModel" "rowEnd" "I") (by decide +kernel)) (fun _ h9 => h9) rfl (by decide +kernel) rfl rfl (by rw [o_s117.2.1]; decide) dX12_putPicture_288 (fun H locs hP hD hS => ?_)
  have hP : va_P (dC, dI) vwCl [(Ad1, .inl (Ka0, 5, .inl Fa0)), (Ad2, .inl (Ka1, 5, .inl Fa1)), (Ad0, .inr (15, (s117.set 141 (.int 5)))), (Ad3, .inl (Ka2, 9000, .inl f129))] H := hP
  have hD : va_D A [(Ad1, .inl (Ka0, 5, .inl Fa0)), (Ad2, .inl (Ka1, 5, .inl Fa1)), (Ad0, .inr (15, (s117.set 141 (.int 5)))), (Ad3, .inl (Ka2, 9000, .inl f129))] := hD
  have o_s132 := ow_set o_s117 141 (.int 5) (by decide) (l' := [(141, .int 5), (139, .ref Ad3), (139, .ref Ad3), (139, .ref Ad3), (139, .ref Ad3), (139, .ref Ad3), (139, .ref Ad3), (139, .ref Ad3), (139, .ref Ad3), (139, .ref Ad3), (139, .ref Ad3), (139, .ref Ad3), (139, .ref Ad3), (139, .ref Ad3), (139, .ref Ad3), (139, .ref Ad3), (48, .ref Ad1), (65, .ref Ad2), (139, .ref Ad3)]) (w' := [141]) rfl rfl
  generalize (s117.set 141 (.int 5)) = s132 at hP hD o_s132
  refine lv_iinc (v := 1) (lv' := [(3, .int 1), (2, .int r124), (0, .ref Ad0), (1, .int Va0)]) hx hb dX12_putPicture_291 hl (k := 0) rfl (by decide) (by decide) rfl (fun ls hl => ?_)
  refine lv_goto (tgt := 260) hx hb dX12_putPicture_294 (by decide) ?_
  refine lv_iload_n hx hb dX12_putPicture_260 rfl (lv_at hl 0 rfl) ?_
  refine lv_iconst (v := 4) hx hb dX12_putPicture_261 (by decide) ?_
  refine lv_icmp_ge (tgt := 297) hx hb dX12_putPicture_262 (by decide) (fun c133 => absurd c133 (by decide)) (fun c133 => ?_)
  refine lv_aload_n hx hb dX12_putPicture_265 rfl (lv_at hl 2 rfl) ?_
  refine va_get (D := (dC, dI)) (ci := 15) (v := .ref Ad3) (C := RX12) (T := TX12) (N := 150) hx hb hts (in_z_X12_putPicture_X12) hown hK hP 2 rfl rfl 139 (by decide) (hts (.fieldLink RX12 369 "HeapWorksModel" "row0" "[B") (by decide +kernel)) (fun _ h9 => h9) (ow_at o_s132 1 rfl) dX12_putPicture_266 ?_
  refine lv_aload_n hx hb dX12_putPicture_269 rfl (lv_at hl 2 rfl) ?_
  refine va_get (D := (dC, dI)) (ci := 15) (v := .int 5) (C := RX12) (T := TX12) (N := 150) hx hb hts (in_z_X12_putPicture_X12) hown hK hP 2 rfl rfl 141 (by decide) (hts (.fieldLink RX12 953 "HeapWorksModel" "rowEnd" "I") (by decide +kernel)) (fun _ h9 => h9) (ow_at o_s132 0 rfl) dX12_putPicture_270 ?_
  refine lv_iload_n hx hb dX12_putPicture_273 rfl (lv_at hl 1 rfl) ?_
  refine lv_bipush (v := 8) hx hb dX12_putPicture_274 (by decide) ?_
  refine lv_iload_n hx hb dX12_putPicture_276 rfl (lv_at hl 0 rfl) ?_
  refine lv_imul hx hb dX12_putPicture_277  ?_
  refine lv_topi (fun x134 ex134 => ?_)
  obtain rfl : x134 = 8 := ex134.trans (by decide)
  refine lv_ishr hx hb dX12_putPicture_278  ?_
  refine lv_topi (fun x135 ex135 => ?_)
  refine lv_i2b hx hb dX12_putPicture_279 rfl ?_
  refine lv_topi (fun x136 ex136 => ?_)
  refine va_bast hx hb hK hP hD hS 3 2 rfl rfl (show vp_in 5 9000 from by unfold vp_in; decide) dX12_putPicture_280 (fun H locs hP hD hS => ?_)
  have hP : va_P (dC, dI) vwCl [(Ad1, .inl (Ka0, 5, .inl Fa0)), (Ad2, .inl (Ka1, 5, .inl Fa1)), (Ad0, .inr (15, s132)), (Ad3, .inl (Ka2, 9000, .inl (upd f129 (5 : Int32).toNatClampNeg (vp_nar .byte x136))))] H := hP
  have hD : va_D A [(Ad1, .inl (Ka0, 5, .inl Fa0)), (Ad2, .inl (Ka1, 5, .inl Fa1)), (Ad0, .inr (15, s132)), (Ad3, .inl (Ka2, 9000, .inl (upd f129 (5 : Int32).toNatClampNeg (vp_nar .byte x136))))] := hD
  have q138 : (upd f129 (5 : Int32).toNatClampNeg (vp_nar .byte x136)) (3 : Int32).toNatClampNeg = 0 := (kn_ne (by decide)).trans q130
  generalize upd f129 (5 : Int32).toNatClampNeg (vp_nar .byte x136) = f137 at hP hD q138
  refine lv_aload_n hx hb dX12_putPicture_281 rfl (lv_at hl 2 rfl) ?_
  refine lv_dup hx hb dX12_putPicture_282 rfl ?_
  refine va_get (D := (dC, dI)) (ci := 15) (v := .int 5) (C := RX12) (T := TX12) (N := 150) hx hb hts (in_z_X12_putPicture_X12) hown hK hP 2 rfl rfl 141 (by decide) (hts (.fieldLink RX12 953 "HeapWorksModel" "rowEnd" "I") (by decide +kernel)) (fun _ h9 => h9) (ow_at o_s132 0 rfl) dX12_putPicture_283 ?_
  refine lv_iconst (v := 1) hx hb dX12_putPicture_286 (by decide) ?_
  refine lv_iadd hx hb dX12_putPicture_287  ?_
  refine lv_topi (fun x139 ex139 => ?_)
  obtain rfl : x139 = 6 := ex139.trans (by decide)
  refine va_put (D := (dC, dI)) (ci := 15) (v := .int 6) (ty := .int) (C := RX12) (T := TX12) (N := 150) hx hb hts (in_z_X12_putPicture_X12) tyX12 tyX12_ok nmX12 hown hK hP hD hS 2 rfl rfl 141 (by decide) (hts (.fieldLink RX12 953 "HeapWorksModel" "rowEnd" "I") (by decide +kernel)) (fun _ h9 => h9) rfl (by decide +kernel) rfl rfl (by rw [o_s132.2.1]; decide) dX12_putPicture_288 (fun H locs hP hD hS => ?_)
  have hP : va_P (dC, dI) vwCl [(Ad1, .inl (Ka0, 5, .inl Fa0)), (Ad2, .inl (Ka1, 5, .inl Fa1)), (Ad0, .inr (15, (s132.set 141 (.int 6)))), (Ad3, .inl (Ka2, 9000, .inl f137))] H := hP
  have hD : va_D A [(Ad1, .inl (Ka0, 5, .inl Fa0)), (Ad2, .inl (Ka1, 5, .inl Fa1)), (Ad0, .inr (15, (s132.set 141 (.int 6)))), (Ad3, .inl (Ka2, 9000, .inl f137))] := hD
  have o_s140 := ow_set o_s132 141 (.int 6) (by decide) (l' := [(141, .int 6), (139, .ref Ad3), (139, .ref Ad3), (139, .ref Ad3), (139, .ref Ad3), (139, .ref Ad3), (139, .ref Ad3), (139, .ref Ad3), (139, .ref Ad3), (139, .ref Ad3), (139, .ref Ad3), (139, .ref Ad3), (139, .ref Ad3), (139, .ref Ad3), (139, .ref Ad3), (139, .ref Ad3), (48, .ref Ad1), (65, .ref Ad2), (139, .ref Ad3)]) (w' := [141]) rfl rfl
  generalize (s132.set 141 (.int 6)) = s140 at hP hD o_s140
  refine lv_iinc (v := 2) (lv' := [(3, .int 2), (2, .int r124), (0, .ref Ad0), (1, .int Va0)]) hx hb dX12_putPicture_291 hl (k := 0) rfl (by decide) (by decide) rfl (fun ls hl => ?_)
  refine lv_goto (tgt := 260) hx hb dX12_putPicture_294 (by decide) ?_
  refine lv_iload_n hx hb dX12_putPicture_260 rfl (lv_at hl 0 rfl) ?_
  refine lv_iconst (v := 4) hx hb dX12_putPicture_261 (by decide) ?_
  refine lv_icmp_ge (tgt := 297) hx hb dX12_putPicture_262 (by decide) (fun c141 => absurd c141 (by decide)) (fun c141 => ?_)
  refine lv_aload_n hx hb dX12_putPicture_265 rfl (lv_at hl 2 rfl) ?_
  refine va_get (D := (dC, dI)) (ci := 15) (v := .ref Ad3) (C := RX12) (T := TX12) (N := 150) hx hb hts (in_z_X12_putPicture_X12) hown hK hP 2 rfl rfl 139 (by decide) (hts (.fieldLink RX12 369 "HeapWorksModel" "row0" "[B") (by decide +kernel)) (fun _ h9 => h9) (ow_at o_s140 1 rfl) dX12_putPicture_266 ?_
  refine lv_aload_n hx hb dX12_putPicture_269 rfl (lv_at hl 2 rfl) ?_
  refine va_get (D := (dC, dI)) (ci := 15) (v := .int 6) (C := RX12) (T := TX12) (N := 150) hx hb hts (in_z_X12_putPicture_X12) hown hK hP 2 rfl rfl 141 (by decide) (hts (.fieldLink RX12 953 "HeapWorksModel" "rowEnd" "I") (by decide +kernel)) (fun _ h9 => h9) (ow_at o_s140 0 rfl) dX12_putPicture_270 ?_
  refine lv_iload_n hx hb dX12_putPicture_273 rfl (lv_at hl 1 rfl) ?_
  refine lv_bipush (v := 8) hx hb dX12_putPicture_274 (by decide) ?_
  refine lv_iload_n hx hb dX12_putPicture_276 rfl (lv_at hl 0 rfl) ?_
  refine lv_imul hx hb dX12_putPicture_277  ?_
  refine lv_topi (fun x142 ex142 => ?_)
  obtain rfl : x142 = 16 := ex142.trans (by decide)
  refine lv_ishr hx hb dX12_putPicture_278  ?_
  refine lv_topi (fun x143 ex143 => ?_)
  refine lv_i2b hx hb dX12_putPicture_279 rfl ?_
  refine lv_topi (fun x144 ex144 => ?_)
  refine va_bast hx hb hK hP hD hS 3 2 rfl rfl (show vp_in 6 9000 from by unfold vp_in; decide) dX12_putPicture_280 (fun H locs hP hD hS => ?_)
  have hP : va_P (dC, dI) vwCl [(Ad1, .inl (Ka0, 5, .inl Fa0)), (Ad2, .inl (Ka1, 5, .inl Fa1)), (Ad0, .inr (15, s140)), (Ad3, .inl (Ka2, 9000, .inl (upd f137 (6 : Int32).toNatClampNeg (vp_nar .byte x144))))] H := hP
  have hD : va_D A [(Ad1, .inl (Ka0, 5, .inl Fa0)), (Ad2, .inl (Ka1, 5, .inl Fa1)), (Ad0, .inr (15, s140)), (Ad3, .inl (Ka2, 9000, .inl (upd f137 (6 : Int32).toNatClampNeg (vp_nar .byte x144))))] := hD
  have q146 : (upd f137 (6 : Int32).toNatClampNeg (vp_nar .byte x144)) (3 : Int32).toNatClampNeg = 0 := (kn_ne (by decide)).trans q138
  generalize upd f137 (6 : Int32).toNatClampNeg (vp_nar .byte x144) = f145 at hP hD q146
  refine lv_aload_n hx hb dX12_putPicture_281 rfl (lv_at hl 2 rfl) ?_
  refine lv_dup hx hb dX12_putPicture_282 rfl ?_
  refine va_get (D := (dC, dI)) (ci := 15) (v := .int 6) (C := RX12) (T := TX12) (N := 150) hx hb hts (in_z_X12_putPicture_X12) hown hK hP 2 rfl rfl 141 (by decide) (hts (.fieldLink RX12 953 "HeapWorksModel" "rowEnd" "I") (by decide +kernel)) (fun _ h9 => h9) (ow_at o_s140 0 rfl) dX12_putPicture_283 ?_
  refine lv_iconst (v := 1) hx hb dX12_putPicture_286 (by decide) ?_
  refine lv_iadd hx hb dX12_putPicture_287  ?_
  refine lv_topi (fun x147 ex147 => ?_)
  obtain rfl : x147 = 7 := ex147.trans (by decide)
  refine va_put (D := (dC, dI)) (ci := 15) (v := .int 7) (ty := .int) (C := RX12) (T := TX12) (N := 150) hx hb hts (in_z_X12_putPicture_X12) tyX12 tyX12_ok nmX12 hown hK hP hD hS 2 rfl rfl 141 (by decide) (hts (.fieldLink RX12 953 "HeapWorksModel" "rowEnd" "I") (by decide +kernel)) (fun _ h9 => h9) rfl (by decide +kernel) rfl rfl (by rw [o_s140.2.1]; decide) dX12_putPicture_288 (fun H locs hP hD hS => ?_)
  have hP : va_P (dC, dI) vwCl [(Ad1, .inl (Ka0, 5, .inl Fa0)), (Ad2, .inl (Ka1, 5, .inl Fa1)), (Ad0, .inr (15, (s140.set 141 (.int 7)))), (Ad3, .inl (Ka2, 9000, .inl f145))] H := hP
  have hD : va_D A [(Ad1, .inl (Ka0, 5, .inl Fa0)), (Ad2, .inl (Ka1, 5, .inl Fa1)), (Ad0, .inr (15, (s140.set 141 (.int 7)))), (Ad3, .inl (Ka2, 9000, .inl f145))] := hD
  have o_s148 := ow_set o_s140 141 (.int 7) (by decide) (l' := [(141, .int 7), (139, .ref Ad3), (139, .ref Ad3), (139, .ref Ad3), (139, .ref Ad3), (139, .ref Ad3), (139, .ref Ad3), (139, .ref Ad3), (139, .ref Ad3), (139, .ref Ad3), (139, .ref Ad3), (139, .ref Ad3), (139, .ref Ad3), (139, .ref Ad3), (139, .ref Ad3), (139, .ref Ad3), (48, .ref Ad1), (65, .ref Ad2), (139, .ref Ad3)]) (w' := [141]) rfl rfl
  generalize (s140.set 141 (.int 7)) = s148 at hP hD o_s148
  refine lv_iinc (v := 3) (lv' := [(3, .int 3), (2, .int r124), (0, .ref Ad0), (1, .int Va0)]) hx hb dX12_putPicture_291 hl (k := 0) rfl (by decide) (by decide) rfl (fun ls hl => ?_)
  refine lv_goto (tgt := 260) hx hb dX12_putPicture_294 (by decide) ?_
  refine lv_iload_n hx hb dX12_putPicture_260 rfl (lv_at hl 0 rfl) ?_
  refine lv_iconst (v := 4) hx hb dX12_putPicture_261 (by decide) ?_
  refine lv_icmp_ge (tgt := 297) hx hb dX12_putPicture_262 (by decide) (fun c149 => absurd c149 (by decide)) (fun c149 => ?_)
  refine lv_aload_n hx hb dX12_putPicture_265 rfl (lv_at hl 2 rfl) ?_
  refine va_get (D := (dC, dI)) (ci := 15) (v := .ref Ad3) (C := RX12) (T := TX12) (N := 150) hx hb hts (in_z_X12_putPicture_X12) hown hK hP 2 rfl rfl 139 (by decide) (hts (.fieldLink RX12 369 "HeapWorksModel" "row0" "[B") (by decide +kernel)) (fun _ h9 => h9) (ow_at o_s148 1 rfl) dX12_putPicture_266 ?_
  refine lv_aload_n hx hb dX12_putPicture_269 rfl (lv_at hl 2 rfl) ?_
  refine va_get (D := (dC, dI)) (ci := 15) (v := .int 7) (C := RX12) (T := TX12) (N := 150) hx hb hts (in_z_X12_putPicture_X12) hown hK hP 2 rfl rfl 141 (by decide) (hts (.fieldLink RX12 953 "HeapWorksModel" "rowEnd" "I") (by decide +kernel)) (fun _ h9 => h9) (ow_at o_s148 0 rfl) dX12_putPicture_270 ?_
  refine lv_iload_n hx hb dX12_putPicture_273 rfl (lv_at hl 1 rfl) ?_
  refine lv_bipush (v := 8) hx hb dX12_putPicture_274 (by decide) ?_
  refine lv_iload_n hx hb dX12_putPicture_276 rfl (lv_at hl 0 rfl) ?_
  refine lv_imul hx hb dX12_putPicture_277  ?_
  refine lv_topi (fun x150 ex150 => ?_)
  obtain rfl : x150 = 24 := ex150.trans (by decide)
  refine lv_ishr hx hb dX12_putPicture_278  ?_
  refine lv_topi (fun x151 ex151 => ?_)
  refine lv_i2b hx hb dX12_putPicture_279 rfl ?_
  refine lv_topi (fun x152 ex152 => ?_)
  refine va_bast hx hb hK hP hD hS 3 2 rfl rfl (show vp_in 7 9000 from by unfold vp_in; decide) dX12_putPicture_280 (fun H locs hP hD hS => ?_)
  have hP : va_P (dC, dI) vwCl [(Ad1, .inl (Ka0, 5, .inl Fa0)), (Ad2, .inl (Ka1, 5, .inl Fa1)), (Ad0, .inr (15, s148)), (Ad3, .inl (Ka2, 9000, .inl (upd f145 (7 : Int32).toNatClampNeg (vp_nar .byte x152))))] H := hP
  have hD : va_D A [(Ad1, .inl (Ka0, 5, .inl Fa0)), (Ad2, .inl (Ka1, 5, .inl Fa1)), (Ad0, .inr (15, s148)), (Ad3, .inl (Ka2, 9000, .inl (upd f145 (7 : Int32).toNatClampNeg (vp_nar .byte x152))))] := hD
  have q154 : (upd f145 (7 : Int32).toNatClampNeg (vp_nar .byte x152)) (3 : Int32).toNatClampNeg = 0 := (kn_ne (by decide)).trans q146
  generalize upd f145 (7 : Int32).toNatClampNeg (vp_nar .byte x152) = f153 at hP hD q154
  refine lv_aload_n hx hb dX12_putPicture_281 rfl (lv_at hl 2 rfl) ?_
  refine lv_dup hx hb dX12_putPicture_282 rfl ?_
  refine va_get (D := (dC, dI)) (ci := 15) (v := .int 7) (C := RX12) (T := TX12) (N := 150) hx hb hts (in_z_X12_putPicture_X12) hown hK hP 2 rfl rfl 141 (by decide) (hts (.fieldLink RX12 953 "HeapWorksModel" "rowEnd" "I") (by decide +kernel)) (fun _ h9 => h9) (ow_at o_s148 0 rfl) dX12_putPicture_283 ?_
  refine lv_iconst (v := 1) hx hb dX12_putPicture_286 (by decide) ?_
  refine lv_iadd hx hb dX12_putPicture_287  ?_
  refine lv_topi (fun x155 ex155 => ?_)
  obtain rfl : x155 = 8 := ex155.trans (by decide)
  refine va_put (D := (dC, dI)) (ci := 15) (v := .int 8) (ty := .int) (C := RX12) (T := TX12) (N := 150) hx hb hts (in_z_X12_putPicture_X12) tyX12 tyX12_ok nmX12 hown hK hP hD hS 2 rfl rfl 141 (by decide) (hts (.fieldLink RX12 953 "HeapWorksModel" "rowEnd" "I") (by decide +kernel)) (fun _ h9 => h9) rfl (by decide +kernel) rfl rfl (by rw [o_s148.2.1]; decide) dX12_putPicture_288 (fun H locs hP hD hS => ?_)
  have hP : va_P (dC, dI) vwCl [(Ad1, .inl (Ka0, 5, .inl Fa0)), (Ad2, .inl (Ka1, 5, .inl Fa1)), (Ad0, .inr (15, (s148.set 141 (.int 8)))), (Ad3, .inl (Ka2, 9000, .inl f153))] H := hP
  have hD : va_D A [(Ad1, .inl (Ka0, 5, .inl Fa0)), (Ad2, .inl (Ka1, 5, .inl Fa1)), (Ad0, .inr (15, (s148.set 141 (.int 8)))), (Ad3, .inl (Ka2, 9000, .inl f153))] := hD
  have o_s156 := ow_set o_s148 141 (.int 8) (by decide) (l' := [(141, .int 8), (139, .ref Ad3), (139, .ref Ad3), (139, .ref Ad3), (139, .ref Ad3), (139, .ref Ad3), (139, .ref Ad3), (139, .ref Ad3), (139, .ref Ad3), (139, .ref Ad3), (139, .ref Ad3), (139, .ref Ad3), (139, .ref Ad3), (139, .ref Ad3), (139, .ref Ad3), (139, .ref Ad3), (48, .ref Ad1), (65, .ref Ad2), (139, .ref Ad3)]) (w' := [141]) rfl rfl
  generalize (s148.set 141 (.int 8)) = s156 at hP hD o_s156
  refine lv_iinc (v := 4) (lv' := [(3, .int 4), (2, .int r124), (0, .ref Ad0), (1, .int Va0)]) hx hb dX12_putPicture_291 hl (k := 0) rfl (by decide) (by decide) rfl (fun ls hl => ?_)
  refine lv_goto (tgt := 260) hx hb dX12_putPicture_294 (by decide) ?_
  refine lv_iload_n hx hb dX12_putPicture_260 rfl (lv_at hl 0 rfl) ?_
  refine lv_iconst (v := 4) hx hb dX12_putPicture_261 (by decide) ?_
  refine lv_icmp_ge (tgt := 297) hx hb dX12_putPicture_262 (by decide) (fun c157 => ?_) (fun c157 => absurd c157 (by decide))
  refine lv_iconst (v := 1) hx hb dX12_putPicture_297 (by decide) ?_
  have hP9 := hP.sub (ws' := [(Ad0, .inr (15, s156)), (Ad1, .inl (Ka0, 5, .inl Fa0)), (Ad2, .inl (Ka1, 5, .inl Fa1)), (Ad3, .inl (Ka2, 9000, .inl f153))]) [2, 0, 1, 3] rfl
  have hD9 := hD.sub (ws' := [(Ad0, .inr (15, s156)), (Ad1, .inl (Ka0, 5, .inl Fa0)), (Ad2, .inl (Ka1, 5, .inl Fa1)), (Ad3, .inl (Ka2, 9000, .inl f153))]) [2, 0, 1, 3] (by decide) rfl
  have hK9 := hK.sub (tys' := [(Ka0, .int), (Ka1, .int), (Ka2, .byte)]) [0, 1, 2] rfl
  exact W.zret (v := 1) hx hb hr rfl (fun t ht hW => ⟨⟨1, (s156, f153), rfl, ⟨rfl, o_s156, q154⟩, by rw [ht]; exact hP9, va_K.moved hW.alike hK9, hD9⟩, hS.F ht⟩) hS.2.2 dX12_putPicture_298

def l_z_X12_bytes : List Cond := [.methodLink RX12 542 yX12_isPicture, .instanceMethod yX12_isPicture, .selects RX12 yX12_isPicture yX12_isPicture, .initialized RX12, .fieldLink RX12 388 "HeapWorksModel" "thrown" "I", .methodLink RX12 972 yX12_putPicture, .instanceMethod yX12_putPicture, .selects RX12 yX12_putPicture yX12_putPicture, .fieldLink RX12 953 "HeapWorksModel" "rowEnd" "I", .fieldLink RX12 391 "HeapWorksModel" "taped" "I", .fieldLink RX12 7 "HeapWorksModel" "tape" "[B", .fieldLink RX12 369 "HeapWorksModel" "row0" "[B", .code yX12_isPicture cX12_isPicture 2 (some .boolean), .code yX12_putPicture cX12_putPicture 6 (some .boolean), .constantLong RX12 957 (72), .methodLink RX12 959 yX12_putNumber, .instanceMethod yX12_putNumber, .selects RX12 yX12_putNumber yX12_putNumber, .constantLong RX12 962 (80), .fieldLink RX12 183 "HeapWorksModel" "things" "[I", .fieldLink RX12 234 "HeapWorksModel" "rootMany" "[I", .methodLink RX12 968 yX12_check, .static yX12_check, .code yX12_putNumber cX12_putNumber 6 none, .constantLong RX12 951 (127), .code yX12_check cX12_check 5 (some .int), .constant RX12 956 (16777619)]
def w_z_X12_bytes : List Cond := .code yX12_bytes cX12_bytes 3 (some .int) :: (l_z_X12_bytes ++ (wsX120))
theorem in_z_X12_bytes_X12 : ∀ w ∈ wsX120, w ∈ w_z_X12_bytes := fun w h => List.mem_cons_of_mem _ (List.mem_append_right _ (h))
theorem g_z_X12_bytes_z_X12_isPicture_542 : GoodIn w_z_X12_bytes (wsV RX12 542 RX12 yX12_isPicture w_z_X12_isPicture) := goodIn_app (goodIn_r (([.methodLink RX12 542 yX12_isPicture, .instanceMethod yX12_isPicture, .selects RX12 yX12_isPicture yX12_isPicture, .initialized RX12] : List Cond)) [1, 2, 3, 4] rfl (by decide +kernel)) (goodIn_r (.code yX12_isPicture cX12_isPicture 2 (some .boolean) :: l_z_X12_isPicture) [13] rfl (by decide +kernel))
theorem g_z_X12_bytes_z_X12_putPicture_972 : GoodIn w_z_X12_bytes (wsV RX12 972 RX12 yX12_putPicture w_z_X12_putPicture) := goodIn_app (goodIn_r (([.methodLink RX12 972 yX12_putPicture, .instanceMethod yX12_putPicture, .selects RX12 yX12_putPicture yX12_putPicture, .initialized RX12] : List Cond)) [6, 7, 8, 4] rfl (by decide +kernel)) (goodIn_ca (goodIn_r (.code yX12_putPicture cX12_putPicture 6 (some .boolean) :: l_z_X12_putPicture) [14, 9, 15, 16, 17, 18, 4, 19, 20, 21, 12, 22, 23, 24, 25, 26, 27] rfl (by decide +kernel)) (goodIn_in (in_z_X12_bytes_X12) gd_X12))
set_option maxHeartbeats 4000000 in
set_option maxRecDepth 100000 in
theorem z_X12_bytes (l : Launch) (dC : Nat → ClassId) (dI : Nat → Nat → Nat) (sz : Nat) (Ad0 : Nat) (Fs0 : List Value) (Ad1 : Nat) (Fa0 : Nat → Int32) (Ka0 : ClassId) (Ad2 : Nat) (Fa1 : Nat → Int32) (Ka1 : ClassId) (Ad3 : Nat) (Fa2 : Nat → Int32) (Ka2 : ClassId) (Ad4 : Nat) (Fa3 : Nat → Int32) (Ka3 : ClassId) (Va0 : Int32) (k_Fs0 : fh Fs0 150 [(0, .int 0), (1, .ref Ad1), (3, .int 0), (48, .ref Ad2), (65, .ref Ad3), (139, .ref Ad4), (141, .int 0)]) (hz_Fa1 : ∀ j, Fa1 j = 0) (hz_Fa2 : ∀ j, Fa2 j = 0) : Met l yX12_bytes w_z_X12_bytes ({ frames := 2, cells := 0, slots := 0, locals := 50 }) (va_Pc [.ref Ad0, .int Va0] (fun U => U.heap.size = sz ∧ Wd dC dI [(Ka0, .byte), (Ka1, .int), (Ka2, .int), (Ka3, .byte)] (fun _ => True) [(Ad0, .inr (15, Fs0)), (Ad1, .inl (Ka0, 4000, .inl Fa0)), (Ad2, .inl (Ka1, 5, .inl Fa1)), (Ad3, .inl (Ka2, 5, .inl Fa2)), (Ad4, .inl (Ka3, 9000, .inl Fa3))] U)) (va_Qi (fun (r : Int32) (u : List Value × (Nat → Int32) × (Nat → Int32)) => (Va0 < 0 ∧ r = 0 ∧ ow Fs0 (u.1) 150 [0] [(0, .int 1), (1, .ref Ad1), (3, .int 0), (48, .ref Ad2), (65, .ref Ad3), (139, .ref Ad4), (141, .int 0)]) ∨ (¬ Va0 < 0 ∧ 4 ≤ Va0 ∧ r = 0 ∧ ow Fs0 (u.1) 150 [0] [(0, .int 1), (1, .ref Ad1), (3, .int 0), (48, .ref Ad2), (65, .ref Ad3), (139, .ref Ad4), (141, .int 0)]) ∨ (¬ Va0 < 0 ∧ ¬ 4 ≤ Va0 ∧ r = 8 ∧ ow Fs0 (u.1) 150 [3, 0, 141] [(3, .int 8), (0, .int 0), (141, .int 8), (139, .ref Ad4), (139, .ref Ad4), (139, .ref Ad4), (139, .ref Ad4), (139, .ref Ad4), (139, .ref Ad4), (139, .ref Ad4), (139, .ref Ad4), (139, .ref Ad4), (139, .ref Ad4), (139, .ref Ad4), (139, .ref Ad4), (139, .ref Ad4), (139, .ref Ad4), (139, .ref Ad4), (48, .ref Ad2), (65, .ref Ad3), (139, .ref Ad4), (1, .ref Ad1), (48, .ref Ad2), (65, .ref Ad3), (139, .ref Ad4)] ∧ (u.2.2) (3 : Int32).toNatClampNeg = 0)) (fun (u : List Value × (Nat → Int32) × (Nat → Int32)) t => Wd dC dI [(Ka0, .byte), (Ka1, .int), (Ka2, .int), (Ka3, .byte)] (va_A [(Ad0, .inr (15, Fs0)), (Ad1, .inl (Ka0, 4000, .inl Fa0)), (Ad2, .inl (Ka1, 5, .inl Fa1)), (Ad3, .inl (Ka2, 5, .inl Fa2)), (Ad4, .inl (Ka3, 9000, .inl Fa3))] sz) [(Ad0, .inr (15, (u.1))), (Ad1, .inl (Ka0, 4000, .inl ((u.2.1)))), (Ad2, .inl (Ka1, 5, .inl Fa1)), (Ad3, .inl (Ka2, 5, .inl Fa2)), (Ad4, .inl (Ka3, 9000, .inl ((u.2.2))))] t) (va_A [(Ad0, .inr (15, Fs0)), (Ad1, .inl (Ka0, 4000, .inl Fa0)), (Ad2, .inl (Ka1, 5, .inl Fa1)), (Ad3, .inl (Ka2, 5, .inl Fa2)), (Ad4, .inl (Ka3, 9000, .inl Fa3))] sz))  0 0 (va_A [(Ad0, .inr (15, Fs0)), (Ad1, .inl (Ka0, 4000, .inl Fa0)), (Ad2, .inl (Ka1, 5, .inl Fa1)), (Ad3, .inl (Ka2, 5, .inl Fa2)), (Ad4, .inl (Ka3, 9000, .inl Fa3))] sz) := by
  refine Met.ofW (cc := cX12_bytes) (maxL := 3) (ret := (some .int)) (by decide) rfl ?_
  intro p e s m args below meth c s₁ B hml hv
  obtain ⟨rfl, hsz, hP, hK, hD0⟩ := hv
  have hx := B.exec
  have hb := B.bytes
  have hr := B.returns
  have hts := atoms_spec (ws := w_z_X12_bytes) B.pre
  have hown : s.vm.findClass RX12 = some m.cls := findClass_of_methodNamed B.named
  have hlocks := B.notSynchronized
  subst hsz
  have hD := hD0.self (sz := s.heap.size)
  generalize hAe : va_A [(Ad0, .inr (15, Fs0)), (Ad1, .inl (Ka0, 4000, .inl Fa0)), (Ad2, .inl (Ka1, 5, .inl Fa1)), (Ad3, .inl (Ka2, 5, .inl Fa2)), (Ad4, .inl (Ka3, 9000, .inl Fa3))] s.heap.size = A at hD ⊢
  have hA : ∀ q : Nat, s.heap.size ≤ q → A q := fun q h => by rw [← hAe]; exact Or.inr h
  have hS : va_S A s.heap s.heap [] := va_S.rf
  have hl := lv_entry ([.ref Ad0, .int Va0]) (n := 3) (Nat.le_of_ble_eq_true rfl)
  rw [lg_entry_eq]
  generalize (lg_sl ([.ref Ad0, .int Va0]) ++ List.replicate (3 - (lg_sl ([.ref Ad0, .int Va0])).length) Slot.unset).toArray = ls at hl ⊢
  have hl : lv_has ls 3 [(0, .ref Ad0), (1, .int Va0)] := hl
  have o_Fs0 := ow_0 k_Fs0
  refine lv_aload_n hx hb dX12_bytes_0 rfl (lv_at hl 0 rfl) ?_
  refine lv_aload_n hx hb dX12_bytes_1 rfl (lv_at hl 0 rfl) ?_
  refine lv_iload_n hx hb dX12_bytes_2 rfl (lv_at hl 1 rfl) ?_
  have hPc := hP.sub (ws' := []) [] rfl
  have hDc := hD.sub (ws' := []) [] (by decide) rfl
  have hKc := hK.sub (tys' := []) [] rfl
  have hFc := va_free (wc := []) hD hS hA [] rfl
  refine va_calli (va_runV (As := [.int Va0]) (rest := [.ref Ad0]) ⟨hx, hb, hml, hown, hts⟩ (z_X12_isPicture l dC dI s.heap.size Ad0 Va0  ) (cwV 1 hts g_z_X12_bytes_z_X12_isPicture_542 rfl rfl rfl (by decide +kernel) ⟨Nat.le_of_ble_eq_true rfl, Nat.le_of_ble_eq_true rfl⟩) ⟨fun a U g mk q => by obtain ⟨q0, q1, qP, qK, qD⟩ := q; exact ⟨q0, q1, qP, va_K.moved (u := U) (U := U.calling g mk a) (Vm.Alike.refl U.vm) qK, qD⟩, va_recv hK hP (ci := 15) (q0 := 0) rfl rfl, fun U hU hW => ⟨rfl, by rw [hU], by rw [hU]; exact hPc, va_K.moved hW.alike hKc, hDc.weaken (fun _ _ _ _ => trivial)⟩⟩ rfl rfl hl.1 rfl (lv_room (Nat.le_of_ble_eq_true rfl)) dX12_bytes_3 ⟨Nat.le_of_ble_eq_true rfl, Nat.le_of_ble_eq_true rfl⟩) hS (fun q _ h => hFc q h) hFc (fun r101 u t H1 locs ht hvm hw hB hz1 hk1 hS => ?_)
  obtain ⟨hP1, hK1, hD1⟩ := hB
  rw [ht] at hP1
  try dsimp only at hw
  obtain ⟨hP, hD⟩ := va_join (wr := [(Ad0, .inr (15, Fs0)), (Ad1, .inl (Ka0, 4000, .inl Fa0)), (Ad2, .inl (Ka1, 5, .inl Fa1)), (Ad3, .inl (Ka2, 5, .inl Fa2)), (Ad4, .inl (Ka3, 9000, .inl Fa3))]) (w1 := []) hP hD [] [0, 1, 2, 3, 4] rfl rfl (by decide) (by decide) hk1 hFc hP1 hD1
  have hK := hK.sub (tys' := [(Ka0, .byte), (Ka1, .int), (Ka2, .int), (Ka3, .byte)]) [0, 1, 2, 3] rfl
  generalize H1 = H at hP hS ⊢
  have hP : va_P (dC, dI) vwCl [(Ad0, .inr (15, Fs0)), (Ad1, .inl (Ka0, 4000, .inl Fa0)), (Ad2, .inl (Ka1, 5, .inl Fa1)), (Ad3, .inl (Ka2, 5, .inl Fa2)), (Ad4, .inl (Ka3, 9000, .inl Fa3))] H := hP
  have hD : va_D A [(Ad0, .inr (15, Fs0)), (Ad1, .inl (Ka0, 4000, .inl Fa0)), (Ad2, .inl (Ka1, 5, .inl Fa1)), (Ad3, .inl (Ka2, 5, .inl Fa2)), (Ad4, .inl (Ka3, 9000, .inl Fa3))] := hD
  rcases hw with ⟨c102, er103⟩ | ⟨c104, c105, er106⟩ | ⟨c107, c108, er109⟩
  · skip
    subst er103
    refine lv_if_eq (tgt := 13) hx hb dX12_bytes_6 (by decide) (fun c110 => ?_) (fun c110 => absurd c110 (by decide))
    refine lv_iconst (v := 1) hx hb dX12_bytes_13 (by decide) ?_
    refine va_put (D := (dC, dI)) (ci := 15) (v := .int 1) (ty := .int) (C := RX12) (T := TX12) (N := 150) hx hb hts (in_z_X12_bytes_X12) tyX12 tyX12_ok nmX12 hown hK hP hD hS 0 rfl rfl 0 (by decide) (hts (.fieldLink RX12 388 "HeapWorksModel" "thrown" "I") (by decide +kernel)) (fun _ h9 => h9) rfl (by decide +kernel) rfl rfl (by rw [o_Fs0.2.1]; decide) dX12_bytes_14 (fun H locs hP hD hS => ?_)
    have hP : va_P (dC, dI) vwCl [(Ad0, .inr (15, (Fs0.set 0 (.int 1)))), (Ad1, .inl (Ka0, 4000, .inl Fa0)), (Ad2, .inl (Ka1, 5, .inl Fa1)), (Ad3, .inl (Ka2, 5, .inl Fa2)), (Ad4, .inl (Ka3, 9000, .inl Fa3))] H := hP
    have hD : va_D A [(Ad0, .inr (15, (Fs0.set 0 (.int 1)))), (Ad1, .inl (Ka0, 4000, .inl Fa0)), (Ad2, .inl (Ka1, 5, .inl Fa1)), (Ad3, .inl (Ka2, 5, .inl Fa2)), (Ad4, .inl (Ka3, 9000, .inl Fa3))] := hD
    have o_s111 := ow_set o_Fs0 0 (.int 1) (by decide) (l' := [(0, .int 1), (1, .ref Ad1), (3, .int 0), (48, .ref Ad2), (65, .ref Ad3), (139, .ref Ad4), (141, .int 0)]) (w' := [0]) rfl rfl
    generalize (Fs0.set 0 (.int 1)) = s111 at hP hD o_s111
    refine lv_aload_n hx hb dX12_bytes_17 rfl (lv_at hl 0 rfl) ?_
    refine va_get (D := (dC, dI)) (ci := 15) (v := .int 1) (C := RX12) (T := TX12) (N := 150) hx hb hts (in_z_X12_bytes_X12) hown hK hP 0 rfl rfl 0 (by decide) (hts (.fieldLink RX12 388 "HeapWorksModel" "thrown" "I") (by decide +kernel)) (fun _ h9 => h9) (ow_at o_s111 0 rfl) dX12_bytes_18 ?_
    refine lv_if_le (tgt := 26) hx hb dX12_bytes_21 (by decide) (fun c112 => absurd c112 (by decide)) (fun c112 => ?_)
    refine lv_iconst (v := 0) hx hb dX12_bytes_24 (by decide) ?_
    have hP9 := hP.sub (ws' := [(Ad0, .inr (15, s111)), (Ad1, .inl (Ka0, 4000, .inl Fa0)), (Ad2, .inl (Ka1, 5, .inl Fa1)), (Ad3, .inl (Ka2, 5, .inl Fa2)), (Ad4, .inl (Ka3, 9000, .inl Fa3))]) [0, 1, 2, 3, 4] rfl
    have hD9 := hD.sub (ws' := [(Ad0, .inr (15, s111)), (Ad1, .inl (Ka0, 4000, .inl Fa0)), (Ad2, .inl (Ka1, 5, .inl Fa1)), (Ad3, .inl (Ka2, 5, .inl Fa2)), (Ad4, .inl (Ka3, 9000, .inl Fa3))]) [0, 1, 2, 3, 4] (by decide) rfl
    have hK9 := hK.sub (tys' := [(Ka0, .byte), (Ka1, .int), (Ka2, .int), (Ka3, .byte)]) [0, 1, 2, 3] rfl
    exact W.iret (v := 0) hx hb hr (fun t ht hW => ⟨⟨0, (s111, Fa0, Fa3), rfl, (Or.inl ⟨c102, rfl, o_s111⟩), by rw [ht]; exact hP9, va_K.moved hW.alike hK9, hD9⟩, hS.F ht⟩) hS.2.2 dX12_bytes_25
  · skip
    subst er106
    refine lv_if_eq (tgt := 13) hx hb dX12_bytes_6 (by decide) (fun c113 => ?_) (fun c113 => absurd c113 (by decide))
    refine lv_iconst (v := 1) hx hb dX12_bytes_13 (by decide) ?_
    refine va_put (D := (dC, dI)) (ci := 15) (v := .int 1) (ty := .int) (C := RX12) (T := TX12) (N := 150) hx hb hts (in_z_X12_bytes_X12) tyX12 tyX12_ok nmX12 hown hK hP hD hS 0 rfl rfl 0 (by decide) (hts (.fieldLink RX12 388 "HeapWorksModel" "thrown" "I") (by decide +kernel)) (fun _ h9 => h9) rfl (by decide +kernel) rfl rfl (by rw [o_Fs0.2.1]; decide) dX12_bytes_14 (fun H locs hP hD hS => ?_)
    have hP : va_P (dC, dI) vwCl [(Ad0, .inr (15, (Fs0.set 0 (.int 1)))), (Ad1, .inl (Ka0, 4000, .inl Fa0)), (Ad2, .inl (Ka1, 5, .inl Fa1)), (Ad3, .inl (Ka2, 5, .inl Fa2)), (Ad4, .inl (Ka3, 9000, .inl Fa3))] H := hP
    have hD : va_D A [(Ad0, .inr (15, (Fs0.set 0 (.int 1)))), (Ad1, .inl (Ka0, 4000, .inl Fa0)), (Ad2, .inl (Ka1, 5, .inl Fa1)), (Ad3, .inl (Ka2, 5, .inl Fa2)), (Ad4, .inl (Ka3, 9000, .inl Fa3))] := hD
    have o_s114 := ow_set o_Fs0 0 (.int 1) (by decide) (l' := [(0, .int 1), (1, .ref Ad1), (3, .int 0), (48, .ref Ad2), (65, .ref Ad3), (139, .ref Ad4), (141, .int 0)]) (w' := [0]) rfl rfl
    generalize (Fs0.set 0 (.int 1)) = s114 at hP hD o_s114
    refine lv_aload_n hx hb dX12_bytes_17 rfl (lv_at hl 0 rfl) ?_
    refine va_get (D := (dC, dI)) (ci := 15) (v := .int 1) (C := RX12) (T := TX12) (N := 150) hx hb hts (in_z_X12_bytes_X12) hown hK hP 0 rfl rfl 0 (by decide) (hts (.fieldLink RX12 388 "HeapWorksModel" "thrown" "I") (by decide +kernel)) (fun _ h9 => h9) (ow_at o_s114 0 rfl) dX12_bytes_18 ?_
    refine lv_if_le (tgt := 26) hx hb dX12_bytes_21 (by decide) (fun c115 => absurd c115 (by decide)) (fun c115 => ?_)
    refine lv_iconst (v := 0) hx hb dX12_bytes_24 (by decide) ?_
    have hP9 := hP.sub (ws' := [(Ad0, .inr (15, s114)), (Ad1, .inl (Ka0, 4000, .inl Fa0)), (Ad2, .inl (Ka1, 5, .inl Fa1)), (Ad3, .inl (Ka2, 5, .inl Fa2)), (Ad4, .inl (Ka3, 9000, .inl Fa3))]) [0, 1, 2, 3, 4] rfl
    have hD9 := hD.sub (ws' := [(Ad0, .inr (15, s114)), (Ad1, .inl (Ka0, 4000, .inl Fa0)), (Ad2, .inl (Ka1, 5, .inl Fa1)), (Ad3, .inl (Ka2, 5, .inl Fa2)), (Ad4, .inl (Ka3, 9000, .inl Fa3))]) [0, 1, 2, 3, 4] (by decide) rfl
    have hK9 := hK.sub (tys' := [(Ka0, .byte), (Ka1, .int), (Ka2, .int), (Ka3, .byte)]) [0, 1, 2, 3] rfl
    exact W.iret (v := 0) hx hb hr (fun t ht hW => ⟨⟨0, (s114, Fa0, Fa3), rfl, (Or.inr (Or.inl ⟨c104, c105, rfl, o_s114⟩)), by rw [ht]; exact hP9, va_K.moved hW.alike hK9, hD9⟩, hS.F ht⟩) hS.2.2 dX12_bytes_25
  · skip
    subst er109
    refine lv_if_eq (tgt := 13) hx hb dX12_bytes_6 (by decide) (fun c116 => absurd c116 (by decide)) (fun c116 => ?_)
    refine lv_iconst (v := 0) hx hb dX12_bytes_9 (by decide) ?_
    refine lv_goto (tgt := 14) hx hb dX12_bytes_10 (by decide) ?_
    refine va_put (D := (dC, dI)) (ci := 15) (v := .int 0) (ty := .int) (C := RX12) (T := TX12) (N := 150) hx hb hts (in_z_X12_bytes_X12) tyX12 tyX12_ok nmX12 hown hK hP hD hS 0 rfl rfl 0 (by decide) (hts (.fieldLink RX12 388 "HeapWorksModel" "thrown" "I") (by decide +kernel)) (fun _ h9 => h9) rfl (by decide +kernel) rfl rfl (by rw [o_Fs0.2.1]; decide) dX12_bytes_14 (fun H locs hP hD hS => ?_)
    have hP : va_P (dC, dI) vwCl [(Ad0, .inr (15, (Fs0.set 0 (.int 0)))), (Ad1, .inl (Ka0, 4000, .inl Fa0)), (Ad2, .inl (Ka1, 5, .inl Fa1)), (Ad3, .inl (Ka2, 5, .inl Fa2)), (Ad4, .inl (Ka3, 9000, .inl Fa3))] H := hP
    have hD : va_D A [(Ad0, .inr (15, (Fs0.set 0 (.int 0)))), (Ad1, .inl (Ka0, 4000, .inl Fa0)), (Ad2, .inl (Ka1, 5, .inl Fa1)), (Ad3, .inl (Ka2, 5, .inl Fa2)), (Ad4, .inl (Ka3, 9000, .inl Fa3))] := hD
    have o_s117 := ow_set o_Fs0 0 (.int 0) (by decide) (l' := [(0, .int 0), (1, .ref Ad1), (3, .int 0), (48, .ref Ad2), (65, .ref Ad3), (139, .ref Ad4), (141, .int 0)]) (w' := [0]) rfl rfl
    generalize (Fs0.set 0 (.int 0)) = s117 at hP hD o_s117
    refine lv_aload_n hx hb dX12_bytes_17 rfl (lv_at hl 0 rfl) ?_
    refine va_get (D := (dC, dI)) (ci := 15) (v := .int 0) (C := RX12) (T := TX12) (N := 150) hx hb hts (in_z_X12_bytes_X12) hown hK hP 0 rfl rfl 0 (by decide) (hts (.fieldLink RX12 388 "HeapWorksModel" "thrown" "I") (by decide +kernel)) (fun _ h9 => h9) (ow_at o_s117 0 rfl) dX12_bytes_18 ?_
    refine lv_if_le (tgt := 26) hx hb dX12_bytes_21 (by decide) (fun c118 => ?_) (fun c118 => absurd c118 (by decide))
    refine lv_aload_n hx hb dX12_bytes_26 rfl (lv_at hl 0 rfl) ?_
    refine lv_aload_n hx hb dX12_bytes_27 rfl (lv_at hl 0 rfl) ?_
    refine lv_iload_n hx hb dX12_bytes_28 rfl (lv_at hl 1 rfl) ?_
    have hPc := hP.sub (ws' := [(Ad0, .inr (15, s117)), (Ad2, .inl (Ka1, 5, .inl Fa1)), (Ad3, .inl (Ka2, 5, .inl Fa2)), (Ad4, .inl (Ka3, 9000, .inl Fa3))]) [0, 2, 3, 4] rfl
    have hDc := hD.sub (ws' := [(Ad0, .inr (15, s117)), (Ad2, .inl (Ka1, 5, .inl Fa1)), (Ad3, .inl (Ka2, 5, .inl Fa2)), (Ad4, .inl (Ka3, 9000, .inl Fa3))]) [0, 2, 3, 4] (by decide) rfl
    have hKc := hK.sub (tys' := [(Ka1, .int), (Ka2, .int), (Ka3, .byte)]) [1, 2, 3] rfl
    have hFc := va_free (wc := [(Ad0, .inr (15, s117)), (Ad2, .inl (Ka1, 5, .inl Fa1)), (Ad3, .inl (Ka2, 5, .inl Fa2)), (Ad4, .inl (Ka3, 9000, .inl Fa3))]) hD hS hA [0, 2, 3, 4] rfl
    refine va_calli (va_runV (As := [.int Va0]) (rest := [.ref Ad0]) ⟨hx, hb, hml, hown, hts⟩ (z_X12_putPicture l dC dI H.size Ad0 s117 Ad2 Fa1 Ka1 Ad3 Fa2 Ka2 Ad4 Fa3 Ka3 Va0 (fh_sub o_s117.2 [3, 4, 5, 6] rfl) hz_Fa1 hz_Fa2 (by (try simp only [i_lt, i_le, i_eq, kc_0, kc_4] at c107 c108); omega)) (cwV 1 hts g_z_X12_bytes_z_X12_putPicture_972 rfl rfl rfl (by decide +kernel) ⟨Nat.le_of_ble_eq_true rfl, Nat.le_of_ble_eq_true rfl⟩) ⟨fun a U g mk q => by obtain ⟨q0, q1, qP, qK, qD⟩ := q; exact ⟨q0, q1, qP, va_K.moved (u := U) (U := U.calling g mk a) (Vm.Alike.refl U.vm) qK, qD⟩, va_recv hK hP (ci := 15) (q0 := 0) rfl rfl, fun U hU hW => ⟨rfl, by rw [hU], by rw [hU]; exact hPc, va_K.moved hW.alike hKc, hDc.weaken (fun _ _ _ _ => trivial)⟩⟩ rfl rfl hl.1 rfl (lv_room (Nat.le_of_ble_eq_true rfl)) dX12_bytes_29 ⟨Nat.le_of_ble_eq_true rfl, Nat.le_of_ble_eq_true rfl⟩) hS (fun q _ h => hFc q h) hFc (fun r119 u t H1 locs ht hvm hw hB hz1 hk1 hS => ?_)
    obtain ⟨s120, f121⟩ := u
    obtain ⟨hP1, hK1, hD1⟩ := hB
    rw [ht] at hP1
    try dsimp only at hw
    obtain ⟨hP, hD⟩ := va_join (wr := [(Ad1, .inl (Ka0, 4000, .inl Fa0))]) (w1 := [(Ad0, .inr (15, s120)), (Ad2, .inl (Ka1, 5, .inl Fa1)), (Ad3, .inl (Ka2, 5, .inl Fa2)), (Ad4, .inl (Ka3, 9000, .inl f121))]) hP hD [0, 2, 3, 4] [1] rfl rfl (by decide) (by decide) hk1 hFc hP1 hD1
    have hK := hK.sub (tys' := [(Ka0, .byte), (Ka1, .int), (Ka2, .int), (Ka3, .byte)]) [0, 1, 2, 3] rfl
    generalize H1 = H at hP hS ⊢
    have hP : va_P (dC, dI) vwCl [(Ad1, .inl (Ka0, 4000, .inl Fa0)), (Ad0, .inr (15, s120)), (Ad2, .inl (Ka1, 5, .inl Fa1)), (Ad3, .inl (Ka2, 5, .inl Fa2)), (Ad4, .inl (Ka3, 9000, .inl f121))] H := hP
    have hD : va_D A [(Ad1, .inl (Ka0, 4000, .inl Fa0)), (Ad0, .inr (15, s120)), (Ad2, .inl (Ka1, 5, .inl Fa1)), (Ad3, .inl (Ka2, 5, .inl Fa2)), (Ad4, .inl (Ka3, 9000, .inl f121))] := hD
    obtain ⟨er122, o_s120, q123⟩ := hw
    subst er122
    have o_s120 := ow_on o_s117 o_s120 (l' := [(141, .int 8), (139, .ref Ad4), (139, .ref Ad4), (139, .ref Ad4), (139, .ref Ad4), (139, .ref Ad4), (139, .ref Ad4), (139, .ref Ad4), (139, .ref Ad4), (139, .ref Ad4), (139, .ref Ad4), (139, .ref Ad4), (139, .ref Ad4), (139, .ref Ad4), (139, .ref Ad4), (139, .ref Ad4), (48, .ref Ad2), (65, .ref Ad3), (139, .ref Ad4), (0, .int 0), (1, .ref Ad1), (3, .int 0), (48, .ref Ad2), (65, .ref Ad3), (139, .ref Ad4)]) (w' := [141, 0]) rfl rfl
    refine lv_if_eq (tgt := 39) hx hb dX12_bytes_32 (by decide) (fun c124 => absurd c124 (by decide)) (fun c124 => ?_)
    refine lv_iconst (v := 0) hx hb dX12_bytes_35 (by decide) ?_
    refine lv_goto (tgt := 40) hx hb dX12_bytes_36 (by decide) ?_
    refine va_put (D := (dC, dI)) (ci := 15) (v := .int 0) (ty := .int) (C := RX12) (T := TX12) (N := 150) hx hb hts (in_z_X12_bytes_X12) tyX12 tyX12_ok nmX12 hown hK hP hD hS 1 rfl rfl 0 (by decide) (hts (.fieldLink RX12 388 "HeapWorksModel" "thrown" "I") (by decide +kernel)) (fun _ h9 => h9) rfl (by decide +kernel) rfl rfl (by rw [o_s120.2.1]; decide) dX12_bytes_40 (fun H locs hP hD hS => ?_)
    have hP : va_P (dC, dI) vwCl [(Ad1, .inl (Ka0, 4000, .inl Fa0)), (Ad0, .inr (15, (s120.set 0 (.int 0)))), (Ad2, .inl (Ka1, 5, .inl Fa1)), (Ad3, .inl (Ka2, 5, .inl Fa2)), (Ad4, .inl (Ka3, 9000, .inl f121))] H := hP
    have hD : va_D A [(Ad1, .inl (Ka0, 4000, .inl Fa0)), (Ad0, .inr (15, (s120.set 0 (.int 0)))), (Ad2, .inl (Ka1, 5, .inl Fa1)), (Ad3, .inl (Ka2, 5, .inl Fa2)), (Ad4, .inl (Ka3, 9000, .inl f121))] := hD
    have o_s125 := ow_set o_s120 0 (.int 0) (by decide) (l' := [(0, .int 0), (141, .int 8), (139, .ref Ad4), (139, .ref Ad4), (139, .ref Ad4), (139, .ref Ad4), (139, .ref Ad4), (139, .ref Ad4), (139, .ref Ad4), (139, .ref Ad4), (139, .ref Ad4), (139, .ref Ad4), (139, .ref Ad4), (139, .ref Ad4), (139, .ref Ad4), (139, .ref Ad4), (139, .ref Ad4), (48, .ref Ad2), (65, .ref Ad3), (139, .ref Ad4), (1, .ref Ad1), (3, .int 0), (48, .ref Ad2), (65, .ref Ad3), (139, .ref Ad4)]) (w' := [0, 141]) rfl rfl
    generalize (s120.set 0 (.int 0)) = s125 at hP hD o_s125
    refine lv_aload_n hx hb dX12_bytes_43 rfl (lv_at hl 0 rfl) ?_
    refine va_get (D := (dC, dI)) (ci := 15) (v := .int 0) (C := RX12) (T := TX12) (N := 150) hx hb hts (in_z_X12_bytes_X12) hown hK hP 1 rfl rfl 0 (by decide) (hts (.fieldLink RX12 388 "HeapWorksModel" "thrown" "I") (by decide +kernel)) (fun _ h9 => h9) (ow_at o_s125 0 rfl) dX12_bytes_44 ?_
    refine lv_if_le (tgt := 52) hx hb dX12_bytes_47 (by decide) (fun c126 => ?_) (fun c126 => absurd c126 (by decide))
    refine lv_iconst (v := 0) hx hb dX12_bytes_52 (by decide) ?_
    refine lv_istore_n (lv' := [(2, .int 0), (0, .ref Ad0), (1, .int Va0)]) hx hb dX12_bytes_53 rfl hl (by decide) rfl (fun ls hl => ?_)
    have HL1 : ∀ (n j152 : Nat) (x153 : Int32) (f154 : Nat → Int32), x153 = nI j152 → 0 ≤ j152 → j152 ≤ 8 → 9 ≤ j152 + n → ∀ (H : Heap) (locs : List Loc) (ls : Array Slot), va_P (dC, dI) vwCl [(Ad1, .inl (Ka0, 4000, .inl f154)), (Ad0, .inr (15, s125)), (Ad2, .inl (Ka1, 5, .inl Fa1)), (Ad3, .inl (Ka2, 5, .inl Fa2)), (Ad4, .inl (Ka3, 9000, .inl f121))] H → va_D A [(Ad1, .inl (Ka0, 4000, .inl f154)), (Ad0, .inr (15, s125)), (Ad2, .inl (Ka1, 5, .inl Fa1)), (Ad3, .inl (Ka2, 5, .inl Fa2)), (Ad4, .inl (Ka3, 9000, .inl f121))] → va_S A s.heap H locs → lv_has ls 3 [(2, .int x153), (0, .ref Ad0), (1, .int Va0)] → W p l e (headSpec w_z_X12_bytes ({ frames := 2, cells := 0, slots := 0, locals := 50 })).room s m ([.ref Ad0, .int Va0]).toArray below meth c H locs 0 0 (MQ below (va_Qi (fun (r : Int32) (u : List Value × (Nat → Int32) × (Nat → Int32)) => (Va0 < 0 ∧ r = 0 ∧ ow Fs0 (u.1) 150 [0] [(0, .int 1), (1, .ref Ad1), (3, .int 0), (48, .ref Ad2), (65, .ref Ad3), (139, .ref Ad4), (141, .int 0)]) ∨ (¬ Va0 < 0 ∧ 4 ≤ Va0 ∧ r = 0 ∧ ow Fs0 (u.1) 150 [0] [(0, .int 1), (1, .ref Ad1), (3, .int 0), (48, .ref Ad2), (65, .ref Ad3), (139, .ref Ad4), (141, .int 0)]) ∨ (¬ Va0 < 0 ∧ ¬ 4 ≤ Va0 ∧ r = 8 ∧ ow Fs0 (u.1) 150 [3, 0, 141] [(3, .int 8), (0, .int 0), (141, .int 8), (139, .ref Ad4), (139, .ref Ad4), (139, .ref Ad4), (139, .ref Ad4), (139, .ref Ad4), (139, .ref Ad4), (139, .ref Ad4), (139, .ref Ad4), (139, .ref Ad4), (139, .ref Ad4), (139, .ref Ad4), (139, .ref Ad4), (139, .ref Ad4), (139, .ref Ad4), (139, .ref Ad4), (48, .ref Ad2), (65, .ref Ad3), (139, .ref Ad4), (1, .ref Ad1), (48, .ref Ad2), (65, .ref Ad3), (139, .ref Ad4)] ∧ (u.2.2) (3 : Int32).toNatClampNeg = 0)) (fun (u : List Value × (Nat → Int32) × (Nat → Int32)) t => Wd dC dI [(Ka0, .byte), (Ka1, .int), (Ka2, .int), (Ka3, .byte)] A [(Ad0, .inr (15, (u.1))), (Ad1, .inl (Ka0, 4000, .inl ((u.2.1)))), (Ad2, .inl (Ka1, 5, .inl Fa1)), (Ad3, .inl (Ka2, 5, .inl Fa2)), (Ad4, .inl (Ka3, 9000, .inl ((u.2.2))))] t) A) ([.ref Ad0, .int Va0]).toArray s 0 0 A) (F0 m 54 ls []) := by
      intro n
      induction n with
      | zero =>
        intro j152 x153 f154 e155 h157 h158 h159
        exact absurd h159 (by omega)
      | succ n ih =>
        intro j152 x153 f154 e155 h157 h158 h159 H locs ls hP hD hS hl
        have t156 : x153.toInt = (j152 : Int) := by rw [e155]; exact nI_toInt (by omega)
        refine lv_iload_n hx hb dX12_bytes_54 rfl (lv_at hl 0 rfl) ?_
        refine lv_aload_n hx hb dX12_bytes_55 rfl (lv_at hl 1 rfl) ?_
        refine va_get (D := (dC, dI)) (ci := 15) (v := .int 8) (C := RX12) (T := TX12) (N := 150) hx hb hts (in_z_X12_bytes_X12) hown hK hP 1 rfl rfl 141 (by decide) (hts (.fieldLink RX12 953 "HeapWorksModel" "rowEnd" "I") (by decide +kernel)) (fun _ h9 => h9) (ow_at o_s125 1 rfl) dX12_bytes_56 ?_
        refine lv_icmp_ge (tgt := 80) hx hb dX12_bytes_59 (by decide) (fun c160 => ?_) (fun c160 => ?_)
        · skip
          refine lv_aload_n hx hb dX12_bytes_80 rfl (lv_at hl 1 rfl) ?_
          refine lv_aload_n hx hb dX12_bytes_81 rfl (lv_at hl 1 rfl) ?_
          refine va_get (D := (dC, dI)) (ci := 15) (v := .int 8) (C := RX12) (T := TX12) (N := 150) hx hb hts (in_z_X12_bytes_X12) hown hK hP 1 rfl rfl 141 (by decide) (hts (.fieldLink RX12 953 "HeapWorksModel" "rowEnd" "I") (by decide +kernel)) (fun _ h9 => h9) (ow_at o_s125 1 rfl) dX12_bytes_82 ?_
          refine va_put (D := (dC, dI)) (ci := 15) (v := .int 8) (ty := .int) (C := RX12) (T := TX12) (N := 150) hx hb hts (in_z_X12_bytes_X12) tyX12 tyX12_ok nmX12 hown hK hP hD hS 1 rfl rfl 3 (by decide) (hts (.fieldLink RX12 391 "HeapWorksModel" "taped" "I") (by decide +kernel)) (fun _ h9 => h9) rfl (by decide +kernel) rfl rfl (by rw [o_s125.2.1]; decide) dX12_bytes_85 (fun H locs hP hD hS => ?_)
          have hP : va_P (dC, dI) vwCl [(Ad1, .inl (Ka0, 4000, .inl f154)), (Ad0, .inr (15, (s125.set 3 (.int 8)))), (Ad2, .inl (Ka1, 5, .inl Fa1)), (Ad3, .inl (Ka2, 5, .inl Fa2)), (Ad4, .inl (Ka3, 9000, .inl f121))] H := hP
          have hD : va_D A [(Ad1, .inl (Ka0, 4000, .inl f154)), (Ad0, .inr (15, (s125.set 3 (.int 8)))), (Ad2, .inl (Ka1, 5, .inl Fa1)), (Ad3, .inl (Ka2, 5, .inl Fa2)), (Ad4, .inl (Ka3, 9000, .inl f121))] := hD
          have o_s161 := ow_set o_s125 3 (.int 8) (by decide) (l' := [(3, .int 8), (0, .int 0), (141, .int 8), (139, .ref Ad4), (139, .ref Ad4), (139, .ref Ad4), (139, .ref Ad4), (139, .ref Ad4), (139, .ref Ad4), (139, .ref Ad4), (139, .ref Ad4), (139, .ref Ad4), (139, .ref Ad4), (139, .ref Ad4), (139, .ref Ad4), (139, .ref Ad4), (139, .ref Ad4), (139, .ref Ad4), (48, .ref Ad2), (65, .ref Ad3), (139, .ref Ad4), (1, .ref Ad1), (48, .ref Ad2), (65, .ref Ad3), (139, .ref Ad4)]) (w' := [3, 0, 141]) rfl rfl
          generalize (s125.set 3 (.int 8)) = s161 at hP hD o_s161
          refine lv_aload_n hx hb dX12_bytes_88 rfl (lv_at hl 1 rfl) ?_
          refine va_get (D := (dC, dI)) (ci := 15) (v := .int 8) (C := RX12) (T := TX12) (N := 150) hx hb hts (in_z_X12_bytes_X12) hown hK hP 1 rfl rfl 3 (by decide) (hts (.fieldLink RX12 391 "HeapWorksModel" "taped" "I") (by decide +kernel)) (fun _ h9 => h9) (ow_at o_s161 0 rfl) dX12_bytes_89 ?_
          have hP9 := hP.sub (ws' := [(Ad0, .inr (15, s161)), (Ad1, .inl (Ka0, 4000, .inl f154)), (Ad2, .inl (Ka1, 5, .inl Fa1)), (Ad3, .inl (Ka2, 5, .inl Fa2)), (Ad4, .inl (Ka3, 9000, .inl f121))]) [1, 0, 2, 3, 4] rfl
          have hD9 := hD.sub (ws' := [(Ad0, .inr (15, s161)), (Ad1, .inl (Ka0, 4000, .inl f154)), (Ad2, .inl (Ka1, 5, .inl Fa1)), (Ad3, .inl (Ka2, 5, .inl Fa2)), (Ad4, .inl (Ka3, 9000, .inl f121))]) [1, 0, 2, 3, 4] (by decide) rfl
          have hK9 := hK.sub (tys' := [(Ka0, .byte), (Ka1, .int), (Ka2, .int), (Ka3, .byte)]) [0, 1, 2, 3] rfl
          exact W.iret (v := 8) hx hb hr (fun t ht hW => ⟨⟨8, (s161, f154, f121), rfl, (Or.inr (Or.inr (⟨c107, c108, rfl, o_s161, q123⟩))), by rw [ht]; exact hP9, va_K.moved hW.alike hK9, hD9⟩, hS.F ht⟩) hS.2.2 dX12_bytes_92
        · skip
          refine lv_aload_n hx hb dX12_bytes_62 rfl (lv_at hl 1 rfl) ?_
          refine va_get (D := (dC, dI)) (ci := 15) (v := .ref Ad1) (C := RX12) (T := TX12) (N := 150) hx hb hts (in_z_X12_bytes_X12) hown hK hP 1 rfl rfl 1 (by decide) (hts (.fieldLink RX12 7 "HeapWorksModel" "tape" "[B") (by decide +kernel)) (fun _ h9 => h9) (ow_at o_s125 20 rfl) dX12_bytes_63 ?_
          refine lv_iload_n hx hb dX12_bytes_66 rfl (lv_at hl 0 rfl) ?_
          refine lv_aload_n hx hb dX12_bytes_67 rfl (lv_at hl 1 rfl) ?_
          refine va_get (D := (dC, dI)) (ci := 15) (v := .ref Ad4) (C := RX12) (T := TX12) (N := 150) hx hb hts (in_z_X12_bytes_X12) hown hK hP 1 rfl rfl 139 (by decide) (hts (.fieldLink RX12 369 "HeapWorksModel" "row0" "[B") (by decide +kernel)) (fun _ h9 => h9) (ow_at o_s125 2 rfl) dX12_bytes_68 ?_
          refine lv_iload_n hx hb dX12_bytes_71 rfl (lv_at hl 0 rfl) ?_
          refine va_bald hx hb hK hP 4 3 rfl rfl (by rw [vp_in_iff]; (try simp only [i_lt, i_le, i_eq, kc_8] at t156 h158 h157 c160); omega) dX12_bytes_72 ?_
          refine lv_topi (fun x162 ex162 => ?_)
          refine va_bast hx hb hK hP hD hS 0 0 rfl rfl (by rw [vp_in_iff]; (try simp only [i_lt, i_le, i_eq, kc_8] at t156 h158 h157 c160); omega) dX12_bytes_73 (fun H locs hP hD hS => ?_)
          have hP : va_P (dC, dI) vwCl [(Ad1, .inl (Ka0, 4000, .inl (upd f154 (x153 : Int32).toNatClampNeg (vp_nar .byte x162)))), (Ad0, .inr (15, s125)), (Ad2, .inl (Ka1, 5, .inl Fa1)), (Ad3, .inl (Ka2, 5, .inl Fa2)), (Ad4, .inl (Ka3, 9000, .inl f121))] H := hP
          have hD : va_D A [(Ad1, .inl (Ka0, 4000, .inl (upd f154 (x153 : Int32).toNatClampNeg (vp_nar .byte x162)))), (Ad0, .inr (15, s125)), (Ad2, .inl (Ka1, 5, .inl Fa1)), (Ad3, .inl (Ka2, 5, .inl Fa2)), (Ad4, .inl (Ka3, 9000, .inl f121))] := hD
          generalize upd f154 (x153 : Int32).toNatClampNeg (vp_nar .byte x162) = f163 at hP hD
          obtain ⟨x164, ex164⟩ : ∃ y : Int32, y = x153 + 1 := ⟨_, rfl⟩
          refine lv_iinc (v := x164) (lv' := [(2, .int x164), (0, .ref Ad0), (1, .int Va0)]) hx hb dX12_bytes_74 hl (k := 0) rfl (by rw [ex164]; rfl) (by decide) rfl (fun ls hl => ?_)
          have tx164 : x164.toInt = x153.toInt + (1 : Int32).toInt := by rw [ex164]; exact i_add (by have bd_x153 := i_bd x153; (try simp only [i_lt, i_le, i_eq, kc_8, kc_1] at t156 h158 h157 c160 ⊢); omega) (by have bd_x153 := i_bd x153; (try simp only [i_lt, i_le, i_eq, kc_8, kc_1] at t156 h158 h157 c160 ⊢); omega)
          refine lv_goto (tgt := 54) hx hb dX12_bytes_77 (by decide) ?_
          exact ih (j152 + 1) x164 f163 (by rw [ex164, e155]; exact nI_1 _) (by omega) (by (try simp only [i_lt, i_le, i_eq, kc_8, kc_1] at t156 h158 h157 c160 tx164); omega) (by omega)  _ _ _ (hP.sub [0, 1, 2, 3, 4] rfl) (hD.sub [0, 1, 2, 3, 4] (by decide) rfl) hS  (lv_sub hl [0, 1, 2] rfl)
    exact HL1 9 0 (0) Fa0 (by decide) (by omega) (by omega) (by omega)  _ _ _ hP hD hS  hl

def l_z_X12_letter : List Cond := [.fieldLink RX12 388 "HeapWorksModel" "thrown" "I", .fieldLink RX12 391 "HeapWorksModel" "taped" "I"]
def w_z_X12_letter : List Cond := .code yX12_letter cX12_letter 2 (some .int) :: (l_z_X12_letter ++ (wsX120))
theorem in_z_X12_letter_X12 : ∀ w ∈ wsX120, w ∈ w_z_X12_letter := fun w h => List.mem_cons_of_mem _ (List.mem_append_right _ (h))
set_option maxHeartbeats 4000000 in
set_option maxRecDepth 100000 in
theorem z_X12_letter (l : Launch) (dC : Nat → ClassId) (dI : Nat → Nat → Nat) (sz : Nat) (Ad0 : Nat) (Fs0 : List Value) (Va0 : Int32) (k_Fs0 : fh Fs0 150 [(3, .int 0)])  : Met l yX12_letter w_z_X12_letter ({ frames := 0, cells := 0, slots := 0, locals := 0 }) (va_Pc [.ref Ad0, .int Va0] (fun U => U.heap.size = sz ∧ Wd dC dI [] (fun _ => True) [(Ad0, .inr (15, Fs0))] U)) (va_Qi (fun (r : Int32) (u : List Value) => (Va0 < 0 ∧ r = (-1) ∧ ow Fs0 (u) 150 [0] [(0, .int 0), (3, .int 0)]) ∨ (¬ Va0 < 0 ∧ 0 ≤ Va0 ∧ r = (-1) ∧ ow Fs0 (u) 150 [0] [(0, .int 0), (3, .int 0)])) (fun (u : List Value) t => Wd dC dI [] (va_A [(Ad0, .inr (15, Fs0))] sz) [(Ad0, .inr (15, (u)))] t) (va_A [(Ad0, .inr (15, Fs0))] sz))  0 0 (va_A [(Ad0, .inr (15, Fs0))] sz) := by
  refine Met.ofW (cc := cX12_letter) (maxL := 2) (ret := (some .int)) (by decide) rfl ?_
  intro p e s m args below meth c s₁ B hml hv
  obtain ⟨rfl, hsz, hP, hK, hD0⟩ := hv
  have hx := B.exec
  have hb := B.bytes
  have hr := B.returns
  have hts := atoms_spec (ws := w_z_X12_letter) B.pre
  have hown : s.vm.findClass RX12 = some m.cls := findClass_of_methodNamed B.named
  have hlocks := B.notSynchronized
  subst hsz
  have hD := hD0.self (sz := s.heap.size)
  generalize hAe : va_A [(Ad0, .inr (15, Fs0))] s.heap.size = A at hD ⊢
  have hA : ∀ q : Nat, s.heap.size ≤ q → A q := fun q h => by rw [← hAe]; exact Or.inr h
  have hS : va_S A s.heap s.heap [] := va_S.rf
  have hl := lv_entry ([.ref Ad0, .int Va0]) (n := 2) (Nat.le_of_ble_eq_true rfl)
  rw [lg_entry_eq]
  generalize (lg_sl ([.ref Ad0, .int Va0]) ++ List.replicate (2 - (lg_sl ([.ref Ad0, .int Va0])).length) Slot.unset).toArray = ls at hl ⊢
  have hl : lv_has ls 2 [(0, .ref Ad0), (1, .int Va0)] := hl
  have o_Fs0 := ow_0 k_Fs0
  refine lv_aload_n hx hb dX12_letter_0 rfl (lv_at hl 0 rfl) ?_
  refine lv_iconst (v := 0) hx hb dX12_letter_1 (by decide) ?_
  refine va_put (D := (dC, dI)) (ci := 15) (v := .int 0) (ty := .int) (C := RX12) (T := TX12) (N := 150) hx hb hts (in_z_X12_letter_X12) tyX12 tyX12_ok nmX12 hown hK hP hD hS 0 rfl rfl 0 (by decide) (hts (.fieldLink RX12 388 "HeapWorksModel" "thrown" "I") (by decide +kernel)) (fun _ h9 => h9) rfl (by decide +kernel) rfl rfl (by rw [o_Fs0.2.1]; decide) dX12_letter_2 (fun H locs hP hD hS => ?_)
  have hP : va_P (dC, dI) vwCl [(Ad0, .inr (15, (Fs0.set 0 (.int 0))))] H := hP
  have hD : va_D A [(Ad0, .inr (15, (Fs0.set 0 (.int 0))))] := hD
  have o_s101 := ow_set o_Fs0 0 (.int 0) (by decide) (l' := [(0, .int 0), (3, .int 0)]) (w' := [0]) rfl rfl
  generalize (Fs0.set 0 (.int 0)) = s101 at hP hD o_s101
  refine lv_iload_n hx hb dX12_letter_5 rfl (lv_at hl 1 rfl) ?_
  refine lv_if_lt (tgt := 30) hx hb dX12_letter_6 (by decide) (fun c102 => ?_) (fun c102 => ?_)
  · skip
    refine lv_iconst (v := (-1)) hx hb dX12_letter_30 (by decide) ?_
    have hP9 := hP.sub (ws' := [(Ad0, .inr (15, s101))]) [0] rfl
    have hD9 := hD.sub (ws' := [(Ad0, .inr (15, s101))]) [0] (by decide) rfl
    have hK9 := hK.sub (tys' := []) [] rfl
    exact W.iret (v := (-1)) hx hb hr (fun t ht hW => ⟨⟨(-1), s101, rfl, (Or.inl ⟨c102, rfl, o_s101⟩), by rw [ht]; exact hP9, va_K.moved hW.alike hK9, hD9⟩, hS.F ht⟩) hS.2.2 dX12_letter_31
  · skip
    refine lv_iload_n hx hb dX12_letter_9 rfl (lv_at hl 1 rfl) ?_
    refine lv_aload_n hx hb dX12_letter_10 rfl (lv_at hl 0 rfl) ?_
    refine va_get (D := (dC, dI)) (ci := 15) (v := .int 0) (C := RX12) (T := TX12) (N := 150) hx hb hts (in_z_X12_letter_X12) hown hK hP 0 rfl rfl 3 (by decide) (hts (.fieldLink RX12 391 "HeapWorksModel" "taped" "I") (by decide +kernel)) (fun _ h9 => h9) (ow_at o_s101 1 rfl) dX12_letter_11 ?_
    refine lv_icmp_ge (tgt := 30) hx hb dX12_letter_14 (by decide) (fun c103 => ?_) (fun c103 => (by exfalso; have bd_Va0 := i_bd Va0; (try simp only [i_lt, i_le, i_eq, kc_0] at c102 c103); omega))
    refine lv_iconst (v := (-1)) hx hb dX12_letter_30 (by decide) ?_
    have hP9 := hP.sub (ws' := [(Ad0, .inr (15, s101))]) [0] rfl
    have hD9 := hD.sub (ws' := [(Ad0, .inr (15, s101))]) [0] (by decide) rfl
    have hK9 := hK.sub (tys' := []) [] rfl
    exact W.iret (v := (-1)) hx hb hr (fun t ht hW => ⟨⟨(-1), s101, rfl, (Or.inr (⟨c102, c103, rfl, o_s101⟩)), by rw [ht]; exact hP9, va_K.moved hW.alike hK9, hD9⟩, hS.F ht⟩) hS.2.2 dX12_letter_31

