def l_z_X11_fieldLook : List Cond := [.fieldLink RX11 19 "HeapWorks" "types" "LHeapWorks$Types;", .methodLink RX11 188 yX10_hasField_, .instanceMethod yX10_hasField_, .selects RX10 yX10_hasField_ yX10_hasField_, .initialized RX10, .code yX10_hasField_ cX10_hasField_ 3 (some .boolean), .methodLink RX10 69 yX10_isClass, .instanceMethod yX10_isClass, .selects RX10 yX10_isClass yX10_isClass, .code yX10_isClass cX10_isClass 2 (some .boolean), .fieldLink RX10 65 "HeapWorks$Types" "count" "I"]
def w_z_X11_fieldLook : List Cond := .code yX11_fieldLook cX11_fieldLook 5 (some .int) :: (l_z_X11_fieldLook ++ ((wsX110 ++ wsX100)))
theorem in_z_X11_fieldLook_X11 : ∀ w ∈ wsX110, w ∈ w_z_X11_fieldLook := fun w h => List.mem_cons_of_mem _ (List.mem_append_right _ (List.mem_append_left _ h))
theorem in_z_X11_fieldLook_X10 : ∀ w ∈ wsX100, w ∈ w_z_X11_fieldLook := fun w h => List.mem_cons_of_mem _ (List.mem_append_right _ (List.mem_append_right _ (h)))
theorem g_z_X11_fieldLook_z_X10_hasField__188 : GoodIn w_z_X11_fieldLook (wsV RX11 188 RX10 yX10_hasField_ w_z_X10_hasField_) := goodIn_app (goodIn_r (([.methodLink RX11 188 yX10_hasField_, .instanceMethod yX10_hasField_, .selects RX10 yX10_hasField_ yX10_hasField_, .initialized RX10] : List Cond)) [2, 3, 4, 5] rfl (by decide +kernel)) (goodIn_ca (goodIn_r (.code yX10_hasField_ cX10_hasField_ 3 (some .boolean) :: l_z_X10_hasField_) [6, 7, 8, 9, 5, 10, 11] rfl (by decide +kernel)) (goodIn_in (in_z_X11_fieldLook_X10) gd_X10))
set_option maxHeartbeats 4000000 in
set_option maxRecDepth 100000 in
theorem z_X11_fieldLook (l : Launch) (dC : Nat → ClassId) (dI : Nat → Nat → Nat) (sz : Nat) (Ad0 : Nat) (Fs0 : List Value) (Ad1 : Nat) (Fs1 : List Value) (Va0 : Int32) (Va1 : Int32) (Va2 : Int32) (k_Fs0 : fh Fs0 18 [(1, .ref Ad1)]) (k_Fs1 : fh Fs1 18 [(0, .int 0)])  : Met l yX11_fieldLook w_z_X11_fieldLook ({ frames := 2, cells := 0, slots := 0, locals := 43 }) (va_Pc [.ref Ad0, .int Va0, .int Va1, .int Va2] (fun U => U.heap.size = sz ∧ Wd dC dI [] (fun _ => True) [(Ad0, .inr (14, Fs0)), (Ad1, .inr (13, Fs1))] U)) (va_Qi (fun (r : Int32) (u : Unit) => (Va0 < 0 ∧ r = (-1)) ∨ (¬ Va0 < 0 ∧ 0 ≤ Va0 ∧ r = (-1))) (fun (u : Unit) t => Wd dC dI [] (va_A [(Ad0, .inr (14, Fs0)), (Ad1, .inr (13, Fs1))] sz) [(Ad0, .inr (14, Fs0)), (Ad1, .inr (13, Fs1))] t) (va_A [(Ad0, .inr (14, Fs0)), (Ad1, .inr (13, Fs1))] sz))  0 0 (va_A [(Ad0, .inr (14, Fs0)), (Ad1, .inr (13, Fs1))] sz) := by
  refine Met.ofW (cc := cX11_fieldLook) (maxL := 5) (ret := (some .int)) (by decide) rfl ?_
  intro p e s m args below meth c s₁ B hml hv
  obtain ⟨rfl, hsz, hP, hK, hD0⟩ := hv
  have hx := B.exec
  have hb := B.bytes
  have hr := B.returns
  have hts := atoms_spec (ws := w_z_X11_fieldLook) B.pre
  have hown : s.vm.findClass RX11 = some m.cls := findClass_of_methodNamed B.named
  have hlocks := B.notSynchronized
  subst hsz
  have hD := hD0.self (sz := s.heap.size)
  generalize hAe : va_A [(Ad0, .inr (14, Fs0)), (Ad1, .inr (13, Fs1))] s.heap.size = A at hD ⊢
  have hA : ∀ q : Nat, s.heap.size ≤ q → A q := fun q h => by rw [← hAe]; exact Or.inr h
  have hS : va_S A s.heap s.heap [] := va_S.rf
  have hl := lv_entry ([.ref Ad0, .int Va0, .int Va1, .int Va2]) (n := 5) (Nat.le_of_ble_eq_true rfl)
  rw [lg_entry_eq]
  generalize (lg_sl ([.ref Ad0, .int Va0, .int Va1, .int Va2]) ++ List.replicate (5 - (lg_sl ([.ref Ad0, .int Va0, .int Va1, .int Va2])).length) Slot.unset).toArray = ls at hl ⊢
  have hl : lv_has ls 5 [(0, .ref Ad0), (1, .int Va0), (2, .int Va1), (3, .int Va2)] := hl
  have o_Fs0 := ow_0 k_Fs0
  have o_Fs1 := ow_0 k_Fs1
  refine lv_aload_n hx hb dX11_fieldLook_0 rfl (lv_at hl 0 rfl) ?_
  refine va_get (D := (dC, dI)) (ci := 14) (v := .ref Ad1) (C := RX11) (T := TX11) (N := 18) hx hb hts (in_z_X11_fieldLook_X11) hown hK hP 0 rfl rfl 1 (by decide) (hts (.fieldLink RX11 19 "HeapWorks" "types" "LHeapWorks$Types;") (by decide +kernel)) (fun _ h9 => h9) (ow_at o_Fs0 0 rfl) dX11_fieldLook_1 ?_
  refine lv_iload_n hx hb dX11_fieldLook_4 rfl (lv_at hl 1 rfl) ?_
  refine lv_iload_n hx hb dX11_fieldLook_5 rfl (lv_at hl 2 rfl) ?_
  have hPc := hP.sub (ws' := [(Ad1, .inr (13, Fs1))]) [1] rfl
  have hDc := hD.sub (ws' := [(Ad1, .inr (13, Fs1))]) [1] (by decide) rfl
  have hKc := hK.sub (tys' := []) [] rfl
  have hFc := va_free (wc := [(Ad1, .inr (13, Fs1))]) hD hS hA [1] rfl
  refine va_calli (va_runV (As := [.int Va0, .int Va1]) (rest := []) ⟨hx, hb, hml, hown, hts⟩ (z_X10_hasField_ l dC dI s.heap.size Ad1 Fs1 Va0 Va1 (fh_sub o_Fs1.2 [0] rfl) ) (cwV 2 hts g_z_X11_fieldLook_z_X10_hasField__188 rfl rfl rfl (by decide +kernel) ⟨Nat.le_of_ble_eq_true rfl, Nat.le_of_ble_eq_true rfl⟩) ⟨fun a U g mk q => by obtain ⟨q0, q1, qP, qK, qD⟩ := q; exact ⟨q0, q1, qP, va_K.moved (u := U) (U := U.calling g mk a) (Vm.Alike.refl U.vm) qK, qD⟩, va_recv hK hP (ci := 13) (q0 := 1) rfl rfl, fun U hU hW => ⟨rfl, by rw [hU], by rw [hU]; exact hPc, va_K.moved hW.alike hKc, hDc.weaken (fun _ _ _ _ => trivial)⟩⟩ rfl rfl hl.1 rfl (lv_room (Nat.le_of_ble_eq_true rfl)) dX11_fieldLook_6 ⟨Nat.le_of_ble_eq_true rfl, Nat.le_of_ble_eq_true rfl⟩) hS (fun q _ h => hFc q h) hFc (fun r101 u t H1 locs ht hvm hw hB hz1 hk1 hS => ?_)
  obtain ⟨hP1, hK1, hD1⟩ := hB
  rw [ht] at hP1
  try dsimp only at hw
  obtain ⟨hP, hD⟩ := va_join (wr := [(Ad0, .inr (14, Fs0))]) (w1 := [(Ad1, .inr (13, Fs1))]) hP hD [1] [0] rfl rfl (by decide) (by decide) hk1 hFc hP1 hD1
  have hK := hK.sub (tys' := []) [] rfl
  generalize H1 = H at hP hS ⊢
  have hP : va_P (dC, dI) vwCl [(Ad0, .inr (14, Fs0)), (Ad1, .inr (13, Fs1))] H := hP
  have hD : va_D A [(Ad0, .inr (14, Fs0)), (Ad1, .inr (13, Fs1))] := hD
  rcases hw with ⟨c102, er103⟩ | ⟨c104, c105, er106⟩
  · skip
    subst er103
    refine lv_if_ne (tgt := 14) hx hb dX11_fieldLook_9 (by decide) (fun c107 => absurd c107 (by decide)) (fun c107 => ?_)
    refine lv_iconst (v := (-1)) hx hb dX11_fieldLook_12 (by decide) ?_
    have hP9 := hP.sub (ws' := [(Ad0, .inr (14, Fs0)), (Ad1, .inr (13, Fs1))]) [0, 1] rfl
    have hD9 := hD.sub (ws' := [(Ad0, .inr (14, Fs0)), (Ad1, .inr (13, Fs1))]) [0, 1] (by decide) rfl
    have hK9 := hK.sub (tys' := []) [] rfl
    exact W.iret (v := (-1)) hx hb hr (fun t ht hW => ⟨⟨(-1), (), rfl, (Or.inl ⟨c102, rfl⟩), by rw [ht]; exact hP9, va_K.moved hW.alike hK9, hD9⟩, hS.F ht⟩) hS.2.2 dX11_fieldLook_13
  · skip
    subst er106
    refine lv_if_ne (tgt := 14) hx hb dX11_fieldLook_9 (by decide) (fun c108 => absurd c108 (by decide)) (fun c108 => ?_)
    refine lv_iconst (v := (-1)) hx hb dX11_fieldLook_12 (by decide) ?_
    have hP9 := hP.sub (ws' := [(Ad0, .inr (14, Fs0)), (Ad1, .inr (13, Fs1))]) [0, 1] rfl
    have hD9 := hD.sub (ws' := [(Ad0, .inr (14, Fs0)), (Ad1, .inr (13, Fs1))]) [0, 1] (by decide) rfl
    have hK9 := hK.sub (tys' := []) [] rfl
    exact W.iret (v := (-1)) hx hb hr (fun t ht hW => ⟨⟨(-1), (), rfl, (Or.inr (⟨c104, c105, rfl⟩)), by rw [ht]; exact hP9, va_K.moved hW.alike hK9, hD9⟩, hS.F ht⟩) hS.2.2 dX11_fieldLook_13

def l_z_X10_isType : List Cond := [.methodLink RX10 69 yX10_isClass, .instanceMethod yX10_isClass, .selects RX10 yX10_isClass yX10_isClass, .initialized RX10, .code yX10_isClass cX10_isClass 2 (some .boolean), .fieldLink RX10 65 "HeapWorks$Types" "count" "I"]
def w_z_X10_isType : List Cond := .code yX10_isType cX10_isType 2 (some .boolean) :: (l_z_X10_isType ++ (wsX100))
theorem in_z_X10_isType_X10 : ∀ w ∈ wsX100, w ∈ w_z_X10_isType := fun w h => List.mem_cons_of_mem _ (List.mem_append_right _ (h))
theorem g_z_X10_isType_z_X10_isClass_69 : GoodIn w_z_X10_isType (wsV RX10 69 RX10 yX10_isClass w_z_X10_isClass) := goodIn_app (goodIn_r (([.methodLink RX10 69 yX10_isClass, .instanceMethod yX10_isClass, .selects RX10 yX10_isClass yX10_isClass, .initialized RX10] : List Cond)) [1, 2, 3, 4] rfl (by decide +kernel)) (goodIn_ca (goodIn_r (.code yX10_isClass cX10_isClass 2 (some .boolean) :: l_z_X10_isClass) [5, 6] rfl (by decide +kernel)) (goodIn_in (in_z_X10_isType_X10) gd_X10))
set_option maxHeartbeats 4000000 in
set_option maxRecDepth 100000 in
theorem z_X10_isType (l : Launch) (dC : Nat → ClassId) (dI : Nat → Nat → Nat) (sz : Nat) (Ad0 : Nat) (Fs0 : List Value) (Va0 : Int32) (k_Fs0 : fh Fs0 18 [(0, .int 0)])  : Met l yX10_isType w_z_X10_isType ({ frames := 1, cells := 0, slots := 0, locals := 21 }) (va_Pc [.ref Ad0, .int Va0] (fun U => U.heap.size = sz ∧ Wd dC dI [] (fun _ => True) [(Ad0, .inr (13, Fs0))] U)) (va_Qi (fun (r : Int32) (u : Unit) => (Va0 < 0 ∧ Va0 < 20 ∧ ¬ Va0 = 29 ∧ Va0 < 30 ∧ r = 0) ∨ (¬ Va0 < 0 ∧ 0 ≤ Va0 ∧ Va0 < 20 ∧ ¬ Va0 = 29 ∧ Va0 < 30 ∧ r = 0) ∨ (¬ Va0 < 0 ∧ 0 ≤ Va0 ∧ ¬ Va0 < 20 ∧ Va0 ≤ 24 ∧ r = 1) ∨ (¬ Va0 < 0 ∧ 0 ≤ Va0 ∧ ¬ Va0 < 20 ∧ ¬ Va0 ≤ 24 ∧ Va0 = 29 ∧ r = 1) ∨ (¬ Va0 < 0 ∧ 0 ≤ Va0 ∧ ¬ Va0 < 20 ∧ ¬ Va0 ≤ 24 ∧ ¬ Va0 = 29 ∧ Va0 < 30 ∧ r = 0) ∨ (¬ Va0 < 0 ∧ 0 ≤ Va0 ∧ ¬ Va0 < 20 ∧ ¬ Va0 ≤ 24 ∧ ¬ Va0 = 29 ∧ ¬ Va0 < 30 ∧ r = 0)) (fun (u : Unit) t => Wd dC dI [] (va_A [(Ad0, .inr (13, Fs0))] sz) [(Ad0, .inr (13, Fs0))] t) (va_A [(Ad0, .inr (13, Fs0))] sz))  0 0 (va_A [(Ad0, .inr (13, Fs0))] sz) := by
  refine Met.ofW (cc := cX10_isType) (maxL := 2) (ret := (some .boolean)) (by decide) rfl ?_
  intro p e s m args below meth c s₁ B hml hv
  obtain ⟨rfl, hsz, hP, hK, hD0⟩ := hv
  have hx := B.exec
  have hb := B.bytes
  have hr := B.returns
  have hts := atoms_spec (ws := w_z_X10_isType) B.pre
  have hown : s.vm.findClass RX10 = some m.cls := findClass_of_methodNamed B.named
  have hlocks := B.notSynchronized
  subst hsz
  have hD := hD0.self (sz := s.heap.size)
  generalize hAe : va_A [(Ad0, .inr (13, Fs0))] s.heap.size = A at hD ⊢
  have hA : ∀ q : Nat, s.heap.size ≤ q → A q := fun q h => by rw [← hAe]; exact Or.inr h
  have hS : va_S A s.heap s.heap [] := va_S.rf
  have hl := lv_entry ([.ref Ad0, .int Va0]) (n := 2) (Nat.le_of_ble_eq_true rfl)
  rw [lg_entry_eq]
  generalize (lg_sl ([.ref Ad0, .int Va0]) ++ List.replicate (2 - (lg_sl ([.ref Ad0, .int Va0])).length) Slot.unset).toArray = ls at hl ⊢
  have hl : lv_has ls 2 [(0, .ref Ad0), (1, .int Va0)] := hl
  have o_Fs0 := ow_0 k_Fs0
  refine lv_aload_n hx hb dX10_isType_0 rfl (lv_at hl 0 rfl) ?_
  refine lv_iload_n hx hb dX10_isType_1 rfl (lv_at hl 1 rfl) ?_
  have hPc := hP.sub (ws' := [(Ad0, .inr (13, Fs0))]) [0] rfl
  have hDc := hD.sub (ws' := [(Ad0, .inr (13, Fs0))]) [0] (by decide) rfl
  have hKc := hK.sub (tys' := []) [] rfl
  have hFc := va_free (wc := [(Ad0, .inr (13, Fs0))]) hD hS hA [0] rfl
  refine va_calli (va_runV (As := [.int Va0]) (rest := []) ⟨hx, hb, hml, hown, hts⟩ (z_X10_isClass l dC dI s.heap.size Ad0 Fs0 Va0 (fh_sub o_Fs0.2 [0] rfl) ) (cwV 1 hts g_z_X10_isType_z_X10_isClass_69 rfl rfl rfl (by decide +kernel) ⟨Nat.le_of_ble_eq_true rfl, Nat.le_of_ble_eq_true rfl⟩) ⟨fun a U g mk q => by obtain ⟨q0, q1, qP, qK, qD⟩ := q; exact ⟨q0, q1, qP, va_K.moved (u := U) (U := U.calling g mk a) (Vm.Alike.refl U.vm) qK, qD⟩, va_recv hK hP (ci := 13) (q0 := 0) rfl rfl, fun U hU hW => ⟨rfl, by rw [hU], by rw [hU]; exact hPc, va_K.moved hW.alike hKc, hDc.weaken (fun _ _ _ _ => trivial)⟩⟩ rfl rfl hl.1 rfl (lv_room (Nat.le_of_ble_eq_true rfl)) dX10_isType_2 ⟨Nat.le_of_ble_eq_true rfl, Nat.le_of_ble_eq_true rfl⟩) hS (fun q _ h => hFc q h) hFc (fun r101 u t H1 locs ht hvm hw hB hz1 hk1 hS => ?_)
  obtain ⟨hP1, hK1, hD1⟩ := hB
  rw [ht] at hP1
  try dsimp only at hw
  obtain ⟨hP, hD⟩ := va_join (wr := []) (w1 := [(Ad0, .inr (13, Fs0))]) hP hD [0] [] rfl rfl (by decide) (by decide) hk1 hFc hP1 hD1
  have hK := hK.sub (tys' := []) [] rfl
  generalize H1 = H at hP hS ⊢
  have hP : va_P (dC, dI) vwCl [(Ad0, .inr (13, Fs0))] H := hP
  have hD : va_D A [(Ad0, .inr (13, Fs0))] := hD
  rcases hw with ⟨c102, er103⟩ | ⟨c104, c105, er106⟩
  · skip
    subst er103
    refine lv_if_ne (tgt := 43) hx hb dX10_isType_5 (by decide) (fun c107 => absurd c107 (by decide)) (fun c107 => ?_)
    refine lv_iload_n hx hb dX10_isType_8 rfl (lv_at hl 1 rfl) ?_
    refine lv_bipush (v := 20) hx hb dX10_isType_9 (by decide) ?_
    refine lv_icmp_lt (tgt := 20) hx hb dX10_isType_11 (by decide) (fun c108 => ?_) (fun c108 => (by exfalso; have bd_Va0 := i_bd Va0; (try simp only [i_lt, i_le, i_eq, kc_0, kc_20] at c102 c108); omega))
    refine lv_iload_n hx hb dX10_isType_20 rfl (lv_at hl 1 rfl) ?_
    refine lv_bipush (v := 29) hx hb dX10_isType_21 (by decide) ?_
    refine lv_icmp_eq (tgt := 43) hx hb dX10_isType_23 (by decide) (fun c109 => (by exfalso; have bd_Va0 := i_bd Va0; (try simp only [i_lt, i_le, i_eq, kc_0, kc_20, kc_29] at c102 c108 c109); omega)) (fun c109 => ?_)
    refine lv_iload_n hx hb dX10_isType_26 rfl (lv_at hl 1 rfl) ?_
    refine lv_bipush (v := 30) hx hb dX10_isType_27 (by decide) ?_
    refine lv_icmp_lt (tgt := 47) hx hb dX10_isType_29 (by decide) (fun c110 => ?_) (fun c110 => (by exfalso; have bd_Va0 := i_bd Va0; (try simp only [i_lt, i_le, i_eq, kc_0, kc_20, kc_29, kc_30] at c102 c108 c109 c110); omega))
    refine lv_iconst (v := 0) hx hb dX10_isType_47 (by decide) ?_
    have hP9 := hP.sub (ws' := [(Ad0, .inr (13, Fs0))]) [0] rfl
    have hD9 := hD.sub (ws' := [(Ad0, .inr (13, Fs0))]) [0] (by decide) rfl
    have hK9 := hK.sub (tys' := []) [] rfl
    exact W.zret (v := 0) hx hb hr rfl (fun t ht hW => ⟨⟨0, (), rfl, (Or.inl ⟨c102, c108, c109, c110, rfl⟩), by rw [ht]; exact hP9, va_K.moved hW.alike hK9, hD9⟩, hS.F ht⟩) hS.2.2 dX10_isType_48
  · skip
    subst er106
    refine lv_if_ne (tgt := 43) hx hb dX10_isType_5 (by decide) (fun c111 => absurd c111 (by decide)) (fun c111 => ?_)
    refine lv_iload_n hx hb dX10_isType_8 rfl (lv_at hl 1 rfl) ?_
    refine lv_bipush (v := 20) hx hb dX10_isType_9 (by decide) ?_
    refine lv_icmp_lt (tgt := 20) hx hb dX10_isType_11 (by decide) (fun c112 => ?_) (fun c112 => ?_)
    · skip
      refine lv_iload_n hx hb dX10_isType_20 rfl (lv_at hl 1 rfl) ?_
      refine lv_bipush (v := 29) hx hb dX10_isType_21 (by decide) ?_
      refine lv_icmp_eq (tgt := 43) hx hb dX10_isType_23 (by decide) (fun c113 => (by exfalso; have bd_Va0 := i_bd Va0; (try simp only [i_lt, i_le, i_eq, kc_0, kc_20, kc_29] at c104 c105 c112 c113); omega)) (fun c113 => ?_)
      refine lv_iload_n hx hb dX10_isType_26 rfl (lv_at hl 1 rfl) ?_
      refine lv_bipush (v := 30) hx hb dX10_isType_27 (by decide) ?_
      refine lv_icmp_lt (tgt := 47) hx hb dX10_isType_29 (by decide) (fun c114 => ?_) (fun c114 => (by exfalso; have bd_Va0 := i_bd Va0; (try simp only [i_lt, i_le, i_eq, kc_0, kc_20, kc_29, kc_30] at c104 c105 c112 c113 c114); omega))
      refine lv_iconst (v := 0) hx hb dX10_isType_47 (by decide) ?_
      have hP9 := hP.sub (ws' := [(Ad0, .inr (13, Fs0))]) [0] rfl
      have hD9 := hD.sub (ws' := [(Ad0, .inr (13, Fs0))]) [0] (by decide) rfl
      have hK9 := hK.sub (tys' := []) [] rfl
      exact W.zret (v := 0) hx hb hr rfl (fun t ht hW => ⟨⟨0, (), rfl, (Or.inr (Or.inl ⟨c104, c105, c112, c113, c114, rfl⟩)), by rw [ht]; exact hP9, va_K.moved hW.alike hK9, hD9⟩, hS.F ht⟩) hS.2.2 dX10_isType_48
    · skip
      refine lv_iload_n hx hb dX10_isType_14 rfl (lv_at hl 1 rfl) ?_
      refine lv_bipush (v := 24) hx hb dX10_isType_15 (by decide) ?_
      refine lv_icmp_le (tgt := 43) hx hb dX10_isType_17 (by decide) (fun c115 => ?_) (fun c115 => ?_)
      · skip
        refine lv_iconst (v := 1) hx hb dX10_isType_43 (by decide) ?_
        refine lv_goto (tgt := 48) hx hb dX10_isType_44 (by decide) ?_
        have hP9 := hP.sub (ws' := [(Ad0, .inr (13, Fs0))]) [0] rfl
        have hD9 := hD.sub (ws' := [(Ad0, .inr (13, Fs0))]) [0] (by decide) rfl
        have hK9 := hK.sub (tys' := []) [] rfl
        exact W.zret (v := 1) hx hb hr rfl (fun t ht hW => ⟨⟨1, (), rfl, (Or.inr (Or.inr (Or.inl ⟨c104, c105, c112, c115, rfl⟩))), by rw [ht]; exact hP9, va_K.moved hW.alike hK9, hD9⟩, hS.F ht⟩) hS.2.2 dX10_isType_48
      · skip
        refine lv_iload_n hx hb dX10_isType_20 rfl (lv_at hl 1 rfl) ?_
        refine lv_bipush (v := 29) hx hb dX10_isType_21 (by decide) ?_
        refine lv_icmp_eq (tgt := 43) hx hb dX10_isType_23 (by decide) (fun c116 => ?_) (fun c116 => ?_)
        · skip
          refine lv_iconst (v := 1) hx hb dX10_isType_43 (by decide) ?_
          refine lv_goto (tgt := 48) hx hb dX10_isType_44 (by decide) ?_
          have hP9 := hP.sub (ws' := [(Ad0, .inr (13, Fs0))]) [0] rfl
          have hD9 := hD.sub (ws' := [(Ad0, .inr (13, Fs0))]) [0] (by decide) rfl
          have hK9 := hK.sub (tys' := []) [] rfl
          exact W.zret (v := 1) hx hb hr rfl (fun t ht hW => ⟨⟨1, (), rfl, (Or.inr (Or.inr (Or.inr (Or.inl ⟨c104, c105, c112, c115, c116, rfl⟩)))), by rw [ht]; exact hP9, va_K.moved hW.alike hK9, hD9⟩, hS.F ht⟩) hS.2.2 dX10_isType_48
        · skip
          refine lv_iload_n hx hb dX10_isType_26 rfl (lv_at hl 1 rfl) ?_
          refine lv_bipush (v := 30) hx hb dX10_isType_27 (by decide) ?_
          refine lv_icmp_lt (tgt := 47) hx hb dX10_isType_29 (by decide) (fun c117 => ?_) (fun c117 => ?_)
          · skip
            refine lv_iconst (v := 0) hx hb dX10_isType_47 (by decide) ?_
            have hP9 := hP.sub (ws' := [(Ad0, .inr (13, Fs0))]) [0] rfl
            have hD9 := hD.sub (ws' := [(Ad0, .inr (13, Fs0))]) [0] (by decide) rfl
            have hK9 := hK.sub (tys' := []) [] rfl
            exact W.zret (v := 0) hx hb hr rfl (fun t ht hW => ⟨⟨0, (), rfl, (Or.inr (Or.inr (Or.inr (Or.inr (Or.inl ⟨c104, c105, c112, c115, c116, c117, rfl⟩))))), by rw [ht]; exact hP9, va_K.moved hW.alike hK9, hD9⟩, hS.F ht⟩) hS.2.2 dX10_isType_48
          · skip
            refine lv_aload_n hx hb dX10_isType_32 rfl (lv_at hl 0 rfl) ?_
            refine lv_iload_n hx hb dX10_isType_33 rfl (lv_at hl 1 rfl) ?_
            refine lv_bipush (v := 30) hx hb dX10_isType_34 (by decide) ?_
            refine lv_isub hx hb dX10_isType_36  ?_
            refine lv_topi (fun x118 ex118 => ?_)
            have tx118 : x118.toInt = (Va0 : Int32).toInt - (30 : Int32).toInt := by rw [ex118]; exact i_sub (by have bd_Va0 := i_bd Va0; (try simp only [i_lt, i_le, i_eq, kc_0, kc_20, kc_24, kc_29, kc_30] at c104 c105 c112 c115 c116 c117 ⊢); omega) (by have bd_Va0 := i_bd Va0; (try simp only [i_lt, i_le, i_eq, kc_0, kc_20, kc_24, kc_29, kc_30] at c104 c105 c112 c115 c116 c117 ⊢); omega)
            have hPc := hP.sub (ws' := [(Ad0, .inr (13, Fs0))]) [0] rfl
            have hDc := hD.sub (ws' := [(Ad0, .inr (13, Fs0))]) [0] (by decide) rfl
            have hKc := hK.sub (tys' := []) [] rfl
            have hFc := va_free (wc := [(Ad0, .inr (13, Fs0))]) hD hS hA [0] rfl
            refine va_calli (va_runV (As := [.int x118]) (rest := []) ⟨hx, hb, hml, hown, hts⟩ (z_X10_isClass l dC dI H.size Ad0 Fs0 x118 (fh_sub o_Fs0.2 [0] rfl) ) (cwV 1 hts g_z_X10_isType_z_X10_isClass_69 rfl rfl rfl (by decide +kernel) ⟨Nat.le_of_ble_eq_true rfl, Nat.le_of_ble_eq_true rfl⟩) ⟨fun a U g mk q => by obtain ⟨q0, q1, qP, qK, qD⟩ := q; exact ⟨q0, q1, qP, va_K.moved (u := U) (U := U.calling g mk a) (Vm.Alike.refl U.vm) qK, qD⟩, va_recv hK hP (ci := 13) (q0 := 0) rfl rfl, fun U hU hW => ⟨rfl, by rw [hU], by rw [hU]; exact hPc, va_K.moved hW.alike hKc, hDc.weaken (fun _ _ _ _ => trivial)⟩⟩ rfl rfl hl.1 rfl (lv_room (Nat.le_of_ble_eq_true rfl)) dX10_isType_37 ⟨Nat.le_of_ble_eq_true rfl, Nat.le_of_ble_eq_true rfl⟩) hS (fun q _ h => hFc q h) hFc (fun r119 u t H1 locs ht hvm hw hB hz1 hk1 hS => ?_)
            obtain ⟨hP1, hK1, hD1⟩ := hB
            rw [ht] at hP1
            try dsimp only at hw
            obtain ⟨hP, hD⟩ := va_join (wr := []) (w1 := [(Ad0, .inr (13, Fs0))]) hP hD [0] [] rfl rfl (by decide) (by decide) hk1 hFc hP1 hD1
            have hK := hK.sub (tys' := []) [] rfl
            generalize H1 = H at hP hS ⊢
            have hP : va_P (dC, dI) vwCl [(Ad0, .inr (13, Fs0))] H := hP
            have hD : va_D A [(Ad0, .inr (13, Fs0))] := hD
            rcases hw with ⟨c120, er121⟩ | ⟨c122, c123, er124⟩
            · exact (by exfalso; (try simp only [i_lt, i_le, i_eq, kc_30, kc_0, kc_20, kc_24, kc_29] at tx118 c120 c104 c105 c112 c115 c116 c117); omega)
            · skip
              subst er124
              refine lv_if_eq (tgt := 47) hx hb dX10_isType_40 (by decide) (fun c125 => ?_) (fun c125 => absurd c125 (by decide))
              refine lv_iconst (v := 0) hx hb dX10_isType_47 (by decide) ?_
              have hP9 := hP.sub (ws' := [(Ad0, .inr (13, Fs0))]) [0] rfl
              have hD9 := hD.sub (ws' := [(Ad0, .inr (13, Fs0))]) [0] (by decide) rfl
              have hK9 := hK.sub (tys' := []) [] rfl
              exact W.zret (v := 0) hx hb hr rfl (fun t ht hW => ⟨⟨0, (), rfl, (Or.inr (Or.inr (Or.inr (Or.inr (Or.inr (⟨c104, c105, c112, c115, c116, c117, rfl⟩)))))), by rw [ht]; exact hP9, va_K.moved hW.alike hK9, hD9⟩, hS.F ht⟩) hS.2.2 dX10_isType_48

def l_z_X10_isArray : List Cond := []
def w_z_X10_isArray : List Cond := .code yX10_isArray cX10_isArray 1 (some .boolean) :: (l_z_X10_isArray)
set_option maxHeartbeats 4000000 in
set_option maxRecDepth 100000 in
theorem z_X10_isArray (l : Launch) (dC : Nat → ClassId) (dI : Nat → Nat → Nat) (sz : Nat) (Va0 : Int32)   : Met l yX10_isArray w_z_X10_isArray ({ frames := 0, cells := 0, slots := 0, locals := 0 }) (va_Pc [.int Va0] (fun U => U.heap.size = sz ∧ Wd dC dI [] (fun _ => True) [] U)) (va_Qi (fun (r : Int32) (u : Unit) => (Va0 < 20 ∧ r = 0) ∨ (¬ Va0 < 20 ∧ r = 1)) (fun (u : Unit) t => Wd dC dI [] (va_A [] sz) [] t) (va_A [] sz))  0 0 (va_A [] sz) := by
  refine Met.ofW (cc := cX10_isArray) (maxL := 1) (ret := (some .boolean)) (by decide) rfl ?_
  intro p e s m args below meth c s₁ B hml hv
  obtain ⟨rfl, hsz, hP, hK, hD0⟩ := hv
  have hx := B.exec
  have hb := B.bytes
  have hr := B.returns
  have hts := atoms_spec (ws := w_z_X10_isArray) B.pre
  have hown : s.vm.findClass RX10 = some m.cls := findClass_of_methodNamed B.named
  have hlocks := B.notSynchronized
  subst hsz
  have hD := hD0.self (sz := s.heap.size)
  generalize hAe : va_A [] s.heap.size = A at hD ⊢
  have hA : ∀ q : Nat, s.heap.size ≤ q → A q := fun q h => by rw [← hAe]; exact Or.inr h
  have hS : va_S A s.heap s.heap [] := va_S.rf
  have hl := lv_entry ([.int Va0]) (n := 1) (Nat.le_of_ble_eq_true rfl)
  rw [lg_entry_eq]
  generalize (lg_sl ([.int Va0]) ++ List.replicate (1 - (lg_sl ([.int Va0])).length) Slot.unset).toArray = ls at hl ⊢
  have hl : lv_has ls 1 [(0, .int Va0)] := hl
  refine lv_iload_n hx hb dX10_isArray_0 rfl (lv_at hl 0 rfl) ?_
  refine lv_bipush (v := 20) hx hb dX10_isArray_1 (by decide) ?_
  refine lv_icmp_lt (tgt := 10) hx hb dX10_isArray_3 (by decide) (fun c101 => ?_) (fun c101 => ?_)
  · skip
    refine lv_iconst (v := 0) hx hb dX10_isArray_10 (by decide) ?_
    have hP9 := hP.sub (ws' := []) [] rfl
    have hD9 := hD.sub (ws' := []) [] (by decide) rfl
    have hK9 := hK.sub (tys' := []) [] rfl
    exact W.zret (v := 0) hx hb hr rfl (fun t ht hW => ⟨⟨0, (), rfl, (Or.inl ⟨c101, rfl⟩), by rw [ht]; exact hP9, va_K.moved hW.alike hK9, hD9⟩, hS.F ht⟩) hS.2.2 dX10_isArray_11
  · skip
    refine lv_iconst (v := 1) hx hb dX10_isArray_6 (by decide) ?_
    refine lv_goto (tgt := 11) hx hb dX10_isArray_7 (by decide) ?_
    have hP9 := hP.sub (ws' := []) [] rfl
    have hD9 := hD.sub (ws' := []) [] (by decide) rfl
    have hK9 := hK.sub (tys' := []) [] rfl
    exact W.zret (v := 1) hx hb hr rfl (fun t ht hW => ⟨⟨1, (), rfl, (Or.inr (⟨c101, rfl⟩)), by rw [ht]; exact hP9, va_K.moved hW.alike hK9, hD9⟩, hS.F ht⟩) hS.2.2 dX10_isArray_11

def l_z_X10_slotsOf : List Cond := [.methodLink RX10 86 yX10_isArray, .static yX10_isArray, .initialized RX10, .code yX10_isArray cX10_isArray 1 (some .boolean)]
def w_z_X10_slotsOf : List Cond := .code yX10_slotsOf cX10_slotsOf 3 (some .int) :: (l_z_X10_slotsOf)
theorem g_z_X10_slotsOf_z_X10_isArray_86 : GoodIn w_z_X10_slotsOf (wsS RX10 86 yX10_isArray w_z_X10_isArray) := goodIn_app (goodIn_r (([.methodLink RX10 86 yX10_isArray, .static yX10_isArray, .initialized RX10] : List Cond)) [1, 2, 3] rfl (by decide +kernel)) (goodIn_r (.code yX10_isArray cX10_isArray 1 (some .boolean) :: l_z_X10_isArray) [4] rfl (by decide +kernel))
set_option maxHeartbeats 4000000 in
set_option maxRecDepth 100000 in
theorem z_X10_slotsOf (l : Launch) (dC : Nat → ClassId) (dI : Nat → Nat → Nat) (sz : Nat) (Br0 : Nat) (Va0 : Int32) (Va1 : Int32)  (gv_Va0 : (20 : Int) ≤ Va0.toInt ∧ Va0.toInt ≤ 24) (gv_Va1 : (0 : Int) ≤ Va1.toInt ∧ Va1.toInt ≤ 60) : Met l yX10_slotsOf w_z_X10_slotsOf ({ frames := 1, cells := 0, slots := 0, locals := 20 }) (va_Pc [.ref Br0, .int Va0, .int Va1] (fun U => U.heap.size = sz ∧ Wd dC dI [] (fun _ => True) [] U)) (va_Qi (fun (r : Int32) (u : Unit) => (¬ Va0 < 20 ∧ r = Va1)) (fun (u : Unit) t => Wd dC dI [] (va_A [] sz) [] t) (va_A [] sz))  0 0 (va_A [] sz) := by
  refine Met.ofW (cc := cX10_slotsOf) (maxL := 3) (ret := (some .int)) (by decide) rfl ?_
  intro p e s m args below meth c s₁ B hml hv
  obtain ⟨rfl, hsz, hP, hK, hD0⟩ := hv
  have hx := B.exec
  have hb := B.bytes
  have hr := B.returns
  have hts := atoms_spec (ws := w_z_X10_slotsOf) B.pre
  have hown : s.vm.findClass RX10 = some m.cls := findClass_of_methodNamed B.named
  have hlocks := B.notSynchronized
  subst hsz
  have hD := hD0.self (sz := s.heap.size)
  generalize hAe : va_A [] s.heap.size = A at hD ⊢
  have hA : ∀ q : Nat, s.heap.size ≤ q → A q := fun q h => by rw [← hAe]; exact Or.inr h
  have hS : va_S A s.heap s.heap [] := va_S.rf
  have hl := lv_entry ([.ref Br0, .int Va0, .int Va1]) (n := 3) (Nat.le_of_ble_eq_true rfl)
  rw [lg_entry_eq]
  generalize (lg_sl ([.ref Br0, .int Va0, .int Va1]) ++ List.replicate (3 - (lg_sl ([.ref Br0, .int Va0, .int Va1])).length) Slot.unset).toArray = ls at hl ⊢
  have hl : lv_has ls 3 [(0, .ref Br0), (1, .int Va0), (2, .int Va1)] := hl
  refine lv_iload_n hx hb dX10_slotsOf_0 rfl (lv_at hl 1 rfl) ?_
  have hPc := hP.sub (ws' := []) [] rfl
  have hDc := hD.sub (ws' := []) [] (by decide) rfl
  have hKc := hK.sub (tys' := []) [] rfl
  have hFc := va_free (wc := []) hD hS hA [] rfl
  refine va_calli (va_runS (As := [.int Va0]) (rest := []) ⟨hx, hb, hml, hown, hts⟩ (z_X10_isArray l dC dI s.heap.size Va0  ) (cwS 1 hts g_z_X10_slotsOf_z_X10_isArray_86 rfl rfl rfl (by decide +kernel) ⟨Nat.le_of_ble_eq_true rfl, Nat.le_of_ble_eq_true rfl⟩) ⟨fun a U g mk q => by obtain ⟨q0, q1, qP, qK, qD⟩ := q; exact ⟨q0, q1, qP, va_K.moved (u := U) (U := U.calling g mk a) (Vm.Alike.refl U.vm) qK, qD⟩, fun U hU hW => ⟨rfl, by rw [hU], by rw [hU]; exact hPc, va_K.moved hW.alike hKc, hDc.weaken (fun _ _ _ _ => trivial)⟩⟩ rfl rfl hl.1 rfl (lv_room (Nat.le_of_ble_eq_true rfl)) dX10_slotsOf_1 ⟨Nat.le_of_ble_eq_true rfl, Nat.le_of_ble_eq_true rfl⟩) hS (fun q _ h => hFc q h) hFc (fun r101 u t H1 locs ht hvm hw hB hz1 hk1 hS => ?_)
  obtain ⟨hP1, hK1, hD1⟩ := hB
  rw [ht] at hP1
  try dsimp only at hw
  obtain ⟨hP, hD⟩ := va_join (wr := []) (w1 := []) hP hD [] [] rfl rfl (by decide) (by decide) hk1 hFc hP1 hD1
  have hK := hK.sub (tys' := []) [] rfl
  generalize H1 = H at hP hS ⊢
  have hP : va_P (dC, dI) vwCl [] H := hP
  have hD : va_D A [] := hD
  rcases hw with ⟨c102, er103⟩ | ⟨c104, er105⟩
  · exact (by exfalso; (try simp only [i_lt, i_le, i_eq, kc_20] at gv_Va0 c102); omega)
  · skip
    subst er105
    refine lv_if_eq (tgt := 11) hx hb dX10_slotsOf_4 (by decide) (fun c106 => absurd c106 (by decide)) (fun c106 => ?_)
    refine lv_iload_n hx hb dX10_slotsOf_7 rfl (lv_at hl 2 rfl) ?_
    refine lv_goto (tgt := 17) hx hb dX10_slotsOf_8 (by decide) ?_
    have hP9 := hP.sub (ws' := []) [] rfl
    have hD9 := hD.sub (ws' := []) [] (by decide) rfl
    have hK9 := hK.sub (tys' := []) [] rfl
    exact W.iret (v := Va1) hx hb hr (fun t ht hW => ⟨⟨Va1, (), rfl, ⟨c104, rfl⟩, by rw [ht]; exact hP9, va_K.moved hW.alike hK9, hD9⟩, hS.F ht⟩) hS.2.2 dX10_slotsOf_17

def l_z_X2_hasRoom : List Cond := [.fieldLink RX2 47 "HeapWorks$Heap" "made" "I", .fieldLink RX2 62 "HeapWorks$Heap" "slots" "I"]
def w_z_X2_hasRoom : List Cond := .code yX2_hasRoom cX2_hasRoom 3 (some .boolean) :: (l_z_X2_hasRoom ++ (wsX20))
theorem in_z_X2_hasRoom_X2 : ∀ w ∈ wsX20, w ∈ w_z_X2_hasRoom := fun w h => List.mem_cons_of_mem _ (List.mem_append_right _ (h))
set_option maxHeartbeats 4000000 in
set_option maxRecDepth 100000 in
theorem z_X2_hasRoom (l : Launch) (dC : Nat → ClassId) (dI : Nat → Nat → Nat) (sz : Nat) (Ad0 : Nat) (Fs0 : List Value) (Va0 : Int32) (k_Fs0 : fh Fs0 14 [(1, .int 0), (3, .int 0)])  : Met l yX2_hasRoom w_z_X2_hasRoom ({ frames := 0, cells := 0, slots := 0, locals := 0 }) (va_Pc [.ref Ad0, .int 1, .int Va0] (fun U => U.heap.size = sz ∧ Wd dC dI [] (fun _ => True) [(Ad0, .inr (5, Fs0))] U)) (va_Qi (fun (r : Int32) (u : Unit) => (4000 < Va0 ∧ r = 0) ∨ (¬ 4000 < Va0 ∧ r = 1)) (fun (u : Unit) t => Wd dC dI [] (va_A [(Ad0, .inr (5, Fs0))] sz) [(Ad0, .inr (5, Fs0))] t) (va_A [(Ad0, .inr (5, Fs0))] sz))  0 0 (va_A [(Ad0, .inr (5, Fs0))] sz) := by
  refine Met.ofW (cc := cX2_hasRoom) (maxL := 3) (ret := (some .boolean)) (by decide) rfl ?_
  intro p e s m args below meth c s₁ B hml hv
  obtain ⟨rfl, hsz, hP, hK, hD0⟩ := hv
  have hx := B.exec
  have hb := B.bytes
  have hr := B.returns
  have hts := atoms_spec (ws := w_z_X2_hasRoom) B.pre
  have hown : s.vm.findClass RX2 = some m.cls := findClass_of_methodNamed B.named
  have hlocks := B.notSynchronized
  subst hsz
  have hD := hD0.self (sz := s.heap.size)
  generalize hAe : va_A [(Ad0, .inr (5, Fs0))] s.heap.size = A at hD ⊢
  have hA : ∀ q : Nat, s.heap.size ≤ q → A q := fun q h => by rw [← hAe]; exact Or.inr h
  have hS : va_S A s.heap s.heap [] := va_S.rf
  have hl := lv_entry ([.ref Ad0, .int 1, .int Va0]) (n := 3) (Nat.le_of_ble_eq_true rfl)
  rw [lg_entry_eq]
  generalize (lg_sl ([.ref Ad0, .int 1, .int Va0]) ++ List.replicate (3 - (lg_sl ([.ref Ad0, .int 1, .int Va0])).length) Slot.unset).toArray = ls at hl ⊢
  have hl : lv_has ls 3 [(0, .ref Ad0), (1, .int 1), (2, .int Va0)] := hl
  have o_Fs0 := ow_0 k_Fs0
  refine lv_aload_n hx hb dX2_hasRoom_0 rfl (lv_at hl 0 rfl) ?_
  refine va_get (D := (dC, dI)) (ci := 5) (v := .int 0) (C := RX2) (T := TX2) (N := 14) hx hb hts (in_z_X2_hasRoom_X2) hown hK hP 0 rfl rfl 1 (by decide) (hts (.fieldLink RX2 47 "HeapWorks$Heap" "made" "I") (by decide +kernel)) (fun _ h9 => h9) (ow_at o_Fs0 0 rfl) dX2_hasRoom_1 ?_
  refine lv_iload_n hx hb dX2_hasRoom_4 rfl (lv_at hl 1 rfl) ?_
  refine lv_iadd hx hb dX2_hasRoom_5  ?_
  refine lv_topi (fun x101 ex101 => ?_)
  obtain rfl : x101 = 1 := ex101.trans (by decide)
  refine lv_sipush (v := 400) hx hb dX2_hasRoom_6 (by decide) ?_
  refine lv_icmp_gt (tgt := 28) hx hb dX2_hasRoom_9 (by decide) (fun c102 => absurd c102 (by decide)) (fun c102 => ?_)
  refine lv_aload_n hx hb dX2_hasRoom_12 rfl (lv_at hl 0 rfl) ?_
  refine va_get (D := (dC, dI)) (ci := 5) (v := .int 0) (C := RX2) (T := TX2) (N := 14) hx hb hts (in_z_X2_hasRoom_X2) hown hK hP 0 rfl rfl 3 (by decide) (hts (.fieldLink RX2 62 "HeapWorks$Heap" "slots" "I") (by decide +kernel)) (fun _ h9 => h9) (ow_at o_Fs0 1 rfl) dX2_hasRoom_13 ?_
  refine lv_iload_n hx hb dX2_hasRoom_16 rfl (lv_at hl 2 rfl) ?_
  refine lv_iadd hx hb dX2_hasRoom_17  ?_
  refine lv_topi (fun x103 ex103 => ?_)
  obtain rfl : Va0 = x103 := (ex103.trans (Int32.zero_add _)).symm
  refine lv_sipush (v := 4000) hx hb dX2_hasRoom_18 (by decide) ?_
  refine lv_icmp_gt (tgt := 28) hx hb dX2_hasRoom_21 (by decide) (fun c104 => ?_) (fun c104 => ?_)
  · skip
    refine lv_iconst (v := 0) hx hb dX2_hasRoom_28 (by decide) ?_
    have hP9 := hP.sub (ws' := [(Ad0, .inr (5, Fs0))]) [0] rfl
    have hD9 := hD.sub (ws' := [(Ad0, .inr (5, Fs0))]) [0] (by decide) rfl
    have hK9 := hK.sub (tys' := []) [] rfl
    exact W.zret (v := 0) hx hb hr rfl (fun t ht hW => ⟨⟨0, (), rfl, (Or.inl ⟨c104, rfl⟩), by rw [ht]; exact hP9, va_K.moved hW.alike hK9, hD9⟩, hS.F ht⟩) hS.2.2 dX2_hasRoom_29
  · skip
    refine lv_iconst (v := 1) hx hb dX2_hasRoom_24 (by decide) ?_
    refine lv_goto (tgt := 29) hx hb dX2_hasRoom_25 (by decide) ?_
    have hP9 := hP.sub (ws' := [(Ad0, .inr (5, Fs0))]) [0] rfl
    have hD9 := hD.sub (ws' := [(Ad0, .inr (5, Fs0))]) [0] (by decide) rfl
    have hK9 := hK.sub (tys' := []) [] rfl
    exact W.zret (v := 1) hx hb hr rfl (fun t ht hW => ⟨⟨1, (), rfl, (Or.inr (⟨c104, rfl⟩)), by rw [ht]; exact hP9, va_K.moved hW.alike hK9, hD9⟩, hS.F ht⟩) hS.2.2 dX2_hasRoom_29

def l_z_X10_use : List Cond := [.methodLink RX10 69 yX10_isClass, .instanceMethod yX10_isClass, .selects RX10 yX10_isClass yX10_isClass, .initialized RX10, .code yX10_isClass cX10_isClass 2 (some .boolean), .fieldLink RX10 65 "HeapWorks$Types" "count" "I"]
def w_z_X10_use : List Cond := .code yX10_use cX10_use 2 none :: (l_z_X10_use ++ (wsX100))
theorem in_z_X10_use_X10 : ∀ w ∈ wsX100, w ∈ w_z_X10_use := fun w h => List.mem_cons_of_mem _ (List.mem_append_right _ (h))
theorem g_z_X10_use_z_X10_isClass_69 : GoodIn w_z_X10_use (wsV RX10 69 RX10 yX10_isClass w_z_X10_isClass) := goodIn_app (goodIn_r (([.methodLink RX10 69 yX10_isClass, .instanceMethod yX10_isClass, .selects RX10 yX10_isClass yX10_isClass, .initialized RX10] : List Cond)) [1, 2, 3, 4] rfl (by decide +kernel)) (goodIn_ca (goodIn_r (.code yX10_isClass cX10_isClass 2 (some .boolean) :: l_z_X10_isClass) [5, 6] rfl (by decide +kernel)) (goodIn_in (in_z_X10_use_X10) gd_X10))
set_option maxHeartbeats 4000000 in
set_option maxRecDepth 100000 in
theorem z_X10_use (l : Launch) (dC : Nat → ClassId) (dI : Nat → Nat → Nat) (sz : Nat) (Ad0 : Nat) (Fs0 : List Value) (Va0 : Int32) (k_Fs0 : fh Fs0 18 [(0, .int 0)])  : Met l yX10_use w_z_X10_use ({ frames := 1, cells := 0, slots := 0, locals := 21 }) (va_Pc [.ref Ad0, .int Va0] (fun U => U.heap.size = sz ∧ Wd dC dI [] (fun _ => True) [(Ad0, .inr (13, Fs0))] U)) (va_Qv (fun (u : Unit) => Va0 < 0 ∨ (¬ Va0 < 0 ∧ 0 ≤ Va0)) (fun (u : Unit) t => Wd dC dI [] (va_A [(Ad0, .inr (13, Fs0))] sz) [(Ad0, .inr (13, Fs0))] t) (va_A [(Ad0, .inr (13, Fs0))] sz))  0 0 (va_A [(Ad0, .inr (13, Fs0))] sz) := by
  refine Met.ofW (cc := cX10_use) (maxL := 2) (ret := none) (by decide) rfl ?_
  intro p e s m args below meth c s₁ B hml hv
  obtain ⟨rfl, hsz, hP, hK, hD0⟩ := hv
  have hx := B.exec
  have hb := B.bytes
  have hr := B.returns
  have hts := atoms_spec (ws := w_z_X10_use) B.pre
  have hown : s.vm.findClass RX10 = some m.cls := findClass_of_methodNamed B.named
  have hlocks := B.notSynchronized
  subst hsz
  have hD := hD0.self (sz := s.heap.size)
  generalize hAe : va_A [(Ad0, .inr (13, Fs0))] s.heap.size = A at hD ⊢
  have hA : ∀ q : Nat, s.heap.size ≤ q → A q := fun q h => by rw [← hAe]; exact Or.inr h
  have hS : va_S A s.heap s.heap [] := va_S.rf
  have hl := lv_entry ([.ref Ad0, .int Va0]) (n := 2) (Nat.le_of_ble_eq_true rfl)
  rw [lg_entry_eq]
  generalize (lg_sl ([.ref Ad0, .int Va0]) ++ List.replicate (2 - (lg_sl ([.ref Ad0, .int Va0])).length) Slot.unset).toArray = ls at hl ⊢
  have hl : lv_has ls 2 [(0, .ref Ad0), (1, .int Va0)] := hl
  have o_Fs0 := ow_0 k_Fs0
  refine lv_aload_n hx hb dX10_use_0 rfl (lv_at hl 0 rfl) ?_
  refine lv_iload_n hx hb dX10_use_1 rfl (lv_at hl 1 rfl) ?_
  have hPc := hP.sub (ws' := [(Ad0, .inr (13, Fs0))]) [0] rfl
  have hDc := hD.sub (ws' := [(Ad0, .inr (13, Fs0))]) [0] (by decide) rfl
  have hKc := hK.sub (tys' := []) [] rfl
  have hFc := va_free (wc := [(Ad0, .inr (13, Fs0))]) hD hS hA [0] rfl
  refine va_calli (va_runV (As := [.int Va0]) (rest := []) ⟨hx, hb, hml, hown, hts⟩ (z_X10_isClass l dC dI s.heap.size Ad0 Fs0 Va0 (fh_sub o_Fs0.2 [0] rfl) ) (cwV 1 hts g_z_X10_use_z_X10_isClass_69 rfl rfl rfl (by decide +kernel) ⟨Nat.le_of_ble_eq_true rfl, Nat.le_of_ble_eq_true rfl⟩) ⟨fun a U g mk q => by obtain ⟨q0, q1, qP, qK, qD⟩ := q; exact ⟨q0, q1, qP, va_K.moved (u := U) (U := U.calling g mk a) (Vm.Alike.refl U.vm) qK, qD⟩, va_recv hK hP (ci := 13) (q0 := 0) rfl rfl, fun U hU hW => ⟨rfl, by rw [hU], by rw [hU]; exact hPc, va_K.moved hW.alike hKc, hDc.weaken (fun _ _ _ _ => trivial)⟩⟩ rfl rfl hl.1 rfl (lv_room (Nat.le_of_ble_eq_true rfl)) dX10_use_2 ⟨Nat.le_of_ble_eq_true rfl, Nat.le_of_ble_eq_true rfl⟩) hS (fun q _ h => hFc q h) hFc (fun r101 u t H1 locs ht hvm hw hB hz1 hk1 hS => ?_)
  obtain ⟨hP1, hK1, hD1⟩ := hB
  rw [ht] at hP1
  try dsimp only at hw
  obtain ⟨hP, hD⟩ := va_join (wr := []) (w1 := [(Ad0, .inr (13, Fs0))]) hP hD [0] [] rfl rfl (by decide) (by decide) hk1 hFc hP1 hD1
  have hK := hK.sub (tys' := []) [] rfl
  generalize H1 = H at hP hS ⊢
  have hP : va_P (dC, dI) vwCl [(Ad0, .inr (13, Fs0))] H := hP
  have hD : va_D A [(Ad0, .inr (13, Fs0))] := hD
  rcases hw with ⟨c102, er103⟩ | ⟨c104, c105, er106⟩
  · skip
    subst er103
    refine lv_if_eq (tgt := 15) hx hb dX10_use_5 (by decide) (fun c107 => ?_) (fun c107 => absurd c107 (by decide))
    have hP9 := hP.sub (ws' := [(Ad0, .inr (13, Fs0))]) [0] rfl
    have hD9 := hD.sub (ws' := [(Ad0, .inr (13, Fs0))]) [0] (by decide) rfl
    have hK9 := hK.sub (tys' := []) [] rfl
    exact W.vret hx hb hr (fun t ht hW => ⟨⟨(), rfl, (Or.inl c102), by rw [ht]; exact hP9, va_K.moved hW.alike hK9, hD9⟩, hS.F ht⟩) hS.2.2 dX10_use_15
  · skip
    subst er106
    refine lv_if_eq (tgt := 15) hx hb dX10_use_5 (by decide) (fun c108 => ?_) (fun c108 => absurd c108 (by decide))
    have hP9 := hP.sub (ws' := [(Ad0, .inr (13, Fs0))]) [0] rfl
    have hD9 := hD.sub (ws' := [(Ad0, .inr (13, Fs0))]) [0] (by decide) rfl
    have hK9 := hK.sub (tys' := []) [] rfl
    exact W.vret hx hb hr (fun t ht hW => ⟨⟨(), rfl, (Or.inr (⟨c104, c105⟩)), by rw [ht]; exact hP9, va_K.moved hW.alike hK9, hD9⟩, hS.F ht⟩) hS.2.2 dX10_use_15

def l_z_X10_kindAt : List Cond := []
def w_z_X10_kindAt : List Cond := .code yX10_kindAt cX10_kindAt 3 (some .int) :: (l_z_X10_kindAt)
set_option maxHeartbeats 4000000 in
set_option maxRecDepth 100000 in
theorem z_X10_kindAt (l : Launch) (dC : Nat → ClassId) (dI : Nat → Nat → Nat) (sz : Nat) (Br0 : Nat) (Va0 : Int32) (Va1 : Int32)  (gv_Va0 : (20 : Int) ≤ Va0.toInt ∧ Va0.toInt ≤ 24) (gv_Va1 : (0 : Int) ≤ Va1.toInt ∧ Va1.toInt ≤ 59) : Met l yX10_kindAt w_z_X10_kindAt ({ frames := 0, cells := 0, slots := 0, locals := 0 }) (va_Pc [.ref Br0, .int Va0, .int Va1] (fun U => U.heap.size = sz ∧ Wd dC dI [] (fun _ => True) [] U)) (va_Qi (fun (r : Int32) (u : Unit) => (Va0 < 29 ∧ ¬ Va0 < 20 ∧ r = (Va0 - 20))) (fun (u : Unit) t => Wd dC dI [] (va_A [] sz) [] t) (va_A [] sz))  0 0 (va_A [] sz) := by
  refine Met.ofW (cc := cX10_kindAt) (maxL := 3) (ret := (some .int)) (by decide) rfl ?_
  intro p e s m args below meth c s₁ B hml hv
  obtain ⟨rfl, hsz, hP, hK, hD0⟩ := hv
  have hx := B.exec
  have hb := B.bytes
  have hr := B.returns
  have hts := atoms_spec (ws := w_z_X10_kindAt) B.pre
  have hown : s.vm.findClass RX10 = some m.cls := findClass_of_methodNamed B.named
  have hlocks := B.notSynchronized
  subst hsz
  have hD := hD0.self (sz := s.heap.size)
  generalize hAe : va_A [] s.heap.size = A at hD ⊢
  have hA : ∀ q : Nat, s.heap.size ≤ q → A q := fun q h => by rw [← hAe]; exact Or.inr h
  have hS : va_S A s.heap s.heap [] := va_S.rf
  have hl := lv_entry ([.ref Br0, .int Va0, .int Va1]) (n := 3) (Nat.le_of_ble_eq_true rfl)
  rw [lg_entry_eq]
  generalize (lg_sl ([.ref Br0, .int Va0, .int Va1]) ++ List.replicate (3 - (lg_sl ([.ref Br0, .int Va0, .int Va1])).length) Slot.unset).toArray = ls at hl ⊢
  have hl : lv_has ls 3 [(0, .ref Br0), (1, .int Va0), (2, .int Va1)] := hl
  refine lv_iload_n hx hb dX10_kindAt_0 rfl (lv_at hl 1 rfl) ?_
  refine lv_bipush (v := 29) hx hb dX10_kindAt_1 (by decide) ?_
  refine lv_icmp_lt (tgt := 8) hx hb dX10_kindAt_3 (by decide) (fun c101 => ?_) (fun c101 => (by exfalso; have bd_Va0 := i_bd Va0; (try simp only [i_lt, i_le, i_eq, kc_29] at gv_Va0 c101); omega))
  refine lv_iload_n hx hb dX10_kindAt_8 rfl (lv_at hl 1 rfl) ?_
  refine lv_bipush (v := 20) hx hb dX10_kindAt_9 (by decide) ?_
  refine lv_icmp_lt (tgt := 21) hx hb dX10_kindAt_11 (by decide) (fun c102 => (by exfalso; have bd_Va0 := i_bd Va0; (try simp only [i_lt, i_le, i_eq, kc_29, kc_20] at gv_Va0 c101 c102); omega)) (fun c102 => ?_)
  refine lv_iload_n hx hb dX10_kindAt_14 rfl (lv_at hl 1 rfl) ?_
  refine lv_bipush (v := 20) hx hb dX10_kindAt_15 (by decide) ?_
  refine lv_isub hx hb dX10_kindAt_17  ?_
  refine lv_topi (fun x103 ex103 => ?_)
  have tx103 : x103.toInt = (Va0 : Int32).toInt - (20 : Int32).toInt := by rw [ex103]; exact i_sub (by have bd_Va0 := i_bd Va0; (try simp only [i_lt, i_le, i_eq, kc_29, kc_20] at gv_Va0 c101 c102 ⊢); omega) (by have bd_Va0 := i_bd Va0; (try simp only [i_lt, i_le, i_eq, kc_29, kc_20] at gv_Va0 c101 c102 ⊢); omega)
  refine lv_goto (tgt := 32) hx hb dX10_kindAt_18 (by decide) ?_
  have hP9 := hP.sub (ws' := []) [] rfl
  have hD9 := hD.sub (ws' := []) [] (by decide) rfl
  have hK9 := hK.sub (tys' := []) [] rfl
  exact W.iret (v := x103) hx hb hr (fun t ht hW => ⟨⟨x103, (), rfl, ⟨c101, c102, (by subst_vars; rfl)⟩, by rw [ht]; exact hP9, va_K.moved hW.alike hK9, hD9⟩, hS.F ht⟩) hS.2.2 dX10_kindAt_32

def l_z_X10_firstValue : List Cond := [.constantLong RX10 96 (-1)]
def w_z_X10_firstValue : List Cond := .code yX10_firstValue cX10_firstValue 1 (some .long) :: (l_z_X10_firstValue)
set_option maxHeartbeats 4000000 in
set_option maxRecDepth 100000 in
theorem z_X10_firstValue (l : Launch) (dC : Nat → ClassId) (dI : Nat → Nat → Nat) (sz : Nat) (Va0 : Int32)   : Met l yX10_firstValue w_z_X10_firstValue ({ frames := 0, cells := 0, slots := 0, locals := 0 }) (va_Pc [.int Va0] (fun U => U.heap.size = sz ∧ Wd dC dI [] (fun _ => True) [] U)) (va_Ql (fun (r : Int64) (u : Unit) => (¬ Va0 = 5 ∧ r = 0) ∨ (Va0 = 5 ∧ r = (-1))) (fun (u : Unit) t => Wd dC dI [] (va_A [] sz) [] t) (va_A [] sz))  0 0 (va_A [] sz) := by
  refine Met.ofW (cc := cX10_firstValue) (maxL := 1) (ret := (some .long)) (by decide) rfl ?_
  intro p e s m args below meth c s₁ B hml hv
  obtain ⟨rfl, hsz, hP, hK, hD0⟩ := hv
  have hx := B.exec
  have hb := B.bytes
  have hr := B.returns
  have hts := atoms_spec (ws := w_z_X10_firstValue) B.pre
  have hown : s.vm.findClass RX10 = some m.cls := findClass_of_methodNamed B.named
  have hlocks := B.notSynchronized
  subst hsz
  have hD := hD0.self (sz := s.heap.size)
  generalize hAe : va_A [] s.heap.size = A at hD ⊢
  have hA : ∀ q : Nat, s.heap.size ≤ q → A q := fun q h => by rw [← hAe]; exact Or.inr h
  have hS : va_S A s.heap s.heap [] := va_S.rf
  have hl := lv_entry ([.int Va0]) (n := 1) (Nat.le_of_ble_eq_true rfl)
  rw [lg_entry_eq]
  generalize (lg_sl ([.int Va0]) ++ List.replicate (1 - (lg_sl ([.int Va0])).length) Slot.unset).toArray = ls at hl ⊢
  have hl : lv_has ls 1 [(0, .int Va0)] := hl
  refine lv_iload_n hx hb dX10_firstValue_0 rfl (lv_at hl 0 rfl) ?_
  refine lv_iconst (v := 5) hx hb dX10_firstValue_1 (by decide) ?_
  refine lv_icmp_ne (tgt := 11) hx hb dX10_firstValue_2 (by decide) (fun c101 => ?_) (fun c101 => ?_)
  · skip
    refine lv_lconst (v := 0) hx hb dX10_firstValue_11 (by decide) ?_
    have hP9 := hP.sub (ws' := []) [] rfl
    have hD9 := hD.sub (ws' := []) [] (by decide) rfl
    have hK9 := hK.sub (tys' := []) [] rfl
    exact W.lret (v := 0) hx hb hr (fun t ht hW => ⟨⟨0, (), rfl, (Or.inl ⟨c101, rfl⟩), by rw [ht]; exact hP9, va_K.moved hW.alike hK9, hD9⟩, hS.F ht⟩) hS.2.2 dX10_firstValue_12
  · skip
    refine lv_ldc2 (v := (-1)) hx hb hown (hts (.constantLong RX10 96 (-1)) (by decide +kernel)) dX10_firstValue_5 ?_
    refine lv_goto (tgt := 12) hx hb dX10_firstValue_8 (by decide) ?_
    have hP9 := hP.sub (ws' := []) [] rfl
    have hD9 := hD.sub (ws' := []) [] (by decide) rfl
    have hK9 := hK.sub (tys' := []) [] rfl
    exact W.lret (v := (-1)) hx hb hr (fun t ht hW => ⟨⟨(-1), (), rfl, (Or.inr (⟨c101, rfl⟩)), by rw [ht]; exact hP9, va_K.moved hW.alike hK9, hD9⟩, hS.F ht⟩) hS.2.2 dX10_firstValue_12

def l_z_X2_create : List Cond := [.fieldLink RX2 47 "HeapWorks$Heap" "made" "I", .fieldLink RX2 75 "HeapWorks$Heap" "there" "I", .fieldLink RX2 15 "HeapWorks$Heap" "type" "[I", .fieldLink RX2 19 "HeapWorks$Heap" "length" "[I", .fieldLink RX2 22 "HeapWorks$Heap" "first" "[I", .fieldLink RX2 62 "HeapWorks$Heap" "slots" "I", .fieldLink RX2 9 "HeapWorks$Heap" "types" "LHeapWorks$Types;", .methodLink RX2 78 yX10_use, .instanceMethod yX10_use, .selects RX10 yX10_use yX10_use, .initialized RX10, .methodLink RX2 51 yX10_slotsOf, .instanceMethod yX10_slotsOf, .selects RX10 yX10_slotsOf yX10_slotsOf, .methodLink RX2 82 yX10_kindAt, .instanceMethod yX10_kindAt, .selects RX10 yX10_kindAt yX10_kindAt, .fieldLink RX2 29 "HeapWorks$Heap" "link" "[Z", .fieldLink RX2 25 "HeapWorks$Heap" "value" "[J", .methodLink RX2 85 yX10_firstValue, .static yX10_firstValue, .code yX10_use cX10_use 2 none, .methodLink RX10 69 yX10_isClass, .instanceMethod yX10_isClass, .selects RX10 yX10_isClass yX10_isClass, .code yX10_isClass cX10_isClass 2 (some .boolean), .fieldLink RX10 65 "HeapWorks$Types" "count" "I", .code yX10_slotsOf cX10_slotsOf 3 (some .int), .methodLink RX10 86 yX10_isArray, .static yX10_isArray, .code yX10_isArray cX10_isArray 1 (some .boolean), .code yX10_kindAt cX10_kindAt 3 (some .int), .code yX10_firstValue cX10_firstValue 1 (some .long), .constantLong RX10 96 (-1)]
def w_z_X2_create : List Cond := .code yX2_create cX2_create 7 (some .int) :: (l_z_X2_create ++ ((wsX20 ++ wsX100)))
theorem in_z_X2_create_X2 : ∀ w ∈ wsX20, w ∈ w_z_X2_create := fun w h => List.mem_cons_of_mem _ (List.mem_append_right _ (List.mem_append_left _ h))
theorem in_z_X2_create_X10 : ∀ w ∈ wsX100, w ∈ w_z_X2_create := fun w h => List.mem_cons_of_mem _ (List.mem_append_right _ (List.mem_append_right _ (h)))
theorem g_z_X2_create_z_X10_use_78 : GoodIn w_z_X2_create (wsV RX2 78 RX10 yX10_use w_z_X10_use) := goodIn_app (goodIn_r (([.methodLink RX2 78 yX10_use, .instanceMethod yX10_use, .selects RX10 yX10_use yX10_use, .initialized RX10] : List Cond)) [8, 9, 10, 11] rfl (by decide +kernel)) (goodIn_ca (goodIn_r (.code yX10_use cX10_use 2 none :: l_z_X10_use) [22, 23, 24, 25, 11, 26, 27] rfl (by decide +kernel)) (goodIn_in (in_z_X2_create_X10) gd_X10))
theorem g_z_X2_create_z_X10_slotsOf_51 : GoodIn w_z_X2_create (wsV RX2 51 RX10 yX10_slotsOf w_z_X10_slotsOf) := goodIn_app (goodIn_r (([.methodLink RX2 51 yX10_slotsOf, .instanceMethod yX10_slotsOf, .selects RX10 yX10_slotsOf yX10_slotsOf, .initialized RX10] : List Cond)) [12, 13, 14, 11] rfl (by decide +kernel)) (goodIn_r (.code yX10_slotsOf cX10_slotsOf 3 (some .int) :: l_z_X10_slotsOf) [28, 29, 30, 11, 31] rfl (by decide +kernel))
theorem g_z_X2_create_z_X10_kindAt_82 : GoodIn w_z_X2_create (wsV RX2 82 RX10 yX10_kindAt w_z_X10_kindAt) := goodIn_app (goodIn_r (([.methodLink RX2 82 yX10_kindAt, .instanceMethod yX10_kindAt, .selects RX10 yX10_kindAt yX10_kindAt, .initialized RX10] : List Cond)) [15, 16, 17, 11] rfl (by decide +kernel)) (goodIn_r (.code yX10_kindAt cX10_kindAt 3 (some .int) :: l_z_X10_kindAt) [32] rfl (by decide +kernel))
theorem g_z_X2_create_z_X10_firstValue_85 : GoodIn w_z_X2_create (va_wsS RX2 85 yX10_firstValue w_z_X10_firstValue) := goodIn_app (goodIn_r (([.methodLink RX2 85 yX10_firstValue, .static yX10_firstValue, .initialized RX10] : List Cond)) [20, 21, 11] rfl (by decide +kernel)) (goodIn_r (.code yX10_firstValue cX10_firstValue 1 (some .long) :: l_z_X10_firstValue) [33, 34] rfl (by decide +kernel))
set_option maxHeartbeats 4000000 in
set_option maxRecDepth 100000 in
theorem z_X2_create (l : Launch) (dC : Nat → ClassId) (dI : Nat → Nat → Nat) (sz : Nat) (Ad0 : Nat) (Fa0 : Nat → Int32) (Ka0 : ClassId) (Ad1 : Nat) (Fa1 : Nat → Int32) (Ka1 : ClassId) (Ad2 : Nat) (Fa2 : Nat → Int32) (Ka2 : ClassId) (Ad3 : Nat) (Fa3 : Nat → Int64) (Ka3 : ClassId) (Ad4 : Nat) (Fa4 : Nat → Int32) (Ka4 : ClassId) (Ad5 : Nat) (Fs0 : List Value) (Ad6 : Nat) (Fs1 : List Value) (Va0 : Int32) (Va1 : Int32) (k_Fs0 : fh Fs0 18 [(0, .int 0)]) (k_Fs1 : fh Fs1 14 [(0, .ref Ad5), (1, .int 0), (2, .int 0), (3, .int 0), (4, .ref Ad0), (5, .ref Ad1), (6, .ref Ad2), (7, .ref Ad3), (8, .ref Ad4)]) (gv_Va0 : (20 : Int) ≤ Va0.toInt ∧ Va0.toInt ≤ 24) (gv_Va1 : (0 : Int) ≤ Va1.toInt ∧ Va1.toInt ≤ 60) : Met l yX2_create w_z_X2_create ({ frames := 2, cells := 0, slots := 0, locals := 42 }) (va_Pc [.ref Ad6, .int Va0, .int Va1] (fun U => U.heap.size = sz ∧ Wd dC dI [(Ka0, .int), (Ka1, .int), (Ka2, .int), (Ka3, .long), (Ka4, .boolean)] (fun _ => True) [(Ad0, .inl (Ka0, 400, .inl Fa0)), (Ad1, .inl (Ka1, 400, .inl Fa1)), (Ad2, .inl (Ka2, 400, .inl Fa2)), (Ad3, .inl (Ka3, 4000, .inr (.inl Fa3))), (Ad4, .inl (Ka4, 4000, .inl Fa4)), (Ad5, .inr (13, Fs0)), (Ad6, .inr (5, Fs1))] U)) (va_Qi (fun (r : Int32) (u : (Nat → Int32) × (Nat → Int32) × (Nat → Int32) × (Nat → Int64) × (Nat → Int32) × List Value) => (¬ Va0 < 0 ∧ 0 ≤ Va0 ∧ ¬ Va0 < 20 ∧ r = 0 ∧ ow Fs1 (u.2.2.2.2.2) 14 [1, 2, 3] [(0, .ref Ad5), (4, .ref Ad0), (5, .ref Ad1), (6, .ref Ad2), (7, .ref Ad3), (8, .ref Ad4)] ∧ (u.1) (0 : Int32).toNatClampNeg = Va0 ∧ (u.2.1) (0 : Int32).toNatClampNeg = Va1 ∧ (u.2.2.1) (0 : Int32).toNatClampNeg = 0)) (fun (u : (Nat → Int32) × (Nat → Int32) × (Nat → Int32) × (Nat → Int64) × (Nat → Int32) × List Value) t => Wd dC dI [(Ka0, .int), (Ka1, .int), (Ka2, .int), (Ka3, .long), (Ka4, .boolean)] (va_A [(Ad0, .inl (Ka0, 400, .inl Fa0)), (Ad1, .inl (Ka1, 400, .inl Fa1)), (Ad2, .inl (Ka2, 400, .inl Fa2)), (Ad3, .inl (Ka3, 4000, .inr (.inl Fa3))), (Ad4, .inl (Ka4, 4000, .inl Fa4)), (Ad5, .inr (13, Fs0)), (Ad6, .inr (5, Fs1))] sz) [(Ad0, .inl (Ka0, 400, .inl ((u.1)))), (Ad1, .inl (Ka1, 400, .inl ((u.2.1)))), (Ad2, .inl (Ka2, 400, .inl ((u.2.2.1)))), (Ad3, .inl (Ka3, 4000, .inr (.inl ((u.2.2.2.1))))), (Ad4, .inl (Ka4, 4000, .inl ((u.2.2.2.2.1)))), (Ad5, .inr (13, Fs0)), (Ad6, .inr (5, (u.2.2.2.2.2)))] t) (va_A [(Ad0, .inl (Ka0, 400, .inl Fa0)), (Ad1, .inl (Ka1, 400, .inl Fa1)), (Ad2, .inl (Ka2, 400, .inl Fa2)), (Ad3, .inl (Ka3, 4000, .inr (.inl Fa3))), (Ad4, .inl (Ka4, 4000, .inl Fa4)), (Ad5, .inr (13, Fs0)), (Ad6, .inr (5, Fs1))] sz))  0 0 (va_A [(Ad0, .inl (Ka0, 400, .inl Fa0)), (Ad1, .inl (Ka1, 400, .inl Fa1)), (Ad2, .inl (Ka2, 400, .inl Fa2)), (Ad3, .inl (Ka3, 4000, .inr (.inl Fa3))), (Ad4, .inl (Ka4, 4000, .inl Fa4)), (Ad5, .inr (13, Fs0)), (Ad6, .inr (5, Fs1))] sz) := by
  refine Met.ofW (cc := cX2_create) (maxL := 7) (ret := (some .int)) (by decide) rfl ?_
  intro p e s m args below meth c s₁ B hml hv
  obtain ⟨rfl, hsz, hP, hK, hD0⟩ := hv
  have hx := B.exec
  have hb := B.bytes
  have hr := B.returns
  have hts := atoms_spec (ws := w_z_X2_create) B.pre
  have hown : s.vm.findClass RX2 = some m.cls := findClass_of_methodNamed B.named
  have hlocks := B.notSynchronized
  subst hsz
  have hD := hD0.self (sz := s.heap.size)
  generalize hAe : va_A [(Ad0, .inl (Ka0, 400, .inl Fa0)), (Ad1, .inl (Ka1, 400, .inl Fa1)), (Ad2, .inl (Ka2, 400, .inl Fa2)), (Ad3, .inl (Ka3, 4000, .inr (.inl Fa3))), (Ad4, .inl (Ka4, 4000, .inl Fa4)), (Ad5, .inr (13, Fs0)), (Ad6, .inr (5, Fs1))] s.heap.size = A at hD ⊢
  have hA : ∀ q : Nat, s.heap.size ≤ q → A q := fun q h => by rw [← hAe]; exact Or.inr h
  have hS : va_S A s.heap s.heap [] := va_S.rf
  have hl := lv_entry ([.ref Ad6, .int Va0, .int Va1]) (n := 7) (Nat.le_of_ble_eq_true rfl)
  rw [lg_entry_eq]
  generalize (lg_sl ([.ref Ad6, .int Va0, .int Va1]) ++ List.replicate (7 - (lg_sl ([.ref Ad6, .int Va0, .int Va1])).length) Slot.unset).toArray = ls at hl ⊢
  have hl : lv_has ls 7 [(0, .ref Ad6), (1, .int Va0), (2, .int Va1)] := hl
  have o_Fs0 := ow_0 k_Fs0
  have o_Fs1 := ow_0 k_Fs1
  refine lv_aload_n hx hb dX2_create_0 rfl (lv_at hl 0 rfl) ?_
  refine va_get (D := (dC, dI)) (ci := 5) (v := .int 0) (C := RX2) (T := TX2) (N := 14) hx hb hts (in_z_X2_create_X2) hown hK hP 6 rfl rfl 1 (by decide) (hts (.fieldLink RX2 47 "HeapWorks$Heap" "made" "I") (by decide +kernel)) (fun _ h9 => h9) (ow_at o_Fs1 1 rfl) dX2_create_1 ?_
  refine lv_istore_n (lv' := [(3, .int 0), (0, .ref Ad6), (1, .int Va0), (2, .int Va1)]) hx hb dX2_create_4 rfl hl (by decide) rfl (fun ls hl => ?_)
  refine lv_aload_n hx hb dX2_create_5 rfl (lv_at hl 1 rfl) ?_
  refine lv_dup hx hb dX2_create_6 rfl ?_
  refine va_get (D := (dC, dI)) (ci := 5) (v := .int 0) (C := RX2) (T := TX2) (N := 14) hx hb hts (in_z_X2_create_X2) hown hK hP 6 rfl rfl 1 (by decide) (hts (.fieldLink RX2 47 "HeapWorks$Heap" "made" "I") (by decide +kernel)) (fun _ h9 => h9) (ow_at o_Fs1 1 rfl) dX2_create_7 ?_
  refine lv_iconst (v := 1) hx hb dX2_create_10 (by decide) ?_
  refine lv_iadd hx hb dX2_create_11  ?_
  refine lv_topi (fun x101 ex101 => ?_)
  obtain rfl : x101 = 1 := ex101.trans (by decide)
  refine va_put (D := (dC, dI)) (ci := 5) (v := .int 1) (ty := .int) (C := RX2) (T := TX2) (N := 14) hx hb hts (in_z_X2_create_X2) tyX2 tyX2_ok nmX2 hown hK hP hD hS 6 rfl rfl 1 (by decide) (hts (.fieldLink RX2 47 "HeapWorks$Heap" "made" "I") (by decide +kernel)) (fun _ h9 => h9) rfl (by decide +kernel) rfl rfl (by rw [o_Fs1.2.1]; decide) dX2_create_12 (fun H locs hP hD hS => ?_)
  have hP : va_P (dC, dI) vwCl [(Ad0, .inl (Ka0, 400, .inl Fa0)), (Ad1, .inl (Ka1, 400, .inl Fa1)), (Ad2, .inl (Ka2, 400, .inl Fa2)), (Ad3, .inl (Ka3, 4000, .inr (.inl Fa3))), (Ad4, .inl (Ka4, 4000, .inl Fa4)), (Ad5, .inr (13, Fs0)), (Ad6, .inr (5, (Fs1.set 1 (.int 1))))] H := hP
  have hD : va_D A [(Ad0, .inl (Ka0, 400, .inl Fa0)), (Ad1, .inl (Ka1, 400, .inl Fa1)), (Ad2, .inl (Ka2, 400, .inl Fa2)), (Ad3, .inl (Ka3, 4000, .inr (.inl Fa3))), (Ad4, .inl (Ka4, 4000, .inl Fa4)), (Ad5, .inr (13, Fs0)), (Ad6, .inr (5, (Fs1.set 1 (.int 1))))] := hD
  have o_s102 := ow_set o_Fs1 1 (.int 1) (by decide) (l' := [(1, .int 1), (0, .ref Ad5), (2, .int 0), (3, .int 0), (4, .ref Ad0), (5, .ref Ad1), (6, .ref Ad2), (7, .ref Ad3), (8, .ref Ad4)]) (w' := [1]) rfl rfl
  generalize (Fs1.set 1 (.int 1)) = s102 at hP hD o_s102
  refine lv_aload_n hx hb dX2_create_15 rfl (lv_at hl 1 rfl) ?_
  refine lv_dup hx hb dX2_create_16 rfl ?_
  refine va_get (D := (dC, dI)) (ci := 5) (v := .int 0) (C := RX2) (T := TX2) (N := 14) hx hb hts (in_z_X2_create_X2) hown hK hP 6 rfl rfl 2 (by decide) (hts (.fieldLink RX2 75 "HeapWorks$Heap" "there" "I") (by decide +kernel)) (fun _ h9 => h9) (ow_at o_s102 2 rfl) dX2_create_17 ?_
  refine lv_iconst (v := 1) hx hb dX2_create_20 (by decide) ?_
  refine lv_iadd hx hb dX2_create_21  ?_
  refine lv_topi (fun x103 ex103 => ?_)
  obtain rfl : x103 = 1 := ex103.trans (by decide)
  refine va_put (D := (dC, dI)) (ci := 5) (v := .int 1) (ty := .int) (C := RX2) (T := TX2) (N := 14) hx hb hts (in_z_X2_create_X2) tyX2 tyX2_ok nmX2 hown hK hP hD hS 6 rfl rfl 2 (by decide) (hts (.fieldLink RX2 75 "HeapWorks$Heap" "there" "I") (by decide +kernel)) (fun _ h9 => h9) rfl (by decide +kernel) rfl rfl (by rw [o_s102.2.1]; decide) dX2_create_22 (fun H locs hP hD hS => ?_)
  have hP : va_P (dC, dI) vwCl [(Ad0, .inl (Ka0, 400, .inl Fa0)), (Ad1, .inl (Ka1, 400, .inl Fa1)), (Ad2, .inl (Ka2, 400, .inl Fa2)), (Ad3, .inl (Ka3, 4000, .inr (.inl Fa3))), (Ad4, .inl (Ka4, 4000, .inl Fa4)), (Ad5, .inr (13, Fs0)), (Ad6, .inr (5, (s102.set 2 (.int 1))))] H := hP
  have hD : va_D A [(Ad0, .inl (Ka0, 400, .inl Fa0)), (Ad1, .inl (Ka1, 400, .inl Fa1)), (Ad2, .inl (Ka2, 400, .inl Fa2)), (Ad3, .inl (Ka3, 4000, .inr (.inl Fa3))), (Ad4, .inl (Ka4, 4000, .inl Fa4)), (Ad5, .inr (13, Fs0)), (Ad6, .inr (5, (s102.set 2 (.int 1))))] := hD
  have o_s104 := ow_set o_s102 2 (.int 1) (by decide) (l' := [(2, .int 1), (1, .int 1), (0, .ref Ad5), (3, .int 0), (4, .ref Ad0), (5, .ref Ad1), (6, .ref Ad2), (7, .ref Ad3), (8, .ref Ad4)]) (w' := [2, 1]) rfl rfl
  generalize (s102.set 2 (.int 1)) = s104 at hP hD o_s104
  refine lv_aload_n hx hb dX2_create_25 rfl (lv_at hl 1 rfl) ?_
  refine va_get (D := (dC, dI)) (ci := 5) (v := .ref Ad0) (C := RX2) (T := TX2) (N := 14) hx hb hts (in_z_X2_create_X2) hown hK hP 6 rfl rfl 4 (by decide) (hts (.fieldLink RX2 15 "HeapWorks$Heap" "type" "[I") (by decide +kernel)) (fun _ h9 => h9) (ow_at o_s104 4 rfl) dX2_create_26 ?_
  refine lv_iload_n hx hb dX2_create_29 rfl (lv_at hl 0 rfl) ?_
  refine lv_iload_n hx hb dX2_create_30 rfl (lv_at hl 2 rfl) ?_
  refine va_iast hx hb hK hP hD hS 0 0 rfl rfl (show vp_in 0 400 from by unfold vp_in; decide) dX2_create_31 (fun H locs hP hD hS => ?_)
  have hP : va_P (dC, dI) vwCl [(Ad0, .inl (Ka0, 400, .inl (upd Fa0 (0 : Int32).toNatClampNeg Va0))), (Ad1, .inl (Ka1, 400, .inl Fa1)), (Ad2, .inl (Ka2, 400, .inl Fa2)), (Ad3, .inl (Ka3, 4000, .inr (.inl Fa3))), (Ad4, .inl (Ka4, 4000, .inl Fa4)), (Ad5, .inr (13, Fs0)), (Ad6, .inr (5, s104))] H := hP
  have hD : va_D A [(Ad0, .inl (Ka0, 400, .inl (upd Fa0 (0 : Int32).toNatClampNeg Va0))), (Ad1, .inl (Ka1, 400, .inl Fa1)), (Ad2, .inl (Ka2, 400, .inl Fa2)), (Ad3, .inl (Ka3, 4000, .inr (.inl Fa3))), (Ad4, .inl (Ka4, 4000, .inl Fa4)), (Ad5, .inr (13, Fs0)), (Ad6, .inr (5, s104))] := hD
  have q106 : (upd Fa0 (0 : Int32).toNatClampNeg Va0) (0 : Int32).toNatClampNeg = Va0 := pk_us
  generalize upd Fa0 (0 : Int32).toNatClampNeg Va0 = f105 at hP hD q106
  refine lv_aload_n hx hb dX2_create_32 rfl (lv_at hl 1 rfl) ?_
  refine va_get (D := (dC, dI)) (ci := 5) (v := .ref Ad1) (C := RX2) (T := TX2) (N := 14) hx hb hts (in_z_X2_create_X2) hown hK hP 6 rfl rfl 5 (by decide) (hts (.fieldLink RX2 19 "HeapWorks$Heap" "length" "[I") (by decide +kernel)) (fun _ h9 => h9) (ow_at o_s104 5 rfl) dX2_create_33 ?_
  refine lv_iload_n hx hb dX2_create_36 rfl (lv_at hl 0 rfl) ?_
  refine lv_iload_n hx hb dX2_create_37 rfl (lv_at hl 3 rfl) ?_
  refine va_iast hx hb hK hP hD hS 1 1 rfl rfl (show vp_in 0 400 from by unfold vp_in; decide) dX2_create_38 (fun H locs hP hD hS => ?_)
  have hP : va_P (dC, dI) vwCl [(Ad0, .inl (Ka0, 400, .inl f105)), (Ad1, .inl (Ka1, 400, .inl (upd Fa1 (0 : Int32).toNatClampNeg Va1))), (Ad2, .inl (Ka2, 400, .inl Fa2)), (Ad3, .inl (Ka3, 4000, .inr (.inl Fa3))), (Ad4, .inl (Ka4, 4000, .inl Fa4)), (Ad5, .inr (13, Fs0)), (Ad6, .inr (5, s104))] H := hP
  have hD : va_D A [(Ad0, .inl (Ka0, 400, .inl f105)), (Ad1, .inl (Ka1, 400, .inl (upd Fa1 (0 : Int32).toNatClampNeg Va1))), (Ad2, .inl (Ka2, 400, .inl Fa2)), (Ad3, .inl (Ka3, 4000, .inr (.inl Fa3))), (Ad4, .inl (Ka4, 4000, .inl Fa4)), (Ad5, .inr (13, Fs0)), (Ad6, .inr (5, s104))] := hD
  have q108 : (upd Fa1 (0 : Int32).toNatClampNeg Va1) (0 : Int32).toNatClampNeg = Va1 := pk_us
  generalize upd Fa1 (0 : Int32).toNatClampNeg Va1 = f107 at hP hD q108
  refine lv_aload_n hx hb dX2_create_39 rfl (lv_at hl 1 rfl) ?_
  refine va_get (D := (dC, dI)) (ci := 5) (v := .ref Ad2) (C := RX2) (T := TX2) (N := 14) hx hb hts (in_z_X2_create_X2) hown hK hP 6 rfl rfl 6 (by decide) (hts (.fieldLink RX2 22 "HeapWorks$Heap" "first" "[I") (by decide +kernel)) (fun _ h9 => h9) (ow_at o_s104 6 rfl) dX2_create_40 ?_
  refine lv_iload_n hx hb dX2_create_43 rfl (lv_at hl 0 rfl) ?_
  refine lv_aload_n hx hb dX2_create_44 rfl (lv_at hl 1 rfl) ?_
  refine va_get (D := (dC, dI)) (ci := 5) (v := .int 0) (C := RX2) (T := TX2) (N := 14) hx hb hts (in_z_X2_create_X2) hown hK hP 6 rfl rfl 3 (by decide) (hts (.fieldLink RX2 62 "HeapWorks$Heap" "slots" "I") (by decide +kernel)) (fun _ h9 => h9) (ow_at o_s104 3 rfl) dX2_create_45 ?_
  refine va_iast hx hb hK hP hD hS 2 2 rfl rfl (show vp_in 0 400 from by unfold vp_in; decide) dX2_create_48 (fun H locs hP hD hS => ?_)
  have hP : va_P (dC, dI) vwCl [(Ad0, .inl (Ka0, 400, .inl f105)), (Ad1, .inl (Ka1, 400, .inl f107)), (Ad2, .inl (Ka2, 400, .inl (upd Fa2 (0 : Int32).toNatClampNeg 0))), (Ad3, .inl (Ka3, 4000, .inr (.inl Fa3))), (Ad4, .inl (Ka4, 4000, .inl Fa4)), (Ad5, .inr (13, Fs0)), (Ad6, .inr (5, s104))] H := hP
  have hD : va_D A [(Ad0, .inl (Ka0, 400, .inl f105)), (Ad1, .inl (Ka1, 400, .inl f107)), (Ad2, .inl (Ka2, 400, .inl (upd Fa2 (0 : Int32).toNatClampNeg 0))), (Ad3, .inl (Ka3, 4000, .inr (.inl Fa3))), (Ad4, .inl (Ka4, 4000, .inl Fa4)), (Ad5, .inr (13, Fs0)), (Ad6, .inr (5, s104))] := hD
  have q110 : (upd Fa2 (0 : Int32).toNatClampNeg 0) (0 : Int32).toNatClampNeg = 0 := pk_us
  generalize upd Fa2 (0 : Int32).toNatClampNeg 0 = f109 at hP hD q110
  refine lv_aload_n hx hb dX2_create_49 rfl (lv_at hl 1 rfl) ?_
  refine va_get (D := (dC, dI)) (ci := 5) (v := .ref Ad5) (C := RX2) (T := TX2) (N := 14) hx hb hts (in_z_X2_create_X2) hown hK hP 6 rfl rfl 0 (by decide) (hts (.fieldLink RX2 9 "HeapWorks$Heap" "types" "LHeapWorks$Types;") (by decide +kernel)) (fun _ h9 => h9) (ow_at o_s104 2 rfl) dX2_create_50 ?_
  refine lv_iload_n hx hb dX2_create_53 rfl (lv_at hl 2 rfl) ?_
  have hPc := hP.sub (ws' := [(Ad5, .inr (13, Fs0))]) [5] rfl
  have hDc := hD.sub (ws' := [(Ad5, .inr (13, Fs0))]) [5] (by decide) rfl
  have hKc := hK.sub (tys' := []) [] rfl
  have hFc := va_free (wc := [(Ad5, .inr (13, Fs0))]) hD hS hA [5] rfl
  refine va_callv (va_runV (As := [.int Va0]) (rest := []) ⟨hx, hb, hml, hown, hts⟩ (z_X10_use l dC dI H.size Ad5 Fs0 Va0 (fh_sub o_Fs0.2 [0] rfl) ) (cwV 1 hts g_z_X2_create_z_X10_use_78 rfl rfl rfl (by decide +kernel) ⟨Nat.le_of_ble_eq_true rfl, Nat.le_of_ble_eq_true rfl⟩) ⟨fun a U g mk q => by obtain ⟨q0, q1, qP, qK, qD⟩ := q; exact ⟨q0, q1, qP, va_K.moved (u := U) (U := U.calling g mk a) (Vm.Alike.refl U.vm) qK, qD⟩, va_recv hK hP (ci := 13) (q0 := 5) rfl rfl, fun U hU hW => ⟨rfl, by rw [hU], by rw [hU]; exact hPc, va_K.moved hW.alike hKc, hDc.weaken (fun _ _ _ _ => trivial)⟩⟩ rfl rfl hl.1 rfl (lv_room (Nat.le_of_ble_eq_true rfl)) dX2_create_54 ⟨Nat.le_of_ble_eq_true rfl, Nat.le_of_ble_eq_true rfl⟩) hS (fun q _ h => hFc q h) hFc (fun u t H1 locs ht hvm hw hB hz1 hk1 hS => ?_)
  obtain ⟨hP1, hK1, hD1⟩ := hB
  rw [ht] at hP1
  try dsimp only at hw
  obtain ⟨hP, hD⟩ := va_join (wr := [(Ad0, .inl (Ka0, 400, .inl f105)), (Ad1, .inl (Ka1, 400, .inl f107)), (Ad2, .inl (Ka2, 400, .inl f109)), (Ad3, .inl (Ka3, 4000, .inr (.inl Fa3))), (Ad4, .inl (Ka4, 4000, .inl Fa4)), (Ad6, .inr (5, s104))]) (w1 := [(Ad5, .inr (13, Fs0))]) hP hD [5] [0, 1, 2, 3, 4, 6] rfl rfl (by decide) (by decide) hk1 hFc hP1 hD1
  have hK := hK.sub (tys' := [(Ka0, .int), (Ka1, .int), (Ka2, .int), (Ka3, .long), (Ka4, .boolean)]) [0, 1, 2, 3, 4] rfl
  generalize H1 = H at hP hS ⊢
  have hP : va_P (dC, dI) vwCl [(Ad0, .inl (Ka0, 400, .inl f105)), (Ad1, .inl (Ka1, 400, .inl f107)), (Ad2, .inl (Ka2, 400, .inl f109)), (Ad3, .inl (Ka3, 4000, .inr (.inl Fa3))), (Ad4, .inl (Ka4, 4000, .inl Fa4)), (Ad6, .inr (5, s104)), (Ad5, .inr (13, Fs0))] H := hP
  have hD : va_D A [(Ad0, .inl (Ka0, 400, .inl f105)), (Ad1, .inl (Ka1, 400, .inl f107)), (Ad2, .inl (Ka2, 400, .inl f109)), (Ad3, .inl (Ka3, 4000, .inr (.inl Fa3))), (Ad4, .inl (Ka4, 4000, .inl Fa4)), (Ad6, .inr (5, s104)), (Ad5, .inr (13, Fs0))] := hD
  rcases hw with c111 | ⟨c112, c113⟩
  · exact (by exfalso; (try simp only [i_lt, i_le, i_eq, kc_0] at gv_Va0 c111); omega)
  · skip
    refine lv_aload_n hx hb dX2_create_57 rfl (lv_at hl 1 rfl) ?_
    refine va_get (D := (dC, dI)) (ci := 5) (v := .ref Ad5) (C := RX2) (T := TX2) (N := 14) hx hb hts (in_z_X2_create_X2) hown hK hP 5 rfl rfl 0 (by decide) (hts (.fieldLink RX2 9 "HeapWorks$Heap" "types" "LHeapWorks$Types;") (by decide +kernel)) (fun _ h9 => h9) (ow_at o_s104 2 rfl) dX2_create_58 ?_
    refine lv_iload_n hx hb dX2_create_61 rfl (lv_at hl 2 rfl) ?_
    refine lv_iload_n hx hb dX2_create_62 rfl (lv_at hl 3 rfl) ?_
    have hPc := hP.sub (ws' := []) [] rfl
    have hDc := hD.sub (ws' := []) [] (by decide) rfl
    have hKc := hK.sub (tys' := []) [] rfl
    have hFc := va_free (wc := []) hD hS hA [] rfl
    refine va_calli (va_runV (As := [.int Va0, .int Va1]) (rest := []) ⟨hx, hb, hml, hown, hts⟩ (z_X10_slotsOf l dC dI H.size Ad5 Va0 Va1  (by (try simp only [i_lt, i_le, i_eq, kc_0] at gv_Va0 c112 c113); omega) (by (try simp only [i_lt, i_le, i_eq] at gv_Va1); omega)) (cwV 2 hts g_z_X2_create_z_X10_slotsOf_51 rfl rfl rfl (by decide +kernel) ⟨Nat.le_of_ble_eq_true rfl, Nat.le_of_ble_eq_true rfl⟩) ⟨fun a U g mk q => by obtain ⟨q0, q1, qP, qK, qD⟩ := q; exact ⟨q0, q1, qP, va_K.moved (u := U) (U := U.calling g mk a) (Vm.Alike.refl U.vm) qK, qD⟩, va_recv hK hP (ci := 13) (q0 := 6) rfl rfl, fun U hU hW => ⟨rfl, by rw [hU], by rw [hU]; exact hPc, va_K.moved hW.alike hKc, hDc.weaken (fun _ _ _ _ => trivial)⟩⟩ rfl rfl hl.1 rfl (lv_room (Nat.le_of_ble_eq_true rfl)) dX2_create_63 ⟨Nat.le_of_ble_eq_true rfl, Nat.le_of_ble_eq_true rfl⟩) hS (fun q _ h => hFc q h) hFc (fun r114 u t H1 locs ht hvm hw hB hz1 hk1 hS => ?_)
    obtain ⟨hP1, hK1, hD1⟩ := hB
    rw [ht] at hP1
    try dsimp only at hw
    obtain ⟨hP, hD⟩ := va_join (wr := [(Ad0, .inl (Ka0, 400, .inl f105)), (Ad1, .inl (Ka1, 400, .inl f107)), (Ad2, .inl (Ka2, 400, .inl f109)), (Ad3, .inl (Ka3, 4000, .inr (.inl Fa3))), (Ad4, .inl (Ka4, 4000, .inl Fa4)), (Ad6, .inr (5, s104)), (Ad5, .inr (13, Fs0))]) (w1 := []) hP hD [] [0, 1, 2, 3, 4, 5, 6] rfl rfl (by decide) (by decide) hk1 hFc hP1 hD1
    have hK := hK.sub (tys' := [(Ka0, .int), (Ka1, .int), (Ka2, .int), (Ka3, .long), (Ka4, .boolean)]) [0, 1, 2, 3, 4] rfl
    generalize H1 = H at hP hS ⊢
    have hP : va_P (dC, dI) vwCl [(Ad0, .inl (Ka0, 400, .inl f105)), (Ad1, .inl (Ka1, 400, .inl f107)), (Ad2, .inl (Ka2, 400, .inl f109)), (Ad3, .inl (Ka3, 4000, .inr (.inl Fa3))), (Ad4, .inl (Ka4, 4000, .inl Fa4)), (Ad6, .inr (5, s104)), (Ad5, .inr (13, Fs0))] H := hP
    have hD : va_D A [(Ad0, .inl (Ka0, 400, .inl f105)), (Ad1, .inl (Ka1, 400, .inl f107)), (Ad2, .inl (Ka2, 400, .inl f109)), (Ad3, .inl (Ka3, 4000, .inr (.inl Fa3))), (Ad4, .inl (Ka4, 4000, .inl Fa4)), (Ad6, .inr (5, s104)), (Ad5, .inr (13, Fs0))] := hD
    obtain ⟨c115, er116⟩ := hw
    have qer116 := er116.symm
    subst qer116
    refine lv_istore (lv' := [(4, .int Va1), (3, .int 0), (0, .ref Ad6), (1, .int Va0), (2, .int Va1)]) hx hb dX2_create_66 hl (by decide) rfl (fun ls hl => ?_)
    refine lv_iconst (v := 0) hx hb dX2_create_68 (by decide) ?_
    refine lv_istore (lv' := [(5, .int 0), (4, .int Va1), (3, .int 0), (0, .ref Ad6), (1, .int Va0), (2, .int Va1)]) hx hb dX2_create_69 hl (by decide) rfl (fun ls hl => ?_)
    have HL1 : ∀ (n j204 : Nat) (x205 : Int32) (f206 : Nat → Int64) (f207 : Nat → Int32) (s208 : List Value), x205 = nI j204 → 0 ≤ j204 → j204 ≤ 60 → 61 ≤ j204 + n → ∀ (H : Heap) (locs : List Loc) (ls : Array Slot), va_P (dC, dI) vwCl [(Ad0, .inl (Ka0, 400, .inl f105)), (Ad1, .inl (Ka1, 400, .inl f107)), (Ad2, .inl (Ka2, 400, .inl f109)), (Ad3, .inl (Ka3, 4000, .inr (.inl f206))), (Ad4, .inl (Ka4, 4000, .inl f207)), (Ad6, .inr (5, s208)), (Ad5, .inr (13, Fs0))] H → va_D A [(Ad0, .inl (Ka0, 400, .inl f105)), (Ad1, .inl (Ka1, 400, .inl f107)), (Ad2, .inl (Ka2, 400, .inl f109)), (Ad3, .inl (Ka3, 4000, .inr (.inl f206))), (Ad4, .inl (Ka4, 4000, .inl f207)), (Ad6, .inr (5, s208)), (Ad5, .inr (13, Fs0))] → va_S A s.heap H locs → ow Fs1 s208 14 [1, 2, 3] [(3, .int x205), (0, .ref Ad5), (4, .ref Ad0), (5, .ref Ad1), (6, .ref Ad2), (7, .ref Ad3), (8, .ref Ad4)] → lv_has ls 7 [(5, .int x205), (4, .int Va1), (3, .int 0), (0, .ref Ad6), (1, .int Va0), (2, .int Va1)] → W p l e (headSpec w_z_X2_create ({ frames := 2, cells := 0, slots := 0, locals := 42 })).room s m ([.ref Ad6, .int Va0, .int Va1]).toArray below meth c H locs 0 0 (MQ below (va_Qi (fun (r : Int32) (u : (Nat → Int32) × (Nat → Int32) × (Nat → Int32) × (Nat → Int64) × (Nat → Int32) × List Value) => (¬ Va0 < 0 ∧ 0 ≤ Va0 ∧ ¬ Va0 < 20 ∧ r = 0 ∧ ow Fs1 (u.2.2.2.2.2) 14 [1, 2, 3] [(0, .ref Ad5), (4, .ref Ad0), (5, .ref Ad1), (6, .ref Ad2), (7, .ref Ad3), (8, .ref Ad4)] ∧ (u.1) (0 : Int32).toNatClampNeg = Va0 ∧ (u.2.1) (0 : Int32).toNatClampNeg = Va1 ∧ (u.2.2.1) (0 : Int32).toNatClampNeg = 0)) (fun (u : (Nat → Int32) × (Nat → Int32) × (Nat → Int32) × (Nat → Int64) × (Nat → Int32) × List Value) t => Wd dC dI [(Ka0, .int), (Ka1, .int), (Ka2, .int), (Ka3, .long), (Ka4, .boolean)] A [(Ad0, .inl (Ka0, 400, .inl ((u.1)))), (Ad1, .inl (Ka1, 400, .inl ((u.2.1)))), (Ad2, .inl (Ka2, 400, .inl ((u.2.2.1)))), (Ad3, .inl (Ka3, 4000, .inr (.inl ((u.2.2.2.1))))), (Ad4, .inl (Ka4, 4000, .inl ((u.2.2.2.2.1)))), (Ad5, .inr (13, Fs0)), (Ad6, .inr (5, (u.2.2.2.2.2)))] t) A) ([.ref Ad6, .int Va0, .int Va1]).toArray s 0 0 A) (F0 m 71 ls []) := by
      intro n
      induction n with
      | zero =>
        intro j204 x205 f206 f207 s208 e209 h211 h212 h213
        exact absurd h213 (by omega)
      | succ n ih =>
        intro j204 x205 f206 f207 s208 e209 h211 h212 h213 H locs ls hP hD hS o_s208 hl
        have t210 : x205.toInt = (j204 : Int) := by rw [e209]; exact nI_toInt (by omega)
        refine lv_iload hx hb dX2_create_71 (lv_at hl 0 rfl) ?_
        refine lv_iload hx hb dX2_create_73 (lv_at hl 1 rfl) ?_
        refine lv_icmp_ge (tgt := 140) hx hb dX2_create_75 (by decide) (fun c214 => ?_) (fun c214 => ?_)
        · skip
          refine lv_iload_n hx hb dX2_create_140 rfl (lv_at hl 2 rfl) ?_
          have hP9 := hP.sub (ws' := [(Ad0, .inl (Ka0, 400, .inl f105)), (Ad1, .inl (Ka1, 400, .inl f107)), (Ad2, .inl (Ka2, 400, .inl f109)), (Ad3, .inl (Ka3, 4000, .inr (.inl f206))), (Ad4, .inl (Ka4, 4000, .inl f207)), (Ad5, .inr (13, Fs0)), (Ad6, .inr (5, s208))]) [0, 1, 2, 3, 4, 6, 5] rfl
          have hD9 := hD.sub (ws' := [(Ad0, .inl (Ka0, 400, .inl f105)), (Ad1, .inl (Ka1, 400, .inl f107)), (Ad2, .inl (Ka2, 400, .inl f109)), (Ad3, .inl (Ka3, 4000, .inr (.inl f206))), (Ad4, .inl (Ka4, 4000, .inl f207)), (Ad5, .inr (13, Fs0)), (Ad6, .inr (5, s208))]) [0, 1, 2, 3, 4, 6, 5] (by decide) rfl
          have hK9 := hK.sub (tys' := [(Ka0, .int), (Ka1, .int), (Ka2, .int), (Ka3, .long), (Ka4, .boolean)]) [0, 1, 2, 3, 4] rfl
          exact W.iret (v := 0) hx hb hr (fun t ht hW => ⟨⟨0, (f105, f107, f109, f206, f207, s208), rfl, ⟨c112, c113, c115, rfl, (ow_sub o_s208 [1, 2, 3, 4, 5, 6] rfl), q106, q108, q110⟩, by rw [ht]; exact hP9, va_K.moved hW.alike hK9, hD9⟩, hS.F ht⟩) hS.2.2 dX2_create_141
        · skip
          refine lv_aload_n hx hb dX2_create_78 rfl (lv_at hl 3 rfl) ?_
          refine va_get (D := (dC, dI)) (ci := 5) (v := .ref Ad5) (C := RX2) (T := TX2) (N := 14) hx hb hts (in_z_X2_create_X2) hown hK hP 5 rfl rfl 0 (by decide) (hts (.fieldLink RX2 9 "HeapWorks$Heap" "types" "LHeapWorks$Types;") (by decide +kernel)) (fun _ h9 => h9) (ow_at o_s208 1 rfl) dX2_create_79 ?_
          refine lv_iload_n hx hb dX2_create_82 rfl (lv_at hl 4 rfl) ?_
          refine lv_iload hx hb dX2_create_83 (lv_at hl 0 rfl) ?_
          have hPc := hP.sub (ws' := []) [] rfl
          have hDc := hD.sub (ws' := []) [] (by decide) rfl
          have hKc := hK.sub (tys' := []) [] rfl
          have hFc := va_free (wc := []) hD hS hA [] rfl
          refine va_calli (va_runV (As := [.int Va0, .int x205]) (rest := []) ⟨hx, hb, hml, hown, hts⟩ (z_X10_kindAt l dC dI H.size Ad5 Va0 x205  (by (try simp only [i_lt, i_le, i_eq, kc_0, kc_20] at gv_Va0 c112 c113 c115); omega) (by (try simp only [i_lt, i_le, i_eq] at t210 h212 h211 c214 gv_Va1); omega)) (cwV 2 hts g_z_X2_create_z_X10_kindAt_82 rfl rfl rfl (by decide +kernel) ⟨Nat.le_of_ble_eq_true rfl, Nat.le_of_ble_eq_true rfl⟩) ⟨fun a U g mk q => by obtain ⟨q0, q1, qP, qK, qD⟩ := q; exact ⟨q0, q1, qP, va_K.moved (u := U) (U := U.calling g mk a) (Vm.Alike.refl U.vm) qK, qD⟩, va_recv hK hP (ci := 13) (q0 := 6) rfl rfl, fun U hU hW => ⟨rfl, by rw [hU], by rw [hU]; exact hPc, va_K.moved hW.alike hKc, hDc.weaken (fun _ _ _ _ => trivial)⟩⟩ rfl rfl hl.1 rfl (lv_room (Nat.le_of_ble_eq_true rfl)) dX2_create_85 ⟨Nat.le_of_ble_eq_true rfl, Nat.le_of_ble_eq_true rfl⟩) hS (fun q _ h => hFc q h) hFc (fun r215 u t H1 locs ht hvm hw hB hz1 hk1 hS => ?_)
          obtain ⟨hP1, hK1, hD1⟩ := hB
          rw [ht] at hP1
          try dsimp only at hw
          obtain ⟨hP, hD⟩ := va_join (wr := [(Ad0, .inl (Ka0, 400, .inl f105)), (Ad1, .inl (Ka1, 400, .inl f107)), (Ad2, .inl (Ka2, 400, .inl f109)), (Ad3, .inl (Ka3, 4000, .inr (.inl f206))), (Ad4, .inl (Ka4, 4000, .inl f207)), (Ad6, .inr (5, s208)), (Ad5, .inr (13, Fs0))]) (w1 := []) hP hD [] [0, 1, 2, 3, 4, 5, 6] rfl rfl (by decide) (by decide) hk1 hFc hP1 hD1
          have hK := hK.sub (tys' := [(Ka0, .int), (Ka1, .int), (Ka2, .int), (Ka3, .long), (Ka4, .boolean)]) [0, 1, 2, 3, 4] rfl
          generalize H1 = H at hP hS ⊢
          have hP : va_P (dC, dI) vwCl [(Ad0, .inl (Ka0, 400, .inl f105)), (Ad1, .inl (Ka1, 400, .inl f107)), (Ad2, .inl (Ka2, 400, .inl f109)), (Ad3, .inl (Ka3, 4000, .inr (.inl f206))), (Ad4, .inl (Ka4, 4000, .inl f207)), (Ad6, .inr (5, s208)), (Ad5, .inr (13, Fs0))] H := hP
          have hD : va_D A [(Ad0, .inl (Ka0, 400, .inl f105)), (Ad1, .inl (Ka1, 400, .inl f107)), (Ad2, .inl (Ka2, 400, .inl f109)), (Ad3, .inl (Ka3, 4000, .inr (.inl f206))), (Ad4, .inl (Ka4, 4000, .inl f207)), (Ad6, .inr (5, s208)), (Ad5, .inr (13, Fs0))] := hD
          obtain ⟨c216, c217, er218⟩ := hw
          have er215 := er218
          refine lv_istore (lv' := [(6, .int r215), (5, .int x205), (4, .int Va1), (3, .int 0), (0, .ref Ad6), (1, .int Va0), (2, .int Va1)]) hx hb dX2_create_88 hl (by decide) rfl (fun ls hl => ?_)
          refine lv_aload_n hx hb dX2_create_90 rfl (lv_at hl 4 rfl) ?_
          refine va_get (D := (dC, dI)) (ci := 5) (v := .ref Ad4) (C := RX2) (T := TX2) (N := 14) hx hb hts (in_z_X2_create_X2) hown hK hP 5 rfl rfl 8 (by decide) (hts (.fieldLink RX2 29 "HeapWorks$Heap" "link" "[Z") (by decide +kernel)) (fun _ h9 => h9) (ow_at o_s208 6 rfl) dX2_create_91 ?_
          refine lv_aload_n hx hb dX2_create_94 rfl (lv_at hl 4 rfl) ?_
          refine va_get (D := (dC, dI)) (ci := 5) (v := .int x205) (C := RX2) (T := TX2) (N := 14) hx hb hts (in_z_X2_create_X2) hown hK hP 5 rfl rfl 3 (by decide) (hts (.fieldLink RX2 62 "HeapWorks$Heap" "slots" "I") (by decide +kernel)) (fun _ h9 => h9) (ow_at o_s208 0 rfl) dX2_create_95 ?_
          refine lv_iload hx hb dX2_create_98 (lv_at hl 0 rfl) ?_
          refine lv_iconst (v := 5) hx hb dX2_create_100 (by decide) ?_
          refine lv_icmp_ne (tgt := 108) hx hb dX2_create_101 (by decide) (fun c219 => ?_) (fun c219 => ?_)
          · skip
            refine lv_iconst (v := 0) hx hb dX2_create_108 (by decide) ?_
            refine va_zast hx hb hK hP hD hS 4 4 rfl rfl (by rw [vp_in_iff]; (try simp only [i_lt, i_le, i_eq] at t210 h212 h211 c214 gv_Va1); omega) dX2_create_109 (fun H locs hP hD hS => ?_)
            have hP : va_P (dC, dI) vwCl [(Ad0, .inl (Ka0, 400, .inl f105)), (Ad1, .inl (Ka1, 400, .inl f107)), (Ad2, .inl (Ka2, 400, .inl f109)), (Ad3, .inl (Ka3, 4000, .inr (.inl f206))), (Ad4, .inl (Ka4, 4000, .inl (upd f207 (x205 : Int32).toNatClampNeg (vp_nar .boolean 0)))), (Ad6, .inr (5, s208)), (Ad5, .inr (13, Fs0))] H := hP
            have hD : va_D A [(Ad0, .inl (Ka0, 400, .inl f105)), (Ad1, .inl (Ka1, 400, .inl f107)), (Ad2, .inl (Ka2, 400, .inl f109)), (Ad3, .inl (Ka3, 4000, .inr (.inl f206))), (Ad4, .inl (Ka4, 4000, .inl (upd f207 (x205 : Int32).toNatClampNeg (vp_nar .boolean 0)))), (Ad6, .inr (5, s208)), (Ad5, .inr (13, Fs0))] := hD
            have q221 : (upd f207 (x205 : Int32).toNatClampNeg (vp_nar .boolean 0)) (x205 : Int32).toNatClampNeg = 0 := (pk_us.trans (by decide))
            generalize upd f207 (x205 : Int32).toNatClampNeg (vp_nar .boolean 0) = f220 at hP hD q221
            refine lv_aload_n hx hb dX2_create_110 rfl (lv_at hl 4 rfl) ?_
            refine va_get (D := (dC, dI)) (ci := 5) (v := .ref Ad3) (C := RX2) (T := TX2) (N := 14) hx hb hts (in_z_X2_create_X2) hown hK hP 5 rfl rfl 7 (by decide) (hts (.fieldLink RX2 25 "HeapWorks$Heap" "value" "[J") (by decide +kernel)) (fun _ h9 => h9) (ow_at o_s208 5 rfl) dX2_create_111 ?_
            refine lv_aload_n hx hb dX2_create_114 rfl (lv_at hl 4 rfl) ?_
            refine va_get (D := (dC, dI)) (ci := 5) (v := .int x205) (C := RX2) (T := TX2) (N := 14) hx hb hts (in_z_X2_create_X2) hown hK hP 5 rfl rfl 3 (by decide) (hts (.fieldLink RX2 62 "HeapWorks$Heap" "slots" "I") (by decide +kernel)) (fun _ h9 => h9) (ow_at o_s208 0 rfl) dX2_create_115 ?_
            refine lv_iload hx hb dX2_create_118 (lv_at hl 0 rfl) ?_
            have hPc := hP.sub (ws' := []) [] rfl
            have hDc := hD.sub (ws' := []) [] (by decide) rfl
            have hKc := hK.sub (tys' := []) [] rfl
            have hFc := va_free (wc := []) hD hS hA [] rfl
            refine va_calll (va_runS (As := [.int r215]) (rest := [.int x205, .ref Ad3]) ⟨hx, hb, hml, hown, hts⟩ (z_X10_firstValue l dC dI H.size r215  ) (va_cwS 1 hts g_z_X2_create_z_X10_firstValue_85 rfl rfl rfl (by decide +kernel) ⟨Nat.le_of_ble_eq_true rfl, Nat.le_of_ble_eq_true rfl⟩) ⟨fun a U g mk q => by obtain ⟨q0, q1, qP, qK, qD⟩ := q; exact ⟨q0, q1, qP, va_K.moved (u := U) (U := U.calling g mk a) (Vm.Alike.refl U.vm) qK, qD⟩, fun U hU hW => ⟨rfl, by rw [hU], by rw [hU]; exact hPc, va_K.moved hW.alike hKc, hDc.weaken (fun _ _ _ _ => trivial)⟩⟩ rfl rfl hl.1 rfl (lv_room (Nat.le_of_ble_eq_true rfl)) dX2_create_120 ⟨Nat.le_of_ble_eq_true rfl, Nat.le_of_ble_eq_true rfl⟩) hS (fun q _ h => hFc q h) hFc (fun r222 u t H1 locs ht hvm hw hB hz1 hk1 hS => ?_)
            obtain ⟨hP1, hK1, hD1⟩ := hB
            rw [ht] at hP1
            try dsimp only at hw
            obtain ⟨hP, hD⟩ := va_join (wr := [(Ad0, .inl (Ka0, 400, .inl f105)), (Ad1, .inl (Ka1, 400, .inl f107)), (Ad2, .inl (Ka2, 400, .inl f109)), (Ad3, .inl (Ka3, 4000, .inr (.inl f206))), (Ad4, .inl (Ka4, 4000, .inl f220)), (Ad6, .inr (5, s208)), (Ad5, .inr (13, Fs0))]) (w1 := []) hP hD [] [0, 1, 2, 3, 4, 5, 6] rfl rfl (by decide) (by decide) hk1 hFc hP1 hD1
            have hK := hK.sub (tys' := [(Ka0, .int), (Ka1, .int), (Ka2, .int), (Ka3, .long), (Ka4, .boolean)]) [0, 1, 2, 3, 4] rfl
            generalize H1 = H at hP hS ⊢
            have hP : va_P (dC, dI) vwCl [(Ad0, .inl (Ka0, 400, .inl f105)), (Ad1, .inl (Ka1, 400, .inl f107)), (Ad2, .inl (Ka2, 400, .inl f109)), (Ad3, .inl (Ka3, 4000, .inr (.inl f206))), (Ad4, .inl (Ka4, 4000, .inl f220)), (Ad6, .inr (5, s208)), (Ad5, .inr (13, Fs0))] H := hP
            have hD : va_D A [(Ad0, .inl (Ka0, 400, .inl f105)), (Ad1, .inl (Ka1, 400, .inl f107)), (Ad2, .inl (Ka2, 400, .inl f109)), (Ad3, .inl (Ka3, 4000, .inr (.inl f206))), (Ad4, .inl (Ka4, 4000, .inl f220)), (Ad6, .inr (5, s208)), (Ad5, .inr (13, Fs0))] := hD
            rcases hw with ⟨c223, er224⟩ | ⟨c225, er226⟩
            · skip
              subst er224
              refine va_last hx hb hK hP hD hS 3 3 rfl rfl (by rw [vp_in_iff]; (try simp only [i_lt, i_le, i_eq] at t210 h212 h211 c214 gv_Va1); omega) dX2_create_123 (fun H locs hP hD hS => ?_)
              have hP : va_P (dC, dI) vwCl [(Ad0, .inl (Ka0, 400, .inl f105)), (Ad1, .inl (Ka1, 400, .inl f107)), (Ad2, .inl (Ka2, 400, .inl f109)), (Ad3, .inl (Ka3, 4000, .inr (.inl (vp_updL f206 (x205 : Int32).toNatClampNeg 0)))), (Ad4, .inl (Ka4, 4000, .inl f220)), (Ad6, .inr (5, s208)), (Ad5, .inr (13, Fs0))] H := hP
              have hD : va_D A [(Ad0, .inl (Ka0, 400, .inl f105)), (Ad1, .inl (Ka1, 400, .inl f107)), (Ad2, .inl (Ka2, 400, .inl f109)), (Ad3, .inl (Ka3, 4000, .inr (.inl (vp_updL f206 (x205 : Int32).toNatClampNeg 0)))), (Ad4, .inl (Ka4, 4000, .inl f220)), (Ad6, .inr (5, s208)), (Ad5, .inr (13, Fs0))] := hD
              have q228 : (vp_updL f206 (x205 : Int32).toNatClampNeg 0) (x205 : Int32).toNatClampNeg = 0 := pk_uLs
              generalize vp_updL f206 (x205 : Int32).toNatClampNeg 0 = f227 at hP hD q228
              refine lv_aload_n hx hb dX2_create_124 rfl (lv_at hl 4 rfl) ?_
              refine lv_dup hx hb dX2_create_125 rfl ?_
              refine va_get (D := (dC, dI)) (ci := 5) (v := .int x205) (C := RX2) (T := TX2) (N := 14) hx hb hts (in_z_X2_create_X2) hown hK hP 5 rfl rfl 3 (by decide) (hts (.fieldLink RX2 62 "HeapWorks$Heap" "slots" "I") (by decide +kernel)) (fun _ h9 => h9) (ow_at o_s208 0 rfl) dX2_create_126 ?_
              refine lv_iconst (v := 1) hx hb dX2_create_129 (by decide) ?_
              refine lv_iadd hx hb dX2_create_130  ?_
              refine lv_topi (fun x229 ex229 => ?_)
              have tx229 : x229.toInt = (x205 : Int32).toInt + (1 : Int32).toInt := by rw [ex229]; exact i_add (by have bd_x205 := i_bd x205; (try simp only [i_lt, i_le, i_eq, kc_1] at t210 h212 h211 c214 gv_Va1 ⊢); omega) (by have bd_x205 := i_bd x205; (try simp only [i_lt, i_le, i_eq, kc_1] at t210 h212 h211 c214 gv_Va1 ⊢); omega)
              refine va_put (D := (dC, dI)) (ci := 5) (v := .int x229) (ty := .int) (C := RX2) (T := TX2) (N := 14) hx hb hts (in_z_X2_create_X2) tyX2 tyX2_ok nmX2 hown hK hP hD hS 5 rfl rfl 3 (by decide) (hts (.fieldLink RX2 62 "HeapWorks$Heap" "slots" "I") (by decide +kernel)) (fun _ h9 => h9) rfl (by decide +kernel) rfl rfl (by rw [o_s208.2.1]; decide) dX2_create_131 (fun H locs hP hD hS => ?_)
              have hP : va_P (dC, dI) vwCl [(Ad0, .inl (Ka0, 400, .inl f105)), (Ad1, .inl (Ka1, 400, .inl f107)), (Ad2, .inl (Ka2, 400, .inl f109)), (Ad3, .inl (Ka3, 4000, .inr (.inl f227))), (Ad4, .inl (Ka4, 4000, .inl f220)), (Ad6, .inr (5, (s208.set 3 (.int x229)))), (Ad5, .inr (13, Fs0))] H := hP
              have hD : va_D A [(Ad0, .inl (Ka0, 400, .inl f105)), (Ad1, .inl (Ka1, 400, .inl f107)), (Ad2, .inl (Ka2, 400, .inl f109)), (Ad3, .inl (Ka3, 4000, .inr (.inl f227))), (Ad4, .inl (Ka4, 4000, .inl f220)), (Ad6, .inr (5, (s208.set 3 (.int x229)))), (Ad5, .inr (13, Fs0))] := hD
              have o_s230 := ow_set o_s208 3 (.int x229) (by decide) (l' := [(3, .int x229), (0, .ref Ad5), (4, .ref Ad0), (5, .ref Ad1), (6, .ref Ad2), (7, .ref Ad3), (8, .ref Ad4)]) (w' := [3, 1, 2]) rfl rfl
              generalize (s208.set 3 (.int x229)) = s230 at hP hD o_s230
              obtain ⟨x231, ex231⟩ : ∃ y : Int32, y = x205 + 1 := ⟨_, rfl⟩
              refine lv_iinc (v := x231) (lv' := [(5, .int x231), (6, .int r215), (4, .int Va1), (3, .int 0), (0, .ref Ad6), (1, .int Va0), (2, .int Va1)]) hx hb dX2_create_134 hl (k := 1) rfl (by rw [ex231]; rfl) (by decide) rfl (fun ls hl => ?_)
              have tx231 : x231.toInt = x205.toInt + (1 : Int32).toInt := by rw [ex231]; exact i_add (by have bd_x205 := i_bd x205; (try simp only [i_lt, i_le, i_eq, kc_1] at t210 h212 h211 c214 tx229 gv_Va1 ⊢); omega) (by have bd_x205 := i_bd x205; (try simp only [i_lt, i_le, i_eq, kc_1] at t210 h212 h211 c214 tx229 gv_Va1 ⊢); omega)
              refine lv_goto (tgt := 71) hx hb dX2_create_137 (by decide) ?_
              exact ih (j204 + 1) x231 f227 f220 s230 (by rw [ex231, e209]; exact nI_1 _) (by omega) (by (try simp only [i_lt, i_le, i_eq, kc_1] at t210 h212 h211 c214 tx229 tx231 gv_Va1); omega) (by omega)  _ _ _ (hP.sub [0, 1, 2, 3, 4, 5, 6] rfl) (hD.sub [0, 1, 2, 3, 4, 5, 6] (by decide) rfl) hS (by have h9 : x229 = x231 := ex229.trans ex231.symm; rw [← h9]; exact (ow_w (ow_sub o_s230 [0, 1, 2, 3, 4, 5, 6] rfl) (by decide))) (lv_sub hl [0, 2, 3, 4, 5, 6] rfl)
            · skip
              subst er226
              refine va_last hx hb hK hP hD hS 3 3 rfl rfl (by rw [vp_in_iff]; (try simp only [i_lt, i_le, i_eq] at t210 h212 h211 c214 gv_Va1); omega) dX2_create_123 (fun H locs hP hD hS => ?_)
              have hP : va_P (dC, dI) vwCl [(Ad0, .inl (Ka0, 400, .inl f105)), (Ad1, .inl (Ka1, 400, .inl f107)), (Ad2, .inl (Ka2, 400, .inl f109)), (Ad3, .inl (Ka3, 4000, .inr (.inl (vp_updL f206 (x205 : Int32).toNatClampNeg (-1))))), (Ad4, .inl (Ka4, 4000, .inl f220)), (Ad6, .inr (5, s208)), (Ad5, .inr (13, Fs0))] H := hP
              have hD : va_D A [(Ad0, .inl (Ka0, 400, .inl f105)), (Ad1, .inl (Ka1, 400, .inl f107)), (Ad2, .inl (Ka2, 400, .inl f109)), (Ad3, .inl (Ka3, 4000, .inr (.inl (vp_updL f206 (x205 : Int32).toNatClampNeg (-1))))), (Ad4, .inl (Ka4, 4000, .inl f220)), (Ad6, .inr (5, s208)), (Ad5, .inr (13, Fs0))] := hD
              have q233 : (vp_updL f206 (x205 : Int32).toNatClampNeg (-1)) (x205 : Int32).toNatClampNeg = (-1) := pk_uLs
              generalize vp_updL f206 (x205 : Int32).toNatClampNeg (-1) = f232 at hP hD q233
              refine lv_aload_n hx hb dX2_create_124 rfl (lv_at hl 4 rfl) ?_
              refine lv_dup hx hb dX2_create_125 rfl ?_
              refine va_get (D := (dC, dI)) (ci := 5) (v := .int x205) (C := RX2) (T := TX2) (N := 14) hx hb hts (in_z_X2_create_X2) hown hK hP 5 rfl rfl 3 (by decide) (hts (.fieldLink RX2 62 "HeapWorks$Heap" "slots" "I") (by decide +kernel)) (fun _ h9 => h9) (ow_at o_s208 0 rfl) dX2_create_126 ?_
              refine lv_iconst (v := 1) hx hb dX2_create_129 (by decide) ?_
              refine lv_iadd hx hb dX2_create_130  ?_
              refine lv_topi (fun x234 ex234 => ?_)
              have tx234 : x234.toInt = (x205 : Int32).toInt + (1 : Int32).toInt := by rw [ex234]; exact i_add (by have bd_x205 := i_bd x205; (try simp only [i_lt, i_le, i_eq, kc_1] at t210 h212 h211 c214 gv_Va1 ⊢); omega) (by have bd_x205 := i_bd x205; (try simp only [i_lt, i_le, i_eq, kc_1] at t210 h212 h211 c214 gv_Va1 ⊢); omega)
              refine va_put (D := (dC, dI)) (ci := 5) (v := .int x234) (ty := .int) (C := RX2) (T := TX2) (N := 14) hx hb hts (in_z_X2_create_X2) tyX2 tyX2_ok nmX2 hown hK hP hD hS 5 rfl rfl 3 (by decide) (hts (.fieldLink RX2 62 "HeapWorks$Heap" "slots" "I") (by decide +kernel)) (fun _ h9 => h9) rfl (by decide +kernel) rfl rfl (by rw [o_s208.2.1]; decide) dX2_create_131 (fun H locs hP hD hS => ?_)
              have hP : va_P (dC, dI) vwCl [(Ad0, .inl (Ka0, 400, .inl f105)), (Ad1, .inl (Ka1, 400, .inl f107)), (Ad2, .inl (Ka2, 400, .inl f109)), (Ad3, .inl (Ka3, 4000, .inr (.inl f232))), (Ad4, .inl (Ka4, 4000, .inl f220)), (Ad6, .inr (5, (s208.set 3 (.int x234)))), (Ad5, .inr (13, Fs0))] H := hP
              have hD : va_D A [(Ad0, .inl (Ka0, 400, .inl f105)), (Ad1, .inl (Ka1, 400, .inl f107)), (Ad2, .inl (Ka2, 400, .inl f109)), (Ad3, .inl (Ka3, 4000, .inr (.inl f232))), (Ad4, .inl (Ka4, 4000, .inl f220)), (Ad6, .inr (5, (s208.set 3 (.int x234)))), (Ad5, .inr (13, Fs0))] := hD
              have o_s235 := ow_set o_s208 3 (.int x234) (by decide) (l' := [(3, .int x234), (0, .ref Ad5), (4, .ref Ad0), (5, .ref Ad1), (6, .ref Ad2), (7, .ref Ad3), (8, .ref Ad4)]) (w' := [3, 1, 2]) rfl rfl
              generalize (s208.set 3 (.int x234)) = s235 at hP hD o_s235
              obtain ⟨x236, ex236⟩ : ∃ y : Int32, y = x205 + 1 := ⟨_, rfl⟩
              refine lv_iinc (v := x236) (lv' := [(5, .int x236), (6, .int r215), (4, .int Va1), (3, .int 0), (0, .ref Ad6), (1, .int Va0), (2, .int Va1)]) hx hb dX2_create_134 hl (k := 1) rfl (by rw [ex236]; rfl) (by decide) rfl (fun ls hl => ?_)
              have tx236 : x236.toInt = x205.toInt + (1 : Int32).toInt := by rw [ex236]; exact i_add (by have bd_x205 := i_bd x205; (try simp only [i_lt, i_le, i_eq, kc_1] at t210 h212 h211 c214 tx234 gv_Va1 ⊢); omega) (by have bd_x205 := i_bd x205; (try simp only [i_lt, i_le, i_eq, kc_1] at t210 h212 h211 c214 tx234 gv_Va1 ⊢); omega)
              refine lv_goto (tgt := 71) hx hb dX2_create_137 (by decide) ?_
              exact ih (j204 + 1) x236 f232 f220 s235 (by rw [ex236, e209]; exact nI_1 _) (by omega) (by (try simp only [i_lt, i_le, i_eq, kc_1] at t210 h212 h211 c214 tx234 tx236 gv_Va1); omega) (by omega)  _ _ _ (hP.sub [0, 1, 2, 3, 4, 5, 6] rfl) (hD.sub [0, 1, 2, 3, 4, 5, 6] (by decide) rfl) hS (by have h9 : x234 = x236 := ex234.trans ex236.symm; rw [← h9]; exact (ow_w (ow_sub o_s235 [0, 1, 2, 3, 4, 5, 6] rfl) (by decide))) (lv_sub hl [0, 2, 3, 4, 5, 6] rfl)
          · skip
            refine lv_iconst (v := 1) hx hb dX2_create_104 (by decide) ?_
            refine lv_goto (tgt := 109) hx hb dX2_create_105 (by decide) ?_
            refine va_zast hx hb hK hP hD hS 4 4 rfl rfl (by rw [vp_in_iff]; (try simp only [i_lt, i_le, i_eq] at t210 h212 h211 c214 gv_Va1); omega) dX2_create_109 (fun H locs hP hD hS => ?_)
            have hP : va_P (dC, dI) vwCl [(Ad0, .inl (Ka0, 400, .inl f105)), (Ad1, .inl (Ka1, 400, .inl f107)), (Ad2, .inl (Ka2, 400, .inl f109)), (Ad3, .inl (Ka3, 4000, .inr (.inl f206))), (Ad4, .inl (Ka4, 4000, .inl (upd f207 (x205 : Int32).toNatClampNeg (vp_nar .boolean 1)))), (Ad6, .inr (5, s208)), (Ad5, .inr (13, Fs0))] H := hP
            have hD : va_D A [(Ad0, .inl (Ka0, 400, .inl f105)), (Ad1, .inl (Ka1, 400, .inl f107)), (Ad2, .inl (Ka2, 400, .inl f109)), (Ad3, .inl (Ka3, 4000, .inr (.inl f206))), (Ad4, .inl (Ka4, 4000, .inl (upd f207 (x205 : Int32).toNatClampNeg (vp_nar .boolean 1)))), (Ad6, .inr (5, s208)), (Ad5, .inr (13, Fs0))] := hD
            have q238 : (upd f207 (x205 : Int32).toNatClampNeg (vp_nar .boolean 1)) (x205 : Int32).toNatClampNeg = 1 := (pk_us.trans (by decide))
            generalize upd f207 (x205 : Int32).toNatClampNeg (vp_nar .boolean 1) = f237 at hP hD q238
            refine lv_aload_n hx hb dX2_create_110 rfl (lv_at hl 4 rfl) ?_
            refine va_get (D := (dC, dI)) (ci := 5) (v := .ref Ad3) (C := RX2) (T := TX2) (N := 14) hx hb hts (in_z_X2_create_X2) hown hK hP 5 rfl rfl 7 (by decide) (hts (.fieldLink RX2 25 "HeapWorks$Heap" "value" "[J") (by decide +kernel)) (fun _ h9 => h9) (ow_at o_s208 5 rfl) dX2_create_111 ?_
            refine lv_aload_n hx hb dX2_create_114 rfl (lv_at hl 4 rfl) ?_
            refine va_get (D := (dC, dI)) (ci := 5) (v := .int x205) (C := RX2) (T := TX2) (N := 14) hx hb hts (in_z_X2_create_X2) hown hK hP 5 rfl rfl 3 (by decide) (hts (.fieldLink RX2 62 "HeapWorks$Heap" "slots" "I") (by decide +kernel)) (fun _ h9 => h9) (ow_at o_s208 0 rfl) dX2_create_115 ?_
            refine lv_iload hx hb dX2_create_118 (lv_at hl 0 rfl) ?_
            have hPc := hP.sub (ws' := []) [] rfl
            have hDc := hD.sub (ws' := []) [] (by decide) rfl
            have hKc := hK.sub (tys' := []) [] rfl
            have hFc := va_free (wc := []) hD hS hA [] rfl
            refine va_calll (va_runS (As := [.int r215]) (rest := [.int x205, .ref Ad3]) ⟨hx, hb, hml, hown, hts⟩ (z_X10_firstValue l dC dI H.size r215  ) (va_cwS 1 hts g_z_X2_create_z_X10_firstValue_85 rfl rfl rfl (by decide +kernel) ⟨Nat.le_of_ble_eq_true rfl, Nat.le_of_ble_eq_true rfl⟩) ⟨fun a U g mk q => by obtain ⟨q0, q1, qP, qK, qD⟩ := q; exact ⟨q0, q1, qP, va_K.moved (u := U) (U := U.calling g mk a) (Vm.Alike.refl U.vm) qK, qD⟩, fun U hU hW => ⟨rfl, by rw [hU], by rw [hU]; exact hPc, va_K.moved hW.alike hKc, hDc.weaken (fun _ _ _ _ => trivial)⟩⟩ rfl rfl hl.1 rfl (lv_room (Nat.le_of_ble_eq_true rfl)) dX2_create_120 ⟨Nat.le_of_ble_eq_true rfl, Nat.le_of_ble_eq_true rfl⟩) hS (fun q _ h => hFc q h) hFc (fun r239 u t H1 locs ht hvm hw hB hz1 hk1 hS => ?_)
            obtain ⟨hP1, hK1, hD1⟩ := hB
            rw [ht] at hP1
            try dsimp only at hw
            obtain ⟨hP, hD⟩ := va_join (wr := [(Ad0, .inl (Ka0, 400, .inl f105)), (Ad1, .inl (Ka1, 400, .inl f107)), (Ad2, .inl (Ka2, 400, .inl f109)), (Ad3, .inl (Ka3, 4000, .inr (.inl f206))), (Ad4, .inl (Ka4, 4000, .inl f237)), (Ad6, .inr (5, s208)), (Ad5, .inr (13, Fs0))]) (w1 := []) hP hD [] [0, 1, 2, 3, 4, 5, 6] rfl rfl (by decide) (by decide) hk1 hFc hP1 hD1
            have hK := hK.sub (tys' := [(Ka0, .int), (Ka1, .int), (Ka2, .int), (Ka3, .long), (Ka4, .boolean)]) [0, 1, 2, 3, 4] rfl
            generalize H1 = H at hP hS ⊢
            have hP : va_P (dC, dI) vwCl [(Ad0, .inl (Ka0, 400, .inl f105)), (Ad1, .inl (Ka1, 400, .inl f107)), (Ad2, .inl (Ka2, 400, .inl f109)), (Ad3, .inl (Ka3, 4000, .inr (.inl f206))), (Ad4, .inl (Ka4, 4000, .inl f237)), (Ad6, .inr (5, s208)), (Ad5, .inr (13, Fs0))] H := hP
            have hD : va_D A [(Ad0, .inl (Ka0, 400, .inl f105)), (Ad1, .inl (Ka1, 400, .inl f107)), (Ad2, .inl (Ka2, 400, .inl f109)), (Ad3, .inl (Ka3, 4000, .inr (.inl f206))), (Ad4, .inl (Ka4, 4000, .inl f237)), (Ad6, .inr (5, s208)), (Ad5, .inr (13, Fs0))] := hD
            rcases hw with ⟨c240, er241⟩ | ⟨c242, er243⟩
            · exact (by exfalso; (try simp only [i_lt, i_le, i_eq, kc_5] at c219 c240); omega)
            · skip
              subst er243
              refine va_last hx hb hK hP hD hS 3 3 rfl rfl (by rw [vp_in_iff]; (try simp only [i_lt, i_le, i_eq] at t210 h212 h211 c214 gv_Va1); omega) dX2_create_123 (fun H locs hP hD hS => ?_)
              have hP : va_P (dC, dI) vwCl [(Ad0, .inl (Ka0, 400, .inl f105)), (Ad1, .inl (Ka1, 400, .inl f107)), (Ad2, .inl (Ka2, 400, .inl f109)), (Ad3, .inl (Ka3, 4000, .inr (.inl (vp_updL f206 (x205 : Int32).toNatClampNeg (-1))))), (Ad4, .inl (Ka4, 4000, .inl f237)), (Ad6, .inr (5, s208)), (Ad5, .inr (13, Fs0))] H := hP
              have hD : va_D A [(Ad0, .inl (Ka0, 400, .inl f105)), (Ad1, .inl (Ka1, 400, .inl f107)), (Ad2, .inl (Ka2, 400, .inl f109)), (Ad3, .inl (Ka3, 4000, .inr (.inl (vp_updL f206 (x205 : Int32).toNatClampNeg (-1))))), (Ad4, .inl (Ka4, 4000, .inl f237)), (Ad6, .inr (5, s208)), (Ad5, .inr (13, Fs0))] := hD
              have q245 : (vp_updL f206 (x205 : Int32).toNatClampNeg (-1)) (x205 : Int32).toNatClampNeg = (-1) := pk_uLs
              generalize vp_updL f206 (x205 : Int32).toNatClampNeg (-1) = f244 at hP hD q245
              refine lv_aload_n hx hb dX2_create_124 rfl (lv_at hl 4 rfl) ?_
              refine lv_dup hx hb dX2_create_125 rfl ?_
              refine va_get (D := (dC, dI)) (ci := 5) (v := .int x205) (C := RX2) (T := TX2) (N := 14) hx hb hts (in_z_X2_create_X2) hown hK hP 5 rfl rfl 3 (by decide) (hts (.fieldLink RX2 62 "HeapWorks$Heap" "slots" "I") (by decide +kernel)) (fun _ h9 => h9) (ow_at o_s208 0 rfl) dX2_create_126 ?_
              refine lv_iconst (v := 1) hx hb dX2_create_129 (by decide) ?_
              refine lv_iadd hx hb dX2_create_130  ?_
              refine lv_topi (fun x246 ex246 => ?_)
              have tx246 : x246.toInt = (x205 : Int32).toInt + (1 : Int32).toInt := by rw [ex246]; exact i_add (by have bd_x205 := i_bd x205; (try simp only [i_lt, i_le, i_eq, kc_1] at t210 h212 h211 c214 gv_Va1 ⊢); omega) (by have bd_x205 := i_bd x205; (try simp only [i_lt, i_le, i_eq, kc_1] at t210 h212 h211 c214 gv_Va1 ⊢); omega)
              refine va_put (D := (dC, dI)) (ci := 5) (v := .int x246) (ty := .int) (C := RX2) (T := TX2) (N := 14) hx hb hts (in_z_X2_create_X2) tyX2 tyX2_ok nmX2 hown hK hP hD hS 5 rfl rfl 3 (by decide) (hts (.fieldLink RX2 62 "HeapWorks$Heap" "slots" "I") (by decide +kernel)) (fun _ h9 => h9) rfl (by decide +kernel) rfl rfl (by rw [o_s208.2.1]; decide) dX2_create_131 (fun H locs hP hD hS => ?_)
              have hP : va_P (dC, dI) vwCl [(Ad0, .inl (Ka0, 400, .inl f105)), (Ad1, .inl (Ka1, 400, .inl f107)), (Ad2, .inl (Ka2, 400, .inl f109)), (Ad3, .inl (Ka3, 4000, .inr (.inl f244))), (Ad4, .inl (Ka4, 4000, .inl f237)), (Ad6, .inr (5, (s208.set 3 (.int x246)))), (Ad5, .inr (13, Fs0))] H := hP
              have hD : va_D A [(Ad0, .inl (Ka0, 400, .inl f105)), (Ad1, .inl (Ka1, 400, .inl f107)), (Ad2, .inl (Ka2, 400, .inl f109)), (Ad3, .inl (Ka3, 4000, .inr (.inl f244))), (Ad4, .inl (Ka4, 4000, .inl f237)), (Ad6, .inr (5, (s208.set 3 (.int x246)))), (Ad5, .inr (13, Fs0))] := hD
              have o_s247 := ow_set o_s208 3 (.int x246) (by decide) (l' := [(3, .int x246), (0, .ref Ad5), (4, .ref Ad0), (5, .ref Ad1), (6, .ref Ad2), (7, .ref Ad3), (8, .ref Ad4)]) (w' := [3, 1, 2]) rfl rfl
              generalize (s208.set 3 (.int x246)) = s247 at hP hD o_s247
              obtain ⟨x248, ex248⟩ : ∃ y : Int32, y = x205 + 1 := ⟨_, rfl⟩
              refine lv_iinc (v := x248) (lv' := [(5, .int x248), (6, .int r215), (4, .int Va1), (3, .int 0), (0, .ref Ad6), (1, .int Va0), (2, .int Va1)]) hx hb dX2_create_134 hl (k := 1) rfl (by rw [ex248]; rfl) (by decide) rfl (fun ls hl => ?_)
              have tx248 : x248.toInt = x205.toInt + (1 : Int32).toInt := by rw [ex248]; exact i_add (by have bd_x205 := i_bd x205; (try simp only [i_lt, i_le, i_eq, kc_1] at t210 h212 h211 c214 tx246 gv_Va1 ⊢); omega) (by have bd_x205 := i_bd x205; (try simp only [i_lt, i_le, i_eq, kc_1] at t210 h212 h211 c214 tx246 gv_Va1 ⊢); omega)
              refine lv_goto (tgt := 71) hx hb dX2_create_137 (by decide) ?_
              exact ih (j204 + 1) x248 f244 f237 s247 (by rw [ex248, e209]; exact nI_1 _) (by omega) (by (try simp only [i_lt, i_le, i_eq, kc_1] at t210 h212 h211 c214 tx246 tx248 gv_Va1); omega) (by omega)  _ _ _ (hP.sub [0, 1, 2, 3, 4, 5, 6] rfl) (hD.sub [0, 1, 2, 3, 4, 5, 6] (by decide) rfl) hS (by have h9 : x246 = x248 := ex246.trans ex248.symm; rw [← h9]; exact (ow_w (ow_sub o_s247 [0, 1, 2, 3, 4, 5, 6] rfl) (by decide))) (lv_sub hl [0, 2, 3, 4, 5, 6] rfl)
    exact HL1 61 0 (0) Fa3 Fa4 s104 (by decide) (by omega) (by omega) (by omega)  _ _ _ hP hD hS (ow_w (ow_sub o_s104 [3, 2, 4, 5, 6, 7, 8] rfl) (by decide)) hl

def l_z_X10_slotsOf_1 : List Cond := [.methodLink RX10 86 yX10_isArray, .static yX10_isArray, .initialized RX10, .code yX10_isArray cX10_isArray 1 (some .boolean)]
def w_z_X10_slotsOf_1 : List Cond := .code yX10_slotsOf cX10_slotsOf 3 (some .int) :: (l_z_X10_slotsOf_1)
theorem g_z_X10_slotsOf_1_z_X10_isArray_86 : GoodIn w_z_X10_slotsOf_1 (wsS RX10 86 yX10_isArray w_z_X10_isArray) := goodIn_app (goodIn_r (([.methodLink RX10 86 yX10_isArray, .static yX10_isArray, .initialized RX10] : List Cond)) [1, 2, 3] rfl (by decide +kernel)) (goodIn_r (.code yX10_isArray cX10_isArray 1 (some .boolean) :: l_z_X10_isArray) [4] rfl (by decide +kernel))
set_option maxHeartbeats 4000000 in
set_option maxRecDepth 100000 in
theorem z_X10_slotsOf_1 (l : Launch) (dC : Nat → ClassId) (dI : Nat → Nat → Nat) (sz : Nat) (Br0 : Nat) (Va0 : Int32) (Va1 : Int32)  (gv_Va0 : (29 : Int) ≤ Va0.toInt ∧ Va0.toInt ≤ 29) (gv_Va1 : (0 : Int) ≤ Va1.toInt ∧ Va1.toInt ≤ 60) : Met l yX10_slotsOf w_z_X10_slotsOf_1 ({ frames := 1, cells := 0, slots := 0, locals := 20 }) (va_Pc [.ref Br0, .int Va0, .int Va1] (fun U => U.heap.size = sz ∧ Wd dC dI [] (fun _ => True) [] U)) (va_Qi (fun (r : Int32) (u : Unit) => (¬ Va0 < 20 ∧ r = Va1)) (fun (u : Unit) t => Wd dC dI [] (va_A [] sz) [] t) (va_A [] sz))  0 0 (va_A [] sz) := by
  refine Met.ofW (cc := cX10_slotsOf) (maxL := 3) (ret := (some .int)) (by decide) rfl ?_
  intro p e s m args below meth c s₁ B hml hv
  obtain ⟨rfl, hsz, hP, hK, hD0⟩ := hv
  have hx := B.exec
  have hb := B.bytes
  have hr := B.returns
  have hts := atoms_spec (ws := w_z_X10_slotsOf_1) B.pre
  have hown : s.vm.findClass RX10 = some m.cls := findClass_of_methodNamed B.named
  have hlocks := B.notSynchronized
  subst hsz
  have hD := hD0.self (sz := s.heap.size)
  generalize hAe : va_A [] s.heap.size = A at hD ⊢
  have hA : ∀ q : Nat, s.heap.size ≤ q → A q := fun q h => by rw [← hAe]; exact Or.inr h
  have hS : va_S A s.heap s.heap [] := va_S.rf
  have hl := lv_entry ([.ref Br0, .int Va0, .int Va1]) (n := 3) (Nat.le_of_ble_eq_true rfl)
  rw [lg_entry_eq]
  generalize (lg_sl ([.ref Br0, .int Va0, .int Va1]) ++ List.replicate (3 - (lg_sl ([.ref Br0, .int Va0, .int Va1])).length) Slot.unset).toArray = ls at hl ⊢
  have hl : lv_has ls 3 [(0, .ref Br0), (1, .int Va0), (2, .int Va1)] := hl
  refine lv_iload_n hx hb dX10_slotsOf_0 rfl (lv_at hl 1 rfl) ?_
  have hPc := hP.sub (ws' := []) [] rfl
  have hDc := hD.sub (ws' := []) [] (by decide) rfl
  have hKc := hK.sub (tys' := []) [] rfl
  have hFc := va_free (wc := []) hD hS hA [] rfl
  refine va_calli (va_runS (As := [.int Va0]) (rest := []) ⟨hx, hb, hml, hown, hts⟩ (z_X10_isArray l dC dI s.heap.size Va0  ) (cwS 1 hts g_z_X10_slotsOf_1_z_X10_isArray_86 rfl rfl rfl (by decide +kernel) ⟨Nat.le_of_ble_eq_true rfl, Nat.le_of_ble_eq_true rfl⟩) ⟨fun a U g mk q => by obtain ⟨q0, q1, qP, qK, qD⟩ := q; exact ⟨q0, q1, qP, va_K.moved (u := U) (U := U.calling g mk a) (Vm.Alike.refl U.vm) qK, qD⟩, fun U hU hW => ⟨rfl, by rw [hU], by rw [hU]; exact hPc, va_K.moved hW.alike hKc, hDc.weaken (fun _ _ _ _ => trivial)⟩⟩ rfl rfl hl.1 rfl (lv_room (Nat.le_of_ble_eq_true rfl)) dX10_slotsOf_1 ⟨Nat.le_of_ble_eq_true rfl, Nat.le_of_ble_eq_true rfl⟩) hS (fun q _ h => hFc q h) hFc (fun r101 u t H1 locs ht hvm hw hB hz1 hk1 hS => ?_)
  obtain ⟨hP1, hK1, hD1⟩ := hB
  rw [ht] at hP1
  try dsimp only at hw
  obtain ⟨hP, hD⟩ := va_join (wr := []) (w1 := []) hP hD [] [] rfl rfl (by decide) (by decide) hk1 hFc hP1 hD1
  have hK := hK.sub (tys' := []) [] rfl
  generalize H1 = H at hP hS ⊢
  have hP : va_P (dC, dI) vwCl [] H := hP
  have hD : va_D A [] := hD
  rcases hw with ⟨c102, er103⟩ | ⟨c104, er105⟩
  · exact (by exfalso; (try simp only [i_lt, i_le, i_eq, kc_20] at gv_Va0 c102); omega)
  · skip
    subst er105
    refine lv_if_eq (tgt := 11) hx hb dX10_slotsOf_4 (by decide) (fun c106 => absurd c106 (by decide)) (fun c106 => ?_)
    refine lv_iload_n hx hb dX10_slotsOf_7 rfl (lv_at hl 2 rfl) ?_
    refine lv_goto (tgt := 17) hx hb dX10_slotsOf_8 (by decide) ?_
    have hP9 := hP.sub (ws' := []) [] rfl
    have hD9 := hD.sub (ws' := []) [] (by decide) rfl
    have hK9 := hK.sub (tys' := []) [] rfl
    exact W.iret (v := Va1) hx hb hr (fun t ht hW => ⟨⟨Va1, (), rfl, ⟨c104, rfl⟩, by rw [ht]; exact hP9, va_K.moved hW.alike hK9, hD9⟩, hS.F ht⟩) hS.2.2 dX10_slotsOf_17

def l_z_X10_kindAt_1 : List Cond := []
def w_z_X10_kindAt_1 : List Cond := .code yX10_kindAt cX10_kindAt 3 (some .int) :: (l_z_X10_kindAt_1)
set_option maxHeartbeats 4000000 in
set_option maxRecDepth 100000 in
theorem z_X10_kindAt_1 (l : Launch) (dC : Nat → ClassId) (dI : Nat → Nat → Nat) (sz : Nat) (Br0 : Nat) (Va0 : Int32) (Va1 : Int32)  (gv_Va0 : (29 : Int) ≤ Va0.toInt ∧ Va0.toInt ≤ 29) (gv_Va1 : (0 : Int) ≤ Va1.toInt ∧ Va1.toInt ≤ 59) : Met l yX10_kindAt w_z_X10_kindAt_1 ({ frames := 0, cells := 0, slots := 0, locals := 0 }) (va_Pc [.ref Br0, .int Va0, .int Va1] (fun U => U.heap.size = sz ∧ Wd dC dI [] (fun _ => True) [] U)) (va_Qi (fun (r : Int32) (u : Unit) => (¬ Va0 < 29 ∧ r = 5)) (fun (u : Unit) t => Wd dC dI [] (va_A [] sz) [] t) (va_A [] sz))  0 0 (va_A [] sz) := by
  refine Met.ofW (cc := cX10_kindAt) (maxL := 3) (ret := (some .int)) (by decide) rfl ?_
  intro p e s m args below meth c s₁ B hml hv
  obtain ⟨rfl, hsz, hP, hK, hD0⟩ := hv
  have hx := B.exec
  have hb := B.bytes
  have hr := B.returns
  have hts := atoms_spec (ws := w_z_X10_kindAt_1) B.pre
  have hown : s.vm.findClass RX10 = some m.cls := findClass_of_methodNamed B.named
  have hlocks := B.notSynchronized
  subst hsz
  have hD := hD0.self (sz := s.heap.size)
  generalize hAe : va_A [] s.heap.size = A at hD ⊢
  have hA : ∀ q : Nat, s.heap.size ≤ q → A q := fun q h => by rw [← hAe]; exact Or.inr h
  have hS : va_S A s.heap s.heap [] := va_S.rf
  have hl := lv_entry ([.ref Br0, .int Va0, .int Va1]) (n := 3) (Nat.le_of_ble_eq_true rfl)
  rw [lg_entry_eq]
  generalize (lg_sl ([.ref Br0, .int Va0, .int Va1]) ++ List.replicate (3 - (lg_sl ([.ref Br0, .int Va0, .int Va1])).length) Slot.unset).toArray = ls at hl ⊢
  have hl : lv_has ls 3 [(0, .ref Br0), (1, .int Va0), (2, .int Va1)] := hl
  refine lv_iload_n hx hb dX10_kindAt_0 rfl (lv_at hl 1 rfl) ?_
  refine lv_bipush (v := 29) hx hb dX10_kindAt_1 (by decide) ?_
  refine lv_icmp_lt (tgt := 8) hx hb dX10_kindAt_3 (by decide) (fun c101 => (by exfalso; have bd_Va0 := i_bd Va0; (try simp only [i_lt, i_le, i_eq, kc_29] at gv_Va0 c101); omega)) (fun c101 => ?_)
  refine lv_iconst (v := 5) hx hb dX10_kindAt_6 (by decide) ?_
  have hP9 := hP.sub (ws' := []) [] rfl
  have hD9 := hD.sub (ws' := []) [] (by decide) rfl
  have hK9 := hK.sub (tys' := []) [] rfl
  exact W.iret (v := 5) hx hb hr (fun t ht hW => ⟨⟨5, (), rfl, ⟨c101, rfl⟩, by rw [ht]; exact hP9, va_K.moved hW.alike hK9, hD9⟩, hS.F ht⟩) hS.2.2 dX10_kindAt_7

def l_z_X10_firstValue_1 : List Cond := [.constantLong RX10 96 (-1)]
def w_z_X10_firstValue_1 : List Cond := .code yX10_firstValue cX10_firstValue 1 (some .long) :: (l_z_X10_firstValue_1)
set_option maxHeartbeats 4000000 in
set_option maxRecDepth 100000 in
theorem z_X10_firstValue_1 (l : Launch) (dC : Nat → ClassId) (dI : Nat → Nat → Nat) (sz : Nat)    : Met l yX10_firstValue w_z_X10_firstValue_1 ({ frames := 0, cells := 0, slots := 0, locals := 0 }) (va_Pc [.int 5] (fun U => U.heap.size = sz ∧ Wd dC dI [] (fun _ => True) [] U)) (va_Ql (fun (r : Int64) (u : Unit) => r = (-1)) (fun (u : Unit) t => Wd dC dI [] (va_A [] sz) [] t) (va_A [] sz))  0 0 (va_A [] sz) := by
  refine Met.ofW (cc := cX10_firstValue) (maxL := 1) (ret := (some .long)) (by decide) rfl ?_
  intro p e s m args below meth c s₁ B hml hv
  obtain ⟨rfl, hsz, hP, hK, hD0⟩ := hv
  have hx := B.exec
  have hb := B.bytes
  have hr := B.returns
  have hts := atoms_spec (ws := w_z_X10_firstValue_1) B.pre
  have hown : s.vm.findClass RX10 = some m.cls := findClass_of_methodNamed B.named
  have hlocks := B.notSynchronized
  subst hsz
  have hD := hD0.self (sz := s.heap.size)
  generalize hAe : va_A [] s.heap.size = A at hD ⊢
  have hA : ∀ q : Nat, s.heap.size ≤ q → A q := fun q h => by rw [← hAe]; exact Or.inr h
  have hS : va_S A s.heap s.heap [] := va_S.rf
  have hl := lv_entry ([.int 5]) (n := 1) (Nat.le_of_ble_eq_true rfl)
  rw [lg_entry_eq]
  generalize (lg_sl ([.int 5]) ++ List.replicate (1 - (lg_sl ([.int 5])).length) Slot.unset).toArray = ls at hl ⊢
  have hl : lv_has ls 1 [(0, .int 5)] := hl
  refine lv_iload_n hx hb dX10_firstValue_0 rfl (lv_at hl 0 rfl) ?_
  refine lv_iconst (v := 5) hx hb dX10_firstValue_1 (by decide) ?_
  refine lv_icmp_ne (tgt := 11) hx hb dX10_firstValue_2 (by decide) (fun c101 => absurd c101 (by decide)) (fun c101 => ?_)
  refine lv_ldc2 (v := (-1)) hx hb hown (hts (.constantLong RX10 96 (-1)) (by decide +kernel)) dX10_firstValue_5 ?_
  refine lv_goto (tgt := 12) hx hb dX10_firstValue_8 (by decide) ?_
  have hP9 := hP.sub (ws' := []) [] rfl
  have hD9 := hD.sub (ws' := []) [] (by decide) rfl
  have hK9 := hK.sub (tys' := []) [] rfl
  exact W.lret (v := (-1)) hx hb hr (fun t ht hW => ⟨⟨(-1), (), rfl, rfl, by rw [ht]; exact hP9, va_K.moved hW.alike hK9, hD9⟩, hS.F ht⟩) hS.2.2 dX10_firstValue_12

def l_z_X2_create_1 : List Cond := [.fieldLink RX2 47 "HeapWorks$Heap" "made" "I", .fieldLink RX2 75 "HeapWorks$Heap" "there" "I", .fieldLink RX2 15 "HeapWorks$Heap" "type" "[I", .fieldLink RX2 19 "HeapWorks$Heap" "length" "[I", .fieldLink RX2 22 "HeapWorks$Heap" "first" "[I", .fieldLink RX2 62 "HeapWorks$Heap" "slots" "I", .fieldLink RX2 9 "HeapWorks$Heap" "types" "LHeapWorks$Types;", .methodLink RX2 78 yX10_use, .instanceMethod yX10_use, .selects RX10 yX10_use yX10_use, .initialized RX10, .methodLink RX2 51 yX10_slotsOf, .instanceMethod yX10_slotsOf, .selects RX10 yX10_slotsOf yX10_slotsOf, .methodLink RX2 82 yX10_kindAt, .instanceMethod yX10_kindAt, .selects RX10 yX10_kindAt yX10_kindAt, .fieldLink RX2 29 "HeapWorks$Heap" "link" "[Z", .fieldLink RX2 25 "HeapWorks$Heap" "value" "[J", .methodLink RX2 85 yX10_firstValue, .static yX10_firstValue, .code yX10_use cX10_use 2 none, .methodLink RX10 69 yX10_isClass, .instanceMethod yX10_isClass, .selects RX10 yX10_isClass yX10_isClass, .code yX10_isClass cX10_isClass 2 (some .boolean), .fieldLink RX10 65 "HeapWorks$Types" "count" "I", .code yX10_slotsOf cX10_slotsOf 3 (some .int), .methodLink RX10 86 yX10_isArray, .static yX10_isArray, .code yX10_isArray cX10_isArray 1 (some .boolean), .code yX10_kindAt cX10_kindAt 3 (some .int), .code yX10_firstValue cX10_firstValue 1 (some .long), .constantLong RX10 96 (-1)]
def w_z_X2_create_1 : List Cond := .code yX2_create cX2_create 7 (some .int) :: (l_z_X2_create_1 ++ ((wsX20 ++ wsX100)))
theorem in_z_X2_create_1_X2 : ∀ w ∈ wsX20, w ∈ w_z_X2_create_1 := fun w h => List.mem_cons_of_mem _ (List.mem_append_right _ (List.mem_append_left _ h))
theorem in_z_X2_create_1_X10 : ∀ w ∈ wsX100, w ∈ w_z_X2_create_1 := fun w h => List.mem_cons_of_mem _ (List.mem_append_right _ (List.mem_append_right _ (h)))
theorem g_z_X2_create_1_z_X10_use_78 : GoodIn w_z_X2_create_1 (wsV RX2 78 RX10 yX10_use w_z_X10_use) := goodIn_app (goodIn_r (([.methodLink RX2 78 yX10_use, .instanceMethod yX10_use, .selects RX10 yX10_use yX10_use, .initialized RX10] : List Cond)) [8, 9, 10, 11] rfl (by decide +kernel)) (goodIn_ca (goodIn_r (.code yX10_use cX10_use 2 none :: l_z_X10_use) [22, 23, 24, 25, 11, 26, 27] rfl (by decide +kernel)) (goodIn_in (in_z_X2_create_1_X10) gd_X10))
theorem g_z_X2_create_1_z_X10_slotsOf_1_51 : GoodIn w_z_X2_create_1 (wsV RX2 51 RX10 yX10_slotsOf w_z_X10_slotsOf_1) := goodIn_app (goodIn_r (([.methodLink RX2 51 yX10_slotsOf, .instanceMethod yX10_slotsOf, .selects RX10 yX10_slotsOf yX10_slotsOf, .initialized RX10] : List Cond)) [12, 13, 14, 11] rfl (by decide +kernel)) (goodIn_r (.code yX10_slotsOf cX10_slotsOf 3 (some .int) :: l_z_X10_slotsOf_1) [28, 29, 30, 11, 31] rfl (by decide +kernel))
theorem g_z_X2_create_1_z_X10_kindAt_1_82 : GoodIn w_z_X2_create_1 (wsV RX2 82 RX10 yX10_kindAt w_z_X10_kindAt_1) := goodIn_app (goodIn_r (([.methodLink RX2 82 yX10_kindAt, .instanceMethod yX10_kindAt, .selects RX10 yX10_kindAt yX10_kindAt, .initialized RX10] : List Cond)) [15, 16, 17, 11] rfl (by decide +kernel)) (goodIn_r (.code yX10_kindAt cX10_kindAt 3 (some .int) :: l_z_X10_kindAt_1) [32] rfl (by decide +kernel))
theorem g_z_X2_create_1_z_X10_firstValue_1_85 : GoodIn w_z_X2_create_1 (va_wsS RX2 85 yX10_firstValue w_z_X10_firstValue_1) := goodIn_app (goodIn_r (([.methodLink RX2 85 yX10_firstValue, .static yX10_firstValue, .initialized RX10] : List Cond)) [20, 21, 11] rfl (by decide +kernel)) (goodIn_r (.code yX10_firstValue cX10_firstValue 1 (some .long) :: l_z_X10_firstValue_1) [33, 34] rfl (by decide +kernel))
set_option maxHeartbeats 4000000 in
set_option maxRecDepth 100000 in
theorem z_X2_create_1 (l : Launch) (dC : Nat → ClassId) (dI : Nat → Nat → Nat) (sz : Nat) (Ad0 : Nat) (Fa0 : Nat → Int32) (Ka0 : ClassId) (Ad1 : Nat) (Fa1 : Nat → Int32) (Ka1 : ClassId) (Ad2 : Nat) (Fa2 : Nat → Int32) (Ka2 : ClassId) (Ad3 : Nat) (Fa3 : Nat → Int64) (Ka3 : ClassId) (Ad4 : Nat) (Fa4 : Nat → Int32) (Ka4 : ClassId) (Ad5 : Nat) (Fs0 : List Value) (Ad6 : Nat) (Fs1 : List Value) (Va0 : Int32) (Va1 : Int32) (k_Fs0 : fh Fs0 18 [(0, .int 0)]) (k_Fs1 : fh Fs1 14 [(0, .ref Ad5), (1, .int 0), (2, .int 0), (3, .int 0), (4, .ref Ad0), (5, .ref Ad1), (6, .ref Ad2), (7, .ref Ad3), (8, .ref Ad4)]) (gv_Va0 : (29 : Int) ≤ Va0.toInt ∧ Va0.toInt ≤ 29) (gv_Va1 : (0 : Int) ≤ Va1.toInt ∧ Va1.toInt ≤ 60) : Met l yX2_create w_z_X2_create_1 ({ frames := 2, cells := 0, slots := 0, locals := 42 }) (va_Pc [.ref Ad6, .int Va0, .int Va1] (fun U => U.heap.size = sz ∧ Wd dC dI [(Ka0, .int), (Ka1, .int), (Ka2, .int), (Ka3, .long), (Ka4, .boolean)] (fun _ => True) [(Ad0, .inl (Ka0, 400, .inl Fa0)), (Ad1, .inl (Ka1, 400, .inl Fa1)), (Ad2, .inl (Ka2, 400, .inl Fa2)), (Ad3, .inl (Ka3, 4000, .inr (.inl Fa3))), (Ad4, .inl (Ka4, 4000, .inl Fa4)), (Ad5, .inr (13, Fs0)), (Ad6, .inr (5, Fs1))] U)) (va_Qi (fun (r : Int32) (u : (Nat → Int32) × (Nat → Int32) × (Nat → Int32) × (Nat → Int64) × (Nat → Int32) × List Value) => (¬ Va0 < 0 ∧ 0 ≤ Va0 ∧ ¬ Va0 < 20 ∧ r = 0 ∧ ow Fs1 (u.2.2.2.2.2) 14 [1, 2, 3] [(0, .ref Ad5), (4, .ref Ad0), (5, .ref Ad1), (6, .ref Ad2), (7, .ref Ad3), (8, .ref Ad4)] ∧ (u.1) (0 : Int32).toNatClampNeg = Va0 ∧ (u.2.1) (0 : Int32).toNatClampNeg = Va1 ∧ (u.2.2.1) (0 : Int32).toNatClampNeg = 0)) (fun (u : (Nat → Int32) × (Nat → Int32) × (Nat → Int32) × (Nat → Int64) × (Nat → Int32) × List Value) t => Wd dC dI [(Ka0, .int), (Ka1, .int), (Ka2, .int), (Ka3, .long), (Ka4, .boolean)] (va_A [(Ad0, .inl (Ka0, 400, .inl Fa0)), (Ad1, .inl (Ka1, 400, .inl Fa1)), (Ad2, .inl (Ka2, 400, .inl Fa2)), (Ad3, .inl (Ka3, 4000, .inr (.inl Fa3))), (Ad4, .inl (Ka4, 4000, .inl Fa4)), (Ad5, .inr (13, Fs0)), (Ad6, .inr (5, Fs1))] sz) [(Ad0, .inl (Ka0, 400, .inl ((u.1)))), (Ad1, .inl (Ka1, 400, .inl ((u.2.1)))), (Ad2, .inl (Ka2, 400, .inl ((u.2.2.1)))), (Ad3, .inl (Ka3, 4000, .inr (.inl ((u.2.2.2.1))))), (Ad4, .inl (Ka4, 4000, .inl ((u.2.2.2.2.1)))), (Ad5, .inr (13, Fs0)), (Ad6, .inr (5, (u.2.2.2.2.2)))] t) (va_A [(Ad0, .inl (Ka0, 400, .inl Fa0)), (Ad1, .inl (Ka1, 400, .inl Fa1)), (Ad2, .inl (Ka2, 400, .inl Fa2)), (Ad3, .inl (Ka3, 4000, .inr (.inl Fa3))), (Ad4, .inl (Ka4, 4000, .inl Fa4)), (Ad5, .inr (13, Fs0)), (Ad6, .inr (5, Fs1))] sz))  0 0 (va_A [(Ad0, .inl (Ka0, 400, .inl Fa0)), (Ad1, .inl (Ka1, 400, .inl Fa1)), (Ad2, .inl (Ka2, 400, .inl Fa2)), (Ad3, .inl (Ka3, 4000, .inr (.inl Fa3))), (Ad4, .inl (Ka4, 4000, .inl Fa4)), (Ad5, .inr (13, Fs0)), (Ad6, .inr (5, Fs1))] sz) := by
  refine Met.ofW (cc := cX2_create) (maxL := 7) (ret := (some .int)) (by decide) rfl ?_
  intro p e s m args below meth c s₁ B hml hv
  obtain ⟨rfl, hsz, hP, hK, hD0⟩ := hv
  have hx := B.exec
  have hb := B.bytes
  have hr := B.returns
  have hts := atoms_spec (ws := w_z_X2_create_1) B.pre
  have hown : s.vm.findClass RX2 = some m.cls := findClass_of_methodNamed B.named
  have hlocks := B.notSynchronized
  subst hsz
  have hD := hD0.self (sz := s.heap.size)
  generalize hAe : va_A [(Ad0, .inl (Ka0, 400, .inl Fa0)), (Ad1, .inl (Ka1, 400, .inl Fa1)), (Ad2, .inl (Ka2, 400, .inl Fa2)), (Ad3, .inl (Ka3, 4000, .inr (.inl Fa3))), (Ad4, .inl (Ka4, 4000, .inl Fa4)), (Ad5, .inr (13, Fs0)), (Ad6, .inr (5, Fs1))] s.heap.size = A at hD ⊢
  have hA : ∀ q : Nat, s.heap.size ≤ q → A q := fun q h => by rw [← hAe]; exact Or.inr h
  have hS : va_S A s.heap s.heap [] := va_S.rf
  have hl := lv_entry ([.ref Ad6, .int Va0, .int Va1]) (n := 7) (Nat.le_of_ble_eq_true rfl)
  rw [lg_entry_eq]
  generalize (lg_sl ([.ref Ad6, .int Va0, .int Va1]) ++ List.replicate (7 - (lg_sl ([.ref Ad6, .int Va0, .int Va1])).length) Slot.unset).toArray = ls at hl ⊢
  have hl : lv_has ls 7 [(0, .ref Ad6), (1, .int Va0), (2, .int Va1)] := hl
  have o_Fs0 := ow_0 k_Fs0
  have o_Fs1 := ow_0 k_Fs1
  refine lv_aload_n hx hb dX2_create_0 rfl (lv_at hl 0 rfl) ?_
  refine va_get (D := (dC, dI)) (ci := 5) (v := .int 0) (C := RX2) (T := TX2) (N := 14) hx hb hts (in_z_X2_create_1_X2) hown hK hP 6 rfl rfl 1 (by decide) (hts (.fieldLink RX2 47 "HeapWorks$Heap" "made" "I") (by decide +kernel)) (fun _ h9 => h9) (ow_at o_Fs1 1 rfl) dX2_create_1 ?_
  refine lv_istore_n (lv' := [(3, .int 0), (0, .ref Ad6), (1, .int Va0), (2, .int Va1)]) hx hb dX2_create_4 rfl hl (by decide) rfl (fun ls hl => ?_)
  refine lv_aload_n hx hb dX2_create_5 rfl (lv_at hl 1 rfl) ?_
  refine lv_dup hx hb dX2_create_6 rfl ?_
  refine va_get (D := (dC, dI)) (ci := 5) (v := .int 0) (C := RX2) (T := TX2) (N := 14) hx hb hts (in_z_X2_create_1_X2) hown hK hP 6 rfl rfl 1 (by decide) (hts (.fieldLink RX2 47 "HeapWorks$Heap" "made" "I") (by decide +kernel)) (fun _ h9 => h9) (ow_at o_Fs1 1 rfl) dX2_create_7 ?_
  refine lv_iconst (v := 1) hx hb dX2_create_10 (by decide) ?_
  refine lv_iadd hx hb dX2_create_11  ?_
  refine lv_topi (fun x101 ex101 => ?_)
  obtain rfl : x101 = 1 := ex101.trans (by decide)
  refine va_put (D := (dC, dI)) (ci := 5) (v := .int 1) (ty := .int) (C := RX2) (T := TX2) (N := 14) hx hb hts (in_z_X2_create_1_X2) tyX2 tyX2_ok nmX2 hown hK hP hD hS 6 rfl rfl 1 (by decide) (hts (.fieldLink RX2 47 "HeapWorks$Heap" "made" "I") (by decide +kernel)) (fun _ h9 => h9) rfl (by decide +kernel) rfl rfl (by rw [o_Fs1.2.1]; decide) dX2_create_12 (fun H locs hP hD hS => ?_)
  have hP : va_P (dC, dI) vwCl [(Ad0, .inl (Ka0, 400, .inl Fa0)), (Ad1, .inl (Ka1, 400, .inl Fa1)), (Ad2, .inl (Ka2, 400, .inl Fa2)), (Ad3, .inl (Ka3, 4000, .inr (.inl Fa3))), (Ad4, .inl (Ka4, 4000, .inl Fa4)), (Ad5, .inr (13, Fs0)), (Ad6, .inr (5, (Fs1.set 1 (.int 1))))] H := hP
  have hD : va_D A [(Ad0, .inl (Ka0, 400, .inl Fa0)), (Ad1, .inl (Ka1, 400, .inl Fa1)), (Ad2, .inl (Ka2, 400, .inl Fa2)), (Ad3, .inl (Ka3, 4000, .inr (.inl Fa3))), (Ad4, .inl (Ka4, 4000, .inl Fa4)), (Ad5, .inr (13, Fs0)), (Ad6, .inr (5, (Fs1.set 1 (.int 1))))] := hD
  have o_s102 := ow_set o_Fs1 1 (.int 1) (by decide) (l' := [(1, .int 1), (0, .ref Ad5), (2, .int 0), (3, .int 0), (4, .ref Ad0), (5, .ref Ad1), (6, .ref Ad2), (7, .ref Ad3), (8, .ref Ad4)]) (w' := [1]) rfl rfl
  generalize (Fs1.set 1 (.int 1)) = s102 at hP hD o_s102
  refine lv_aload_n hx hb dX2_create_15 rfl (lv_at hl 1 rfl) ?_
  refine lv_dup hx hb dX2_create_16 rfl ?_
  refine va_get (D := (dC, dI)) (ci := 5) (v := .int 0) (C := RX2) (T := TX2) (N := 14) hx hb hts (in_z_X2_create_1_X2) hown hK hP 6 rfl rfl 2 (by decide) (hts (.fieldLink RX2 75 "HeapWorks$Heap" "there" "I") (by decide +kernel)) (fun _ h9 => h9) (ow_at o_s102 2 rfl) dX2_create_17 ?_
  refine lv_iconst (v := 1) hx hb dX2_create_20 (by decide) ?_
  refine lv_iadd hx hb dX2_create_21  ?_
  refine lv_topi (fun x103 ex103 => ?_)
  obtain rfl : x103 = 1 := ex103.trans (by decide)
  refine va_put (D := (dC, dI)) (ci := 5) (v := .int 1) (ty := .int) (C := RX2) (T := TX2) (N := 14) hx hb hts (in_z_X2_create_1_X2) tyX2 tyX2_ok nmX2 hown hK hP hD hS 6 rfl rfl 2 (by decide) (hts (.fieldLink RX2 75 "HeapWorks$Heap" "there" "I") (by decide +kernel)) (fun _ h9 => h9) rfl (by decide +kernel) rfl rfl (by rw [o_s102.2.1]; decide) dX2_create_22 (fun H locs hP hD hS => ?_)
  have hP : va_P (dC, dI) vwCl [(Ad0, .inl (Ka0, 400, .inl Fa0)), (Ad1, .inl (Ka1, 400, .inl Fa1)), (Ad2, .inl (Ka2, 400, .inl Fa2)), (Ad3, .inl (Ka3, 4000, .inr (.inl Fa3))), (Ad4, .inl (Ka4, 4000, .inl Fa4)), (Ad5, .inr (13, Fs0)), (Ad6, .inr (5, (s102.set 2 (.int 1))))] H := hP
  have hD : va_D A [(Ad0, .inl (Ka0, 400, .inl Fa0)), (Ad1, .inl (Ka1, 400, .inl Fa1)), (Ad2, .inl (Ka2, 400, .inl Fa2)), (Ad3, .inl (Ka3, 4000, .inr (.inl Fa3))), (Ad4, .inl (Ka4, 4000, .inl Fa4)), (Ad5, .inr (13, Fs0)), (Ad6, .inr (5, (s102.set 2 (.int 1))))] := hD
  have o_s104 := ow_set o_s102 2 (.int 1) (by decide) (l' := [(2, .int 1), (1, .int 1), (0, .ref Ad5), (3, .int 0), (4, .ref Ad0), (5, .ref Ad1), (6, .ref Ad2), (7, .ref Ad3), (8, .ref Ad4)]) (w' := [2, 1]) rfl rfl
  generalize (s102.set 2 (.int 1)) = s104 at hP hD o_s104
  refine lv_aload_n hx hb dX2_create_25 rfl (lv_at hl 1 rfl) ?_
  refine va_get (D := (dC, dI)) (ci := 5) (v := .ref Ad0) (C := RX2) (T := TX2) (N := 14) hx hb hts (in_z_X2_create_1_X2) hown hK hP 6 rfl rfl 4 (by decide) (hts (.fieldLink RX2 15 "HeapWorks$Heap" "type" "[I") (by decide +kernel)) (fun _ h9 => h9) (ow_at o_s104 4 rfl) dX2_create_26 ?_
  refine lv_iload_n hx hb dX2_create_29 rfl (lv_at hl 0 rfl) ?_
  refine lv_iload_n hx hb dX2_create_30 rfl (lv_at hl 2 rfl) ?_
  refine va_iast hx hb hK hP hD hS 0 0 rfl rfl (show vp_in 0 400 from by unfold vp_in; decide) dX2_create_31 (fun H locs hP hD hS => ?_)
  have hP : va_P (dC, dI) vwCl [(Ad0, .inl (Ka0, 400, .inl (upd Fa0 (0 : Int32).toNatClampNeg Va0))), (Ad1, .inl (Ka1, 400, .inl Fa1)), (Ad2, .inl (Ka2, 400, .inl Fa2)), (Ad3, .inl (Ka3, 4000, .inr (.inl Fa3))), (Ad4, .inl (Ka4, 4000, .inl Fa4)), (Ad5, .inr (13, Fs0)), (Ad6, .inr (5, s104))] H := hP
  have hD : va_D A [(Ad0, .inl (Ka0, 400, .inl (upd Fa0 (0 : Int32).toNatClampNeg Va0))), (Ad1, .inl (Ka1, 400, .inl Fa1)), (Ad2, .inl (Ka2, 400, .inl Fa2)), (Ad3, .inl (Ka3, 4000, .inr (.inl Fa3))), (Ad4, .inl (Ka4, 4000, .inl Fa4)), (Ad5, .inr (13, Fs0)), (Ad6, .inr (5, s104))] := hD
  have q106 : (upd Fa0 (0 : Int32).toNatClampNeg Va0) (0 : Int32).toNatClampNeg = Va0 := pk_us
  generalize upd Fa0 (0 : Int32).toNatClampNeg Va0 = f105 at hP hD q106
  refine lv_aload_n hx hb dX2_create_32 rfl (lv_at hl 1 rfl) ?_
  refine va_get (D := (dC, dI)) (ci := 5) (v := .ref Ad1) (C := RX2) (T := TX2) (N := 14) hx hb hts (in_z_X2_create_1_X2) hown hK hP 6 rfl rfl 5 (by decide) (hts (.fieldLink RX2 19 "HeapWorks$Heap" "length" "[I") (by decide +kernel)) (fun _ h9 => h9) (ow_at o_s104 5 rfl) dX2_create_33 ?_
  refine lv_iload_n hx hb dX2_create_36 rfl (lv_at hl 0 rfl) ?_
  refine lv_iload_n hx hb dX2_create_37 rfl (lv_at hl 3 rfl) ?_
  refine va_iast hx hb hK hP hD hS 1 1 rfl rfl (show vp_in 0 400 from by unfold vp_in; decide) dX2_create_38 (fun H locs hP hD hS => ?_)
  have hP : va_P (dC, dI) vwCl [(Ad0, .inl (Ka0, 400, .inl f105)), (Ad1, .inl (Ka1, 400, .inl (upd Fa1 (0 : Int32).toNatClampNeg Va1))), (Ad2, .inl (Ka2, 400, .inl Fa2)), (Ad3, .inl (Ka3, 4000, .inr (.inl Fa3))), (Ad4, .inl (Ka4, 4000, .inl Fa4)), (Ad5, .inr (13, Fs0)), (Ad6, .inr (5, s104))] H := hP
  have hD : va_D A [(Ad0, .inl (Ka0, 400, .inl f105)), (Ad1, .inl (Ka1, 400, .inl (upd Fa1 (0 : Int32).toNatClampNeg Va1))), (Ad2, .inl (Ka2, 400, .inl Fa2)), (Ad3, .inl (Ka3, 4000, .inr (.inl Fa3))), (Ad4, .inl (Ka4, 4000, .inl Fa4)), (Ad5, .inr (13, Fs0)), (Ad6, .inr (5, s104))] := hD
  have q108 : (upd Fa1 (0 : Int32).toNatClampNeg Va1) (0 : Int32).toNatClampNeg = Va1 := pk_us
  generalize upd Fa1 (0 : Int32).toNatClampNeg Va1 = f107 at hP hD q108
  refine lv_aload_n hx hb dX2_create_39 rfl (lv_at hl 1 rfl) ?_
  refine va_get (D := (dC, dI)) (ci := 5) (v := .ref Ad2) (C := RX2) (T := TX2) (N := 14) hx hb hts (in_z_X2_create_1_X2) hown hK hP 6 rfl rfl 6 (by decide) (hts (.fieldLink RX2 22 "HeapWorks$Heap" "first" "[I") (by decide +kernel)) (fun _ h9 => h9) (ow_at o_s104 6 rfl) dX2_create_40 ?_
  refine lv_iload_n hx hb dX2_create_43 rfl (lv_at hl 0 rfl) ?_
  refine lv_aload_n hx hb dX2_create_44 rfl (lv_at hl 1 rfl) ?_
  refine va_get (D := (dC, dI)) (ci := 5) (v := .int 0) (C := RX2) (T := TX2) (N := 14) hx hb hts (in_z_X2_create_1_X2) hown hK hP 6 rfl rfl 3 (by decide) (hts (.fieldLink RX2 62 "HeapWorks$Heap" "slots" "I") (by decide +kernel)) (fun _ h9 => h9) (ow_at o_s104 3 rfl) dX2_create_45 ?_
  refine va_iast hx hb hK hP hD hS 2 2 rfl rfl (show vp_in 0 400 from by unfold vp_in; decide) dX2_create_48 (fun H locs hP hD hS => ?_)
  have hP : va_P (dC, dI) vwCl [(Ad0, .inl (Ka0, 400, .inl f105)), (Ad1, .inl (Ka1, 400, .inl f107)), (Ad2, .inl (Ka2, 400, .inl (upd Fa2 (0 : Int32).toNatClampNeg 0))), (Ad3, .inl (Ka3, 4000, .inr (.inl Fa3))), (Ad4, .inl (Ka4, 4000, .inl Fa4)), (Ad5, .inr (13, Fs0)), (Ad6, .inr (5, s104))] H := hP
  have hD : va_D A [(Ad0, .inl (Ka0, 400, .inl f105)), (Ad1, .inl (Ka1, 400, .inl f107)), (Ad2, .inl (Ka2, 400, .inl (upd Fa2 (0 : Int32).toNatClampNeg 0))), (Ad3, .inl (Ka3, 4000, .inr (.inl Fa3))), (Ad4, .inl (Ka4, 4000, .inl Fa4)), (Ad5, .inr (13, Fs0)), (Ad6, .inr (5, s104))] := hD
  have q110 : (upd Fa2 (0 : Int32).toNatClampNeg 0) (0 : Int32).toNatClampNeg = 0 := pk_us
  generalize upd Fa2 (0 : Int32).toNatClampNeg 0 = f109 at hP hD q110
  refine lv_aload_n hx hb dX2_create_49 rfl (lv_at hl 1 rfl) ?_
  refine va_get (D := (dC, dI)) (ci := 5) (v := .ref Ad5) (C := RX2) (T := TX2) (N := 14) hx hb hts (in_z_X2_create_1_X2) hown hK hP 6 rfl rfl 0 (by decide) (hts (.fieldLink RX2 9 "HeapWorks$Heap" "types" "LHeapWorks$Types;") (by decide +kernel)) (fun _ h9 => h9) (ow_at o_s104 2 rfl) dX2_create_50 ?_
  refine lv_iload_n hx hb dX2_create_53 rfl (lv_at hl 2 rfl) ?_
  have hPc := hP.sub (ws' := [(Ad5, .inr (13, Fs0))]) [5] rfl
  have hDc := hD.sub (ws' := [(Ad5, .inr (13, Fs0))]) [5] (by decide) rfl
  have hKc := hK.sub (tys' := []) [] rfl
  have hFc := va_free (wc := [(Ad5, .inr (13, Fs0))]) hD hS hA [5] rfl
  refine va_callv (va_runV (As := [.int Va0]) (rest := []) ⟨hx, hb, hml, hown, hts⟩ (z_X10_use l dC dI H.size Ad5 Fs0 Va0 (fh_sub o_Fs0.2 [0] rfl) ) (cwV 1 hts g_z_X2_create_1_z_X10_use_78 rfl rfl rfl (by decide +kernel) ⟨Nat.le_of_ble_eq_true rfl, Nat.le_of_ble_eq_true rfl⟩) ⟨fun a U g mk q => by obtain ⟨q0, q1, qP, qK, qD⟩ := q; exact ⟨q0, q1, qP, va_K.moved (u := U) (U := U.calling g mk a) (Vm.Alike.refl U.vm) qK, qD⟩, va_recv hK hP (ci := 13) (q0 := 5) rfl rfl, fun U hU hW => ⟨rfl, by rw [hU], by rw [hU]; exact hPc, va_K.moved hW.alike hKc, hDc.weaken (fun _ _ _ _ => trivial)⟩⟩ rfl rfl hl.1 rfl (lv_room (Nat.le_of_ble_eq_true rfl)) dX2_create_54 ⟨Nat.le_of_ble_eq_true rfl, Nat.le_of_ble_eq_true rfl⟩) hS (fun q _ h => hFc q h) hFc (fun u t H1 locs ht hvm hw hB hz1 hk1 hS => ?_)
  obtain ⟨hP1, hK1, hD1⟩ := hB
  rw [ht] at hP1
  try dsimp only at hw
  obtain ⟨hP, hD⟩ := va_join (wr := [(Ad0, .inl (Ka0, 400, .inl f105)), (Ad1, .inl (Ka1, 400, .inl f107)), (Ad2, .inl (Ka2, 400, .inl f109)), (Ad3, .inl (Ka3, 4000, .inr (.inl Fa3))), (Ad4, .inl (Ka4, 4000, .inl Fa4)), (Ad6, .inr (5, s104))]) (w1 := [(Ad5, .inr (13, Fs0))]) hP hD [5] [0, 1, 2, 3, 4, 6] rfl rfl (by decide) (by decide) hk1 hFc hP1 hD1
  have hK := hK.sub (tys' := [(Ka0, .int), (Ka1, .int), (Ka2, .int), (Ka3, .long), (Ka4, .boolean)]) [0, 1, 2, 3, 4] rfl
  generalize H1 = H at hP hS ⊢
  have hP : va_P (dC, dI) vwCl [(Ad0, .inl (Ka0, 400, .inl f105)), (Ad1, .inl (Ka1, 400, .inl f107)), (Ad2, .inl (Ka2, 400, .inl f109)), (Ad3, .inl (Ka3, 4000, .inr (.inl Fa3))), (Ad4, .inl (Ka4, 4000, .inl Fa4)), (Ad6, .inr (5, s104)), (Ad5, .inr (13, Fs0))] H := hP
  have hD : va_D A [(Ad0, .inl (Ka0, 400, .inl f105)), (Ad1, .inl (Ka1, 400, .inl f107)), (Ad2, .inl (Ka2, 400, .inl f109)), (Ad3, .inl (Ka3, 4000, .inr (.inl Fa3))), (Ad4, .inl (Ka4, 4000, .inl Fa4)), (Ad6, .inr (5, s104)), (Ad5, .inr (13, Fs0))] := hD
  rcases hw with c111 | ⟨c112, c113⟩
  · exact (by exfalso; (try simp only [i_lt, i_le, i_eq, kc_0] at gv_Va0 c111); omega)
  · skip
    refine lv_aload_n hx hb dX2_create_57 rfl (lv_at hl 1 rfl) ?_
    refine va_get (D := (dC, dI)) (ci := 5) (v := .ref Ad5) (C := RX2) (T := TX2) (N := 14) hx hb hts (in_z_X2_create_1_X2) hown hK hP 5 rfl rfl 0 (by decide) (hts (.fieldLink RX2 9 "HeapWorks$Heap" "types" "LHeapWorks$Types;") (by decide +kernel)) (fun _ h9 => h9) (ow_at o_s104 2 rfl) dX2_create_58 ?_
    refine lv_iload_n hx hb dX2_create_61 rfl (lv_at hl 2 rfl) ?_
    refine lv_iload_n hx hb dX2_create_62 rfl (lv_at hl 3 rfl) ?_
    have hPc := hP.sub (ws' := []) [] rfl
    have hDc := hD.sub (ws' := []) [] (by decide) rfl
    have hKc := hK.sub (tys' := []) [] rfl
    have hFc := va_free (wc := []) hD hS hA [] rfl
    refine va_calli (va_runV (As := [.int Va0, .int Va1]) (rest := []) ⟨hx, hb, hml, hown, hts⟩ (z_X10_slotsOf_1 l dC dI H.size Ad5 Va0 Va1  (by (try simp only [i_lt, i_le, i_eq, kc_0] at gv_Va0 c112 c113); omega) (by (try simp only [i_lt, i_le, i_eq] at gv_Va1); omega)) (cwV 2 hts g_z_X2_create_1_z_X10_slotsOf_1_51 rfl rfl rfl (by decide +kernel) ⟨Nat.le_of_ble_eq_true rfl, Nat.le_of_ble_eq_true rfl⟩) ⟨fun a U g mk q => by obtain ⟨q0, q1, qP, qK, qD⟩ := q; exact ⟨q0, q1, qP, va_K.moved (u := U) (U := U.calling g mk a) (Vm.Alike.refl U.vm) qK, qD⟩, va_recv hK hP (ci := 13) (q0 := 6) rfl rfl, fun U hU hW => ⟨rfl, by rw [hU], by rw [hU]; exact hPc, va_K.moved hW.alike hKc, hDc.weaken (fun _ _ _ _ => trivial)⟩⟩ rfl rfl hl.1 rfl (lv_room (Nat.le_of_ble_eq_true rfl)) dX2_create_63 ⟨Nat.le_of_ble_eq_true rfl, Nat.le_of_ble_eq_true rfl⟩) hS (fun q _ h => hFc q h) hFc (fun r114 u t H1 locs ht hvm hw hB hz1 hk1 hS => ?_)
    obtain ⟨hP1, hK1, hD1⟩ := hB
    rw [ht] at hP1
    try dsimp only at hw
    obtain ⟨hP, hD⟩ := va_join (wr := [(Ad0, .inl (Ka0, 400, .inl f105)), (Ad1, .inl (Ka1, 400, .inl f107)), (Ad2, .inl (Ka2, 400, .inl f109)), (Ad3, .inl (Ka3, 4000, .inr (.inl Fa3))), (Ad4, .inl (Ka4, 4000, .inl Fa4)), (Ad6, .inr (5, s104)), (Ad5, .inr (13, Fs0))]) (w1 := []) hP hD [] [0, 1, 2, 3, 4, 5, 6] rfl rfl (by decide) (by decide) hk1 hFc hP1 hD1
    have hK := hK.sub (tys' := [(Ka0, .int), (Ka1, .int), (Ka2, .int), (Ka3, .long), (Ka4, .boolean)]) [0, 1, 2, 3, 4] rfl
    generalize H1 = H at hP hS ⊢
    have hP : va_P (dC, dI) vwCl [(Ad0, .inl (Ka0, 400, .inl f105)), (Ad1, .inl (Ka1, 400, .inl f107)), (Ad2, .inl (Ka2, 400, .inl f109)), (Ad3, .inl (Ka3, 4000, .inr (.inl Fa3))), (Ad4, .inl (Ka4, 4000, .inl Fa4)), (Ad6, .inr (5, s104)), (Ad5, .inr (13, Fs0))] H := hP
    have hD : va_D A [(Ad0, .inl (Ka0, 400, .inl f105)), (Ad1, .inl (Ka1, 400, .inl f107)), (Ad2, .inl (Ka2, 400, .inl f109)), (Ad3, .inl (Ka3, 4000, .inr (.inl Fa3))), (Ad4, .inl (Ka4, 4000, .inl Fa4)), (Ad6, .inr (5, s104)), (Ad5, .inr (13, Fs0))] := hD
    obtain ⟨c115, er116⟩ := hw
    have qer116 := er116.symm
    subst qer116
    refine lv_istore (lv' := [(4, .int Va1), (3, .int 0), (0, .ref Ad6), (1, .int Va0), (2, .int Va1)]) hx hb dX2_create_66 hl (by decide) rfl (fun ls hl => ?_)
    refine lv_iconst (v := 0) hx hb dX2_create_68 (by decide) ?_
    refine lv_istore (lv' := [(5, .int 0), (4, .int Va1), (3, .int 0), (0, .ref Ad6), (1, .int Va0), (2, .int Va1)]) hx hb dX2_create_69 hl (by decide) rfl (fun ls hl => ?_)
    have HL1 : ∀ (n j162 : Nat) (x163 : Int32) (f164 : Nat → Int64) (f165 : Nat → Int32) (s166 : List Value), x163 = nI j162 → 0 ≤ j162 → j162 ≤ 60 → 61 ≤ j162 + n → ∀ (H : Heap) (locs : List Loc) (ls : Array Slot), va_P (dC, dI) vwCl [(Ad0, .inl (Ka0, 400, .inl f105)), (Ad1, .inl (Ka1, 400, .inl f107)), (Ad2, .inl (Ka2, 400, .inl f109)), (Ad3, .inl (Ka3, 4000, .inr (.inl f164))), (Ad4, .inl (Ka4, 4000, .inl f165)), (Ad6, .inr (5, s166)), (Ad5, .inr (13, Fs0))] H → va_D A [(Ad0, .inl (Ka0, 400, .inl f105)), (Ad1, .inl (Ka1, 400, .inl f107)), (Ad2, .inl (Ka2, 400, .inl f109)), (Ad3, .inl (Ka3, 4000, .inr (.inl f164))), (Ad4, .inl (Ka4, 4000, .inl f165)), (Ad6, .inr (5, s166)), (Ad5, .inr (13, Fs0))] → va_S A s.heap H locs → ow Fs1 s166 14 [1, 2, 3] [(3, .int x163), (0, .ref Ad5), (4, .ref Ad0), (5, .ref Ad1), (6, .ref Ad2), (7, .ref Ad3), (8, .ref Ad4)] → lv_has ls 7 [(5, .int x163), (4, .int Va1), (3, .int 0), (0, .ref Ad6), (1, .int Va0), (2, .int Va1)] → W p l e (headSpec w_z_X2_create_1 ({ frames := 2, cells := 0, slots := 0, locals := 42 })).room s m ([.ref Ad6, .int Va0, .int Va1]).toArray below meth c H locs 0 0 (MQ below (va_Qi (fun (r : Int32) (u : (Nat → Int32) × (Nat → Int32) × (Nat → Int32) × (Nat → Int64) × (Nat → Int32) × List Value) => (¬ Va0 < 0 ∧ 0 ≤ Va0 ∧ ¬ Va0 < 20 ∧ r = 0 ∧ ow Fs1 (u.2.2.2.2.2) 14 [1, 2, 3] [(0, .ref Ad5), (4, .ref Ad0), (5, .ref Ad1), (6, .ref Ad2), (7, .ref Ad3), (8, .ref Ad4)] ∧ (u.1) (0 : Int32).toNatClampNeg = Va0 ∧ (u.2.1) (0 : Int32).toNatClampNeg = Va1 ∧ (u.2.2.1) (0 : Int32).toNatClampNeg = 0)) (fun (u : (Nat → Int32) × (Nat → Int32) × (Nat → Int32) × (Nat → Int64) × (Nat → Int32) × List Value) t => Wd dC dI [(Ka0, .int), (Ka1, .int), (Ka2, .int), (Ka3, .long), (Ka4, .boolean)] A [(Ad0, .inl (Ka0, 400, .inl ((u.1)))), (Ad1, .inl (Ka1, 400, .inl ((u.2.1)))), (Ad2, .inl (Ka2, 400, .inl ((u.2.2.1)))), (Ad3, .inl (Ka3, 4000, .inr (.inl ((u.2.2.2.1))))), (Ad4, .inl (Ka4, 4000, .inl ((u.2.2.2.2.1)))), (Ad5, .inr (13, Fs0)), (Ad6, .inr (5, (u.2.2.2.2.2)))] t) A) ([.ref Ad6, .int Va0, .int Va1]).toArray s 0 0 A) (F0 m 71 ls []) := by
      intro n
      induction n with
      | zero =>
        intro j162 x163 f164 f165 s166 e167 h169 h170 h171
        exact absurd h171 (by omega)
      | succ n ih =>
        intro j162 x163 f164 f165 s166 e167 h169 h170 h171 H locs ls hP hD hS o_s166 hl
        have t168 : x163.toInt = (j162 : Int) := by rw [e167]; exact nI_toInt (by omega)
        refine lv_iload hx hb dX2_create_71 (lv_at hl 0 rfl) ?_
        refine lv_iload hx hb dX2_create_73 (lv_at hl 1 rfl) ?_
        refine lv_icmp_ge (tgt := 140) hx hb dX2_create_75 (by decide) (fun c172 => ?_) (fun c172 => ?_)
        · skip
          refine lv_iload_n hx hb dX2_create_140 rfl (lv_at hl 2 rfl) ?_
          have hP9 := hP.sub (ws' := [(Ad0, .inl (Ka0, 400, .inl f105)), (Ad1, .inl (Ka1, 400, .inl f107)), (Ad2, .inl (Ka2, 400, .inl f109)), (Ad3, .inl (Ka3, 4000, .inr (.inl f164))), (Ad4, .inl (Ka4, 4000, .inl f165)), (Ad5, .inr (13, Fs0)), (Ad6, .inr (5, s166))]) [0, 1, 2, 3, 4, 6, 5] rfl
          have hD9 := hD.sub (ws' := [(Ad0, .inl (Ka0, 400, .inl f105)), (Ad1, .inl (Ka1, 400, .inl f107)), (Ad2, .inl (Ka2, 400, .inl f109)), (Ad3, .inl (Ka3, 4000, .inr (.inl f164))), (Ad4, .inl (Ka4, 4000, .inl f165)), (Ad5, .inr (13, Fs0)), (Ad6, .inr (5, s166))]) [0, 1, 2, 3, 4, 6, 5] (by decide) rfl
          have hK9 := hK.sub (tys' := [(Ka0, .int), (Ka1, .int), (Ka2, .int), (Ka3, .long), (Ka4, .boolean)]) [0, 1, 2, 3, 4] rfl
          exact W.iret (v := 0) hx hb hr (fun t ht hW => ⟨⟨0, (f105, f107, f109, f164, f165, s166), rfl, ⟨c112, c113, c115, rfl, (ow_sub o_s166 [1, 2, 3, 4, 5, 6] rfl), q106, q108, q110⟩, by rw [ht]; exact hP9, va_K.moved hW.alike hK9, hD9⟩, hS.F ht⟩) hS.2.2 dX2_create_141
        · skip
          refine lv_aload_n hx hb dX2_create_78 rfl (lv_at hl 3 rfl) ?_
          refine va_get (D := (dC, dI)) (ci := 5) (v := .ref Ad5) (C := RX2) (T := TX2) (N := 14) hx hb hts (in_z_X2_create_1_X2) hown hK hP 5 rfl rfl 0 (by decide) (hts (.fieldLink RX2 9 "HeapWorks$Heap" "types" "LHeapWorks$Types;") (by decide +kernel)) (fun _ h9 => h9) (ow_at o_s166 1 rfl) dX2_create_79 ?_
          refine lv_iload_n hx hb dX2_create_82 rfl (lv_at hl 4 rfl) ?_
          refine lv_iload hx hb dX2_create_83 (lv_at hl 0 rfl) ?_
          have hPc := hP.sub (ws' := []) [] rfl
          have hDc := hD.sub (ws' := []) [] (by decide) rfl
          have hKc := hK.sub (tys' := []) [] rfl
          have hFc := va_free (wc := []) hD hS hA [] rfl
          refine va_calli (va_runV (As := [.int Va0, .int x163]) (rest := []) ⟨hx, hb, hml, hown, hts⟩ (z_X10_kindAt_1 l dC dI H.size Ad5 Va0 x163  (by (try simp only [i_lt, i_le, i_eq, kc_0, kc_20] at gv_Va0 c112 c113 c115); omega) (by (try simp only [i_lt, i_le, i_eq] at t168 h170 h169 c172 gv_Va1); omega)) (cwV 2 hts g_z_X2_create_1_z_X10_kindAt_1_82 rfl rfl rfl (by decide +kernel) ⟨Nat.le_of_ble_eq_true rfl, Nat.le_of_ble_eq_true rfl⟩) ⟨fun a U g mk q => by obtain ⟨q0, q1, qP, qK, qD⟩ := q; exact ⟨q0, q1, qP, va_K.moved (u := U) (U := U.calling g mk a) (Vm.Alike.refl U.vm) qK, qD⟩, va_recv hK hP (ci := 13) (q0 := 6) rfl rfl, fun U hU hW => ⟨rfl, by rw [hU], by rw [hU]; exact hPc, va_K.moved hW.alike hKc, hDc.weaken (fun _ _ _ _ => trivial)⟩⟩ rfl rfl hl.1 rfl (lv_room (Nat.le_of_ble_eq_true rfl)) dX2_create_85 ⟨Nat.le_of_ble_eq_true rfl, Nat.le_of_ble_eq_true rfl⟩) hS (fun q _ h => hFc q h) hFc (fun r173 u t H1 locs ht hvm hw hB hz1 hk1 hS => ?_)
          obtain ⟨hP1, hK1, hD1⟩ := hB
          rw [ht] at hP1
          try dsimp only at hw
          obtain ⟨hP, hD⟩ := va_join (wr := [(Ad0, .inl (Ka0, 400, .inl f105)), (Ad1, .inl (Ka1, 400, .inl f107)), (Ad2, .inl (Ka2, 400, .inl f109)), (Ad3, .inl (Ka3, 4000, .inr (.inl f164))), (Ad4, .inl (Ka4, 4000, .inl f165)), (Ad6, .inr (5, s166)), (Ad5, .inr (13, Fs0))]) (w1 := []) hP hD [] [0, 1, 2, 3, 4, 5, 6] rfl rfl (by decide) (by decide) hk1 hFc hP1 hD1
          have hK := hK.sub (tys' := [(Ka0, .int), (Ka1, .int), (Ka2, .int), (Ka3, .long), (Ka4, .boolean)]) [0, 1, 2, 3, 4] rfl
          generalize H1 = H at hP hS ⊢
          have hP : va_P (dC, dI) vwCl [(Ad0, .inl (Ka0, 400, .inl f105)), (Ad1, .inl (Ka1, 400, .inl f107)), (Ad2, .inl (Ka2, 400, .inl f109)), (Ad3, .inl (Ka3, 4000, .inr (.inl f164))), (Ad4, .inl (Ka4, 4000, .inl f165)), (Ad6, .inr (5, s166)), (Ad5, .inr (13, Fs0))] H := hP
          have hD : va_D A [(Ad0, .inl (Ka0, 400, .inl f105)), (Ad1, .inl (Ka1, 400, .inl f107)), (Ad2, .inl (Ka2, 400, .inl f109)), (Ad3, .inl (Ka3, 4000, .inr (.inl f164))), (Ad4, .inl (Ka4, 4000, .inl f165)), (Ad6, .inr (5, s166)), (Ad5, .inr (13, Fs0))] := hD
          obtain ⟨c174, er175⟩ := hw
          subst er175
          refine lv_istore (lv' := [(6, .int 5), (5, .int x163), (4, .int Va1), (3, .int 0), (0, .ref Ad6), (1, .int Va0), (2, .int Va1)]) hx hb dX2_create_88 hl (by decide) rfl (fun ls hl => ?_)
          refine lv_aload_n hx hb dX2_create_90 rfl (lv_at hl 4 rfl) ?_
          refine va_get (D := (dC, dI)) (ci := 5) (v := .ref Ad4) (C := RX2) (T := TX2) (N := 14) hx hb hts (in_z_X2_create_1_X2) hown hK hP 5 rfl rfl 8 (by decide) (hts (.fieldLink RX2 29 "HeapWorks$Heap" "link" "[Z") (by decide +kernel)) (fun _ h9 => h9) (ow_at o_s166 6 rfl) dX2_create_91 ?_
          refine lv_aload_n hx hb dX2_create_94 rfl (lv_at hl 4 rfl) ?_
          refine va_get (D := (dC, dI)) (ci := 5) (v := .int x163) (C := RX2) (T := TX2) (N := 14) hx hb hts (in_z_X2_create_1_X2) hown hK hP 5 rfl rfl 3 (by decide) (hts (.fieldLink RX2 62 "HeapWorks$Heap" "slots" "I") (by decide +kernel)) (fun _ h9 => h9) (ow_at o_s166 0 rfl) dX2_create_95 ?_
          refine lv_iload hx hb dX2_create_98 (lv_at hl 0 rfl) ?_
          refine lv_iconst (v := 5) hx hb dX2_create_100 (by decide) ?_
          refine lv_icmp_ne (tgt := 108) hx hb dX2_create_101 (by decide) (fun c176 => absurd c176 (by decide)) (fun c176 => ?_)
          refine lv_iconst (v := 1) hx hb dX2_create_104 (by decide) ?_
          refine lv_goto (tgt := 109) hx hb dX2_create_105 (by decide) ?_
          refine va_zast hx hb hK hP hD hS 4 4 rfl rfl (by rw [vp_in_iff]; (try simp only [i_lt, i_le, i_eq] at t168 h170 h169 c172 gv_Va1); omega) dX2_create_109 (fun H locs hP hD hS => ?_)
          have hP : va_P (dC, dI) vwCl [(Ad0, .inl (Ka0, 400, .inl f105)), (Ad1, .inl (Ka1, 400, .inl f107)), (Ad2, .inl (Ka2, 400, .inl f109)), (Ad3, .inl (Ka3, 4000, .inr (.inl f164))), (Ad4, .inl (Ka4, 4000, .inl (upd f165 (x163 : Int32).toNatClampNeg (vp_nar .boolean 1)))), (Ad6, .inr (5, s166)), (Ad5, .inr (13, Fs0))] H := hP
          have hD : va_D A [(Ad0, .inl (Ka0, 400, .inl f105)), (Ad1, .inl (Ka1, 400, .inl f107)), (Ad2, .inl (Ka2, 400, .inl f109)), (Ad3, .inl (Ka3, 4000, .inr (.inl f164))), (Ad4, .inl (Ka4, 4000, .inl (upd f165 (x163 : Int32).toNatClampNeg (vp_nar .boolean 1)))), (Ad6, .inr (5, s166)), (Ad5, .inr (13, Fs0))] := hD
          have q178 : (upd f165 (x163 : Int32).toNatClampNeg (vp_nar .boolean 1)) (x163 : Int32).toNatClampNeg = 1 := (pk_us.trans (by decide))
          generalize upd f165 (x163 : Int32).toNatClampNeg (vp_nar .boolean 1) = f177 at hP hD q178
          refine lv_aload_n hx hb dX2_create_110 rfl (lv_at hl 4 rfl) ?_
          refine va_get (D := (dC, dI)) (ci := 5) (v := .ref Ad3) (C := RX2) (T := TX2) (N := 14) hx hb hts (in_z_X2_create_1_X2) hown hK hP 5 rfl rfl 7 (by decide) (hts (.fieldLink RX2 25 "HeapWorks$Heap" "value" "[J") (by decide +kernel)) (fun _ h9 => h9) (ow_at o_s166 5 rfl) dX2_create_111 ?_
          refine lv_aload_n hx hb dX2_create_114 rfl (lv_at hl 4 rfl) ?_
          refine va_get (D := (dC, dI)) (ci := 5) (v := .int x163) (C := RX2) (T := TX2) (N := 14) hx hb hts (in_z_X2_create_1_X2) hown hK hP 5 rfl rfl 3 (by decide) (hts (.fieldLink RX2 62 "HeapWorks$Heap" "slots" "I") (by decide +kernel)) (fun _ h9 => h9) (ow_at o_s166 0 rfl) dX2_create_115 ?_
          refine lv_iload hx hb dX2_create_118 (lv_at hl 0 rfl) ?_
          have hPc := hP.sub (ws' := []) [] rfl
          have hDc := hD.sub (ws' := []) [] (by decide) rfl
          have hKc := hK.sub (tys' := []) [] rfl
          have hFc := va_free (wc := []) hD hS hA [] rfl
          refine va_calll (va_runS (As := [.int 5]) (rest := [.int x163, .ref Ad3]) ⟨hx, hb, hml, hown, hts⟩ (z_X10_firstValue_1 l dC dI H.size   ) (va_cwS 1 hts g_z_X2_create_1_z_X10_firstValue_1_85 rfl rfl rfl (by decide +kernel) ⟨Nat.le_of_ble_eq_true rfl, Nat.le_of_ble_eq_true rfl⟩) ⟨fun a U g mk q => by obtain ⟨q0, q1, qP, qK, qD⟩ := q; exact ⟨q0, q1, qP, va_K.moved (u := U) (U := U.calling g mk a) (Vm.Alike.refl U.vm) qK, qD⟩, fun U hU hW => ⟨rfl, by rw [hU], by rw [hU]; exact hPc, va_K.moved hW.alike hKc, hDc.weaken (fun _ _ _ _ => trivial)⟩⟩ rfl rfl hl.1 rfl (lv_room (Nat.le_of_ble_eq_true rfl)) dX2_create_120 ⟨Nat.le_of_ble_eq_true rfl, Nat.le_of_ble_eq_true rfl⟩) hS (fun q _ h => hFc q h) hFc (fun r179 u t H1 locs ht hvm hw hB hz1 hk1 hS => ?_)
          obtain ⟨hP1, hK1, hD1⟩ := hB
          rw [ht] at hP1
          try dsimp only at hw
          obtain ⟨hP, hD⟩ := va_join (wr := [(Ad0, .inl (Ka0, 400, .inl f105)), (Ad1, .inl (Ka1, 400, .inl f107)), (Ad2, .inl (Ka2, 400, .inl f109)), (Ad3, .inl (Ka3, 4000, .inr (.inl f164))), (Ad4, .inl (Ka4, 4000, .inl f177)), (Ad6, .inr (5, s166)), (Ad5, .inr (13, Fs0))]) (w1 := []) hP hD [] [0, 1, 2, 3, 4, 5, 6] rfl rfl (by decide) (by decide) hk1 hFc hP1 hD1
          have hK := hK.sub (tys' := [(Ka0, .int), (Ka1, .int), (Ka2, .int), (Ka3, .long), (Ka4, .boolean)]) [0, 1, 2, 3, 4] rfl
          generalize H1 = H at hP hS ⊢
          have hP : va_P (dC, dI) vwCl [(Ad0, .inl (Ka0, 400, .inl f105)), (Ad1, .inl (Ka1, 400, .inl f107)), (Ad2, .inl (Ka2, 400, .inl f109)), (Ad3, .inl (Ka3, 4000, .inr (.inl f164))), (Ad4, .inl (Ka4, 4000, .inl f177)), (Ad6, .inr (5, s166)), (Ad5, .inr (13, Fs0))] H := hP
          have hD : va_D A [(Ad0, .inl (Ka0, 400, .inl f105)), (Ad1, .inl (Ka1, 400, .inl f107)), (Ad2, .inl (Ka2, 400, .inl f109)), (Ad3, .inl (Ka3, 4000, .inr (.inl f164))), (Ad4, .inl (Ka4, 4000, .inl f177)), (Ad6, .inr (5, s166)), (Ad5, .inr (13, Fs0))] := hD
          have er180 := hw
          subst er180
          refine va_last hx hb hK hP hD hS 3 3 rfl rfl (by rw [vp_in_iff]; (try simp only [i_lt, i_le, i_eq] at t168 h170 h169 c172 gv_Va1); omega) dX2_create_123 (fun H locs hP hD hS => ?_)
          have hP : va_P (dC, dI) vwCl [(Ad0, .inl (Ka0, 400, .inl f105)), (Ad1, .inl (Ka1, 400, .inl f107)), (Ad2, .inl (Ka2, 400, .inl f109)), (Ad3, .inl (Ka3, 4000, .inr (.inl (vp_updL f164 (x163 : Int32).toNatClampNeg (-1))))), (Ad4, .inl (Ka4, 4000, .inl f177)), (Ad6, .inr (5, s166)), (Ad5, .inr (13, Fs0))] H := hP
          have hD : va_D A [(Ad0, .inl (Ka0, 400, .inl f105)), (Ad1, .inl (Ka1, 400, .inl f107)), (Ad2, .inl (Ka2, 400, .inl f109)), (Ad3, .inl (Ka3, 4000, .inr (.inl (vp_updL f164 (x163 : Int32).toNatClampNeg (-1))))), (Ad4, .inl (Ka4, 4000, .inl f177)), (Ad6, .inr (5, s166)), (Ad5, .inr (13, Fs0))] := hD
          have q182 : (vp_updL f164 (x163 : Int32).toNatClampNeg (-1)) (x163 : Int32).toNatClampNeg = (-1) := pk_uLs
          generalize vp_updL f164 (x163 : Int32).toNatClampNeg (-1) = f181 at hP hD q182
          refine lv_aload_n hx hb dX2_create_124 rfl (lv_at hl 4 rfl) ?_
          refine lv_dup hx hb dX2_create_125 rfl ?_
          refine va_get (D := (dC, dI)) (ci := 5) (v := .int x163) (C := RX2) (T := TX2) (N := 14) hx hb hts (in_z_X2_create_1_X2) hown hK hP 5 rfl rfl 3 (by decide) (hts (.fieldLink RX2 62 "HeapWorks$Heap" "slots" "I") (by decide +kernel)) (fun _ h9 => h9) (ow_at o_s166 0 rfl) dX2_create_126 ?_
          refine lv_iconst (v := 1) hx hb dX2_create_129 (by decide) ?_
          refine lv_iadd hx hb dX2_create_130  ?_
          refine lv_topi (fun x183 ex183 => ?_)
          have tx183 : x183.toInt = (x163 : Int32).toInt + (1 : Int32).toInt := by rw [ex183]; exact i_add (by have bd_x163 := i_bd x163; (try simp only [i_lt, i_le, i_eq, kc_1] at t168 h170 h169 c172 gv_Va1 ⊢); omega) (by have bd_x163 := i_bd x163; (try simp only [i_lt, i_le, i_eq, kc_1] at t168 h170 h169 c172 gv_Va1 ⊢); omega)
          refine va_put (D := (dC, dI)) (ci := 5) (v := .int x183) (ty := .int) (C := RX2) (T := TX2) (N := 14) hx hb hts (in_z_X2_create_1_X2) tyX2 tyX2_ok nmX2 hown hK hP hD hS 5 rfl rfl 3 (by decide) (hts (.fieldLink RX2 62 "HeapWorks$Heap" "slots" "I") (by decide +kernel)) (fun _ h9 => h9) rfl (by decide +kernel) rfl rfl (by rw [o_s166.2.1]; decide) dX2_create_131 (fun H locs hP hD hS => ?_)
          have hP : va_P (dC, dI) vwCl [(Ad0, .inl (Ka0, 400, .inl f105)), (Ad1, .inl (Ka1, 400, .inl f107)), (Ad2, .inl (Ka2, 400, .inl f109)), (Ad3, .inl (Ka3, 4000, .inr (.inl f181))), (Ad4, .inl (Ka4, 4000, .inl f177)), (Ad6, .inr (5, (s166.set 3 (.int x183)))), (Ad5, .inr (13, Fs0))] H := hP
          have hD : va_D A [(Ad0, .inl (Ka0, 400, .inl f105)), (Ad1, .inl (Ka1, 400, .inl f107)), (Ad2, .inl (Ka2, 400, .inl f109)), (Ad3, .inl (Ka3, 4000, .inr (.inl f181))), (Ad4, .inl (Ka4, 4000, .inl f177)), (Ad6, .inr (5, (s166.set 3 (.int x183)))), (Ad5, .inr (13, Fs0))] := hD
          have o_s184 := ow_set o_s166 3 (.int x183) (by decide) (l' := [(3, .int x183), (0, .ref Ad5), (4, .ref Ad0), (5, .ref Ad1), (6, .ref Ad2), (7, .ref Ad3), (8, .ref Ad4)]) (w' := [3, 1, 2]) rfl rfl
          generalize (s166.set 3 (.int x183)) = s184 at hP hD o_s184
          obtain ⟨x185, ex185⟩ : ∃ y : Int32, y = x163 + 1 := ⟨_, rfl⟩
          refine lv_iinc (v := x185) (lv' := [(5, .int x185), (6, .int 5), (4, .int Va1), (3, .int 0), (0, .ref Ad6), (1, .int Va0), (2, .int Va1)]) hx hb dX2_create_134 hl (k := 1) rfl (by rw [ex185]; rfl) (by decide) rfl (fun ls hl => ?_)
          have tx185 : x185.toInt = x163.toInt + (1 : Int32).toInt := by rw [ex185]; exact i_add (by have bd_x163 := i_bd x163; (try simp only [i_lt, i_le, i_eq, kc_1] at t168 h170 h169 c172 tx183 gv_Va1 ⊢); omega) (by have bd_x163 := i_bd x163; (try simp only [i_lt, i_le, i_eq, kc_1] at t168 h170 h169 c172 tx183 gv_Va1 ⊢); omega)
          refine lv_goto (tgt := 71) hx hb dX2_create_137 (by decide) ?_
          exact ih (j162 + 1) x185 f181 f177 s184 (by rw [ex185, e167]; exact nI_1 _) (by omega) (by (try simp only [i_lt, i_le, i_eq, kc_1] at t168 h170 h169 c172 tx183 tx185 gv_Va1); omega) (by omega)  _ _ _ (hP.sub [0, 1, 2, 3, 4, 5, 6] rfl) (hD.sub [0, 1, 2, 3, 4, 5, 6] (by decide) rfl) hS (by have h9 : x183 = x185 := ex183.trans ex185.symm; rw [← h9]; exact (ow_w (ow_sub o_s184 [0, 1, 2, 3, 4, 5, 6] rfl) (by decide))) (lv_sub hl [0, 2, 3, 4, 5, 6] rfl)
    exact HL1 61 0 (0) Fa3 Fa4 s104 (by decide) (by omega) (by omega) (by omega)  _ _ _ hP hD hS (ow_w (ow_sub o_s104 [3, 2, 4, 5, 6, 7, 8] rfl) (by decide)) hl

