def l_z_X11_apart : List Cond := [.fieldLink RX11 19 "HeapWorks" "types" "LHeapWorks$Types;", .methodLink RX11 116 yX10_isClass, .instanceMethod yX10_isClass, .selects RX10 yX10_isClass yX10_isClass, .initialized RX10, .code yX10_isClass cX10_isClass 2 (some .boolean), .fieldLink RX10 65 "HeapWorks$Types" "count" "I"]
def w_z_X11_apart : List Cond := .code yX11_apart cX11_apart 3 (some .boolean) :: (l_z_X11_apart ++ ((wsX110 ++ wsX100)))
theorem in_z_X11_apart_X11 : ∀ w ∈ wsX110, w ∈ w_z_X11_apart := fun w h => List.mem_cons_of_mem _ (List.mem_append_right _ (List.mem_append_left _ h))
theorem in_z_X11_apart_X10 : ∀ w ∈ wsX100, w ∈ w_z_X11_apart := fun w h => List.mem_cons_of_mem _ (List.mem_append_right _ (List.mem_append_right _ (h)))
theorem g_z_X11_apart_z_X10_isClass_116 : GoodIn w_z_X11_apart (wsV RX11 116 RX10 yX10_isClass w_z_X10_isClass) := goodIn_app (goodIn_r (([.methodLink RX11 116 yX10_isClass, .instanceMethod yX10_isClass, .selects RX10 yX10_isClass yX10_isClass, .initialized RX10] : List Cond)) [2, 3, 4, 5] rfl (by decide +kernel)) (goodIn_ca (goodIn_r (.code yX10_isClass cX10_isClass 2 (some .boolean) :: l_z_X10_isClass) [6, 7] rfl (by decide +kernel)) (goodIn_in (in_z_X11_apart_X10) gd_X10))
set_option maxHeartbeats 4000000 in
set_option maxRecDepth 100000 in
theorem z_X11_apart (l : Launch) (dC : Nat → ClassId) (dI : Nat → Nat → Nat) (sz : Nat) (Ad0 : Nat) (Fs0 : List Value) (Ad1 : Nat) (Fs1 : List Value) (Va0 : Int32) (k_Fs0 : fh Fs0 18 [(1, .ref Ad1)]) (k_Fs1 : fh Fs1 18 [(0, .int 0)])  : Met l yX11_apart w_z_X11_apart ({ frames := 1, cells := 0, slots := 0, locals := 21 }) (va_Pc [.ref Ad0, .int Va0, .int 0] (fun U => U.heap.size = sz ∧ Wd dC dI [] (fun _ => True) [(Ad0, .inr (14, Fs0)), (Ad1, .inr (13, Fs1))] U)) (va_Qi (fun (r : Int32) (u : Unit) => (Va0 < 0 ∧ r = 0) ∨ (¬ Va0 < 0 ∧ 0 ≤ Va0 ∧ r = 0)) (fun (u : Unit) t => Wd dC dI [] (va_A [(Ad0, .inr (14, Fs0)), (Ad1, .inr (13, Fs1))] sz) [(Ad0, .inr (14, Fs0)), (Ad1, .inr (13, Fs1))] t) (va_A [(Ad0, .inr (14, Fs0)), (Ad1, .inr (13, Fs1))] sz))  0 0 (va_A [(Ad0, .inr (14, Fs0)), (Ad1, .inr (13, Fs1))] sz) := by
  refine Met.ofW (cc := cX11_apart) (maxL := 3) (ret := (some .boolean)) (by decide) rfl ?_
  intro p e s m args below meth c s₁ B hml hv
  obtain ⟨rfl, hsz, hP, hK, hD0⟩ := hv
  have hx := B.exec
  have hb := B.bytes
  have hr := B.returns
  have hts := atoms_spec (ws := w_z_X11_apart) B.pre
  have hown : s.vm.findClass RX11 = some m.cls := findClass_of_methodNamed B.named
  have hlocks := B.notSynchronized
  subst hsz
  have hD := hD0.self (sz := s.heap.size)
  generalize hAe : va_A [(Ad0, .inr (14, Fs0)), (Ad1, .inr (13, Fs1))] s.heap.size = A at hD ⊢
  have hA : ∀ q : Nat, s.heap.size ≤ q → A q := fun q h => by rw [← hAe]; exact Or.inr h
  have hS : va_S A s.heap s.heap [] := va_S.rf
  have hl := lv_entry ([.ref Ad0, .int Va0, .int 0]) (n := 3) (Nat.le_of_ble_eq_true rfl)
  rw [lg_entry_eq]
  generalize (lg_sl ([.ref Ad0, .int Va0, .int 0]) ++ List.replicate (3 - (lg_sl ([.ref Ad0, .int Va0, .int 0])).length) Slot.unset).toArray = ls at hl ⊢
  have hl : lv_has ls 3 [(0, .ref Ad0), (1, .int Va0), (2, .int 0)] := hl
  have o_Fs0 := ow_0 k_Fs0
  have o_Fs1 := ow_0 k_Fs1
  refine lv_aload_n hx hb dX11_apart_0 rfl (lv_at hl 0 rfl) ?_
  refine va_get (D := (dC, dI)) (ci := 14) (v := .ref Ad1) (C := RX11) (T := TX11) (N := 18) hx hb hts (in_z_X11_apart_X11) hown hK hP 0 rfl rfl 1 (by decide) (hts (.fieldLink RX11 19 "HeapWorks" "types" "LHeapWorks$Types;") (by decide +kernel)) (fun _ h9 => h9) (ow_at o_Fs0 0 rfl) dX11_apart_1 ?_
  refine lv_iload_n hx hb dX11_apart_4 rfl (lv_at hl 1 rfl) ?_
  have hPc := hP.sub (ws' := [(Ad1, .inr (13, Fs1))]) [1] rfl
  have hDc := hD.sub (ws' := [(Ad1, .inr (13, Fs1))]) [1] (by decide) rfl
  have hKc := hK.sub (tys' := []) [] rfl
  have hFc := va_free (wc := [(Ad1, .inr (13, Fs1))]) hD hS hA [1] rfl
  refine va_calli (va_runV (As := [.int Va0]) (rest := []) ⟨hx, hb, hml, hown, hts⟩ (z_X10_isClass l dC dI s.heap.size Ad1 Fs1 Va0 (fh_sub o_Fs1.2 [0] rfl) ) (cwV 1 hts g_z_X11_apart_z_X10_isClass_116 rfl rfl rfl (by decide +kernel) ⟨Nat.le_of_ble_eq_true rfl, Nat.le_of_ble_eq_true rfl⟩) ⟨fun a U g mk q => by obtain ⟨q0, q1, qP, qK, qD⟩ := q; exact ⟨q0, q1, qP, va_K.moved (u := U) (U := U.calling g mk a) (Vm.Alike.refl U.vm) qK, qD⟩, va_recv hK hP (ci := 13) (q0 := 1) rfl rfl, fun U hU hW => ⟨rfl, by rw [hU], by rw [hU]; exact hPc, va_K.moved hW.alike hKc, hDc.weaken (fun _ _ _ _ => trivial)⟩⟩ rfl rfl hl.1 rfl (lv_room (Nat.le_of_ble_eq_true rfl)) dX11_apart_5 ⟨Nat.le_of_ble_eq_true rfl, Nat.le_of_ble_eq_true rfl⟩) hS (fun q _ h => hFc q h) hFc (fun r101 u t H1 locs ht hvm hw hB hz1 hk1 hS => ?_)
  obtain ⟨hP1, hK1, hD1⟩ := hB
  rw [ht] at hP1
  try dsimp only at hw
  obtain ⟨hP, hD⟩ := va_join (wr := [(Ad0, .inr (14, Fs0))]) (w1 := [(Ad1, .inr (13, Fs1))]) hP hD [1] [0] rfl rfl (by decide) (by decide) hk1 hFc hP1 hD1
  have hK := hK.sub (tys' := []) [] rfl
  generalize H1 = H at hP hS ⊢
  have hP : va_P (dC, dI) vwCl [(Ad0, .inr (14, Fs0)), (Ad1, .inr (13, Fs1))] H := hP
  have hD : va_D A [(Ad0, .inr (14, Fs0)), (Ad1, .inr (13, Fs1))] := hD
  rcases hw with ⟨c102, er103⟩ | ⟨c104, c105, er106⟩
  · skip
    subst er103
    refine lv_if_ne (tgt := 13) hx hb dX11_apart_8 (by decide) (fun c107 => absurd c107 (by decide)) (fun c107 => ?_)
    refine lv_iconst (v := 0) hx hb dX11_apart_11 (by decide) ?_
    have hP9 := hP.sub (ws' := [(Ad0, .inr (14, Fs0)), (Ad1, .inr (13, Fs1))]) [0, 1] rfl
    have hD9 := hD.sub (ws' := [(Ad0, .inr (14, Fs0)), (Ad1, .inr (13, Fs1))]) [0, 1] (by decide) rfl
    have hK9 := hK.sub (tys' := []) [] rfl
    exact W.zret (v := 0) hx hb hr rfl (fun t ht hW => ⟨⟨0, (), rfl, (Or.inl ⟨c102, rfl⟩), by rw [ht]; exact hP9, va_K.moved hW.alike hK9, hD9⟩, hS.F ht⟩) hS.2.2 dX11_apart_12
  · skip
    subst er106
    refine lv_if_ne (tgt := 13) hx hb dX11_apart_8 (by decide) (fun c108 => absurd c108 (by decide)) (fun c108 => ?_)
    refine lv_iconst (v := 0) hx hb dX11_apart_11 (by decide) ?_
    have hP9 := hP.sub (ws' := [(Ad0, .inr (14, Fs0)), (Ad1, .inr (13, Fs1))]) [0, 1] rfl
    have hD9 := hD.sub (ws' := [(Ad0, .inr (14, Fs0)), (Ad1, .inr (13, Fs1))]) [0, 1] (by decide) rfl
    have hK9 := hK.sub (tys' := []) [] rfl
    exact W.zret (v := 0) hx hb hr rfl (fun t ht hW => ⟨⟨0, (), rfl, (Or.inr (⟨c104, c105, rfl⟩)), by rw [ht]; exact hP9, va_K.moved hW.alike hK9, hD9⟩, hS.F ht⟩) hS.2.2 dX11_apart_12

def l_z_X11_apart_1 : List Cond := [.fieldLink RX11 19 "HeapWorks" "types" "LHeapWorks$Types;", .methodLink RX11 116 yX10_isClass, .instanceMethod yX10_isClass, .selects RX10 yX10_isClass yX10_isClass, .initialized RX10, .code yX10_isClass cX10_isClass 2 (some .boolean), .fieldLink RX10 65 "HeapWorks$Types" "count" "I"]
def w_z_X11_apart_1 : List Cond := .code yX11_apart cX11_apart 3 (some .boolean) :: (l_z_X11_apart_1 ++ ((wsX110 ++ wsX100)))
theorem in_z_X11_apart_1_X11 : ∀ w ∈ wsX110, w ∈ w_z_X11_apart_1 := fun w h => List.mem_cons_of_mem _ (List.mem_append_right _ (List.mem_append_left _ h))
theorem in_z_X11_apart_1_X10 : ∀ w ∈ wsX100, w ∈ w_z_X11_apart_1 := fun w h => List.mem_cons_of_mem _ (List.mem_append_right _ (List.mem_append_right _ (h)))
theorem g_z_X11_apart_1_z_X10_isClass_116 : GoodIn w_z_X11_apart_1 (wsV RX11 116 RX10 yX10_isClass w_z_X10_isClass) := goodIn_app (goodIn_r (([.methodLink RX11 116 yX10_isClass, .instanceMethod yX10_isClass, .selects RX10 yX10_isClass yX10_isClass, .initialized RX10] : List Cond)) [2, 3, 4, 5] rfl (by decide +kernel)) (goodIn_ca (goodIn_r (.code yX10_isClass cX10_isClass 2 (some .boolean) :: l_z_X10_isClass) [6, 7] rfl (by decide +kernel)) (goodIn_in (in_z_X11_apart_1_X10) gd_X10))
set_option maxHeartbeats 4000000 in
set_option maxRecDepth 100000 in
theorem z_X11_apart_1 (l : Launch) (dC : Nat → ClassId) (dI : Nat → Nat → Nat) (sz : Nat) (Ad0 : Nat) (Fs0 : List Value) (Ad1 : Nat) (Fs1 : List Value) (Va0 : Int32) (k_Fs0 : fh Fs0 18 [(1, .ref Ad1)]) (k_Fs1 : fh Fs1 18 [(0, .int 0)])  : Met l yX11_apart w_z_X11_apart_1 ({ frames := 1, cells := 0, slots := 0, locals := 21 }) (va_Pc [.ref Ad0, .int Va0, .int 1] (fun U => U.heap.size = sz ∧ Wd dC dI [] (fun _ => True) [(Ad0, .inr (14, Fs0)), (Ad1, .inr (13, Fs1))] U)) (va_Qi (fun (r : Int32) (u : Unit) => (Va0 < 0 ∧ r = 0) ∨ (¬ Va0 < 0 ∧ 0 ≤ Va0 ∧ r = 0)) (fun (u : Unit) t => Wd dC dI [] (va_A [(Ad0, .inr (14, Fs0)), (Ad1, .inr (13, Fs1))] sz) [(Ad0, .inr (14, Fs0)), (Ad1, .inr (13, Fs1))] t) (va_A [(Ad0, .inr (14, Fs0)), (Ad1, .inr (13, Fs1))] sz))  0 0 (va_A [(Ad0, .inr (14, Fs0)), (Ad1, .inr (13, Fs1))] sz) := by
  refine Met.ofW (cc := cX11_apart) (maxL := 3) (ret := (some .boolean)) (by decide) rfl ?_
  intro p e s m args below meth c s₁ B hml hv
  obtain ⟨rfl, hsz, hP, hK, hD0⟩ := hv
  have hx := B.exec
  have hb := B.bytes
  have hr := B.returns
  have hts := atoms_spec (ws := w_z_X11_apart_1) B.pre
  have hown : s.vm.findClass RX11 = some m.cls := findClass_of_methodNamed B.named
  have hlocks := B.notSynchronized
  subst hsz
  have hD := hD0.self (sz := s.heap.size)
  generalize hAe : va_A [(Ad0, .inr (14, Fs0)), (Ad1, .inr (13, Fs1))] s.heap.size = A at hD ⊢
  have hA : ∀ q : Nat, s.heap.size ≤ q → A q := fun q h => by rw [← hAe]; exact Or.inr h
  have hS : va_S A s.heap s.heap [] := va_S.rf
  have hl := lv_entry ([.ref Ad0, .int Va0, .int 1]) (n := 3) (Nat.le_of_ble_eq_true rfl)
  rw [lg_entry_eq]
  generalize (lg_sl ([.ref Ad0, .int Va0, .int 1]) ++ List.replicate (3 - (lg_sl ([.ref Ad0, .int Va0, .int 1])).length) Slot.unset).toArray = ls at hl ⊢
  have hl : lv_has ls 3 [(0, .ref Ad0), (1, .int Va0), (2, .int 1)] := hl
  have o_Fs0 := ow_0 k_Fs0
  have o_Fs1 := ow_0 k_Fs1
  refine lv_aload_n hx hb dX11_apart_0 rfl (lv_at hl 0 rfl) ?_
  refine va_get (D := (dC, dI)) (ci := 14) (v := .ref Ad1) (C := RX11) (T := TX11) (N := 18) hx hb hts (in_z_X11_apart_1_X11) hown hK hP 0 rfl rfl 1 (by decide) (hts (.fieldLink RX11 19 "HeapWorks" "types" "LHeapWorks$Types;") (by decide +kernel)) (fun _ h9 => h9) (ow_at o_Fs0 0 rfl) dX11_apart_1 ?_
  refine lv_iload_n hx hb dX11_apart_4 rfl (lv_at hl 1 rfl) ?_
  have hPc := hP.sub (ws' := [(Ad1, .inr (13, Fs1))]) [1] rfl
  have hDc := hD.sub (ws' := [(Ad1, .inr (13, Fs1))]) [1] (by decide) rfl
  have hKc := hK.sub (tys' := []) [] rfl
  have hFc := va_free (wc := [(Ad1, .inr (13, Fs1))]) hD hS hA [1] rfl
  refine va_calli (va_runV (As := [.int Va0]) (rest := []) ⟨hx, hb, hml, hown, hts⟩ (z_X10_isClass l dC dI s.heap.size Ad1 Fs1 Va0 (fh_sub o_Fs1.2 [0] rfl) ) (cwV 1 hts g_z_X11_apart_1_z_X10_isClass_116 rfl rfl rfl (by decide +kernel) ⟨Nat.le_of_ble_eq_true rfl, Nat.le_of_ble_eq_true rfl⟩) ⟨fun a U g mk q => by obtain ⟨q0, q1, qP, qK, qD⟩ := q; exact ⟨q0, q1, qP, va_K.moved (u := U) (U := U.calling g mk a) (Vm.Alike.refl U.vm) qK, qD⟩, va_recv hK hP (ci := 13) (q0 := 1) rfl rfl, fun U hU hW => ⟨rfl, by rw [hU], by rw [hU]; exact hPc, va_K.moved hW.alike hKc, hDc.weaken (fun _ _ _ _ => trivial)⟩⟩ rfl rfl hl.1 rfl (lv_room (Nat.le_of_ble_eq_true rfl)) dX11_apart_5 ⟨Nat.le_of_ble_eq_true rfl, Nat.le_of_ble_eq_true rfl⟩) hS (fun q _ h => hFc q h) hFc (fun r101 u t H1 locs ht hvm hw hB hz1 hk1 hS => ?_)
  obtain ⟨hP1, hK1, hD1⟩ := hB
  rw [ht] at hP1
  try dsimp only at hw
  obtain ⟨hP, hD⟩ := va_join (wr := [(Ad0, .inr (14, Fs0))]) (w1 := [(Ad1, .inr (13, Fs1))]) hP hD [1] [0] rfl rfl (by decide) (by decide) hk1 hFc hP1 hD1
  have hK := hK.sub (tys' := []) [] rfl
  generalize H1 = H at hP hS ⊢
  have hP : va_P (dC, dI) vwCl [(Ad0, .inr (14, Fs0)), (Ad1, .inr (13, Fs1))] H := hP
  have hD : va_D A [(Ad0, .inr (14, Fs0)), (Ad1, .inr (13, Fs1))] := hD
  rcases hw with ⟨c102, er103⟩ | ⟨c104, c105, er106⟩
  · skip
    subst er103
    refine lv_if_ne (tgt := 13) hx hb dX11_apart_8 (by decide) (fun c107 => absurd c107 (by decide)) (fun c107 => ?_)
    refine lv_iconst (v := 0) hx hb dX11_apart_11 (by decide) ?_
    have hP9 := hP.sub (ws' := [(Ad0, .inr (14, Fs0)), (Ad1, .inr (13, Fs1))]) [0, 1] rfl
    have hD9 := hD.sub (ws' := [(Ad0, .inr (14, Fs0)), (Ad1, .inr (13, Fs1))]) [0, 1] (by decide) rfl
    have hK9 := hK.sub (tys' := []) [] rfl
    exact W.zret (v := 0) hx hb hr rfl (fun t ht hW => ⟨⟨0, (), rfl, (Or.inl ⟨c102, rfl⟩), by rw [ht]; exact hP9, va_K.moved hW.alike hK9, hD9⟩, hS.F ht⟩) hS.2.2 dX11_apart_12
  · skip
    subst er106
    refine lv_if_ne (tgt := 13) hx hb dX11_apart_8 (by decide) (fun c108 => absurd c108 (by decide)) (fun c108 => ?_)
    refine lv_iconst (v := 0) hx hb dX11_apart_11 (by decide) ?_
    have hP9 := hP.sub (ws' := [(Ad0, .inr (14, Fs0)), (Ad1, .inr (13, Fs1))]) [0, 1] rfl
    have hD9 := hD.sub (ws' := [(Ad0, .inr (14, Fs0)), (Ad1, .inr (13, Fs1))]) [0, 1] (by decide) rfl
    have hK9 := hK.sub (tys' := []) [] rfl
    exact W.zret (v := 0) hx hb hr rfl (fun t ht hW => ⟨⟨0, (), rfl, (Or.inr (⟨c104, c105, rfl⟩)), by rw [ht]; exact hP9, va_K.moved hW.alike hK9, hD9⟩, hS.F ht⟩) hS.2.2 dX11_apart_12

def l_z_X11_watch : List Cond := [.fieldLink RX11 19 "HeapWorks" "types" "LHeapWorks$Types;", .methodLink RX11 188 yX10_hasField_, .instanceMethod yX10_hasField_, .selects RX10 yX10_hasField_ yX10_hasField_, .initialized RX10, .classLink RX11 221 "java/util/NoSuchElementException", .initialized "java/util/NoSuchElementException", .code yX10_hasField_ cX10_hasField_ 3 (some .boolean), .methodLink RX10 69 yX10_isClass, .instanceMethod yX10_isClass, .selects RX10 yX10_isClass yX10_isClass, .code yX10_isClass cX10_isClass 2 (some .boolean), .fieldLink RX10 65 "HeapWorks$Types" "count" "I"]
def w_z_X11_watch : List Cond := .code yX11_watch cX11_watch 4 (some .int) :: (l_z_X11_watch ++ ((wsX110 ++ (((vx_at0 RX11 223 "java/util/NoSuchElementException" ["java/lang/RuntimeException", "java/lang/Exception"]).filter goodWord) ++ wsX100))))
theorem in_z_X11_watch_X11 : ∀ w ∈ wsX110, w ∈ w_z_X11_watch := fun w h => List.mem_cons_of_mem _ (List.mem_append_right _ (List.mem_append_left _ h))
theorem in_z_X11_watch_at0_X11_223 : ∀ w ∈ ((vx_at0 RX11 223 "java/util/NoSuchElementException" ["java/lang/RuntimeException", "java/lang/Exception"]).filter goodWord), w ∈ w_z_X11_watch := fun w h => List.mem_cons_of_mem _ (List.mem_append_right _ (List.mem_append_right _ (List.mem_append_left _ h)))
theorem in_z_X11_watch_X10 : ∀ w ∈ wsX100, w ∈ w_z_X11_watch := fun w h => List.mem_cons_of_mem _ (List.mem_append_right _ (List.mem_append_right _ (List.mem_append_right _ (h))))
theorem g_z_X11_watch_z_X10_hasField__188 : GoodIn w_z_X11_watch (wsV RX11 188 RX10 yX10_hasField_ w_z_X10_hasField_) := goodIn_app (goodIn_r (([.methodLink RX11 188 yX10_hasField_, .instanceMethod yX10_hasField_, .selects RX10 yX10_hasField_ yX10_hasField_, .initialized RX10] : List Cond)) [2, 3, 4, 5] rfl (by decide +kernel)) (goodIn_ca (goodIn_r (.code yX10_hasField_ cX10_hasField_ 3 (some .boolean) :: l_z_X10_hasField_) [8, 9, 10, 11, 5, 12, 13] rfl (by decide +kernel)) (goodIn_in (in_z_X11_watch_X10) gd_X10))
set_option maxHeartbeats 4000000 in
set_option maxRecDepth 100000 in
theorem z_X11_watch (l : Launch) (dC : Nat → ClassId) (dI : Nat → Nat → Nat) (sz : Nat) (Ad0 : Nat) (Fs0 : List Value) (Ad1 : Nat) (Fs1 : List Value) (Va0 : Int32) (Va1 : Int32) (Va2 : Int32) (k_Fs0 : fh Fs0 18 [(1, .ref Ad1)]) (k_Fs1 : fh Fs1 18 [(0, .int 0)]) (hst : l.stackTraces = false)  : vx_Met l yX11_watch w_z_X11_watch ({ frames := 7, cells := 1, slots := 6, locals := 140 }) (va_Pc [.ref Ad0, .int Va0, .int Va1, .int Va2] (fun U => U.heap.size = sz ∧ Zz (va_A [(Ad0, .inr (14, Fs0)), (Ad1, .inr (13, Fs1))] sz) U ∧ Wd dC dI [] (fun _ => True) [(Ad0, .inr (14, Fs0)), (Ad1, .inr (13, Fs1))] U)) (va_Qi (fun (r : Int32) (u : Unit) => False) (fun (u : Unit) t => Wd dC dI [] (va_A [(Ad0, .inr (14, Fs0)), (Ad1, .inr (13, Fs1))] sz) [(Ad0, .inr (14, Fs0)), (Ad1, .inr (13, Fs1))] t) (va_A [(Ad0, .inr (14, Fs0)), (Ad1, .inr (13, Fs1))] sz)) (vx_X (fun _ : Unit => True) (fun E _ _ => (E = "java/util/NoSuchElementException" ∧ Va0 < 0) ∨ (E = "java/util/NoSuchElementException" ∧ ¬ Va0 < 0 ∧ 0 ≤ Va0)) (va_A [(Ad0, .inr (14, Fs0)), (Ad1, .inr (13, Fs1))] sz)) 1 6 (va_A [(Ad0, .inr (14, Fs0)), (Ad1, .inr (13, Fs1))] sz) := by
  refine vx_ofW (cc := cX11_watch) (maxL := 4) (ret := (some .int)) (by decide) rfl ?_
  intro p e s m args below meth c s₁ B hml htab hv
  obtain ⟨rfl, hsz, hZ, hP, hK, hD0⟩ := hv
  have hx := B.exec
  have hb := B.bytes
  have hr := B.returns
  have hts := atoms_spec (ws := w_z_X11_watch) B.pre
  have hown : s.vm.findClass RX11 = some m.cls := findClass_of_methodNamed B.named
  have hlocks := B.notSynchronized
  subst hsz
  have hD := hD0.self (sz := s.heap.size)
  generalize hAe : va_A [(Ad0, .inr (14, Fs0)), (Ad1, .inr (13, Fs1))] s.heap.size = A at hD hZ ⊢
  have hA : ∀ q : Nat, s.heap.size ≤ q → A q := fun q h => by rw [← hAe]; exact Or.inr h
  have hS : va_S A s.heap s.heap [] := va_S.rf
  have hl := lv_entry ([.ref Ad0, .int Va0, .int Va1, .int Va2]) (n := 4) (Nat.le_of_ble_eq_true rfl)
  rw [lg_entry_eq]
  generalize (lg_sl ([.ref Ad0, .int Va0, .int Va1, .int Va2]) ++ List.replicate (4 - (lg_sl ([.ref Ad0, .int Va0, .int Va1, .int Va2])).length) Slot.unset).toArray = ls at hl ⊢
  have hl : lv_has ls 4 [(0, .ref Ad0), (1, .int Va0), (2, .int Va1), (3, .int Va2)] := hl
  have o_Fs0 := ow_0 k_Fs0
  have o_Fs1 := ow_0 k_Fs1
  refine lv_aload_n hx hb dX11_watch_0 rfl (lv_at hl 0 rfl) ?_
  refine va_get (D := (dC, dI)) (ci := 14) (v := .ref Ad1) (C := RX11) (T := TX11) (N := 18) hx hb hts (in_z_X11_watch_X11) hown hK hP 0 rfl rfl 1 (by decide) (hts (.fieldLink RX11 19 "HeapWorks" "types" "LHeapWorks$Types;") (by decide +kernel)) (fun _ h9 => h9) (ow_at o_Fs0 0 rfl) dX11_watch_1 ?_
  refine lv_iload_n hx hb dX11_watch_4 rfl (lv_at hl 1 rfl) ?_
  refine lv_iload_n hx hb dX11_watch_5 rfl (lv_at hl 2 rfl) ?_
  have hPc := hP.sub (ws' := [(Ad1, .inr (13, Fs1))]) [1] rfl
  have hDc := hD.sub (ws' := [(Ad1, .inr (13, Fs1))]) [1] (by decide) rfl
  have hKc := hK.sub (tys' := []) [] rfl
  have hFc := va_free (wc := [(Ad1, .inr (13, Fs1))]) hD hS hA [1] rfl
  refine va_calli (va_runV (As := [.int Va0, .int Va1]) (rest := []) ⟨hx, hb, hml, hown, hts⟩ (z_X10_hasField_ l dC dI s.heap.size Ad1 Fs1 Va0 Va1 (fh_sub o_Fs1.2 [0] rfl) ) (cwV 2 hts g_z_X11_watch_z_X10_hasField__188 rfl rfl rfl (by decide +kernel) ⟨Nat.le_of_ble_eq_true rfl, Nat.le_of_ble_eq_true rfl⟩) ⟨fun a U g mk q => by obtain ⟨q0, q1, qP, qK, qD⟩ := q; exact ⟨q0, q1, qP, va_K.moved (u := U) (U := U.calling g mk a) (Vm.Alike.refl U.vm) qK, qD⟩, va_recv hK hP (ci := 13) (q0 := 1) rfl rfl, fun U hU hW => ⟨rfl, by rw [hU], by rw [hU]; exact hPc, va_K.moved hW.alike hKc, hDc.weaken (fun _ _ _ _ => trivial)⟩⟩ rfl rfl hl.1 rfl (lv_room (Nat.le_of_ble_eq_true rfl)) dX11_watch_6 ⟨Nat.le_of_ble_eq_true rfl, Nat.le_of_ble_eq_true rfl⟩) hS (fun q _ h => hFc q h) hFc (fun r101 u t H1 locs ht hvm hw hB hz1 hk1 hS => ?_)
  obtain ⟨hP1, hK1, hD1⟩ := hB
  rw [ht] at hP1
  try dsimp only at hw
  obtain ⟨hP, hD⟩ := va_join (wr := [(Ad0, .inr (14, Fs0))]) (w1 := [(Ad1, .inr (13, Fs1))]) hP hD [1] [0] rfl rfl (by decide) (by decide) hk1 hFc hP1 hD1
  have hK := hK.sub (tys' := []) [] rfl
  generalize H1 = H at hP hS ⊢
  have hP : va_P (dC, dI) vwCl [(Ad0, .inr (14, Fs0)), (Ad1, .inr (13, Fs1))] H := hP
  have hD : va_D A [(Ad0, .inr (14, Fs0)), (Ad1, .inr (13, Fs1))] := hD
  rcases hw with ⟨c102, er103⟩ | ⟨c104, c105, er106⟩
  · skip
    subst er103
    refine lv_if_ne (tgt := 20) hx hb dX11_watch_9 (by decide) (fun c107 => absurd c107 (by decide)) (fun c107 => ?_)
    exact vx_throw0 (names := ["java/lang/RuntimeException", "java/lang/Exception"]) hx hb hst hown (by decide +kernel) (by decide +kernel) (hts (.classLink RX11 221 "java/util/NoSuchElementException") (by decide +kernel)) (hts (.initialized "java/util/NoSuchElementException") (by decide +kernel)) (vx_hat (B := xB "java/util/NoSuchElementException") (fun w h => hts w ((in_z_X11_watch_at0_X11_223) w h)) (by decide +kernel) (Zz_xB hZ (by decide))) (by decide +kernel) hZ.1 hZ.2.1 hS (hl.1.trans hml.symm) dX11_watch_12 dX11_watch_15 dX11_watch_16 dX11_watch_19 (fun x h => (htab x h).elim) (by decide) (Nat.le_of_ble_eq_true rfl) (Nat.le_of_ble_eq_true rfl) (Nat.le_of_ble_eq_true rfl) hlocks (fun t _ h1 h2 => ⟨(), trivial, (Or.inl ⟨rfl, c102⟩), xx_F hS h1 h2⟩) hS.2.2 (by decide) (by decide)
  · skip
    subst er106
    refine lv_if_ne (tgt := 20) hx hb dX11_watch_9 (by decide) (fun c108 => absurd c108 (by decide)) (fun c108 => ?_)
    exact vx_throw0 (names := ["java/lang/RuntimeException", "java/lang/Exception"]) hx hb hst hown (by decide +kernel) (by decide +kernel) (hts (.classLink RX11 221 "java/util/NoSuchElementException") (by decide +kernel)) (hts (.initialized "java/util/NoSuchElementException") (by decide +kernel)) (vx_hat (B := xB "java/util/NoSuchElementException") (fun w h => hts w ((in_z_X11_watch_at0_X11_223) w h)) (by decide +kernel) (Zz_xB hZ (by decide))) (by decide +kernel) hZ.1 hZ.2.1 hS (hl.1.trans hml.symm) dX11_watch_12 dX11_watch_15 dX11_watch_16 dX11_watch_19 (fun x h => (htab x h).elim) (by decide) (Nat.le_of_ble_eq_true rfl) (Nat.le_of_ble_eq_true rfl) (Nat.le_of_ble_eq_true rfl) hlocks (fun t _ h1 h2 => ⟨(), trivial, (Or.inr (⟨rfl, c104, c105⟩)), xx_F hS h1 h2⟩) hS.2.2 (by decide) (by decide)

def l_z_X11_rows : List Cond := [.fieldLink RX11 35 "HeapWorks" "journal" "LHeapWorks$Journal;", .fieldLink RX11 309 "HeapWorks$Journal" "watches" "I"]
def w_z_X11_rows : List Cond := .code yX11_rows cX11_rows 2 (some .int) :: (l_z_X11_rows ++ ((wsX110 ++ wsX30)))
theorem in_z_X11_rows_X11 : ∀ w ∈ wsX110, w ∈ w_z_X11_rows := fun w h => List.mem_cons_of_mem _ (List.mem_append_right _ (List.mem_append_left _ h))
theorem in_z_X11_rows_X3 : ∀ w ∈ wsX30, w ∈ w_z_X11_rows := fun w h => List.mem_cons_of_mem _ (List.mem_append_right _ (List.mem_append_right _ (h)))
set_option maxHeartbeats 4000000 in
set_option maxRecDepth 100000 in
theorem z_X11_rows (l : Launch) (dC : Nat → ClassId) (dI : Nat → Nat → Nat) (sz : Nat) (Ad0 : Nat) (Fs0 : List Value) (Ad1 : Nat) (Fs1 : List Value) (Va0 : Int32) (k_Fs0 : fh Fs0 18 [(3, .ref Ad1)]) (k_Fs1 : fh Fs1 13 [(7, .int 0)])  : Met l yX11_rows w_z_X11_rows ({ frames := 0, cells := 0, slots := 0, locals := 0 }) (va_Pc [.ref Ad0, .int Va0] (fun U => U.heap.size = sz ∧ Wd dC dI [] (fun _ => True) [(Ad0, .inr (14, Fs0)), (Ad1, .inr (6, Fs1))] U)) (va_Qi (fun (r : Int32) (u : Unit) => (Va0 < 0 ∧ r = (-1)) ∨ (¬ Va0 < 0 ∧ 0 ≤ Va0 ∧ r = (-1))) (fun (u : Unit) t => Wd dC dI [] (va_A [(Ad0, .inr (14, Fs0)), (Ad1, .inr (6, Fs1))] sz) [(Ad0, .inr (14, Fs0)), (Ad1, .inr (6, Fs1))] t) (va_A [(Ad0, .inr (14, Fs0)), (Ad1, .inr (6, Fs1))] sz))  0 0 (va_A [(Ad0, .inr (14, Fs0)), (Ad1, .inr (6, Fs1))] sz) := by
  refine Met.ofW (cc := cX11_rows) (maxL := 2) (ret := (some .int)) (by decide) rfl ?_
  intro p e s m args below meth c s₁ B hml hv
  obtain ⟨rfl, hsz, hP, hK, hD0⟩ := hv
  have hx := B.exec
  have hb := B.bytes
  have hr := B.returns
  have hts := atoms_spec (ws := w_z_X11_rows) B.pre
  have hown : s.vm.findClass RX11 = some m.cls := findClass_of_methodNamed B.named
  have hlocks := B.notSynchronized
  subst hsz
  have hD := hD0.self (sz := s.heap.size)
  generalize hAe : va_A [(Ad0, .inr (14, Fs0)), (Ad1, .inr (6, Fs1))] s.heap.size = A at hD ⊢
  have hA : ∀ q : Nat, s.heap.size ≤ q → A q := fun q h => by rw [← hAe]; exact Or.inr h
  have hS : va_S A s.heap s.heap [] := va_S.rf
  have hl := lv_entry ([.ref Ad0, .int Va0]) (n := 2) (Nat.le_of_ble_eq_true rfl)
  rw [lg_entry_eq]
  generalize (lg_sl ([.ref Ad0, .int Va0]) ++ List.replicate (2 - (lg_sl ([.ref Ad0, .int Va0])).length) Slot.unset).toArray = ls at hl ⊢
  have hl : lv_has ls 2 [(0, .ref Ad0), (1, .int Va0)] := hl
  have o_Fs0 := ow_0 k_Fs0
  have o_Fs1 := ow_0 k_Fs1
  refine lv_iload_n hx hb dX11_rows_0 rfl (lv_at hl 1 rfl) ?_
  refine lv_if_lt (tgt := 27) hx hb dX11_rows_1 (by decide) (fun c101 => ?_) (fun c101 => ?_)
  · skip
    refine lv_iconst (v := (-1)) hx hb dX11_rows_27 (by decide) ?_
    have hP9 := hP.sub (ws' := [(Ad0, .inr (14, Fs0)), (Ad1, .inr (6, Fs1))]) [0, 1] rfl
    have hD9 := hD.sub (ws' := [(Ad0, .inr (14, Fs0)), (Ad1, .inr (6, Fs1))]) [0, 1] (by decide) rfl
    have hK9 := hK.sub (tys' := []) [] rfl
    exact W.iret (v := (-1)) hx hb hr (fun t ht hW => ⟨⟨(-1), (), rfl, (Or.inl ⟨c101, rfl⟩), by rw [ht]; exact hP9, va_K.moved hW.alike hK9, hD9⟩, hS.F ht⟩) hS.2.2 dX11_rows_28
  · skip
    refine lv_iload_n hx hb dX11_rows_4 rfl (lv_at hl 1 rfl) ?_
    refine lv_aload_n hx hb dX11_rows_5 rfl (lv_at hl 0 rfl) ?_
    refine va_get (D := (dC, dI)) (ci := 14) (v := .ref Ad1) (C := RX11) (T := TX11) (N := 18) hx hb hts (in_z_X11_rows_X11) hown hK hP 0 rfl rfl 3 (by decide) (hts (.fieldLink RX11 35 "HeapWorks" "journal" "LHeapWorks$Journal;") (by decide +kernel)) (fun _ h9 => h9) (ow_at o_Fs0 0 rfl) dX11_rows_6 ?_
    refine va_get (D := (dC, dI)) (ci := 6) (v := .int 0) (C := RX3) (T := TX3) (N := 13) hx hb hts (in_z_X11_rows_X3) hown hK hP 1 rfl rfl 7 (by decide) (hts (.fieldLink RX11 309 "HeapWorks$Journal" "watches" "I") (by decide +kernel)) (fun _ h9 => h9) (ow_at o_Fs1 0 rfl) dX11_rows_9 ?_
    refine lv_icmp_ge (tgt := 27) hx hb dX11_rows_12 (by decide) (fun c102 => ?_) (fun c102 => (by exfalso; have bd_Va0 := i_bd Va0; (try simp only [i_lt, i_le, i_eq, kc_0] at c101 c102); omega))
    refine lv_iconst (v := (-1)) hx hb dX11_rows_27 (by decide) ?_
    have hP9 := hP.sub (ws' := [(Ad0, .inr (14, Fs0)), (Ad1, .inr (6, Fs1))]) [0, 1] rfl
    have hD9 := hD.sub (ws' := [(Ad0, .inr (14, Fs0)), (Ad1, .inr (6, Fs1))]) [0, 1] (by decide) rfl
    have hK9 := hK.sub (tys' := []) [] rfl
    exact W.iret (v := (-1)) hx hb hr (fun t ht hW => ⟨⟨(-1), (), rfl, (Or.inr (⟨c101, c102, rfl⟩)), by rw [ht]; exact hP9, va_K.moved hW.alike hK9, hD9⟩, hS.F ht⟩) hS.2.2 dX11_rows_28

def l_z_X11_row : List Cond := [.classLink RX11 221 "java/util/NoSuchElementException", .initialized "java/util/NoSuchElementException", .methodLink RX11 319 yX11_rows, .instanceMethod yX11_rows, .selects RX11 yX11_rows yX11_rows, .initialized RX11, .code yX11_rows cX11_rows 2 (some .int), .fieldLink RX11 35 "HeapWorks" "journal" "LHeapWorks$Journal;", .fieldLink RX11 309 "HeapWorks$Journal" "watches" "I"]
def w_z_X11_row : List Cond := .code yX11_row cX11_row 4 (some .long) :: (l_z_X11_row ++ ((((vx_at0 RX11 223 "java/util/NoSuchElementException" ["java/lang/RuntimeException", "java/lang/Exception"]).filter goodWord) ++ (wsX110 ++ wsX30))))
theorem in_z_X11_row_at0_X11_223 : ∀ w ∈ ((vx_at0 RX11 223 "java/util/NoSuchElementException" ["java/lang/RuntimeException", "java/lang/Exception"]).filter goodWord), w ∈ w_z_X11_row := fun w h => List.mem_cons_of_mem _ (List.mem_append_right _ (List.mem_append_left _ h))
theorem in_z_X11_row_X11 : ∀ w ∈ wsX110, w ∈ w_z_X11_row := fun w h => List.mem_cons_of_mem _ (List.mem_append_right _ (List.mem_append_right _ (List.mem_append_left _ h)))
theorem in_z_X11_row_X3 : ∀ w ∈ wsX30, w ∈ w_z_X11_row := fun w h => List.mem_cons_of_mem _ (List.mem_append_right _ (List.mem_append_right _ (List.mem_append_right _ (h))))
theorem g_z_X11_row_z_X11_rows_319 : GoodIn w_z_X11_row (wsV RX11 319 RX11 yX11_rows w_z_X11_rows) := goodIn_app (goodIn_r (([.methodLink RX11 319 yX11_rows, .instanceMethod yX11_rows, .selects RX11 yX11_rows yX11_rows, .initialized RX11] : List Cond)) [3, 4, 5, 6] rfl (by decide +kernel)) (goodIn_ca (goodIn_r (.code yX11_rows cX11_rows 2 (some .int) :: l_z_X11_rows) [7, 8, 9] rfl (by decide +kernel)) (goodIn_app (goodIn_in (in_z_X11_row_X11) gd_X11) (goodIn_in (in_z_X11_row_X3) gd_X3)))
set_option maxHeartbeats 4000000 in
set_option maxRecDepth 100000 in
theorem z_X11_row (l : Launch) (dC : Nat → ClassId) (dI : Nat → Nat → Nat) (sz : Nat) (Ad0 : Nat) (Fs0 : List Value) (Ad1 : Nat) (Fs1 : List Value) (Va0 : Int32) (Va1 : Int32) (Va2 : Int32) (k_Fs0 : fh Fs0 18 [(3, .ref Ad1)]) (k_Fs1 : fh Fs1 13 [(7, .int 0)]) (hst : l.stackTraces = false)  : vx_Met l yX11_row w_z_X11_row ({ frames := 7, cells := 1, slots := 6, locals := 140 }) (va_Pc [.ref Ad0, .int Va0, .int Va1, .int Va2] (fun U => U.heap.size = sz ∧ Zz (va_A [(Ad0, .inr (14, Fs0)), (Ad1, .inr (6, Fs1))] sz) U ∧ Wd dC dI [] (fun _ => True) [(Ad0, .inr (14, Fs0)), (Ad1, .inr (6, Fs1))] U)) (va_Ql (fun (r : Int64) (u : Unit) => False) (fun (u : Unit) t => Wd dC dI [] (va_A [(Ad0, .inr (14, Fs0)), (Ad1, .inr (6, Fs1))] sz) [(Ad0, .inr (14, Fs0)), (Ad1, .inr (6, Fs1))] t) (va_A [(Ad0, .inr (14, Fs0)), (Ad1, .inr (6, Fs1))] sz)) (vx_X (fun _ : Unit => True) (fun E _ _ => (E = "java/util/NoSuchElementException" ∧ Va1 < 0) ∨ (E = "java/util/NoSuchElementException" ∧ ¬ Va1 < 0 ∧ Va0 < 0 ∧ (-1) ≤ Va1) ∨ (E = "java/util/NoSuchElementException" ∧ ¬ Va1 < 0 ∧ ¬ Va0 < 0 ∧ 0 ≤ Va0 ∧ (-1) ≤ Va1)) (va_A [(Ad0, .inr (14, Fs0)), (Ad1, .inr (6, Fs1))] sz)) 1 6 (va_A [(Ad0, .inr (14, Fs0)), (Ad1, .inr (6, Fs1))] sz) := by
  refine vx_ofW (cc := cX11_row) (maxL := 4) (ret := (some .long)) (by decide) rfl ?_
  intro p e s m args below meth c s₁ B hml htab hv
  obtain ⟨rfl, hsz, hZ, hP, hK, hD0⟩ := hv
  have hx := B.exec
  have hb := B.bytes
  have hr := B.returns
  have hts := atoms_spec (ws := w_z_X11_row) B.pre
  have hown : s.vm.findClass RX11 = some m.cls := findClass_of_methodNamed B.named
  have hlocks := B.notSynchronized
  subst hsz
  have hD := hD0.self (sz := s.heap.size)
  generalize hAe : va_A [(Ad0, .inr (14, Fs0)), (Ad1, .inr (6, Fs1))] s.heap.size = A at hD hZ ⊢
  have hA : ∀ q : Nat, s.heap.size ≤ q → A q := fun q h => by rw [← hAe]; exact Or.inr h
  have hS : va_S A s.heap s.heap [] := va_S.rf
  have hl := lv_entry ([.ref Ad0, .int Va0, .int Va1, .int Va2]) (n := 4) (Nat.le_of_ble_eq_true rfl)
  rw [lg_entry_eq]
  generalize (lg_sl ([.ref Ad0, .int Va0, .int Va1, .int Va2]) ++ List.replicate (4 - (lg_sl ([.ref Ad0, .int Va0, .int Va1, .int Va2])).length) Slot.unset).toArray = ls at hl ⊢
  have hl : lv_has ls 4 [(0, .ref Ad0), (1, .int Va0), (2, .int Va1), (3, .int Va2)] := hl
  have o_Fs0 := ow_0 k_Fs0
  have o_Fs1 := ow_0 k_Fs1
  refine lv_iload_n hx hb dX11_row_0 rfl (lv_at hl 2 rfl) ?_
  refine lv_if_lt (tgt := 22) hx hb dX11_row_1 (by decide) (fun c101 => ?_) (fun c101 => ?_)
  · skip
    exact vx_throw0 (names := ["java/lang/RuntimeException", "java/lang/Exception"]) hx hb hst hown (by decide +kernel) (by decide +kernel) (hts (.classLink RX11 221 "java/util/NoSuchElementException") (by decide +kernel)) (hts (.initialized "java/util/NoSuchElementException") (by decide +kernel)) (vx_hat (B := xB "java/util/NoSuchElementException") (fun w h => hts w ((in_z_X11_row_at0_X11_223) w h)) (by decide +kernel) (Zz_xB hZ (by decide))) (by decide +kernel) hZ.1 hZ.2.1 hS (hl.1.trans hml.symm) dX11_row_22 dX11_row_25 dX11_row_26 dX11_row_29 (fun x h => (htab x h).elim) (by decide) (Nat.le_of_ble_eq_true rfl) (Nat.le_of_ble_eq_true rfl) (Nat.le_of_ble_eq_true rfl) hlocks (fun t _ h1 h2 => ⟨(), trivial, (Or.inl ⟨rfl, c101⟩), xx_F hS h1 h2⟩) hS.2.2 (by decide) (by decide)
  · skip
    refine lv_iload_n hx hb dX11_row_4 rfl (lv_at hl 2 rfl) ?_
    refine lv_aload_n hx hb dX11_row_5 rfl (lv_at hl 0 rfl) ?_
    refine lv_iload_n hx hb dX11_row_6 rfl (lv_at hl 1 rfl) ?_
    have hPc := hP.sub (ws' := [(Ad0, .inr (14, Fs0)), (Ad1, .inr (6, Fs1))]) [0, 1] rfl
    have hDc := hD.sub (ws' := [(Ad0, .inr (14, Fs0)), (Ad1, .inr (6, Fs1))]) [0, 1] (by decide) rfl
    have hKc := hK.sub (tys' := []) [] rfl
    have hFc := va_free (wc := [(Ad0, .inr (14, Fs0)), (Ad1, .inr (6, Fs1))]) hD hS hA [0, 1] rfl
    refine va_calli (va_runV (As := [.int Va0]) (rest := [.int Va1]) ⟨hx, hb, hml, hown, hts⟩ (z_X11_rows l dC dI s.heap.size Ad0 Fs0 Ad1 Fs1 Va0 (fh_sub o_Fs0.2 [0] rfl) (fh_sub o_Fs1.2 [0] rfl) ) (cwV 1 hts g_z_X11_row_z_X11_rows_319 rfl rfl rfl (by decide +kernel) ⟨Nat.le_of_ble_eq_true rfl, Nat.le_of_ble_eq_true rfl⟩) ⟨fun a U g mk q => by obtain ⟨q0, q1, qP, qK, qD⟩ := q; exact ⟨q0, q1, qP, va_K.moved (u := U) (U := U.calling g mk a) (Vm.Alike.refl U.vm) qK, qD⟩, va_recv hK hP (ci := 14) (q0 := 0) rfl rfl, fun U hU hW => ⟨rfl, by rw [hU], by rw [hU]; exact hPc, va_K.moved hW.alike hKc, hDc.weaken (fun _ _ _ _ => trivial)⟩⟩ rfl rfl hl.1 rfl (lv_room (Nat.le_of_ble_eq_true rfl)) dX11_row_7 ⟨Nat.le_of_ble_eq_true rfl, Nat.le_of_ble_eq_true rfl⟩) hS (fun q _ h => hFc q h) hFc (fun r102 u t H1 locs ht hvm hw hB hz1 hk1 hS => ?_)
    obtain ⟨hP1, hK1, hD1⟩ := hB
    rw [ht] at hP1
    try dsimp only at hw
    obtain ⟨hP, hD⟩ := va_join (wr := []) (w1 := [(Ad0, .inr (14, Fs0)), (Ad1, .inr (6, Fs1))]) hP hD [0, 1] [] rfl rfl (by decide) (by decide) hk1 hFc hP1 hD1
    have hK := hK.sub (tys' := []) [] rfl
    generalize H1 = H at hP hS ⊢
    have hP : va_P (dC, dI) vwCl [(Ad0, .inr (14, Fs0)), (Ad1, .inr (6, Fs1))] H := hP
    have hD : va_D A [(Ad0, .inr (14, Fs0)), (Ad1, .inr (6, Fs1))] := hD
    rcases hw with ⟨c103, er104⟩ | ⟨c105, c106, er107⟩
    · skip
      subst er104
      refine lv_icmp_ge (tgt := 22) hx hb dX11_row_10 (by decide) (fun c108 => ?_) (fun c108 => (by exfalso; have bd_Va1 := i_bd Va1; (try simp only [i_lt, i_le, i_eq, kc_0, kc_m1] at c101 c108); omega))
      exact vx_throw0 (names := ["java/lang/RuntimeException", "java/lang/Exception"]) hx hb hst hown (by decide +kernel) (by decide +kernel) (hts (.classLink RX11 221 "java/util/NoSuchElementException") (by decide +kernel)) (hts (.initialized "java/util/NoSuchElementException") (by decide +kernel)) (vx_hat (B := xB "java/util/NoSuchElementException") (fun w h => hts w ((in_z_X11_row_at0_X11_223) w h)) (by decide +kernel) (Zz_xB hZ (by decide))) (by decide +kernel) hZ.1 hZ.2.1 hS (hl.1.trans hml.symm) dX11_row_22 dX11_row_25 dX11_row_26 dX11_row_29 (fun x h => (htab x h).elim) (by decide) (Nat.le_of_ble_eq_true rfl) (Nat.le_of_ble_eq_true rfl) (Nat.le_of_ble_eq_true rfl) hlocks (fun t _ h1 h2 => ⟨(), trivial, (Or.inr (Or.inl ⟨rfl, c101, c103, c108⟩)), xx_F hS h1 h2⟩) hS.2.2 (by decide) (by decide)
    · skip
      subst er107
      refine lv_icmp_ge (tgt := 22) hx hb dX11_row_10 (by decide) (fun c109 => ?_) (fun c109 => (by exfalso; have bd_Va1 := i_bd Va1; (try simp only [i_lt, i_le, i_eq, kc_0, kc_m1] at c101 c109); omega))
      exact vx_throw0 (names := ["java/lang/RuntimeException", "java/lang/Exception"]) hx hb hst hown (by decide +kernel) (by decide +kernel) (hts (.classLink RX11 221 "java/util/NoSuchElementException") (by decide +kernel)) (hts (.initialized "java/util/NoSuchElementException") (by decide +kernel)) (vx_hat (B := xB "java/util/NoSuchElementException") (fun w h => hts w ((in_z_X11_row_at0_X11_223) w h)) (by decide +kernel) (Zz_xB hZ (by decide))) (by decide +kernel) hZ.1 hZ.2.1 hS (hl.1.trans hml.symm) dX11_row_22 dX11_row_25 dX11_row_26 dX11_row_29 (fun x h => (htab x h).elim) (by decide) (Nat.le_of_ble_eq_true rfl) (Nat.le_of_ble_eq_true rfl) (Nat.le_of_ble_eq_true rfl) hlocks (fun t _ h1 h2 => ⟨(), trivial, (Or.inr (Or.inr (⟨rfl, c101, c105, c106, c109⟩))), xx_F hS h1 h2⟩) hS.2.2 (by decide) (by decide)

def l_z_X9_nextWord : List Cond := [.fieldLink RX9 18 "HeapWorks$Tape" "words" "[I", .fieldLink RX9 85 "HeapWorks$Tape" "next" "I", .fieldLink RX9 75 "HeapWorks$Tape" "word" "I", .fieldLink RX9 21 "HeapWorks$Tape" "places" "[I", .fieldLink RX9 78 "HeapWorks$Tape" "place" "I", .fieldLink RX9 24 "HeapWorks$Tape" "codes" "[J", .fieldLink RX9 81 "HeapWorks$Tape" "code" "J"]
def w_z_X9_nextWord : List Cond := .code yX9_nextWord cX9_nextWord 1 none :: (l_z_X9_nextWord ++ (wsX90))
theorem in_z_X9_nextWord_X9 : ∀ w ∈ wsX90, w ∈ w_z_X9_nextWord := fun w h => List.mem_cons_of_mem _ (List.mem_append_right _ (h))
set_option maxHeartbeats 4000000 in
set_option maxRecDepth 100000 in
theorem z_X9_nextWord (l : Launch) (dC : Nat → ClassId) (dI : Nat → Nat → Nat) (sz : Nat) (Ad0 : Nat) (Fa0 : Nat → Int32) (Ka0 : ClassId) (Ad1 : Nat) (Fa1 : Nat → Int32) (Ka1 : ClassId) (Ad2 : Nat) (Fa2 : Nat → Int64) (Ka2 : ClassId) (Ad3 : Nat) (Fs0 : List Value) (k_Fs0 : fh Fs0 12 [(8, .int 0), (9, .int 0), (5, .ref Ad0), (6, .ref Ad1), (7, .ref Ad2)]) (hk0_Fa0 : Fa0 (0 : Int32).toNatClampNeg = 0) (hk1_Fa1 : Fa1 (0 : Int32).toNatClampNeg = 0) (hk2_Fa2 : Fa2 (0 : Int32).toNatClampNeg = 0) : Met l yX9_nextWord w_z_X9_nextWord ({ frames := 0, cells := 0, slots := 0, locals := 0 }) (va_Pc [.ref Ad3] (fun U => U.heap.size = sz ∧ Wd dC dI [(Ka0, .int), (Ka1, .int), (Ka2, .long)] (fun _ => True) [(Ad0, .inl (Ka0, 4001, .inl Fa0)), (Ad1, .inl (Ka1, 4001, .inl Fa1)), (Ad2, .inl (Ka2, 4001, .inr (.inl Fa2))), (Ad3, .inr (12, Fs0))] U)) (va_Qv (fun (u : List Value) => ow Fs0 (u) 12 [11, 10, 9] [(11, .long 0), (10, .int 0), (9, .int 0), (8, .int 0), (5, .ref Ad0), (6, .ref Ad1), (7, .ref Ad2)]) (fun (u : List Value) t => Wd dC dI [(Ka0, .int), (Ka1, .int), (Ka2, .long)] (va_A [(Ad0, .inl (Ka0, 4001, .inl Fa0)), (Ad1, .inl (Ka1, 4001, .inl Fa1)), (Ad2, .inl (Ka2, 4001, .inr (.inl Fa2))), (Ad3, .inr (12, Fs0))] sz) [(Ad0, .inl (Ka0, 4001, .inl Fa0)), (Ad1, .inl (Ka1, 4001, .inl Fa1)), (Ad2, .inl (Ka2, 4001, .inr (.inl Fa2))), (Ad3, .inr (12, (u)))] t) (va_A [(Ad0, .inl (Ka0, 4001, .inl Fa0)), (Ad1, .inl (Ka1, 4001, .inl Fa1)), (Ad2, .inl (Ka2, 4001, .inr (.inl Fa2))), (Ad3, .inr (12, Fs0))] sz))  0 0 (va_A [(Ad0, .inl (Ka0, 4001, .inl Fa0)), (Ad1, .inl (Ka1, 4001, .inl Fa1)), (Ad2, .inl (Ka2, 4001, .inr (.inl Fa2))), (Ad3, .inr (12, Fs0))] sz) := by
  refine Met.ofW (cc := cX9_nextWord) (maxL := 1) (ret := none) (by decide) rfl ?_
  intro p e s m args below meth c s₁ B hml hv
  obtain ⟨rfl, hsz, hP, hK, hD0⟩ := hv
  have hx := B.exec
  have hb := B.bytes
  have hr := B.returns
  have hts := atoms_spec (ws := w_z_X9_nextWord) B.pre
  have hown : s.vm.findClass RX9 = some m.cls := findClass_of_methodNamed B.named
  have hlocks := B.notSynchronized
  subst hsz
  have hD := hD0.self (sz := s.heap.size)
  generalize hAe : va_A [(Ad0, .inl (Ka0, 4001, .inl Fa0)), (Ad1, .inl (Ka1, 4001, .inl Fa1)), (Ad2, .inl (Ka2, 4001, .inr (.inl Fa2))), (Ad3, .inr (12, Fs0))] s.heap.size = A at hD ⊢
  have hA : ∀ q : Nat, s.heap.size ≤ q → A q := fun q h => by rw [← hAe]; exact Or.inr h
  have hS : va_S A s.heap s.heap [] := va_S.rf
  have hl := lv_entry ([.ref Ad3]) (n := 1) (Nat.le_of_ble_eq_true rfl)
  rw [lg_entry_eq]
  generalize (lg_sl ([.ref Ad3]) ++ List.replicate (1 - (lg_sl ([.ref Ad3])).length) Slot.unset).toArray = ls at hl ⊢
  have hl : lv_has ls 1 [(0, .ref Ad3)] := hl
  have o_Fs0 := ow_0 k_Fs0
  refine lv_aload_n hx hb dX9_nextWord_0 rfl (lv_at hl 0 rfl) ?_
  refine lv_aload_n hx hb dX9_nextWord_1 rfl (lv_at hl 0 rfl) ?_
  refine va_get (D := (dC, dI)) (ci := 12) (v := .ref Ad0) (C := RX9) (T := TX9) (N := 12) hx hb hts (in_z_X9_nextWord_X9) hown hK hP 3 rfl rfl 5 (by decide) (hts (.fieldLink RX9 18 "HeapWorks$Tape" "words" "[I") (by decide +kernel)) (fun _ h9 => h9) (ow_at o_Fs0 2 rfl) dX9_nextWord_2 ?_
  refine lv_aload_n hx hb dX9_nextWord_5 rfl (lv_at hl 0 rfl) ?_
  refine va_get (D := (dC, dI)) (ci := 12) (v := .int 0) (C := RX9) (T := TX9) (N := 12) hx hb hts (in_z_X9_nextWord_X9) hown hK hP 3 rfl rfl 8 (by decide) (hts (.fieldLink RX9 85 "HeapWorks$Tape" "next" "I") (by decide +kernel)) (fun _ h9 => h9) (ow_at o_Fs0 0 rfl) dX9_nextWord_6 ?_
  refine va_iald hx hb hK hP 0 0 rfl rfl (show vp_in 0 4001 from by unfold vp_in; decide) dX9_nextWord_9 ?_
  refine lv_topi (fun x101 ex101 => ?_)
  obtain rfl : 0 = x101 := (ex101.trans hk0_Fa0).symm
  refine va_put (D := (dC, dI)) (ci := 12) (v := .int 0) (ty := .int) (C := RX9) (T := TX9) (N := 12) hx hb hts (in_z_X9_nextWord_X9) tyX9 tyX9_ok nmX9 hown hK hP hD hS 3 rfl rfl 9 (by decide) (hts (.fieldLink RX9 75 "HeapWorks$Tape" "word" "I") (by decide +kernel)) (fun _ h9 => h9) rfl (by decide +kernel) rfl rfl (by rw [o_Fs0.2.1]; decide) dX9_nextWord_10 (fun H locs hP hD hS => ?_)
  have hP : va_P (dC, dI) vwCl [(Ad0, .inl (Ka0, 4001, .inl Fa0)), (Ad1, .inl (Ka1, 4001, .inl Fa1)), (Ad2, .inl (Ka2, 4001, .inr (.inl Fa2))), (Ad3, .inr (12, (Fs0.set 9 (.int 0))))] H := hP
  have hD : va_D A [(Ad0, .inl (Ka0, 4001, .inl Fa0)), (Ad1, .inl (Ka1, 4001, .inl Fa1)), (Ad2, .inl (Ka2, 4001, .inr (.inl Fa2))), (Ad3, .inr (12, (Fs0.set 9 (.int 0))))] := hD
  have o_s102 := ow_set o_Fs0 9 (.int 0) (by decide) (l' := [(9, .int 0), (8, .int 0), (5, .ref Ad0), (6, .ref Ad1), (7, .ref Ad2)]) (w' := [9]) rfl rfl
  generalize (Fs0.set 9 (.int 0)) = s102 at hP hD o_s102
  refine lv_aload_n hx hb dX9_nextWord_13 rfl (lv_at hl 0 rfl) ?_
  refine lv_aload_n hx hb dX9_nextWord_14 rfl (lv_at hl 0 rfl) ?_
  refine va_get (D := (dC, dI)) (ci := 12) (v := .ref Ad1) (C := RX9) (T := TX9) (N := 12) hx hb hts (in_z_X9_nextWord_X9) hown hK hP 3 rfl rfl 6 (by decide) (hts (.fieldLink RX9 21 "HeapWorks$Tape" "places" "[I") (by decide +kernel)) (fun _ h9 => h9) (ow_at o_s102 3 rfl) dX9_nextWord_15 ?_
  refine lv_aload_n hx hb dX9_nextWord_18 rfl (lv_at hl 0 rfl) ?_
  refine va_get (D := (dC, dI)) (ci := 12) (v := .int 0) (C := RX9) (T := TX9) (N := 12) hx hb hts (in_z_X9_nextWord_X9) hown hK hP 3 rfl rfl 8 (by decide) (hts (.fieldLink RX9 85 "HeapWorks$Tape" "next" "I") (by decide +kernel)) (fun _ h9 => h9) (ow_at o_s102 1 rfl) dX9_nextWord_19 ?_
  refine va_iald hx hb hK hP 1 1 rfl rfl (show vp_in 0 4001 from by unfold vp_in; decide) dX9_nextWord_22 ?_
  refine lv_topi (fun x103 ex103 => ?_)
  obtain rfl : 0 = x103 := (ex103.trans hk1_Fa1).symm
  refine va_put (D := (dC, dI)) (ci := 12) (v := .int 0) (ty := .int) (C := RX9) (T := TX9) (N := 12) hx hb hts (in_z_X9_nextWord_X9) tyX9 tyX9_ok nmX9 hown hK hP hD hS 3 rfl rfl 10 (by decide) (hts (.fieldLink RX9 78 "HeapWorks$Tape" "place" "I") (by decide +kernel)) (fun _ h9 => h9) rfl (by decide +kernel) rfl rfl (by rw [o_s102.2.1]; decide) dX9_nextWord_23 (fun H locs hP hD hS => ?_)
  have hP : va_P (dC, dI) vwCl [(Ad0, .inl (Ka0, 4001, .inl Fa0)), (Ad1, .inl (Ka1, 4001, .inl Fa1)), (Ad2, .inl (Ka2, 4001, .inr (.inl Fa2))), (Ad3, .inr (12, (s102.set 10 (.int 0))))] H := hP
  have hD : va_D A [(Ad0, .inl (Ka0, 4001, .inl Fa0)), (Ad1, .inl (Ka1, 4001, .inl Fa1)), (Ad2, .inl (Ka2, 4001, .inr (.inl Fa2))), (Ad3, .inr (12, (s102.set 10 (.int 0))))] := hD
  have o_s104 := ow_set o_s102 10 (.int 0) (by decide) (l' := [(10, .int 0), (9, .int 0), (8, .int 0), (5, .ref Ad0), (6, .ref Ad1), (7, .ref Ad2)]) (w' := [10, 9]) rfl rfl
  generalize (s102.set 10 (.int 0)) = s104 at hP hD o_s104
  refine lv_aload_n hx hb dX9_nextWord_26 rfl (lv_at hl 0 rfl) ?_
  refine lv_aload_n hx hb dX9_nextWord_27 rfl (lv_at hl 0 rfl) ?_
  refine va_get (D := (dC, dI)) (ci := 12) (v := .ref Ad2) (C := RX9) (T := TX9) (N := 12) hx hb hts (in_z_X9_nextWord_X9) hown hK hP 3 rfl rfl 7 (by decide) (hts (.fieldLink RX9 24 "HeapWorks$Tape" "codes" "[J") (by decide +kernel)) (fun _ h9 => h9) (ow_at o_s104 5 rfl) dX9_nextWord_28 ?_
  refine lv_aload_n hx hb dX9_nextWord_31 rfl (lv_at hl 0 rfl) ?_
  refine va_get (D := (dC, dI)) (ci := 12) (v := .int 0) (C := RX9) (T := TX9) (N := 12) hx hb hts (in_z_X9_nextWord_X9) hown hK hP 3 rfl rfl 8 (by decide) (hts (.fieldLink RX9 85 "HeapWorks$Tape" "next" "I") (by decide +kernel)) (fun _ h9 => h9) (ow_at o_s104 2 rfl) dX9_nextWord_32 ?_
  refine va_lald hx hb hK hP 2 2 rfl rfl (show vp_in 0 4001 from by unfold vp_in; decide) dX9_nextWord_35 ?_
  refine lv_topl (fun x105 ex105 => ?_)
  obtain rfl : 0 = x105 := (ex105.trans hk2_Fa2).symm
  refine va_put (D := (dC, dI)) (ci := 12) (v := .long 0) (ty := .long) (C := RX9) (T := TX9) (N := 12) hx hb hts (in_z_X9_nextWord_X9) tyX9 tyX9_ok nmX9 hown hK hP hD hS 3 rfl rfl 11 (by decide) (hts (.fieldLink RX9 81 "HeapWorks$Tape" "code" "J") (by decide +kernel)) (fun _ h9 => h9) rfl (by decide +kernel) rfl rfl (by rw [o_s104.2.1]; decide) dX9_nextWord_36 (fun H locs hP hD hS => ?_)
  have hP : va_P (dC, dI) vwCl [(Ad0, .inl (Ka0, 4001, .inl Fa0)), (Ad1, .inl (Ka1, 4001, .inl Fa1)), (Ad2, .inl (Ka2, 4001, .inr (.inl Fa2))), (Ad3, .inr (12, (s104.set 11 (.long 0))))] H := hP
  have hD : va_D A [(Ad0, .inl (Ka0, 4001, .inl Fa0)), (Ad1, .inl (Ka1, 4001, .inl Fa1)), (Ad2, .inl (Ka2, 4001, .inr (.inl Fa2))), (Ad3, .inr (12, (s104.set 11 (.long 0))))] := hD
  have o_s106 := ow_set o_s104 11 (.long 0) (by decide) (l' := [(11, .long 0), (10, .int 0), (9, .int 0), (8, .int 0), (5, .ref Ad0), (6, .ref Ad1), (7, .ref Ad2)]) (w' := [11, 10, 9]) rfl rfl
  generalize (s104.set 11 (.long 0)) = s106 at hP hD o_s106
  refine lv_aload_n hx hb dX9_nextWord_39 rfl (lv_at hl 0 rfl) ?_
  refine va_get (D := (dC, dI)) (ci := 12) (v := .int 0) (C := RX9) (T := TX9) (N := 12) hx hb hts (in_z_X9_nextWord_X9) hown hK hP 3 rfl rfl 9 (by decide) (hts (.fieldLink RX9 75 "HeapWorks$Tape" "word" "I") (by decide +kernel)) (fun _ h9 => h9) (ow_at o_s106 2 rfl) dX9_nextWord_40 ?_
  refine lv_if_eq (tgt := 66) hx hb dX9_nextWord_43 (by decide) (fun c107 => ?_) (fun c107 => absurd c107 (by decide))
  have hP9 := hP.sub (ws' := [(Ad0, .inl (Ka0, 4001, .inl Fa0)), (Ad1, .inl (Ka1, 4001, .inl Fa1)), (Ad2, .inl (Ka2, 4001, .inr (.inl Fa2))), (Ad3, .inr (12, s106))]) [0, 1, 2, 3] rfl
  have hD9 := hD.sub (ws' := [(Ad0, .inl (Ka0, 4001, .inl Fa0)), (Ad1, .inl (Ka1, 4001, .inl Fa1)), (Ad2, .inl (Ka2, 4001, .inr (.inl Fa2))), (Ad3, .inr (12, s106))]) [0, 1, 2, 3] (by decide) rfl
  have hK9 := hK.sub (tys' := [(Ka0, .int), (Ka1, .int), (Ka2, .long)]) [0, 1, 2] rfl
  exact W.vret hx hb hr (fun t ht hW => ⟨⟨s106, rfl, o_s106, by rw [ht]; exact hP9, va_K.moved hW.alike hK9, hD9⟩, hS.F ht⟩) hS.2.2 dX9_nextWord_66

def l_z_X9_startWords : List Cond := [.fieldLink RX9 69 "HeapWorks$Tape" "at" "I", .methodLink RX9 72 yX9_scanWord, .instanceMethod yX9_scanWord, .selects RX9 yX9_scanWord yX9_scanWord, .initialized RX9, .fieldLink RX9 18 "HeapWorks$Tape" "words" "[I", .fieldLink RX9 75 "HeapWorks$Tape" "word" "I", .fieldLink RX9 21 "HeapWorks$Tape" "places" "[I", .fieldLink RX9 78 "HeapWorks$Tape" "place" "I", .fieldLink RX9 24 "HeapWorks$Tape" "codes" "[J", .fieldLink RX9 81 "HeapWorks$Tape" "code" "J", .fieldLink RX9 85 "HeapWorks$Tape" "next" "I", .methodLink RX9 88 yX9_nextWord, .instanceMethod yX9_nextWord, .selects RX9 yX9_nextWord yX9_nextWord, .code yX9_scanWord cX9_scanWord 1 none, .fieldLink RX9 49 "HeapWorks$Tape" "size" "I", .code yX9_nextWord cX9_nextWord 1 none]
def w_z_X9_startWords : List Cond := .code yX9_startWords cX9_startWords 2 none :: (l_z_X9_startWords ++ (wsX90))
theorem in_z_X9_startWords_X9 : ∀ w ∈ wsX90, w ∈ w_z_X9_startWords := fun w h => List.mem_cons_of_mem _ (List.mem_append_right _ (h))
theorem g_z_X9_startWords_z_X9_scanWord_72 : GoodIn w_z_X9_startWords (wsV RX9 72 RX9 yX9_scanWord w_z_X9_scanWord) := goodIn_app (goodIn_r (([.methodLink RX9 72 yX9_scanWord, .instanceMethod yX9_scanWord, .selects RX9 yX9_scanWord yX9_scanWord, .initialized RX9] : List Cond)) [2, 3, 4, 5] rfl (by decide +kernel)) (goodIn_ca (goodIn_r (.code yX9_scanWord cX9_scanWord 1 none :: l_z_X9_scanWord) [16, 1, 17, 9, 11, 7] rfl (by decide +kernel)) (goodIn_in (in_z_X9_startWords_X9) gd_X9))
theorem g_z_X9_startWords_z_X9_nextWord_88 : GoodIn w_z_X9_startWords (wsV RX9 88 RX9 yX9_nextWord w_z_X9_nextWord) := goodIn_app (goodIn_r (([.methodLink RX9 88 yX9_nextWord, .instanceMethod yX9_nextWord, .selects RX9 yX9_nextWord yX9_nextWord, .initialized RX9] : List Cond)) [13, 14, 15, 5] rfl (by decide +kernel)) (goodIn_ca (goodIn_r (.code yX9_nextWord cX9_nextWord 1 none :: l_z_X9_nextWord) [18, 6, 12, 7, 8, 9, 10, 11] rfl (by decide +kernel)) (goodIn_in (in_z_X9_startWords_X9) gd_X9))
set_option maxHeartbeats 4000000 in
set_option maxRecDepth 100000 in
theorem z_X9_startWords (l : Launch) (dC : Nat → ClassId) (dI : Nat → Nat → Nat) (sz : Nat) (Ad0 : Nat) (Fs0 : List Value) (Ad1 : Nat) (Fa0 : Nat → Int32) (Ka0 : ClassId) (Ad2 : Nat) (Fa1 : Nat → Int32) (Ka1 : ClassId) (Ad3 : Nat) (Fa2 : Nat → Int64) (Ka2 : ClassId) (k_Fs0 : fh Fs0 12 [(1, .int 0), (5, .ref Ad1), (6, .ref Ad2), (7, .ref Ad3)])  : Met l yX9_startWords w_z_X9_startWords ({ frames := 1, cells := 0, slots := 0, locals := 20 }) (va_Pc [.ref Ad0] (fun U => U.heap.size = sz ∧ Wd dC dI [(Ka0, .int), (Ka1, .int), (Ka2, .long)] (fun _ => True) [(Ad0, .inr (12, Fs0)), (Ad1, .inl (Ka0, 4001, .inl Fa0)), (Ad2, .inl (Ka1, 4001, .inl Fa1)), (Ad3, .inl (Ka2, 4001, .inr (.inl Fa2)))] U)) (va_Qv (fun (u : List Value × (Nat → Int32) × (Nat → Int32) × (Nat → Int64)) => (ow Fs0 (u.1) 12 [11, 10, 9, 8, 4] [(11, .long 0), (10, .int 0), (9, .int 0), (8, .int 0), (5, .ref Ad1), (6, .ref Ad2), (7, .ref Ad3), (8, .int 0), (4, .int 0), (1, .int 0), (4, .int 0), (1, .int 0), (5, .ref Ad1), (6, .ref Ad2), (7, .ref Ad3)] ∧ (u.2.1) (0 : Int32).toNatClampNeg = 0 ∧ (u.2.2.1) (0 : Int32).toNatClampNeg = 0 ∧ (u.2.2.2) (0 : Int32).toNatClampNeg = 0)) (fun (u : List Value × (Nat → Int32) × (Nat → Int32) × (Nat → Int64)) t => Wd dC dI [(Ka0, .int), (Ka1, .int), (Ka2, .long)] (va_A [(Ad0, .inr (12, Fs0)), (Ad1, .inl (Ka0, 4001, .inl Fa0)), (Ad2, .inl (Ka1, 4001, .inl Fa1)), (Ad3, .inl (Ka2, 4001, .inr (.inl Fa2)))] sz) [(Ad0, .inr (12, (u.1))), (Ad1, .inl (Ka0, 4001, .inl ((u.2.1)))), (Ad2, .inl (Ka1, 4001, .inl ((u.2.2.1)))), (Ad3, .inl (Ka2, 4001, .inr (.inl ((u.2.2.2)))))] t) (va_A [(Ad0, .inr (12, Fs0)), (Ad1, .inl (Ka0, 4001, .inl Fa0)), (Ad2, .inl (Ka1, 4001, .inl Fa1)), (Ad3, .inl (Ka2, 4001, .inr (.inl Fa2)))] sz))  0 0 (va_A [(Ad0, .inr (12, Fs0)), (Ad1, .inl (Ka0, 4001, .inl Fa0)), (Ad2, .inl (Ka1, 4001, .inl Fa1)), (Ad3, .inl (Ka2, 4001, .inr (.inl Fa2)))] sz) := by
  refine Met.ofW (cc := cX9_startWords) (maxL := 2) (ret := none) (by decide) rfl ?_
  intro p e s m args below meth c s₁ B hml hv
  obtain ⟨rfl, hsz, hP, hK, hD0⟩ := hv
  have hx := B.exec
  have hb := B.bytes
  have hr := B.returns
  have hts := atoms_spec (ws := w_z_X9_startWords) B.pre
  have hown : s.vm.findClass RX9 = some m.cls := findClass_of_methodNamed B.named
  have hlocks := B.notSynchronized
  subst hsz
  have hD := hD0.self (sz := s.heap.size)
  generalize hAe : va_A [(Ad0, .inr (12, Fs0)), (Ad1, .inl (Ka0, 4001, .inl Fa0)), (Ad2, .inl (Ka1, 4001, .inl Fa1)), (Ad3, .inl (Ka2, 4001, .inr (.inl Fa2)))] s.heap.size = A at hD ⊢
  have hA : ∀ q : Nat, s.heap.size ≤ q → A q := fun q h => by rw [← hAe]; exact Or.inr h
  have hS : va_S A s.heap s.heap [] := va_S.rf
  have hl := lv_entry ([.ref Ad0]) (n := 2) (Nat.le_of_ble_eq_true rfl)
  rw [lg_entry_eq]
  generalize (lg_sl ([.ref Ad0]) ++ List.replicate (2 - (lg_sl ([.ref Ad0])).length) Slot.unset).toArray = ls at hl ⊢
  have hl : lv_has ls 2 [(0, .ref Ad0)] := hl
  have o_Fs0 := ow_0 k_Fs0
  refine lv_aload_n hx hb dX9_startWords_0 rfl (lv_at hl 0 rfl) ?_
  refine lv_iconst (v := 0) hx hb dX9_startWords_1 (by decide) ?_
  refine va_put (D := (dC, dI)) (ci := 12) (v := .int 0) (ty := .int) (C := RX9) (T := TX9) (N := 12) hx hb hts (in_z_X9_startWords_X9) tyX9 tyX9_ok nmX9 hown hK hP hD hS 0 rfl rfl 4 (by decide) (hts (.fieldLink RX9 69 "HeapWorks$Tape" "at" "I") (by decide +kernel)) (fun _ h9 => h9) rfl (by decide +kernel) rfl rfl (by rw [o_Fs0.2.1]; decide) dX9_startWords_2 (fun H locs hP hD hS => ?_)
  have hP : va_P (dC, dI) vwCl [(Ad0, .inr (12, (Fs0.set 4 (.int 0)))), (Ad1, .inl (Ka0, 4001, .inl Fa0)), (Ad2, .inl (Ka1, 4001, .inl Fa1)), (Ad3, .inl (Ka2, 4001, .inr (.inl Fa2)))] H := hP
  have hD : va_D A [(Ad0, .inr (12, (Fs0.set 4 (.int 0)))), (Ad1, .inl (Ka0, 4001, .inl Fa0)), (Ad2, .inl (Ka1, 4001, .inl Fa1)), (Ad3, .inl (Ka2, 4001, .inr (.inl Fa2)))] := hD
  have o_s101 := ow_set o_Fs0 4 (.int 0) (by decide) (l' := [(4, .int 0), (1, .int 0), (5, .ref Ad1), (6, .ref Ad2), (7, .ref Ad3)]) (w' := [4]) rfl rfl
  generalize (Fs0.set 4 (.int 0)) = s101 at hP hD o_s101
  refine lv_iconst (v := 0) hx hb dX9_startWords_5 (by decide) ?_
  refine lv_istore_n (lv' := [(1, .int 0), (0, .ref Ad0)]) hx hb dX9_startWords_6 rfl hl (by decide) rfl (fun ls hl => ?_)
  refine lv_aload_n hx hb dX9_startWords_7 rfl (lv_at hl 1 rfl) ?_
  have hPc := hP.sub (ws' := [(Ad0, .inr (12, s101))]) [0] rfl
  have hDc := hD.sub (ws' := [(Ad0, .inr (12, s101))]) [0] (by decide) rfl
  have hKc := hK.sub (tys' := []) [] rfl
  have hFc := va_free (wc := [(Ad0, .inr (12, s101))]) hD hS hA [0] rfl
  refine va_callv (va_runV (As := []) (rest := []) ⟨hx, hb, hml, hown, hts⟩ (z_X9_scanWord l dC dI H.size Ad0 s101 (fh_sub o_s101.2 [0, 1] rfl) ) (cwV 0 hts g_z_X9_startWords_z_X9_scanWord_72 rfl rfl rfl (by decide +kernel) ⟨Nat.le_of_ble_eq_true rfl, Nat.le_of_ble_eq_true rfl⟩) ⟨fun a U g mk q => by obtain ⟨q0, q1, qP, qK, qD⟩ := q; exact ⟨q0, q1, qP, va_K.moved (u := U) (U := U.calling g mk a) (Vm.Alike.refl U.vm) qK, qD⟩, va_recv hK hP (ci := 12) (q0 := 0) rfl rfl, fun U hU hW => ⟨rfl, by rw [hU], by rw [hU]; exact hPc, va_K.moved hW.alike hKc, hDc.weaken (fun _ _ _ _ => trivial)⟩⟩ rfl rfl hl.1 rfl (lv_room (Nat.le_of_ble_eq_true rfl)) dX9_startWords_8 ⟨Nat.le_of_ble_eq_true rfl, Nat.le_of_ble_eq_true rfl⟩) hS (fun q _ h => hFc q h) hFc (fun u t H1 locs ht hvm hw hB hz1 hk1 hS => ?_)
  obtain ⟨s102, rfl⟩ : ∃ z, z = u := ⟨_, rfl⟩
  obtain ⟨hP1, hK1, hD1⟩ := hB
  rw [ht] at hP1
  try dsimp only at hw
  obtain ⟨hP, hD⟩ := va_join (wr := [(Ad1, .inl (Ka0, 4001, .inl Fa0)), (Ad2, .inl (Ka1, 4001, .inl Fa1)), (Ad3, .inl (Ka2, 4001, .inr (.inl Fa2)))]) (w1 := [(Ad0, .inr (12, s102))]) hP hD [0] [1, 2, 3] rfl rfl (by decide) (by decide) hk1 hFc hP1 hD1
  have hK := hK.sub (tys' := [(Ka0, .int), (Ka1, .int), (Ka2, .long)]) [0, 1, 2] rfl
  generalize H1 = H at hP hS ⊢
  have hP : va_P (dC, dI) vwCl [(Ad1, .inl (Ka0, 4001, .inl Fa0)), (Ad2, .inl (Ka1, 4001, .inl Fa1)), (Ad3, .inl (Ka2, 4001, .inr (.inl Fa2))), (Ad0, .inr (12, s102))] H := hP
  have hD : va_D A [(Ad1, .inl (Ka0, 4001, .inl Fa0)), (Ad2, .inl (Ka1, 4001, .inl Fa1)), (Ad3, .inl (Ka2, 4001, .inr (.inl Fa2))), (Ad0, .inr (12, s102))] := hD
  have o_s102 := hw
  have o_s102 := ow_on o_s101 o_s102 (l' := [(9, .int 0), (11, .long 0), (10, .int 0), (4, .int 0), (1, .int 0), (4, .int 0), (1, .int 0), (5, .ref Ad1), (6, .ref Ad2), (7, .ref Ad3)]) (w' := [9, 11, 10, 4]) rfl rfl
  refine lv_aload_n hx hb dX9_startWords_11 rfl (lv_at hl 1 rfl) ?_
  refine va_get (D := (dC, dI)) (ci := 12) (v := .ref Ad1) (C := RX9) (T := TX9) (N := 12) hx hb hts (in_z_X9_startWords_X9) hown hK hP 3 rfl rfl 5 (by decide) (hts (.fieldLink RX9 18 "HeapWorks$Tape" "words" "[I") (by decide +kernel)) (fun _ h9 => h9) (ow_at o_s102 7 rfl) dX9_startWords_12 ?_
  refine lv_iload_n hx hb dX9_startWords_15 rfl (lv_at hl 0 rfl) ?_
  refine lv_aload_n hx hb dX9_startWords_16 rfl (lv_at hl 1 rfl) ?_
  refine va_get (D := (dC, dI)) (ci := 12) (v := .int 0) (C := RX9) (T := TX9) (N := 12) hx hb hts (in_z_X9_startWords_X9) hown hK hP 3 rfl rfl 9 (by decide) (hts (.fieldLink RX9 75 "HeapWorks$Tape" "word" "I") (by decide +kernel)) (fun _ h9 => h9) (ow_at o_s102 0 rfl) dX9_startWords_17 ?_
  refine va_iast hx hb hK hP hD hS 0 0 rfl rfl (show vp_in 0 4001 from by unfold vp_in; decide) dX9_startWords_20 (fun H locs hP hD hS => ?_)
  have hP : va_P (dC, dI) vwCl [(Ad1, .inl (Ka0, 4001, .inl (upd Fa0 (0 : Int32).toNatClampNeg 0))), (Ad2, .inl (Ka1, 4001, .inl Fa1)), (Ad3, .inl (Ka2, 4001, .inr (.inl Fa2))), (Ad0, .inr (12, s102))] H := hP
  have hD : va_D A [(Ad1, .inl (Ka0, 4001, .inl (upd Fa0 (0 : Int32).toNatClampNeg 0))), (Ad2, .inl (Ka1, 4001, .inl Fa1)), (Ad3, .inl (Ka2, 4001, .inr (.inl Fa2))), (Ad0, .inr (12, s102))] := hD
  have q104 : (upd Fa0 (0 : Int32).toNatClampNeg 0) (0 : Int32).toNatClampNeg = 0 := pk_us
  generalize upd Fa0 (0 : Int32).toNatClampNeg 0 = f103 at hP hD q104
  refine lv_aload_n hx hb dX9_startWords_21 rfl (lv_at hl 1 rfl) ?_
  refine va_get (D := (dC, dI)) (ci := 12) (v := .ref Ad2) (C := RX9) (T := TX9) (N := 12) hx hb hts (in_z_X9_startWords_X9) hown hK hP 3 rfl rfl 6 (by decide) (hts (.fieldLink RX9 21 "HeapWorks$Tape" "places" "[I") (by decide +kernel)) (fun _ h9 => h9) (ow_at o_s102 8 rfl) dX9_startWords_22 ?_
  refine lv_iload_n hx hb dX9_startWords_25 rfl (lv_at hl 0 rfl) ?_
  refine lv_aload_n hx hb dX9_startWords_26 rfl (lv_at hl 1 rfl) ?_
  refine va_get (D := (dC, dI)) (ci := 12) (v := .int 0) (C := RX9) (T := TX9) (N := 12) hx hb hts (in_z_X9_startWords_X9) hown hK hP 3 rfl rfl 10 (by decide) (hts (.fieldLink RX9 78 "HeapWorks$Tape" "place" "I") (by decide +kernel)) (fun _ h9 => h9) (ow_at o_s102 2 rfl) dX9_startWords_27 ?_
  refine va_iast hx hb hK hP hD hS 1 1 rfl rfl (show vp_in 0 4001 from by unfold vp_in; decide) dX9_startWords_30 (fun H locs hP hD hS => ?_)
  have hP : va_P (dC, dI) vwCl [(Ad1, .inl (Ka0, 4001, .inl f103)), (Ad2, .inl (Ka1, 4001, .inl (upd Fa1 (0 : Int32).toNatClampNeg 0))), (Ad3, .inl (Ka2, 4001, .inr (.inl Fa2))), (Ad0, .inr (12, s102))] H := hP
  have hD : va_D A [(Ad1, .inl (Ka0, 4001, .inl f103)), (Ad2, .inl (Ka1, 4001, .inl (upd Fa1 (0 : Int32).toNatClampNeg 0))), (Ad3, .inl (Ka2, 4001, .inr (.inl Fa2))), (Ad0, .inr (12, s102))] := hD
  have q106 : (upd Fa1 (0 : Int32).toNatClampNeg 0) (0 : Int32).toNatClampNeg = 0 := pk_us
  generalize upd Fa1 (0 : Int32).toNatClampNeg 0 = f105 at hP hD q106
  refine lv_aload_n hx hb dX9_startWords_31 rfl (lv_at hl 1 rfl) ?_
  refine va_get (D := (dC, dI)) (ci := 12) (v := .ref Ad3) (C := RX9) (T := TX9) (N := 12) hx hb hts (in_z_X9_startWords_X9) hown hK hP 3 rfl rfl 7 (by decide) (hts (.fieldLink RX9 24 "HeapWorks$Tape" "codes" "[J") (by decide +kernel)) (fun _ h9 => h9) (ow_at o_s102 9 rfl) dX9_startWords_32 ?_
  refine lv_iload_n hx hb dX9_startWords_35 rfl (lv_at hl 0 rfl) ?_
  refine lv_aload_n hx hb dX9_startWords_36 rfl (lv_at hl 1 rfl) ?_
  refine va_get (D := (dC, dI)) (ci := 12) (v := .long 0) (C := RX9) (T := TX9) (N := 12) hx hb hts (in_z_X9_startWords_X9) hown hK hP 3 rfl rfl 11 (by decide) (hts (.fieldLink RX9 81 "HeapWorks$Tape" "code" "J") (by decide +kernel)) (fun _ h9 => h9) (ow_at o_s102 1 rfl) dX9_startWords_37 ?_
  refine va_last hx hb hK hP hD hS 2 2 rfl rfl (show vp_in 0 4001 from by unfold vp_in; decide) dX9_startWords_40 (fun H locs hP hD hS => ?_)
  have hP : va_P (dC, dI) vwCl [(Ad1, .inl (Ka0, 4001, .inl f103)), (Ad2, .inl (Ka1, 4001, .inl f105)), (Ad3, .inl (Ka2, 4001, .inr (.inl (vp_updL Fa2 (0 : Int32).toNatClampNeg 0)))), (Ad0, .inr (12, s102))] H := hP
  have hD : va_D A [(Ad1, .inl (Ka0, 4001, .inl f103)), (Ad2, .inl (Ka1, 4001, .inl f105)), (Ad3, .inl (Ka2, 4001, .inr (.inl (vp_updL Fa2 (0 : Int32).toNatClampNeg 0)))), (Ad0, .inr (12, s102))] := hD
  have q108 : (vp_updL Fa2 (0 : Int32).toNatClampNeg 0) (0 : Int32).toNatClampNeg = 0 := pk_uLs
  generalize vp_updL Fa2 (0 : Int32).toNatClampNeg 0 = f107 at hP hD q108
  refine lv_iinc (v := 1) (lv' := [(1, .int 1), (0, .ref Ad0)]) hx hb dX9_startWords_41 hl (k := 0) rfl (by decide) (by decide) rfl (fun ls hl => ?_)
  refine lv_aload_n hx hb dX9_startWords_44 rfl (lv_at hl 1 rfl) ?_
  refine va_get (D := (dC, dI)) (ci := 12) (v := .int 0) (C := RX9) (T := TX9) (N := 12) hx hb hts (in_z_X9_startWords_X9) hown hK hP 3 rfl rfl 9 (by decide) (hts (.fieldLink RX9 75 "HeapWorks$Tape" "word" "I") (by decide +kernel)) (fun _ h9 => h9) (ow_at o_s102 0 rfl) dX9_startWords_45 ?_
  refine lv_if_eq (tgt := 58) hx hb dX9_startWords_48 (by decide) (fun c109 => ?_) (fun c109 => absurd c109 (by decide))
  refine lv_aload_n hx hb dX9_startWords_58 rfl (lv_at hl 1 rfl) ?_
  refine lv_iconst (v := 0) hx hb dX9_startWords_59 (by decide) ?_
  refine va_put (D := (dC, dI)) (ci := 12) (v := .int 0) (ty := .int) (C := RX9) (T := TX9) (N := 12) hx hb hts (in_z_X9_startWords_X9) tyX9 tyX9_ok nmX9 hown hK hP hD hS 3 rfl rfl 8 (by decide) (hts (.fieldLink RX9 85 "HeapWorks$Tape" "next" "I") (by decide +kernel)) (fun _ h9 => h9) rfl (by decide +kernel) rfl rfl (by rw [o_s102.2.1]; decide) dX9_startWords_60 (fun H locs hP hD hS => ?_)
  have hP : va_P (dC, dI) vwCl [(Ad1, .inl (Ka0, 4001, .inl f103)), (Ad2, .inl (Ka1, 4001, .inl f105)), (Ad3, .inl (Ka2, 4001, .inr (.inl f107))), (Ad0, .inr (12, (s102.set 8 (.int 0))))] H := hP
  have hD : va_D A [(Ad1, .inl (Ka0, 4001, .inl f103)), (Ad2, .inl (Ka1, 4001, .inl f105)), (Ad3, .inl (Ka2, 4001, .inr (.inl f107))), (Ad0, .inr (12, (s102.set 8 (.int 0))))] := hD
  have o_s110 := ow_set o_s102 8 (.int 0) (by decide) (l' := [(8, .int 0), (9, .int 0), (11, .long 0), (10, .int 0), (4, .int 0), (1, .int 0), (4, .int 0), (1, .int 0), (5, .ref Ad1), (6, .ref Ad2), (7, .ref Ad3)]) (w' := [8, 9, 11, 10, 4]) rfl rfl
  generalize (s102.set 8 (.int 0)) = s110 at hP hD o_s110
  refine lv_aload_n hx hb dX9_startWords_63 rfl (lv_at hl 1 rfl) ?_
  have hPc := hP.sub (ws' := [(Ad1, .inl (Ka0, 4001, .inl f103)), (Ad2, .inl (Ka1, 4001, .inl f105)), (Ad3, .inl (Ka2, 4001, .inr (.inl f107))), (Ad0, .inr (12, s110))]) [0, 1, 2, 3] rfl
  have hDc := hD.sub (ws' := [(Ad1, .inl (Ka0, 4001, .inl f103)), (Ad2, .inl (Ka1, 4001, .inl f105)), (Ad3, .inl (Ka2, 4001, .inr (.inl f107))), (Ad0, .inr (12, s110))]) [0, 1, 2, 3] (by decide) rfl
  have hKc := hK.sub (tys' := [(Ka0, .int), (Ka1, .int), (Ka2, .long)]) [0, 1, 2] rfl
  have hFc := va_free (wc := [(Ad1, .inl (Ka0, 4001, .inl f103)), (Ad2, .inl (Ka1, 4001, .inl f105)), (Ad3, .inl (Ka2, 4001, .inr (.inl f107))), (Ad0, .inr (12, s110))]) hD hS hA [0, 1, 2, 3] rfl
  refine va_callv (va_runV (As := []) (rest := []) ⟨hx, hb, hml, hown, hts⟩ (z_X9_nextWord l dC dI H.size Ad1 f103 Ka0 Ad2 f105 Ka1 Ad3 f107 Ka2 Ad0 s110 (fh_sub o_s110.2 [0, 1, 8, 9, 10] rfl) q104 q106 q108) (cwV 0 hts g_z_X9_startWords_z_X9_nextWord_88 rfl rfl rfl (by decide +kernel) ⟨Nat.le_of_ble_eq_true rfl, Nat.le_of_ble_eq_true rfl⟩) ⟨fun a U g mk q => by obtain ⟨q0, q1, qP, qK, qD⟩ := q; exact ⟨q0, q1, qP, va_K.moved (u := U) (U := U.calling g mk a) (Vm.Alike.refl U.vm) qK, qD⟩, va_recv hK hP (ci := 12) (q0 := 3) rfl rfl, fun U hU hW => ⟨rfl, by rw [hU], by rw [hU]; exact hPc, va_K.moved hW.alike hKc, hDc.weaken (fun _ _ _ _ => trivial)⟩⟩ rfl rfl hl.1 rfl (lv_room (Nat.le_of_ble_eq_true rfl)) dX9_startWords_64 ⟨Nat.le_of_ble_eq_true rfl, Nat.le_of_ble_eq_true rfl⟩) hS (fun q _ h => hFc q h) hFc (fun u t H1 locs ht hvm hw hB hz1 hk1 hS => ?_)
  obtain ⟨s111, rfl⟩ : ∃ z, z = u := ⟨_, rfl⟩
  obtain ⟨hP1, hK1, hD1⟩ := hB
  rw [ht] at hP1
  try dsimp only at hw
  obtain ⟨hP, hD⟩ := va_join (wr := []) (w1 := [(Ad1, .inl (Ka0, 4001, .inl f103)), (Ad2, .inl (Ka1, 4001, .inl f105)), (Ad3, .inl (Ka2, 4001, .inr (.inl f107))), (Ad0, .inr (12, s111))]) hP hD [0, 1, 2, 3] [] rfl rfl (by decide) (by decide) hk1 hFc hP1 hD1
  have hK := hK.sub (tys' := [(Ka0, .int), (Ka1, .int), (Ka2, .long)]) [0, 1, 2] rfl
  generalize H1 = H at hP hS ⊢
  have hP : va_P (dC, dI) vwCl [(Ad1, .inl (Ka0, 4001, .inl f103)), (Ad2, .inl (Ka1, 4001, .inl f105)), (Ad3, .inl (Ka2, 4001, .inr (.inl f107))), (Ad0, .inr (12, s111))] H := hP
  have hD : va_D A [(Ad1, .inl (Ka0, 4001, .inl f103)), (Ad2, .inl (Ka1, 4001, .inl f105)), (Ad3, .inl (Ka2, 4001, .inr (.inl f107))), (Ad0, .inr (12, s111))] := hD
  have o_s111 := hw
  have o_s111 := ow_on o_s110 o_s111 (l' := [(11, .long 0), (10, .int 0), (9, .int 0), (8, .int 0), (5, .ref Ad1), (6, .ref Ad2), (7, .ref Ad3), (8, .int 0), (4, .int 0), (1, .int 0), (4, .int 0), (1, .int 0), (5, .ref Ad1), (6, .ref Ad2), (7, .ref Ad3)]) (w' := [11, 10, 9, 8, 4]) rfl rfl
  have hP9 := hP.sub (ws' := [(Ad0, .inr (12, s111)), (Ad1, .inl (Ka0, 4001, .inl f103)), (Ad2, .inl (Ka1, 4001, .inl f105)), (Ad3, .inl (Ka2, 4001, .inr (.inl f107)))]) [3, 0, 1, 2] rfl
  have hD9 := hD.sub (ws' := [(Ad0, .inr (12, s111)), (Ad1, .inl (Ka0, 4001, .inl f103)), (Ad2, .inl (Ka1, 4001, .inl f105)), (Ad3, .inl (Ka2, 4001, .inr (.inl f107)))]) [3, 0, 1, 2] (by decide) rfl
  have hK9 := hK.sub (tys' := [(Ka0, .int), (Ka1, .int), (Ka2, .long)]) [0, 1, 2] rfl
  exact W.vret hx hb hr (fun t ht hW => ⟨⟨(s111, f103, f105, f107), rfl, ⟨o_s111, q104, q106, q108⟩, by rw [ht]; exact hP9, va_K.moved hW.alike hK9, hD9⟩, hS.F ht⟩) hS.2.2 dX9_startWords_67

def l_z_X6_start : List Cond := [.fieldLink RX6 72 "HeapWorks$Program" "steps" "I", .fieldLink RX6 75 "HeapWorks$Program" "fault" "I", .fieldLink RX6 78 "HeapWorks$Program" "place" "I", .fieldLink RX6 81 "HeapWorks$Program" "usesHolders" "Z", .fieldLink RX6 84 "HeapWorks$Program" "usesKept" "Z", .fieldLink RX6 87 "HeapWorks$Program" "nodes" "I", .fieldLink RX6 90 "HeapWorks$Program" "nest" "I", .fieldLink RX6 93 "HeapWorks$Program" "folds" "I", .fieldLink RX6 62 "HeapWorks$Program" "itKnown" "Z", .fieldLink RX6 96 "HeapWorks$Program" "scopes" "I", .fieldLink RX6 99 "HeapWorks$Program" "waits" "I", .fieldLink RX6 9 "HeapWorks$Program" "tape" "LHeapWorks$Tape;", .methodLink RX6 102 yX9_startWords, .instanceMethod yX9_startWords, .selects RX9 yX9_startWords yX9_startWords, .initialized RX9, .code yX9_startWords cX9_startWords 2 none, .fieldLink RX9 69 "HeapWorks$Tape" "at" "I", .methodLink RX9 72 yX9_scanWord, .instanceMethod yX9_scanWord, .selects RX9 yX9_scanWord yX9_scanWord, .fieldLink RX9 18 "HeapWorks$Tape" "words" "[I", .fieldLink RX9 75 "HeapWorks$Tape" "word" "I", .fieldLink RX9 21 "HeapWorks$Tape" "places" "[I", .fieldLink RX9 78 "HeapWorks$Tape" "place" "I", .fieldLink RX9 24 "HeapWorks$Tape" "codes" "[J", .fieldLink RX9 81 "HeapWorks$Tape" "code" "J", .fieldLink RX9 85 "HeapWorks$Tape" "next" "I", .methodLink RX9 88 yX9_nextWord, .instanceMethod yX9_nextWord, .selects RX9 yX9_nextWord yX9_nextWord, .code yX9_scanWord cX9_scanWord 1 none, .fieldLink RX9 49 "HeapWorks$Tape" "size" "I", .code yX9_nextWord cX9_nextWord 1 none]
def w_z_X6_start : List Cond := .code yX6_start cX6_start 1 none :: (l_z_X6_start ++ ((wsX60 ++ wsX90)))
theorem in_z_X6_start_X6 : ∀ w ∈ wsX60, w ∈ w_z_X6_start := fun w h => List.mem_cons_of_mem _ (List.mem_append_right _ (List.mem_append_left _ h))
theorem in_z_X6_start_X9 : ∀ w ∈ wsX90, w ∈ w_z_X6_start := fun w h => List.mem_cons_of_mem _ (List.mem_append_right _ (List.mem_append_right _ (h)))
theorem g_z_X6_start_z_X9_startWords_102 : GoodIn w_z_X6_start (wsV RX6 102 RX9 yX9_startWords w_z_X9_startWords) := goodIn_app (goodIn_r (([.methodLink RX6 102 yX9_startWords, .instanceMethod yX9_startWords, .selects RX9 yX9_startWords yX9_startWords, .initialized RX9] : List Cond)) [13, 14, 15, 16] rfl (by decide +kernel)) (goodIn_ca (goodIn_r (.code yX9_startWords cX9_startWords 2 none :: l_z_X9_startWords) [17, 18, 19, 20, 21, 16, 22, 23, 24, 25, 26, 27, 28, 29, 30, 31, 32, 33, 34] rfl (by decide +kernel)) (goodIn_in (in_z_X6_start_X9) gd_X9))
set_option maxHeartbeats 4000000 in
set_option maxRecDepth 100000 in
theorem z_X6_start (l : Launch) (dC : Nat → ClassId) (dI : Nat → Nat → Nat) (sz : Nat) (Ad0 : Nat) (Fs0 : List Value) (Ad1 : Nat) (Fa0 : Nat → Int32) (Ka0 : ClassId) (Ad2 : Nat) (Fa1 : Nat → Int32) (Ka1 : ClassId) (Ad3 : Nat) (Fa2 : Nat → Int64) (Ka2 : ClassId) (Ad4 : Nat) (Fs1 : List Value) (k_Fs0 : fh Fs0 12 [(1, .int 0), (5, .ref Ad1), (6, .ref Ad2), (7, .ref Ad3)]) (k_Fs1 : fh Fs1 19 [(0, .ref Ad0)])  : Met l yX6_start w_z_X6_start ({ frames := 2, cells := 0, slots := 0, locals := 41 }) (va_Pc [.ref Ad4] (fun U => U.heap.size = sz ∧ Wd dC dI [(Ka0, .int), (Ka1, .int), (Ka2, .long)] (fun _ => True) [(Ad0, .inr (12, Fs0)), (Ad1, .inl (Ka0, 4001, .inl Fa0)), (Ad2, .inl (Ka1, 4001, .inl Fa1)), (Ad3, .inl (Ka2, 4001, .inr (.inl Fa2))), (Ad4, .inr (9, Fs1))] U)) (va_Qv (fun (u : List Value × (Nat → Int32) × (Nat → Int32) × (Nat → Int64) × List Value) => (ow Fs0 (u.1) 12 [11, 10, 9, 8, 4] [(11, .long 0), (10, .int 0), (9, .int 0), (8, .int 0), (5, .ref Ad1), (6, .ref Ad2), (7, .ref Ad3), (8, .int 0), (4, .int 0), (1, .int 0), (4, .int 0), (1, .int 0), (5, .ref Ad1), (6, .ref Ad2), (7, .ref Ad3), (1, .int 0), (5, .ref Ad1), (6, .ref Ad2), (7, .ref Ad3)] ∧ ow Fs1 (u.2.2.2.2) 19 [18, 16, 13, 12, 11, 10, 9, 8, 7, 6, 5] [(18, .int 0), (16, .int 0), (13, .int 0), (12, .int 0), (11, .int 0), (10, .int 0), (9, .int 0), (8, .int 0), (7, .int (-1)), (6, .int 0), (5, .int 0), (0, .ref Ad0)] ∧ (u.2.1) (0 : Int32).toNatClampNeg = 0 ∧ (u.2.2.1) (0 : Int32).toNatClampNeg = 0 ∧ (u.2.2.2.1) (0 : Int32).toNatClampNeg = 0)) (fun (u : List Value × (Nat → Int32) × (Nat → Int32) × (Nat → Int64) × List Value) t => Wd dC dI [(Ka0, .int), (Ka1, .int), (Ka2, .long)] (va_A [(Ad0, .inr (12, Fs0)), (Ad1, .inl (Ka0, 4001, .inl Fa0)), (Ad2, .inl (Ka1, 4001, .inl Fa1)), (Ad3, .inl (Ka2, 4001, .inr (.inl Fa2))), (Ad4, .inr (9, Fs1))] sz) [(Ad0, .inr (12, (u.1))), (Ad1, .inl (Ka0, 4001, .inl ((u.2.1)))), (Ad2, .inl (Ka1, 4001, .inl ((u.2.2.1)))), (Ad3, .inl (Ka2, 4001, .inr (.inl ((u.2.2.2.1))))), (Ad4, .inr (9, (u.2.2.2.2)))] t) (va_A [(Ad0, .inr (12, Fs0)), (Ad1, .inl (Ka0, 4001, .inl Fa0)), (Ad2, .inl (Ka1, 4001, .inl Fa1)), (Ad3, .inl (Ka2, 4001, .inr (.inl Fa2))), (Ad4, .inr (9, Fs1))] sz))  0 0 (va_A [(Ad0, .inr (12, Fs0)), (Ad1, .inl (Ka0, 4001, .inl Fa0)), (Ad2, .inl (Ka1, 4001, .inl Fa1)), (Ad3, .inl (Ka2, 4001, .inr (.inl Fa2))), (Ad4, .inr (9, Fs1))] sz) := by
  refine Met.ofW (cc := cX6_start) (maxL := 1) (ret := none) (by decide) rfl ?_
  intro p e s m args below meth c s₁ B hml hv
  obtain ⟨rfl, hsz, hP, hK, hD0⟩ := hv
  have hx := B.exec
  have hb := B.bytes
  have hr := B.returns
  have hts := atoms_spec (ws := w_z_X6_start) B.pre
  have hown : s.vm.findClass RX6 = some m.cls := findClass_of_methodNamed B.named
  have hlocks := B.notSynchronized
  subst hsz
  have hD := hD0.self (sz := s.heap.size)
  generalize hAe : va_A [(Ad0, .inr (12, Fs0)), (Ad1, .inl (Ka0, 4001, .inl Fa0)), (Ad2, .inl (Ka1, 4001, .inl Fa1)), (Ad3, .inl (Ka2, 4001, .inr (.inl Fa2))), (Ad4, .inr (9, Fs1))] s.heap.size = A at hD ⊢
  have hA : ∀ q : Nat, s.heap.size ≤ q → A q := fun q h => by rw [← hAe]; exact Or.inr h
  have hS : va_S A s.heap s.heap [] := va_S.rf
  have hl := lv_entry ([.ref Ad4]) (n := 1) (Nat.le_of_ble_eq_true rfl)
  rw [lg_entry_eq]
  generalize (lg_sl ([.ref Ad4]) ++ List.replicate (1 - (lg_sl ([.ref Ad4])).length) Slot.unset).toArray = ls at hl ⊢
  have hl : lv_has ls 1 [(0, .ref Ad4)] := hl
  have o_Fs0 := ow_0 k_Fs0
  have o_Fs1 := ow_0 k_Fs1
  refine lv_aload_n hx hb dX6_start_0 rfl (lv_at hl 0 rfl) ?_
  refine lv_iconst (v := 0) hx hb dX6_start_1 (by decide) ?_
  refine va_put (D := (dC, dI)) (ci := 9) (v := .int 0) (ty := .int) (C := RX6) (T := TX6) (N := 19) hx hb hts (in_z_X6_start_X6) tyX6 tyX6_ok nmX6 hown hK hP hD hS 4 rfl rfl 5 (by decide) (hts (.fieldLink RX6 72 "HeapWorks$Program" "steps" "I") (by decide +kernel)) (fun _ h9 => h9) rfl (by decide +kernel) rfl rfl (by rw [o_Fs1.2.1]; decide) dX6_start_2 (fun H locs hP hD hS => ?_)
  have hP : va_P (dC, dI) vwCl [(Ad0, .inr (12, Fs0)), (Ad1, .inl (Ka0, 4001, .inl Fa0)), (Ad2, .inl (Ka1, 4001, .inl Fa1)), (Ad3, .inl (Ka2, 4001, .inr (.inl Fa2))), (Ad4, .inr (9, (Fs1.set 5 (.int 0))))] H := hP
  have hD : va_D A [(Ad0, .inr (12, Fs0)), (Ad1, .inl (Ka0, 4001, .inl Fa0)), (Ad2, .inl (Ka1, 4001, .inl Fa1)), (Ad3, .inl (Ka2, 4001, .inr (.inl Fa2))), (Ad4, .inr (9, (Fs1.set 5 (.int 0))))] := hD
  have o_s101 := ow_set o_Fs1 5 (.int 0) (by decide) (l' := [(5, .int 0), (0, .ref Ad0)]) (w' := [5]) rfl rfl
  generalize (Fs1.set 5 (.int 0)) = s101 at hP hD o_s101
  refine lv_aload_n hx hb dX6_start_5 rfl (lv_at hl 0 rfl) ?_
  refine lv_iconst (v := 0) hx hb dX6_start_6 (by decide) ?_
  refine va_put (D := (dC, dI)) (ci := 9) (v := .int 0) (ty := .int) (C := RX6) (T := TX6) (N := 19) hx hb hts (in_z_X6_start_X6) tyX6 tyX6_ok nmX6 hown hK hP hD hS 4 rfl rfl 6 (by decide) (hts (.fieldLink RX6 75 "HeapWorks$Program" "fault" "I") (by decide +kernel)) (fun _ h9 => h9) rfl (by decide +kernel) rfl rfl (by rw [o_s101.2.1]; decide) dX6_start_7 (fun H locs hP hD hS => ?_)
  have hP : va_P (dC, dI) vwCl [(Ad0, .inr (12, Fs0)), (Ad1, .inl (Ka0, 4001, .inl Fa0)), (Ad2, .inl (Ka1, 4001, .inl Fa1)), (Ad3, .inl (Ka2, 4001, .inr (.inl Fa2))), (Ad4, .inr (9, (s101.set 6 (.int 0))))] H := hP
  have hD : va_D A [(Ad0, .inr (12, Fs0)), (Ad1, .inl (Ka0, 4001, .inl Fa0)), (Ad2, .inl (Ka1, 4001, .inl Fa1)), (Ad3, .inl (Ka2, 4001, .inr (.inl Fa2))), (Ad4, .inr (9, (s101.set 6 (.int 0))))] := hD
  have o_s102 := ow_set o_s101 6 (.int 0) (by decide) (l' := [(6, .int 0), (5, .int 0), (0, .ref Ad0)]) (w' := [6, 5]) rfl rfl
  generalize (s101.set 6 (.int 0)) = s102 at hP hD o_s102
  refine lv_aload_n hx hb dX6_start_10 rfl (lv_at hl 0 rfl) ?_
  refine lv_iconst (v := (-1)) hx hb dX6_start_11 (by decide) ?_
  refine va_put (D := (dC, dI)) (ci := 9) (v := .int (-1)) (ty := .int) (C := RX6) (T := TX6) (N := 19) hx hb hts (in_z_X6_start_X6) tyX6 tyX6_ok nmX6 hown hK hP hD hS 4 rfl rfl 7 (by decide) (hts (.fieldLink RX6 78 "HeapWorks$Program" "place" "I") (by decide +kernel)) (fun _ h9 => h9) rfl (by decide +kernel) rfl rfl (by rw [o_s102.2.1]; decide) dX6_start_12 (fun H locs hP hD hS => ?_)
  have hP : va_P (dC, dI) vwCl [(Ad0, .inr (12, Fs0)), (Ad1, .inl (Ka0, 4001, .inl Fa0)), (Ad2, .inl (Ka1, 4001, .inl Fa1)), (Ad3, .inl (Ka2, 4001, .inr (.inl Fa2))), (Ad4, .inr (9, (s102.set 7 (.int (-1)))))] H := hP
  have hD : va_D A [(Ad0, .inr (12, Fs0)), (Ad1, .inl (Ka0, 4001, .inl Fa0)), (Ad2, .inl (Ka1, 4001, .inl Fa1)), (Ad3, .inl (Ka2, 4001, .inr (.inl Fa2))), (Ad4, .inr (9, (s102.set 7 (.int (-1)))))] := hD
  have o_s103 := ow_set o_s102 7 (.int (-1)) (by decide) (l' := [(7, .int (-1)), (6, .int 0), (5, .int 0), (0, .ref Ad0)]) (w' := [7, 6, 5]) rfl rfl
  generalize (s102.set 7 (.int (-1))) = s103 at hP hD o_s103
  refine lv_aload_n hx hb dX6_start_15 rfl (lv_at hl 0 rfl) ?_
  refine lv_iconst (v := 0) hx hb dX6_start_16 (by decide) ?_
  refine va_put (D := (dC, dI)) (ci := 9) (v := .int 0) (ty := .boolean) (C := RX6) (T := TX6) (N := 19) hx hb hts (in_z_X6_start_X6) tyX6 tyX6_ok nmX6 hown hK hP hD hS 4 rfl rfl 8 (by decide) (hts (.fieldLink RX6 81 "HeapWorks$Program" "usesHolders" "Z") (by decide +kernel)) (fun _ h9 => h9) rfl (by decide +kernel) rfl rfl (by rw [o_s103.2.1]; decide) dX6_start_17 (fun H locs hP hD hS => ?_)
  have hP : va_P (dC, dI) vwCl [(Ad0, .inr (12, Fs0)), (Ad1, .inl (Ka0, 4001, .inl Fa0)), (Ad2, .inl (Ka1, 4001, .inl Fa1)), (Ad3, .inl (Ka2, 4001, .inr (.inl Fa2))), (Ad4, .inr (9, (s103.set 8 (.int 0))))] H := hP
  have hD : va_D A [(Ad0, .inr (12, Fs0)), (Ad1, .inl (Ka0, 4001, .inl Fa0)), (Ad2, .inl (Ka1, 4001, .inl Fa1)), (Ad3, .inl (Ka2, 4001, .inr (.inl Fa2))), (Ad4, .inr (9, (s103.set 8 (.int 0))))] := hD
  have o_s104 := ow_set o_s103 8 (.int 0) (by decide) (l' := [(8, .int 0), (7, .int (-1)), (6, .int 0), (5, .int 0), (0, .ref Ad0)]) (w' := [8, 7, 6, 5]) rfl rfl
  generalize (s103.set 8 (.int 0)) = s104 at hP hD o_s104
  refine lv_aload_n hx hb dX6_start_20 rfl (lv_at hl 0 rfl) ?_
  refine lv_iconst (v := 0) hx hb dX6_start_21 (by decide) ?_
  refine va_put (D := (dC, dI)) (ci := 9) (v := .int 0) (ty := .boolean) (C := RX6) (T := TX6) (N := 19) hx hb hts (in_z_X6_start_X6) tyX6 tyX6_ok nmX6 hown hK hP hD hS 4 rfl rfl 9 (by decide) (hts (.fieldLink RX6 84 "HeapWorks$Program" "usesKept" "Z") (by decide +kernel)) (fun _ h9 => h9) rfl (by decide +kernel) rfl rfl (by rw [o_s104.2.1]; decide) dX6_start_22 (fun H locs hP hD hS => ?_)
  have hP : va_P (dC, dI) vwCl [(Ad0, .inr (12, Fs0)), (Ad1, .inl (Ka0, 4001, .inl Fa0)), (Ad2, .inl (Ka1, 4001, .inl Fa1)), (Ad3, .inl (Ka2, 4001, .inr (.inl Fa2))), (Ad4, .inr (9, (s104.set 9 (.int 0))))] H := hP
  have hD : va_D A [(Ad0, .inr (12, Fs0)), (Ad1, .inl (Ka0, 4001, .inl Fa0)), (Ad2, .inl (Ka1, 4001, .inl Fa1)), (Ad3, .inl (Ka2, 4001, .inr (.inl Fa2))), (Ad4, .inr (9, (s104.set 9 (.int 0))))] := hD
  have o_s105 := ow_set o_s104 9 (.int 0) (by decide) (l' := [(9, .int 0), (8, .int 0), (7, .int (-1)), (6, .int 0), (5, .int 0), (0, .ref Ad0)]) (w' := [9, 8, 7, 6, 5]) rfl rfl
  generalize (s104.set 9 (.int 0)) = s105 at hP hD o_s105
  refine lv_aload_n hx hb dX6_start_25 rfl (lv_at hl 0 rfl) ?_
  refine lv_iconst (v := 0) hx hb dX6_start_26 (by decide) ?_
  refine va_put (D := (dC, dI)) (ci := 9) (v := .int 0) (ty := .int) (C := RX6) (T := TX6) (N := 19) hx hb hts (in_z_X6_start_X6) tyX6 tyX6_ok nmX6 hown hK hP hD hS 4 rfl rfl 10 (by decide) (hts (.fieldLink RX6 87 "HeapWorks$Program" "nodes" "I") (by decide +kernel)) (fun _ h9 => h9) rfl (by decide +kernel) rfl rfl (by rw [o_s105.2.1]; decide) dX6_start_27 (fun H locs hP hD hS => ?_)
  have hP : va_P (dC, dI) vwCl [(Ad0, .inr (12, Fs0)), (Ad1, .inl (Ka0, 4001, .inl Fa0)), (Ad2, .inl (Ka1, 4001, .inl Fa1)), (Ad3, .inl (Ka2, 4001, .inr (.inl Fa2))), (Ad4, .inr (9, (s105.set 10 (.int 0))))] H := hP
  have hD : va_D A [(Ad0, .inr (12, Fs0)), (Ad1, .inl (Ka0, 4001, .inl Fa0)), (Ad2, .inl (Ka1, 4001, .inl Fa1)), (Ad3, .inl (Ka2, 4001, .inr (.inl Fa2))), (Ad4, .inr (9, (s105.set 10 (.int 0))))] := hD
  have o_s106 := ow_set o_s105 10 (.int 0) (by decide) (l' := [(10, .int 0), (9, .int 0), (8, .int 0), (7, .int (-1)), (6, .int 0), (5, .int 0), (0, .ref Ad0)]) (w' := [10, 9, 8, 7, 6, 5]) rfl rfl
  generalize (s105.set 10 (.int 0)) = s106 at hP hD o_s106
  refine lv_aload_n hx hb dX6_start_30 rfl (lv_at hl 0 rfl) ?_
  refine lv_iconst (v := 0) hx hb dX6_start_31 (by decide) ?_
  refine va_put (D := (dC, dI)) (ci := 9) (v := .int 0) (ty := .int) (C := RX6) (T := TX6) (N := 19) hx hb hts (in_z_X6_start_X6) tyX6 tyX6_ok nmX6 hown hK hP hD hS 4 rfl rfl 11 (by decide) (hts (.fieldLink RX6 90 "HeapWorks$Program" "nest" "I") (by decide +kernel)) (fun _ h9 => h9) rfl (by decide +kernel) rfl rfl (by rw [o_s106.2.1]; decide) dX6_start_32 (fun H locs hP hD hS => ?_)
  have hP : va_P (dC, dI) vwCl [(Ad0, .inr (12, Fs0)), (Ad1, .inl (Ka0, 4001, .inl Fa0)), (Ad2, .inl (Ka1, 4001, .inl Fa1)), (Ad3, .inl (Ka2, 4001, .inr (.inl Fa2))), (Ad4, .inr (9, (s106.set 11 (.int 0))))] H := hP
  have hD : va_D A [(Ad0, .inr (12, Fs0)), (Ad1, .inl (Ka0, 4001, .inl Fa0)), (Ad2, .inl (Ka1, 4001, .inl Fa1)), (Ad3, .inl (Ka2, 4001, .inr (.inl Fa2))), (Ad4, .inr (9, (s106.set 11 (.int 0))))] := hD
  have o_s107 := ow_set o_s106 11 (.int 0) (by decide) (l' := [(11, .int 0), (10, .int 0), (9, .int 0), (8, .int 0), (7, .int (-1)), (6, .int 0), (5, .int 0), (0, .ref Ad0)]) (w' := [11, 10, 9, 8, 7, 6, 5]) rfl rfl
  generalize (s106.set 11 (.int 0)) = s107 at hP hD o_s107
  refine lv_aload_n hx hb dX6_start_35 rfl (lv_at hl 0 rfl) ?_
  refine lv_iconst (v := 0) hx hb dX6_start_36 (by decide) ?_
  refine va_put (D := (dC, dI)) (ci := 9) (v := .int 0) (ty := .int) (C := RX6) (T := TX6) (N := 19) hx hb hts (in_z_X6_start_X6) tyX6 tyX6_ok nmX6 hown hK hP hD hS 4 rfl rfl 12 (by decide) (hts (.fieldLink RX6 93 "HeapWorks$Program" "folds" "I") (by decide +kernel)) (fun _ h9 => h9) rfl (by decide +kernel) rfl rfl (by rw [o_s107.2.1]; decide) dX6_start_37 (fun H locs hP hD hS => ?_)
  have hP : va_P (dC, dI) vwCl [(Ad0, .inr (12, Fs0)), (Ad1, .inl (Ka0, 4001, .inl Fa0)), (Ad2, .inl (Ka1, 4001, .inl Fa1)), (Ad3, .inl (Ka2, 4001, .inr (.inl Fa2))), (Ad4, .inr (9, (s107.set 12 (.int 0))))] H := hP
  have hD : va_D A [(Ad0, .inr (12, Fs0)), (Ad1, .inl (Ka0, 4001, .inl Fa0)), (Ad2, .inl (Ka1, 4001, .inl Fa1)), (Ad3, .inl (Ka2, 4001, .inr (.inl Fa2))), (Ad4, .inr (9, (s107.set 12 (.int 0))))] := hD
  have o_s108 := ow_set o_s107 12 (.int 0) (by decide) (l' := [(12, .int 0), (11, .int 0), (10, .int 0), (9, .int 0), (8, .int 0), (7, .int (-1)), (6, .int 0), (5, .int 0), (0, .ref Ad0)]) (w' := [12, 11, 10, 9, 8, 7, 6, 5]) rfl rfl
  generalize (s107.set 12 (.int 0)) = s108 at hP hD o_s108
  refine lv_aload_n hx hb dX6_start_40 rfl (lv_at hl 0 rfl) ?_
  refine lv_iconst (v := 0) hx hb dX6_start_41 (by decide) ?_
  refine va_put (D := (dC, dI)) (ci := 9) (v := .int 0) (ty := .boolean) (C := RX6) (T := TX6) (N := 19) hx hb hts (in_z_X6_start_X6) tyX6 tyX6_ok nmX6 hown hK hP hD hS 4 rfl rfl 13 (by decide) (hts (.fieldLink RX6 62 "HeapWorks$Program" "itKnown" "Z") (by decide +kernel)) (fun _ h9 => h9) rfl (by decide +kernel) rfl rfl (by rw [o_s108.2.1]; decide) dX6_start_42 (fun H locs hP hD hS => ?_)
  have hP : va_P (dC, dI) vwCl [(Ad0, .inr (12, Fs0)), (Ad1, .inl (Ka0, 4001, .inl Fa0)), (Ad2, .inl (Ka1, 4001, .inl Fa1)), (Ad3, .inl (Ka2, 4001, .inr (.inl Fa2))), (Ad4, .inr (9, (s108.set 13 (.int 0))))] H := hP
  have hD : va_D A [(Ad0, .inr (12, Fs0)), (Ad1, .inl (Ka0, 4001, .inl Fa0)), (Ad2, .inl (Ka1, 4001, .inl Fa1)), (Ad3, .inl (Ka2, 4001, .inr (.inl Fa2))), (Ad4, .inr (9, (s108.set 13 (.int 0))))] := hD
  have o_s109 := ow_set o_s108 13 (.int 0) (by decide) (l' := [(13, .int 0), (12, .int 0), (11, .int 0), (10, .int 0), (9, .int 0), (8, .int 0), (7, .int (-1)), (6, .int 0), (5, .int 0), (0, .ref Ad0)]) (w' := [13, 12, 11, 10, 9, 8, 7, 6, 5]) rfl rfl
  generalize (s108.set 13 (.int 0)) = s109 at hP hD o_s109
  refine lv_aload_n hx hb dX6_start_45 rfl (lv_at hl 0 rfl) ?_
  refine lv_iconst (v := 0) hx hb dX6_start_46 (by decide) ?_
  refine va_put (D := (dC, dI)) (ci := 9) (v := .int 0) (ty := .int) (C := RX6) (T := TX6) (N := 19) hx hb hts (in_z_X6_start_X6) tyX6 tyX6_ok nmX6 hown hK hP hD hS 4 rfl rfl 16 (by decide) (hts (.fieldLink RX6 96 "HeapWorks$Program" "scopes" "I") (by decide +kernel)) (fun _ h9 => h9) rfl (by decide +kernel) rfl rfl (by rw [o_s109.2.1]; decide) dX6_start_47 (fun H locs hP hD hS => ?_)
  have hP : va_P (dC, dI) vwCl [(Ad0, .inr (12, Fs0)), (Ad1, .inl (Ka0, 4001, .inl Fa0)), (Ad2, .inl (Ka1, 4001, .inl Fa1)), (Ad3, .inl (Ka2, 4001, .inr (.inl Fa2))), (Ad4, .inr (9, (s109.set 16 (.int 0))))] H := hP
  have hD : va_D A [(Ad0, .inr (12, Fs0)), (Ad1, .inl (Ka0, 4001, .inl Fa0)), (Ad2, .inl (Ka1, 4001, .inl Fa1)), (Ad3, .inl (Ka2, 4001, .inr (.inl Fa2))), (Ad4, .inr (9, (s109.set 16 (.int 0))))] := hD
  have o_s110 := ow_set o_s109 16 (.int 0) (by decide) (l' := [(16, .int 0), (13, .int 0), (12, .int 0), (11, .int 0), (10, .int 0), (9, .int 0), (8, .int 0), (7, .int (-1)), (6, .int 0), (5, .int 0), (0, .ref Ad0)]) (w' := [16, 13, 12, 11, 10, 9, 8, 7, 6, 5]) rfl rfl
  generalize (s109.set 16 (.int 0)) = s110 at hP hD o_s110
  refine lv_aload_n hx hb dX6_start_50 rfl (lv_at hl 0 rfl) ?_
  refine lv_iconst (v := 0) hx hb dX6_start_51 (by decide) ?_
  refine va_put (D := (dC, dI)) (ci := 9) (v := .int 0) (ty := .int) (C := RX6) (T := TX6) (N := 19) hx hb hts (in_z_X6_start_X6) tyX6 tyX6_ok nmX6 hown hK hP hD hS 4 rfl rfl 18 (by decide) (hts (.fieldLink RX6 99 "HeapWorks$Program" "waits" "I") (by decide +kernel)) (fun _ h9 => h9) rfl (by decide +kernel) rfl rfl (by rw [o_s110.2.1]; decide) dX6_start_52 (fun H locs hP hD hS => ?_)
  have hP : va_P (dC, dI) vwCl [(Ad0, .inr (12, Fs0)), (Ad1, .inl (Ka0, 4001, .inl Fa0)), (Ad2, .inl (Ka1, 4001, .inl Fa1)), (Ad3, .inl (Ka2, 4001, .inr (.inl Fa2))), (Ad4, .inr (9, (s110.set 18 (.int 0))))] H := hP
  have hD : va_D A [(Ad0, .inr (12, Fs0)), (Ad1, .inl (Ka0, 4001, .inl Fa0)), (Ad2, .inl (Ka1, 4001, .inl Fa1)), (Ad3, .inl (Ka2, 4001, .inr (.inl Fa2))), (Ad4, .inr (9, (s110.set 18 (.int 0))))] := hD
  have o_s111 := ow_set o_s110 18 (.int 0) (by decide) (l' := [(18, .int 0), (16, .int 0), (13, .int 0), (12, .int 0), (11, .int 0), (10, .int 0), (9, .int 0), (8, .int 0), (7, .int (-1)), (6, .int 0), (5, .int 0), (0, .ref Ad0)]) (w' := [18, 16, 13, 12, 11, 10, 9, 8, 7, 6, 5]) rfl rfl
  generalize (s110.set 18 (.int 0)) = s111 at hP hD o_s111
  refine lv_aload_n hx hb dX6_start_55 rfl (lv_at hl 0 rfl) ?_
  refine va_get (D := (dC, dI)) (ci := 9) (v := .ref Ad0) (C := RX6) (T := TX6) (N := 19) hx hb hts (in_z_X6_start_X6) hown hK hP 4 rfl rfl 0 (by decide) (hts (.fieldLink RX6 9 "HeapWorks$Program" "tape" "LHeapWorks$Tape;") (by decide +kernel)) (fun _ h9 => h9) (ow_at o_s111 11 rfl) dX6_start_56 ?_
  have hPc := hP.sub (ws' := [(Ad0, .inr (12, Fs0)), (Ad1, .inl (Ka0, 4001, .inl Fa0)), (Ad2, .inl (Ka1, 4001, .inl Fa1)), (Ad3, .inl (Ka2, 4001, .inr (.inl Fa2)))]) [0, 1, 2, 3] rfl
  have hDc := hD.sub (ws' := [(Ad0, .inr (12, Fs0)), (Ad1, .inl (Ka0, 4001, .inl Fa0)), (Ad2, .inl (Ka1, 4001, .inl Fa1)), (Ad3, .inl (Ka2, 4001, .inr (.inl Fa2)))]) [0, 1, 2, 3] (by decide) rfl
  have hKc := hK.sub (tys' := [(Ka0, .int), (Ka1, .int), (Ka2, .long)]) [0, 1, 2] rfl
  have hFc := va_free (wc := [(Ad0, .inr (12, Fs0)), (Ad1, .inl (Ka0, 4001, .inl Fa0)), (Ad2, .inl (Ka1, 4001, .inl Fa1)), (Ad3, .inl (Ka2, 4001, .inr (.inl Fa2)))]) hD hS hA [0, 1, 2, 3] rfl
  refine va_callv (va_runV (As := []) (rest := []) ⟨hx, hb, hml, hown, hts⟩ (z_X9_startWords l dC dI H.size Ad0 Fs0 Ad1 Fa0 Ka0 Ad2 Fa1 Ka1 Ad3 Fa2 Ka2 (fh_sub o_Fs0.2 [0, 1, 2, 3] rfl) ) (cwV 0 hts g_z_X6_start_z_X9_startWords_102 rfl rfl rfl (by decide +kernel) ⟨Nat.le_of_ble_eq_true rfl, Nat.le_of_ble_eq_true rfl⟩) ⟨fun a U g mk q => by obtain ⟨q0, q1, qP, qK, qD⟩ := q; exact ⟨q0, q1, qP, va_K.moved (u := U) (U := U.calling g mk a) (Vm.Alike.refl U.vm) qK, qD⟩, va_recv hK hP (ci := 12) (q0 := 0) rfl rfl, fun U hU hW => ⟨rfl, by rw [hU], by rw [hU]; exact hPc, va_K.moved hW.alike hKc, hDc.weaken (fun _ _ _ _ => trivial)⟩⟩ rfl rfl hl.1 rfl (lv_room (Nat.le_of_ble_eq_true rfl)) dX6_start_59 ⟨Nat.le_of_ble_eq_true rfl, Nat.le_of_ble_eq_true rfl⟩) hS (fun q _ h => hFc q h) hFc (fun u t H1 locs ht hvm hw hB hz1 hk1 hS => ?_)
  obtain ⟨s112, f113, f114, f115⟩ := u
  obtain ⟨hP1, hK1, hD1⟩ := hB
  rw [ht] at hP1
  try dsimp only at hw
  obtain ⟨hP, hD⟩ := va_join (wr := [(Ad4, .inr (9, s111))]) (w1 := [(Ad0, .inr (12, s112)), (Ad1, .inl (Ka0, 4001, .inl f113)), (Ad2, .inl (Ka1, 4001, .inl f114)), (Ad3, .inl (Ka2, 4001, .inr (.inl f115)))]) hP hD [0, 1, 2, 3] [4] rfl rfl (by decide) (by decide) hk1 hFc hP1 hD1
  have hK := hK.sub (tys' := [(Ka0, .int), (Ka1, .int), (Ka2, .long)]) [0, 1, 2] rfl
  generalize H1 = H at hP hS ⊢
  have hP : va_P (dC, dI) vwCl [(Ad4, .inr (9, s111)), (Ad0, .inr (12, s112)), (Ad1, .inl (Ka0, 4001, .inl f113)), (Ad2, .inl (Ka1, 4001, .inl f114)), (Ad3, .inl (Ka2, 4001, .inr (.inl f115)))] H := hP
  have hD : va_D A [(Ad4, .inr (9, s111)), (Ad0, .inr (12, s112)), (Ad1, .inl (Ka0, 4001, .inl f113)), (Ad2, .inl (Ka1, 4001, .inl f114)), (Ad3, .inl (Ka2, 4001, .inr (.inl f115)))] := hD
  obtain ⟨o_s112, q116, q117, q118⟩ := hw
  have o_s112 := ow_on o_Fs0 o_s112 (l' := [(11, .long 0), (10, .int 0), (9, .int 0), (8, .int 0), (5, .ref Ad1), (6, .ref Ad2), (7, .ref Ad3), (8, .int 0), (4, .int 0), (1, .int 0), (4, .int 0), (1, .int 0), (5, .ref Ad1), (6, .ref Ad2), (7, .ref Ad3), (1, .int 0), (5, .ref Ad1), (6, .ref Ad2), (7, .ref Ad3)]) (w' := [11, 10, 9, 8, 4]) rfl rfl
  have hP9 := hP.sub (ws' := [(Ad0, .inr (12, s112)), (Ad1, .inl (Ka0, 4001, .inl f113)), (Ad2, .inl (Ka1, 4001, .inl f114)), (Ad3, .inl (Ka2, 4001, .inr (.inl f115))), (Ad4, .inr (9, s111))]) [1, 2, 3, 4, 0] rfl
  have hD9 := hD.sub (ws' := [(Ad0, .inr (12, s112)), (Ad1, .inl (Ka0, 4001, .inl f113)), (Ad2, .inl (Ka1, 4001, .inl f114)), (Ad3, .inl (Ka2, 4001, .inr (.inl f115))), (Ad4, .inr (9, s111))]) [1, 2, 3, 4, 0] (by decide) rfl
  have hK9 := hK.sub (tys' := [(Ka0, .int), (Ka1, .int), (Ka2, .long)]) [0, 1, 2] rfl
  exact W.vret hx hb hr (fun t ht hW => ⟨⟨(s112, f113, f114, f115, s111), rfl, ⟨o_s112, o_s111, q116, q117, q118⟩, by rw [ht]; exact hP9, va_K.moved hW.alike hK9, hD9⟩, hS.F ht⟩) hS.2.2 dX6_start_62

def l_z_X6_fail : List Cond := [.fieldLink RX6 75 "HeapWorks$Program" "fault" "I", .fieldLink RX6 9 "HeapWorks$Program" "tape" "LHeapWorks$Tape;", .fieldLink RX6 111 "HeapWorks$Tape" "place" "I", .fieldLink RX6 78 "HeapWorks$Program" "place" "I"]
def w_z_X6_fail : List Cond := .code yX6_fail cX6_fail 2 (some .boolean) :: (l_z_X6_fail ++ ((wsX60 ++ wsX90)))
theorem in_z_X6_fail_X6 : ∀ w ∈ wsX60, w ∈ w_z_X6_fail := fun w h => List.mem_cons_of_mem _ (List.mem_append_right _ (List.mem_append_left _ h))
theorem in_z_X6_fail_X9 : ∀ w ∈ wsX90, w ∈ w_z_X6_fail := fun w h => List.mem_cons_of_mem _ (List.mem_append_right _ (List.mem_append_right _ (h)))
set_option maxHeartbeats 4000000 in
set_option maxRecDepth 100000 in
theorem z_X6_fail (l : Launch) (dC : Nat → ClassId) (dI : Nat → Nat → Nat) (sz : Nat) (Ad0 : Nat) (Fs0 : List Value) (Ad1 : Nat) (Fs1 : List Value) (k_Fs0 : fh Fs0 12 [(10, .int 0)]) (k_Fs1 : fh Fs1 19 [(0, .ref Ad0), (0, .ref Ad0)])  : Met l yX6_fail w_z_X6_fail ({ frames := 0, cells := 0, slots := 0, locals := 0 }) (va_Pc [.ref Ad1, .int 1] (fun U => U.heap.size = sz ∧ Wd dC dI [] (fun _ => True) [(Ad0, .inr (12, Fs0)), (Ad1, .inr (9, Fs1))] U)) (va_Qi (fun (r : Int32) (u : List Value) => (r = 0 ∧ ow Fs1 (u) 19 [7, 6] [(7, .int 0), (6, .int 1), (0, .ref Ad0), (0, .ref Ad0)])) (fun (u : List Value) t => Wd dC dI [] (va_A [(Ad0, .inr (12, Fs0)), (Ad1, .inr (9, Fs1))] sz) [(Ad0, .inr (12, Fs0)), (Ad1, .inr (9, (u)))] t) (va_A [(Ad0, .inr (12, Fs0)), (Ad1, .inr (9, Fs1))] sz))  0 0 (va_A [(Ad0, .inr (12, Fs0)), (Ad1, .inr (9, Fs1))] sz) := by
  refine Met.ofW (cc := cX6_fail) (maxL := 2) (ret := (some .boolean)) (by decide) rfl ?_
  intro p e s m args below meth c s₁ B hml hv
  obtain ⟨rfl, hsz, hP, hK, hD0⟩ := hv
  have hx := B.exec
  have hb := B.bytes
  have hr := B.returns
  have hts := atoms_spec (ws := w_z_X6_fail) B.pre
  have hown : s.vm.findClass RX6 = some m.cls := findClass_of_methodNamed B.named
  have hlocks := B.notSynchronized
  subst hsz
  have hD := hD0.self (sz := s.heap.size)
  generalize hAe : va_A [(Ad0, .inr (12, Fs0)), (Ad1, .inr (9, Fs1))] s.heap.size = A at hD ⊢
  have hA : ∀ q : Nat, s.heap.size ≤ q → A q := fun q h => by rw [← hAe]; exact Or.inr h
  have hS : va_S A s.heap s.heap [] := va_S.rf
  have hl := lv_entry ([.ref Ad1, .int 1]) (n := 2) (Nat.le_of_ble_eq_true rfl)
  rw [lg_entry_eq]
  generalize (lg_sl ([.ref Ad1, .int 1]) ++ List.replicate (2 - (lg_sl ([.ref Ad1, .int 1])).length) Slot.unset).toArray = ls at hl ⊢
  have hl : lv_has ls 2 [(0, .ref Ad1), (1, .int 1)] := hl
  have o_Fs0 := ow_0 k_Fs0
  have o_Fs1 := ow_0 k_Fs1
  refine lv_aload_n hx hb dX6_fail_0 rfl (lv_at hl 0 rfl) ?_
  refine lv_iload_n hx hb dX6_fail_1 rfl (lv_at hl 1 rfl) ?_
  refine va_put (D := (dC, dI)) (ci := 9) (v := .int 1) (ty := .int) (C := RX6) (T := TX6) (N := 19) hx hb hts (in_z_X6_fail_X6) tyX6 tyX6_ok nmX6 hown hK hP hD hS 1 rfl rfl 6 (by decide) (hts (.fieldLink RX6 75 "HeapWorks$Program" "fault" "I") (by decide +kernel)) (fun _ h9 => h9) rfl (by decide +kernel) rfl rfl (by rw [o_Fs1.2.1]; decide) dX6_fail_2 (fun H locs hP hD hS => ?_)
  have hP : va_P (dC, dI) vwCl [(Ad0, .inr (12, Fs0)), (Ad1, .inr (9, (Fs1.set 6 (.int 1))))] H := hP
  have hD : va_D A [(Ad0, .inr (12, Fs0)), (Ad1, .inr (9, (Fs1.set 6 (.int 1))))] := hD
  have o_s101 := ow_set o_Fs1 6 (.int 1) (by decide) (l' := [(6, .int 1), (0, .ref Ad0), (0, .ref Ad0)]) (w' := [6]) rfl rfl
  generalize (Fs1.set 6 (.int 1)) = s101 at hP hD o_s101
  refine lv_aload_n hx hb dX6_fail_5 rfl (lv_at hl 0 rfl) ?_
  refine lv_aload_n hx hb dX6_fail_6 rfl (lv_at hl 0 rfl) ?_
  refine va_get (D := (dC, dI)) (ci := 9) (v := .ref Ad0) (C := RX6) (T := TX6) (N := 19) hx hb hts (in_z_X6_fail_X6) hown hK hP 1 rfl rfl 0 (by decide) (hts (.fieldLink RX6 9 "HeapWorks$Program" "tape" "LHeapWorks$Tape;") (by decide +kernel)) (fun _ h9 => h9) (ow_at o_s101 1 rfl) dX6_fail_7 ?_
  refine va_get (D := (dC, dI)) (ci := 12) (v := .int 0) (C := RX9) (T := TX9) (N := 12) hx hb hts (in_z_X6_fail_X9) hown hK hP 0 rfl rfl 10 (by decide) (hts (.fieldLink RX6 111 "HeapWorks$Tape" "place" "I") (by decide +kernel)) (fun _ h9 => h9) (ow_at o_Fs0 0 rfl) dX6_fail_10 ?_
  refine va_put (D := (dC, dI)) (ci := 9) (v := .int 0) (ty := .int) (C := RX6) (T := TX6) (N := 19) hx hb hts (in_z_X6_fail_X6) tyX6 tyX6_ok nmX6 hown hK hP hD hS 1 rfl rfl 7 (by decide) (hts (.fieldLink RX6 78 "HeapWorks$Program" "place" "I") (by decide +kernel)) (fun _ h9 => h9) rfl (by decide +kernel) rfl rfl (by rw [o_s101.2.1]; decide) dX6_fail_13 (fun H locs hP hD hS => ?_)
  have hP : va_P (dC, dI) vwCl [(Ad0, .inr (12, Fs0)), (Ad1, .inr (9, (s101.set 7 (.int 0))))] H := hP
  have hD : va_D A [(Ad0, .inr (12, Fs0)), (Ad1, .inr (9, (s101.set 7 (.int 0))))] := hD
  have o_s102 := ow_set o_s101 7 (.int 0) (by decide) (l' := [(7, .int 0), (6, .int 1), (0, .ref Ad0), (0, .ref Ad0)]) (w' := [7, 6]) rfl rfl
  generalize (s101.set 7 (.int 0)) = s102 at hP hD o_s102
  refine lv_iconst (v := 0) hx hb dX6_fail_16 (by decide) ?_
  have hP9 := hP.sub (ws' := [(Ad0, .inr (12, Fs0)), (Ad1, .inr (9, s102))]) [0, 1] rfl
  have hD9 := hD.sub (ws' := [(Ad0, .inr (12, Fs0)), (Ad1, .inr (9, s102))]) [0, 1] (by decide) rfl
  have hK9 := hK.sub (tys' := []) [] rfl
  exact W.zret (v := 0) hx hb hr rfl (fun t ht hW => ⟨⟨0, s102, rfl, ⟨rfl, o_s102⟩, by rw [ht]; exact hP9, va_K.moved hW.alike hK9, hD9⟩, hS.F ht⟩) hS.2.2 dX6_fail_17

def l_z_X6_refuse : List Cond := [.fieldLink RX6 9 "HeapWorks$Program" "tape" "LHeapWorks$Tape;", .fieldLink RX6 45 "HeapWorks$Tape" "word" "I", .methodLink RX6 112 yX6_fail, .instanceMethod yX6_fail, .selects RX6 yX6_fail yX6_fail, .initialized RX6, .code yX6_fail cX6_fail 2 (some .boolean), .fieldLink RX6 75 "HeapWorks$Program" "fault" "I", .fieldLink RX6 111 "HeapWorks$Tape" "place" "I", .fieldLink RX6 78 "HeapWorks$Program" "place" "I"]
def w_z_X6_refuse : List Cond := .code yX6_refuse cX6_refuse 1 (some .boolean) :: (l_z_X6_refuse ++ ((wsX60 ++ wsX90)))
theorem in_z_X6_refuse_X6 : ∀ w ∈ wsX60, w ∈ w_z_X6_refuse := fun w h => List.mem_cons_of_mem _ (List.mem_append_right _ (List.mem_append_left _ h))
theorem in_z_X6_refuse_X9 : ∀ w ∈ wsX90, w ∈ w_z_X6_refuse := fun w h => List.mem_cons_of_mem _ (List.mem_append_right _ (List.mem_append_right _ (h)))
theorem g_z_X6_refuse_z_X6_fail_112 : GoodIn w_z_X6_refuse (wsV RX6 112 RX6 yX6_fail w_z_X6_fail) := goodIn_app (goodIn_r (([.methodLink RX6 112 yX6_fail, .instanceMethod yX6_fail, .selects RX6 yX6_fail yX6_fail, .initialized RX6] : List Cond)) [3, 4, 5, 6] rfl (by decide +kernel)) (goodIn_ca (goodIn_r (.code yX6_fail cX6_fail 2 (some .boolean) :: l_z_X6_fail) [7, 8, 1, 9, 10] rfl (by decide +kernel)) (goodIn_app (goodIn_in (in_z_X6_refuse_X6) gd_X6) (goodIn_in (in_z_X6_refuse_X9) gd_X9)))
set_option maxHeartbeats 4000000 in
set_option maxRecDepth 100000 in
theorem z_X6_refuse (l : Launch) (dC : Nat → ClassId) (dI : Nat → Nat → Nat) (sz : Nat) (Ad0 : Nat) (Fs0 : List Value) (Ad1 : Nat) (Fs1 : List Value) (k_Fs0 : fh Fs0 12 [(10, .int 0), (9, .int 0)]) (k_Fs1 : fh Fs1 19 [(0, .ref Ad0), (0, .ref Ad0)])  : Met l yX6_refuse w_z_X6_refuse ({ frames := 1, cells := 0, slots := 0, locals := 21 }) (va_Pc [.ref Ad1] (fun U => U.heap.size = sz ∧ Wd dC dI [] (fun _ => True) [(Ad0, .inr (12, Fs0)), (Ad1, .inr (9, Fs1))] U)) (va_Qi (fun (r : Int32) (u : List Value) => (r = 0 ∧ ow Fs1 (u) 19 [7, 6] [(7, .int 0), (6, .int 1), (0, .ref Ad0), (0, .ref Ad0), (0, .ref Ad0), (0, .ref Ad0)])) (fun (u : List Value) t => Wd dC dI [] (va_A [(Ad0, .inr (12, Fs0)), (Ad1, .inr (9, Fs1))] sz) [(Ad0, .inr (12, Fs0)), (Ad1, .inr (9, (u)))] t) (va_A [(Ad0, .inr (12, Fs0)), (Ad1, .inr (9, Fs1))] sz))  0 0 (va_A [(Ad0, .inr (12, Fs0)), (Ad1, .inr (9, Fs1))] sz) := by
  refine Met.ofW (cc := cX6_refuse) (maxL := 1) (ret := (some .boolean)) (by decide) rfl ?_
  intro p e s m args below meth c s₁ B hml hv
  obtain ⟨rfl, hsz, hP, hK, hD0⟩ := hv
  have hx := B.exec
  have hb := B.bytes
  have hr := B.returns
  have hts := atoms_spec (ws := w_z_X6_refuse) B.pre
  have hown : s.vm.findClass RX6 = some m.cls := findClass_of_methodNamed B.named
  have hlocks := B.notSynchronized
  subst hsz
  have hD := hD0.self (sz := s.heap.size)
  generalize hAe : va_A [(Ad0, .inr (12, Fs0)), (Ad1, .inr (9, Fs1))] s.heap.size = A at hD ⊢
  have hA : ∀ q : Nat, s.heap.size ≤ q → A q := fun q h => by rw [← hAe]; exact Or.inr h
  have hS : va_S A s.heap s.heap [] := va_S.rf
  have hl := lv_entry ([.ref Ad1]) (n := 1) (Nat.le_of_ble_eq_true rfl)
  rw [lg_entry_eq]
  generalize (lg_sl ([.ref Ad1]) ++ List.replicate (1 - (lg_sl ([.ref Ad1])).length) Slot.unset).toArray = ls at hl ⊢
  have hl : lv_has ls 1 [(0, .ref Ad1)] := hl
  have o_Fs0 := ow_0 k_Fs0
  have o_Fs1 := ow_0 k_Fs1
  refine lv_aload_n hx hb dX6_refuse_0 rfl (lv_at hl 0 rfl) ?_
  refine lv_aload_n hx hb dX6_refuse_1 rfl (lv_at hl 0 rfl) ?_
  refine va_get (D := (dC, dI)) (ci := 9) (v := .ref Ad0) (C := RX6) (T := TX6) (N := 19) hx hb hts (in_z_X6_refuse_X6) hown hK hP 1 rfl rfl 0 (by decide) (hts (.fieldLink RX6 9 "HeapWorks$Program" "tape" "LHeapWorks$Tape;") (by decide +kernel)) (fun _ h9 => h9) (ow_at o_Fs1 0 rfl) dX6_refuse_2 ?_
  refine va_get (D := (dC, dI)) (ci := 12) (v := .int 0) (C := RX9) (T := TX9) (N := 12) hx hb hts (in_z_X6_refuse_X9) hown hK hP 0 rfl rfl 9 (by decide) (hts (.fieldLink RX6 45 "HeapWorks$Tape" "word" "I") (by decide +kernel)) (fun _ h9 => h9) (ow_at o_Fs0 1 rfl) dX6_refuse_5 ?_
  refine lv_iconst (v := 1) hx hb dX6_refuse_8 (by decide) ?_
  refine lv_icmp_ne (tgt := 16) hx hb dX6_refuse_9 (by decide) (fun c101 => ?_) (fun c101 => absurd c101 (by decide))
  refine lv_iconst (v := 1) hx hb dX6_refuse_16 (by decide) ?_
  have hPc := hP.sub (ws' := [(Ad0, .inr (12, Fs0)), (Ad1, .inr (9, Fs1))]) [0, 1] rfl
  have hDc := hD.sub (ws' := [(Ad0, .inr (12, Fs0)), (Ad1, .inr (9, Fs1))]) [0, 1] (by decide) rfl
  have hKc := hK.sub (tys' := []) [] rfl
  have hFc := va_free (wc := [(Ad0, .inr (12, Fs0)), (Ad1, .inr (9, Fs1))]) hD hS hA [0, 1] rfl
  refine va_calli (va_runV (As := [.int 1]) (rest := []) ⟨hx, hb, hml, hown, hts⟩ (z_X6_fail l dC dI s.heap.size Ad0 Fs0 Ad1 Fs1 (fh_sub o_Fs0.2 [0] rfl) (fh_sub o_Fs1.2 [0, 0] rfl) ) (cwV 1 hts g_z_X6_refuse_z_X6_fail_112 rfl rfl rfl (by decide +kernel) ⟨Nat.le_of_ble_eq_true rfl, Nat.le_of_ble_eq_true rfl⟩) ⟨fun a U g mk q => by obtain ⟨q0, q1, qP, qK, qD⟩ := q; exact ⟨q0, q1, qP, va_K.moved (u := U) (U := U.calling g mk a) (Vm.Alike.refl U.vm) qK, qD⟩, va_recv hK hP (ci := 9) (q0 := 1) rfl rfl, fun U hU hW => ⟨rfl, by rw [hU], by rw [hU]; exact hPc, va_K.moved hW.alike hKc, hDc.weaken (fun _ _ _ _ => trivial)⟩⟩ rfl rfl hl.1 rfl (lv_room (Nat.le_of_ble_eq_true rfl)) dX6_refuse_17 ⟨Nat.le_of_ble_eq_true rfl, Nat.le_of_ble_eq_true rfl⟩) hS (fun q _ h => hFc q h) hFc (fun r102 u t H1 locs ht hvm hw hB hz1 hk1 hS => ?_)
  obtain ⟨s103, rfl⟩ : ∃ z, z = u := ⟨_, rfl⟩
  obtain ⟨hP1, hK1, hD1⟩ := hB
  rw [ht] at hP1
  try dsimp only at hw
  obtain ⟨hP, hD⟩ := va_join (wr := []) (w1 := [(Ad0, .inr (12, Fs0)), (Ad1, .inr (9, s103))]) hP hD [0, 1] [] rfl rfl (by decide) (by decide) hk1 hFc hP1 hD1
  have hK := hK.sub (tys' := []) [] rfl
  generalize H1 = H at hP hS ⊢
  have hP : va_P (dC, dI) vwCl [(Ad0, .inr (12, Fs0)), (Ad1, .inr (9, s103))] H := hP
  have hD : va_D A [(Ad0, .inr (12, Fs0)), (Ad1, .inr (9, s103))] := hD
  obtain ⟨er104, o_s103⟩ := hw
  subst er104
  have o_s103 := ow_on o_Fs1 o_s103 (l' := [(7, .int 0), (6, .int 1), (0, .ref Ad0), (0, .ref Ad0), (0, .ref Ad0), (0, .ref Ad0)]) (w' := [7, 6]) rfl rfl
  have hP9 := hP.sub (ws' := [(Ad0, .inr (12, Fs0)), (Ad1, .inr (9, s103))]) [0, 1] rfl
  have hD9 := hD.sub (ws' := [(Ad0, .inr (12, Fs0)), (Ad1, .inr (9, s103))]) [0, 1] (by decide) rfl
  have hK9 := hK.sub (tys' := []) [] rfl
  exact W.zret (v := 0) hx hb hr rfl (fun t ht hW => ⟨⟨0, s103, rfl, ⟨rfl, o_s103⟩, by rw [ht]; exact hP9, va_K.moved hW.alike hK9, hD9⟩, hS.F ht⟩) hS.2.2 dX6_refuse_20

def l_z_X6_readAtom : List Cond := [.fieldLink RX6 9 "HeapWorks$Program" "tape" "LHeapWorks$Tape;", .fieldLink RX6 45 "HeapWorks$Tape" "word" "I", .methodLink RX6 51 yX6_refuse, .instanceMethod yX6_refuse, .selects RX6 yX6_refuse yX6_refuse, .initialized RX6, .code yX6_refuse cX6_refuse 1 (some .boolean), .methodLink RX6 112 yX6_fail, .instanceMethod yX6_fail, .selects RX6 yX6_fail yX6_fail, .code yX6_fail cX6_fail 2 (some .boolean), .fieldLink RX6 75 "HeapWorks$Program" "fault" "I", .fieldLink RX6 111 "HeapWorks$Tape" "place" "I", .fieldLink RX6 78 "HeapWorks$Program" "place" "I"]
def w_z_X6_readAtom : List Cond := .code yX6_readAtom cX6_readAtom 1 (some .boolean) :: (l_z_X6_readAtom ++ ((wsX60 ++ wsX90)))
theorem in_z_X6_readAtom_X6 : ∀ w ∈ wsX60, w ∈ w_z_X6_readAtom := fun w h => List.mem_cons_of_mem _ (List.mem_append_right _ (List.mem_append_left _ h))
theorem in_z_X6_readAtom_X9 : ∀ w ∈ wsX90, w ∈ w_z_X6_readAtom := fun w h => List.mem_cons_of_mem _ (List.mem_append_right _ (List.mem_append_right _ (h)))
theorem g_z_X6_readAtom_z_X6_refuse_51 : GoodIn w_z_X6_readAtom (wsV RX6 51 RX6 yX6_refuse w_z_X6_refuse) := goodIn_app (goodIn_r (([.methodLink RX6 51 yX6_refuse, .instanceMethod yX6_refuse, .selects RX6 yX6_refuse yX6_refuse, .initialized RX6] : List Cond)) [3, 4, 5, 6] rfl (by decide +kernel)) (goodIn_ca (goodIn_r (.code yX6_refuse cX6_refuse 1 (some .boolean) :: l_z_X6_refuse) [7, 1, 2, 8, 9, 10, 6, 11, 12, 13, 14] rfl (by decide +kernel)) (goodIn_app (goodIn_in (in_z_X6_readAtom_X6) gd_X6) (goodIn_in (in_z_X6_readAtom_X9) gd_X9)))
set_option maxHeartbeats 4000000 in
set_option maxRecDepth 100000 in
theorem z_X6_readAtom (l : Launch) (dC : Nat → ClassId) (dI : Nat → Nat → Nat) (sz : Nat) (Ad0 : Nat) (Fs0 : List Value) (Ad1 : Nat) (Fs1 : List Value) (k_Fs0 : fh Fs0 12 [(10, .int 0), (9, .int 0)]) (k_Fs1 : fh Fs1 19 [(0, .ref Ad0), (0, .ref Ad0)])  : Met l yX6_readAtom w_z_X6_readAtom ({ frames := 2, cells := 0, slots := 0, locals := 41 }) (va_Pc [.ref Ad1] (fun U => U.heap.size = sz ∧ Wd dC dI [] (fun _ => True) [(Ad0, .inr (12, Fs0)), (Ad1, .inr (9, Fs1))] U)) (va_Qi (fun (r : Int32) (u : List Value) => (r = 0 ∧ ow Fs1 (u) 19 [7, 6] [(7, .int 0), (6, .int 1), (0, .ref Ad0), (0, .ref Ad0), (0, .ref Ad0), (0, .ref Ad0), (0, .ref Ad0), (0, .ref Ad0)])) (fun (u : List Value) t => Wd dC dI [] (va_A [(Ad0, .inr (12, Fs0)), (Ad1, .inr (9, Fs1))] sz) [(Ad0, .inr (12, Fs0)), (Ad1, .inr (9, (u)))] t) (va_A [(Ad0, .inr (12, Fs0)), (Ad1, .inr (9, Fs1))] sz))  0 0 (va_A [(Ad0, .inr (12, Fs0)), (Ad1, .inr (9, Fs1))] sz) := by
  refine Met.ofW (cc := cX6_readAtom) (maxL := 1) (ret := (some .boolean)) (by decide) rfl ?_
  intro p e s m args below meth c s₁ B hml hv
  obtain ⟨rfl, hsz, hP, hK, hD0⟩ := hv
  have hx := B.exec
  have hb := B.bytes
  have hr := B.returns
  have hts := atoms_spec (ws := w_z_X6_readAtom) B.pre
  have hown : s.vm.findClass RX6 = some m.cls := findClass_of_methodNamed B.named
  have hlocks := B.notSynchronized
  subst hsz
  have hD := hD0.self (sz := s.heap.size)
  generalize hAe : va_A [(Ad0, .inr (12, Fs0)), (Ad1, .inr (9, Fs1))] s.heap.size = A at hD ⊢
  have hA : ∀ q : Nat, s.heap.size ≤ q → A q := fun q h => by rw [← hAe]; exact Or.inr h
  have hS : va_S A s.heap s.heap [] := va_S.rf
  have hl := lv_entry ([.ref Ad1]) (n := 1) (Nat.le_of_ble_eq_true rfl)
  rw [lg_entry_eq]
  generalize (lg_sl ([.ref Ad1]) ++ List.replicate (1 - (lg_sl ([.ref Ad1])).length) Slot.unset).toArray = ls at hl ⊢
  have hl : lv_has ls 1 [(0, .ref Ad1)] := hl
  have o_Fs0 := ow_0 k_Fs0
  have o_Fs1 := ow_0 k_Fs1
  refine lv_aload_n hx hb dX6_readAtom_0 rfl (lv_at hl 0 rfl) ?_
  refine va_get (D := (dC, dI)) (ci := 9) (v := .ref Ad0) (C := RX6) (T := TX6) (N := 19) hx hb hts (in_z_X6_readAtom_X6) hown hK hP 1 rfl rfl 0 (by decide) (hts (.fieldLink RX6 9 "HeapWorks$Program" "tape" "LHeapWorks$Tape;") (by decide +kernel)) (fun _ h9 => h9) (ow_at o_Fs1 0 rfl) dX6_readAtom_1 ?_
  refine va_get (D := (dC, dI)) (ci := 12) (v := .int 0) (C := RX9) (T := TX9) (N := 12) hx hb hts (in_z_X6_readAtom_X9) hown hK hP 0 rfl rfl 9 (by decide) (hts (.fieldLink RX6 45 "HeapWorks$Tape" "word" "I") (by decide +kernel)) (fun _ h9 => h9) (ow_at o_Fs0 1 rfl) dX6_readAtom_4 ?_
  refine lv_lookup (off := 149) (tgt := 156) hx hb dX6_readAtom_7 (by decide) (by decide) (by decide) ?_
  refine lv_aload_n hx hb dX6_readAtom_156 rfl (lv_at hl 0 rfl) ?_
  refine va_get (D := (dC, dI)) (ci := 9) (v := .ref Ad0) (C := RX6) (T := TX6) (N := 19) hx hb hts (in_z_X6_readAtom_X6) hown hK hP 1 rfl rfl 0 (by decide) (hts (.fieldLink RX6 9 "HeapWorks$Program" "tape" "LHeapWorks$Tape;") (by decide +kernel)) (fun _ h9 => h9) (ow_at o_Fs1 0 rfl) dX6_readAtom_157 ?_
  refine va_get (D := (dC, dI)) (ci := 12) (v := .int 0) (C := RX9) (T := TX9) (N := 12) hx hb hts (in_z_X6_readAtom_X9) hown hK hP 0 rfl rfl 9 (by decide) (hts (.fieldLink RX6 45 "HeapWorks$Tape" "word" "I") (by decide +kernel)) (fun _ h9 => h9) (ow_at o_Fs0 1 rfl) dX6_readAtom_160 ?_
  refine lv_bipush (v := 44) hx hb dX6_readAtom_163 (by decide) ?_
  refine lv_icmp_lt (tgt := 187) hx hb dX6_readAtom_165 (by decide) (fun c101 => ?_) (fun c101 => absurd c101 (by decide))
  refine lv_aload_n hx hb dX6_readAtom_187 rfl (lv_at hl 0 rfl) ?_
  have hPc := hP.sub (ws' := [(Ad0, .inr (12, Fs0)), (Ad1, .inr (9, Fs1))]) [0, 1] rfl
  have hDc := hD.sub (ws' := [(Ad0, .inr (12, Fs0)), (Ad1, .inr (9, Fs1))]) [0, 1] (by decide) rfl
  have hKc := hK.sub (tys' := []) [] rfl
  have hFc := va_free (wc := [(Ad0, .inr (12, Fs0)), (Ad1, .inr (9, Fs1))]) hD hS hA [0, 1] rfl
  refine va_calli (va_runV (As := []) (rest := []) ⟨hx, hb, hml, hown, hts⟩ (z_X6_refuse l dC dI s.heap.size Ad0 Fs0 Ad1 Fs1 (fh_sub o_Fs0.2 [0, 1] rfl) (fh_sub o_Fs1.2 [0, 0] rfl) ) (cwV 0 hts g_z_X6_readAtom_z_X6_refuse_51 rfl rfl rfl (by decide +kernel) ⟨Nat.le_of_ble_eq_true rfl, Nat.le_of_ble_eq_true rfl⟩) ⟨fun a U g mk q => by obtain ⟨q0, q1, qP, qK, qD⟩ := q; exact ⟨q0, q1, qP, va_K.moved (u := U) (U := U.calling g mk a) (Vm.Alike.refl U.vm) qK, qD⟩, va_recv hK hP (ci := 9) (q0 := 1) rfl rfl, fun U hU hW => ⟨rfl, by rw [hU], by rw [hU]; exact hPc, va_K.moved hW.alike hKc, hDc.weaken (fun _ _ _ _ => trivial)⟩⟩ rfl rfl hl.1 rfl (lv_room (Nat.le_of_ble_eq_true rfl)) dX6_readAtom_188 ⟨Nat.le_of_ble_eq_true rfl, Nat.le_of_ble_eq_true rfl⟩) hS (fun q _ h => hFc q h) hFc (fun r102 u t H1 locs ht hvm hw hB hz1 hk1 hS => ?_)
  obtain ⟨s103, rfl⟩ : ∃ z, z = u := ⟨_, rfl⟩
  obtain ⟨hP1, hK1, hD1⟩ := hB
  rw [ht] at hP1
  try dsimp only at hw
  obtain ⟨hP, hD⟩ := va_join (wr := []) (w1 := [(Ad0, .inr (12, Fs0)), (Ad1, .inr (9, s103))]) hP hD [0, 1] [] rfl rfl (by decide) (by decide) hk1 hFc hP1 hD1
  have hK := hK.sub (tys' := []) [] rfl
  generalize H1 = H at hP hS ⊢
  have hP : va_P (dC, dI) vwCl [(Ad0, .inr (12, Fs0)), (Ad1, .inr (9, s103))] H := hP
  have hD : va_D A [(Ad0, .inr (12, Fs0)), (Ad1, .inr (9, s103))] := hD
  obtain ⟨er104, o_s103⟩ := hw
  subst er104
  have o_s103 := ow_on o_Fs1 o_s103 (l' := [(7, .int 0), (6, .int 1), (0, .ref Ad0), (0, .ref Ad0), (0, .ref Ad0), (0, .ref Ad0), (0, .ref Ad0), (0, .ref Ad0)]) (w' := [7, 6]) rfl rfl
  have hP9 := hP.sub (ws' := [(Ad0, .inr (12, Fs0)), (Ad1, .inr (9, s103))]) [0, 1] rfl
  have hD9 := hD.sub (ws' := [(Ad0, .inr (12, Fs0)), (Ad1, .inr (9, s103))]) [0, 1] (by decide) rfl
  have hK9 := hK.sub (tys' := []) [] rfl
  exact W.zret (v := 0) hx hb hr rfl (fun t ht hW => ⟨⟨0, s103, rfl, ⟨rfl, o_s103⟩, by rw [ht]; exact hP9, va_K.moved hW.alike hK9, hD9⟩, hS.F ht⟩) hS.2.2 dX6_readAtom_191

def l_z_X6_readP : List Cond := [.fieldLink RX6 99 "HeapWorks$Program" "waits" "I", .methodLink RX6 150 yX6_readAtom, .instanceMethod yX6_readAtom, .selects RX6 yX6_readAtom yX6_readAtom, .initialized RX6, .fieldLink RX6 9 "HeapWorks$Program" "tape" "LHeapWorks$Tape;", .fieldLink RX6 45 "HeapWorks$Tape" "word" "I", .code yX6_readAtom cX6_readAtom 1 (some .boolean), .methodLink RX6 51 yX6_refuse, .instanceMethod yX6_refuse, .selects RX6 yX6_refuse yX6_refuse, .code yX6_refuse cX6_refuse 1 (some .boolean), .methodLink RX6 112 yX6_fail, .instanceMethod yX6_fail, .selects RX6 yX6_fail yX6_fail, .code yX6_fail cX6_fail 2 (some .boolean), .fieldLink RX6 75 "HeapWorks$Program" "fault" "I", .fieldLink RX6 111 "HeapWorks$Tape" "place" "I", .fieldLink RX6 78 "HeapWorks$Program" "place" "I"]
def w_z_X6_readP : List Cond := .code yX6_readP cX6_readP 3 (some .boolean) :: (l_z_X6_readP ++ ((wsX60 ++ wsX90)))
theorem in_z_X6_readP_X6 : ∀ w ∈ wsX60, w ∈ w_z_X6_readP := fun w h => List.mem_cons_of_mem _ (List.mem_append_right _ (List.mem_append_left _ h))
theorem in_z_X6_readP_X9 : ∀ w ∈ wsX90, w ∈ w_z_X6_readP := fun w h => List.mem_cons_of_mem _ (List.mem_append_right _ (List.mem_append_right _ (h)))
theorem g_z_X6_readP_z_X6_readAtom_150 : GoodIn w_z_X6_readP (wsV RX6 150 RX6 yX6_readAtom w_z_X6_readAtom) := goodIn_app (goodIn_r (([.methodLink RX6 150 yX6_readAtom, .instanceMethod yX6_readAtom, .selects RX6 yX6_readAtom yX6_readAtom, .initialized RX6] : List Cond)) [2, 3, 4, 5] rfl (by decide +kernel)) (goodIn_ca (goodIn_r (.code yX6_readAtom cX6_readAtom 1 (some .boolean) :: l_z_X6_readAtom) [8, 6, 7, 9, 10, 11, 5, 12, 13, 14, 15, 16, 17, 18, 19] rfl (by decide +kernel)) (goodIn_app (goodIn_in (in_z_X6_readP_X6) gd_X6) (goodIn_in (in_z_X6_readP_X9) gd_X9)))
set_option maxHeartbeats 4000000 in
set_option maxRecDepth 100000 in
theorem z_X6_readP (l : Launch) (dC : Nat → ClassId) (dI : Nat → Nat → Nat) (sz : Nat) (Ad0 : Nat) (Fs0 : List Value) (Ad1 : Nat) (Fs1 : List Value) (k_Fs0 : fh Fs0 12 [(10, .int 0), (9, .int 0)]) (k_Fs1 : fh Fs1 19 [(18, .int 0), (0, .ref Ad0), (0, .ref Ad0)])  : Met l yX6_readP w_z_X6_readP ({ frames := 3, cells := 0, slots := 0, locals := 61 }) (va_Pc [.ref Ad1] (fun U => U.heap.size = sz ∧ Wd dC dI [] (fun _ => True) [(Ad0, .inr (12, Fs0)), (Ad1, .inr (9, Fs1))] U)) (va_Qi (fun (r : Int32) (u : List Value) => (r = 0 ∧ ow Fs1 (u) 19 [7, 6] [(7, .int 0), (6, .int 1), (0, .ref Ad0), (0, .ref Ad0), (0, .ref Ad0), (0, .ref Ad0), (0, .ref Ad0), (0, .ref Ad0), (18, .int 0), (0, .ref Ad0), (0, .ref Ad0)])) (fun (u : List Value) t => Wd dC dI [] (va_A [(Ad0, .inr (12, Fs0)), (Ad1, .inr (9, Fs1))] sz) [(Ad0, .inr (12, Fs0)), (Ad1, .inr (9, (u)))] t) (va_A [(Ad0, .inr (12, Fs0)), (Ad1, .inr (9, Fs1))] sz))  0 0 (va_A [(Ad0, .inr (12, Fs0)), (Ad1, .inr (9, Fs1))] sz) := by
  refine Met.ofW (cc := cX6_readP) (maxL := 3) (ret := (some .boolean)) (by decide) rfl ?_
  intro p e s m args below meth c s₁ B hml hv
  obtain ⟨rfl, hsz, hP, hK, hD0⟩ := hv
  have hx := B.exec
  have hb := B.bytes
  have hr := B.returns
  have hts := atoms_spec (ws := w_z_X6_readP) B.pre
  have hown : s.vm.findClass RX6 = some m.cls := findClass_of_methodNamed B.named
  have hlocks := B.notSynchronized
  subst hsz
  have hD := hD0.self (sz := s.heap.size)
  generalize hAe : va_A [(Ad0, .inr (12, Fs0)), (Ad1, .inr (9, Fs1))] s.heap.size = A at hD ⊢
  have hA : ∀ q : Nat, s.heap.size ≤ q → A q := fun q h => by rw [← hAe]; exact Or.inr h
  have hS : va_S A s.heap s.heap [] := va_S.rf
  have hl := lv_entry ([.ref Ad1]) (n := 3) (Nat.le_of_ble_eq_true rfl)
  rw [lg_entry_eq]
  generalize (lg_sl ([.ref Ad1]) ++ List.replicate (3 - (lg_sl ([.ref Ad1])).length) Slot.unset).toArray = ls at hl ⊢
  have hl : lv_has ls 3 [(0, .ref Ad1)] := hl
  have o_Fs0 := ow_0 k_Fs0
  have o_Fs1 := ow_0 k_Fs1
  refine lv_aload_n hx hb dX6_readP_0 rfl (lv_at hl 0 rfl) ?_
  refine va_get (D := (dC, dI)) (ci := 9) (v := .int 0) (C := RX6) (T := TX6) (N := 19) hx hb hts (in_z_X6_readP_X6) hown hK hP 1 rfl rfl 18 (by decide) (hts (.fieldLink RX6 99 "HeapWorks$Program" "waits" "I") (by decide +kernel)) (fun _ h9 => h9) (ow_at o_Fs1 0 rfl) dX6_readP_1 ?_
  refine lv_istore_n (lv' := [(1, .int 0), (0, .ref Ad1)]) hx hb dX6_readP_4 rfl hl (by decide) rfl (fun ls hl => ?_)
  refine lv_iconst (v := 0) hx hb dX6_readP_5 (by decide) ?_
  refine lv_istore_n (lv' := [(2, .int 0), (1, .int 0), (0, .ref Ad1)]) hx hb dX6_readP_6 rfl hl (by decide) rfl (fun ls hl => ?_)
  have HL1 : ∀ (n j118 : Nat) (x119 : Int32), x119 = nI j118 → 0 ≤ j118 → j118 ≤ 121 → 122 ≤ j118 + n → ∀ (H : Heap) (locs : List Loc) (ls : Array Slot), va_P (dC, dI) vwCl [(Ad0, .inr (12, Fs0)), (Ad1, .inr (9, Fs1))] H → va_D A [(Ad0, .inr (12, Fs0)), (Ad1, .inr (9, Fs1))] → va_S A s.heap H locs → lv_has ls 3 [(2, .int x119), (1, .int 0), (0, .ref Ad1)] → W p l e (headSpec w_z_X6_readP ({ frames := 3, cells := 0, slots := 0, locals := 61 })).room s m ([.ref Ad1]).toArray below meth c H locs 0 0 (MQ below (va_Qi (fun (r : Int32) (u : List Value) => (r = 0 ∧ ow Fs1 (u) 19 [7, 6] [(7, .int 0), (6, .int 1), (0, .ref Ad0), (0, .ref Ad0), (0, .ref Ad0), (0, .ref Ad0), (0, .ref Ad0), (0, .ref Ad0), (18, .int 0), (0, .ref Ad0), (0, .ref Ad0)])) (fun (u : List Value) t => Wd dC dI [] A [(Ad0, .inr (12, Fs0)), (Ad1, .inr (9, (u)))] t) A) ([.ref Ad1]).toArray s 0 0 A) (F0 m 7 ls []) := by
    intro n
    induction n with
    | zero =>
      intro j118 x119 e120 h122 h123 h124
      exact absurd h124 (by omega)
    | succ n ih =>
      intro j118 x119 e120 h122 h123 h124 H locs ls hP hD hS hl
      have t121 : x119.toInt = (j118 : Int) := by rw [e120]; exact nI_toInt (by omega)
      refine lv_iload_n hx hb dX6_readP_7 rfl (lv_at hl 0 rfl) ?_
      refine lv_bipush (v := 120) hx hb dX6_readP_8 (by decide) ?_
      refine lv_icmp_gt (tgt := 91) hx hb dX6_readP_10 (by decide) (fun c125 => ?_) (fun c125 => ?_)
      · skip
        refine lv_aload_n hx hb dX6_readP_91 rfl (lv_at hl 2 rfl) ?_
        have hPc := hP.sub (ws' := [(Ad0, .inr (12, Fs0)), (Ad1, .inr (9, Fs1))]) [0, 1] rfl
        have hDc := hD.sub (ws' := [(Ad0, .inr (12, Fs0)), (Ad1, .inr (9, Fs1))]) [0, 1] (by decide) rfl
        have hKc := hK.sub (tys' := []) [] rfl
        have hFc := va_free (wc := [(Ad0, .inr (12, Fs0)), (Ad1, .inr (9, Fs1))]) hD hS hA [0, 1] rfl
        refine va_calli (va_runV (As := []) (rest := []) ⟨hx, hb, hml, hown, hts⟩ (z_X6_readAtom l dC dI H.size Ad0 Fs0 Ad1 Fs1 (fh_sub o_Fs0.2 [0, 1] rfl) (fh_sub o_Fs1.2 [1, 1] rfl) ) (cwV 0 hts g_z_X6_readP_z_X6_readAtom_150 rfl rfl rfl (by decide +kernel) ⟨Nat.le_of_ble_eq_true rfl, Nat.le_of_ble_eq_true rfl⟩) ⟨fun a U g mk q => by obtain ⟨q0, q1, qP, qK, qD⟩ := q; exact ⟨q0, q1, qP, va_K.moved (u := U) (U := U.calling g mk a) (Vm.Alike.refl U.vm) qK, qD⟩, va_recv hK hP (ci := 9) (q0 := 1) rfl rfl, fun U hU hW => ⟨rfl, by rw [hU], by rw [hU]; exact hPc, va_K.moved hW.alike hKc, hDc.weaken (fun _ _ _ _ => trivial)⟩⟩ rfl rfl hl.1 rfl (lv_room (Nat.le_of_ble_eq_true rfl)) dX6_readP_92 ⟨Nat.le_of_ble_eq_true rfl, Nat.le_of_ble_eq_true rfl⟩) hS (fun q _ h => hFc q h) hFc (fun r126 u t H1 locs ht hvm hw hB hz1 hk1 hS => ?_)
        obtain ⟨s127, rfl⟩ : ∃ z, z = u := ⟨_, rfl⟩
        obtain ⟨hP1, hK1, hD1⟩ := hB
        rw [ht] at hP1
        try dsimp only at hw
        obtain ⟨hP, hD⟩ := va_join (wr := []) (w1 := [(Ad0, .inr (12, Fs0)), (Ad1, .inr (9, s127))]) hP hD [0, 1] [] rfl rfl (by decide) (by decide) hk1 hFc hP1 hD1
        have hK := hK.sub (tys' := []) [] rfl
        generalize H1 = H at hP hS ⊢
        have hP : va_P (dC, dI) vwCl [(Ad0, .inr (12, Fs0)), (Ad1, .inr (9, s127))] H := hP
        have hD : va_D A [(Ad0, .inr (12, Fs0)), (Ad1, .inr (9, s127))] := hD
        obtain ⟨er128, o_s127⟩ := hw
        subst er128
        have o_s127 := ow_on o_Fs1 o_s127 (l' := [(7, .int 0), (6, .int 1), (0, .ref Ad0), (0, .ref Ad0), (0, .ref Ad0), (0, .ref Ad0), (0, .ref Ad0), (0, .ref Ad0), (18, .int 0), (0, .ref Ad0), (0, .ref Ad0)]) (w' := [7, 6]) rfl rfl
        refine lv_if_eq (tgt := 105) hx hb dX6_readP_95 (by decide) (fun c129 => ?_) (fun c129 => absurd c129 (by decide))
        refine lv_iconst (v := 0) hx hb dX6_readP_105 (by decide) ?_
        have hP9 := hP.sub (ws' := [(Ad0, .inr (12, Fs0)), (Ad1, .inr (9, s127))]) [0, 1] rfl
        have hD9 := hD.sub (ws' := [(Ad0, .inr (12, Fs0)), (Ad1, .inr (9, s127))]) [0, 1] (by decide) rfl
        have hK9 := hK.sub (tys' := []) [] rfl
        exact W.zret (v := 0) hx hb hr rfl (fun t ht hW => ⟨⟨0, s127, rfl, ⟨rfl, o_s127⟩, by rw [ht]; exact hP9, va_K.moved hW.alike hK9, hD9⟩, hS.F ht⟩) hS.2.2 dX6_readP_106
      · skip
        refine lv_aload_n hx hb dX6_readP_13 rfl (lv_at hl 2 rfl) ?_
        refine va_get (D := (dC, dI)) (ci := 9) (v := .ref Ad0) (C := RX6) (T := TX6) (N := 19) hx hb hts (in_z_X6_readP_X6) hown hK hP 1 rfl rfl 0 (by decide) (hts (.fieldLink RX6 9 "HeapWorks$Program" "tape" "LHeapWorks$Tape;") (by decide +kernel)) (fun _ h9 => h9) (ow_at o_Fs1 1 rfl) dX6_readP_14 ?_
        refine va_get (D := (dC, dI)) (ci := 12) (v := .int 0) (C := RX9) (T := TX9) (N := 12) hx hb hts (in_z_X6_readP_X9) hown hK hP 0 rfl rfl 9 (by decide) (hts (.fieldLink RX6 45 "HeapWorks$Tape" "word" "I") (by decide +kernel)) (fun _ h9 => h9) (ow_at o_Fs0 1 rfl) dX6_readP_17 ?_
        refine lv_bipush (v := 50) hx hb dX6_readP_20 (by decide) ?_
        refine lv_icmp_lt (tgt := 91) hx hb dX6_readP_22 (by decide) (fun c130 => ?_) (fun c130 => absurd c130 (by decide))
        refine lv_aload_n hx hb dX6_readP_91 rfl (lv_at hl 2 rfl) ?_
        have hPc := hP.sub (ws' := [(Ad0, .inr (12, Fs0)), (Ad1, .inr (9, Fs1))]) [0, 1] rfl
        have hDc := hD.sub (ws' := [(Ad0, .inr (12, Fs0)), (Ad1, .inr (9, Fs1))]) [0, 1] (by decide) rfl
        have hKc := hK.sub (tys' := []) [] rfl
        have hFc := va_free (wc := [(Ad0, .inr (12, Fs0)), (Ad1, .inr (9, Fs1))]) hD hS hA [0, 1] rfl
        refine va_calli (va_runV (As := []) (rest := []) ⟨hx, hb, hml, hown, hts⟩ (z_X6_readAtom l dC dI H.size Ad0 Fs0 Ad1 Fs1 (fh_sub o_Fs0.2 [0, 1] rfl) (fh_sub o_Fs1.2 [1, 1] rfl) ) (cwV 0 hts g_z_X6_readP_z_X6_readAtom_150 rfl rfl rfl (by decide +kernel) ⟨Nat.le_of_ble_eq_true rfl, Nat.le_of_ble_eq_true rfl⟩) ⟨fun a U g mk q => by obtain ⟨q0, q1, qP, qK, qD⟩ := q; exact ⟨q0, q1, qP, va_K.moved (u := U) (U := U.calling g mk a) (Vm.Alike.refl U.vm) qK, qD⟩, va_recv hK hP (ci := 9) (q0 := 1) rfl rfl, fun U hU hW => ⟨rfl, by rw [hU], by rw [hU]; exact hPc, va_K.moved hW.alike hKc, hDc.weaken (fun _ _ _ _ => trivial)⟩⟩ rfl rfl hl.1 rfl (lv_room (Nat.le_of_ble_eq_true rfl)) dX6_readP_92 ⟨Nat.le_of_ble_eq_true rfl, Nat.le_of_ble_eq_true rfl⟩) hS (fun q _ h => hFc q h) hFc (fun r131 u t H1 locs ht hvm hw hB hz1 hk1 hS => ?_)
        obtain ⟨s132, rfl⟩ : ∃ z, z = u := ⟨_, rfl⟩
        obtain ⟨hP1, hK1, hD1⟩ := hB
        rw [ht] at hP1
        try dsimp only at hw
        obtain ⟨hP, hD⟩ := va_join (wr := []) (w1 := [(Ad0, .inr (12, Fs0)), (Ad1, .inr (9, s132))]) hP hD [0, 1] [] rfl rfl (by decide) (by decide) hk1 hFc hP1 hD1
        have hK := hK.sub (tys' := []) [] rfl
        generalize H1 = H at hP hS ⊢
        have hP : va_P (dC, dI) vwCl [(Ad0, .inr (12, Fs0)), (Ad1, .inr (9, s132))] H := hP
        have hD : va_D A [(Ad0, .inr (12, Fs0)), (Ad1, .inr (9, s132))] := hD
        obtain ⟨er133, o_s132⟩ := hw
        subst er133
        have o_s132 := ow_on o_Fs1 o_s132 (l' := [(7, .int 0), (6, .int 1), (0, .ref Ad0), (0, .ref Ad0), (0, .ref Ad0), (0, .ref Ad0), (0, .ref Ad0), (0, .ref Ad0), (18, .int 0), (0, .ref Ad0), (0, .ref Ad0)]) (w' := [7, 6]) rfl rfl
        refine lv_if_eq (tgt := 105) hx hb dX6_readP_95 (by decide) (fun c134 => ?_) (fun c134 => absurd c134 (by decide))
        refine lv_iconst (v := 0) hx hb dX6_readP_105 (by decide) ?_
        have hP9 := hP.sub (ws' := [(Ad0, .inr (12, Fs0)), (Ad1, .inr (9, s132))]) [0, 1] rfl
        have hD9 := hD.sub (ws' := [(Ad0, .inr (12, Fs0)), (Ad1, .inr (9, s132))]) [0, 1] (by decide) rfl
        have hK9 := hK.sub (tys' := []) [] rfl
        exact W.zret (v := 0) hx hb hr rfl (fun t ht hW => ⟨⟨0, s132, rfl, ⟨rfl, o_s132⟩, by rw [ht]; exact hP9, va_K.moved hW.alike hK9, hD9⟩, hS.F ht⟩) hS.2.2 dX6_readP_106
  exact HL1 122 0 (0)  (by decide) (by omega) (by omega) (by omega)  _ _ _ hP hD hS  hl

def l_z_X6_readSigned : List Cond := [.fieldLink RX6 9 "HeapWorks$Program" "tape" "LHeapWorks$Tape;", .fieldLink RX6 45 "HeapWorks$Tape" "word" "I", .methodLink RX6 125 yX6_readP, .instanceMethod yX6_readP, .selects RX6 yX6_readP yX6_readP, .initialized RX6, .code yX6_readP cX6_readP 3 (some .boolean), .fieldLink RX6 99 "HeapWorks$Program" "waits" "I", .methodLink RX6 150 yX6_readAtom, .instanceMethod yX6_readAtom, .selects RX6 yX6_readAtom yX6_readAtom, .code yX6_readAtom cX6_readAtom 1 (some .boolean), .methodLink RX6 51 yX6_refuse, .instanceMethod yX6_refuse, .selects RX6 yX6_refuse yX6_refuse, .code yX6_refuse cX6_refuse 1 (some .boolean), .methodLink RX6 112 yX6_fail, .instanceMethod yX6_fail, .selects RX6 yX6_fail yX6_fail, .code yX6_fail cX6_fail 2 (some .boolean), .fieldLink RX6 75 "HeapWorks$Program" "fault" "I", .fieldLink RX6 111 "HeapWorks$Tape" "place" "I", .fieldLink RX6 78 "HeapWorks$Program" "place" "I"]
def w_z_X6_readSigned : List Cond := .code yX6_readSigned cX6_readSigned 3 (some .boolean) :: (l_z_X6_readSigned ++ ((wsX60 ++ wsX90)))
theorem in_z_X6_readSigned_X6 : ∀ w ∈ wsX60, w ∈ w_z_X6_readSigned := fun w h => List.mem_cons_of_mem _ (List.mem_append_right _ (List.mem_append_left _ h))
theorem in_z_X6_readSigned_X9 : ∀ w ∈ wsX90, w ∈ w_z_X6_readSigned := fun w h => List.mem_cons_of_mem _ (List.mem_append_right _ (List.mem_append_right _ (h)))
theorem g_z_X6_readSigned_z_X6_readP_125 : GoodIn w_z_X6_readSigned (wsV RX6 125 RX6 yX6_readP w_z_X6_readP) := goodIn_app (goodIn_r (([.methodLink RX6 125 yX6_readP, .instanceMethod yX6_readP, .selects RX6 yX6_readP yX6_readP, .initialized RX6] : List Cond)) [3, 4, 5, 6] rfl (by decide +kernel)) (goodIn_ca (goodIn_r (.code yX6_readP cX6_readP 3 (some .boolean) :: l_z_X6_readP) [7, 8, 9, 10, 11, 6, 1, 2, 12, 13, 14, 15, 16, 17, 18, 19, 20, 21, 22, 23] rfl (by decide +kernel)) (goodIn_app (goodIn_in (in_z_X6_readSigned_X6) gd_X6) (goodIn_in (in_z_X6_readSigned_X9) gd_X9)))
set_option maxHeartbeats 4000000 in
set_option maxRecDepth 100000 in
theorem z_X6_readSigned (l : Launch) (dC : Nat → ClassId) (dI : Nat → Nat → Nat) (sz : Nat) (Ad0 : Nat) (Fs0 : List Value) (Ad1 : Nat) (Fs1 : List Value) (k_Fs0 : fh Fs0 12 [(10, .int 0), (9, .int 0)]) (k_Fs1 : fh Fs1 19 [(18, .int 0), (0, .ref Ad0), (0, .ref Ad0)])  : Met l yX6_readSigned w_z_X6_readSigned ({ frames := 4, cells := 0, slots := 0, locals := 83 }) (va_Pc [.ref Ad1] (fun U => U.heap.size = sz ∧ Wd dC dI [] (fun _ => True) [(Ad0, .inr (12, Fs0)), (Ad1, .inr (9, Fs1))] U)) (va_Qi (fun (r : Int32) (u : List Value) => (r = 0 ∧ ow Fs1 (u) 19 [7, 6] [(7, .int 0), (6, .int 1), (0, .ref Ad0), (0, .ref Ad0), (0, .ref Ad0), (0, .ref Ad0), (0, .ref Ad0), (0, .ref Ad0), (18, .int 0), (0, .ref Ad0), (0, .ref Ad0), (18, .int 0), (0, .ref Ad0), (0, .ref Ad0)])) (fun (u : List Value) t => Wd dC dI [] (va_A [(Ad0, .inr (12, Fs0)), (Ad1, .inr (9, Fs1))] sz) [(Ad0, .inr (12, Fs0)), (Ad1, .inr (9, (u)))] t) (va_A [(Ad0, .inr (12, Fs0)), (Ad1, .inr (9, Fs1))] sz))  0 0 (va_A [(Ad0, .inr (12, Fs0)), (Ad1, .inr (9, Fs1))] sz) := by
  refine Met.ofW (cc := cX6_readSigned) (maxL := 3) (ret := (some .boolean)) (by decide) rfl ?_
  intro p e s m args below meth c s₁ B hml hv
  obtain ⟨rfl, hsz, hP, hK, hD0⟩ := hv
  have hx := B.exec
  have hb := B.bytes
  have hr := B.returns
  have hts := atoms_spec (ws := w_z_X6_readSigned) B.pre
  have hown : s.vm.findClass RX6 = some m.cls := findClass_of_methodNamed B.named
  have hlocks := B.notSynchronized
  subst hsz
  have hD := hD0.self (sz := s.heap.size)
  generalize hAe : va_A [(Ad0, .inr (12, Fs0)), (Ad1, .inr (9, Fs1))] s.heap.size = A at hD ⊢
  have hA : ∀ q : Nat, s.heap.size ≤ q → A q := fun q h => by rw [← hAe]; exact Or.inr h
  have hS : va_S A s.heap s.heap [] := va_S.rf
  have hl := lv_entry ([.ref Ad1]) (n := 3) (Nat.le_of_ble_eq_true rfl)
  rw [lg_entry_eq]
  generalize (lg_sl ([.ref Ad1]) ++ List.replicate (3 - (lg_sl ([.ref Ad1])).length) Slot.unset).toArray = ls at hl ⊢
  have hl : lv_has ls 3 [(0, .ref Ad1)] := hl
  have o_Fs0 := ow_0 k_Fs0
  have o_Fs1 := ow_0 k_Fs1
  refine lv_iconst (v := 0) hx hb dX6_readSigned_0 (by decide) ?_
  refine lv_istore_n (lv' := [(1, .int 0), (0, .ref Ad1)]) hx hb dX6_readSigned_1 rfl hl (by decide) rfl (fun ls hl => ?_)
  refine lv_aload_n hx hb dX6_readSigned_2 rfl (lv_at hl 1 rfl) ?_
  refine va_get (D := (dC, dI)) (ci := 9) (v := .ref Ad0) (C := RX6) (T := TX6) (N := 19) hx hb hts (in_z_X6_readSigned_X6) hown hK hP 1 rfl rfl 0 (by decide) (hts (.fieldLink RX6 9 "HeapWorks$Program" "tape" "LHeapWorks$Tape;") (by decide +kernel)) (fun _ h9 => h9) (ow_at o_Fs1 1 rfl) dX6_readSigned_3 ?_
  refine va_get (D := (dC, dI)) (ci := 12) (v := .int 0) (C := RX9) (T := TX9) (N := 12) hx hb hts (in_z_X6_readSigned_X9) hown hK hP 0 rfl rfl 9 (by decide) (hts (.fieldLink RX6 45 "HeapWorks$Tape" "word" "I") (by decide +kernel)) (fun _ h9 => h9) (ow_at o_Fs0 1 rfl) dX6_readSigned_6 ?_
  refine lv_bipush (v := 16) hx hb dX6_readSigned_9 (by decide) ?_
  refine lv_icmp_ne (tgt := 42) hx hb dX6_readSigned_11 (by decide) (fun c101 => ?_) (fun c101 => absurd c101 (by decide))
  refine lv_aload_n hx hb dX6_readSigned_42 rfl (lv_at hl 1 rfl) ?_
  have hPc := hP.sub (ws' := [(Ad0, .inr (12, Fs0)), (Ad1, .inr (9, Fs1))]) [0, 1] rfl
  have hDc := hD.sub (ws' := [(Ad0, .inr (12, Fs0)), (Ad1, .inr (9, Fs1))]) [0, 1] (by decide) rfl
  have hKc := hK.sub (tys' := []) [] rfl
  have hFc := va_free (wc := [(Ad0, .inr (12, Fs0)), (Ad1, .inr (9, Fs1))]) hD hS hA [0, 1] rfl
  refine va_calli (va_runV (As := []) (rest := []) ⟨hx, hb, hml, hown, hts⟩ (z_X6_readP l dC dI s.heap.size Ad0 Fs0 Ad1 Fs1 (fh_sub o_Fs0.2 [0, 1] rfl) (fh_sub o_Fs1.2 [0, 1, 1] rfl) ) (cwV 0 hts g_z_X6_readSigned_z_X6_readP_125 rfl rfl rfl (by decide +kernel) ⟨Nat.le_of_ble_eq_true rfl, Nat.le_of_ble_eq_true rfl⟩) ⟨fun a U g mk q => by obtain ⟨q0, q1, qP, qK, qD⟩ := q; exact ⟨q0, q1, qP, va_K.moved (u := U) (U := U.calling g mk a) (Vm.Alike.refl U.vm) qK, qD⟩, va_recv hK hP (ci := 9) (q0 := 1) rfl rfl, fun U hU hW => ⟨rfl, by rw [hU], by rw [hU]; exact hPc, va_K.moved hW.alike hKc, hDc.weaken (fun _ _ _ _ => trivial)⟩⟩ rfl rfl hl.1 rfl (lv_room (Nat.le_of_ble_eq_true rfl)) dX6_readSigned_43 ⟨Nat.le_of_ble_eq_true rfl, Nat.le_of_ble_eq_true rfl⟩) hS (fun q _ h => hFc q h) hFc (fun r102 u t H1 locs ht hvm hw hB hz1 hk1 hS => ?_)
  obtain ⟨s103, rfl⟩ : ∃ z, z = u := ⟨_, rfl⟩
  obtain ⟨hP1, hK1, hD1⟩ := hB
  rw [ht] at hP1
  try dsimp only at hw
  obtain ⟨hP, hD⟩ := va_join (wr := []) (w1 := [(Ad0, .inr (12, Fs0)), (Ad1, .inr (9, s103))]) hP hD [0, 1] [] rfl rfl (by decide) (by decide) hk1 hFc hP1 hD1
  have hK := hK.sub (tys' := []) [] rfl
  generalize H1 = H at hP hS ⊢
  have hP : va_P (dC, dI) vwCl [(Ad0, .inr (12, Fs0)), (Ad1, .inr (9, s103))] H := hP
  have hD : va_D A [(Ad0, .inr (12, Fs0)), (Ad1, .inr (9, s103))] := hD
  obtain ⟨er104, o_s103⟩ := hw
  subst er104
  have o_s103 := ow_on o_Fs1 o_s103 (l' := [(7, .int 0), (6, .int 1), (0, .ref Ad0), (0, .ref Ad0), (0, .ref Ad0), (0, .ref Ad0), (0, .ref Ad0), (0, .ref Ad0), (18, .int 0), (0, .ref Ad0), (0, .ref Ad0), (18, .int 0), (0, .ref Ad0), (0, .ref Ad0)]) (w' := [7, 6]) rfl rfl
  refine lv_if_ne (tgt := 51) hx hb dX6_readSigned_46 (by decide) (fun c105 => absurd c105 (by decide)) (fun c105 => ?_)
  refine lv_iconst (v := 0) hx hb dX6_readSigned_49 (by decide) ?_
  have hP9 := hP.sub (ws' := [(Ad0, .inr (12, Fs0)), (Ad1, .inr (9, s103))]) [0, 1] rfl
  have hD9 := hD.sub (ws' := [(Ad0, .inr (12, Fs0)), (Ad1, .inr (9, s103))]) [0, 1] (by decide) rfl
  have hK9 := hK.sub (tys' := []) [] rfl
  exact W.zret (v := 0) hx hb hr rfl (fun t ht hW => ⟨⟨0, s103, rfl, ⟨rfl, o_s103⟩, by rw [ht]; exact hP9, va_K.moved hW.alike hK9, hD9⟩, hS.F ht⟩) hS.2.2 dX6_readSigned_50

def l_z_X6_readProducts : List Cond := [.methodLink RX6 147 yX6_readSigned, .instanceMethod yX6_readSigned, .selects RX6 yX6_readSigned yX6_readSigned, .initialized RX6, .code yX6_readSigned cX6_readSigned 3 (some .boolean), .fieldLink RX6 9 "HeapWorks$Program" "tape" "LHeapWorks$Tape;", .fieldLink RX6 45 "HeapWorks$Tape" "word" "I", .methodLink RX6 125 yX6_readP, .instanceMethod yX6_readP, .selects RX6 yX6_readP yX6_readP, .code yX6_readP cX6_readP 3 (some .boolean), .fieldLink RX6 99 "HeapWorks$Program" "waits" "I", .methodLink RX6 150 yX6_readAtom, .instanceMethod yX6_readAtom, .selects RX6 yX6_readAtom yX6_readAtom, .code yX6_readAtom cX6_readAtom 1 (some .boolean), .methodLink RX6 51 yX6_refuse, .instanceMethod yX6_refuse, .selects RX6 yX6_refuse yX6_refuse, .code yX6_refuse cX6_refuse 1 (some .boolean), .methodLink RX6 112 yX6_fail, .instanceMethod yX6_fail, .selects RX6 yX6_fail yX6_fail, .code yX6_fail cX6_fail 2 (some .boolean), .fieldLink RX6 75 "HeapWorks$Program" "fault" "I", .fieldLink RX6 111 "HeapWorks$Tape" "place" "I", .fieldLink RX6 78 "HeapWorks$Program" "place" "I"]
def w_z_X6_readProducts : List Cond := .code yX6_readProducts cX6_readProducts 3 (some .boolean) :: (l_z_X6_readProducts ++ ((wsX60 ++ wsX90)))
theorem in_z_X6_readProducts_X6 : ∀ w ∈ wsX60, w ∈ w_z_X6_readProducts := fun w h => List.mem_cons_of_mem _ (List.mem_append_right _ (List.mem_append_left _ h))
theorem in_z_X6_readProducts_X9 : ∀ w ∈ wsX90, w ∈ w_z_X6_readProducts := fun w h => List.mem_cons_of_mem _ (List.mem_append_right _ (List.mem_append_right _ (h)))
theorem g_z_X6_readProducts_z_X6_readSigned_147 : GoodIn w_z_X6_readProducts (wsV RX6 147 RX6 yX6_readSigned w_z_X6_readSigned) := goodIn_app (goodIn_r (([.methodLink RX6 147 yX6_readSigned, .instanceMethod yX6_readSigned, .selects RX6 yX6_readSigned yX6_readSigned, .initialized RX6] : List Cond)) [1, 2, 3, 4] rfl (by decide +kernel)) (goodIn_ca (goodIn_r (.code yX6_readSigned cX6_readSigned 3 (some .boolean) :: l_z_X6_readSigned) [5, 6, 7, 8, 9, 10, 4, 11, 12, 13, 14, 15, 16, 17, 18, 19, 20, 21, 22, 23, 24, 25, 26, 27] rfl (by decide +kernel)) (goodIn_app (goodIn_in (in_z_X6_readProducts_X6) gd_X6) (goodIn_in (in_z_X6_readProducts_X9) gd_X9)))
set_option maxHeartbeats 4000000 in
set_option maxRecDepth 100000 in
theorem z_X6_readProducts (l : Launch) (dC : Nat → ClassId) (dI : Nat → Nat → Nat) (sz : Nat) (Ad0 : Nat) (Fs0 : List Value) (Ad1 : Nat) (Fs1 : List Value) (k_Fs0 : fh Fs0 12 [(10, .int 0), (9, .int 0)]) (k_Fs1 : fh Fs1 19 [(18, .int 0), (0, .ref Ad0), (0, .ref Ad0)])  : Met l yX6_readProducts w_z_X6_readProducts ({ frames := 5, cells := 0, slots := 0, locals := 105 }) (va_Pc [.ref Ad1] (fun U => U.heap.size = sz ∧ Wd dC dI [] (fun _ => True) [(Ad0, .inr (12, Fs0)), (Ad1, .inr (9, Fs1))] U)) (va_Qi (fun (r : Int32) (u : List Value) => (r = 0 ∧ ow Fs1 (u) 19 [7, 6] [(7, .int 0), (6, .int 1), (0, .ref Ad0), (0, .ref Ad0), (0, .ref Ad0), (0, .ref Ad0), (0, .ref Ad0), (0, .ref Ad0), (18, .int 0), (0, .ref Ad0), (0, .ref Ad0), (18, .int 0), (0, .ref Ad0), (0, .ref Ad0), (18, .int 0), (0, .ref Ad0), (0, .ref Ad0)])) (fun (u : List Value) t => Wd dC dI [] (va_A [(Ad0, .inr (12, Fs0)), (Ad1, .inr (9, Fs1))] sz) [(Ad0, .inr (12, Fs0)), (Ad1, .inr (9, (u)))] t) (va_A [(Ad0, .inr (12, Fs0)), (Ad1, .inr (9, Fs1))] sz))  0 0 (va_A [(Ad0, .inr (12, Fs0)), (Ad1, .inr (9, Fs1))] sz) := by
  refine Met.ofW (cc := cX6_readProducts) (maxL := 3) (ret := (some .boolean)) (by decide) rfl ?_
  intro p e s m args below meth c s₁ B hml hv
  obtain ⟨rfl, hsz, hP, hK, hD0⟩ := hv
  have hx := B.exec
  have hb := B.bytes
  have hr := B.returns
  have hts := atoms_spec (ws := w_z_X6_readProducts) B.pre
  have hown : s.vm.findClass RX6 = some m.cls := findClass_of_methodNamed B.named
  have hlocks := B.notSynchronized
  subst hsz
  have hD := hD0.self (sz := s.heap.size)
  generalize hAe : va_A [(Ad0, .inr (12, Fs0)), (Ad1, .inr (9, Fs1))] s.heap.size = A at hD ⊢
  have hA : ∀ q : Nat, s.heap.size ≤ q → A q := fun q h => by rw [← hAe]; exact Or.inr h
  have hS : va_S A s.heap s.heap [] := va_S.rf
  have hl := lv_entry ([.ref Ad1]) (n := 3) (Nat.le_of_ble_eq_true rfl)
  rw [lg_entry_eq]
  generalize (lg_sl ([.ref Ad1]) ++ List.replicate (3 - (lg_sl ([.ref Ad1])).length) Slot.unset).toArray = ls at hl ⊢
  have hl : lv_has ls 3 [(0, .ref Ad1)] := hl
  have o_Fs0 := ow_0 k_Fs0
  have o_Fs1 := ow_0 k_Fs1
  refine lv_aload_n hx hb dX6_readProducts_0 rfl (lv_at hl 0 rfl) ?_
  have hPc := hP.sub (ws' := [(Ad0, .inr (12, Fs0)), (Ad1, .inr (9, Fs1))]) [0, 1] rfl
  have hDc := hD.sub (ws' := [(Ad0, .inr (12, Fs0)), (Ad1, .inr (9, Fs1))]) [0, 1] (by decide) rfl
  have hKc := hK.sub (tys' := []) [] rfl
  have hFc := va_free (wc := [(Ad0, .inr (12, Fs0)), (Ad1, .inr (9, Fs1))]) hD hS hA [0, 1] rfl
  refine va_calli (va_runV (As := []) (rest := []) ⟨hx, hb, hml, hown, hts⟩ (z_X6_readSigned l dC dI s.heap.size Ad0 Fs0 Ad1 Fs1 (fh_sub o_Fs0.2 [0, 1] rfl) (fh_sub o_Fs1.2 [0, 1, 1] rfl) ) (cwV 0 hts g_z_X6_readProducts_z_X6_readSigned_147 rfl rfl rfl (by decide +kernel) ⟨Nat.le_of_ble_eq_true rfl, Nat.le_of_ble_eq_true rfl⟩) ⟨fun a U g mk q => by obtain ⟨q0, q1, qP, qK, qD⟩ := q; exact ⟨q0, q1, qP, va_K.moved (u := U) (U := U.calling g mk a) (Vm.Alike.refl U.vm) qK, qD⟩, va_recv hK hP (ci := 9) (q0 := 1) rfl rfl, fun U hU hW => ⟨rfl, by rw [hU], by rw [hU]; exact hPc, va_K.moved hW.alike hKc, hDc.weaken (fun _ _ _ _ => trivial)⟩⟩ rfl rfl hl.1 rfl (lv_room (Nat.le_of_ble_eq_true rfl)) dX6_readProducts_1 ⟨Nat.le_of_ble_eq_true rfl, Nat.le_of_ble_eq_true rfl⟩) hS (fun q _ h => hFc q h) hFc (fun r101 u t H1 locs ht hvm hw hB hz1 hk1 hS => ?_)
  obtain ⟨s102, rfl⟩ : ∃ z, z = u := ⟨_, rfl⟩
  obtain ⟨hP1, hK1, hD1⟩ := hB
  rw [ht] at hP1
  try dsimp only at hw
  obtain ⟨hP, hD⟩ := va_join (wr := []) (w1 := [(Ad0, .inr (12, Fs0)), (Ad1, .inr (9, s102))]) hP hD [0, 1] [] rfl rfl (by decide) (by decide) hk1 hFc hP1 hD1
  have hK := hK.sub (tys' := []) [] rfl
  generalize H1 = H at hP hS ⊢
  have hP : va_P (dC, dI) vwCl [(Ad0, .inr (12, Fs0)), (Ad1, .inr (9, s102))] H := hP
  have hD : va_D A [(Ad0, .inr (12, Fs0)), (Ad1, .inr (9, s102))] := hD
  obtain ⟨er103, o_s102⟩ := hw
  subst er103
  have o_s102 := ow_on o_Fs1 o_s102 (l' := [(7, .int 0), (6, .int 1), (0, .ref Ad0), (0, .ref Ad0), (0, .ref Ad0), (0, .ref Ad0), (0, .ref Ad0), (0, .ref Ad0), (18, .int 0), (0, .ref Ad0), (0, .ref Ad0), (18, .int 0), (0, .ref Ad0), (0, .ref Ad0), (18, .int 0), (0, .ref Ad0), (0, .ref Ad0)]) (w' := [7, 6]) rfl rfl
  refine lv_if_ne (tgt := 9) hx hb dX6_readProducts_4 (by decide) (fun c104 => absurd c104 (by decide)) (fun c104 => ?_)
  refine lv_iconst (v := 0) hx hb dX6_readProducts_7 (by decide) ?_
  have hP9 := hP.sub (ws' := [(Ad0, .inr (12, Fs0)), (Ad1, .inr (9, s102))]) [0, 1] rfl
  have hD9 := hD.sub (ws' := [(Ad0, .inr (12, Fs0)), (Ad1, .inr (9, s102))]) [0, 1] (by decide) rfl
  have hK9 := hK.sub (tys' := []) [] rfl
  exact W.zret (v := 0) hx hb hr rfl (fun t ht hW => ⟨⟨0, s102, rfl, ⟨rfl, o_s102⟩, by rw [ht]; exact hP9, va_K.moved hW.alike hK9, hD9⟩, hS.F ht⟩) hS.2.2 dX6_readProducts_8

def l_z_X6_readSums : List Cond := [.methodLink RX6 144 yX6_readProducts, .instanceMethod yX6_readProducts, .selects RX6 yX6_readProducts yX6_readProducts, .initialized RX6, .code yX6_readProducts cX6_readProducts 3 (some .boolean), .methodLink RX6 147 yX6_readSigned, .instanceMethod yX6_readSigned, .selects RX6 yX6_readSigned yX6_readSigned, .code yX6_readSigned cX6_readSigned 3 (some .boolean), .fieldLink RX6 9 "HeapWorks$Program" "tape" "LHeapWorks$Tape;", .fieldLink RX6 45 "HeapWorks$Tape" "word" "I", .methodLink RX6 125 yX6_readP, .instanceMethod yX6_readP, .selects RX6 yX6_readP yX6_readP, .code yX6_readP cX6_readP 3 (some .boolean), .fieldLink RX6 99 "HeapWorks$Program" "waits" "I", .methodLink RX6 150 yX6_readAtom, .instanceMethod yX6_readAtom, .selects RX6 yX6_readAtom yX6_readAtom, .code yX6_readAtom cX6_readAtom 1 (some .boolean), .methodLink RX6 51 yX6_refuse, .instanceMethod yX6_refuse, .selects RX6 yX6_refuse yX6_refuse, .code yX6_refuse cX6_refuse 1 (some .boolean), .methodLink RX6 112 yX6_fail, .instanceMethod yX6_fail, .selects RX6 yX6_fail yX6_fail, .code yX6_fail cX6_fail 2 (some .boolean), .fieldLink RX6 75 "HeapWorks$Program" "fault" "I", .fieldLink RX6 111 "HeapWorks$Tape" "place" "I", .fieldLink RX6 78 "HeapWorks$Program" "place" "I"]
def w_z_X6_readSums : List Cond := .code yX6_readSums cX6_readSums 3 (some .boolean) :: (l_z_X6_readSums ++ ((wsX60 ++ wsX90)))
theorem in_z_X6_readSums_X6 : ∀ w ∈ wsX60, w ∈ w_z_X6_readSums := fun w h => List.mem_cons_of_mem _ (List.mem_append_right _ (List.mem_append_left _ h))
theorem in_z_X6_readSums_X9 : ∀ w ∈ wsX90, w ∈ w_z_X6_readSums := fun w h => List.mem_cons_of_mem _ (List.mem_append_right _ (List.mem_append_right _ (h)))
theorem g_z_X6_readSums_z_X6_readProducts_144 : GoodIn w_z_X6_readSums (wsV RX6 144 RX6 yX6_readProducts w_z_X6_readProducts) := goodIn_app (goodIn_r (([.methodLink RX6 144 yX6_readProducts, .instanceMethod yX6_readProducts, .selects RX6 yX6_readProducts yX6_readProducts, .initialized RX6] : List Cond)) [1, 2, 3, 4] rfl (by decide +kernel)) (goodIn_ca (goodIn_r (.code yX6_readProducts cX6_readProducts 3 (some .boolean) :: l_z_X6_readProducts) [5, 6, 7, 8, 4, 9, 10, 11, 12, 13, 14, 15, 16, 17, 18, 19, 20, 21, 22, 23, 24, 25, 26, 27, 28, 29, 30, 31] rfl (by decide +kernel)) (goodIn_app (goodIn_in (in_z_X6_readSums_X6) gd_X6) (goodIn_in (in_z_X6_readSums_X9) gd_X9)))
set_option maxHeartbeats 4000000 in
set_option maxRecDepth 100000 in
theorem z_X6_readSums (l : Launch) (dC : Nat → ClassId) (dI : Nat → Nat → Nat) (sz : Nat) (Ad0 : Nat) (Fs0 : List Value) (Ad1 : Nat) (Fs1 : List Value) (k_Fs0 : fh Fs0 12 [(10, .int 0), (9, .int 0)]) (k_Fs1 : fh Fs1 19 [(18, .int 0), (0, .ref Ad0), (0, .ref Ad0)])  : Met l yX6_readSums w_z_X6_readSums ({ frames := 6, cells := 0, slots := 0, locals := 127 }) (va_Pc [.ref Ad1] (fun U => U.heap.size = sz ∧ Wd dC dI [] (fun _ => True) [(Ad0, .inr (12, Fs0)), (Ad1, .inr (9, Fs1))] U)) (va_Qi (fun (r : Int32) (u : List Value) => (r = 0 ∧ ow Fs1 (u) 19 [7, 6] [(7, .int 0), (6, .int 1), (0, .ref Ad0), (0, .ref Ad0), (0, .ref Ad0), (0, .ref Ad0), (0, .ref Ad0), (0, .ref Ad0), (18, .int 0), (0, .ref Ad0), (0, .ref Ad0), (18, .int 0), (0, .ref Ad0), (0, .ref Ad0), (18, .int 0), (0, .ref Ad0), (0, .ref Ad0), (18, .int 0), (0, .ref Ad0), (0, .ref Ad0)])) (fun (u : List Value) t => Wd dC dI [] (va_A [(Ad0, .inr (12, Fs0)), (Ad1, .inr (9, Fs1))] sz) [(Ad0, .inr (12, Fs0)), (Ad1, .inr (9, (u)))] t) (va_A [(Ad0, .inr (12, Fs0)), (Ad1, .inr (9, Fs1))] sz))  0 0 (va_A [(Ad0, .inr (12, Fs0)), (Ad1, .inr (9, Fs1))] sz) := by
  refine Met.ofW (cc := cX6_readSums) (maxL := 3) (ret := (some .boolean)) (by decide) rfl ?_
  intro p e s m args below meth c s₁ B hml hv
  obtain ⟨rfl, hsz, hP, hK, hD0⟩ := hv
  have hx := B.exec
  have hb := B.bytes
  have hr := B.returns
  have hts := atoms_spec (ws := w_z_X6_readSums) B.pre
  have hown : s.vm.findClass RX6 = some m.cls := findClass_of_methodNamed B.named
  have hlocks := B.notSynchronized
  subst hsz
  have hD := hD0.self (sz := s.heap.size)
  generalize hAe : va_A [(Ad0, .inr (12, Fs0)), (Ad1, .inr (9, Fs1))] s.heap.size = A at hD ⊢
  have hA : ∀ q : Nat, s.heap.size ≤ q → A q := fun q h => by rw [← hAe]; exact Or.inr h
  have hS : va_S A s.heap s.heap [] := va_S.rf
  have hl := lv_entry ([.ref Ad1]) (n := 3) (Nat.le_of_ble_eq_true rfl)
  rw [lg_entry_eq]
  generalize (lg_sl ([.ref Ad1]) ++ List.replicate (3 - (lg_sl ([.ref Ad1])).length) Slot.unset).toArray = ls at hl ⊢
  have hl : lv_has ls 3 [(0, .ref Ad1)] := hl
  have o_Fs0 := ow_0 k_Fs0
  have o_Fs1 := ow_0 k_Fs1
  refine lv_aload_n hx hb dX6_readSums_0 rfl (lv_at hl 0 rfl) ?_
  have hPc := hP.sub (ws' := [(Ad0, .inr (12, Fs0)), (Ad1, .inr (9, Fs1))]) [0, 1] rfl
  have hDc := hD.sub (ws' := [(Ad0, .inr (12, Fs0)), (Ad1, .inr (9, Fs1))]) [0, 1] (by decide) rfl
  have hKc := hK.sub (tys' := []) [] rfl
  have hFc := va_free (wc := [(Ad0, .inr (12, Fs0)), (Ad1, .inr (9, Fs1))]) hD hS hA [0, 1] rfl
  refine va_calli (va_runV (As := []) (rest := []) ⟨hx, hb, hml, hown, hts⟩ (z_X6_readProducts l dC dI s.heap.size Ad0 Fs0 Ad1 Fs1 (fh_sub o_Fs0.2 [0, 1] rfl) (fh_sub o_Fs1.2 [0, 1, 1] rfl) ) (cwV 0 hts g_z_X6_readSums_z_X6_readProducts_144 rfl rfl rfl (by decide +kernel) ⟨Nat.le_of_ble_eq_true rfl, Nat.le_of_ble_eq_true rfl⟩) ⟨fun a U g mk q => by obtain ⟨q0, q1, qP, qK, qD⟩ := q; exact ⟨q0, q1, qP, va_K.moved (u := U) (U := U.calling g mk a) (Vm.Alike.refl U.vm) qK, qD⟩, va_recv hK hP (ci := 9) (q0 := 1) rfl rfl, fun U hU hW => ⟨rfl, by rw [hU], by rw [hU]; exact hPc, va_K.moved hW.alike hKc, hDc.weaken (fun _ _ _ _ => trivial)⟩⟩ rfl rfl hl.1 rfl (lv_room (Nat.le_of_ble_eq_true rfl)) dX6_readSums_1 ⟨Nat.le_of_ble_eq_true rfl, Nat.le_of_ble_eq_true rfl⟩) hS (fun q _ h => hFc q h) hFc (fun r101 u t H1 locs ht hvm hw hB hz1 hk1 hS => ?_)
  obtain ⟨s102, rfl⟩ : ∃ z, z = u := ⟨_, rfl⟩
  obtain ⟨hP1, hK1, hD1⟩ := hB
  rw [ht] at hP1
  try dsimp only at hw
  obtain ⟨hP, hD⟩ := va_join (wr := []) (w1 := [(Ad0, .inr (12, Fs0)), (Ad1, .inr (9, s102))]) hP hD [0, 1] [] rfl rfl (by decide) (by decide) hk1 hFc hP1 hD1
  have hK := hK.sub (tys' := []) [] rfl
  generalize H1 = H at hP hS ⊢
  have hP : va_P (dC, dI) vwCl [(Ad0, .inr (12, Fs0)), (Ad1, .inr (9, s102))] H := hP
  have hD : va_D A [(Ad0, .inr (12, Fs0)), (Ad1, .inr (9, s102))] := hD
  obtain ⟨er103, o_s102⟩ := hw
  subst er103
  have o_s102 := ow_on o_Fs1 o_s102 (l' := [(7, .int 0), (6, .int 1), (0, .ref Ad0), (0, .ref Ad0), (0, .ref Ad0), (0, .ref Ad0), (0, .ref Ad0), (0, .ref Ad0), (18, .int 0), (0, .ref Ad0), (0, .ref Ad0), (18, .int 0), (0, .ref Ad0), (0, .ref Ad0), (18, .int 0), (0, .ref Ad0), (0, .ref Ad0), (18, .int 0), (0, .ref Ad0), (0, .ref Ad0)]) (w' := [7, 6]) rfl rfl
  refine lv_if_ne (tgt := 9) hx hb dX6_readSums_4 (by decide) (fun c104 => absurd c104 (by decide)) (fun c104 => ?_)
  refine lv_iconst (v := 0) hx hb dX6_readSums_7 (by decide) ?_
  have hP9 := hP.sub (ws' := [(Ad0, .inr (12, Fs0)), (Ad1, .inr (9, s102))]) [0, 1] rfl
  have hD9 := hD.sub (ws' := [(Ad0, .inr (12, Fs0)), (Ad1, .inr (9, s102))]) [0, 1] (by decide) rfl
  have hK9 := hK.sub (tys' := []) [] rfl
  exact W.zret (v := 0) hx hb hr rfl (fun t ht hW => ⟨⟨0, s102, rfl, ⟨rfl, o_s102⟩, by rw [ht]; exact hP9, va_K.moved hW.alike hK9, hD9⟩, hS.F ht⟩) hS.2.2 dX6_readSums_8

def l_z_X6_readComparison : List Cond := [.methodLink RX6 137 yX6_readSums, .instanceMethod yX6_readSums, .selects RX6 yX6_readSums yX6_readSums, .initialized RX6, .code yX6_readSums cX6_readSums 3 (some .boolean), .methodLink RX6 144 yX6_readProducts, .instanceMethod yX6_readProducts, .selects RX6 yX6_readProducts yX6_readProducts, .code yX6_readProducts cX6_readProducts 3 (some .boolean), .methodLink RX6 147 yX6_readSigned, .instanceMethod yX6_readSigned, .selects RX6 yX6_readSigned yX6_readSigned, .code yX6_readSigned cX6_readSigned 3 (some .boolean), .fieldLink RX6 9 "HeapWorks$Program" "tape" "LHeapWorks$Tape;", .fieldLink RX6 45 "HeapWorks$Tape" "word" "I", .methodLink RX6 125 yX6_readP, .instanceMethod yX6_readP, .selects RX6 yX6_readP yX6_readP, .code yX6_readP cX6_readP 3 (some .boolean), .fieldLink RX6 99 "HeapWorks$Program" "waits" "I", .methodLink RX6 150 yX6_readAtom, .instanceMethod yX6_readAtom, .selects RX6 yX6_readAtom yX6_readAtom, .code yX6_readAtom cX6_readAtom 1 (some .boolean), .methodLink RX6 51 yX6_refuse, .instanceMethod yX6_refuse, .selects RX6 yX6_refuse yX6_refuse, .code yX6_refuse cX6_refuse 1 (some .boolean), .methodLink RX6 112 yX6_fail, .instanceMethod yX6_fail, .selects RX6 yX6_fail yX6_fail, .code yX6_fail cX6_fail 2 (some .boolean), .fieldLink RX6 75 "HeapWorks$Program" "fault" "I", .fieldLink RX6 111 "HeapWorks$Tape" "place" "I", .fieldLink RX6 78 "HeapWorks$Program" "place" "I"]
def w_z_X6_readComparison : List Cond := .code yX6_readComparison cX6_readComparison 2 (some .boolean) :: (l_z_X6_readComparison ++ ((wsX60 ++ wsX90)))
theorem in_z_X6_readComparison_X6 : ∀ w ∈ wsX60, w ∈ w_z_X6_readComparison := fun w h => List.mem_cons_of_mem _ (List.mem_append_right _ (List.mem_append_left _ h))
theorem in_z_X6_readComparison_X9 : ∀ w ∈ wsX90, w ∈ w_z_X6_readComparison := fun w h => List.mem_cons_of_mem _ (List.mem_append_right _ (List.mem_append_right _ (h)))
theorem g_z_X6_readComparison_z_X6_readSums_137 : GoodIn w_z_X6_readComparison (wsV RX6 137 RX6 yX6_readSums w_z_X6_readSums) := goodIn_app (goodIn_r (([.methodLink RX6 137 yX6_readSums, .instanceMethod yX6_readSums, .selects RX6 yX6_readSums yX6_readSums, .initialized RX6] : List Cond)) [1, 2, 3, 4] rfl (by decide +kernel)) (goodIn_ca (goodIn_r (.code yX6_readSums cX6_readSums 3 (some .boolean) :: l_z_X6_readSums) [5, 6, 7, 8, 4, 9, 10, 11, 12, 13, 14, 15, 16, 17, 18, 19, 20, 21, 22, 23, 24, 25, 26, 27, 28, 29, 30, 31, 32, 33, 34, 35] rfl (by decide +kernel)) (goodIn_app (goodIn_in (in_z_X6_readComparison_X6) gd_X6) (goodIn_in (in_z_X6_readComparison_X9) gd_X9)))
set_option maxHeartbeats 4000000 in
set_option maxRecDepth 100000 in
theorem z_X6_readComparison (l : Launch) (dC : Nat → ClassId) (dI : Nat → Nat → Nat) (sz : Nat) (Ad0 : Nat) (Fs0 : List Value) (Ad1 : Nat) (Fs1 : List Value) (k_Fs0 : fh Fs0 12 [(10, .int 0), (9, .int 0)]) (k_Fs1 : fh Fs1 19 [(18, .int 0), (0, .ref Ad0), (0, .ref Ad0)])  : Met l yX6_readComparison w_z_X6_readComparison ({ frames := 7, cells := 0, slots := 0, locals := 149 }) (va_Pc [.ref Ad1] (fun U => U.heap.size = sz ∧ Wd dC dI [] (fun _ => True) [(Ad0, .inr (12, Fs0)), (Ad1, .inr (9, Fs1))] U)) (va_Qi (fun (r : Int32) (u : List Value) => (r = 0 ∧ ow Fs1 (u) 19 [7, 6] [(7, .int 0), (6, .int 1), (0, .ref Ad0), (0, .ref Ad0), (0, .ref Ad0), (0, .ref Ad0), (0, .ref Ad0), (0, .ref Ad0), (18, .int 0), (0, .ref Ad0), (0, .ref Ad0), (18, .int 0), (0, .ref Ad0), (0, .ref Ad0), (18, .int 0), (0, .ref Ad0), (0, .ref Ad0), (18, .int 0), (0, .ref Ad0), (0, .ref Ad0), (18, .int 0), (0, .ref Ad0), (0, .ref Ad0)])) (fun (u : List Value) t => Wd dC dI [] (va_A [(Ad0, .inr (12, Fs0)), (Ad1, .inr (9, Fs1))] sz) [(Ad0, .inr (12, Fs0)), (Ad1, .inr (9, (u)))] t) (va_A [(Ad0, .inr (12, Fs0)), (Ad1, .inr (9, Fs1))] sz))  0 0 (va_A [(Ad0, .inr (12, Fs0)), (Ad1, .inr (9, Fs1))] sz) := by
  refine Met.ofW (cc := cX6_readComparison) (maxL := 2) (ret := (some .boolean)) (by decide) rfl ?_
  intro p e s m args below meth c s₁ B hml hv
  obtain ⟨rfl, hsz, hP, hK, hD0⟩ := hv
  have hx := B.exec
  have hb := B.bytes
  have hr := B.returns
  have hts := atoms_spec (ws := w_z_X6_readComparison) B.pre
  have hown : s.vm.findClass RX6 = some m.cls := findClass_of_methodNamed B.named
  have hlocks := B.notSynchronized
  subst hsz
  have hD := hD0.self (sz := s.heap.size)
  generalize hAe : va_A [(Ad0, .inr (12, Fs0)), (Ad1, .inr (9, Fs1))] s.heap.size = A at hD ⊢
  have hA : ∀ q : Nat, s.heap.size ≤ q → A q := fun q h => by rw [← hAe]; exact Or.inr h
  have hS : va_S A s.heap s.heap [] := va_S.rf
  have hl := lv_entry ([.ref Ad1]) (n := 2) (Nat.le_of_ble_eq_true rfl)
  rw [lg_entry_eq]
  generalize (lg_sl ([.ref Ad1]) ++ List.replicate (2 - (lg_sl ([.ref Ad1])).length) Slot.unset).toArray = ls at hl ⊢
  have hl : lv_has ls 2 [(0, .ref Ad1)] := hl
  have o_Fs0 := ow_0 k_Fs0
  have o_Fs1 := ow_0 k_Fs1
  refine lv_aload_n hx hb dX6_readComparison_0 rfl (lv_at hl 0 rfl) ?_
  have hPc := hP.sub (ws' := [(Ad0, .inr (12, Fs0)), (Ad1, .inr (9, Fs1))]) [0, 1] rfl
  have hDc := hD.sub (ws' := [(Ad0, .inr (12, Fs0)), (Ad1, .inr (9, Fs1))]) [0, 1] (by decide) rfl
  have hKc := hK.sub (tys' := []) [] rfl
  have hFc := va_free (wc := [(Ad0, .inr (12, Fs0)), (Ad1, .inr (9, Fs1))]) hD hS hA [0, 1] rfl
  refine va_calli (va_runV (As := []) (rest := []) ⟨hx, hb, hml, hown, hts⟩ (z_X6_readSums l dC dI s.heap.size Ad0 Fs0 Ad1 Fs1 (fh_sub o_Fs0.2 [0, 1] rfl) (fh_sub o_Fs1.2 [0, 1, 1] rfl) ) (cwV 0 hts g_z_X6_readComparison_z_X6_readSums_137 rfl rfl rfl (by decide +kernel) ⟨Nat.le_of_ble_eq_true rfl, Nat.le_of_ble_eq_true rfl⟩) ⟨fun a U g mk q => by obtain ⟨q0, q1, qP, qK, qD⟩ := q; exact ⟨q0, q1, qP, va_K.moved (u := U) (U := U.calling g mk a) (Vm.Alike.refl U.vm) qK, qD⟩, va_recv hK hP (ci := 9) (q0 := 1) rfl rfl, fun U hU hW => ⟨rfl, by rw [hU], by rw [hU]; exact hPc, va_K.moved hW.alike hKc, hDc.weaken (fun _ _ _ _ => trivial)⟩⟩ rfl rfl hl.1 rfl (lv_room (Nat.le_of_ble_eq_true rfl)) dX6_readComparison_1 ⟨Nat.le_of_ble_eq_true rfl, Nat.le_of_ble_eq_true rfl⟩) hS (fun q _ h => hFc q h) hFc (fun r101 u t H1 locs ht hvm hw hB hz1 hk1 hS => ?_)
  obtain ⟨s102, rfl⟩ : ∃ z, z = u := ⟨_, rfl⟩
  obtain ⟨hP1, hK1, hD1⟩ := hB
  rw [ht] at hP1
  try dsimp only at hw
  obtain ⟨hP, hD⟩ := va_join (wr := []) (w1 := [(Ad0, .inr (12, Fs0)), (Ad1, .inr (9, s102))]) hP hD [0, 1] [] rfl rfl (by decide) (by decide) hk1 hFc hP1 hD1
  have hK := hK.sub (tys' := []) [] rfl
  generalize H1 = H at hP hS ⊢
  have hP : va_P (dC, dI) vwCl [(Ad0, .inr (12, Fs0)), (Ad1, .inr (9, s102))] H := hP
  have hD : va_D A [(Ad0, .inr (12, Fs0)), (Ad1, .inr (9, s102))] := hD
  obtain ⟨er103, o_s102⟩ := hw
  subst er103
  have o_s102 := ow_on o_Fs1 o_s102 (l' := [(7, .int 0), (6, .int 1), (0, .ref Ad0), (0, .ref Ad0), (0, .ref Ad0), (0, .ref Ad0), (0, .ref Ad0), (0, .ref Ad0), (18, .int 0), (0, .ref Ad0), (0, .ref Ad0), (18, .int 0), (0, .ref Ad0), (0, .ref Ad0), (18, .int 0), (0, .ref Ad0), (0, .ref Ad0), (18, .int 0), (0, .ref Ad0), (0, .ref Ad0), (18, .int 0), (0, .ref Ad0), (0, .ref Ad0)]) (w' := [7, 6]) rfl rfl
  refine lv_if_ne (tgt := 9) hx hb dX6_readComparison_4 (by decide) (fun c104 => absurd c104 (by decide)) (fun c104 => ?_)
  refine lv_iconst (v := 0) hx hb dX6_readComparison_7 (by decide) ?_
  have hP9 := hP.sub (ws' := [(Ad0, .inr (12, Fs0)), (Ad1, .inr (9, s102))]) [0, 1] rfl
  have hD9 := hD.sub (ws' := [(Ad0, .inr (12, Fs0)), (Ad1, .inr (9, s102))]) [0, 1] (by decide) rfl
  have hK9 := hK.sub (tys' := []) [] rfl
  exact W.zret (v := 0) hx hb hr rfl (fun t ht hW => ⟨⟨0, s102, rfl, ⟨rfl, o_s102⟩, by rw [ht]; exact hP9, va_K.moved hW.alike hK9, hD9⟩, hS.F ht⟩) hS.2.2 dX6_readComparison_8

def l_z_X6_readNots : List Cond := [.fieldLink RX6 9 "HeapWorks$Program" "tape" "LHeapWorks$Tape;", .fieldLink RX6 45 "HeapWorks$Tape" "word" "I", .methodLink RX6 134 yX6_readComparison, .instanceMethod yX6_readComparison, .selects RX6 yX6_readComparison yX6_readComparison, .initialized RX6, .code yX6_readComparison cX6_readComparison 2 (some .boolean), .methodLink RX6 137 yX6_readSums, .instanceMethod yX6_readSums, .selects RX6 yX6_readSums yX6_readSums, .code yX6_readSums cX6_readSums 3 (some .boolean), .methodLink RX6 144 yX6_readProducts, .instanceMethod yX6_readProducts, .selects RX6 yX6_readProducts yX6_readProducts, .code yX6_readProducts cX6_readProducts 3 (some .boolean), .methodLink RX6 147 yX6_readSigned, .instanceMethod yX6_readSigned, .selects RX6 yX6_readSigned yX6_readSigned, .code yX6_readSigned cX6_readSigned 3 (some .boolean), .methodLink RX6 125 yX6_readP, .instanceMethod yX6_readP, .selects RX6 yX6_readP yX6_readP, .code yX6_readP cX6_readP 3 (some .boolean), .fieldLink RX6 99 "HeapWorks$Program" "waits" "I", .methodLink RX6 150 yX6_readAtom, .instanceMethod yX6_readAtom, .selects RX6 yX6_readAtom yX6_readAtom, .code yX6_readAtom cX6_readAtom 1 (some .boolean), .methodLink RX6 51 yX6_refuse, .instanceMethod yX6_refuse, .selects RX6 yX6_refuse yX6_refuse, .code yX6_refuse cX6_refuse 1 (some .boolean), .methodLink RX6 112 yX6_fail, .instanceMethod yX6_fail, .selects RX6 yX6_fail yX6_fail, .code yX6_fail cX6_fail 2 (some .boolean), .fieldLink RX6 75 "HeapWorks$Program" "fault" "I", .fieldLink RX6 111 "HeapWorks$Tape" "place" "I", .fieldLink RX6 78 "HeapWorks$Program" "place" "I"]
def w_z_X6_readNots : List Cond := .code yX6_readNots cX6_readNots 3 (some .boolean) :: (l_z_X6_readNots ++ ((wsX60 ++ wsX90)))
theorem in_z_X6_readNots_X6 : ∀ w ∈ wsX60, w ∈ w_z_X6_readNots := fun w h => List.mem_cons_of_mem _ (List.mem_append_right _ (List.mem_append_left _ h))
theorem in_z_X6_readNots_X9 : ∀ w ∈ wsX90, w ∈ w_z_X6_readNots := fun w h => List.mem_cons_of_mem _ (List.mem_append_right _ (List.mem_append_right _ (h)))
theorem g_z_X6_readNots_z_X6_readComparison_134 : GoodIn w_z_X6_readNots (wsV RX6 134 RX6 yX6_readComparison w_z_X6_readComparison) := goodIn_app (goodIn_r (([.methodLink RX6 134 yX6_readComparison, .instanceMethod yX6_readComparison, .selects RX6 yX6_readComparison yX6_readComparison, .initialized RX6] : List Cond)) [3, 4, 5, 6] rfl (by decide +kernel)) (goodIn_ca (goodIn_r (.code yX6_readComparison cX6_readComparison 2 (some .boolean) :: l_z_X6_readComparison) [7, 8, 9, 10, 6, 11, 12, 13, 14, 15, 16, 17, 18, 19, 1, 2, 20, 21, 22, 23, 24, 25, 26, 27, 28, 29, 30, 31, 32, 33, 34, 35, 36, 37, 38, 39] rfl (by decide +kernel)) (goodIn_app (goodIn_in (in_z_X6_readNots_X6) gd_X6) (goodIn_in (in_z_X6_readNots_X9) gd_X9)))
set_option maxHeartbeats 4000000 in
set_option maxRecDepth 100000 in
theorem z_X6_readNots (l : Launch) (dC : Nat → ClassId) (dI : Nat → Nat → Nat) (sz : Nat) (Ad0 : Nat) (Fs0 : List Value) (Ad1 : Nat) (Fs1 : List Value) (k_Fs0 : fh Fs0 12 [(10, .int 0), (9, .int 0)]) (k_Fs1 : fh Fs1 19 [(18, .int 0), (0, .ref Ad0), (0, .ref Ad0)])  : Met l yX6_readNots w_z_X6_readNots ({ frames := 8, cells := 0, slots := 0, locals := 170 }) (va_Pc [.ref Ad1] (fun U => U.heap.size = sz ∧ Wd dC dI [] (fun _ => True) [(Ad0, .inr (12, Fs0)), (Ad1, .inr (9, Fs1))] U)) (va_Qi (fun (r : Int32) (u : List Value) => (r = 0 ∧ ow Fs1 (u) 19 [7, 6] [(7, .int 0), (6, .int 1), (0, .ref Ad0), (0, .ref Ad0), (0, .ref Ad0), (0, .ref Ad0), (0, .ref Ad0), (0, .ref Ad0), (18, .int 0), (0, .ref Ad0), (0, .ref Ad0), (18, .int 0), (0, .ref Ad0), (0, .ref Ad0), (18, .int 0), (0, .ref Ad0), (0, .ref Ad0), (18, .int 0), (0, .ref Ad0), (0, .ref Ad0), (18, .int 0), (0, .ref Ad0), (0, .ref Ad0), (18, .int 0), (0, .ref Ad0), (0, .ref Ad0)])) (fun (u : List Value) t => Wd dC dI [] (va_A [(Ad0, .inr (12, Fs0)), (Ad1, .inr (9, Fs1))] sz) [(Ad0, .inr (12, Fs0)), (Ad1, .inr (9, (u)))] t) (va_A [(Ad0, .inr (12, Fs0)), (Ad1, .inr (9, Fs1))] sz))  0 0 (va_A [(Ad0, .inr (12, Fs0)), (Ad1, .inr (9, Fs1))] sz) := by
  refine Met.ofW (cc := cX6_readNots) (maxL := 3) (ret := (some .boolean)) (by decide) rfl ?_
  intro p e s m args below meth c s₁ B hml hv
  obtain ⟨rfl, hsz, hP, hK, hD0⟩ := hv
  have hx := B.exec
  have hb := B.bytes
  have hr := B.returns
  have hts := atoms_spec (ws := w_z_X6_readNots) B.pre
  have hown : s.vm.findClass RX6 = some m.cls := findClass_of_methodNamed B.named
  have hlocks := B.notSynchronized
  subst hsz
  have hD := hD0.self (sz := s.heap.size)
  generalize hAe : va_A [(Ad0, .inr (12, Fs0)), (Ad1, .inr (9, Fs1))] s.heap.size = A at hD ⊢
  have hA : ∀ q : Nat, s.heap.size ≤ q → A q := fun q h => by rw [← hAe]; exact Or.inr h
  have hS : va_S A s.heap s.heap [] := va_S.rf
  have hl := lv_entry ([.ref Ad1]) (n := 3) (Nat.le_of_ble_eq_true rfl)
  rw [lg_entry_eq]
  generalize (lg_sl ([.ref Ad1]) ++ List.replicate (3 - (lg_sl ([.ref Ad1])).length) Slot.unset).toArray = ls at hl ⊢
  have hl : lv_has ls 3 [(0, .ref Ad1)] := hl
  have o_Fs0 := ow_0 k_Fs0
  have o_Fs1 := ow_0 k_Fs1
  refine lv_iconst (v := 0) hx hb dX6_readNots_0 (by decide) ?_
  refine lv_istore_n (lv' := [(1, .int 0), (0, .ref Ad1)]) hx hb dX6_readNots_1 rfl hl (by decide) rfl (fun ls hl => ?_)
  refine lv_aload_n hx hb dX6_readNots_2 rfl (lv_at hl 1 rfl) ?_
  refine va_get (D := (dC, dI)) (ci := 9) (v := .ref Ad0) (C := RX6) (T := TX6) (N := 19) hx hb hts (in_z_X6_readNots_X6) hown hK hP 1 rfl rfl 0 (by decide) (hts (.fieldLink RX6 9 "HeapWorks$Program" "tape" "LHeapWorks$Tape;") (by decide +kernel)) (fun _ h9 => h9) (ow_at o_Fs1 1 rfl) dX6_readNots_3 ?_
  refine va_get (D := (dC, dI)) (ci := 12) (v := .int 0) (C := RX9) (T := TX9) (N := 12) hx hb hts (in_z_X6_readNots_X9) hown hK hP 0 rfl rfl 9 (by decide) (hts (.fieldLink RX6 45 "HeapWorks$Tape" "word" "I") (by decide +kernel)) (fun _ h9 => h9) (ow_at o_Fs0 1 rfl) dX6_readNots_6 ?_
  refine lv_bipush (v := 38) hx hb dX6_readNots_9 (by decide) ?_
  refine lv_icmp_ne (tgt := 42) hx hb dX6_readNots_11 (by decide) (fun c101 => ?_) (fun c101 => absurd c101 (by decide))
  refine lv_aload_n hx hb dX6_readNots_42 rfl (lv_at hl 1 rfl) ?_
  have hPc := hP.sub (ws' := [(Ad0, .inr (12, Fs0)), (Ad1, .inr (9, Fs1))]) [0, 1] rfl
  have hDc := hD.sub (ws' := [(Ad0, .inr (12, Fs0)), (Ad1, .inr (9, Fs1))]) [0, 1] (by decide) rfl
  have hKc := hK.sub (tys' := []) [] rfl
  have hFc := va_free (wc := [(Ad0, .inr (12, Fs0)), (Ad1, .inr (9, Fs1))]) hD hS hA [0, 1] rfl
  refine va_calli (va_runV (As := []) (rest := []) ⟨hx, hb, hml, hown, hts⟩ (z_X6_readComparison l dC dI s.heap.size Ad0 Fs0 Ad1 Fs1 (fh_sub o_Fs0.2 [0, 1] rfl) (fh_sub o_Fs1.2 [0, 1, 1] rfl) ) (cwV 0 hts g_z_X6_readNots_z_X6_readComparison_134 rfl rfl rfl (by decide +kernel) ⟨Nat.le_of_ble_eq_true rfl, Nat.le_of_ble_eq_true rfl⟩) ⟨fun a U g mk q => by obtain ⟨q0, q1, qP, qK, qD⟩ := q; exact ⟨q0, q1, qP, va_K.moved (u := U) (U := U.calling g mk a) (Vm.Alike.refl U.vm) qK, qD⟩, va_recv hK hP (ci := 9) (q0 := 1) rfl rfl, fun U hU hW => ⟨rfl, by rw [hU], by rw [hU]; exact hPc, va_K.moved hW.alike hKc, hDc.weaken (fun _ _ _ _ => trivial)⟩⟩ rfl rfl hl.1 rfl (lv_room (Nat.le_of_ble_eq_true rfl)) dX6_readNots_43 ⟨Nat.le_of_ble_eq_true rfl, Nat.le_of_ble_eq_true rfl⟩) hS (fun q _ h => hFc q h) hFc (fun r102 u t H1 locs ht hvm hw hB hz1 hk1 hS => ?_)
  obtain ⟨s103, rfl⟩ : ∃ z, z = u := ⟨_, rfl⟩
  obtain ⟨hP1, hK1, hD1⟩ := hB
  rw [ht] at hP1
  try dsimp only at hw
  obtain ⟨hP, hD⟩ := va_join (wr := []) (w1 := [(Ad0, .inr (12, Fs0)), (Ad1, .inr (9, s103))]) hP hD [0, 1] [] rfl rfl (by decide) (by decide) hk1 hFc hP1 hD1
  have hK := hK.sub (tys' := []) [] rfl
  generalize H1 = H at hP hS ⊢
  have hP : va_P (dC, dI) vwCl [(Ad0, .inr (12, Fs0)), (Ad1, .inr (9, s103))] H := hP
  have hD : va_D A [(Ad0, .inr (12, Fs0)), (Ad1, .inr (9, s103))] := hD
  obtain ⟨er104, o_s103⟩ := hw
  subst er104
  have o_s103 := ow_on o_Fs1 o_s103 (l' := [(7, .int 0), (6, .int 1), (0, .ref Ad0), (0, .ref Ad0), (0, .ref Ad0), (0, .ref Ad0), (0, .ref Ad0), (0, .ref Ad0), (18, .int 0), (0, .ref Ad0), (0, .ref Ad0), (18, .int 0), (0, .ref Ad0), (0, .ref Ad0), (18, .int 0), (0, .ref Ad0), (0, .ref Ad0), (18, .int 0), (0, .ref Ad0), (0, .ref Ad0), (18, .int 0), (0, .ref Ad0), (0, .ref Ad0), (18, .int 0), (0, .ref Ad0), (0, .ref Ad0)]) (w' := [7, 6]) rfl rfl
  refine lv_if_ne (tgt := 51) hx hb dX6_readNots_46 (by decide) (fun c105 => absurd c105 (by decide)) (fun c105 => ?_)
  refine lv_iconst (v := 0) hx hb dX6_readNots_49 (by decide) ?_
  have hP9 := hP.sub (ws' := [(Ad0, .inr (12, Fs0)), (Ad1, .inr (9, s103))]) [0, 1] rfl
  have hD9 := hD.sub (ws' := [(Ad0, .inr (12, Fs0)), (Ad1, .inr (9, s103))]) [0, 1] (by decide) rfl
  have hK9 := hK.sub (tys' := []) [] rfl
  exact W.zret (v := 0) hx hb hr rfl (fun t ht hW => ⟨⟨0, s103, rfl, ⟨rfl, o_s103⟩, by rw [ht]; exact hP9, va_K.moved hW.alike hK9, hD9⟩, hS.F ht⟩) hS.2.2 dX6_readNots_50

def l_z_X6_readAnds : List Cond := [.methodLink RX6 131 yX6_readNots, .instanceMethod yX6_readNots, .selects RX6 yX6_readNots yX6_readNots, .initialized RX6, .code yX6_readNots cX6_readNots 3 (some .boolean), .fieldLink RX6 9 "HeapWorks$Program" "tape" "LHeapWorks$Tape;", .fieldLink RX6 45 "HeapWorks$Tape" "word" "I", .methodLink RX6 134 yX6_readComparison, .instanceMethod yX6_readComparison, .selects RX6 yX6_readComparison yX6_readComparison, .code yX6_readComparison cX6_readComparison 2 (some .boolean), .methodLink RX6 137 yX6_readSums, .instanceMethod yX6_readSums, .selects RX6 yX6_readSums yX6_readSums, .code yX6_readSums cX6_readSums 3 (some .boolean), .methodLink RX6 144 yX6_readProducts, .instanceMethod yX6_readProducts, .selects RX6 yX6_readProducts yX6_readProducts, .code yX6_readProducts cX6_readProducts 3 (some .boolean), .methodLink RX6 147 yX6_readSigned, .instanceMethod yX6_readSigned, .selects RX6 yX6_readSigned yX6_readSigned, .code yX6_readSigned cX6_readSigned 3 (some .boolean), .methodLink RX6 125 yX6_readP, .instanceMethod yX6_readP, .selects RX6 yX6_readP yX6_readP, .code yX6_readP cX6_readP 3 (some .boolean), .fieldLink RX6 99 "HeapWorks$Program" "waits" "I", .methodLink RX6 150 yX6_readAtom, .instanceMethod yX6_readAtom, .selects RX6 yX6_readAtom yX6_readAtom, .code yX6_readAtom cX6_readAtom 1 (some .boolean), .methodLink RX6 51 yX6_refuse, .instanceMethod yX6_refuse, .selects RX6 yX6_refuse yX6_refuse, .code yX6_refuse cX6_refuse 1 (some .boolean), .methodLink RX6 112 yX6_fail, .instanceMethod yX6_fail, .selects RX6 yX6_fail yX6_fail, .code yX6_fail cX6_fail 2 (some .boolean), .fieldLink RX6 75 "HeapWorks$Program" "fault" "I", .fieldLink RX6 111 "HeapWorks$Tape" "place" "I", .fieldLink RX6 78 "HeapWorks$Program" "place" "I"]
def w_z_X6_readAnds : List Cond := .code yX6_readAnds cX6_readAnds 3 (some .boolean) :: (l_z_X6_readAnds ++ ((wsX60 ++ wsX90)))
theorem in_z_X6_readAnds_X6 : ∀ w ∈ wsX60, w ∈ w_z_X6_readAnds := fun w h => List.mem_cons_of_mem _ (List.mem_append_right _ (List.mem_append_left _ h))
theorem in_z_X6_readAnds_X9 : ∀ w ∈ wsX90, w ∈ w_z_X6_readAnds := fun w h => List.mem_cons_of_mem _ (List.mem_append_right _ (List.mem_append_right _ (h)))
theorem g_z_X6_readAnds_z_X6_readNots_131 : GoodIn w_z_X6_readAnds (wsV RX6 131 RX6 yX6_readNots w_z_X6_readNots) := goodIn_app (goodIn_r (([.methodLink RX6 131 yX6_readNots, .instanceMethod yX6_readNots, .selects RX6 yX6_readNots yX6_readNots, .initialized RX6] : List Cond)) [1, 2, 3, 4] rfl (by decide +kernel)) (goodIn_ca (goodIn_r (.code yX6_readNots cX6_readNots 3 (some .boolean) :: l_z_X6_readNots) [5, 6, 7, 8, 9, 10, 4, 11, 12, 13, 14, 15, 16, 17, 18, 19, 20, 21, 22, 23, 24, 25, 26, 27, 28, 29, 30, 31, 32, 33, 34, 35, 36, 37, 38, 39, 40, 41, 42, 43] rfl (by decide +kernel)) (goodIn_app (goodIn_in (in_z_X6_readAnds_X6) gd_X6) (goodIn_in (in_z_X6_readAnds_X9) gd_X9)))
set_option maxHeartbeats 4000000 in
set_option maxRecDepth 100000 in
theorem z_X6_readAnds (l : Launch) (dC : Nat → ClassId) (dI : Nat → Nat → Nat) (sz : Nat) (Ad0 : Nat) (Fs0 : List Value) (Ad1 : Nat) (Fs1 : List Value) (k_Fs0 : fh Fs0 12 [(10, .int 0), (9, .int 0)]) (k_Fs1 : fh Fs1 19 [(18, .int 0), (0, .ref Ad0), (0, .ref Ad0)])  : Met l yX6_readAnds w_z_X6_readAnds ({ frames := 9, cells := 0, slots := 0, locals := 192 }) (va_Pc [.ref Ad1] (fun U => U.heap.size = sz ∧ Wd dC dI [] (fun _ => True) [(Ad0, .inr (12, Fs0)), (Ad1, .inr (9, Fs1))] U)) (va_Qi (fun (r : Int32) (u : List Value) => (r = 0 ∧ ow Fs1 (u) 19 [7, 6] [(7, .int 0), (6, .int 1), (0, .ref Ad0), (0, .ref Ad0), (0, .ref Ad0), (0, .ref Ad0), (0, .ref Ad0), (0, .ref Ad0), (18, .int 0), (0, .ref Ad0), (0, .ref Ad0), (18, .int 0), (0, .ref Ad0), (0, .ref Ad0), (18, .int 0), (0, .ref Ad0), (0, .ref Ad0), (18, .int 0), (0, .ref Ad0), (0, .ref Ad0), (18, .int 0), (0, .ref Ad0), (0, .ref Ad0), (18, .int 0), (0, .ref Ad0), (0, .ref Ad0), (18, .int 0), (0, .ref Ad0), (0, .ref Ad0)])) (fun (u : List Value) t => Wd dC dI [] (va_A [(Ad0, .inr (12, Fs0)), (Ad1, .inr (9, Fs1))] sz) [(Ad0, .inr (12, Fs0)), (Ad1, .inr (9, (u)))] t) (va_A [(Ad0, .inr (12, Fs0)), (Ad1, .inr (9, Fs1))] sz))  0 0 (va_A [(Ad0, .inr (12, Fs0)), (Ad1, .inr (9, Fs1))] sz) := by
  refine Met.ofW (cc := cX6_readAnds) (maxL := 3) (ret := (some .boolean)) (by decide) rfl ?_
  intro p e s m args below meth c s₁ B hml hv
  obtain ⟨rfl, hsz, hP, hK, hD0⟩ := hv
  have hx := B.exec
  have hb := B.bytes
  have hr := B.returns
  have hts := atoms_spec (ws := w_z_X6_readAnds) B.pre
  have hown : s.vm.findClass RX6 = some m.cls := findClass_of_methodNamed B.named
  have hlocks := B.notSynchronized
  subst hsz
  have hD := hD0.self (sz := s.heap.size)
  generalize hAe : va_A [(Ad0, .inr (12, Fs0)), (Ad1, .inr (9, Fs1))] s.heap.size = A at hD ⊢
  have hA : ∀ q : Nat, s.heap.size ≤ q → A q := fun q h => by rw [← hAe]; exact Or.inr h
  have hS : va_S A s.heap s.heap [] := va_S.rf
  have hl := lv_entry ([.ref Ad1]) (n := 3) (Nat.le_of_ble_eq_true rfl)
  rw [lg_entry_eq]
  generalize (lg_sl ([.ref Ad1]) ++ List.replicate (3 - (lg_sl ([.ref Ad1])).length) Slot.unset).toArray = ls at hl ⊢
  have hl : lv_has ls 3 [(0, .ref Ad1)] := hl
  have o_Fs0 := ow_0 k_Fs0
  have o_Fs1 := ow_0 k_Fs1
  refine lv_aload_n hx hb dX6_readAnds_0 rfl (lv_at hl 0 rfl) ?_
  have hPc := hP.sub (ws' := [(Ad0, .inr (12, Fs0)), (Ad1, .inr (9, Fs1))]) [0, 1] rfl
  have hDc := hD.sub (ws' := [(Ad0, .inr (12, Fs0)), (Ad1, .inr (9, Fs1))]) [0, 1] (by decide) rfl
  have hKc := hK.sub (tys' := []) [] rfl
  have hFc := va_free (wc := [(Ad0, .inr (12, Fs0)), (Ad1, .inr (9, Fs1))]) hD hS hA [0, 1] rfl
  refine va_calli (va_runV (As := []) (rest := []) ⟨hx, hb, hml, hown, hts⟩ (z_X6_readNots l dC dI s.heap.size Ad0 Fs0 Ad1 Fs1 (fh_sub o_Fs0.2 [0, 1] rfl) (fh_sub o_Fs1.2 [0, 1, 1] rfl) ) (cwV 0 hts g_z_X6_readAnds_z_X6_readNots_131 rfl rfl rfl (by decide +kernel) ⟨Nat.le_of_ble_eq_true rfl, Nat.le_of_ble_eq_true rfl⟩) ⟨fun a U g mk q => by obtain ⟨q0, q1, qP, qK, qD⟩ := q; exact ⟨q0, q1, qP, va_K.moved (u := U) (U := U.calling g mk a) (Vm.Alike.refl U.vm) qK, qD⟩, va_recv hK hP (ci := 9) (q0 := 1) rfl rfl, fun U hU hW => ⟨rfl, by rw [hU], by rw [hU]; exact hPc, va_K.moved hW.alike hKc, hDc.weaken (fun _ _ _ _ => trivial)⟩⟩ rfl rfl hl.1 rfl (lv_room (Nat.le_of_ble_eq_true rfl)) dX6_readAnds_1 ⟨Nat.le_of_ble_eq_true rfl, Nat.le_of_ble_eq_true rfl⟩) hS (fun q _ h => hFc q h) hFc (fun r101 u t H1 locs ht hvm hw hB hz1 hk1 hS => ?_)
  obtain ⟨s102, rfl⟩ : ∃ z, z = u := ⟨_, rfl⟩
  obtain ⟨hP1, hK1, hD1⟩ := hB
  rw [ht] at hP1
  try dsimp only at hw
  obtain ⟨hP, hD⟩ := va_join (wr := []) (w1 := [(Ad0, .inr (12, Fs0)), (Ad1, .inr (9, s102))]) hP hD [0, 1] [] rfl rfl (by decide) (by decide) hk1 hFc hP1 hD1
  have hK := hK.sub (tys' := []) [] rfl
  generalize H1 = H at hP hS ⊢
  have hP : va_P (dC, dI) vwCl [(Ad0, .inr (12, Fs0)), (Ad1, .inr (9, s102))] H := hP
  have hD : va_D A [(Ad0, .inr (12, Fs0)), (Ad1, .inr (9, s102))] := hD
  obtain ⟨er103, o_s102⟩ := hw
  subst er103
  have o_s102 := ow_on o_Fs1 o_s102 (l' := [(7, .int 0), (6, .int 1), (0, .ref Ad0), (0, .ref Ad0), (0, .ref Ad0), (0, .ref Ad0), (0, .ref Ad0), (0, .ref Ad0), (18, .int 0), (0, .ref Ad0), (0, .ref Ad0), (18, .int 0), (0, .ref Ad0), (0, .ref Ad0), (18, .int 0), (0, .ref Ad0), (0, .ref Ad0), (18, .int 0), (0, .ref Ad0), (0, .ref Ad0), (18, .int 0), (0, .ref Ad0), (0, .ref Ad0), (18, .int 0), (0, .ref Ad0), (0, .ref Ad0), (18, .int 0), (0, .ref Ad0), (0, .ref Ad0)]) (w' := [7, 6]) rfl rfl
  refine lv_if_ne (tgt := 9) hx hb dX6_readAnds_4 (by decide) (fun c104 => absurd c104 (by decide)) (fun c104 => ?_)
  refine lv_iconst (v := 0) hx hb dX6_readAnds_7 (by decide) ?_
  have hP9 := hP.sub (ws' := [(Ad0, .inr (12, Fs0)), (Ad1, .inr (9, s102))]) [0, 1] rfl
  have hD9 := hD.sub (ws' := [(Ad0, .inr (12, Fs0)), (Ad1, .inr (9, s102))]) [0, 1] (by decide) rfl
  have hK9 := hK.sub (tys' := []) [] rfl
  exact W.zret (v := 0) hx hb hr rfl (fun t ht hW => ⟨⟨0, s102, rfl, ⟨rfl, o_s102⟩, by rw [ht]; exact hP9, va_K.moved hW.alike hK9, hD9⟩, hS.F ht⟩) hS.2.2 dX6_readAnds_8

def l_z_X6_readE : List Cond := [.methodLink RX6 128 yX6_readAnds, .instanceMethod yX6_readAnds, .selects RX6 yX6_readAnds yX6_readAnds, .initialized RX6, .code yX6_readAnds cX6_readAnds 3 (some .boolean), .methodLink RX6 131 yX6_readNots, .instanceMethod yX6_readNots, .selects RX6 yX6_readNots yX6_readNots, .code yX6_readNots cX6_readNots 3 (some .boolean), .fieldLink RX6 9 "HeapWorks$Program" "tape" "LHeapWorks$Tape;", .fieldLink RX6 45 "HeapWorks$Tape" "word" "I", .methodLink RX6 134 yX6_readComparison, .instanceMethod yX6_readComparison, .selects RX6 yX6_readComparison yX6_readComparison, .code yX6_readComparison cX6_readComparison 2 (some .boolean), .methodLink RX6 137 yX6_readSums, .instanceMethod yX6_readSums, .selects RX6 yX6_readSums yX6_readSums, .code yX6_readSums cX6_readSums 3 (some .boolean), .methodLink RX6 144 yX6_readProducts, .instanceMethod yX6_readProducts, .selects RX6 yX6_readProducts yX6_readProducts, .code yX6_readProducts cX6_readProducts 3 (some .boolean), .methodLink RX6 147 yX6_readSigned, .instanceMethod yX6_readSigned, .selects RX6 yX6_readSigned yX6_readSigned, .code yX6_readSigned cX6_readSigned 3 (some .boolean), .methodLink RX6 125 yX6_readP, .instanceMethod yX6_readP, .selects RX6 yX6_readP yX6_readP, .code yX6_readP cX6_readP 3 (some .boolean), .fieldLink RX6 99 "HeapWorks$Program" "waits" "I", .methodLink RX6 150 yX6_readAtom, .instanceMethod yX6_readAtom, .selects RX6 yX6_readAtom yX6_readAtom, .code yX6_readAtom cX6_readAtom 1 (some .boolean), .methodLink RX6 51 yX6_refuse, .instanceMethod yX6_refuse, .selects RX6 yX6_refuse yX6_refuse, .code yX6_refuse cX6_refuse 1 (some .boolean), .methodLink RX6 112 yX6_fail, .instanceMethod yX6_fail, .selects RX6 yX6_fail yX6_fail, .code yX6_fail cX6_fail 2 (some .boolean), .fieldLink RX6 75 "HeapWorks$Program" "fault" "I", .fieldLink RX6 111 "HeapWorks$Tape" "place" "I", .fieldLink RX6 78 "HeapWorks$Program" "place" "I"]
def w_z_X6_readE : List Cond := .code yX6_readE cX6_readE 3 (some .boolean) :: (l_z_X6_readE ++ ((wsX60 ++ wsX90)))
theorem in_z_X6_readE_X6 : ∀ w ∈ wsX60, w ∈ w_z_X6_readE := fun w h => List.mem_cons_of_mem _ (List.mem_append_right _ (List.mem_append_left _ h))
theorem in_z_X6_readE_X9 : ∀ w ∈ wsX90, w ∈ w_z_X6_readE := fun w h => List.mem_cons_of_mem _ (List.mem_append_right _ (List.mem_append_right _ (h)))
theorem g_z_X6_readE_z_X6_readAnds_128 : GoodIn w_z_X6_readE (wsV RX6 128 RX6 yX6_readAnds w_z_X6_readAnds) := goodIn_app (goodIn_r (([.methodLink RX6 128 yX6_readAnds, .instanceMethod yX6_readAnds, .selects RX6 yX6_readAnds yX6_readAnds, .initialized RX6] : List Cond)) [1, 2, 3, 4] rfl (by decide +kernel)) (goodIn_ca (goodIn_r (.code yX6_readAnds cX6_readAnds 3 (some .boolean) :: l_z_X6_readAnds) [5, 6, 7, 8, 4, 9, 10, 11, 12, 13, 14, 15, 16, 17, 18, 19, 20, 21, 22, 23, 24, 25, 26, 27, 28, 29, 30, 31, 32, 33, 34, 35, 36, 37, 38, 39, 40, 41, 42, 43, 44, 45, 46, 47] rfl (by decide +kernel)) (goodIn_app (goodIn_in (in_z_X6_readE_X6) gd_X6) (goodIn_in (in_z_X6_readE_X9) gd_X9)))
set_option maxHeartbeats 4000000 in
set_option maxRecDepth 100000 in
theorem z_X6_readE (l : Launch) (dC : Nat → ClassId) (dI : Nat → Nat → Nat) (sz : Nat) (Ad0 : Nat) (Fs0 : List Value) (Ad1 : Nat) (Fs1 : List Value) (k_Fs0 : fh Fs0 12 [(10, .int 0), (9, .int 0)]) (k_Fs1 : fh Fs1 19 [(18, .int 0), (0, .ref Ad0), (0, .ref Ad0)])  : Met l yX6_readE w_z_X6_readE ({ frames := 10, cells := 0, slots := 0, locals := 214 }) (va_Pc [.ref Ad1] (fun U => U.heap.size = sz ∧ Wd dC dI [] (fun _ => True) [(Ad0, .inr (12, Fs0)), (Ad1, .inr (9, Fs1))] U)) (va_Qi (fun (r : Int32) (u : List Value) => (r = 0 ∧ ow Fs1 (u) 19 [7, 6] [(7, .int 0), (6, .int 1), (0, .ref Ad0), (0, .ref Ad0), (0, .ref Ad0), (0, .ref Ad0), (0, .ref Ad0), (0, .ref Ad0), (18, .int 0), (0, .ref Ad0), (0, .ref Ad0), (18, .int 0), (0, .ref Ad0), (0, .ref Ad0), (18, .int 0), (0, .ref Ad0), (0, .ref Ad0), (18, .int 0), (0, .ref Ad0), (0, .ref Ad0), (18, .int 0), (0, .ref Ad0), (0, .ref Ad0), (18, .int 0), (0, .ref Ad0), (0, .ref Ad0), (18, .int 0), (0, .ref Ad0), (0, .ref Ad0), (18, .int 0), (0, .ref Ad0), (0, .ref Ad0)])) (fun (u : List Value) t => Wd dC dI [] (va_A [(Ad0, .inr (12, Fs0)), (Ad1, .inr (9, Fs1))] sz) [(Ad0, .inr (12, Fs0)), (Ad1, .inr (9, (u)))] t) (va_A [(Ad0, .inr (12, Fs0)), (Ad1, .inr (9, Fs1))] sz))  0 0 (va_A [(Ad0, .inr (12, Fs0)), (Ad1, .inr (9, Fs1))] sz) := by
  refine Met.ofW (cc := cX6_readE) (maxL := 3) (ret := (some .boolean)) (by decide) rfl ?_
  intro p e s m args below meth c s₁ B hml hv
  obtain ⟨rfl, hsz, hP, hK, hD0⟩ := hv
  have hx := B.exec
  have hb := B.bytes
  have hr := B.returns
  have hts := atoms_spec (ws := w_z_X6_readE) B.pre
  have hown : s.vm.findClass RX6 = some m.cls := findClass_of_methodNamed B.named
  have hlocks := B.notSynchronized
  subst hsz
  have hD := hD0.self (sz := s.heap.size)
  generalize hAe : va_A [(Ad0, .inr (12, Fs0)), (Ad1, .inr (9, Fs1))] s.heap.size = A at hD ⊢
  have hA : ∀ q : Nat, s.heap.size ≤ q → A q := fun q h => by rw [← hAe]; exact Or.inr h
  have hS : va_S A s.heap s.heap [] := va_S.rf
  have hl := lv_entry ([.ref Ad1]) (n := 3) (Nat.le_of_ble_eq_true rfl)
  rw [lg_entry_eq]
  generalize (lg_sl ([.ref Ad1]) ++ List.replicate (3 - (lg_sl ([.ref Ad1])).length) Slot.unset).toArray = ls at hl ⊢
  have hl : lv_has ls 3 [(0, .ref Ad1)] := hl
  have o_Fs0 := ow_0 k_Fs0
  have o_Fs1 := ow_0 k_Fs1
  refine lv_aload_n hx hb dX6_readE_0 rfl (lv_at hl 0 rfl) ?_
  have hPc := hP.sub (ws' := [(Ad0, .inr (12, Fs0)), (Ad1, .inr (9, Fs1))]) [0, 1] rfl
  have hDc := hD.sub (ws' := [(Ad0, .inr (12, Fs0)), (Ad1, .inr (9, Fs1))]) [0, 1] (by decide) rfl
  have hKc := hK.sub (tys' := []) [] rfl
  have hFc := va_free (wc := [(Ad0, .inr (12, Fs0)), (Ad1, .inr (9, Fs1))]) hD hS hA [0, 1] rfl
  refine va_calli (va_runV (As := []) (rest := []) ⟨hx, hb, hml, hown, hts⟩ (z_X6_readAnds l dC dI s.heap.size Ad0 Fs0 Ad1 Fs1 (fh_sub o_Fs0.2 [0, 1] rfl) (fh_sub o_Fs1.2 [0, 1, 1] rfl) ) (cwV 0 hts g_z_X6_readE_z_X6_readAnds_128 rfl rfl rfl (by decide +kernel) ⟨Nat.le_of_ble_eq_true rfl, Nat.le_of_ble_eq_true rfl⟩) ⟨fun a U g mk q => by obtain ⟨q0, q1, qP, qK, qD⟩ := q; exact ⟨q0, q1, qP, va_K.moved (u := U) (U := U.calling g mk a) (Vm.Alike.refl U.vm) qK, qD⟩, va_recv hK hP (ci := 9) (q0 := 1) rfl rfl, fun U hU hW => ⟨rfl, by rw [hU], by rw [hU]; exact hPc, va_K.moved hW.alike hKc, hDc.weaken (fun _ _ _ _ => trivial)⟩⟩ rfl rfl hl.1 rfl (lv_room (Nat.le_of_ble_eq_true rfl)) dX6_readE_1 ⟨Nat.le_of_ble_eq_true rfl, Nat.le_of_ble_eq_true rfl⟩) hS (fun q _ h => hFc q h) hFc (fun r101 u t H1 locs ht hvm hw hB hz1 hk1 hS => ?_)
  obtain ⟨s102, rfl⟩ : ∃ z, z = u := ⟨_, rfl⟩
  obtain ⟨hP1, hK1, hD1⟩ := hB
  rw [ht] at hP1
  try dsimp only at hw
  obtain ⟨hP, hD⟩ := va_join (wr := []) (w1 := [(Ad0, .inr (12, Fs0)), (Ad1, .inr (9, s102))]) hP hD [0, 1] [] rfl rfl (by decide) (by decide) hk1 hFc hP1 hD1
  have hK := hK.sub (tys' := []) [] rfl
  generalize H1 = H at hP hS ⊢
  have hP : va_P (dC, dI) vwCl [(Ad0, .inr (12, Fs0)), (Ad1, .inr (9, s102))] H := hP
  have hD : va_D A [(Ad0, .inr (12, Fs0)), (Ad1, .inr (9, s102))] := hD
  obtain ⟨er103, o_s102⟩ := hw
  subst er103
  have o_s102 := ow_on o_Fs1 o_s102 (l' := [(7, .int 0), (6, .int 1), (0, .ref Ad0), (0, .ref Ad0), (0, .ref Ad0), (0, .ref Ad0), (0, .ref Ad0), (0, .ref Ad0), (18, .int 0), (0, .ref Ad0), (0, .ref Ad0), (18, .int 0), (0, .ref Ad0), (0, .ref Ad0), (18, .int 0), (0, .ref Ad0), (0, .ref Ad0), (18, .int 0), (0, .ref Ad0), (0, .ref Ad0), (18, .int 0), (0, .ref Ad0), (0, .ref Ad0), (18, .int 0), (0, .ref Ad0), (0, .ref Ad0), (18, .int 0), (0, .ref Ad0), (0, .ref Ad0), (18, .int 0), (0, .ref Ad0), (0, .ref Ad0)]) (w' := [7, 6]) rfl rfl
  refine lv_if_ne (tgt := 9) hx hb dX6_readE_4 (by decide) (fun c104 => absurd c104 (by decide)) (fun c104 => ?_)
  refine lv_iconst (v := 0) hx hb dX6_readE_7 (by decide) ?_
  have hP9 := hP.sub (ws' := [(Ad0, .inr (12, Fs0)), (Ad1, .inr (9, s102))]) [0, 1] rfl
  have hD9 := hD.sub (ws' := [(Ad0, .inr (12, Fs0)), (Ad1, .inr (9, s102))]) [0, 1] (by decide) rfl
  have hK9 := hK.sub (tys' := []) [] rfl
  exact W.zret (v := 0) hx hb hr rfl (fun t ht hW => ⟨⟨0, s102, rfl, ⟨rfl, o_s102⟩, by rw [ht]; exact hP9, va_K.moved hW.alike hK9, hD9⟩, hS.F ht⟩) hS.2.2 dX6_readE_8

def l_z_X6_readPromise : List Cond := [.methodLink RX6 38 yX6_start, .instanceMethod yX6_start, .selects RX6 yX6_start yX6_start, .initialized RX6, .methodLink RX6 41 yX6_readE, .instanceMethod yX6_readE, .selects RX6 yX6_readE yX6_readE, .code yX6_start cX6_start 1 none, .fieldLink RX6 72 "HeapWorks$Program" "steps" "I", .fieldLink RX6 75 "HeapWorks$Program" "fault" "I", .fieldLink RX6 78 "HeapWorks$Program" "place" "I", .fieldLink RX6 81 "HeapWorks$Program" "usesHolders" "Z", .fieldLink RX6 84 "HeapWorks$Program" "usesKept" "Z", .fieldLink RX6 87 "HeapWorks$Program" "nodes" "I", .fieldLink RX6 90 "HeapWorks$Program" "nest" "I", .fieldLink RX6 93 "HeapWorks$Program" "folds" "I", .fieldLink RX6 62 "HeapWorks$Program" "itKnown" "Z", .fieldLink RX6 96 "HeapWorks$Program" "scopes" "I", .fieldLink RX6 99 "HeapWorks$Program" "waits" "I", .fieldLink RX6 9 "HeapWorks$Program" "tape" "LHeapWorks$Tape;", .methodLink RX6 102 yX9_startWords, .instanceMethod yX9_startWords, .selects RX9 yX9_startWords yX9_startWords, .initialized RX9, .code yX9_startWords cX9_startWords 2 none, .fieldLink RX9 69 "HeapWorks$Tape" "at" "I", .methodLink RX9 72 yX9_scanWord, .instanceMethod yX9_scanWord, .selects RX9 yX9_scanWord yX9_scanWord, .fieldLink RX9 18 "HeapWorks$Tape" "words" "[I", .fieldLink RX9 75 "HeapWorks$Tape" "word" "I", .fieldLink RX9 21 "HeapWorks$Tape" "places" "[I", .fieldLink RX9 78 "HeapWorks$Tape" "place" "I", .fieldLink RX9 24 "HeapWorks$Tape" "codes" "[J", .fieldLink RX9 81 "HeapWorks$Tape" "code" "J", .fieldLink RX9 85 "HeapWorks$Tape" "next" "I", .methodLink RX9 88 yX9_nextWord, .instanceMethod yX9_nextWord, .selects RX9 yX9_nextWord yX9_nextWord, .code yX9_scanWord cX9_scanWord 1 none, .fieldLink RX9 49 "HeapWorks$Tape" "size" "I", .code yX9_nextWord cX9_nextWord 1 none, .code yX6_readE cX6_readE 3 (some .boolean), .methodLink RX6 128 yX6_readAnds, .instanceMethod yX6_readAnds, .selects RX6 yX6_readAnds yX6_readAnds, .code yX6_readAnds cX6_readAnds 3 (some .boolean), .methodLink RX6 131 yX6_readNots, .instanceMethod yX6_readNots, .selects RX6 yX6_readNots yX6_readNots, .code yX6_readNots cX6_readNots 3 (some .boolean), .fieldLink RX6 45 "HeapWorks$Tape" "word" "I", .methodLink RX6 134 yX6_readComparison, .instanceMethod yX6_readComparison, .selects RX6 yX6_readComparison yX6_readComparison, .code yX6_readComparison cX6_readComparison 2 (some .boolean), .methodLink RX6 137 yX6_readSums, .instanceMethod yX6_readSums, .selects RX6 yX6_readSums yX6_readSums, .code yX6_readSums cX6_readSums 3 (some .boolean), .methodLink RX6 144 yX6_readProducts, .instanceMethod yX6_readProducts, .selects RX6 yX6_readProducts yX6_readProducts, .code yX6_readProducts cX6_readProducts 3 (some .boolean), .methodLink RX6 147 yX6_readSigned, .instanceMethod yX6_readSigned, .selects RX6 yX6_readSigned yX6_readSigned, .code yX6_readSigned cX6_readSigned 3 (some .boolean), .methodLink RX6 125 yX6_readP, .instanceMethod yX6_readP, .selects RX6 yX6_readP yX6_readP, .code yX6_readP cX6_readP 3 (some .boolean), .methodLink RX6 150 yX6_readAtom, .instanceMethod yX6_readAtom, .selects RX6 yX6_readAtom yX6_readAtom, .code yX6_readAtom cX6_readAtom 1 (some .boolean), .methodLink RX6 51 yX6_refuse, .instanceMethod yX6_refuse, .selects RX6 yX6_refuse yX6_refuse, .code yX6_refuse cX6_refuse 1 (some .boolean), .methodLink RX6 112 yX6_fail, .instanceMethod yX6_fail, .selects RX6 yX6_fail yX6_fail, .code yX6_fail cX6_fail 2 (some .boolean), .fieldLink RX6 111 "HeapWorks$Tape" "place" "I"]
def w_z_X6_readPromise : List Cond := .code yX6_readPromise cX6_readPromise 1 (some .boolean) :: (l_z_X6_readPromise ++ ((wsX60 ++ wsX90)))
theorem in_z_X6_readPromise_X6 : ∀ w ∈ wsX60, w ∈ w_z_X6_readPromise := fun w h => List.mem_cons_of_mem _ (List.mem_append_right _ (List.mem_append_left _ h))
theorem in_z_X6_readPromise_X9 : ∀ w ∈ wsX90, w ∈ w_z_X6_readPromise := fun w h => List.mem_cons_of_mem _ (List.mem_append_right _ (List.mem_append_right _ (h)))
theorem g_z_X6_readPromise_z_X6_start_38 : GoodIn w_z_X6_readPromise (wsV RX6 38 RX6 yX6_start w_z_X6_start) := goodIn_app (goodIn_r (([.methodLink RX6 38 yX6_start, .instanceMethod yX6_start, .selects RX6 yX6_start yX6_start, .initialized RX6] : List Cond)) [1, 2, 3, 4] rfl (by decide +kernel)) (goodIn_ca (goodIn_r (.code yX6_start cX6_start 1 none :: l_z_X6_start) [8, 9, 10, 11, 12, 13, 14, 15, 16, 17, 18, 19, 20, 21, 22, 23, 24, 25, 26, 27, 28, 29, 30, 31, 32, 33, 34, 35, 36, 37, 38, 39, 40, 41, 42] rfl (by decide +kernel)) (goodIn_app (goodIn_in (in_z_X6_readPromise_X6) gd_X6) (goodIn_in (in_z_X6_readPromise_X9) gd_X9)))
theorem g_z_X6_readPromise_z_X6_readE_41 : GoodIn w_z_X6_readPromise (wsV RX6 41 RX6 yX6_readE w_z_X6_readE) := goodIn_app (goodIn_r (([.methodLink RX6 41 yX6_readE, .instanceMethod yX6_readE, .selects RX6 yX6_readE yX6_readE, .initialized RX6] : List Cond)) [5, 6, 7, 4] rfl (by decide +kernel)) (goodIn_ca (goodIn_r (.code yX6_readE cX6_readE 3 (some .boolean) :: l_z_X6_readE) [43, 44, 45, 46, 4, 47, 48, 49, 50, 51, 20, 52, 53, 54, 55, 56, 57, 58, 59, 60, 61, 62, 63, 64, 65, 66, 67, 68, 69, 70, 71, 72, 19, 73, 74, 75, 76, 77, 78, 79, 80, 81, 82, 83, 84, 10, 85, 11] rfl (by decide +kernel)) (goodIn_app (goodIn_in (in_z_X6_readPromise_X6) gd_X6) (goodIn_in (in_z_X6_readPromise_X9) gd_X9)))
set_option maxHeartbeats 4000000 in
set_option maxRecDepth 100000 in
theorem z_X6_readPromise (l : Launch) (dC : Nat → ClassId) (dI : Nat → Nat → Nat) (sz : Nat) (Ad0 : Nat) (Fs0 : List Value) (Ad1 : Nat) (Fa0 : Nat → Int32) (Ka0 : ClassId) (Ad2 : Nat) (Fa1 : Nat → Int32) (Ka1 : ClassId) (Ad3 : Nat) (Fa2 : Nat → Int64) (Ka2 : ClassId) (Ad4 : Nat) (Fs1 : List Value) (k_Fs0 : fh Fs0 12 [(1, .int 0), (5, .ref Ad1), (6, .ref Ad2), (7, .ref Ad3)]) (k_Fs1 : fh Fs1 19 [(0, .ref Ad0)])  : Met l yX6_readPromise w_z_X6_readPromise ({ frames := 11, cells := 0, slots := 0, locals := 236 }) (va_Pc [.ref Ad4] (fun U => U.heap.size = sz ∧ Wd dC dI [(Ka0, .int), (Ka1, .int), (Ka2, .long)] (fun _ => True) [(Ad0, .inr (12, Fs0)), (Ad1, .inl (Ka0, 4001, .inl Fa0)), (Ad2, .inl (Ka1, 4001, .inl Fa1)), (Ad3, .inl (Ka2, 4001, .inr (.inl Fa2))), (Ad4, .inr (9, Fs1))] U)) (va_Qi (fun (r : Int32) (u : List Value × (Nat → Int32) × (Nat → Int32) × (Nat → Int64) × List Value) => (r = 0 ∧ ow Fs0 (u.1) 12 [11, 10, 9, 8, 4] [(11, .long 0), (10, .int 0), (9, .int 0), (8, .int 0), (5, .ref Ad1), (6, .ref Ad2), (7, .ref Ad3), (8, .int 0), (4, .int 0), (1, .int 0), (4, .int 0), (1, .int 0), (5, .ref Ad1), (6, .ref Ad2), (7, .ref Ad3), (1, .int 0), (5, .ref Ad1), (6, .ref Ad2), (7, .ref Ad3), (1, .int 0), (5, .ref Ad1), (6, .ref Ad2), (7, .ref Ad3)] ∧ ow Fs1 (u.2.2.2.2) 19 [7, 6, 18, 16, 13, 12, 11, 10, 9, 8, 5] [(7, .int 0), (6, .int 1), (0, .ref Ad0), (0, .ref Ad0), (0, .ref Ad0), (0, .ref Ad0), (0, .ref Ad0), (0, .ref Ad0), (18, .int 0), (0, .ref Ad0), (0, .ref Ad0), (18, .int 0), (0, .ref Ad0), (0, .ref Ad0), (18, .int 0), (0, .ref Ad0), (0, .ref Ad0), (18, .int 0), (0, .ref Ad0), (0, .ref Ad0), (18, .int 0), (0, .ref Ad0), (0, .ref Ad0), (18, .int 0), (0, .ref Ad0), (0, .ref Ad0), (18, .int 0), (0, .ref Ad0), (0, .ref Ad0), (18, .int 0), (0, .ref Ad0), (0, .ref Ad0), (18, .int 0), (16, .int 0), (13, .int 0), (12, .int 0), (11, .int 0), (10, .int 0), (9, .int 0), (8, .int 0), (5, .int 0), (0, .ref Ad0), (0, .ref Ad0)] ∧ (u.2.1) (0 : Int32).toNatClampNeg = 0 ∧ (u.2.2.1) (0 : Int32).toNatClampNeg = 0 ∧ (u.2.2.2.1) (0 : Int32).toNatClampNeg = 0)) (fun (u : List Value × (Nat → Int32) × (Nat → Int32) × (Nat → Int64) × List Value) t => Wd dC dI [(Ka0, .int), (Ka1, .int), (Ka2, .long)] (va_A [(Ad0, .inr (12, Fs0)), (Ad1, .inl (Ka0, 4001, .inl Fa0)), (Ad2, .inl (Ka1, 4001, .inl Fa1)), (Ad3, .inl (Ka2, 4001, .inr (.inl Fa2))), (Ad4, .inr (9, Fs1))] sz) [(Ad0, .inr (12, (u.1))), (Ad1, .inl (Ka0, 4001, .inl ((u.2.1)))), (Ad2, .inl (Ka1, 4001, .inl ((u.2.2.1)))), (Ad3, .inl (Ka2, 4001, .inr (.inl ((u.2.2.2.1))))), (Ad4, .inr (9, (u.2.2.2.2)))] t) (va_A [(Ad0, .inr (12, Fs0)), (Ad1, .inl (Ka0, 4001, .inl Fa0)), (Ad2, .inl (Ka1, 4001, .inl Fa1)), (Ad3, .inl (Ka2, 4001, .inr (.inl Fa2))), (Ad4, .inr (9, Fs1))] sz))  0 0 (va_A [(Ad0, .inr (12, Fs0)), (Ad1, .inl (Ka0, 4001, .inl Fa0)), (Ad2, .inl (Ka1, 4001, .inl Fa1)), (Ad3, .inl (Ka2, 4001, .inr (.inl Fa2))), (Ad4, .inr (9, Fs1))] sz) := by
  refine Met.ofW (cc := cX6_readPromise) (maxL := 1) (ret := (some .boolean)) (by decide) rfl ?_
  intro p e s m args below meth c s₁ B hml hv
  obtain ⟨rfl, hsz, hP, hK, hD0⟩ := hv
  have hx := B.exec
  have hb := B.bytes
  have hr := B.returns
  have hts := atoms_spec (ws := w_z_X6_readPromise) B.pre
  have hown : s.vm.findClass RX6 = some m.cls := findClass_of_methodNamed B.named
  have hlocks := B.notSynchronized
  subst hsz
  have hD := hD0.self (sz := s.heap.size)
  generalize hAe : va_A [(Ad0, .inr (12, Fs0)), (Ad1, .inl (Ka0, 4001, .inl Fa0)), (Ad2, .inl (Ka1, 4001, .inl Fa1)), (Ad3, .inl (Ka2, 4001, .inr (.inl Fa2))), (Ad4, .inr (9, Fs1))] s.heap.size = A at hD ⊢
  have hA : ∀ q : Nat, s.heap.size ≤ q → A q := fun q h => by rw [← hAe]; exact Or.inr h
  have hS : va_S A s.heap s.heap [] := va_S.rf
  have hl := lv_entry ([.ref Ad4]) (n := 1) (Nat.le_of_ble_eq_true rfl)
  rw [lg_entry_eq]
  generalize (lg_sl ([.ref Ad4]) ++ List.replicate (1 - (lg_sl ([.ref Ad4])).length) Slot.unset).toArray = ls at hl ⊢
  have hl : lv_has ls 1 [(0, .ref Ad4)] := hl
  have o_Fs0 := ow_0 k_Fs0
  have o_Fs1 := ow_0 k_Fs1
  refine lv_aload_n hx hb dX6_readPromise_0 rfl (lv_at hl 0 rfl) ?_
  have hPc := hP.sub (ws' := [(Ad0, .inr (12, Fs0)), (Ad1, .inl (Ka0, 4001, .inl Fa0)), (Ad2, .inl (Ka1, 4001, .inl Fa1)), (Ad3, .inl (Ka2, 4001, .inr (.inl Fa2))), (Ad4, .inr (9, Fs1))]) [0, 1, 2, 3, 4] rfl
  have hDc := hD.sub (ws' := [(Ad0, .inr (12, Fs0)), (Ad1, .inl (Ka0, 4001, .inl Fa0)), (Ad2, .inl (Ka1, 4001, .inl Fa1)), (Ad3, .inl (Ka2, 4001, .inr (.inl Fa2))), (Ad4, .inr (9, Fs1))]) [0, 1, 2, 3, 4] (by decide) rfl
  have hKc := hK.sub (tys' := [(Ka0, .int), (Ka1, .int), (Ka2, .long)]) [0, 1, 2] rfl
  have hFc := va_free (wc := [(Ad0, .inr (12, Fs0)), (Ad1, .inl (Ka0, 4001, .inl Fa0)), (Ad2, .inl (Ka1, 4001, .inl Fa1)), (Ad3, .inl (Ka2, 4001, .inr (.inl Fa2))), (Ad4, .inr (9, Fs1))]) hD hS hA [0, 1, 2, 3, 4] rfl
  refine va_callv (va_runV (As := []) (rest := []) ⟨hx, hb, hml, hown, hts⟩ (z_X6_start l dC dI s.heap.size Ad0 Fs0 Ad1 Fa0 Ka0 Ad2 Fa1 Ka1 Ad3 Fa2 Ka2 Ad4 Fs1 (fh_sub o_Fs0.2 [0, 1, 2, 3] rfl) (fh_sub o_Fs1.2 [0] rfl) ) (cwV 0 hts g_z_X6_readPromise_z_X6_start_38 rfl rfl rfl (by decide +kernel) ⟨Nat.le_of_ble_eq_true rfl, Nat.le_of_ble_eq_true rfl⟩) ⟨fun a U g mk q => by obtain ⟨q0, q1, qP, qK, qD⟩ := q; exact ⟨q0, q1, qP, va_K.moved (u := U) (U := U.calling g mk a) (Vm.Alike.refl U.vm) qK, qD⟩, va_recv hK hP (ci := 9) (q0 := 4) rfl rfl, fun U hU hW => ⟨rfl, by rw [hU], by rw [hU]; exact hPc, va_K.moved hW.alike hKc, hDc.weaken (fun _ _ _ _ => trivial)⟩⟩ rfl rfl hl.1 rfl (lv_room (Nat.le_of_ble_eq_true rfl)) dX6_readPromise_1 ⟨Nat.le_of_ble_eq_true rfl, Nat.le_of_ble_eq_true rfl⟩) hS (fun q _ h => hFc q h) hFc (fun u t H1 locs ht hvm hw hB hz1 hk1 hS => ?_)
  obtain ⟨s101, f102, f103, f104, s105⟩ := u
  obtain ⟨hP1, hK1, hD1⟩ := hB
  rw [ht] at hP1
  try dsimp only at hw
  obtain ⟨hP, hD⟩ := va_join (wr := []) (w1 := [(Ad0, .inr (12, s101)), (Ad1, .inl (Ka0, 4001, .inl f102)), (Ad2, .inl (Ka1, 4001, .inl f103)), (Ad3, .inl (Ka2, 4001, .inr (.inl f104))), (Ad4, .inr (9, s105))]) hP hD [0, 1, 2, 3, 4] [] rfl rfl (by decide) (by decide) hk1 hFc hP1 hD1
  have hK := hK.sub (tys' := [(Ka0, .int), (Ka1, .int), (Ka2, .long)]) [0, 1, 2] rfl
  generalize H1 = H at hP hS ⊢
  have hP : va_P (dC, dI) vwCl [(Ad0, .inr (12, s101)), (Ad1, .inl (Ka0, 4001, .inl f102)), (Ad2, .inl (Ka1, 4001, .inl f103)), (Ad3, .inl (Ka2, 4001, .inr (.inl f104))), (Ad4, .inr (9, s105))] H := hP
  have hD : va_D A [(Ad0, .inr (12, s101)), (Ad1, .inl (Ka0, 4001, .inl f102)), (Ad2, .inl (Ka1, 4001, .inl f103)), (Ad3, .inl (Ka2, 4001, .inr (.inl f104))), (Ad4, .inr (9, s105))] := hD
  obtain ⟨o_s101, o_s105, q106, q107, q108⟩ := hw
  have o_s101 := ow_on o_Fs0 o_s101 (l' := [(11, .long 0), (10, .int 0), (9, .int 0), (8, .int 0), (5, .ref Ad1), (6, .ref Ad2), (7, .ref Ad3), (8, .int 0), (4, .int 0), (1, .int 0), (4, .int 0), (1, .int 0), (5, .ref Ad1), (6, .ref Ad2), (7, .ref Ad3), (1, .int 0), (5, .ref Ad1), (6, .ref Ad2), (7, .ref Ad3), (1, .int 0), (5, .ref Ad1), (6, .ref Ad2), (7, .ref Ad3)]) (w' := [11, 10, 9, 8, 4]) rfl rfl
  have o_s105 := ow_on o_Fs1 o_s105 (l' := [(18, .int 0), (16, .int 0), (13, .int 0), (12, .int 0), (11, .int 0), (10, .int 0), (9, .int 0), (8, .int 0), (7, .int (-1)), (6, .int 0), (5, .int 0), (0, .ref Ad0), (0, .ref Ad0)]) (w' := [18, 16, 13, 12, 11, 10, 9, 8, 7, 6, 5]) rfl rfl
  refine lv_aload_n hx hb dX6_readPromise_4 rfl (lv_at hl 0 rfl) ?_
  have hPc := hP.sub (ws' := [(Ad0, .inr (12, s101)), (Ad4, .inr (9, s105))]) [0, 4] rfl
  have hDc := hD.sub (ws' := [(Ad0, .inr (12, s101)), (Ad4, .inr (9, s105))]) [0, 4] (by decide) rfl
  have hKc := hK.sub (tys' := []) [] rfl
  have hFc := va_free (wc := [(Ad0, .inr (12, s101)), (Ad4, .inr (9, s105))]) hD hS hA [0, 4] rfl
  refine va_calli (va_runV (As := []) (rest := []) ⟨hx, hb, hml, hown, hts⟩ (z_X6_readE l dC dI H.size Ad0 s101 Ad4 s105 (fh_sub o_s101.2 [1, 2] rfl) (fh_sub o_s105.2 [0, 11, 11] rfl) ) (cwV 0 hts g_z_X6_readPromise_z_X6_readE_41 rfl rfl rfl (by decide +kernel) ⟨Nat.le_of_ble_eq_true rfl, Nat.le_of_ble_eq_true rfl⟩) ⟨fun a U g mk q => by obtain ⟨q0, q1, qP, qK, qD⟩ := q; exact ⟨q0, q1, qP, va_K.moved (u := U) (U := U.calling g mk a) (Vm.Alike.refl U.vm) qK, qD⟩, va_recv hK hP (ci := 9) (q0 := 4) rfl rfl, fun U hU hW => ⟨rfl, by rw [hU], by rw [hU]; exact hPc, va_K.moved hW.alike hKc, hDc.weaken (fun _ _ _ _ => trivial)⟩⟩ rfl rfl hl.1 rfl (lv_room (Nat.le_of_ble_eq_true rfl)) dX6_readPromise_5 ⟨Nat.le_of_ble_eq_true rfl, Nat.le_of_ble_eq_true rfl⟩) hS (fun q _ h => hFc q h) hFc (fun r109 u t H1 locs ht hvm hw hB hz1 hk1 hS => ?_)
  obtain ⟨s110, rfl⟩ : ∃ z, z = u := ⟨_, rfl⟩
  obtain ⟨hP1, hK1, hD1⟩ := hB
  rw [ht] at hP1
  try dsimp only at hw
  obtain ⟨hP, hD⟩ := va_join (wr := [(Ad1, .inl (Ka0, 4001, .inl f102)), (Ad2, .inl (Ka1, 4001, .inl f103)), (Ad3, .inl (Ka2, 4001, .inr (.inl f104)))]) (w1 := [(Ad0, .inr (12, s101)), (Ad4, .inr (9, s110))]) hP hD [0, 4] [1, 2, 3] rfl rfl (by decide) (by decide) hk1 hFc hP1 hD1
  have hK := hK.sub (tys' := [(Ka0, .int), (Ka1, .int), (Ka2, .long)]) [0, 1, 2] rfl
  generalize H1 = H at hP hS ⊢
  have hP : va_P (dC, dI) vwCl [(Ad1, .inl (Ka0, 4001, .inl f102)), (Ad2, .inl (Ka1, 4001, .inl f103)), (Ad3, .inl (Ka2, 4001, .inr (.inl f104))), (Ad0, .inr (12, s101)), (Ad4, .inr (9, s110))] H := hP
  have hD : va_D A [(Ad1, .inl (Ka0, 4001, .inl f102)), (Ad2, .inl (Ka1, 4001, .inl f103)), (Ad3, .inl (Ka2, 4001, .inr (.inl f104))), (Ad0, .inr (12, s101)), (Ad4, .inr (9, s110))] := hD
  obtain ⟨er111, o_s110⟩ := hw
  subst er111
  have o_s110 := ow_on o_s105 o_s110 (l' := [(7, .int 0), (6, .int 1), (0, .ref Ad0), (0, .ref Ad0), (0, .ref Ad0), (0, .ref Ad0), (0, .ref Ad0), (0, .ref Ad0), (18, .int 0), (0, .ref Ad0), (0, .ref Ad0), (18, .int 0), (0, .ref Ad0), (0, .ref Ad0), (18, .int 0), (0, .ref Ad0), (0, .ref Ad0), (18, .int 0), (0, .ref Ad0), (0, .ref Ad0), (18, .int 0), (0, .ref Ad0), (0, .ref Ad0), (18, .int 0), (0, .ref Ad0), (0, .ref Ad0), (18, .int 0), (0, .ref Ad0), (0, .ref Ad0), (18, .int 0), (0, .ref Ad0), (0, .ref Ad0), (18, .int 0), (16, .int 0), (13, .int 0), (12, .int 0), (11, .int 0), (10, .int 0), (9, .int 0), (8, .int 0), (5, .int 0), (0, .ref Ad0), (0, .ref Ad0)]) (w' := [7, 6, 18, 16, 13, 12, 11, 10, 9, 8, 5]) rfl rfl
  refine lv_if_eq (tgt := 32) hx hb dX6_readPromise_8 (by decide) (fun c112 => ?_) (fun c112 => absurd c112 (by decide))
  refine lv_iconst (v := 0) hx hb dX6_readPromise_32 (by decide) ?_
  have hP9 := hP.sub (ws' := [(Ad0, .inr (12, s101)), (Ad1, .inl (Ka0, 4001, .inl f102)), (Ad2, .inl (Ka1, 4001, .inl f103)), (Ad3, .inl (Ka2, 4001, .inr (.inl f104))), (Ad4, .inr (9, s110))]) [3, 0, 1, 2, 4] rfl
  have hD9 := hD.sub (ws' := [(Ad0, .inr (12, s101)), (Ad1, .inl (Ka0, 4001, .inl f102)), (Ad2, .inl (Ka1, 4001, .inl f103)), (Ad3, .inl (Ka2, 4001, .inr (.inl f104))), (Ad4, .inr (9, s110))]) [3, 0, 1, 2, 4] (by decide) rfl
  have hK9 := hK.sub (tys' := [(Ka0, .int), (Ka1, .int), (Ka2, .long)]) [0, 1, 2] rfl
  exact W.zret (v := 0) hx hb hr rfl (fun t ht hW => ⟨⟨0, (s101, f102, f103, f104, s110), rfl, ⟨rfl, o_s101, o_s110, q106, q107, q108⟩, by rw [ht]; exact hP9, va_K.moved hW.alike hK9, hD9⟩, hS.F ht⟩) hS.2.2 dX6_readPromise_33

def l_z_X11_tellFault : List Cond := [.fieldLink RX11 469 "HeapWorks" "faultCode" "I", .fieldLink RX11 98 "HeapWorks" "faultPlace" "I"]
def w_z_X11_tellFault : List Cond := .code yX11_tellFault cX11_tellFault 3 none :: (l_z_X11_tellFault ++ (wsX110))
theorem in_z_X11_tellFault_X11 : ∀ w ∈ wsX110, w ∈ w_z_X11_tellFault := fun w h => List.mem_cons_of_mem _ (List.mem_append_right _ (h))
set_option maxHeartbeats 4000000 in
set_option maxRecDepth 100000 in
theorem z_X11_tellFault (l : Launch) (dC : Nat → ClassId) (dI : Nat → Nat → Nat) (sz : Nat) (Ad0 : Nat) (Fs0 : List Value) (k_Fs0 : fh Fs0 18 [])  : Met l yX11_tellFault w_z_X11_tellFault ({ frames := 0, cells := 0, slots := 0, locals := 0 }) (va_Pc [.ref Ad0, .int 1, .int 0] (fun U => U.heap.size = sz ∧ Wd dC dI [] (fun _ => True) [(Ad0, .inr (14, Fs0))] U)) (va_Qv (fun (u : List Value) => ow Fs0 (u) 18 [17, 16] [(17, .int 0), (16, .int 1)]) (fun (u : List Value) t => Wd dC dI [] (va_A [(Ad0, .inr (14, Fs0))] sz) [(Ad0, .inr (14, (u)))] t) (va_A [(Ad0, .inr (14, Fs0))] sz))  0 0 (va_A [(Ad0, .inr (14, Fs0))] sz) := by
  refine Met.ofW (cc := cX11_tellFault) (maxL := 3) (ret := none) (by decide) rfl ?_
  intro p e s m args below meth c s₁ B hml hv
  obtain ⟨rfl, hsz, hP, hK, hD0⟩ := hv
  have hx := B.exec
  have hb := B.bytes
  have hr := B.returns
  have hts := atoms_spec (ws := w_z_X11_tellFault) B.pre
  have hown : s.vm.findClass RX11 = some m.cls := findClass_of_methodNamed B.named
  have hlocks := B.notSynchronized
  subst hsz
  have hD := hD0.self (sz := s.heap.size)
  generalize hAe : va_A [(Ad0, .inr (14, Fs0))] s.heap.size = A at hD ⊢
  have hA : ∀ q : Nat, s.heap.size ≤ q → A q := fun q h => by rw [← hAe]; exact Or.inr h
  have hS : va_S A s.heap s.heap [] := va_S.rf
  have hl := lv_entry ([.ref Ad0, .int 1, .int 0]) (n := 3) (Nat.le_of_ble_eq_true rfl)
  rw [lg_entry_eq]
  generalize (lg_sl ([.ref Ad0, .int 1, .int 0]) ++ List.replicate (3 - (lg_sl ([.ref Ad0, .int 1, .int 0])).length) Slot.unset).toArray = ls at hl ⊢
  have hl : lv_has ls 3 [(0, .ref Ad0), (1, .int 1), (2, .int 0)] := hl
  have o_Fs0 := ow_0 k_Fs0
  refine lv_aload_n hx hb dX11_tellFault_0 rfl (lv_at hl 0 rfl) ?_
  refine lv_iload_n hx hb dX11_tellFault_1 rfl (lv_at hl 1 rfl) ?_
  refine va_put (D := (dC, dI)) (ci := 14) (v := .int 1) (ty := .int) (C := RX11) (T := TX11) (N := 18) hx hb hts (in_z_X11_tellFault_X11) tyX11 tyX11_ok nmX11 hown hK hP hD hS 0 rfl rfl 16 (by decide) (hts (.fieldLink RX11 469 "HeapWorks" "faultCode" "I") (by decide +kernel)) (fun _ h9 => h9) rfl (by decide +kernel) rfl rfl (by rw [o_Fs0.2.1]; decide) dX11_tellFault_2 (fun H locs hP hD hS => ?_)
  have hP : va_P (dC, dI) vwCl [(Ad0, .inr (14, (Fs0.set 16 (.int 1))))] H := hP
  have hD : va_D A [(Ad0, .inr (14, (Fs0.set 16 (.int 1))))] := hD
  have o_s101 := ow_set o_Fs0 16 (.int 1) (by decide) (l' := [(16, .int 1)]) (w' := [16]) rfl rfl
  generalize (Fs0.set 16 (.int 1)) = s101 at hP hD o_s101
  refine lv_aload_n hx hb dX11_tellFault_5 rfl (lv_at hl 0 rfl) ?_
  refine lv_iload_n hx hb dX11_tellFault_6 rfl (lv_at hl 1 rfl) ?_
  refine lv_if_ne (tgt := 14) hx hb dX11_tellFault_7 (by decide) (fun c102 => ?_) (fun c102 => absurd c102 (by decide))
  refine lv_iload_n hx hb dX11_tellFault_14 rfl (lv_at hl 2 rfl) ?_
  refine va_put (D := (dC, dI)) (ci := 14) (v := .int 0) (ty := .int) (C := RX11) (T := TX11) (N := 18) hx hb hts (in_z_X11_tellFault_X11) tyX11 tyX11_ok nmX11 hown hK hP hD hS 0 rfl rfl 17 (by decide) (hts (.fieldLink RX11 98 "HeapWorks" "faultPlace" "I") (by decide +kernel)) (fun _ h9 => h9) rfl (by decide +kernel) rfl rfl (by rw [o_s101.2.1]; decide) dX11_tellFault_15 (fun H locs hP hD hS => ?_)
  have hP : va_P (dC, dI) vwCl [(Ad0, .inr (14, (s101.set 17 (.int 0))))] H := hP
  have hD : va_D A [(Ad0, .inr (14, (s101.set 17 (.int 0))))] := hD
  have o_s103 := ow_set o_s101 17 (.int 0) (by decide) (l' := [(17, .int 0), (16, .int 1)]) (w' := [17, 16]) rfl rfl
  generalize (s101.set 17 (.int 0)) = s103 at hP hD o_s103
  have hP9 := hP.sub (ws' := [(Ad0, .inr (14, s103))]) [0] rfl
  have hD9 := hD.sub (ws' := [(Ad0, .inr (14, s103))]) [0] (by decide) rfl
  have hK9 := hK.sub (tys' := []) [] rfl
  exact W.vret hx hb hr (fun t ht hW => ⟨⟨s103, rfl, o_s103, by rw [ht]; exact hP9, va_K.moved hW.alike hK9, hD9⟩, hS.F ht⟩) hS.2.2 dX11_tellFault_18

