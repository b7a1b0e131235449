def l_n_holder : List Cond := [.methodLink RX12 600 yX12_isThing, .instanceMethod yX12_isThing, .selects RX12 yX12_isThing yX12_isThing, .initialized RX12, .fieldLink RX12 388 "HeapWorksModel" "thrown" "I", .code yX12_isThing cX12_isThing 3 (some .boolean), .methodLink RX12 542 yX12_isPicture, .instanceMethod yX12_isPicture, .selects RX12 yX12_isPicture yX12_isPicture, .fieldLink RX12 183 "HeapWorksModel" "things" "[I", .code yX12_isPicture cX12_isPicture 2 (some .boolean)]
def w_n_holder : List Cond := .code yX12_holder cX12_holder 9 (some .int) :: (l_n_holder ++ (wsX120))
theorem in_n_holder_X12 : ∀ w ∈ wsX120, w ∈ w_n_holder := fun w h => List.mem_cons_of_mem _ (List.mem_append_right _ (h))
theorem g_n_holder_z_X12_isThing_600 : GoodIn w_n_holder (wsV RX12 600 RX12 yX12_isThing w_z_X12_isThing) := goodIn_app (goodIn_sub (by decide +kernel) (by decide +kernel)) (goodIn_ca (goodIn_sub (by decide +kernel) (by decide +kernel)) (goodIn_in in_n_holder_X12 gd_X12))
set_option maxHeartbeats 4000000 in
set_option maxRecDepth 100000 in
theorem n_holder (l : Launch) (dC : Nat → ClassId) (dI : Nat → Nat → Nat) (sz : Nat) (aR : Nat) (fsR : List Value) (q_things : Nat) (f_things : Nat → Int32) (k_things : ClassId) (p0 : Int32) (p1 : Int32) (p2 : Int32) (p3 : Int32) (k_fsR : fh fsR 150 [(0, .int 0), (48, .ref q_things)]) (hz_f_things : ∀ j, f_things j = 0) : Met l yX12_holder w_n_holder ({ frames := 2, cells := 0, slots := 0, locals := 43 }) (va_Pc [.ref aR, .int p0, .int p1, .int p2, .int p3] (fun U => U.heap.size = sz ∧ Wd dC dI [(k_things, .int)] (fun _ => True) [(aR, .inr (15, fsR)), (q_things, .inl (k_things, 5, .inl f_things))] U)) (va_Qi (fun (r : Int32) (u : List Value) => (p0 < 0 ∧ r = 0 ∧ ow fsR (u) 150 [0] [(0, .int 1), (48, .ref q_things)]) ∨ (¬ p0 < 0 ∧ 4 ≤ p0 ∧ r = 0 ∧ ow fsR (u) 150 [0] [(0, .int 1), (48, .ref q_things)]) ∨ (¬ p0 < 0 ∧ ¬ 4 ≤ p0 ∧ p1 < 0 ∧ r = 0 ∧ ow fsR (u) 150 [0] [(0, .int 1), (48, .ref q_things)]) ∨ (¬ p0 < 0 ∧ ¬ 4 ≤ p0 ∧ ¬ p1 < 0 ∧ 0 ≤ p1 ∧ r = 0 ∧ ow fsR (u) 150 [0] [(0, .int 1), (48, .ref q_things)])) (fun (u : List Value) t => Wd dC dI [(k_things, .int)] (va_A [(aR, .inr (15, fsR)), (q_things, .inl (k_things, 5, .inl f_things))] sz) [(aR, .inr (15, (u))), (q_things, .inl (k_things, 5, .inl f_things))] t) (va_A [(aR, .inr (15, fsR)), (q_things, .inl (k_things, 5, .inl f_things))] sz))  0 0 (va_A [(aR, .inr (15, fsR)), (q_things, .inl (k_things, 5, .inl f_things))] sz) := by
  refine Met.ofW (cc := cX12_holder) (maxL := 9) (ret := (some .int)) (by decide) rfl ?_
  intro p e s m args below meth c s₁ B hml hv
  obtain ⟨rfl, hsz, hP, hK, hD0⟩ := hv
  have hx := B.exec
  have hb := B.bytes
  have hr := B.returns
  have hts := atoms_spec (ws := w_n_holder) B.pre
  have hown : s.vm.findClass RX12 = some m.cls := findClass_of_methodNamed B.named
  have hlocks := B.notSynchronized
  subst hsz
  have hD := hD0.self (sz := s.heap.size)
  generalize hAe : va_A [(aR, .inr (15, fsR)), (q_things, .inl (k_things, 5, .inl f_things))] s.heap.size = A at hD ⊢
  have hA : ∀ q : Nat, s.heap.size ≤ q → A q := fun q h => by rw [← hAe]; exact Or.inr h
  have hS : va_S A s.heap s.heap [] := va_S.rf
  have hl := lv_entry ([.ref aR, .int p0, .int p1, .int p2, .int p3]) (n := 9) (Nat.le_of_ble_eq_true rfl)
  rw [lg_entry_eq]
  generalize (lg_sl ([.ref aR, .int p0, .int p1, .int p2, .int p3]) ++ List.replicate (9 - (lg_sl ([.ref aR, .int p0, .int p1, .int p2, .int p3])).length) Slot.unset).toArray = ls at hl ⊢
  have hl : lv_has ls 9 [(0, .ref aR), (1, .int p0), (2, .int p1), (3, .int p2), (4, .int p3)] := hl
  have o_fsR := ow_0 k_fsR
  refine lv_aload_n hx hb dX12_holder_0 rfl (lv_at hl 0 rfl) ?_
  refine lv_aload_n hx hb dX12_holder_1 rfl (lv_at hl 0 rfl) ?_
  refine lv_iload_n hx hb dX12_holder_2 rfl (lv_at hl 1 rfl) ?_
  refine lv_iload_n hx hb dX12_holder_3 rfl (lv_at hl 2 rfl) ?_
  have hPc := hP.sub (ws' := [(aR, .inr (15, fsR)), (q_things, .inl (k_things, 5, .inl f_things))]) [0, 1] rfl
  have hDc := hD.sub (ws' := [(aR, .inr (15, fsR)), (q_things, .inl (k_things, 5, .inl f_things))]) [0, 1] (by decide) rfl
  have hKc := hK.sub (tys' := [(k_things, .int)]) [0] rfl
  have hFc := va_free (wc := [(aR, .inr (15, fsR)), (q_things, .inl (k_things, 5, .inl f_things))]) hD hS hA [0, 1] rfl
  refine va_calli (va_runV (As := [.int p0, .int p1]) (rest := [.ref aR]) ⟨hx, hb, hml, hown, hts⟩ (z_X12_isThing l dC dI s.heap.size aR fsR q_things f_things k_things p0 p1 (fh_sub o_fsR.2 [1] rfl) hz_f_things) (cwV 2 hts g_n_holder_z_X12_isThing_600 rfl rfl rfl (by decide +kernel) ⟨Nat.le_of_ble_eq_true rfl, Nat.le_of_ble_eq_true rfl⟩) ⟨fun a U g mk q => by obtain ⟨q0, q1, qP, qK, qD⟩ := q; exact ⟨q0, q1, qP, va_K.moved (u := U) (U := U.calling g mk a) (Vm.Alike.refl U.vm) qK, qD⟩, va_recv hK hP (ci := 15) (q0 := 0) rfl rfl, fun U hU hW => ⟨rfl, by rw [hU], by rw [hU]; exact hPc, va_K.moved hW.alike hKc, hDc.weaken (fun _ _ _ _ => trivial)⟩⟩ rfl rfl hl.1 rfl (lv_room (Nat.le_of_ble_eq_true rfl)) dX12_holder_4 ⟨Nat.le_of_ble_eq_true rfl, Nat.le_of_ble_eq_true rfl⟩) hS (fun q _ h => hFc q h) hFc (fun r4199 u t H1 locs ht hvm hw hB hz1 hk1 hS => ?_)
  obtain ⟨hP1, hK1, hD1⟩ := hB
  rw [ht] at hP1
  try dsimp only at hw
  obtain ⟨hP, hD⟩ := va_join (wr := []) (w1 := [(aR, .inr (15, fsR)), (q_things, .inl (k_things, 5, .inl f_things))]) hP hD [0, 1] [] rfl rfl (by decide) (by decide) hk1 hFc hP1 hD1
  have hK := hK.sub (tys' := [(k_things, .int)]) [0] rfl
  generalize H1 = H at hP hS ⊢
  have hP : va_P (dC, dI) vwCl [(aR, .inr (15, fsR)), (q_things, .inl (k_things, 5, .inl f_things))] H := hP
  have hD : va_D A [(aR, .inr (15, fsR)), (q_things, .inl (k_things, 5, .inl f_things))] := hD
  rcases hw with ⟨c4200, er4201⟩ | ⟨c4202, c4203, er4204⟩ | ⟨c4205, c4206, c4207, er4208⟩ | ⟨c4209, c4210, c4211, c4212, er4213⟩
  · skip
    subst er4201
    refine lv_if_eq (tgt := 35) hx hb dX12_holder_7 (by decide) (fun c4214 => ?_) (fun c4214 => absurd c4214 (by decide))
    refine lv_iconst (v := 1) hx hb dX12_holder_35 (by decide) ?_
    refine lv_goto (tgt := 40) hx hb dX12_holder_36 (by decide) ?_
    refine va_put (D := (dC, dI)) (ci := 15) (v := .int 1) (ty := .int) (C := RX12) (T := TX12) (N := 150) hx hb hts (in_n_holder_X12) tyX12 tyX12_ok nmX12 hown hK hP hD hS 0 rfl rfl 0 (by decide) (hts (.fieldLink RX12 388 "HeapWorksModel" "thrown" "I") (by decide +kernel)) (fun _ h9 => h9) rfl (by decide +kernel) rfl rfl (by rw [o_fsR.2.1]; decide) dX12_holder_40 (fun H locs hP hD hS => ?_)
    have hP : va_P (dC, dI) vwCl [(aR, .inr (15, (fsR.set 0 (.int 1)))), (q_things, .inl (k_things, 5, .inl f_things))] H := hP
    have hD : va_D A [(aR, .inr (15, (fsR.set 0 (.int 1)))), (q_things, .inl (k_things, 5, .inl f_things))] := hD
    have o_s4215 := ow_set o_fsR 0 (.int 1) (by decide) (l' := [(0, .int 1), (48, .ref q_things)]) (w' := [0]) rfl rfl
    generalize (fsR.set 0 (.int 1)) = s4215 at hP hD o_s4215
    refine lv_aload_n hx hb dX12_holder_43 rfl (lv_at hl 0 rfl) ?_
    refine va_get (D := (dC, dI)) (ci := 15) (v := .int 1) (C := RX12) (T := TX12) (N := 150) hx hb hts (in_n_holder_X12) hown hK hP 0 rfl rfl 0 (by decide) (hts (.fieldLink RX12 388 "HeapWorksModel" "thrown" "I") (by decide +kernel)) (fun _ h9 => h9) (ow_at o_s4215 0 rfl) dX12_holder_44 ?_
    refine lv_if_le (tgt := 52) hx hb dX12_holder_47 (by decide) (fun c4216 => absurd c4216 (by decide)) (fun c4216 => ?_)
    refine lv_iconst (v := 0) hx hb dX12_holder_50 (by decide) ?_
    have hP9 := hP.sub (ws' := [(aR, .inr (15, s4215)), (q_things, .inl (k_things, 5, .inl f_things))]) [0, 1] rfl
    have hD9 := hD.sub (ws' := [(aR, .inr (15, s4215)), (q_things, .inl (k_things, 5, .inl f_things))]) [0, 1] (by decide) rfl
    have hK9 := hK.sub (tys' := [(k_things, .int)]) [0] rfl
    exact W.iret (v := 0) hx hb hr (fun t ht hW => ⟨⟨0, s4215, rfl, (Or.inl ⟨c4200, rfl, o_s4215⟩), by rw [ht]; exact hP9, va_K.moved hW.alike hK9, hD9⟩, hS.F ht⟩) hS.2.2 dX12_holder_51
  · skip
    subst er4204
    refine lv_if_eq (tgt := 35) hx hb dX12_holder_7 (by decide) (fun c4217 => ?_) (fun c4217 => absurd c4217 (by decide))
    refine lv_iconst (v := 1) hx hb dX12_holder_35 (by decide) ?_
    refine lv_goto (tgt := 40) hx hb dX12_holder_36 (by decide) ?_
    refine va_put (D := (dC, dI)) (ci := 15) (v := .int 1) (ty := .int) (C := RX12) (T := TX12) (N := 150) hx hb hts (in_n_holder_X12) tyX12 tyX12_ok nmX12 hown hK hP hD hS 0 rfl rfl 0 (by decide) (hts (.fieldLink RX12 388 "HeapWorksModel" "thrown" "I") (by decide +kernel)) (fun _ h9 => h9) rfl (by decide +kernel) rfl rfl (by rw [o_fsR.2.1]; decide) dX12_holder_40 (fun H locs hP hD hS => ?_)
    have hP : va_P (dC, dI) vwCl [(aR, .inr (15, (fsR.set 0 (.int 1)))), (q_things, .inl (k_things, 5, .inl f_things))] H := hP
    have hD : va_D A [(aR, .inr (15, (fsR.set 0 (.int 1)))), (q_things, .inl (k_things, 5, .inl f_things))] := hD
    have o_s4218 := ow_set o_fsR 0 (.int 1) (by decide) (l' := [(0, .int 1), (48, .ref q_things)]) (w' := [0]) rfl rfl
    generalize (fsR.set 0 (.int 1)) = s4218 at hP hD o_s4218
    refine lv_aload_n hx hb dX12_holder_43 rfl (lv_at hl 0 rfl) ?_
    refine va_get (D := (dC, dI)) (ci := 15) (v := .int 1) (C := RX12) (T := TX12) (N := 150) hx hb hts (in_n_holder_X12) hown hK hP 0 rfl rfl 0 (by decide) (hts (.fieldLink RX12 388 "HeapWorksModel" "thrown" "I") (by decide +kernel)) (fun _ h9 => h9) (ow_at o_s4218 0 rfl) dX12_holder_44 ?_
    refine lv_if_le (tgt := 52) hx hb dX12_holder_47 (by decide) (fun c4219 => absurd c4219 (by decide)) (fun c4219 => ?_)
    refine lv_iconst (v := 0) hx hb dX12_holder_50 (by decide) ?_
    have hP9 := hP.sub (ws' := [(aR, .inr (15, s4218)), (q_things, .inl (k_things, 5, .inl f_things))]) [0, 1] rfl
    have hD9 := hD.sub (ws' := [(aR, .inr (15, s4218)), (q_things, .inl (k_things, 5, .inl f_things))]) [0, 1] (by decide) rfl
    have hK9 := hK.sub (tys' := [(k_things, .int)]) [0] rfl
    exact W.iret (v := 0) hx hb hr (fun t ht hW => ⟨⟨0, s4218, rfl, (Or.inr (Or.inl ⟨c4202, c4203, rfl, o_s4218⟩)), by rw [ht]; exact hP9, va_K.moved hW.alike hK9, hD9⟩, hS.F ht⟩) hS.2.2 dX12_holder_51
  · skip
    subst er4208
    refine lv_if_eq (tgt := 35) hx hb dX12_holder_7 (by decide) (fun c4220 => ?_) (fun c4220 => absurd c4220 (by decide))
    refine lv_iconst (v := 1) hx hb dX12_holder_35 (by decide) ?_
    refine lv_goto (tgt := 40) hx hb dX12_holder_36 (by decide) ?_
    refine va_put (D := (dC, dI)) (ci := 15) (v := .int 1) (ty := .int) (C := RX12) (T := TX12) (N := 150) hx hb hts (in_n_holder_X12) tyX12 tyX12_ok nmX12 hown hK hP hD hS 0 rfl rfl 0 (by decide) (hts (.fieldLink RX12 388 "HeapWorksModel" "thrown" "I") (by decide +kernel)) (fun _ h9 => h9) rfl (by decide +kernel) rfl rfl (by rw [o_fsR.2.1]; decide) dX12_holder_40 (fun H locs hP hD hS => ?_)
    have hP : va_P (dC, dI) vwCl [(aR, .inr (15, (fsR.set 0 (.int 1)))), (q_things, .inl (k_things, 5, .inl f_things))] H := hP
    have hD : va_D A [(aR, .inr (15, (fsR.set 0 (.int 1)))), (q_things, .inl (k_things, 5, .inl f_things))] := hD
    have o_s4221 := ow_set o_fsR 0 (.int 1) (by decide) (l' := [(0, .int 1), (48, .ref q_things)]) (w' := [0]) rfl rfl
    generalize (fsR.set 0 (.int 1)) = s4221 at hP hD o_s4221
    refine lv_aload_n hx hb dX12_holder_43 rfl (lv_at hl 0 rfl) ?_
    refine va_get (D := (dC, dI)) (ci := 15) (v := .int 1) (C := RX12) (T := TX12) (N := 150) hx hb hts (in_n_holder_X12) hown hK hP 0 rfl rfl 0 (by decide) (hts (.fieldLink RX12 388 "HeapWorksModel" "thrown" "I") (by decide +kernel)) (fun _ h9 => h9) (ow_at o_s4221 0 rfl) dX12_holder_44 ?_
    refine lv_if_le (tgt := 52) hx hb dX12_holder_47 (by decide) (fun c4222 => absurd c4222 (by decide)) (fun c4222 => ?_)
    refine lv_iconst (v := 0) hx hb dX12_holder_50 (by decide) ?_
    have hP9 := hP.sub (ws' := [(aR, .inr (15, s4221)), (q_things, .inl (k_things, 5, .inl f_things))]) [0, 1] rfl
    have hD9 := hD.sub (ws' := [(aR, .inr (15, s4221)), (q_things, .inl (k_things, 5, .inl f_things))]) [0, 1] (by decide) rfl
    have hK9 := hK.sub (tys' := [(k_things, .int)]) [0] rfl
    exact W.iret (v := 0) hx hb hr (fun t ht hW => ⟨⟨0, s4221, rfl, (Or.inr (Or.inr (Or.inl ⟨c4205, c4206, c4207, rfl, o_s4221⟩))), by rw [ht]; exact hP9, va_K.moved hW.alike hK9, hD9⟩, hS.F ht⟩) hS.2.2 dX12_holder_51
  · skip
    subst er4213
    refine lv_if_eq (tgt := 35) hx hb dX12_holder_7 (by decide) (fun c4223 => ?_) (fun c4223 => absurd c4223 (by decide))
    refine lv_iconst (v := 1) hx hb dX12_holder_35 (by decide) ?_
    refine lv_goto (tgt := 40) hx hb dX12_holder_36 (by decide) ?_
    refine va_put (D := (dC, dI)) (ci := 15) (v := .int 1) (ty := .int) (C := RX12) (T := TX12) (N := 150) hx hb hts (in_n_holder_X12) tyX12 tyX12_ok nmX12 hown hK hP hD hS 0 rfl rfl 0 (by decide) (hts (.fieldLink RX12 388 "HeapWorksModel" "thrown" "I") (by decide +kernel)) (fun _ h9 => h9) rfl (by decide +kernel) rfl rfl (by rw [o_fsR.2.1]; decide) dX12_holder_40 (fun H locs hP hD hS => ?_)
    have hP : va_P (dC, dI) vwCl [(aR, .inr (15, (fsR.set 0 (.int 1)))), (q_things, .inl (k_things, 5, .inl f_things))] H := hP
    have hD : va_D A [(aR, .inr (15, (fsR.set 0 (.int 1)))), (q_things, .inl (k_things, 5, .inl f_things))] := hD
    have o_s4224 := ow_set o_fsR 0 (.int 1) (by decide) (l' := [(0, .int 1), (48, .ref q_things)]) (w' := [0]) rfl rfl
    generalize (fsR.set 0 (.int 1)) = s4224 at hP hD o_s4224
    refine lv_aload_n hx hb dX12_holder_43 rfl (lv_at hl 0 rfl) ?_
    refine va_get (D := (dC, dI)) (ci := 15) (v := .int 1) (C := RX12) (T := TX12) (N := 150) hx hb hts (in_n_holder_X12) hown hK hP 0 rfl rfl 0 (by decide) (hts (.fieldLink RX12 388 "HeapWorksModel" "thrown" "I") (by decide +kernel)) (fun _ h9 => h9) (ow_at o_s4224 0 rfl) dX12_holder_44 ?_
    refine lv_if_le (tgt := 52) hx hb dX12_holder_47 (by decide) (fun c4225 => absurd c4225 (by decide)) (fun c4225 => ?_)
    refine lv_iconst (v := 0) hx hb dX12_holder_50 (by decide) ?_
    have hP9 := hP.sub (ws' := [(aR, .inr (15, s4224)), (q_things, .inl (k_things, 5, .inl f_things))]) [0, 1] rfl
    have hD9 := hD.sub (ws' := [(aR, .inr (15, s4224)), (q_things, .inl (k_things, 5, .inl f_things))]) [0, 1] (by decide) rfl
    have hK9 := hK.sub (tys' := [(k_things, .int)]) [0] rfl
    exact W.iret (v := 0) hx hb hr (fun t ht hW => ⟨⟨0, s4224, rfl, (Or.inr (Or.inr (Or.inr (⟨c4209, c4210, c4211, c4212, rfl, o_s4224⟩)))), by rw [ht]; exact hP9, va_K.moved hW.alike hK9, hD9⟩, hS.F ht⟩) hS.2.2 dX12_holder_51

def l_n_picture : List Cond := [.fieldLink RX12 388 "HeapWorksModel" "thrown" "I", .methodLink RX12 542 yX12_isPicture, .instanceMethod yX12_isPicture, .selects RX12 yX12_isPicture yX12_isPicture, .initialized RX12, .fieldLink RX12 183 "HeapWorksModel" "things" "[I", .fieldLink RX12 231 "HeapWorksModel" "groupMany" "[I", .fieldLink RX12 228 "HeapWorksModel" "ringMany" "[I", .methodLink RX12 416 yX12_isClass, .instanceMethod yX12_isClass, .selects RX12 yX12_isClass yX12_isClass, .code yX12_isPicture cX12_isPicture 2 (some .boolean), .code yX12_isClass cX12_isClass 2 (some .boolean), .fieldLink RX12 413 "HeapWorksModel" "classes" "I"]
def w_n_picture : List Cond := .code yX12_picture cX12_picture 10 (some .int) :: (l_n_picture ++ (wsX120))
theorem in_n_picture_X12 : ∀ w ∈ wsX120, w ∈ w_n_picture := fun w h => List.mem_cons_of_mem _ (List.mem_append_right _ (h))
theorem g_n_picture_z_X12_isPicture_542 : GoodIn w_n_picture (wsV RX12 542 RX12 yX12_isPicture w_z_X12_isPicture) := goodIn_app (goodIn_sub (by decide +kernel) (by decide +kernel)) (goodIn_sub (by decide +kernel) (by decide +kernel))
theorem g_n_picture_z_X12_isClass_416 : GoodIn w_n_picture (wsV RX12 416 RX12 yX12_isClass w_z_X12_isClass) := goodIn_app (goodIn_sub (by decide +kernel) (by decide +kernel)) (goodIn_ca (goodIn_sub (by decide +kernel) (by decide +kernel)) (goodIn_in in_n_picture_X12 gd_X12))
set_option maxHeartbeats 4000000 in
set_option maxRecDepth 100000 in
theorem n_picture (l : Launch) (dC : Nat → ClassId) (dI : Nat → Nat → Nat) (sz : Nat) (aR : Nat) (fsR : List Value) (q_things : Nat) (f_things : Nat → Int32) (k_things : ClassId) (q_ringMany : Nat) (f_ringMany : Nat → Int32) (k_ringMany : ClassId) (q_groupMany : Nat) (f_groupMany : Nat → Int32) (k_groupMany : ClassId) (p0 : Int32) (p1 : Int32) (k_fsR : fh fsR 150 [(20, .int 0), (48, .ref q_things), (63, .ref q_ringMany), (64, .ref q_groupMany)]) (hz_f_things : ∀ j, f_things j = 0) (hz_f_ringMany : ∀ j, f_ringMany j = 0) (hz_f_groupMany : ∀ j, f_groupMany j = 0) : Met l yX12_picture w_n_picture ({ frames := 1, cells := 0, slots := 0, locals := 21 }) (va_Pc [.ref aR, .int p0, .int p1] (fun U => U.heap.size = sz ∧ Wd dC dI [(k_things, .int), (k_ringMany, .int), (k_groupMany, .int)] (fun _ => True) [(aR, .inr (15, fsR)), (q_things, .inl (k_things, 5, .inl f_things)), (q_ringMany, .inl (k_ringMany, 5, .inl f_ringMany)), (q_groupMany, .inl (k_groupMany, 5, .inl f_groupMany))] U)) (va_Qi (fun (r : Int32) (u : List Value) => (p0 < 0 ∧ r = (-1) ∧ ow fsR (u) 150 [0] [(0, .int 0), (20, .int 0), (48, .ref q_things), (63, .ref q_ringMany), (64, .ref q_groupMany)]) ∨ (¬ p0 < 0 ∧ 4 ≤ p0 ∧ r = (-1) ∧ ow fsR (u) 150 [0] [(0, .int 0), (20, .int 0), (48, .ref q_things), (63, .ref q_ringMany), (64, .ref q_groupMany)]) ∨ (¬ p0 < 0 ∧ ¬ 4 ≤ p0 ∧ p1 < 200 ∧ p1 < 100 ∧ ¬ p1 = 0 ∧ ¬ p1 = 1 ∧ ¬ p1 = 2 ∧ ¬ p1 = 3 ∧ ¬ p1 = 4 ∧ ¬ p1 = 5 ∧ r = (-1) ∧ ow fsR (u) 150 [0] [(0, .int 0), (20, .int 0), (48, .ref q_things), (63, .ref q_ringMany), (64, .ref q_groupMany)]) ∨ (¬ p0 < 0 ∧ ¬ 4 ≤ p0 ∧ p1 < 200 ∧ p1 < 100 ∧ ¬ p1 = 0 ∧ ¬ p1 = 1 ∧ ¬ p1 = 2 ∧ ¬ p1 = 3 ∧ ¬ p1 = 4 ∧ p1 = 5 ∧ r = (-1) ∧ ow fsR (u) 150 [0] [(0, .int 0), (20, .int 0), (48, .ref q_things), (63, .ref q_ringMany), (64, .ref q_groupMany)]) ∨ (¬ p0 < 0 ∧ ¬ 4 ≤ p0 ∧ p1 < 200 ∧ p1 < 100 ∧ ¬ p1 = 0 ∧ ¬ p1 = 1 ∧ ¬ p1 = 2 ∧ ¬ p1 = 3 ∧ p1 = 4 ∧ r = 0 ∧ ow fsR (u) 150 [0] [(0, .int 0), (20, .int 0), (48, .ref q_things), (63, .ref q_ringMany), (64, .ref q_groupMany)]) ∨ (¬ p0 < 0 ∧ ¬ 4 ≤ p0 ∧ p1 < 200 ∧ p1 < 100 ∧ ¬ p1 = 0 ∧ ¬ p1 = 1 ∧ ¬ p1 = 2 ∧ p1 = 3 ∧ r = 0 ∧ ow fsR (u) 150 [0] [(0, .int 0), (20, .int 0), (48, .ref q_things), (63, .ref q_ringMany), (64, .ref q_groupMany)]) ∨ (¬ p0 < 0 ∧ ¬ 4 ≤ p0 ∧ p1 < 200 ∧ p1 < 100 ∧ ¬ p1 = 0 ∧ ¬ p1 = 1 ∧ p1 = 2 ∧ r = 0 ∧ ow fsR (u) 150 [0] [(0, .int 0), (20, .int 0), (48, .ref q_things), (63, .ref q_ringMany), (64, .ref q_groupMany)]) ∨ (¬ p0 < 0 ∧ ¬ 4 ≤ p0 ∧ p1 < 200 ∧ p1 < 100 ∧ ¬ p1 = 0 ∧ p1 = 1 ∧ r = 0 ∧ ow fsR (u) 150 [0] [(0, .int 0), (20, .int 0), (48, .ref q_things), (63, .ref q_ringMany), (64, .ref q_groupMany)]) ∨ (¬ p0 < 0 ∧ ¬ 4 ≤ p0 ∧ p1 < 200 ∧ p1 < 100 ∧ p1 = 0 ∧ r = 0 ∧ ow fsR (u) 150 [0] [(0, .int 0), (20, .int 0), (48, .ref q_things), (63, .ref q_ringMany), (64, .ref q_groupMany)]) ∨ (¬ p0 < 0 ∧ ¬ 4 ≤ p0 ∧ p1 < 200 ∧ ¬ p1 < 100 ∧ r = (-1) ∧ ow fsR (u) 150 [0] [(0, .int 0), (20, .int 0), (48, .ref q_things), (63, .ref q_ringMany), (64, .ref q_groupMany)]) ∨ (¬ p0 < 0 ∧ ¬ 4 ≤ p0 ∧ ¬ p1 < 200 ∧ r = (-1) ∧ ow fsR (u) 150 [0] [(0, .int 0), (20, .int 0), (48, .ref q_things), (63, .ref q_ringMany), (64, .ref q_groupMany)])) (fun (u : List Value) t => Wd dC dI [(k_things, .int), (k_ringMany, .int), (k_groupMany, .int)] (va_A [(aR, .inr (15, fsR)), (q_things, .inl (k_things, 5, .inl f_things)), (q_ringMany, .inl (k_ringMany, 5, .inl f_ringMany)), (q_groupMany, .inl (k_groupMany, 5, .inl f_groupMany))] sz) [(aR, .inr (15, (u))), (q_things, .inl (k_things, 5, .inl f_things)), (q_ringMany, .inl (k_ringMany, 5, .inl f_ringMany)), (q_groupMany, .inl (k_groupMany, 5, .inl f_groupMany))] t) (va_A [(aR, .inr (15, fsR)), (q_things, .inl (k_things, 5, .inl f_things)), (q_ringMany, .inl (k_ringMany, 5, .inl f_ringMany)), (q_groupMany, .inl (k_groupMany, 5, .inl f_groupMany))] sz))  0 0 (va_A [(aR, .inr (15, fsR)), (q_things, .inl (k_things, 5, .inl f_things)), (q_ringMany, .inl (k_ringMany, 5, .inl f_ringMany)), (q_groupMany, .inl (k_groupMany, 5, .inl f_groupMany))] sz) := by
  refine Met.ofW (cc := cX12_picture) (maxL := 10) (ret := (some .int)) (by decide) rfl ?_
  intro p e s m args below meth c s₁ B hml hv
  obtain ⟨rfl, hsz, hP, hK, hD0⟩ := hv
  have hx := B.exec
  have hb := B.bytes
  have hr := B.returns
  have hts := atoms_spec (ws := w_n_picture) B.pre
  have hown : s.vm.findClass RX12 = some m.cls := findClass_of_methodNamed B.named
  have hlocks := B.notSynchronized
  subst hsz
  have hD := hD0.self (sz := s.heap.size)
  generalize hAe : va_A [(aR, .inr (15, fsR)), (q_things, .inl (k_things, 5, .inl f_things)), (q_ringMany, .inl (k_ringMany, 5, .inl f_ringMany)), (q_groupMany, .inl (k_groupMany, 5, .inl f_groupMany))] s.heap.size = A at hD ⊢
  have hA : ∀ q : Nat, s.heap.size ≤ q → A q := fun q h => by rw [← hAe]; exact Or.inr h
  have hS : va_S A s.heap s.heap [] := va_S.rf
  have hl := lv_entry ([.ref aR, .int p0, .int p1]) (n := 10) (Nat.le_of_ble_eq_true rfl)
  rw [lg_entry_eq]
  generalize (lg_sl ([.ref aR, .int p0, .int p1]) ++ List.replicate (10 - (lg_sl ([.ref aR, .int p0, .int p1])).length) Slot.unset).toArray = ls at hl ⊢
  have hl : lv_has ls 10 [(0, .ref aR), (1, .int p0), (2, .int p1)] := hl
  have o_fsR := ow_0 k_fsR
  refine lv_aload_n hx hb dX12_picture_0 rfl (lv_at hl 0 rfl) ?_
  refine lv_iconst (v := 0) hx hb dX12_picture_1 (by decide) ?_
  refine va_put (D := (dC, dI)) (ci := 15) (v := .int 0) (ty := .int) (C := RX12) (T := TX12) (N := 150) hx hb hts (in_n_picture_X12) tyX12 tyX12_ok nmX12 hown hK hP hD hS 0 rfl rfl 0 (by decide) (hts (.fieldLink RX12 388 "HeapWorksModel" "thrown" "I") (by decide +kernel)) (fun _ h9 => h9) rfl (by decide +kernel) rfl rfl (by rw [o_fsR.2.1]; decide) dX12_picture_2 (fun H locs hP hD hS => ?_)
  have hP : va_P (dC, dI) vwCl [(aR, .inr (15, (fsR.set 0 (.int 0)))), (q_things, .inl (k_things, 5, .inl f_things)), (q_ringMany, .inl (k_ringMany, 5, .inl f_ringMany)), (q_groupMany, .inl (k_groupMany, 5, .inl f_groupMany))] H := hP
  have hD : va_D A [(aR, .inr (15, (fsR.set 0 (.int 0)))), (q_things, .inl (k_things, 5, .inl f_things)), (q_ringMany, .inl (k_ringMany, 5, .inl f_ringMany)), (q_groupMany, .inl (k_groupMany, 5, .inl f_groupMany))] := hD
  have o_s4274 := ow_set o_fsR 0 (.int 0) (by decide) (l' := [(0, .int 0), (20, .int 0), (48, .ref q_things), (63, .ref q_ringMany), (64, .ref q_groupMany)]) (w' := [0]) rfl rfl
  generalize (fsR.set 0 (.int 0)) = s4274 at hP hD o_s4274
  refine lv_aload_n hx hb dX12_picture_5 rfl (lv_at hl 0 rfl) ?_
  refine lv_iload_n hx hb dX12_picture_6 rfl (lv_at hl 1 rfl) ?_
  have hPc := hP.sub (ws' := []) [] rfl
  have hDc := hD.sub (ws' := []) [] (by decide) rfl
  have hKc := hK.sub (tys' := []) [] rfl
  have hFc := va_free (wc := []) hD hS hA [] rfl
  refine va_calli (va_runV (As := [.int p0]) (rest := []) ⟨hx, hb, hml, hown, hts⟩ (z_X12_isPicture l dC dI H.size aR p0  ) (cwV 1 hts g_n_picture_z_X12_isPicture_542 rfl rfl rfl (by decide +kernel) ⟨Nat.le_of_ble_eq_true rfl, Nat.le_of_ble_eq_true rfl⟩) ⟨fun a U g mk q => by obtain ⟨q0, q1, qP, qK, qD⟩ := q; exact ⟨q0, q1, qP, va_K.moved (u := U) (U := U.calling g mk a) (Vm.Alike.refl U.vm) qK, qD⟩, va_recv hK hP (ci := 15) (q0 := 0) rfl rfl, fun U hU hW => ⟨rfl, by rw [hU], by rw [hU]; exact hPc, va_K.moved hW.alike hKc, hDc.weaken (fun _ _ _ _ => trivial)⟩⟩ rfl rfl hl.1 rfl (lv_room (Nat.le_of_ble_eq_true rfl)) dX12_picture_7 ⟨Nat.le_of_ble_eq_true rfl, Nat.le_of_ble_eq_true rfl⟩) hS (fun q _ h => hFc q h) hFc (fun r4277 u t H1 locs ht hvm hw hB hz1 hk1 hS => ?_)
  obtain ⟨hP1, hK1, hD1⟩ := hB
  rw [ht] at hP1
  try dsimp only at hw
  obtain ⟨hP, hD⟩ := va_join (wr := [(aR, .inr (15, s4274)), (q_things, .inl (k_things, 5, .inl f_things)), (q_ringMany, .inl (k_ringMany, 5, .inl f_ringMany)), (q_groupMany, .inl (k_groupMany, 5, .inl f_groupMany))]) (w1 := []) hP hD [] [0, 1, 2, 3] rfl rfl (by decide) (by decide) hk1 hFc hP1 hD1
  have hK := hK.sub (tys' := [(k_things, .int), (k_ringMany, .int), (k_groupMany, .int)]) [0, 1, 2] rfl
  generalize H1 = H at hP hS ⊢
  have hP : va_P (dC, dI) vwCl [(aR, .inr (15, s4274)), (q_things, .inl (k_things, 5, .inl f_things)), (q_ringMany, .inl (k_ringMany, 5, .inl f_ringMany)), (q_groupMany, .inl (k_groupMany, 5, .inl f_groupMany))] H := hP
  have hD : va_D A [(aR, .inr (15, s4274)), (q_things, .inl (k_things, 5, .inl f_things)), (q_ringMany, .inl (k_ringMany, 5, .inl f_ringMany)), (q_groupMany, .inl (k_groupMany, 5, .inl f_groupMany))] := hD
  rcases hw with ⟨c4278, er4279⟩ | ⟨c4280, c4281, er4282⟩ | ⟨c4283, c4284, er4285⟩
  · skip
    subst er4279
    refine lv_if_ne (tgt := 15) hx hb dX12_picture_10 (by decide) (fun c4286 => absurd c4286 (by decide)) (fun c4286 => ?_)
    refine lv_iconst (v := (-1)) hx hb dX12_picture_13 (by decide) ?_
    have hP9 := hP.sub (ws' := [(aR, .inr (15, s4274)), (q_things, .inl (k_things, 5, .inl f_things)), (q_ringMany, .inl (k_ringMany, 5, .inl f_ringMany)), (q_groupMany, .inl (k_groupMany, 5, .inl f_groupMany))]) [0, 1, 2, 3] rfl
    have hD9 := hD.sub (ws' := [(aR, .inr (15, s4274)), (q_things, .inl (k_things, 5, .inl f_things)), (q_ringMany, .inl (k_ringMany, 5, .inl f_ringMany)), (q_groupMany, .inl (k_groupMany, 5, .inl f_groupMany))]) [0, 1, 2, 3] (by decide) rfl
    have hK9 := hK.sub (tys' := [(k_things, .int), (k_ringMany, .int), (k_groupMany, .int)]) [0, 1, 2] rfl
    exact W.iret (v := (-1)) hx hb hr (fun t ht hW => ⟨⟨(-1), s4274, rfl, (Or.inl ⟨c4278, rfl, o_s4274⟩), by rw [ht]; exact hP9, va_K.moved hW.alike hK9, hD9⟩, hS.F ht⟩) hS.2.2 dX12_picture_14
  · skip
    subst er4282
    refine lv_if_ne (tgt := 15) hx hb dX12_picture_10 (by decide) (fun c4287 => absurd c4287 (by decide)) (fun c4287 => ?_)
    refine lv_iconst (v := (-1)) hx hb dX12_picture_13 (by decide) ?_
    have hP9 := hP.sub (ws' := [(aR, .inr (15, s4274)), (q_things, .inl (k_things, 5, .inl f_things)), (q_ringMany, .inl (k_ringMany, 5, .inl f_ringMany)), (q_groupMany, .inl (k_groupMany, 5, .inl f_groupMany))]) [0, 1, 2, 3] rfl
    have hD9 := hD.sub (ws' := [(aR, .inr (15, s4274)), (q_things, .inl (k_things, 5, .inl f_things)), (q_ringMany, .inl (k_ringMany, 5, .inl f_ringMany)), (q_groupMany, .inl (k_groupMany, 5, .inl f_groupMany))]) [0, 1, 2, 3] (by decide) rfl
    have hK9 := hK.sub (tys' := [(k_things, .int), (k_ringMany, .int), (k_groupMany, .int)]) [0, 1, 2] rfl
    exact W.iret (v := (-1)) hx hb hr (fun t ht hW => ⟨⟨(-1), s4274, rfl, (Or.inr (Or.inl ⟨c4280, c4281, rfl, o_s4274⟩)), by rw [ht]; exact hP9, va_K.moved hW.alike hK9, hD9⟩, hS.F ht⟩) hS.2.2 dX12_picture_14
  · skip
    subst er4285
    refine lv_if_ne (tgt := 15) hx hb dX12_picture_10 (by decide) (fun c4288 => ?_) (fun c4288 => absurd c4288 (by decide))
    refine lv_iconst (v := 0) hx hb dX12_picture_15 (by decide) ?_
    refine lv_istore_n (lv' := [(3, .int 0), (0, .ref aR), (1, .int p0), (2, .int p1)]) hx hb dX12_picture_16 rfl hl (by decide) rfl (fun ls hl => ?_)
    refine lv_iconst (v := 0) hx hb dX12_picture_17 (by decide) ?_
    refine lv_istore (lv' := [(4, .int 0), (3, .int 0), (0, .ref aR), (1, .int p0), (2, .int p1)]) hx hb dX12_picture_18 hl (by decide) rfl (fun ls hl => ?_)
    refine lv_iconst (v := (-1)) hx hb dX12_picture_20 (by decide) ?_
    refine lv_istore (lv' := [(5, .int (-1)), (4, .int 0), (3, .int 0), (0, .ref aR), (1, .int p0), (2, .int p1)]) hx hb dX12_picture_21 hl (by decide) rfl (fun ls hl => ?_)
    refine lv_iconst (v := 0) hx hb dX12_picture_23 (by decide) ?_
    refine lv_istore (lv' := [(6, .int 0), (5, .int (-1)), (4, .int 0), (3, .int 0), (0, .ref aR), (1, .int p0), (2, .int p1)]) hx hb dX12_picture_24 hl (by decide) rfl (fun ls hl => ?_)
    refine lv_iconst (v := 0) hx hb dX12_picture_26 (by decide) ?_
    refine lv_istore (lv' := [(7, .int 0), (6, .int 0), (5, .int (-1)), (4, .int 0), (3, .int 0), (0, .ref aR), (1, .int p0), (2, .int p1)]) hx hb dX12_picture_27 hl (by decide) rfl (fun ls hl => ?_)
    refine lv_iconst (v := 0) hx hb dX12_picture_29 (by decide) ?_
    refine lv_istore (lv' := [(8, .int 0), (7, .int 0), (6, .int 0), (5, .int (-1)), (4, .int 0), (3, .int 0), (0, .ref aR), (1, .int p0), (2, .int p1)]) hx hb dX12_picture_30 hl (by decide) rfl (fun ls hl => ?_)
    refine lv_iload hx hb dX12_picture_32 (lv_at hl 0 rfl) ?_
    refine lv_aload_n hx hb dX12_picture_34 rfl (lv_at hl 6 rfl) ?_
    refine va_get (D := (dC, dI)) (ci := 15) (v := .ref q_things) (C := RX12) (T := TX12) (N := 150) hx hb hts (in_n_picture_X12) hown hK hP 0 rfl rfl 48 (by decide) (hts (.fieldLink RX12 183 "HeapWorksModel" "things" "[I") (by decide +kernel)) (fun _ h9 => h9) (ow_at o_s4274 2 rfl) dX12_picture_35 ?_
    refine lv_iload_n hx hb dX12_picture_38 rfl (lv_at hl 7 rfl) ?_
    refine va_iald hx hb hK hP 1 0 rfl rfl (by rw [vp_in_iff]; (try simp only [i_lt, i_le, i_eq, kc_0, kc_4] at c4283 c4284); omega) dX12_picture_39 ?_
    refine lv_topi (fun x4289 ex4289 => ?_)
    obtain rfl : x4289 = 0 := ex4289.trans (hz_f_things _)
    refine lv_icmp_ge (tgt := 224) hx hb dX12_picture_40 (by decide) (fun c4290 => ?_) (fun c4290 => absurd c4290 (by decide))
    refine lv_iload_n hx hb dX12_picture_224 rfl (lv_at hl 8 rfl) ?_
    refine lv_sipush (v := 200) hx hb dX12_picture_225 (by decide) ?_
    refine lv_icmp_lt (tgt := 250) hx hb dX12_picture_228 (by decide) (fun c4291 => ?_) (fun c4291 => ?_)
    · skip
      refine lv_iload_n hx hb dX12_picture_250 rfl (lv_at hl 8 rfl) ?_
      refine lv_bipush (v := 100) hx hb dX12_picture_251 (by decide) ?_
      refine lv_icmp_lt (tgt := 274) hx hb dX12_picture_253 (by decide) (fun c4292 => ?_) (fun c4292 => ?_)
      · skip
        refine lv_iload_n hx hb dX12_picture_274 rfl (lv_at hl 8 rfl) ?_
        refine lv_if_ne (tgt := 287) hx hb dX12_picture_275 (by decide) (fun c4293 => ?_) (fun c4293 => ?_)
        · skip
          refine lv_iload_n hx hb dX12_picture_287 rfl (lv_at hl 8 rfl) ?_
          refine lv_iconst (v := 1) hx hb dX12_picture_288 (by decide) ?_
          refine lv_icmp_ne (tgt := 301) hx hb dX12_picture_289 (by decide) (fun c4294 => ?_) (fun c4294 => ?_)
          · skip
            refine lv_iload_n hx hb dX12_picture_301 rfl (lv_at hl 8 rfl) ?_
            refine lv_iconst (v := 2) hx hb dX12_picture_302 (by decide) ?_
            refine lv_icmp_ne (tgt := 315) hx hb dX12_picture_303 (by decide) (fun c4295 => ?_) (fun c4295 => ?_)
            · skip
              refine lv_iload_n hx hb dX12_picture_315 rfl (lv_at hl 8 rfl) ?_
              refine lv_iconst (v := 3) hx hb dX12_picture_316 (by decide) ?_
              refine lv_icmp_ne (tgt := 324) hx hb dX12_picture_317 (by decide) (fun c4296 => ?_) (fun c4296 => ?_)
              · skip
                refine lv_iload_n hx hb dX12_picture_324 rfl (lv_at hl 8 rfl) ?_
                refine lv_iconst (v := 4) hx hb dX12_picture_325 (by decide) ?_
                refine lv_icmp_ne (tgt := 334) hx hb dX12_picture_326 (by decide) (fun c4297 => ?_) (fun c4297 => ?_)
                · skip
                  refine lv_iload_n hx hb dX12_picture_334 rfl (lv_at hl 8 rfl) ?_
                  refine lv_iconst (v := 5) hx hb dX12_picture_335 (by decide) ?_
                  refine lv_icmp_ne (tgt := 344) hx hb dX12_picture_336 (by decide) (fun c4298 => ?_) (fun c4298 => ?_)
                  · skip
                    refine lv_iconst (v := (-1)) hx hb dX12_picture_344 (by decide) ?_
                    have hP9 := hP.sub (ws' := [(aR, .inr (15, s4274)), (q_things, .inl (k_things, 5, .inl f_things)), (q_ringMany, .inl (k_ringMany, 5, .inl f_ringMany)), (q_groupMany, .inl (k_groupMany, 5, .inl f_groupMany))]) [0, 1, 2, 3] rfl
                    have hD9 := hD.sub (ws' := [(aR, .inr (15, s4274)), (q_things, .inl (k_things, 5, .inl f_things)), (q_ringMany, .inl (k_ringMany, 5, .inl f_ringMany)), (q_groupMany, .inl (k_groupMany, 5, .inl f_groupMany))]) [0, 1, 2, 3] (by decide) rfl
                    have hK9 := hK.sub (tys' := [(k_things, .int), (k_ringMany, .int), (k_groupMany, .int)]) [0, 1, 2] rfl
                    exact W.iret (v := (-1)) hx hb hr (fun t ht hW => ⟨⟨(-1), s4274, rfl, (Or.inr (Or.inr (Or.inl ⟨c4283, c4284, c4291, c4292, c4293, c4294, c4295, c4296, c4297, c4298, rfl, o_s4274⟩))), by rw [ht]; exact hP9, va_K.moved hW.alike hK9, hD9⟩, hS.F ht⟩) hS.2.2 dX12_picture_345
                  · skip
                    refine lv_iload hx hb dX12_picture_339 (lv_at hl 3 rfl) ?_
                    refine lv_goto (tgt := 345) hx hb dX12_picture_341 (by decide) ?_
                    have hP9 := hP.sub (ws' := [(aR, .inr (15, s4274)), (q_things, .inl (k_things, 5, .inl f_things)), (q_ringMany, .inl (k_ringMany, 5, .inl f_ringMany)), (q_groupMany, .inl (k_groupMany, 5, .inl f_groupMany))]) [0, 1, 2, 3] rfl
                    have hD9 := hD.sub (ws' := [(aR, .inr (15, s4274)), (q_things, .inl (k_things, 5, .inl f_things)), (q_ringMany, .inl (k_ringMany, 5, .inl f_ringMany)), (q_groupMany, .inl (k_groupMany, 5, .inl f_groupMany))]) [0, 1, 2, 3] (by decide) rfl
                    have hK9 := hK.sub (tys' := [(k_things, .int), (k_ringMany, .int), (k_groupMany, .int)]) [0, 1, 2] rfl
                    exact W.iret (v := (-1)) hx hb hr (fun t ht hW => ⟨⟨(-1), s4274, rfl, (Or.inr (Or.inr (Or.inr (Or.inl ⟨c4283, c4284, c4291, c4292, c4293, c4294, c4295, c4296, c4297, c4298, rfl, o_s4274⟩)))), by rw [ht]; exact hP9, va_K.moved hW.alike hK9, hD9⟩, hS.F ht⟩) hS.2.2 dX12_picture_345
                · skip
                  refine lv_iload hx hb dX12_picture_329 (lv_at hl 4 rfl) ?_
                  refine lv_goto (tgt := 345) hx hb dX12_picture_331 (by decide) ?_
                  have hP9 := hP.sub (ws' := [(aR, .inr (15, s4274)), (q_things, .inl (k_things, 5, .inl f_things)), (q_ringMany, .inl (k_ringMany, 5, .inl f_ringMany)), (q_groupMany, .inl (k_groupMany, 5, .inl f_groupMany))]) [0, 1, 2, 3] rfl
                  have hD9 := hD.sub (ws' := [(aR, .inr (15, s4274)), (q_things, .inl (k_things, 5, .inl f_things)), (q_ringMany, .inl (k_ringMany, 5, .inl f_ringMany)), (q_groupMany, .inl (k_groupMany, 5, .inl f_groupMany))]) [0, 1, 2, 3] (by decide) rfl
                  have hK9 := hK.sub (tys' := [(k_things, .int), (k_ringMany, .int), (k_groupMany, .int)]) [0, 1, 2] rfl
                  exact W.iret (v := 0) hx hb hr (fun t ht hW => ⟨⟨0, s4274, rfl, (Or.inr (Or.inr (Or.inr (Or.inr (Or.inl ⟨c4283, c4284, c4291, c4292, c4293, c4294, c4295, c4296, c4297, rfl, o_s4274⟩))))), by rw [ht]; exact hP9, va_K.moved hW.alike hK9, hD9⟩, hS.F ht⟩) hS.2.2 dX12_picture_345
              · skip
                refine lv_iload_n hx hb dX12_picture_320 rfl (lv_at hl 5 rfl) ?_
                refine lv_goto (tgt := 345) hx hb dX12_picture_321 (by decide) ?_
                have hP9 := hP.sub (ws' := [(aR, .inr (15, s4274)), (q_things, .inl (k_things, 5, .inl f_things)), (q_ringMany, .inl (k_ringMany, 5, .inl f_ringMany)), (q_groupMany, .inl (k_groupMany, 5, .inl f_groupMany))]) [0, 1, 2, 3] rfl
                have hD9 := hD.sub (ws' := [(aR, .inr (15, s4274)), (q_things, .inl (k_things, 5, .inl f_things)), (q_ringMany, .inl (k_ringMany, 5, .inl f_ringMany)), (q_groupMany, .inl (k_groupMany, 5, .inl f_groupMany))]) [0, 1, 2, 3] (by decide) rfl
                have hK9 := hK.sub (tys' := [(k_things, .int), (k_ringMany, .int), (k_groupMany, .int)]) [0, 1, 2] rfl
                exact W.iret (v := 0) hx hb hr (fun t ht hW => ⟨⟨0, s4274, rfl, (Or.inr (Or.inr (Or.inr (Or.inr (Or.inr (Or.inl ⟨c4283, c4284, c4291, c4292, c4293, c4294, c4295, c4296, rfl, o_s4274⟩)))))), by rw [ht]; exact hP9, va_K.moved hW.alike hK9, hD9⟩, hS.F ht⟩) hS.2.2 dX12_picture_345
            · skip
              refine lv_aload_n hx hb dX12_picture_306 rfl (lv_at hl 6 rfl) ?_
              refine va_get (D := (dC, dI)) (ci := 15) (v := .ref q_groupMany) (C := RX12) (T := TX12) (N := 150) hx hb hts (in_n_picture_X12) hown hK hP 0 rfl rfl 64 (by decide) (hts (.fieldLink RX12 231 "HeapWorksModel" "groupMany" "[I") (by decide +kernel)) (fun _ h9 => h9) (ow_at o_s4274 4 rfl) dX12_picture_307 ?_
              refine lv_iload_n hx hb dX12_picture_310 rfl (lv_at hl 7 rfl) ?_
              refine va_iald hx hb hK hP 3 2 rfl rfl (by rw [vp_in_iff]; (try simp only [i_lt, i_le, i_eq, kc_0, kc_4] at c4283 c4284); omega) dX12_picture_311 ?_
              refine lv_topi (fun x4299 ex4299 => ?_)
              obtain rfl : x4299 = 0 := ex4299.trans (hz_f_groupMany _)
              refine lv_goto (tgt := 345) hx hb dX12_picture_312 (by decide) ?_
              have hP9 := hP.sub (ws' := [(aR, .inr (15, s4274)), (q_things, .inl (k_things, 5, .inl f_things)), (q_ringMany, .inl (k_ringMany, 5, .inl f_ringMany)), (q_groupMany, .inl (k_groupMany, 5, .inl f_groupMany))]) [0, 1, 2, 3] rfl
              have hD9 := hD.sub (ws' := [(aR, .inr (15, s4274)), (q_things, .inl (k_things, 5, .inl f_things)), (q_ringMany, .inl (k_ringMany, 5, .inl f_ringMany)), (q_groupMany, .inl (k_groupMany, 5, .inl f_groupMany))]) [0, 1, 2, 3] (by decide) rfl
              have hK9 := hK.sub (tys' := [(k_things, .int), (k_ringMany, .int), (k_groupMany, .int)]) [0, 1, 2] rfl
              exact W.iret (v := 0) hx hb hr (fun t ht hW => ⟨⟨0, s4274, rfl, (Or.inr (Or.inr (Or.inr (Or.inr (Or.inr (Or.inr (Or.inl ⟨c4283, c4284, c4291, c4292, c4293, c4294, c4295, rfl, o_s4274⟩))))))), by rw [ht]; exact hP9, va_K.moved hW.alike hK9, hD9⟩, hS.F ht⟩) hS.2.2 dX12_picture_345
          · skip
            refine lv_aload_n hx hb dX12_picture_292 rfl (lv_at hl 6 rfl) ?_
            refine va_get (D := (dC, dI)) (ci := 15) (v := .ref q_ringMany) (C := RX12) (T := TX12) (N := 150) hx hb hts (in_n_picture_X12) hown hK hP 0 rfl rfl 63 (by decide) (hts (.fieldLink RX12 228 "HeapWorksModel" "ringMany" "[I") (by decide +kernel)) (fun _ h9 => h9) (ow_at o_s4274 3 rfl) dX12_picture_293 ?_
            refine lv_iload_n hx hb dX12_picture_296 rfl (lv_at hl 7 rfl) ?_
            refine va_iald hx hb hK hP 2 1 rfl rfl (by rw [vp_in_iff]; (try simp only [i_lt, i_le, i_eq, kc_0, kc_4] at c4283 c4284); omega) dX12_picture_297 ?_
            refine lv_topi (fun x4300 ex4300 => ?_)
            obtain rfl : x4300 = 0 := ex4300.trans (hz_f_ringMany _)
            refine lv_goto (tgt := 345) hx hb dX12_picture_298 (by decide) ?_
            have hP9 := hP.sub (ws' := [(aR, .inr (15, s4274)), (q_things, .inl (k_things, 5, .inl f_things)), (q_ringMany, .inl (k_ringMany, 5, .inl f_ringMany)), (q_groupMany, .inl (k_groupMany, 5, .inl f_groupMany))]) [0, 1, 2, 3] rfl
            have hD9 := hD.sub (ws' := [(aR, .inr (15, s4274)), (q_things, .inl (k_things, 5, .inl f_things)), (q_ringMany, .inl (k_ringMany, 5, .inl f_ringMany)), (q_groupMany, .inl (k_groupMany, 5, .inl f_groupMany))]) [0, 1, 2, 3] (by decide) rfl
            have hK9 := hK.sub (tys' := [(k_things, .int), (k_ringMany, .int), (k_groupMany, .int)]) [0, 1, 2] rfl
            exact W.iret (v := 0) hx hb hr (fun t ht hW => ⟨⟨0, s4274, rfl, (Or.inr (Or.inr (Or.inr (Or.inr (Or.inr (Or.inr (Or.inr (Or.inl ⟨c4283, c4284, c4291, c4292, c4293, c4294, rfl, o_s4274⟩)))))))), by rw [ht]; exact hP9, va_K.moved hW.alike hK9, hD9⟩, hS.F ht⟩) hS.2.2 dX12_picture_345
        · skip
          refine lv_aload_n hx hb dX12_picture_278 rfl (lv_at hl 6 rfl) ?_
          refine va_get (D := (dC, dI)) (ci := 15) (v := .ref q_things) (C := RX12) (T := TX12) (N := 150) hx hb hts (in_n_picture_X12) hown hK hP 0 rfl rfl 48 (by decide) (hts (.fieldLink RX12 183 "HeapWorksModel" "things" "[I") (by decide +kernel)) (fun _ h9 => h9) (ow_at o_s4274 2 rfl) dX12_picture_279 ?_
          refine lv_iload_n hx hb dX12_picture_282 rfl (lv_at hl 7 rfl) ?_
          refine va_iald hx hb hK hP 1 0 rfl rfl (by rw [vp_in_iff]; (try simp only [i_lt, i_le, i_eq, kc_0, kc_4] at c4283 c4284); omega) dX12_picture_283 ?_
          refine lv_topi (fun x4301 ex4301 => ?_)
          obtain rfl : x4301 = 0 := ex4301.trans (hz_f_things _)
          refine lv_goto (tgt := 345) hx hb dX12_picture_284 (by decide) ?_
          have hP9 := hP.sub (ws' := [(aR, .inr (15, s4274)), (q_things, .inl (k_things, 5, .inl f_things)), (q_ringMany, .inl (k_ringMany, 5, .inl f_ringMany)), (q_groupMany, .inl (k_groupMany, 5, .inl f_groupMany))]) [0, 1, 2, 3] rfl
          have hD9 := hD.sub (ws' := [(aR, .inr (15, s4274)), (q_things, .inl (k_things, 5, .inl f_things)), (q_ringMany, .inl (k_ringMany, 5, .inl f_ringMany)), (q_groupMany, .inl (k_groupMany, 5, .inl f_groupMany))]) [0, 1, 2, 3] (by decide) rfl
          have hK9 := hK.sub (tys' := [(k_things, .int), (k_ringMany, .int), (k_groupMany, .int)]) [0, 1, 2] rfl
          exact W.iret (v := 0) hx hb hr (fun t ht hW => ⟨⟨0, s4274, rfl, (Or.inr (Or.inr (Or.inr (Or.inr (Or.inr (Or.inr (Or.inr (Or.inr (Or.inl ⟨c4283, c4284, c4291, c4292, c4293, rfl, o_s4274⟩))))))))), by rw [ht]; exact hP9, va_K.moved hW.alike hK9, hD9⟩, hS.F ht⟩) hS.2.2 dX12_picture_345
      · skip
        refine lv_aload_n hx hb dX12_picture_256 rfl (lv_at hl 6 rfl) ?_
        refine lv_iload_n hx hb dX12_picture_257 rfl (lv_at hl 8 rfl) ?_
        refine lv_bipush (v := 100) hx hb dX12_picture_258 (by decide) ?_
        refine lv_isub hx hb dX12_picture_260  ?_
        refine lv_topi (fun x4302 ex4302 => ?_)
        have tx4302 : x4302.toInt = (p1 : Int32).toInt - (100 : Int32).toInt := by rw [ex4302]; exact i_sub (by have bd_p1 := i_bd p1; (try simp only [i_lt, i_le, i_eq, kc_200, kc_100] at c4291 c4292 ⊢); omega) (by have bd_p1 := i_bd p1; (try simp only [i_lt, i_le, i_eq, kc_200, kc_100] at c4291 c4292 ⊢); omega)
        have hPc := hP.sub (ws' := [(aR, .inr (15, s4274))]) [0] rfl
        have hDc := hD.sub (ws' := [(aR, .inr (15, s4274))]) [0] (by decide) rfl
        have hKc := hK.sub (tys' := []) [] rfl
        have hFc := va_free (wc := [(aR, .inr (15, s4274))]) hD hS hA [0] rfl
        refine va_calli (va_runV (As := [.int x4302]) (rest := []) ⟨hx, hb, hml, hown, hts⟩ (z_X12_isClass l dC dI H.size aR s4274 x4302 (fh_sub o_s4274.2 [1] rfl) ) (cwV 1 hts g_n_picture_z_X12_isClass_416 rfl rfl rfl (by decide +kernel) ⟨Nat.le_of_ble_eq_true rfl, Nat.le_of_ble_eq_true rfl⟩) ⟨fun a U g mk q => by obtain ⟨q0, q1, qP, qK, qD⟩ := q; exact ⟨q0, q1, qP, va_K.moved (u := U) (U := U.calling g mk a) (Vm.Alike.refl U.vm) qK, qD⟩, va_recv hK hP (ci := 15) (q0 := 0) rfl rfl, fun U hU hW => ⟨rfl, by rw [hU], by rw [hU]; exact hPc, va_K.moved hW.alike hKc, hDc.weaken (fun _ _ _ _ => trivial)⟩⟩ rfl rfl hl.1 rfl (lv_room (Nat.le_of_ble_eq_true rfl)) dX12_picture_261 ⟨Nat.le_of_ble_eq_true rfl, Nat.le_of_ble_eq_true rfl⟩) hS (fun q _ h => hFc q h) hFc (fun r4305 u t H1 locs ht hvm hw hB hz1 hk1 hS => ?_)
        obtain ⟨hP1, hK1, hD1⟩ := hB
        rw [ht] at hP1
        try dsimp only at hw
        obtain ⟨hP, hD⟩ := va_join (wr := [(q_things, .inl (k_things, 5, .inl f_things)), (q_ringMany, .inl (k_ringMany, 5, .inl f_ringMany)), (q_groupMany, .inl (k_groupMany, 5, .inl f_groupMany))]) (w1 := [(aR, .inr (15, s4274))]) hP hD [0] [1, 2, 3] rfl rfl (by decide) (by decide) hk1 hFc hP1 hD1
        have hK := hK.sub (tys' := [(k_things, .int), (k_ringMany, .int), (k_groupMany, .int)]) [0, 1, 2] rfl
        generalize H1 = H at hP hS ⊢
        have hP : va_P (dC, dI) vwCl [(q_things, .inl (k_things, 5, .inl f_things)), (q_ringMany, .inl (k_ringMany, 5, .inl f_ringMany)), (q_groupMany, .inl (k_groupMany, 5, .inl f_groupMany)), (aR, .inr (15, s4274))] H := hP
        have hD : va_D A [(q_things, .inl (k_things, 5, .inl f_things)), (q_ringMany, .inl (k_ringMany, 5, .inl f_ringMany)), (q_groupMany, .inl (k_groupMany, 5, .inl f_groupMany)), (aR, .inr (15, s4274))] := hD
        rcases hw with ⟨c4306, er4307⟩ | ⟨c4308, c4309, er4310⟩
        · exact (by exfalso; (try simp only [i_lt, i_le, i_eq, kc_100, kc_0, kc_200] at tx4302 c4306 c4291 c4292); omega)
        · skip
          subst er4310
          refine lv_if_eq (tgt := 272) hx hb dX12_picture_264 (by decide) (fun c4311 => ?_) (fun c4311 => absurd c4311 (by decide))
          refine lv_iconst (v := (-1)) hx hb dX12_picture_272 (by decide) ?_
          have hP9 := hP.sub (ws' := [(aR, .inr (15, s4274)), (q_things, .inl (k_things, 5, .inl f_things)), (q_ringMany, .inl (k_ringMany, 5, .inl f_ringMany)), (q_groupMany, .inl (k_groupMany, 5, .inl f_groupMany))]) [3, 0, 1, 2] rfl
          have hD9 := hD.sub (ws' := [(aR, .inr (15, s4274)), (q_things, .inl (k_things, 5, .inl f_things)), (q_ringMany, .inl (k_ringMany, 5, .inl f_ringMany)), (q_groupMany, .inl (k_groupMany, 5, .inl f_groupMany))]) [3, 0, 1, 2] (by decide) rfl
          have hK9 := hK.sub (tys' := [(k_things, .int), (k_ringMany, .int), (k_groupMany, .int)]) [0, 1, 2] rfl
          exact W.iret (v := (-1)) hx hb hr (fun t ht hW => ⟨⟨(-1), s4274, rfl, (Or.inr (Or.inr (Or.inr (Or.inr (Or.inr (Or.inr (Or.inr (Or.inr (Or.inr (Or.inl ⟨c4283, c4284, c4291, c4292, rfl, o_s4274⟩)))))))))), by rw [ht]; exact hP9, va_K.moved hW.alike hK9, hD9⟩, hS.F ht⟩) hS.2.2 dX12_picture_273
    · skip
      refine lv_aload_n hx hb dX12_picture_231 rfl (lv_at hl 6 rfl) ?_
      refine lv_iload_n hx hb dX12_picture_232 rfl (lv_at hl 8 rfl) ?_
      refine lv_sipush (v := 200) hx hb dX12_picture_233 (by decide) ?_
      refine lv_isub hx hb dX12_picture_236  ?_
      refine lv_topi (fun x4312 ex4312 => ?_)
      have tx4312 : x4312.toInt = (p1 : Int32).toInt - (200 : Int32).toInt := by rw [ex4312]; exact i_sub (by have bd_p1 := i_bd p1; (try simp only [i_lt, i_le, i_eq, kc_200] at c4291 ⊢); omega) (by have bd_p1 := i_bd p1; (try simp only [i_lt, i_le, i_eq, kc_200] at c4291 ⊢); omega)
      have hPc := hP.sub (ws' := [(aR, .inr (15, s4274))]) [0] rfl
      have hDc := hD.sub (ws' := [(aR, .inr (15, s4274))]) [0] (by decide) rfl
      have hKc := hK.sub (tys' := []) [] rfl
      have hFc := va_free (wc := [(aR, .inr (15, s4274))]) hD hS hA [0] rfl
      refine va_calli (va_runV (As := [.int x4312]) (rest := []) ⟨hx, hb, hml, hown, hts⟩ (z_X12_isClass l dC dI H.size aR s4274 x4312 (fh_sub o_s4274.2 [1] rfl) ) (cwV 1 hts g_n_picture_z_X12_isClass_416 rfl rfl rfl (by decide +kernel) ⟨Nat.le_of_ble_eq_true rfl, Nat.le_of_ble_eq_true rfl⟩) ⟨fun a U g mk q => by obtain ⟨q0, q1, qP, qK, qD⟩ := q; exact ⟨q0, q1, qP, va_K.moved (u := U) (U := U.calling g mk a) (Vm.Alike.refl U.vm) qK, qD⟩, va_recv hK hP (ci := 15) (q0 := 0) rfl rfl, fun U hU hW => ⟨rfl, by rw [hU], by rw [hU]; exact hPc, va_K.moved hW.alike hKc, hDc.weaken (fun _ _ _ _ => trivial)⟩⟩ rfl rfl hl.1 rfl (lv_room (Nat.le_of_ble_eq_true rfl)) dX12_picture_237 ⟨Nat.le_of_ble_eq_true rfl, Nat.le_of_ble_eq_true rfl⟩) hS (fun q _ h => hFc q h) hFc (fun r4315 u t H1 locs ht hvm hw hB hz1 hk1 hS => ?_)
      obtain ⟨hP1, hK1, hD1⟩ := hB
      rw [ht] at hP1
      try dsimp only at hw
      obtain ⟨hP, hD⟩ := va_join (wr := [(q_things, .inl (k_things, 5, .inl f_things)), (q_ringMany, .inl (k_ringMany, 5, .inl f_ringMany)), (q_groupMany, .inl (k_groupMany, 5, .inl f_groupMany))]) (w1 := [(aR, .inr (15, s4274))]) hP hD [0] [1, 2, 3] rfl rfl (by decide) (by decide) hk1 hFc hP1 hD1
      have hK := hK.sub (tys' := [(k_things, .int), (k_ringMany, .int), (k_groupMany, .int)]) [0, 1, 2] rfl
      generalize H1 = H at hP hS ⊢
      have hP : va_P (dC, dI) vwCl [(q_things, .inl (k_things, 5, .inl f_things)), (q_ringMany, .inl (k_ringMany, 5, .inl f_ringMany)), (q_groupMany, .inl (k_groupMany, 5, .inl f_groupMany)), (aR, .inr (15, s4274))] H := hP
      have hD : va_D A [(q_things, .inl (k_things, 5, .inl f_things)), (q_ringMany, .inl (k_ringMany, 5, .inl f_ringMany)), (q_groupMany, .inl (k_groupMany, 5, .inl f_groupMany)), (aR, .inr (15, s4274))] := hD
      rcases hw with ⟨c4316, er4317⟩ | ⟨c4318, c4319, er4320⟩
      · exact (by exfalso; (try simp only [i_lt, i_le, i_eq, kc_200, kc_0] at tx4312 c4316 c4291); omega)
      · skip
        subst er4320
        refine lv_if_eq (tgt := 248) hx hb dX12_picture_240 (by decide) (fun c4321 => ?_) (fun c4321 => absurd c4321 (by decide))
        refine lv_iconst (v := (-1)) hx hb dX12_picture_248 (by decide) ?_
        have hP9 := hP.sub (ws' := [(aR, .inr (15, s4274)), (q_things, .inl (k_things, 5, .inl f_things)), (q_ringMany, .inl (k_ringMany, 5, .inl f_ringMany)), (q_groupMany, .inl (k_groupMany, 5, .inl f_groupMany))]) [3, 0, 1, 2] rfl
        have hD9 := hD.sub (ws' := [(aR, .inr (15, s4274)), (q_things, .inl (k_things, 5, .inl f_things)), (q_ringMany, .inl (k_ringMany, 5, .inl f_ringMany)), (q_groupMany, .inl (k_groupMany, 5, .inl f_groupMany))]) [3, 0, 1, 2] (by decide) rfl
        have hK9 := hK.sub (tys' := [(k_things, .int), (k_ringMany, .int), (k_groupMany, .int)]) [0, 1, 2] rfl
        exact W.iret (v := (-1)) hx hb hr (fun t ht hW => ⟨⟨(-1), s4274, rfl, (Or.inr (Or.inr (Or.inr (Or.inr (Or.inr (Or.inr (Or.inr (Or.inr (Or.inr (Or.inr (⟨c4283, c4284, c4291, rfl, o_s4274⟩))))))))))), by rw [ht]; exact hP9, va_K.moved hW.alike hK9, hD9⟩, hS.F ht⟩) hS.2.2 dX12_picture_249

def l_n_member : List Cond := [.methodLink RX12 542 yX12_isPicture, .instanceMethod yX12_isPicture, .selects RX12 yX12_isPicture yX12_isPicture, .initialized RX12, .fieldLink RX12 388 "HeapWorksModel" "thrown" "I", .fieldLink RX12 183 "HeapWorksModel" "things" "[I", .code yX12_isPicture cX12_isPicture 2 (some .boolean)]
def w_n_member : List Cond := .code yX12_member cX12_member 8 (some .int) :: (l_n_member ++ (wsX120))
theorem in_n_member_X12 : ∀ w ∈ wsX120, w ∈ w_n_member := fun w h => List.mem_cons_of_mem _ (List.mem_append_right _ (h))
theorem g_n_member_z_X12_isPicture_542 : GoodIn w_n_member (wsV RX12 542 RX12 yX12_isPicture w_z_X12_isPicture) := goodIn_app (goodIn_sub (by decide +kernel) (by decide +kernel)) (goodIn_sub (by decide +kernel) (by decide +kernel))
set_option maxHeartbeats 4000000 in
set_option maxRecDepth 100000 in
theorem n_member (l : Launch) (dC : Nat → ClassId) (dI : Nat → Nat → Nat) (sz : Nat) (aR : Nat) (fsR : List Value) (q_things : Nat) (f_things : Nat → Int32) (k_things : ClassId) (p0 : Int32) (p1 : Int32) (p2 : Int32) (p3 : Int32) (k_fsR : fh fsR 150 [(0, .int 0), (48, .ref q_things)]) (hz_f_things : ∀ j, f_things j = 0) : Met l yX12_member w_n_member ({ frames := 1, cells := 0, slots := 0, locals := 21 }) (va_Pc [.ref aR, .int p0, .int p1, .int p2, .int p3] (fun U => U.heap.size = sz ∧ Wd dC dI [(k_things, .int)] (fun _ => True) [(aR, .inr (15, fsR)), (q_things, .inl (k_things, 5, .inl f_things))] U)) (va_Qi (fun (r : Int32) (u : List Value) => (p0 < 0 ∧ r = 0 ∧ ow fsR (u) 150 [0] [(0, .int 1), (48, .ref q_things)]) ∨ (¬ p0 < 0 ∧ 4 ≤ p0 ∧ r = 0 ∧ ow fsR (u) 150 [0] [(0, .int 1), (48, .ref q_things)]) ∨ (¬ p0 < 0 ∧ ¬ 4 ≤ p0 ∧ p2 < 0 ∧ r = 0 ∧ ow fsR (u) 150 [0] [(0, .int 1), (48, .ref q_things)]) ∨ (¬ p0 < 0 ∧ ¬ 4 ≤ p0 ∧ ¬ p2 < 0 ∧ p1 < 0 ∧ r = 0 ∧ ow fsR (u) 150 [0] [(0, .int 1), (48, .ref q_things)]) ∨ (¬ p0 < 0 ∧ ¬ 4 ≤ p0 ∧ ¬ p2 < 0 ∧ ¬ p1 < 0 ∧ 2 ≤ p1 ∧ r = 0 ∧ ow fsR (u) 150 [0] [(0, .int 1), (48, .ref q_things)]) ∨ (¬ p0 < 0 ∧ ¬ 4 ≤ p0 ∧ ¬ p2 < 0 ∧ ¬ p1 < 0 ∧ ¬ 2 ≤ p1 ∧ p3 < 0 ∧ r = 0 ∧ ow fsR (u) 150 [0] [(0, .int 1), (48, .ref q_things)]) ∨ (¬ p0 < 0 ∧ ¬ 4 ≤ p0 ∧ ¬ p2 < 0 ∧ ¬ p1 < 0 ∧ ¬ 2 ≤ p1 ∧ ¬ p3 < 0 ∧ r = 0 ∧ ow fsR (u) 150 [0] [(0, .int 1), (48, .ref q_things)])) (fun (u : List Value) t => Wd dC dI [(k_things, .int)] (va_A [(aR, .inr (15, fsR)), (q_things, .inl (k_things, 5, .inl f_things))] sz) [(aR, .inr (15, (u))), (q_things, .inl (k_things, 5, .inl f_things))] t) (va_A [(aR, .inr (15, fsR)), (q_things, .inl (k_things, 5, .inl f_things))] sz))  0 0 (va_A [(aR, .inr (15, fsR)), (q_things, .inl (k_things, 5, .inl f_things))] sz) := by
  refine Met.ofW (cc := cX12_member) (maxL := 8) (ret := (some .int)) (by decide) rfl ?_
  intro p e s m args below meth c s₁ B hml hv
  obtain ⟨rfl, hsz, hP, hK, hD0⟩ := hv
  have hx := B.exec
  have hb := B.bytes
  have hr := B.returns
  have hts := atoms_spec (ws := w_n_member) B.pre
  have hown : s.vm.findClass RX12 = some m.cls := findClass_of_methodNamed B.named
  have hlocks := B.notSynchronized
  subst hsz
  have hD := hD0.self (sz := s.heap.size)
  generalize hAe : va_A [(aR, .inr (15, fsR)), (q_things, .inl (k_things, 5, .inl f_things))] s.heap.size = A at hD ⊢
  have hA : ∀ q : Nat, s.heap.size ≤ q → A q := fun q h => by rw [← hAe]; exact Or.inr h
  have hS : va_S A s.heap s.heap [] := va_S.rf
  have hl := lv_entry ([.ref aR, .int p0, .int p1, .int p2, .int p3]) (n := 8) (Nat.le_of_ble_eq_true rfl)
  rw [lg_entry_eq]
  generalize (lg_sl ([.ref aR, .int p0, .int p1, .int p2, .int p3]) ++ List.replicate (8 - (lg_sl ([.ref aR, .int p0, .int p1, .int p2, .int p3])).length) Slot.unset).toArray = ls at hl ⊢
  have hl : lv_has ls 8 [(0, .ref aR), (1, .int p0), (2, .int p1), (3, .int p2), (4, .int p3)] := hl
  have o_fsR := ow_0 k_fsR
  refine lv_iconst (v := (-1)) hx hb dX12_member_0 (by decide) ?_
  refine lv_istore (lv' := [(5, .int (-1)), (0, .ref aR), (1, .int p0), (2, .int p1), (3, .int p2), (4, .int p3)]) hx hb dX12_member_1 hl (by decide) rfl (fun ls hl => ?_)
  refine lv_iload hx hb dX12_member_3 (lv_at hl 5 rfl) ?_
  refine lv_istore (lv' := [(6, .int p3), (5, .int (-1)), (0, .ref aR), (1, .int p0), (2, .int p1), (3, .int p2), (4, .int p3)]) hx hb dX12_member_5 hl (by decide) rfl (fun ls hl => ?_)
  refine lv_iconst (v := 0) hx hb dX12_member_7 (by decide) ?_
  refine lv_istore (lv' := [(7, .int 0), (6, .int p3), (5, .int (-1)), (0, .ref aR), (1, .int p0), (2, .int p1), (3, .int p2), (4, .int p3)]) hx hb dX12_member_8 hl (by decide) rfl (fun ls hl => ?_)
  refine lv_aload_n hx hb dX12_member_10 rfl (lv_at hl 3 rfl) ?_
  refine lv_iload_n hx hb dX12_member_11 rfl (lv_at hl 4 rfl) ?_
  have hPc := hP.sub (ws' := []) [] rfl
  have hDc := hD.sub (ws' := []) [] (by decide) rfl
  have hKc := hK.sub (tys' := []) [] rfl
  have hFc := va_free (wc := []) hD hS hA [] rfl
  refine va_calli (va_runV (As := [.int p0]) (rest := []) ⟨hx, hb, hml, hown, hts⟩ (z_X12_isPicture l dC dI s.heap.size aR p0  ) (cwV 1 hts g_n_member_z_X12_isPicture_542 rfl rfl rfl (by decide +kernel) ⟨Nat.le_of_ble_eq_true rfl, Nat.le_of_ble_eq_true rfl⟩) ⟨fun a U g mk q => by obtain ⟨q0, q1, qP, qK, qD⟩ := q; exact ⟨q0, q1, qP, va_K.moved (u := U) (U := U.calling g mk a) (Vm.Alike.refl U.vm) qK, qD⟩, va_recv hK hP (ci := 15) (q0 := 0) rfl rfl, fun U hU hW => ⟨rfl, by rw [hU], by rw [hU]; exact hPc, va_K.moved hW.alike hKc, hDc.weaken (fun _ _ _ _ => trivial)⟩⟩ rfl rfl hl.1 rfl (lv_room (Nat.le_of_ble_eq_true rfl)) dX12_member_12 ⟨Nat.le_of_ble_eq_true rfl, Nat.le_of_ble_eq_true rfl⟩) hS (fun q _ h => hFc q h) hFc (fun r4365 u t H1 locs ht hvm hw hB hz1 hk1 hS => ?_)
  obtain ⟨hP1, hK1, hD1⟩ := hB
  rw [ht] at hP1
  try dsimp only at hw
  obtain ⟨hP, hD⟩ := va_join (wr := [(aR, .inr (15, fsR)), (q_things, .inl (k_things, 5, .inl f_things))]) (w1 := []) hP hD [] [0, 1] rfl rfl (by decide) (by decide) hk1 hFc hP1 hD1
  have hK := hK.sub (tys' := [(k_things, .int)]) [0] rfl
  generalize H1 = H at hP hS ⊢
  have hP : va_P (dC, dI) vwCl [(aR, .inr (15, fsR)), (q_things, .inl (k_things, 5, .inl f_things))] H := hP
  have hD : va_D A [(aR, .inr (15, fsR)), (q_things, .inl (k_things, 5, .inl f_things))] := hD
  rcases hw with ⟨c4366, er4367⟩ | ⟨c4368, c4369, er4370⟩ | ⟨c4371, c4372, er4373⟩
  · skip
    subst er4367
    refine lv_if_eq (tgt := 109) hx hb dX12_member_15 (by decide) (fun c4374 => ?_) (fun c4374 => absurd c4374 (by decide))
    refine lv_aload_n hx hb dX12_member_109 rfl (lv_at hl 3 rfl) ?_
    refine lv_iload hx hb dX12_member_110 (lv_at hl 2 rfl) ?_
    refine lv_iconst (v := (-1)) hx hb dX12_member_112 (by decide) ?_
    refine lv_icmp_ne (tgt := 120) hx hb dX12_member_113 (by decide) (fun c4375 => absurd c4375 (by decide)) (fun c4375 => ?_)
    refine lv_iconst (v := 1) hx hb dX12_member_116 (by decide) ?_
    refine lv_goto (tgt := 121) hx hb dX12_member_117 (by decide) ?_
    refine va_put (D := (dC, dI)) (ci := 15) (v := .int 1) (ty := .int) (C := RX12) (T := TX12) (N := 150) hx hb hts (in_n_member_X12) tyX12 tyX12_ok nmX12 hown hK hP hD hS 0 rfl rfl 0 (by decide) (hts (.fieldLink RX12 388 "HeapWorksModel" "thrown" "I") (by decide +kernel)) (fun _ h9 => h9) rfl (by decide +kernel) rfl rfl (by rw [o_fsR.2.1]; decide) dX12_member_121 (fun H locs hP hD hS => ?_)
    have hP : va_P (dC, dI) vwCl [(aR, .inr (15, (fsR.set 0 (.int 1)))), (q_things, .inl (k_things, 5, .inl f_things))] H := hP
    have hD : va_D A [(aR, .inr (15, (fsR.set 0 (.int 1)))), (q_things, .inl (k_things, 5, .inl f_things))] := hD
    have o_s4376 := ow_set o_fsR 0 (.int 1) (by decide) (l' := [(0, .int 1), (48, .ref q_things)]) (w' := [0]) rfl rfl
    generalize (fsR.set 0 (.int 1)) = s4376 at hP hD o_s4376
    refine lv_aload_n hx hb dX12_member_124 rfl (lv_at hl 3 rfl) ?_
    refine va_get (D := (dC, dI)) (ci := 15) (v := .int 1) (C := RX12) (T := TX12) (N := 150) hx hb hts (in_n_member_X12) hown hK hP 0 rfl rfl 0 (by decide) (hts (.fieldLink RX12 388 "HeapWorksModel" "thrown" "I") (by decide +kernel)) (fun _ h9 => h9) (ow_at o_s4376 0 rfl) dX12_member_125 ?_
    refine lv_if_le (tgt := 135) hx hb dX12_member_128 (by decide) (fun c4377 => absurd c4377 (by decide)) (fun c4377 => ?_)
    refine lv_iconst (v := 0) hx hb dX12_member_131 (by decide) ?_
    refine lv_goto (tgt := 137) hx hb dX12_member_132 (by decide) ?_
    have hP9 := hP.sub (ws' := [(aR, .inr (15, s4376)), (q_things, .inl (k_things, 5, .inl f_things))]) [0, 1] rfl
    have hD9 := hD.sub (ws' := [(aR, .inr (15, s4376)), (q_things, .inl (k_things, 5, .inl f_things))]) [0, 1] (by decide) rfl
    have hK9 := hK.sub (tys' := [(k_things, .int)]) [0] rfl
    exact W.iret (v := 0) hx hb hr (fun t ht hW => ⟨⟨0, s4376, rfl, (Or.inl ⟨c4366, rfl, o_s4376⟩), by rw [ht]; exact hP9, va_K.moved hW.alike hK9, hD9⟩, hS.F ht⟩) hS.2.2 dX12_member_137
  · skip
    subst er4370
    refine lv_if_eq (tgt := 109) hx hb dX12_member_15 (by decide) (fun c4378 => ?_) (fun c4378 => absurd c4378 (by decide))
    refine lv_aload_n hx hb dX12_member_109 rfl (lv_at hl 3 rfl) ?_
    refine lv_iload hx hb dX12_member_110 (lv_at hl 2 rfl) ?_
    refine lv_iconst (v := (-1)) hx hb dX12_member_112 (by decide) ?_
    refine lv_icmp_ne (tgt := 120) hx hb dX12_member_113 (by decide) (fun c4379 => absurd c4379 (by decide)) (fun c4379 => ?_)
    refine lv_iconst (v := 1) hx hb dX12_member_116 (by decide) ?_
    refine lv_goto (tgt := 121) hx hb dX12_member_117 (by decide) ?_
    refine va_put (D := (dC, dI)) (ci := 15) (v := .int 1) (ty := .int) (C := RX12) (T := TX12) (N := 150) hx hb hts (in_n_member_X12) tyX12 tyX12_ok nmX12 hown hK hP hD hS 0 rfl rfl 0 (by decide) (hts (.fieldLink RX12 388 "HeapWorksModel" "thrown" "I") (by decide +kernel)) (fun _ h9 => h9) rfl (by decide +kernel) rfl rfl (by rw [o_fsR.2.1]; decide) dX12_member_121 (fun H locs hP hD hS => ?_)
    have hP : va_P (dC, dI) vwCl [(aR, .inr (15, (fsR.set 0 (.int 1)))), (q_things, .inl (k_things, 5, .inl f_things))] H := hP
    have hD : va_D A [(aR, .inr (15, (fsR.set 0 (.int 1)))), (q_things, .inl (k_things, 5, .inl f_things))] := hD
    have o_s4380 := ow_set o_fsR 0 (.int 1) (by decide) (l' := [(0, .int 1), (48, .ref q_things)]) (w' := [0]) rfl rfl
    generalize (fsR.set 0 (.int 1)) = s4380 at hP hD o_s4380
    refine lv_aload_n hx hb dX12_member_124 rfl (lv_at hl 3 rfl) ?_
    refine va_get (D := (dC, dI)) (ci := 15) (v := .int 1) (C := RX12) (T := TX12) (N := 150) hx hb hts (in_n_member_X12) hown hK hP 0 rfl rfl 0 (by decide) (hts (.fieldLink RX12 388 "HeapWorksModel" "thrown" "I") (by decide +kernel)) (fun _ h9 => h9) (ow_at o_s4380 0 rfl) dX12_member_125 ?_
    refine lv_if_le (tgt := 135) hx hb dX12_member_128 (by decide) (fun c4381 => absurd c4381 (by decide)) (fun c4381 => ?_)
    refine lv_iconst (v := 0) hx hb dX12_member_131 (by decide) ?_
    refine lv_goto (tgt := 137) hx hb dX12_member_132 (by decide) ?_
    have hP9 := hP.sub (ws' := [(aR, .inr (15, s4380)), (q_things, .inl (k_things, 5, .inl f_things))]) [0, 1] rfl
    have hD9 := hD.sub (ws' := [(aR, .inr (15, s4380)), (q_things, .inl (k_things, 5, .inl f_things))]) [0, 1] (by decide) rfl
    have hK9 := hK.sub (tys' := [(k_things, .int)]) [0] rfl
    exact W.iret (v := 0) hx hb hr (fun t ht hW => ⟨⟨0, s4380, rfl, (Or.inr (Or.inl ⟨c4368, c4369, rfl, o_s4380⟩)), by rw [ht]; exact hP9, va_K.moved hW.alike hK9, hD9⟩, hS.F ht⟩) hS.2.2 dX12_member_137
  · skip
    subst er4373
    refine lv_if_eq (tgt := 109) hx hb dX12_member_15 (by decide) (fun c4382 => absurd c4382 (by decide)) (fun c4382 => ?_)
    refine lv_iload_n hx hb dX12_member_18 rfl (lv_at hl 6 rfl) ?_
    refine lv_if_lt (tgt := 109) hx hb dX12_member_19 (by decide) (fun c4383 => ?_) (fun c4383 => ?_)
    · skip
      refine lv_aload_n hx hb dX12_member_109 rfl (lv_at hl 3 rfl) ?_
      refine lv_iload hx hb dX12_member_110 (lv_at hl 2 rfl) ?_
      refine lv_iconst (v := (-1)) hx hb dX12_member_112 (by decide) ?_
      refine lv_icmp_ne (tgt := 120) hx hb dX12_member_113 (by decide) (fun c4384 => absurd c4384 (by decide)) (fun c4384 => ?_)
      refine lv_iconst (v := 1) hx hb dX12_member_116 (by decide) ?_
      refine lv_goto (tgt := 121) hx hb dX12_member_117 (by decide) ?_
      refine va_put (D := (dC, dI)) (ci := 15) (v := .int 1) (ty := .int) (C := RX12) (T := TX12) (N := 150) hx hb hts (in_n_member_X12) tyX12 tyX12_ok nmX12 hown hK hP hD hS 0 rfl rfl 0 (by decide) (hts (.fieldLink RX12 388 "HeapWorksModel" "thrown" "I") (by decide +kernel)) (fun _ h9 => h9) rfl (by decide +kernel) rfl rfl (by rw [o_fsR.2.1]; decide) dX12_member_121 (fun H locs hP hD hS => ?_)
      have hP : va_P (dC, dI) vwCl [(aR, .inr (15, (fsR.set 0 (.int 1)))), (q_things, .inl (k_things, 5, .inl f_things))] H := hP
      have hD : va_D A [(aR, .inr (15, (fsR.set 0 (.int 1)))), (q_things, .inl (k_things, 5, .inl f_things))] := hD
      have o_s4385 := ow_set o_fsR 0 (.int 1) (by decide) (l' := [(0, .int 1), (48, .ref q_things)]) (w' := [0]) rfl rfl
      generalize (fsR.set 0 (.int 1)) = s4385 at hP hD o_s4385
      refine lv_aload_n hx hb dX12_member_124 rfl (lv_at hl 3 rfl) ?_
      refine va_get (D := (dC, dI)) (ci := 15) (v := .int 1) (C := RX12) (T := TX12) (N := 150) hx hb hts (in_n_member_X12) hown hK hP 0 rfl rfl 0 (by decide) (hts (.fieldLink RX12 388 "HeapWorksModel" "thrown" "I") (by decide +kernel)) (fun _ h9 => h9) (ow_at o_s4385 0 rfl) dX12_member_125 ?_
      refine lv_if_le (tgt := 135) hx hb dX12_member_128 (by decide) (fun c4386 => absurd c4386 (by decide)) (fun c4386 => ?_)
      refine lv_iconst (v := 0) hx hb dX12_member_131 (by decide) ?_
      refine lv_goto (tgt := 137) hx hb dX12_member_132 (by decide) ?_
      have hP9 := hP.sub (ws' := [(aR, .inr (15, s4385)), (q_things, .inl (k_things, 5, .inl f_things))]) [0, 1] rfl
      have hD9 := hD.sub (ws' := [(aR, .inr (15, s4385)), (q_things, .inl (k_things, 5, .inl f_things))]) [0, 1] (by decide) rfl
      have hK9 := hK.sub (tys' := [(k_things, .int)]) [0] rfl
      exact W.iret (v := 0) hx hb hr (fun t ht hW => ⟨⟨0, s4385, rfl, (Or.inr (Or.inr (Or.inl ⟨c4371, c4372, c4383, rfl, o_s4385⟩))), by rw [ht]; exact hP9, va_K.moved hW.alike hK9, hD9⟩, hS.F ht⟩) hS.2.2 dX12_member_137
    · skip
      refine lv_iload_n hx hb dX12_member_22 rfl (lv_at hl 5 rfl) ?_
      refine lv_if_lt (tgt := 109) hx hb dX12_member_23 (by decide) (fun c4387 => ?_) (fun c4387 => ?_)
      · skip
        refine lv_aload_n hx hb dX12_member_109 rfl (lv_at hl 3 rfl) ?_
        refine lv_iload hx hb dX12_member_110 (lv_at hl 2 rfl) ?_
        refine lv_iconst (v := (-1)) hx hb dX12_member_112 (by decide) ?_
        refine lv_icmp_ne (tgt := 120) hx hb dX12_member_113 (by decide) (fun c4388 => absurd c4388 (by decide)) (fun c4388 => ?_)
        refine lv_iconst (v := 1) hx hb dX12_member_116 (by decide) ?_
        refine lv_goto (tgt := 121) hx hb dX12_member_117 (by decide) ?_
        refine va_put (D := (dC, dI)) (ci := 15) (v := .int 1) (ty := .int) (C := RX12) (T := TX12) (N := 150) hx hb hts (in_n_member_X12) tyX12 tyX12_ok nmX12 hown hK hP hD hS 0 rfl rfl 0 (by decide) (hts (.fieldLink RX12 388 "HeapWorksModel" "thrown" "I") (by decide +kernel)) (fun _ h9 => h9) rfl (by decide +kernel) rfl rfl (by rw [o_fsR.2.1]; decide) dX12_member_121 (fun H locs hP hD hS => ?_)
        have hP : va_P (dC, dI) vwCl [(aR, .inr (15, (fsR.set 0 (.int 1)))), (q_things, .inl (k_things, 5, .inl f_things))] H := hP
        have hD : va_D A [(aR, .inr (15, (fsR.set 0 (.int 1)))), (q_things, .inl (k_things, 5, .inl f_things))] := hD
        have o_s4389 := ow_set o_fsR 0 (.int 1) (by decide) (l' := [(0, .int 1), (48, .ref q_things)]) (w' := [0]) rfl rfl
        generalize (fsR.set 0 (.int 1)) = s4389 at hP hD o_s4389
        refine lv_aload_n hx hb dX12_member_124 rfl (lv_at hl 3 rfl) ?_
        refine va_get (D := (dC, dI)) (ci := 15) (v := .int 1) (C := RX12) (T := TX12) (N := 150) hx hb hts (in_n_member_X12) hown hK hP 0 rfl rfl 0 (by decide) (hts (.fieldLink RX12 388 "HeapWorksModel" "thrown" "I") (by decide +kernel)) (fun _ h9 => h9) (ow_at o_s4389 0 rfl) dX12_member_125 ?_
        refine lv_if_le (tgt := 135) hx hb dX12_member_128 (by decide) (fun c4390 => absurd c4390 (by decide)) (fun c4390 => ?_)
        refine lv_iconst (v := 0) hx hb dX12_member_131 (by decide) ?_
        refine lv_goto (tgt := 137) hx hb dX12_member_132 (by decide) ?_
        have hP9 := hP.sub (ws' := [(aR, .inr (15, s4389)), (q_things, .inl (k_things, 5, .inl f_things))]) [0, 1] rfl
        have hD9 := hD.sub (ws' := [(aR, .inr (15, s4389)), (q_things, .inl (k_things, 5, .inl f_things))]) [0, 1] (by decide) rfl
        have hK9 := hK.sub (tys' := [(k_things, .int)]) [0] rfl
        exact W.iret (v := 0) hx hb hr (fun t ht hW => ⟨⟨0, s4389, rfl, (Or.inr (Or.inr (Or.inr (Or.inl ⟨c4371, c4372, c4383, c4387, rfl, o_s4389⟩)))), by rw [ht]; exact hP9, va_K.moved hW.alike hK9, hD9⟩, hS.F ht⟩) hS.2.2 dX12_member_137
      · skip
        refine lv_iload_n hx hb dX12_member_26 rfl (lv_at hl 5 rfl) ?_
        refine lv_iconst (v := 2) hx hb dX12_member_27 (by decide) ?_
        refine lv_icmp_ge (tgt := 109) hx hb dX12_member_28 (by decide) (fun c4391 => ?_) (fun c4391 => ?_)
        · skip
          refine lv_aload_n hx hb dX12_member_109 rfl (lv_at hl 3 rfl) ?_
          refine lv_iload hx hb dX12_member_110 (lv_at hl 2 rfl) ?_
          refine lv_iconst (v := (-1)) hx hb dX12_member_112 (by decide) ?_
          refine lv_icmp_ne (tgt := 120) hx hb dX12_member_113 (by decide) (fun c4392 => absurd c4392 (by decide)) (fun c4392 => ?_)
          refine lv_iconst (v := 1) hx hb dX12_member_116 (by decide) ?_
          refine lv_goto (tgt := 121) hx hb dX12_member_117 (by decide) ?_
          refine va_put (D := (dC, dI)) (ci := 15) (v := .int 1) (ty := .int) (C := RX12) (T := TX12) (N := 150) hx hb hts (in_n_member_X12) tyX12 tyX12_ok nmX12 hown hK hP hD hS 0 rfl rfl 0 (by decide) (hts (.fieldLink RX12 388 "HeapWorksModel" "thrown" "I") (by decide +kernel)) (fun _ h9 => h9) rfl (by decide +kernel) rfl rfl (by rw [o_fsR.2.1]; decide) dX12_member_121 (fun H locs hP hD hS => ?_)
          have hP : va_P (dC, dI) vwCl [(aR, .inr (15, (fsR.set 0 (.int 1)))), (q_things, .inl (k_things, 5, .inl f_things))] H := hP
          have hD : va_D A [(aR, .inr (15, (fsR.set 0 (.int 1)))), (q_things, .inl (k_things, 5, .inl f_things))] := hD
          have o_s4393 := ow_set o_fsR 0 (.int 1) (by decide) (l' := [(0, .int 1), (48, .ref q_things)]) (w' := [0]) rfl rfl
          generalize (fsR.set 0 (.int 1)) = s4393 at hP hD o_s4393
          refine lv_aload_n hx hb dX12_member_124 rfl (lv_at hl 3 rfl) ?_
          refine va_get (D := (dC, dI)) (ci := 15) (v := .int 1) (C := RX12) (T := TX12) (N := 150) hx hb hts (in_n_member_X12) hown hK hP 0 rfl rfl 0 (by decide) (hts (.fieldLink RX12 388 "HeapWorksModel" "thrown" "I") (by decide +kernel)) (fun _ h9 => h9) (ow_at o_s4393 0 rfl) dX12_member_125 ?_
          refine lv_if_le (tgt := 135) hx hb dX12_member_128 (by decide) (fun c4394 => absurd c4394 (by decide)) (fun c4394 => ?_)
          refine lv_iconst (v := 0) hx hb dX12_member_131 (by decide) ?_
          refine lv_goto (tgt := 137) hx hb dX12_member_132 (by decide) ?_
          have hP9 := hP.sub (ws' := [(aR, .inr (15, s4393)), (q_things, .inl (k_things, 5, .inl f_things))]) [0, 1] rfl
          have hD9 := hD.sub (ws' := [(aR, .inr (15, s4393)), (q_things, .inl (k_things, 5, .inl f_things))]) [0, 1] (by decide) rfl
          have hK9 := hK.sub (tys' := [(k_things, .int)]) [0] rfl
          exact W.iret (v := 0) hx hb hr (fun t ht hW => ⟨⟨0, s4393, rfl, (Or.inr (Or.inr (Or.inr (Or.inr (Or.inl ⟨c4371, c4372, c4383, c4387, c4391, rfl, o_s4393⟩))))), by rw [ht]; exact hP9, va_K.moved hW.alike hK9, hD9⟩, hS.F ht⟩) hS.2.2 dX12_member_137
        · skip
          refine lv_iload hx hb dX12_member_31 (lv_at hl 7 rfl) ?_
          refine lv_if_lt (tgt := 109) hx hb dX12_member_33 (by decide) (fun c4395 => ?_) (fun c4395 => ?_)
          · skip
            refine lv_aload_n hx hb dX12_member_109 rfl (lv_at hl 3 rfl) ?_
            refine lv_iload hx hb dX12_member_110 (lv_at hl 2 rfl) ?_
            refine lv_iconst (v := (-1)) hx hb dX12_member_112 (by decide) ?_
            refine lv_icmp_ne (tgt := 120) hx hb dX12_member_113 (by decide) (fun c4396 => absurd c4396 (by decide)) (fun c4396 => ?_)
            refine lv_iconst (v := 1) hx hb dX12_member_116 (by decide) ?_
            refine lv_goto (tgt := 121) hx hb dX12_member_117 (by decide) ?_
            refine va_put (D := (dC, dI)) (ci := 15) (v := .int 1) (ty := .int) (C := RX12) (T := TX12) (N := 150) hx hb hts (in_n_member_X12) tyX12 tyX12_ok nmX12 hown hK hP hD hS 0 rfl rfl 0 (by decide) (hts (.fieldLink RX12 388 "HeapWorksModel" "thrown" "I") (by decide +kernel)) (fun _ h9 => h9) rfl (by decide +kernel) rfl rfl (by rw [o_fsR.2.1]; decide) dX12_member_121 (fun H locs hP hD hS => ?_)
            have hP : va_P (dC, dI) vwCl [(aR, .inr (15, (fsR.set 0 (.int 1)))), (q_things, .inl (k_things, 5, .inl f_things))] H := hP
            have hD : va_D A [(aR, .inr (15, (fsR.set 0 (.int 1)))), (q_things, .inl (k_things, 5, .inl f_things))] := hD
            have o_s4397 := ow_set o_fsR 0 (.int 1) (by decide) (l' := [(0, .int 1), (48, .ref q_things)]) (w' := [0]) rfl rfl
            generalize (fsR.set 0 (.int 1)) = s4397 at hP hD o_s4397
            refine lv_aload_n hx hb dX12_member_124 rfl (lv_at hl 3 rfl) ?_
            refine va_get (D := (dC, dI)) (ci := 15) (v := .int 1) (C := RX12) (T := TX12) (N := 150) hx hb hts (in_n_member_X12) hown hK hP 0 rfl rfl 0 (by decide) (hts (.fieldLink RX12 388 "HeapWorksModel" "thrown" "I") (by decide +kernel)) (fun _ h9 => h9) (ow_at o_s4397 0 rfl) dX12_member_125 ?_
            refine lv_if_le (tgt := 135) hx hb dX12_member_128 (by decide) (fun c4398 => absurd c4398 (by decide)) (fun c4398 => ?_)
            refine lv_iconst (v := 0) hx hb dX12_member_131 (by decide) ?_
            refine lv_goto (tgt := 137) hx hb dX12_member_132 (by decide) ?_
            have hP9 := hP.sub (ws' := [(aR, .inr (15, s4397)), (q_things, .inl (k_things, 5, .inl f_things))]) [0, 1] rfl
            have hD9 := hD.sub (ws' := [(aR, .inr (15, s4397)), (q_things, .inl (k_things, 5, .inl f_things))]) [0, 1] (by decide) rfl
            have hK9 := hK.sub (tys' := [(k_things, .int)]) [0] rfl
            exact W.iret (v := 0) hx hb hr (fun t ht hW => ⟨⟨0, s4397, rfl, (Or.inr (Or.inr (Or.inr (Or.inr (Or.inr (Or.inl ⟨c4371, c4372, c4383, c4387, c4391, c4395, rfl, o_s4397⟩)))))), by rw [ht]; exact hP9, va_K.moved hW.alike hK9, hD9⟩, hS.F ht⟩) hS.2.2 dX12_member_137
          · skip
            refine lv_iload hx hb dX12_member_36 (lv_at hl 0 rfl) ?_
            refine lv_aload_n hx hb dX12_member_38 rfl (lv_at hl 3 rfl) ?_
            refine va_get (D := (dC, dI)) (ci := 15) (v := .ref q_things) (C := RX12) (T := TX12) (N := 150) hx hb hts (in_n_member_X12) hown hK hP 0 rfl rfl 48 (by decide) (hts (.fieldLink RX12 183 "HeapWorksModel" "things" "[I") (by decide +kernel)) (fun _ h9 => h9) (ow_at o_fsR 1 rfl) dX12_member_39 ?_
            refine lv_iload_n hx hb dX12_member_42 rfl (lv_at hl 4 rfl) ?_
            refine va_iald hx hb hK hP 1 0 rfl rfl (by rw [vp_in_iff]; (try simp only [i_lt, i_le, i_eq, kc_0, kc_4] at c4371 c4372); omega) dX12_member_43 ?_
            refine lv_topi (fun x4399 ex4399 => ?_)
            obtain rfl : x4399 = 0 := ex4399.trans (hz_f_things _)
            refine lv_icmp_ge (tgt := 109) hx hb dX12_member_44 (by decide) (fun c4400 => ?_) (fun c4400 => absurd c4400 (by decide))
            refine lv_aload_n hx hb dX12_member_109 rfl (lv_at hl 3 rfl) ?_
            refine lv_iload hx hb dX12_member_110 (lv_at hl 2 rfl) ?_
            refine lv_iconst (v := (-1)) hx hb dX12_member_112 (by decide) ?_
            refine lv_icmp_ne (tgt := 120) hx hb dX12_member_113 (by decide) (fun c4401 => absurd c4401 (by decide)) (fun c4401 => ?_)
            refine lv_iconst (v := 1) hx hb dX12_member_116 (by decide) ?_
            refine lv_goto (tgt := 121) hx hb dX12_member_117 (by decide) ?_
            refine va_put (D := (dC, dI)) (ci := 15) (v := .int 1) (ty := .int) (C := RX12) (T := TX12) (N := 150) hx hb hts (in_n_member_X12) tyX12 tyX12_ok nmX12 hown hK hP hD hS 0 rfl rfl 0 (by decide) (hts (.fieldLink RX12 388 "HeapWorksModel" "thrown" "I") (by decide +kernel)) (fun _ h9 => h9) rfl (by decide +kernel) rfl rfl (by rw [o_fsR.2.1]; decide) dX12_member_121 (fun H locs hP hD hS => ?_)
            have hP : va_P (dC, dI) vwCl [(aR, .inr (15, (fsR.set 0 (.int 1)))), (q_things, .inl (k_things, 5, .inl f_things))] H := hP
            have hD : va_D A [(aR, .inr (15, (fsR.set 0 (.int 1)))), (q_things, .inl (k_things, 5, .inl f_things))] := hD
            have o_s4402 := ow_set o_fsR 0 (.int 1) (by decide) (l' := [(0, .int 1), (48, .ref q_things)]) (w' := [0]) rfl rfl
            generalize (fsR.set 0 (.int 1)) = s4402 at hP hD o_s4402
            refine lv_aload_n hx hb dX12_member_124 rfl (lv_at hl 3 rfl) ?_
            refine va_get (D := (dC, dI)) (ci := 15) (v := .int 1) (C := RX12) (T := TX12) (N := 150) hx hb hts (in_n_member_X12) hown hK hP 0 rfl rfl 0 (by decide) (hts (.fieldLink RX12 388 "HeapWorksModel" "thrown" "I") (by decide +kernel)) (fun _ h9 => h9) (ow_at o_s4402 0 rfl) dX12_member_125 ?_
            refine lv_if_le (tgt := 135) hx hb dX12_member_128 (by decide) (fun c4403 => absurd c4403 (by decide)) (fun c4403 => ?_)
            refine lv_iconst (v := 0) hx hb dX12_member_131 (by decide) ?_
            refine lv_goto (tgt := 137) hx hb dX12_member_132 (by decide) ?_
            have hP9 := hP.sub (ws' := [(aR, .inr (15, s4402)), (q_things, .inl (k_things, 5, .inl f_things))]) [0, 1] rfl
            have hD9 := hD.sub (ws' := [(aR, .inr (15, s4402)), (q_things, .inl (k_things, 5, .inl f_things))]) [0, 1] (by decide) rfl
            have hK9 := hK.sub (tys' := [(k_things, .int)]) [0] rfl
            exact W.iret (v := 0) hx hb hr (fun t ht hW => ⟨⟨0, s4402, rfl, (Or.inr (Or.inr (Or.inr (Or.inr (Or.inr (Or.inr (⟨c4371, c4372, c4383, c4387, c4391, c4395, rfl, o_s4402⟩))))))), by rw [ht]; exact hP9, va_K.moved hW.alike hK9, hD9⟩, hS.F ht⟩) hS.2.2 dX12_member_137

def l_n_choose : List Cond := [.fieldLink RX12 388 "HeapWorksModel" "thrown" "I", .methodLink RX12 600 yX12_isThing, .instanceMethod yX12_isThing, .selects RX12 yX12_isThing yX12_isThing, .initialized RX12, .code yX12_isThing cX12_isThing 3 (some .boolean), .methodLink RX12 542 yX12_isPicture, .instanceMethod yX12_isPicture, .selects RX12 yX12_isPicture yX12_isPicture, .fieldLink RX12 183 "HeapWorksModel" "things" "[I", .code yX12_isPicture cX12_isPicture 2 (some .boolean)]
def w_n_choose : List Cond := .code yX12_choose cX12_choose 4 (some .boolean) :: (l_n_choose ++ (wsX120))
theorem in_n_choose_X12 : ∀ w ∈ wsX120, w ∈ w_n_choose := fun w h => List.mem_cons_of_mem _ (List.mem_append_right _ (h))
theorem g_n_choose_z_X12_isThing_600 : GoodIn w_n_choose (wsV RX12 600 RX12 yX12_isThing w_z_X12_isThing) := goodIn_app (goodIn_sub (by decide +kernel) (by decide +kernel)) (goodIn_ca (goodIn_sub (by decide +kernel) (by decide +kernel)) (goodIn_in in_n_choose_X12 gd_X12))
set_option maxHeartbeats 4000000 in
set_option maxRecDepth 100000 in
theorem n_choose (l : Launch) (dC : Nat → ClassId) (dI : Nat → Nat → Nat) (sz : Nat) (aR : Nat) (fsR : List Value) (q_things : Nat) (f_things : Nat → Int32) (k_things : ClassId) (p0 : Int32) (p1 : Int32) (p2 : Int32) (k_fsR : fh fsR 150 [(48, .ref q_things)]) (hz_f_things : ∀ j, f_things j = 0) : Met l yX12_choose w_n_choose ({ frames := 2, cells := 0, slots := 0, locals := 43 }) (va_Pc [.ref aR, .int p0, .int p1, .int p2] (fun U => U.heap.size = sz ∧ Wd dC dI [(k_things, .int)] (fun _ => True) [(aR, .inr (15, fsR)), (q_things, .inl (k_things, 5, .inl f_things))] U)) (va_Qi (fun (r : Int32) (u : List Value) => (p0 < 0 ∧ r = 0 ∧ ow fsR (u) 150 [0] [(0, .int 0), (48, .ref q_things)]) ∨ (¬ p0 < 0 ∧ 4 ≤ p0 ∧ r = 0 ∧ ow fsR (u) 150 [0] [(0, .int 0), (48, .ref q_things)]) ∨ (¬ p0 < 0 ∧ ¬ 4 ≤ p0 ∧ p1 < 0 ∧ r = 0 ∧ ow fsR (u) 150 [0] [(0, .int 0), (48, .ref q_things)]) ∨ (¬ p0 < 0 ∧ ¬ 4 ≤ p0 ∧ ¬ p1 < 0 ∧ 0 ≤ p1 ∧ r = 0 ∧ ow fsR (u) 150 [0] [(0, .int 0), (48, .ref q_things)])) (fun (u : List Value) t => Wd dC dI [(k_things, .int)] (va_A [(aR, .inr (15, fsR)), (q_things, .inl (k_things, 5, .inl f_things))] sz) [(aR, .inr (15, (u))), (q_things, .inl (k_things, 5, .inl f_things))] t) (va_A [(aR, .inr (15, fsR)), (q_things, .inl (k_things, 5, .inl f_things))] sz))  0 0 (va_A [(aR, .inr (15, fsR)), (q_things, .inl (k_things, 5, .inl f_things))] sz) := by
  refine Met.ofW (cc := cX12_choose) (maxL := 4) (ret := (some .boolean)) (by decide) rfl ?_
  intro p e s m args below meth c s₁ B hml hv
  obtain ⟨rfl, hsz, hP, hK, hD0⟩ := hv
  have hx := B.exec
  have hb := B.bytes
  have hr := B.returns
  have hts := atoms_spec (ws := w_n_choose) B.pre
  have hown : s.vm.findClass RX12 = some m.cls := findClass_of_methodNamed B.named
  have hlocks := B.notSynchronized
  subst hsz
  have hD := hD0.self (sz := s.heap.size)
  generalize hAe : va_A [(aR, .inr (15, fsR)), (q_things, .inl (k_things, 5, .inl f_things))] s.heap.size = A at hD ⊢
  have hA : ∀ q : Nat, s.heap.size ≤ q → A q := fun q h => by rw [← hAe]; exact Or.inr h
  have hS : va_S A s.heap s.heap [] := va_S.rf
  have hl := lv_entry ([.ref aR, .int p0, .int p1, .int p2]) (n := 4) (Nat.le_of_ble_eq_true rfl)
  rw [lg_entry_eq]
  generalize (lg_sl ([.ref aR, .int p0, .int p1, .int p2]) ++ List.replicate (4 - (lg_sl ([.ref aR, .int p0, .int p1, .int p2])).length) Slot.unset).toArray = ls at hl ⊢
  have hl : lv_has ls 4 [(0, .ref aR), (1, .int p0), (2, .int p1), (3, .int p2)] := hl
  have o_fsR := ow_0 k_fsR
  refine lv_aload_n hx hb dX12_choose_0 rfl (lv_at hl 0 rfl) ?_
  refine lv_iconst (v := 0) hx hb dX12_choose_1 (by decide) ?_
  refine va_put (D := (dC, dI)) (ci := 15) (v := .int 0) (ty := .int) (C := RX12) (T := TX12) (N := 150) hx hb hts (in_n_choose_X12) tyX12 tyX12_ok nmX12 hown hK hP hD hS 0 rfl rfl 0 (by decide) (hts (.fieldLink RX12 388 "HeapWorksModel" "thrown" "I") (by decide +kernel)) (fun _ h9 => h9) rfl (by decide +kernel) rfl rfl (by rw [o_fsR.2.1]; decide) dX12_choose_2 (fun H locs hP hD hS => ?_)
  have hP : va_P (dC, dI) vwCl [(aR, .inr (15, (fsR.set 0 (.int 0)))), (q_things, .inl (k_things, 5, .inl f_things))] H := hP
  have hD : va_D A [(aR, .inr (15, (fsR.set 0 (.int 0)))), (q_things, .inl (k_things, 5, .inl f_things))] := hD
  have o_s4441 := ow_set o_fsR 0 (.int 0) (by decide) (l' := [(0, .int 0), (48, .ref q_things)]) (w' := [0]) rfl rfl
  generalize (fsR.set 0 (.int 0)) = s4441 at hP hD o_s4441
  refine lv_aload_n hx hb dX12_choose_5 rfl (lv_at hl 0 rfl) ?_
  refine lv_iload_n hx hb dX12_choose_6 rfl (lv_at hl 1 rfl) ?_
  refine lv_iload_n hx hb dX12_choose_7 rfl (lv_at hl 2 rfl) ?_
  have hPc := hP.sub (ws' := [(aR, .inr (15, s4441)), (q_things, .inl (k_things, 5, .inl f_things))]) [0, 1] rfl
  have hDc := hD.sub (ws' := [(aR, .inr (15, s4441)), (q_things, .inl (k_things, 5, .inl f_things))]) [0, 1] (by decide) rfl
  have hKc := hK.sub (tys' := [(k_things, .int)]) [0] rfl
  have hFc := va_free (wc := [(aR, .inr (15, s4441)), (q_things, .inl (k_things, 5, .inl f_things))]) hD hS hA [0, 1] rfl
  refine va_calli (va_runV (As := [.int p0, .int p1]) (rest := []) ⟨hx, hb, hml, hown, hts⟩ (z_X12_isThing l dC dI H.size aR s4441 q_things f_things k_things p0 p1 (fh_sub o_s4441.2 [1] rfl) hz_f_things) (cwV 2 hts g_n_choose_z_X12_isThing_600 rfl rfl rfl (by decide +kernel) ⟨Nat.le_of_ble_eq_true rfl, Nat.le_of_ble_eq_true rfl⟩) ⟨fun a U g mk q => by obtain ⟨q0, q1, qP, qK, qD⟩ := q; exact ⟨q0, q1, qP, va_K.moved (u := U) (U := U.calling g mk a) (Vm.Alike.refl U.vm) qK, qD⟩, va_recv hK hP (ci := 15) (q0 := 0) rfl rfl, fun U hU hW => ⟨rfl, by rw [hU], by rw [hU]; exact hPc, va_K.moved hW.alike hKc, hDc.weaken (fun _ _ _ _ => trivial)⟩⟩ rfl rfl hl.1 rfl (lv_room (Nat.le_of_ble_eq_true rfl)) dX12_choose_8 ⟨Nat.le_of_ble_eq_true rfl, Nat.le_of_ble_eq_true rfl⟩) hS (fun q _ h => hFc q h) hFc (fun r4459 u t H1 locs ht hvm hw hB hz1 hk1 hS => ?_)
  obtain ⟨hP1, hK1, hD1⟩ := hB
  rw [ht] at hP1
  try dsimp only at hw
  obtain ⟨hP, hD⟩ := va_join (wr := []) (w1 := [(aR, .inr (15, s4441)), (q_things, .inl (k_things, 5, .inl f_things))]) hP hD [0, 1] [] rfl rfl (by decide) (by decide) hk1 hFc hP1 hD1
  have hK := hK.sub (tys' := [(k_things, .int)]) [0] rfl
  generalize H1 = H at hP hS ⊢
  have hP : va_P (dC, dI) vwCl [(aR, .inr (15, s4441)), (q_things, .inl (k_things, 5, .inl f_things))] H := hP
  have hD : va_D A [(aR, .inr (15, s4441)), (q_things, .inl (k_things, 5, .inl f_things))] := hD
  rcases hw with ⟨c4460, er4461⟩ | ⟨c4462, c4463, er4464⟩ | ⟨c4465, c4466, c4467, er4468⟩ | ⟨c4469, c4470, c4471, c4472, er4473⟩
  · skip
    subst er4461
    refine lv_if_ne (tgt := 16) hx hb dX12_choose_11 (by decide) (fun c4474 => absurd c4474 (by decide)) (fun c4474 => ?_)
    refine lv_iconst (v := 0) hx hb dX12_choose_14 (by decide) ?_
    have hP9 := hP.sub (ws' := [(aR, .inr (15, s4441)), (q_things, .inl (k_things, 5, .inl f_things))]) [0, 1] rfl
    have hD9 := hD.sub (ws' := [(aR, .inr (15, s4441)), (q_things, .inl (k_things, 5, .inl f_things))]) [0, 1] (by decide) rfl
    have hK9 := hK.sub (tys' := [(k_things, .int)]) [0] rfl
    exact W.zret (v := 0) hx hb hr rfl (fun t ht hW => ⟨⟨0, s4441, rfl, (Or.inl ⟨c4460, rfl, o_s4441⟩), by rw [ht]; exact hP9, va_K.moved hW.alike hK9, hD9⟩, hS.F ht⟩) hS.2.2 dX12_choose_15
  · skip
    subst er4464
    refine lv_if_ne (tgt := 16) hx hb dX12_choose_11 (by decide) (fun c4475 => absurd c4475 (by decide)) (fun c4475 => ?_)
    refine lv_iconst (v := 0) hx hb dX12_choose_14 (by decide) ?_
    have hP9 := hP.sub (ws' := [(aR, .inr (15, s4441)), (q_things, .inl (k_things, 5, .inl f_things))]) [0, 1] rfl
    have hD9 := hD.sub (ws' := [(aR, .inr (15, s4441)), (q_things, .inl (k_things, 5, .inl f_things))]) [0, 1] (by decide) rfl
    have hK9 := hK.sub (tys' := [(k_things, .int)]) [0] rfl
    exact W.zret (v := 0) hx hb hr rfl (fun t ht hW => ⟨⟨0, s4441, rfl, (Or.inr (Or.inl ⟨c4462, c4463, rfl, o_s4441⟩)), by rw [ht]; exact hP9, va_K.moved hW.alike hK9, hD9⟩, hS.F ht⟩) hS.2.2 dX12_choose_15
  · skip
    subst er4468
    refine lv_if_ne (tgt := 16) hx hb dX12_choose_11 (by decide) (fun c4476 => absurd c4476 (by decide)) (fun c4476 => ?_)
    refine lv_iconst (v := 0) hx hb dX12_choose_14 (by decide) ?_
    have hP9 := hP.sub (ws' := [(aR, .inr (15, s4441)), (q_things, .inl (k_things, 5, .inl f_things))]) [0, 1] rfl
    have hD9 := hD.sub (ws' := [(aR, .inr (15, s4441)), (q_things, .inl (k_things, 5, .inl f_things))]) [0, 1] (by decide) rfl
    have hK9 := hK.sub (tys' := [(k_things, .int)]) [0] rfl
    exact W.zret (v := 0) hx hb hr rfl (fun t ht hW => ⟨⟨0, s4441, rfl, (Or.inr (Or.inr (Or.inl ⟨c4465, c4466, c4467, rfl, o_s4441⟩))), by rw [ht]; exact hP9, va_K.moved hW.alike hK9, hD9⟩, hS.F ht⟩) hS.2.2 dX12_choose_15
  · skip
    subst er4473
    refine lv_if_ne (tgt := 16) hx hb dX12_choose_11 (by decide) (fun c4477 => absurd c4477 (by decide)) (fun c4477 => ?_)
    refine lv_iconst (v := 0) hx hb dX12_choose_14 (by decide) ?_
    have hP9 := hP.sub (ws' := [(aR, .inr (15, s4441)), (q_things, .inl (k_things, 5, .inl f_things))]) [0, 1] rfl
    have hD9 := hD.sub (ws' := [(aR, .inr (15, s4441)), (q_things, .inl (k_things, 5, .inl f_things))]) [0, 1] (by decide) rfl
    have hK9 := hK.sub (tys' := [(k_things, .int)]) [0] rfl
    exact W.zret (v := 0) hx hb hr rfl (fun t ht hW => ⟨⟨0, s4441, rfl, (Or.inr (Or.inr (Or.inr (⟨c4469, c4470, c4471, c4472, rfl, o_s4441⟩)))), by rw [ht]; exact hP9, va_K.moved hW.alike hK9, hD9⟩, hS.F ht⟩) hS.2.2 dX12_choose_15

def l_z_X12_reach : List Cond := [.fieldLink RX12 183 "HeapWorksModel" "things" "[I", .fieldLink RX12 581 "HeapWorksModel" "queued" "I", .fieldLink RX12 234 "HeapWorksModel" "rootMany" "[I"]
def w_z_X12_reach : List Cond := .code yX12_reach cX12_reach 6 none :: (l_z_X12_reach ++ (wsX120))
theorem in_z_X12_reach_X12 : ∀ w ∈ wsX120, w ∈ w_z_X12_reach := fun w h => List.mem_cons_of_mem _ (List.mem_append_right _ (h))
set_option maxHeartbeats 4000000 in
set_option maxRecDepth 100000 in
theorem z_X12_reach (l : Launch) (dC : Nat → ClassId) (dI : Nat → Nat → Nat) (sz : Nat) (Ad0 : Nat) (Fs0 : List Value) (Ad1 : Nat) (Fa0 : Nat → Int32) (Ka0 : ClassId) (Ad2 : Nat) (Fa1 : Nat → Int32) (Ka1 : ClassId) (Va0 : Int32) (k_Fs0 : fh Fs0 150 [(48, .ref Ad1), (65, .ref Ad2), (73, .int 0)]) (hz_Fa0 : ∀ j, Fa0 j = 0) (hz_Fa1 : ∀ j, Fa1 j = 0) (gv_Va0 : (0 : Int) ≤ Va0.toInt ∧ Va0.toInt ≤ 3) : Met l yX12_reach w_z_X12_reach ({ frames := 0, cells := 0, slots := 0, locals := 0 }) (va_Pc [.ref Ad0, .int Va0, .int (-1), .int (-1), .int 1] (fun U => U.heap.size = sz ∧ Wd dC dI [(Ka0, .int), (Ka1, .int)] (fun _ => True) [(Ad0, .inr (15, Fs0)), (Ad1, .inl (Ka0, 5, .inl Fa0)), (Ad2, .inl (Ka1, 5, .inl Fa1))] U)) (va_Qv (fun (u : List Value) => ow Fs0 (u) 150 [73] [(73, .int 0), (48, .ref Ad1), (65, .ref Ad2)]) (fun (u : List Value) t => Wd dC dI [(Ka0, .int), (Ka1, .int)] (va_A [(Ad0, .inr (15, Fs0)), (Ad1, .inl (Ka0, 5, .inl Fa0)), (Ad2, .inl (Ka1, 5, .inl Fa1))] sz) [(Ad0, .inr (15, (u))), (Ad1, .inl (Ka0, 5, .inl Fa0)), (Ad2, .inl (Ka1, 5, .inl Fa1))] t) (va_A [(Ad0, .inr (15, Fs0)), (Ad1, .inl (Ka0, 5, .inl Fa0)), (Ad2, .inl (Ka1, 5, .inl Fa1))] sz))  0 0 (va_A [(Ad0, .inr (15, Fs0)), (Ad1, .inl (Ka0, 5, .inl Fa0)), (Ad2, .inl (Ka1, 5, .inl Fa1))] sz) := by
  refine Met.ofW (cc := cX12_reach) (maxL := 6) (ret := none) (by decide) rfl ?_
  intro p e s m args below meth c s₁ B hml hv
  obtain ⟨rfl, hsz, hP, hK, hD0⟩ := hv
  have hx := B.exec
  have hb := B.bytes
  have hr := B.returns
  have hts := atoms_spec (ws := w_z_X12_reach) B.pre
  have hown : s.vm.findClass RX12 = some m.cls := findClass_of_methodNamed B.named
  have hlocks := B.notSynchronized
  subst hsz
  have hD := hD0.self (sz := s.heap.size)
  generalize hAe : va_A [(Ad0, .inr (15, Fs0)), (Ad1, .inl (Ka0, 5, .inl Fa0)), (Ad2, .inl (Ka1, 5, .inl Fa1))] s.heap.size = A at hD ⊢
  have hA : ∀ q : Nat, s.heap.size ≤ q → A q := fun q h => by rw [← hAe]; exact Or.inr h
  have hS : va_S A s.heap s.heap [] := va_S.rf
  have hl := lv_entry ([.ref Ad0, .int Va0, .int (-1), .int (-1), .int 1]) (n := 6) (Nat.le_of_ble_eq_true rfl)
  rw [lg_entry_eq]
  generalize (lg_sl ([.ref Ad0, .int Va0, .int (-1), .int (-1), .int 1]) ++ List.replicate (6 - (lg_sl ([.ref Ad0, .int Va0, .int (-1), .int (-1), .int 1])).length) Slot.unset).toArray = ls at hl ⊢
  have hl : lv_has ls 6 [(0, .ref Ad0), (1, .int Va0), (2, .int (-1)), (3, .int (-1)), (4, .int 1)] := hl
  have o_Fs0 := ow_0 k_Fs0
  refine lv_iconst (v := 0) hx hb dX12_reach_0 (by decide) ?_
  refine lv_istore (lv' := [(5, .int 0), (0, .ref Ad0), (1, .int Va0), (2, .int (-1)), (3, .int (-1)), (4, .int 1)]) hx hb dX12_reach_1 hl (by decide) rfl (fun ls hl => ?_)
  refine lv_iload hx hb dX12_reach_3 (lv_at hl 0 rfl) ?_
  refine lv_aload_n hx hb dX12_reach_5 rfl (lv_at hl 1 rfl) ?_
  refine va_get (D := (dC, dI)) (ci := 15) (v := .ref Ad1) (C := RX12) (T := TX12) (N := 150) hx hb hts (in_z_X12_reach_X12) hown hK hP 0 rfl rfl 48 (by decide) (hts (.fieldLink RX12 183 "HeapWorksModel" "things" "[I") (by decide +kernel)) (fun _ h9 => h9) (ow_at o_Fs0 0 rfl) dX12_reach_6 ?_
  refine lv_iload_n hx hb dX12_reach_9 rfl (lv_at hl 2 rfl) ?_
  refine va_iald hx hb hK hP 1 0 rfl rfl (by rw [vp_in_iff]; (try simp only [i_lt, i_le, i_eq] at gv_Va0); omega) dX12_reach_10 ?_
  refine lv_topi (fun x4505 ex4505 => ?_)
  obtain rfl : x4505 = 0 := ex4505.trans (hz_Fa0 _)
  refine lv_icmp_ge (tgt := 28) hx hb dX12_reach_11 (by decide) (fun c4506 => ?_) (fun c4506 => absurd c4506 (by decide))
  refine lv_aload_n hx hb dX12_reach_28 rfl (lv_at hl 1 rfl) ?_
  refine lv_iconst (v := 0) hx hb dX12_reach_29 (by decide) ?_
  refine va_put (D := (dC, dI)) (ci := 15) (v := .int 0) (ty := .int) (C := RX12) (T := TX12) (N := 150) hx hb hts (in_z_X12_reach_X12) tyX12 tyX12_ok nmX12 hown hK hP hD hS 0 rfl rfl 73 (by decide) (hts (.fieldLink RX12 581 "HeapWorksModel" "queued" "I") (by decide +kernel)) (fun _ h9 => h9) rfl (by decide +kernel) rfl rfl (by rw [o_Fs0.2.1]; decide) dX12_reach_30 (fun H locs hP hD hS => ?_)
  have hP : va_P (dC, dI) vwCl [(Ad0, .inr (15, (Fs0.set 73 (.int 0)))), (Ad1, .inl (Ka0, 5, .inl Fa0)), (Ad2, .inl (Ka1, 5, .inl Fa1))] H := hP
  have hD : va_D A [(Ad0, .inr (15, (Fs0.set 73 (.int 0)))), (Ad1, .inl (Ka0, 5, .inl Fa0)), (Ad2, .inl (Ka1, 5, .inl Fa1))] := hD
  have o_s4507 := ow_set o_Fs0 73 (.int 0) (by decide) (l' := [(73, .int 0), (48, .ref Ad1), (65, .ref Ad2)]) (w' := [73]) rfl rfl
  generalize (Fs0.set 73 (.int 0)) = s4507 at hP hD o_s4507
  refine lv_iload_n hx hb dX12_reach_33 rfl (lv_at hl 3 rfl) ?_
  refine lv_iconst (v := (-1)) hx hb dX12_reach_34 (by decide) ?_
  refine lv_icmp_ne (tgt := 82) hx hb dX12_reach_35 (by decide) (fun c4508 => absurd c4508 (by decide)) (fun c4508 => ?_)
  refine lv_iconst (v := 0) hx hb dX12_reach_38 (by decide) ?_
  refine lv_istore (lv' := [(5, .int 0), (0, .ref Ad0), (1, .int Va0), (2, .int (-1)), (3, .int (-1)), (4, .int 1)]) hx hb dX12_reach_39 hl (by decide) rfl (fun ls hl => ?_)
  refine lv_iload hx hb dX12_reach_41 (lv_at hl 0 rfl) ?_
  refine lv_aload_n hx hb dX12_reach_43 rfl (lv_at hl 1 rfl) ?_
  refine va_get (D := (dC, dI)) (ci := 15) (v := .ref Ad2) (C := RX12) (T := TX12) (N := 150) hx hb hts (in_z_X12_reach_X12) hown hK hP 0 rfl rfl 65 (by decide) (hts (.fieldLink RX12 234 "HeapWorksModel" "rootMany" "[I") (by decide +kernel)) (fun _ h9 => h9) (ow_at o_s4507 2 rfl) dX12_reach_44 ?_
  refine lv_iload_n hx hb dX12_reach_47 rfl (lv_at hl 2 rfl) ?_
  refine va_iald hx hb hK hP 2 1 rfl rfl (by rw [vp_in_iff]; (try simp only [i_lt, i_le, i_eq] at gv_Va0); omega) dX12_reach_48 ?_
  refine lv_topi (fun x4509 ex4509 => ?_)
  obtain rfl : x4509 = 0 := ex4509.trans (hz_Fa1 _)
  refine lv_icmp_ge (tgt := 79) hx hb dX12_reach_49 (by decide) (fun c4510 => ?_) (fun c4510 => absurd c4510 (by decide))
  refine lv_goto (tgt := 91) hx hb dX12_reach_79 (by decide) ?_
  refine lv_iconst (v := 0) hx hb dX12_reach_91 (by decide) ?_
  refine lv_istore (lv' := [(5, .int 0), (0, .ref Ad0), (1, .int Va0), (2, .int (-1)), (3, .int (-1)), (4, .int 1)]) hx hb dX12_reach_92 hl (by decide) rfl (fun ls hl => ?_)
  refine lv_iload hx hb dX12_reach_94 (lv_at hl 0 rfl) ?_
  refine lv_aload_n hx hb dX12_reach_96 rfl (lv_at hl 1 rfl) ?_
  refine va_get (D := (dC, dI)) (ci := 15) (v := .int 0) (C := RX12) (T := TX12) (N := 150) hx hb hts (in_z_X12_reach_X12) hown hK hP 0 rfl rfl 73 (by decide) (hts (.fieldLink RX12 581 "HeapWorksModel" "queued" "I") (by decide +kernel)) (fun _ h9 => h9) (ow_at o_s4507 0 rfl) dX12_reach_97 ?_
  refine lv_icmp_ge (tgt := 124) hx hb dX12_reach_100 (by decide) (fun c4511 => ?_) (fun c4511 => absurd c4511 (by decide))
  have hP9 := hP.sub (ws' := [(Ad0, .inr (15, s4507)), (Ad1, .inl (Ka0, 5, .inl Fa0)), (Ad2, .inl (Ka1, 5, .inl Fa1))]) [0, 1, 2] rfl
  have hD9 := hD.sub (ws' := [(Ad0, .inr (15, s4507)), (Ad1, .inl (Ka0, 5, .inl Fa0)), (Ad2, .inl (Ka1, 5, .inl Fa1))]) [0, 1, 2] (by decide) rfl
  have hK9 := hK.sub (tys' := [(Ka0, .int), (Ka1, .int)]) [0, 1] rfl
  exact W.vret hx hb hr (fun t ht hW => ⟨⟨s4507, rfl, o_s4507, by rw [ht]; exact hP9, va_K.moved hW.alike hK9, hD9⟩, hS.F ht⟩) hS.2.2 dX12_reach_124

def l_n_lost : List Cond := [.methodLink RX12 542 yX12_isPicture, .instanceMethod yX12_isPicture, .selects RX12 yX12_isPicture yX12_isPicture, .initialized RX12, .fieldLink RX12 388 "HeapWorksModel" "thrown" "I", .methodLink RX12 591 yX12_reach, .instanceMethod yX12_reach, .selects RX12 yX12_reach yX12_reach, .fieldLink RX12 225 "HeapWorksModel" "lostMany" "[I", .fieldLink RX12 183 "HeapWorksModel" "things" "[I", .code yX12_isPicture cX12_isPicture 2 (some .boolean), .code yX12_reach cX12_reach 6 none, .fieldLink RX12 581 "HeapWorksModel" "queued" "I", .fieldLink RX12 234 "HeapWorksModel" "rootMany" "[I"]
def w_n_lost : List Cond := .code yX12_lost cX12_lost 3 (some .int) :: (l_n_lost ++ (wsX120))
theorem in_n_lost_X12 : ∀ w ∈ wsX120, w ∈ w_n_lost := fun w h => List.mem_cons_of_mem _ (List.mem_append_right _ (h))
theorem g_n_lost_z_X12_isPicture_542 : GoodIn w_n_lost (wsV RX12 542 RX12 yX12_isPicture w_z_X12_isPicture) := goodIn_app (goodIn_sub (by decide +kernel) (by decide +kernel)) (goodIn_sub (by decide +kernel) (by decide +kernel))
theorem g_n_lost_z_X12_reach_591 : GoodIn w_n_lost (wsV RX12 591 RX12 yX12_reach w_z_X12_reach) := goodIn_app (goodIn_sub (by decide +kernel) (by decide +kernel)) (goodIn_ca (goodIn_sub (by decide +kernel) (by decide +kernel)) (goodIn_in in_n_lost_X12 gd_X12))
set_option maxHeartbeats 4000000 in
set_option maxRecDepth 100000 in
theorem n_lost (l : Launch) (dC : Nat → ClassId) (dI : Nat → Nat → Nat) (sz : Nat) (aR : Nat) (fsR : List Value) (q_things : Nat) (f_things : Nat → Int32) (k_things : ClassId) (q_lostMany : Nat) (f_lostMany : Nat → Int32) (k_lostMany : ClassId) (q_rootMany : Nat) (f_rootMany : Nat → Int32) (k_rootMany : ClassId) (p0 : Int32) (k_fsR : fh fsR 150 [(0, .int 0), (48, .ref q_things), (62, .ref q_lostMany), (65, .ref q_rootMany), (73, .int 0)]) (hz_f_things : ∀ j, f_things j = 0) (hz_f_lostMany : ∀ j, f_lostMany j = 0) (hz_f_rootMany : ∀ j, f_rootMany j = 0) : Met l yX12_lost w_n_lost ({ frames := 1, cells := 0, slots := 0, locals := 25 }) (va_Pc [.ref aR, .int p0] (fun U => U.heap.size = sz ∧ Wd dC dI [(k_things, .int), (k_lostMany, .int), (k_rootMany, .int)] (fun _ => True) [(aR, .inr (15, fsR)), (q_things, .inl (k_things, 5, .inl f_things)), (q_lostMany, .inl (k_lostMany, 5, .inl f_lostMany)), (q_rootMany, .inl (k_rootMany, 5, .inl f_rootMany))] U)) (va_Qi (fun (r : Int32) (u : List Value × (Nat → Int32)) => (p0 < 0 ∧ r = 0 ∧ ow fsR (u.1) 150 [0] [(0, .int 1), (48, .ref q_things), (62, .ref q_lostMany), (65, .ref q_rootMany), (73, .int 0)] ∧ (∀ j, (u.2) j = 0)) ∨ (¬ p0 < 0 ∧ 4 ≤ p0 ∧ r = 0 ∧ ow fsR (u.1) 150 [0] [(0, .int 1), (48, .ref q_things), (62, .ref q_lostMany), (65, .ref q_rootMany), (73, .int 0)] ∧ (∀ j, (u.2) j = 0)) ∨ (¬ p0 < 0 ∧ ¬ 4 ≤ p0 ∧ r = 0 ∧ ow fsR (u.1) 150 [73, 0] [(73, .int 0), (48, .ref q_things), (65, .ref q_rootMany), (0, .int 0), (48, .ref q_things), (62, .ref q_lostMany), (65, .ref q_rootMany)] ∧ (∀ j, (u.2) j = 0) ∧ (u.2) p0.toNatClampNeg = 0)) (fun (u : List Value × (Nat → Int32)) t => Wd dC dI [(k_things, .int), (k_lostMany, .int), (k_rootMany, .int)] (va_A [(aR, .inr (15, fsR)), (q_things, .inl (k_things, 5, .inl f_things)), (q_lostMany, .inl (k_lostMany, 5, .inl f_lostMany)), (q_rootMany, .inl (k_rootMany, 5, .inl f_rootMany))] sz) [(aR, .inr (15, (u.1))), (q_things, .inl (k_things, 5, .inl f_things)), (q_lostMany, .inl (k_lostMany, 5, .inl ((u.2)))), (q_rootMany, .inl (k_rootMany, 5, .inl f_rootMany))] t) (va_A [(aR, .inr (15, fsR)), (q_things, .inl (k_things, 5, .inl f_things)), (q_lostMany, .inl (k_lostMany, 5, .inl f_lostMany)), (q_rootMany, .inl (k_rootMany, 5, .inl f_rootMany))] sz))  0 0 (va_A [(aR, .inr (15, fsR)), (q_things, .inl (k_things, 5, .inl f_things)), (q_lostMany, .inl (k_lostMany, 5, .inl f_lostMany)), (q_rootMany, .inl (k_rootMany, 5, .inl f_rootMany))] sz) := by
  refine Met.ofW (cc := cX12_lost) (maxL := 3) (ret := (some .int)) (by decide) rfl ?_
  intro p e s m args below meth c s₁ B hml hv
  obtain ⟨rfl, hsz, hP, hK, hD0⟩ := hv
  have hx := B.exec
  have hb := B.bytes
  have hr := B.returns
  have hts := atoms_spec (ws := w_n_lost) B.pre
  have hown : s.vm.findClass RX12 = some m.cls := findClass_of_methodNamed B.named
  have hlocks := B.notSynchronized
  subst hsz
  have hD := hD0.self (sz := s.heap.size)
  generalize hAe : va_A [(aR, .inr (15, fsR)), (q_things, .inl (k_things, 5, .inl f_things)), (q_lostMany, .inl (k_lostMany, 5, .inl f_lostMany)), (q_rootMany, .inl (k_rootMany, 5, .inl f_rootMany))] s.heap.size = A at hD ⊢
  have hA : ∀ q : Nat, s.heap.size ≤ q → A q := fun q h => by rw [← hAe]; exact Or.inr h
  have hS : va_S A s.heap s.heap [] := va_S.rf
  have hl := lv_entry ([.ref aR, .int p0]) (n := 3) (Nat.le_of_ble_eq_true rfl)
  rw [lg_entry_eq]
  generalize (lg_sl ([.ref aR, .int p0]) ++ List.replicate (3 - (lg_sl ([.ref aR, .int p0])).length) Slot.unset).toArray = ls at hl ⊢
  have hl : lv_has ls 3 [(0, .ref aR), (1, .int p0)] := hl
  have o_fsR := ow_0 k_fsR
  refine lv_aload_n hx hb dX12_lost_0 rfl (lv_at hl 0 rfl) ?_
  refine lv_aload_n hx hb dX12_lost_1 rfl (lv_at hl 0 rfl) ?_
  refine lv_iload_n hx hb dX12_lost_2 rfl (lv_at hl 1 rfl) ?_
  have hPc := hP.sub (ws' := []) [] rfl
  have hDc := hD.sub (ws' := []) [] (by decide) rfl
  have hKc := hK.sub (tys' := []) [] rfl
  have hFc := va_free (wc := []) hD hS hA [] rfl
  refine va_calli (va_runV (As := [.int p0]) (rest := [.ref aR]) ⟨hx, hb, hml, hown, hts⟩ (z_X12_isPicture l dC dI s.heap.size aR p0  ) (cwV 1 hts g_n_lost_z_X12_isPicture_542 rfl rfl rfl (by decide +kernel) ⟨Nat.le_of_ble_eq_true rfl, Nat.le_of_ble_eq_true rfl⟩) ⟨fun a U g mk q => by obtain ⟨q0, q1, qP, qK, qD⟩ := q; exact ⟨q0, q1, qP, va_K.moved (u := U) (U := U.calling g mk a) (Vm.Alike.refl U.vm) qK, qD⟩, va_recv hK hP (ci := 15) (q0 := 0) rfl rfl, fun U hU hW => ⟨rfl, by rw [hU], by rw [hU]; exact hPc, va_K.moved hW.alike hKc, hDc.weaken (fun _ _ _ _ => trivial)⟩⟩ rfl rfl hl.1 rfl (lv_room (Nat.le_of_ble_eq_true rfl)) dX12_lost_3 ⟨Nat.le_of_ble_eq_true rfl, Nat.le_of_ble_eq_true rfl⟩) hS (fun q _ h => hFc q h) hFc (fun r4521 u t H1 locs ht hvm hw hB hz1 hk1 hS => ?_)
  obtain ⟨hP1, hK1, hD1⟩ := hB
  rw [ht] at hP1
  try dsimp only at hw
  obtain ⟨hP, hD⟩ := va_join (wr := [(aR, .inr (15, fsR)), (q_things, .inl (k_things, 5, .inl f_things)), (q_lostMany, .inl (k_lostMany, 5, .inl f_lostMany)), (q_rootMany, .inl (k_rootMany, 5, .inl f_rootMany))]) (w1 := []) hP hD [] [0, 1, 2, 3] rfl rfl (by decide) (by decide) hk1 hFc hP1 hD1
  have hK := hK.sub (tys' := [(k_things, .int), (k_lostMany, .int), (k_rootMany, .int)]) [0, 1, 2] rfl
  generalize H1 = H at hP hS ⊢
  have hP : va_P (dC, dI) vwCl [(aR, .inr (15, fsR)), (q_things, .inl (k_things, 5, .inl f_things)), (q_lostMany, .inl (k_lostMany, 5, .inl f_lostMany)), (q_rootMany, .inl (k_rootMany, 5, .inl f_rootMany))] H := hP
  have hD : va_D A [(aR, .inr (15, fsR)), (q_things, .inl (k_things, 5, .inl f_things)), (q_lostMany, .inl (k_lostMany, 5, .inl f_lostMany)), (q_rootMany, .inl (k_rootMany, 5, .inl f_rootMany))] := hD
  rcases hw with ⟨c4522, er4523⟩ | ⟨c4524, c4525, er4526⟩ | ⟨c4527, c4528, er4529⟩
  · skip
    subst er4523
    refine lv_if_eq (tgt := 13) hx hb dX12_lost_6 (by decide) (fun c4530 => ?_) (fun c4530 => absurd c4530 (by decide))
    refine lv_iconst (v := 1) hx hb dX12_lost_13 (by decide) ?_
    refine va_put (D := (dC, dI)) (ci := 15) (v := .int 1) (ty := .int) (C := RX12) (T := TX12) (N := 150) hx hb hts (in_n_lost_X12) tyX12 tyX12_ok nmX12 hown hK hP hD hS 0 rfl rfl 0 (by decide) (hts (.fieldLink RX12 388 "HeapWorksModel" "thrown" "I") (by decide +kernel)) (fun _ h9 => h9) rfl (by decide +kernel) rfl rfl (by rw [o_fsR.2.1]; decide) dX12_lost_14 (fun H locs hP hD hS => ?_)
    have hP : va_P (dC, dI) vwCl [(aR, .inr (15, (fsR.set 0 (.int 1)))), (q_things, .inl (k_things, 5, .inl f_things)), (q_lostMany, .inl (k_lostMany, 5, .inl f_lostMany)), (q_rootMany, .inl (k_rootMany, 5, .inl f_rootMany))] H := hP
    have hD : va_D A [(aR, .inr (15, (fsR.set 0 (.int 1)))), (q_things, .inl (k_things, 5, .inl f_things)), (q_lostMany, .inl (k_lostMany, 5, .inl f_lostMany)), (q_rootMany, .inl (k_rootMany, 5, .inl f_rootMany))] := hD
    have o_s4531 := ow_set o_fsR 0 (.int 1) (by decide) (l' := [(0, .int 1), (48, .ref q_things), (62, .ref q_lostMany), (65, .ref q_rootMany), (73, .int 0)]) (w' := [0]) rfl rfl
    generalize (fsR.set 0 (.int 1)) = s4531 at hP hD o_s4531
    refine lv_aload_n hx hb dX12_lost_17 rfl (lv_at hl 0 rfl) ?_
    refine va_get (D := (dC, dI)) (ci := 15) (v := .int 1) (C := RX12) (T := TX12) (N := 150) hx hb hts (in_n_lost_X12) hown hK hP 0 rfl rfl 0 (by decide) (hts (.fieldLink RX12 388 "HeapWorksModel" "thrown" "I") (by decide +kernel)) (fun _ h9 => h9) (ow_at o_s4531 0 rfl) dX12_lost_18 ?_
    refine lv_if_le (tgt := 26) hx hb dX12_lost_21 (by decide) (fun c4532 => absurd c4532 (by decide)) (fun c4532 => ?_)
    refine lv_iconst (v := 0) hx hb dX12_lost_24 (by decide) ?_
    have hP9 := hP.sub (ws' := [(aR, .inr (15, s4531)), (q_things, .inl (k_things, 5, .inl f_things)), (q_lostMany, .inl (k_lostMany, 5, .inl f_lostMany)), (q_rootMany, .inl (k_rootMany, 5, .inl f_rootMany))]) [0, 1, 2, 3] rfl
    have hD9 := hD.sub (ws' := [(aR, .inr (15, s4531)), (q_things, .inl (k_things, 5, .inl f_things)), (q_lostMany, .inl (k_lostMany, 5, .inl f_lostMany)), (q_rootMany, .inl (k_rootMany, 5, .inl f_rootMany))]) [0, 1, 2, 3] (by decide) rfl
    have hK9 := hK.sub (tys' := [(k_things, .int), (k_lostMany, .int), (k_rootMany, .int)]) [0, 1, 2] rfl
    exact W.iret (v := 0) hx hb hr (fun t ht hW => ⟨⟨0, (s4531, f_lostMany), rfl, (Or.inl ⟨c4522, rfl, o_s4531, hz_f_lostMany⟩), by rw [ht]; exact hP9, va_K.moved hW.alike hK9, hD9⟩, hS.F ht⟩) hS.2.2 dX12_lost_25
  · skip
    subst er4526
    refine lv_if_eq (tgt := 13) hx hb dX12_lost_6 (by decide) (fun c4533 => ?_) (fun c4533 => absurd c4533 (by decide))
    refine lv_iconst (v := 1) hx hb dX12_lost_13 (by decide) ?_
    refine va_put (D := (dC, dI)) (ci := 15) (v := .int 1) (ty := .int) (C := RX12) (T := TX12) (N := 150) hx hb hts (in_n_lost_X12) tyX12 tyX12_ok nmX12 hown hK hP hD hS 0 rfl rfl 0 (by decide) (hts (.fieldLink RX12 388 "HeapWorksModel" "thrown" "I") (by decide +kernel)) (fun _ h9 => h9) rfl (by decide +kernel) rfl rfl (by rw [o_fsR.2.1]; decide) dX12_lost_14 (fun H locs hP hD hS => ?_)
    have hP : va_P (dC, dI) vwCl [(aR, .inr (15, (fsR.set 0 (.int 1)))), (q_things, .inl (k_things, 5, .inl f_things)), (q_lostMany, .inl (k_lostMany, 5, .inl f_lostMany)), (q_rootMany, .inl (k_rootMany, 5, .inl f_rootMany))] H := hP
    have hD : va_D A [(aR, .inr (15, (fsR.set 0 (.int 1)))), (q_things, .inl (k_things, 5, .inl f_things)), (q_lostMany, .inl (k_lostMany, 5, .inl f_lostMany)), (q_rootMany, .inl (k_rootMany, 5, .inl f_rootMany))] := hD
    have o_s4534 := ow_set o_fsR 0 (.int 1) (by decide) (l' := [(0, .int 1), (48, .ref q_things), (62, .ref q_lostMany), (65, .ref q_rootMany), (73, .int 0)]) (w' := [0]) rfl rfl
    generalize (fsR.set 0 (.int 1)) = s4534 at hP hD o_s4534
    refine lv_aload_n hx hb dX12_lost_17 rfl (lv_at hl 0 rfl) ?_
    refine va_get (D := (dC, dI)) (ci := 15) (v := .int 1) (C := RX12) (T := TX12) (N := 150) hx hb hts (in_n_lost_X12) hown hK hP 0 rfl rfl 0 (by decide) (hts (.fieldLink RX12 388 "HeapWorksModel" "thrown" "I") (by decide +kernel)) (fun _ h9 => h9) (ow_at o_s4534 0 rfl) dX12_lost_18 ?_
    refine lv_if_le (tgt := 26) hx hb dX12_lost_21 (by decide) (fun c4535 => absurd c4535 (by decide)) (fun c4535 => ?_)
    refine lv_iconst (v := 0) hx hb dX12_lost_24 (by decide) ?_
    have hP9 := hP.sub (ws' := [(aR, .inr (15, s4534)), (q_things, .inl (k_things, 5, .inl f_things)), (q_lostMany, .inl (k_lostMany, 5, .inl f_lostMany)), (q_rootMany, .inl (k_rootMany, 5, .inl f_rootMany))]) [0, 1, 2, 3] rfl
    have hD9 := hD.sub (ws' := [(aR, .inr (15, s4534)), (q_things, .inl (k_things, 5, .inl f_things)), (q_lostMany, .inl (k_lostMany, 5, .inl f_lostMany)), (q_rootMany, .inl (k_rootMany, 5, .inl f_rootMany))]) [0, 1, 2, 3] (by decide) rfl
    have hK9 := hK.sub (tys' := [(k_things, .int), (k_lostMany, .int), (k_rootMany, .int)]) [0, 1, 2] rfl
    exact W.iret (v := 0) hx hb hr (fun t ht hW => ⟨⟨0, (s4534, f_lostMany), rfl, (Or.inr (Or.inl ⟨c4524, c4525, rfl, o_s4534, hz_f_lostMany⟩)), by rw [ht]; exact hP9, va_K.moved hW.alike hK9, hD9⟩, hS.F ht⟩) hS.2.2 dX12_lost_25
  · skip
    subst er4529
    refine lv_if_eq (tgt := 13) hx hb dX12_lost_6 (by decide) (fun c4536 => absurd c4536 (by decide)) (fun c4536 => ?_)
    refine lv_iconst (v := 0) hx hb dX12_lost_9 (by decide) ?_
    refine lv_goto (tgt := 14) hx hb dX12_lost_10 (by decide) ?_
    refine va_put (D := (dC, dI)) (ci := 15) (v := .int 0) (ty := .int) (C := RX12) (T := TX12) (N := 150) hx hb hts (in_n_lost_X12) tyX12 tyX12_ok nmX12 hown hK hP hD hS 0 rfl rfl 0 (by decide) (hts (.fieldLink RX12 388 "HeapWorksModel" "thrown" "I") (by decide +kernel)) (fun _ h9 => h9) rfl (by decide +kernel) rfl rfl (by rw [o_fsR.2.1]; decide) dX12_lost_14 (fun H locs hP hD hS => ?_)
    have hP : va_P (dC, dI) vwCl [(aR, .inr (15, (fsR.set 0 (.int 0)))), (q_things, .inl (k_things, 5, .inl f_things)), (q_lostMany, .inl (k_lostMany, 5, .inl f_lostMany)), (q_rootMany, .inl (k_rootMany, 5, .inl f_rootMany))] H := hP
    have hD : va_D A [(aR, .inr (15, (fsR.set 0 (.int 0)))), (q_things, .inl (k_things, 5, .inl f_things)), (q_lostMany, .inl (k_lostMany, 5, .inl f_lostMany)), (q_rootMany, .inl (k_rootMany, 5, .inl f_rootMany))] := hD
    have o_s4537 := ow_set o_fsR 0 (.int 0) (by decide) (l' := [(0, .int 0), (48, .ref q_things), (62, .ref q_lostMany), (65, .ref q_rootMany), (73, .int 0)]) (w' := [0]) rfl rfl
    generalize (fsR.set 0 (.int 0)) = s4537 at hP hD o_s4537
    refine lv_aload_n hx hb dX12_lost_17 rfl (lv_at hl 0 rfl) ?_
    refine va_get (D := (dC, dI)) (ci := 15) (v := .int 0) (C := RX12) (T := TX12) (N := 150) hx hb hts (in_n_lost_X12) hown hK hP 0 rfl rfl 0 (by decide) (hts (.fieldLink RX12 388 "HeapWorksModel" "thrown" "I") (by decide +kernel)) (fun _ h9 => h9) (ow_at o_s4537 0 rfl) dX12_lost_18 ?_
    refine lv_if_le (tgt := 26) hx hb dX12_lost_21 (by decide) (fun c4538 => ?_) (fun c4538 => absurd c4538 (by decide))
    refine lv_aload_n hx hb dX12_lost_26 rfl (lv_at hl 0 rfl) ?_
    refine lv_iload_n hx hb dX12_lost_27 rfl (lv_at hl 1 rfl) ?_
    refine lv_iconst (v := (-1)) hx hb dX12_lost_28 (by decide) ?_
    refine lv_iconst (v := (-1)) hx hb dX12_lost_29 (by decide) ?_
    refine lv_iconst (v := 1) hx hb dX12_lost_30 (by decide) ?_
    have hPc := hP.sub (ws' := [(aR, .inr (15, s4537)), (q_things, .inl (k_things, 5, .inl f_things)), (q_rootMany, .inl (k_rootMany, 5, .inl f_rootMany))]) [0, 1, 3] rfl
    have hDc := hD.sub (ws' := [(aR, .inr (15, s4537)), (q_things, .inl (k_things, 5, .inl f_things)), (q_rootMany, .inl (k_rootMany, 5, .inl f_rootMany))]) [0, 1, 3] (by decide) rfl
    have hKc := hK.sub (tys' := [(k_things, .int), (k_rootMany, .int)]) [0, 2] rfl
    have hFc := va_free (wc := [(aR, .inr (15, s4537)), (q_things, .inl (k_things, 5, .inl f_things)), (q_rootMany, .inl (k_rootMany, 5, .inl f_rootMany))]) hD hS hA [0, 1, 3] rfl
    refine va_callv (va_runV (As := [.int p0, .int (-1), .int (-1), .int 1]) (rest := []) ⟨hx, hb, hml, hown, hts⟩ (z_X12_reach l dC dI H.size aR s4537 q_things f_things k_things q_rootMany f_rootMany k_rootMany p0 (fh_sub o_s4537.2 [1, 3, 4] rfl) hz_f_things hz_f_rootMany (by (try simp only [i_lt, i_le, i_eq, kc_0, kc_4] at c4527 c4528); omega)) (cwV 4 hts g_n_lost_z_X12_reach_591 rfl rfl rfl (by decide +kernel) ⟨Nat.le_of_ble_eq_true rfl, Nat.le_of_ble_eq_true rfl⟩) ⟨fun a U g mk q => by obtain ⟨q0, q1, qP, qK, qD⟩ := q; exact ⟨q0, q1, qP, va_K.moved (u := U) (U := U.calling g mk a) (Vm.Alike.refl U.vm) qK, qD⟩, va_recv hK hP (ci := 15) (q0 := 0) rfl rfl, fun U hU hW => ⟨rfl, by rw [hU], by rw [hU]; exact hPc, va_K.moved hW.alike hKc, hDc.weaken (fun _ _ _ _ => trivial)⟩⟩ rfl rfl hl.1 rfl (lv_room (Nat.le_of_ble_eq_true rfl)) dX12_lost_31 ⟨Nat.le_of_ble_eq_true rfl, Nat.le_of_ble_eq_true rfl⟩) hS (fun q _ h => hFc q h) hFc (fun u t H1 locs ht hvm hw hB hz1 hk1 hS => ?_)
    obtain ⟨s4546, rfl⟩ : ∃ z, z = u := ⟨_, rfl⟩
    obtain ⟨hP1, hK1, hD1⟩ := hB
    rw [ht] at hP1
    try dsimp only at hw
    obtain ⟨hP, hD⟩ := va_join (wr := [(q_lostMany, .inl (k_lostMany, 5, .inl f_lostMany))]) (w1 := [(aR, .inr (15, s4546)), (q_things, .inl (k_things, 5, .inl f_things)), (q_rootMany, .inl (k_rootMany, 5, .inl f_rootMany))]) hP hD [0, 1, 3] [2] rfl rfl (by decide) (by decide) hk1 hFc hP1 hD1
    have hK := hK.sub (tys' := [(k_lostMany, .int), (k_things, .int), (k_rootMany, .int)]) [1, 0, 2] rfl
    generalize H1 = H at hP hS ⊢
    have hP : va_P (dC, dI) vwCl [(q_lostMany, .inl (k_lostMany, 5, .inl f_lostMany)), (aR, .inr (15, s4546)), (q_things, .inl (k_things, 5, .inl f_things)), (q_rootMany, .inl (k_rootMany, 5, .inl f_rootMany))] H := hP
    have hD : va_D A [(q_lostMany, .inl (k_lostMany, 5, .inl f_lostMany)), (aR, .inr (15, s4546)), (q_things, .inl (k_things, 5, .inl f_things)), (q_rootMany, .inl (k_rootMany, 5, .inl f_rootMany))] := hD
    have o_s4546 := hw
    have o_s4546 := ow_on o_s4537 o_s4546 (l' := [(73, .int 0), (48, .ref q_things), (65, .ref q_rootMany), (0, .int 0), (48, .ref q_things), (62, .ref q_lostMany), (65, .ref q_rootMany)]) (w' := [73, 0]) rfl rfl
    refine lv_aload_n hx hb dX12_lost_34 rfl (lv_at hl 0 rfl) ?_
    refine va_get (D := (dC, dI)) (ci := 15) (v := .ref q_lostMany) (C := RX12) (T := TX12) (N := 150) hx hb hts (in_n_lost_X12) hown hK hP 1 rfl rfl 62 (by decide) (hts (.fieldLink RX12 225 "HeapWorksModel" "lostMany" "[I") (by decide +kernel)) (fun _ h9 => h9) (ow_at o_s4546 5 rfl) dX12_lost_35 ?_
    refine lv_iload_n hx hb dX12_lost_38 rfl (lv_at hl 1 rfl) ?_
    refine lv_iconst (v := 0) hx hb dX12_lost_39 (by decide) ?_
    refine va_iast hx hb hK hP hD hS 0 0 rfl rfl (by rw [vp_in_iff]; (try simp only [i_lt, i_le, i_eq, kc_0, kc_4] at c4527 c4528); omega) dX12_lost_40 (fun H locs hP hD hS => ?_)
    have hP : va_P (dC, dI) vwCl [(q_lostMany, .inl (k_lostMany, 5, .inl (upd f_lostMany (p0 : Int32).toNatClampNeg 0))), (aR, .inr (15, s4546)), (q_things, .inl (k_things, 5, .inl f_things)), (q_rootMany, .inl (k_rootMany, 5, .inl f_rootMany))] H := hP
    have hD : va_D A [(q_lostMany, .inl (k_lostMany, 5, .inl (upd f_lostMany (p0 : Int32).toNatClampNeg 0))), (aR, .inr (15, s4546)), (q_things, .inl (k_things, 5, .inl f_things)), (q_rootMany, .inl (k_rootMany, 5, .inl f_rootMany))] := hD
    have q4548 : (upd f_lostMany (p0 : Int32).toNatClampNeg 0) (p0 : Int32).toNatClampNeg = 0 := pk_us
    have z4549 : ∀ j, (upd f_lostMany (p0 : Int32).toNatClampNeg 0) j = 0 := az_up hz_f_lostMany rfl
    generalize upd f_lostMany (p0 : Int32).toNatClampNeg 0 = f4547 at hP hD q4548 z4549
    refine lv_iconst (v := 0) hx hb dX12_lost_41 (by decide) ?_
    refine lv_istore_n (lv' := [(2, .int 0), (0, .ref aR), (1, .int p0)]) hx hb dX12_lost_42 rfl hl (by decide) rfl (fun ls hl => ?_)
    refine lv_iload_n hx hb dX12_lost_43 rfl (lv_at hl 0 rfl) ?_
    refine lv_aload_n hx hb dX12_lost_44 rfl (lv_at hl 1 rfl) ?_
    refine va_get (D := (dC, dI)) (ci := 15) (v := .ref q_things) (C := RX12) (T := TX12) (N := 150) hx hb hts (in_n_lost_X12) hown hK hP 1 rfl rfl 48 (by decide) (hts (.fieldLink RX12 183 "HeapWorksModel" "things" "[I") (by decide +kernel)) (fun _ h9 => h9) (ow_at o_s4546 1 rfl) dX12_lost_45 ?_
    refine lv_iload_n hx hb dX12_lost_48 rfl (lv_at hl 2 rfl) ?_
    refine va_iald hx hb hK hP 2 1 rfl rfl (by rw [vp_in_iff]; (try simp only [i_lt, i_le, i_eq, kc_0, kc_4] at c4527 c4528); omega) dX12_lost_49 ?_
    refine lv_topi (fun x4550 ex4550 => ?_)
    obtain rfl : x4550 = 0 := ex4550.trans (hz_f_things _)
    refine lv_icmp_ge (tgt := 98) hx hb dX12_lost_50 (by decide) (fun c4551 => ?_) (fun c4551 => absurd c4551 (by decide))
    refine lv_aload_n hx hb dX12_lost_98 rfl (lv_at hl 1 rfl) ?_
    refine va_get (D := (dC, dI)) (ci := 15) (v := .ref q_lostMany) (C := RX12) (T := TX12) (N := 150) hx hb hts (in_n_lost_X12) hown hK hP 1 rfl rfl 62 (by decide) (hts (.fieldLink RX12 225 "HeapWorksModel" "lostMany" "[I") (by decide +kernel)) (fun _ h9 => h9) (ow_at o_s4546 5 rfl) dX12_lost_99 ?_
    refine lv_iload_n hx hb dX12_lost_102 rfl (lv_at hl 2 rfl) ?_
    refine va_iald hx hb hK hP 0 0 rfl rfl (by rw [vp_in_iff]; (try simp only [i_lt, i_le, i_eq, kc_0, kc_4] at c4527 c4528); omega) dX12_lost_103 ?_
    refine lv_topi (fun x4552 ex4552 => ?_)
    obtain rfl : 0 = x4552 := (ex4552.trans q4548).symm
    have hP9 := hP.sub (ws' := [(aR, .inr (15, s4546)), (q_things, .inl (k_things, 5, .inl f_things)), (q_lostMany, .inl (k_lostMany, 5, .inl f4547)), (q_rootMany, .inl (k_rootMany, 5, .inl f_rootMany))]) [1, 2, 0, 3] rfl
    have hD9 := hD.sub (ws' := [(aR, .inr (15, s4546)), (q_things, .inl (k_things, 5, .inl f_things)), (q_lostMany, .inl (k_lostMany, 5, .inl f4547)), (q_rootMany, .inl (k_rootMany, 5, .inl f_rootMany))]) [1, 2, 0, 3] (by decide) rfl
    have hK9 := hK.sub (tys' := [(k_things, .int), (k_lostMany, .int), (k_rootMany, .int)]) [1, 0, 2] rfl
    exact W.iret (v := 0) hx hb hr (fun t ht hW => ⟨⟨0, (s4546, f4547), rfl, (Or.inr (Or.inr (⟨c4527, c4528, rfl, o_s4546, z4549, q4548⟩))), by rw [ht]; exact hP9, va_K.moved hW.alike hK9, hD9⟩, hS.F ht⟩) hS.2.2 dX12_lost_104

def l_n_lostThing : List Cond := [.fieldLink RX12 388 "HeapWorksModel" "thrown" "I", .methodLink RX12 542 yX12_isPicture, .instanceMethod yX12_isPicture, .selects RX12 yX12_isPicture yX12_isPicture, .initialized RX12, .fieldLink RX12 225 "HeapWorksModel" "lostMany" "[I", .code yX12_isPicture cX12_isPicture 2 (some .boolean)]
def w_n_lostThing : List Cond := .code yX12_lostThing cX12_lostThing 3 (some .int) :: (l_n_lostThing ++ (wsX120))
theorem in_n_lostThing_X12 : ∀ w ∈ wsX120, w ∈ w_n_lostThing := fun w h => List.mem_cons_of_mem _ (List.mem_append_right _ (h))
theorem g_n_lostThing_z_X12_isPicture_542 : GoodIn w_n_lostThing (wsV RX12 542 RX12 yX12_isPicture w_z_X12_isPicture) := goodIn_app (goodIn_sub (by decide +kernel) (by decide +kernel)) (goodIn_sub (by decide +kernel) (by decide +kernel))
set_option maxHeartbeats 4000000 in
set_option maxRecDepth 100000 in
theorem n_lostThing (l : Launch) (dC : Nat → ClassId) (dI : Nat → Nat → Nat) (sz : Nat) (aR : Nat) (fsR : List Value) (q_lostMany : Nat) (f_lostMany : Nat → Int32) (k_lostMany : ClassId) (p0 : Int32) (p1 : Int32) (k_fsR : fh fsR 150 [(62, .ref q_lostMany)]) (hz_f_lostMany : ∀ j, f_lostMany j = 0) : Met l yX12_lostThing w_n_lostThing ({ frames := 1, cells := 0, slots := 0, locals := 21 }) (va_Pc [.ref aR, .int p0, .int p1] (fun U => U.heap.size = sz ∧ Wd dC dI [(k_lostMany, .int)] (fun _ => True) [(aR, .inr (15, fsR)), (q_lostMany, .inl (k_lostMany, 5, .inl f_lostMany))] U)) (va_Qi (fun (r : Int32) (u : List Value) => (p0 < 0 ∧ r = (-1) ∧ ow fsR (u) 150 [0] [(0, .int 0), (62, .ref q_lostMany)]) ∨ (¬ p0 < 0 ∧ 4 ≤ p0 ∧ r = (-1) ∧ ow fsR (u) 150 [0] [(0, .int 0), (62, .ref q_lostMany)]) ∨ (¬ p0 < 0 ∧ ¬ 4 ≤ p0 ∧ p1 < 0 ∧ r = (-1) ∧ ow fsR (u) 150 [0] [(0, .int 0), (62, .ref q_lostMany)]) ∨ (¬ p0 < 0 ∧ ¬ 4 ≤ p0 ∧ ¬ p1 < 0 ∧ 0 ≤ p1 ∧ r = (-1) ∧ ow fsR (u) 150 [0] [(0, .int 0), (62, .ref q_lostMany)])) (fun (u : List Value) t => Wd dC dI [(k_lostMany, .int)] (va_A [(aR, .inr (15, fsR)), (q_lostMany, .inl (k_lostMany, 5, .inl f_lostMany))] sz) [(aR, .inr (15, (u))), (q_lostMany, .inl (k_lostMany, 5, .inl f_lostMany))] t) (va_A [(aR, .inr (15, fsR)), (q_lostMany, .inl (k_lostMany, 5, .inl f_lostMany))] sz))  0 0 (va_A [(aR, .inr (15, fsR)), (q_lostMany, .inl (k_lostMany, 5, .inl f_lostMany))] sz) := by
  refine Met.ofW (cc := cX12_lostThing) (maxL := 3) (ret := (some .int)) (by decide) rfl ?_
  intro p e s m args below meth c s₁ B hml hv
  obtain ⟨rfl, hsz, hP, hK, hD0⟩ := hv
  have hx := B.exec
  have hb := B.bytes
  have hr := B.returns
  have hts := atoms_spec (ws := w_n_lostThing) B.pre
  have hown : s.vm.findClass RX12 = some m.cls := findClass_of_methodNamed B.named
  have hlocks := B.notSynchronized
  subst hsz
  have hD := hD0.self (sz := s.heap.size)
  generalize hAe : va_A [(aR, .inr (15, fsR)), (q_lostMany, .inl (k_lostMany, 5, .inl f_lostMany))] s.heap.size = A at hD ⊢
  have hA : ∀ q : Nat, s.heap.size ≤ q → A q := fun q h => by rw [← hAe]; exact Or.inr h
  have hS : va_S A s.heap s.heap [] := va_S.rf
  have hl := lv_entry ([.ref aR, .int p0, .int p1]) (n := 3) (Nat.le_of_ble_eq_true rfl)
  rw [lg_entry_eq]
  generalize (lg_sl ([.ref aR, .int p0, .int p1]) ++ List.replicate (3 - (lg_sl ([.ref aR, .int p0, .int p1])).length) Slot.unset).toArray = ls at hl ⊢
  have hl : lv_has ls 3 [(0, .ref aR), (1, .int p0), (2, .int p1)] := hl
  have o_fsR := ow_0 k_fsR
  refine lv_aload_n hx hb dX12_lostThing_0 rfl (lv_at hl 0 rfl) ?_
  refine lv_iconst (v := 0) hx hb dX12_lostThing_1 (by decide) ?_
  refine va_put (D := (dC, dI)) (ci := 15) (v := .int 0) (ty := .int) (C := RX12) (T := TX12) (N := 150) hx hb hts (in_n_lostThing_X12) tyX12 tyX12_ok nmX12 hown hK hP hD hS 0 rfl rfl 0 (by decide) (hts (.fieldLink RX12 388 "HeapWorksModel" "thrown" "I") (by decide +kernel)) (fun _ h9 => h9) rfl (by decide +kernel) rfl rfl (by rw [o_fsR.2.1]; decide) dX12_lostThing_2 (fun H locs hP hD hS => ?_)
  have hP : va_P (dC, dI) vwCl [(aR, .inr (15, (fsR.set 0 (.int 0)))), (q_lostMany, .inl (k_lostMany, 5, .inl f_lostMany))] H := hP
  have hD : va_D A [(aR, .inr (15, (fsR.set 0 (.int 0)))), (q_lostMany, .inl (k_lostMany, 5, .inl f_lostMany))] := hD
  have o_s4571 := ow_set o_fsR 0 (.int 0) (by decide) (l' := [(0, .int 0), (62, .ref q_lostMany)]) (w' := [0]) rfl rfl
  generalize (fsR.set 0 (.int 0)) = s4571 at hP hD o_s4571
  refine lv_aload_n hx hb dX12_lostThing_5 rfl (lv_at hl 0 rfl) ?_
  refine lv_iload_n hx hb dX12_lostThing_6 rfl (lv_at hl 1 rfl) ?_
  have hPc := hP.sub (ws' := []) [] rfl
  have hDc := hD.sub (ws' := []) [] (by decide) rfl
  have hKc := hK.sub (tys' := []) [] rfl
  have hFc := va_free (wc := []) hD hS hA [] rfl
  refine va_calli (va_runV (As := [.int p0]) (rest := []) ⟨hx, hb, hml, hown, hts⟩ (z_X12_isPicture l dC dI H.size aR p0  ) (cwV 1 hts g_n_lostThing_z_X12_isPicture_542 rfl rfl rfl (by decide +kernel) ⟨Nat.le_of_ble_eq_true rfl, Nat.le_of_ble_eq_true rfl⟩) ⟨fun a U g mk q => by obtain ⟨q0, q1, qP, qK, qD⟩ := q; exact ⟨q0, q1, qP, va_K.moved (u := U) (U := U.calling g mk a) (Vm.Alike.refl U.vm) qK, qD⟩, va_recv hK hP (ci := 15) (q0 := 0) rfl rfl, fun U hU hW => ⟨rfl, by rw [hU], by rw [hU]; exact hPc, va_K.moved hW.alike hKc, hDc.weaken (fun _ _ _ _ => trivial)⟩⟩ rfl rfl hl.1 rfl (lv_room (Nat.le_of_ble_eq_true rfl)) dX12_lostThing_7 ⟨Nat.le_of_ble_eq_true rfl, Nat.le_of_ble_eq_true rfl⟩) hS (fun q _ h => hFc q h) hFc (fun r4574 u t H1 locs ht hvm hw hB hz1 hk1 hS => ?_)
  obtain ⟨hP1, hK1, hD1⟩ := hB
  rw [ht] at hP1
  try dsimp only at hw
  obtain ⟨hP, hD⟩ := va_join (wr := [(aR, .inr (15, s4571)), (q_lostMany, .inl (k_lostMany, 5, .inl f_lostMany))]) (w1 := []) hP hD [] [0, 1] rfl rfl (by decide) (by decide) hk1 hFc hP1 hD1
  have hK := hK.sub (tys' := [(k_lostMany, .int)]) [0] rfl
  generalize H1 = H at hP hS ⊢
  have hP : va_P (dC, dI) vwCl [(aR, .inr (15, s4571)), (q_lostMany, .inl (k_lostMany, 5, .inl f_lostMany))] H := hP
  have hD : va_D A [(aR, .inr (15, s4571)), (q_lostMany, .inl (k_lostMany, 5, .inl f_lostMany))] := hD
  rcases hw with ⟨c4575, er4576⟩ | ⟨c4577, c4578, er4579⟩ | ⟨c4580, c4581, er4582⟩
  · skip
    subst er4576
    refine lv_if_eq (tgt := 41) hx hb dX12_lostThing_10 (by decide) (fun c4583 => ?_) (fun c4583 => absurd c4583 (by decide))
    refine lv_iconst (v := (-1)) hx hb dX12_lostThing_41 (by decide) ?_
    have hP9 := hP.sub (ws' := [(aR, .inr (15, s4571)), (q_lostMany, .inl (k_lostMany, 5, .inl f_lostMany))]) [0, 1] rfl
    have hD9 := hD.sub (ws' := [(aR, .inr (15, s4571)), (q_lostMany, .inl (k_lostMany, 5, .inl f_lostMany))]) [0, 1] (by decide) rfl
    have hK9 := hK.sub (tys' := [(k_lostMany, .int)]) [0] rfl
    exact W.iret (v := (-1)) hx hb hr (fun t ht hW => ⟨⟨(-1), s4571, rfl, (Or.inl ⟨c4575, rfl, o_s4571⟩), by rw [ht]; exact hP9, va_K.moved hW.alike hK9, hD9⟩, hS.F ht⟩) hS.2.2 dX12_lostThing_42
  · skip
    subst er4579
    refine lv_if_eq (tgt := 41) hx hb dX12_lostThing_10 (by decide) (fun c4584 => ?_) (fun c4584 => absurd c4584 (by decide))
    refine lv_iconst (v := (-1)) hx hb dX12_lostThing_41 (by decide) ?_
    have hP9 := hP.sub (ws' := [(aR, .inr (15, s4571)), (q_lostMany, .inl (k_lostMany, 5, .inl f_lostMany))]) [0, 1] rfl
    have hD9 := hD.sub (ws' := [(aR, .inr (15, s4571)), (q_lostMany, .inl (k_lostMany, 5, .inl f_lostMany))]) [0, 1] (by decide) rfl
    have hK9 := hK.sub (tys' := [(k_lostMany, .int)]) [0] rfl
    exact W.iret (v := (-1)) hx hb hr (fun t ht hW => ⟨⟨(-1), s4571, rfl, (Or.inr (Or.inl ⟨c4577, c4578, rfl, o_s4571⟩)), by rw [ht]; exact hP9, va_K.moved hW.alike hK9, hD9⟩, hS.F ht⟩) hS.2.2 dX12_lostThing_42
  · skip
    subst er4582
    refine lv_if_eq (tgt := 41) hx hb dX12_lostThing_10 (by decide) (fun c4585 => absurd c4585 (by decide)) (fun c4585 => ?_)
    refine lv_iload_n hx hb dX12_lostThing_13 rfl (lv_at hl 2 rfl) ?_
    refine lv_if_lt (tgt := 41) hx hb dX12_lostThing_14 (by decide) (fun c4586 => ?_) (fun c4586 => ?_)
    · skip
      refine lv_iconst (v := (-1)) hx hb dX12_lostThing_41 (by decide) ?_
      have hP9 := hP.sub (ws' := [(aR, .inr (15, s4571)), (q_lostMany, .inl (k_lostMany, 5, .inl f_lostMany))]) [0, 1] rfl
      have hD9 := hD.sub (ws' := [(aR, .inr (15, s4571)), (q_lostMany, .inl (k_lostMany, 5, .inl f_lostMany))]) [0, 1] (by decide) rfl
      have hK9 := hK.sub (tys' := [(k_lostMany, .int)]) [0] rfl
      exact W.iret (v := (-1)) hx hb hr (fun t ht hW => ⟨⟨(-1), s4571, rfl, (Or.inr (Or.inr (Or.inl ⟨c4580, c4581, c4586, rfl, o_s4571⟩))), by rw [ht]; exact hP9, va_K.moved hW.alike hK9, hD9⟩, hS.F ht⟩) hS.2.2 dX12_lostThing_42
    · skip
      refine lv_iload_n hx hb dX12_lostThing_17 rfl (lv_at hl 2 rfl) ?_
      refine lv_aload_n hx hb dX12_lostThing_18 rfl (lv_at hl 0 rfl) ?_
      refine va_get (D := (dC, dI)) (ci := 15) (v := .ref q_lostMany) (C := RX12) (T := TX12) (N := 150) hx hb hts (in_n_lostThing_X12) hown hK hP 0 rfl rfl 62 (by decide) (hts (.fieldLink RX12 225 "HeapWorksModel" "lostMany" "[I") (by decide +kernel)) (fun _ h9 => h9) (ow_at o_s4571 1 rfl) dX12_lostThing_19 ?_
      refine lv_iload_n hx hb dX12_lostThing_22 rfl (lv_at hl 1 rfl) ?_
      refine va_iald hx hb hK hP 1 0 rfl rfl (by rw [vp_in_iff]; (try simp only [i_lt, i_le, i_eq, kc_0, kc_4] at c4580 c4581); omega) dX12_lostThing_23 ?_
      refine lv_topi (fun x4587 ex4587 => ?_)
      obtain rfl : x4587 = 0 := ex4587.trans (hz_f_lostMany _)
      refine lv_icmp_ge (tgt := 41) hx hb dX12_lostThing_24 (by decide) (fun c4588 => ?_) (fun c4588 => (by exfalso; have bd_p1 := i_bd p1; (try simp only [i_lt, i_le, i_eq, kc_0] at c4586 c4588); omega))
      refine lv_iconst (v := (-1)) hx hb dX12_lostThing_41 (by decide) ?_
      have hP9 := hP.sub (ws' := [(aR, .inr (15, s4571)), (q_lostMany, .inl (k_lostMany, 5, .inl f_lostMany))]) [0, 1] rfl
      have hD9 := hD.sub (ws' := [(aR, .inr (15, s4571)), (q_lostMany, .inl (k_lostMany, 5, .inl f_lostMany))]) [0, 1] (by decide) rfl
      have hK9 := hK.sub (tys' := [(k_lostMany, .int)]) [0] rfl
      exact W.iret (v := (-1)) hx hb hr (fun t ht hW => ⟨⟨(-1), s4571, rfl, (Or.inr (Or.inr (Or.inr (⟨c4580, c4581, c4586, c4588, rfl, o_s4571⟩)))), by rw [ht]; exact hP9, va_K.moved hW.alike hK9, hD9⟩, hS.F ht⟩) hS.2.2 dX12_lostThing_42

def l_n_growth : List Cond := [.methodLink RX12 542 yX12_isPicture, .instanceMethod yX12_isPicture, .selects RX12 yX12_isPicture yX12_isPicture, .initialized RX12, .fieldLink RX12 388 "HeapWorksModel" "thrown" "I", .fieldLink RX12 612 "HeapWorksModel" "grownMany" "I", .fieldLink RX12 183 "HeapWorksModel" "things" "[I", .code yX12_isPicture cX12_isPicture 2 (some .boolean)]
def w_n_growth : List Cond := .code yX12_growth cX12_growth 8 (some .int) :: (l_n_growth ++ (wsX120))
theorem in_n_growth_X12 : ∀ w ∈ wsX120, w ∈ w_n_growth := fun w h => List.mem_cons_of_mem _ (List.mem_append_right _ (h))
theorem g_n_growth_z_X12_isPicture_542 : GoodIn w_n_growth (wsV RX12 542 RX12 yX12_isPicture w_z_X12_isPicture) := goodIn_app (goodIn_sub (by decide +kernel) (by decide +kernel)) (goodIn_sub (by decide +kernel) (by decide +kernel))
set_option maxHeartbeats 4000000 in
set_option maxRecDepth 100000 in
theorem n_growth (l : Launch) (dC : Nat → ClassId) (dI : Nat → Nat → Nat) (sz : Nat) (aR : Nat) (fsR : List Value) (q_things : Nat) (f_things : Nat → Int32) (k_things : ClassId) (p0 : Int32) (p1 : Int32) (p2 : Int32) (k_fsR : fh fsR 150 [(0, .int 0), (48, .ref q_things), (75, .int 0)]) (hz_f_things : ∀ j, f_things j = 0) : Met l yX12_growth w_n_growth ({ frames := 1, cells := 0, slots := 0, locals := 21 }) (va_Pc [.ref aR, .int p0, .int p1, .int p2] (fun U => U.heap.size = sz ∧ Wd dC dI [(k_things, .int)] (fun _ => True) [(aR, .inr (15, fsR)), (q_things, .inl (k_things, 5, .inl f_things))] U)) (va_Qi (fun (r : Int32) (u : List Value) => (p0 < 0 ∧ r = 0 ∧ ow fsR (u) 150 [0] [(0, .int 1), (48, .ref q_things), (75, .int 0)]) ∨ (¬ p0 < 0 ∧ 4 ≤ p0 ∧ r = 0 ∧ ow fsR (u) 150 [0] [(0, .int 1), (48, .ref q_things), (75, .int 0)]) ∨ (¬ p0 < 0 ∧ ¬ 4 ≤ p0 ∧ p1 < 0 ∧ r = 0 ∧ ow fsR (u) 150 [0] [(0, .int 1), (48, .ref q_things), (75, .int 0)]) ∨ (¬ p0 < 0 ∧ ¬ 4 ≤ p0 ∧ ¬ p1 < 0 ∧ 4 ≤ p1 ∧ r = 0 ∧ ow fsR (u) 150 [0] [(0, .int 1), (48, .ref q_things), (75, .int 0)]) ∨ (¬ p0 < 0 ∧ ¬ 4 ≤ p0 ∧ ¬ p1 < 0 ∧ ¬ 4 ≤ p1 ∧ p2 < 0 ∧ r = 0 ∧ ow fsR (u) 150 [0] [(0, .int 1), (48, .ref q_things), (75, .int 0)]) ∨ (¬ p0 < 0 ∧ ¬ 4 ≤ p0 ∧ ¬ p1 < 0 ∧ ¬ 4 ≤ p1 ∧ ¬ p2 < 0 ∧ p2 ≤ 2 ∧ ¬ p2 = 1 ∧ ¬ p2 = 1 ∧ r = 0 ∧ ow fsR (u) 150 [75, 0] [(75, .int 0), (0, .int 0), (48, .ref q_things)]) ∨ (¬ p0 < 0 ∧ ¬ 4 ≤ p0 ∧ ¬ p1 < 0 ∧ ¬ 4 ≤ p1 ∧ ¬ p2 < 0 ∧ p2 ≤ 2 ∧ ¬ p2 = 1 ∧ p2 = 1 ∧ r = 0 ∧ ow fsR (u) 150 [75, 0] [(75, .int 0), (0, .int 0), (48, .ref q_things)]) ∨ (¬ p0 < 0 ∧ ¬ 4 ≤ p0 ∧ ¬ p1 < 0 ∧ ¬ 4 ≤ p1 ∧ ¬ p2 < 0 ∧ p2 ≤ 2 ∧ p2 = 1 ∧ p2 = 1 ∧ r = 0 ∧ ow fsR (u) 150 [75, 0] [(75, .int 0), (0, .int 0), (48, .ref q_things)]) ∨ (¬ p0 < 0 ∧ ¬ 4 ≤ p0 ∧ ¬ p1 < 0 ∧ ¬ 4 ≤ p1 ∧ ¬ p2 < 0 ∧ ¬ p2 ≤ 2 ∧ r = 0 ∧ ow fsR (u) 150 [0] [(0, .int 1), (48, .ref q_things), (75, .int 0)])) (fun (u : List Value) t => Wd dC dI [(k_things, .int)] (va_A [(aR, .inr (15, fsR)), (q_things, .inl (k_things, 5, .inl f_things))] sz) [(aR, .inr (15, (u))), (q_things, .inl (k_things, 5, .inl f_things))] t) (va_A [(aR, .inr (15, fsR)), (q_things, .inl (k_things, 5, .inl f_things))] sz))  0 0 (va_A [(aR, .inr (15, fsR)), (q_things, .inl (k_things, 5, .inl f_things))] sz) := by
  refine Met.ofW (cc := cX12_growth) (maxL := 8) (ret := (some .int)) (by decide) rfl ?_
  intro p e s m args below meth c s₁ B hml hv
  obtain ⟨rfl, hsz, hP, hK, hD0⟩ := hv
  have hx := B.exec
  have hb := B.bytes
  have hr := B.returns
  have hts := atoms_spec (ws := w_n_growth) B.pre
  have hown : s.vm.findClass RX12 = some m.cls := findClass_of_methodNamed B.named
  have hlocks := B.notSynchronized
  subst hsz
  have hD := hD0.self (sz := s.heap.size)
  generalize hAe : va_A [(aR, .inr (15, fsR)), (q_things, .inl (k_things, 5, .inl f_things))] s.heap.size = A at hD ⊢
  have hA : ∀ q : Nat, s.heap.size ≤ q → A q := fun q h => by rw [← hAe]; exact Or.inr h
  have hS : va_S A s.heap s.heap [] := va_S.rf
  have hl := lv_entry ([.ref aR, .int p0, .int p1, .int p2]) (n := 8) (Nat.le_of_ble_eq_true rfl)
  rw [lg_entry_eq]
  generalize (lg_sl ([.ref aR, .int p0, .int p1, .int p2]) ++ List.replicate (8 - (lg_sl ([.ref aR, .int p0, .int p1, .int p2])).length) Slot.unset).toArray = ls at hl ⊢
  have hl : lv_has ls 8 [(0, .ref aR), (1, .int p0), (2, .int p1), (3, .int p2)] := hl
  have o_fsR := ow_0 k_fsR
  refine lv_aload_n hx hb dX12_growth_0 rfl (lv_at hl 0 rfl) ?_
  refine lv_aload_n hx hb dX12_growth_1 rfl (lv_at hl 0 rfl) ?_
  refine lv_iload_n hx hb dX12_growth_2 rfl (lv_at hl 1 rfl) ?_
  have hPc := hP.sub (ws' := []) [] rfl
  have hDc := hD.sub (ws' := []) [] (by decide) rfl
  have hKc := hK.sub (tys' := []) [] rfl
  have hFc := va_free (wc := []) hD hS hA [] rfl
  refine va_calli (va_runV (As := [.int p0]) (rest := [.ref aR]) ⟨hx, hb, hml, hown, hts⟩ (z_X12_isPicture l dC dI s.heap.size aR p0  ) (cwV 1 hts g_n_growth_z_X12_isPicture_542 rfl rfl rfl (by decide +kernel) ⟨Nat.le_of_ble_eq_true rfl, Nat.le_of_ble_eq_true rfl⟩) ⟨fun a U g mk q => by obtain ⟨q0, q1, qP, qK, qD⟩ := q; exact ⟨q0, q1, qP, va_K.moved (u := U) (U := U.calling g mk a) (Vm.Alike.refl U.vm) qK, qD⟩, va_recv hK hP (ci := 15) (q0 := 0) rfl rfl, fun U hU hW => ⟨rfl, by rw [hU], by rw [hU]; exact hPc, va_K.moved hW.alike hKc, hDc.weaken (fun _ _ _ _ => trivial)⟩⟩ rfl rfl hl.1 rfl (lv_room (Nat.le_of_ble_eq_true rfl)) dX12_growth_3 ⟨Nat.le_of_ble_eq_true rfl, Nat.le_of_ble_eq_true rfl⟩) hS (fun q _ h => hFc q h) hFc (fun r4645 u t H1 locs ht hvm hw hB hz1 hk1 hS => ?_)
  obtain ⟨hP1, hK1, hD1⟩ := hB
  rw [ht] at hP1
  try dsimp only at hw
  obtain ⟨hP, hD⟩ := va_join (wr := [(aR, .inr (15, fsR)), (q_things, .inl (k_things, 5, .inl f_things))]) (w1 := []) hP hD [] [0, 1] rfl rfl (by decide) (by decide) hk1 hFc hP1 hD1
  have hK := hK.sub (tys' := [(k_things, .int)]) [0] rfl
  generalize H1 = H at hP hS ⊢
  have hP : va_P (dC, dI) vwCl [(aR, .inr (15, fsR)), (q_things, .inl (k_things, 5, .inl f_things))] H := hP
  have hD : va_D A [(aR, .inr (15, fsR)), (q_things, .inl (k_things, 5, .inl f_things))] := hD
  rcases hw with ⟨c4646, er4647⟩ | ⟨c4648, c4649, er4650⟩ | ⟨c4651, c4652, er4653⟩
  · skip
    subst er4647
    refine lv_if_eq (tgt := 26) hx hb dX12_growth_6 (by decide) (fun c4654 => ?_) (fun c4654 => absurd c4654 (by decide))
    refine lv_iconst (v := 1) hx hb dX12_growth_26 (by decide) ?_
    refine lv_goto (tgt := 31) hx hb dX12_growth_27 (by decide) ?_
    refine va_put (D := (dC, dI)) (ci := 15) (v := .int 1) (ty := .int) (C := RX12) (T := TX12) (N := 150) hx hb hts (in_n_growth_X12) tyX12 tyX12_ok nmX12 hown hK hP hD hS 0 rfl rfl 0 (by decide) (hts (.fieldLink RX12 388 "HeapWorksModel" "thrown" "I") (by decide +kernel)) (fun _ h9 => h9) rfl (by decide +kernel) rfl rfl (by rw [o_fsR.2.1]; decide) dX12_growth_31 (fun H locs hP hD hS => ?_)
    have hP : va_P (dC, dI) vwCl [(aR, .inr (15, (fsR.set 0 (.int 1)))), (q_things, .inl (k_things, 5, .inl f_things))] H := hP
    have hD : va_D A [(aR, .inr (15, (fsR.set 0 (.int 1)))), (q_things, .inl (k_things, 5, .inl f_things))] := hD
    have o_s4655 := ow_set o_fsR 0 (.int 1) (by decide) (l' := [(0, .int 1), (48, .ref q_things), (75, .int 0)]) (w' := [0]) rfl rfl
    generalize (fsR.set 0 (.int 1)) = s4655 at hP hD o_s4655
    refine lv_aload_n hx hb dX12_growth_34 rfl (lv_at hl 0 rfl) ?_
    refine va_get (D := (dC, dI)) (ci := 15) (v := .int 1) (C := RX12) (T := TX12) (N := 150) hx hb hts (in_n_growth_X12) hown hK hP 0 rfl rfl 0 (by decide) (hts (.fieldLink RX12 388 "HeapWorksModel" "thrown" "I") (by decide +kernel)) (fun _ h9 => h9) (ow_at o_s4655 0 rfl) dX12_growth_35 ?_
    refine lv_if_le (tgt := 43) hx hb dX12_growth_38 (by decide) (fun c4656 => absurd c4656 (by decide)) (fun c4656 => ?_)
    refine lv_iconst (v := 0) hx hb dX12_growth_41 (by decide) ?_
    have hP9 := hP.sub (ws' := [(aR, .inr (15, s4655)), (q_things, .inl (k_things, 5, .inl f_things))]) [0, 1] rfl
    have hD9 := hD.sub (ws' := [(aR, .inr (15, s4655)), (q_things, .inl (k_things, 5, .inl f_things))]) [0, 1] (by decide) rfl
    have hK9 := hK.sub (tys' := [(k_things, .int)]) [0] rfl
    exact W.iret (v := 0) hx hb hr (fun t ht hW => ⟨⟨0, s4655, rfl, (Or.inl ⟨c4646, rfl, o_s4655⟩), by rw [ht]; exact hP9, va_K.moved hW.alike hK9, hD9⟩, hS.F ht⟩) hS.2.2 dX12_growth_42
  · skip
    subst er4650
    refine lv_if_eq (tgt := 26) hx hb dX12_growth_6 (by decide) (fun c4657 => ?_) (fun c4657 => absurd c4657 (by decide))
    refine lv_iconst (v := 1) hx hb dX12_growth_26 (by decide) ?_
    refine lv_goto (tgt := 31) hx hb dX12_growth_27 (by decide) ?_
    refine va_put (D := (dC, dI)) (ci := 15) (v := .int 1) (ty := .int) (C := RX12) (T := TX12) (N := 150) hx hb hts (in_n_growth_X12) tyX12 tyX12_ok nmX12 hown hK hP hD hS 0 rfl rfl 0 (by decide) (hts (.fieldLink RX12 388 "HeapWorksModel" "thrown" "I") (by decide +kernel)) (fun _ h9 => h9) rfl (by decide +kernel) rfl rfl (by rw [o_fsR.2.1]; decide) dX12_growth_31 (fun H locs hP hD hS => ?_)
    have hP : va_P (dC, dI) vwCl [(aR, .inr (15, (fsR.set 0 (.int 1)))), (q_things, .inl (k_things, 5, .inl f_things))] H := hP
    have hD : va_D A [(aR, .inr (15, (fsR.set 0 (.int 1)))), (q_things, .inl (k_things, 5, .inl f_things))] := hD
    have o_s4658 := ow_set o_fsR 0 (.int 1) (by decide) (l' := [(0, .int 1), (48, .ref q_things), (75, .int 0)]) (w' := [0]) rfl rfl
    generalize (fsR.set 0 (.int 1)) = s4658 at hP hD o_s4658
    refine lv_aload_n hx hb dX12_growth_34 rfl (lv_at hl 0 rfl) ?_
    refine va_get (D := (dC, dI)) (ci := 15) (v := .int 1) (C := RX12) (T := TX12) (N := 150) hx hb hts (in_n_growth_X12) hown hK hP 0 rfl rfl 0 (by decide) (hts (.fieldLink RX12 388 "HeapWorksModel" "thrown" "I") (by decide +kernel)) (fun _ h9 => h9) (ow_at o_s4658 0 rfl) dX12_growth_35 ?_
    refine lv_if_le (tgt := 43) hx hb dX12_growth_38 (by decide) (fun c4659 => absurd c4659 (by decide)) (fun c4659 => ?_)
    refine lv_iconst (v := 0) hx hb dX12_growth_41 (by decide) ?_
    have hP9 := hP.sub (ws' := [(aR, .inr (15, s4658)), (q_things, .inl (k_things, 5, .inl f_things))]) [0, 1] rfl
    have hD9 := hD.sub (ws' := [(aR, .inr (15, s4658)), (q_things, .inl (k_things, 5, .inl f_things))]) [0, 1] (by decide) rfl
    have hK9 := hK.sub (tys' := [(k_things, .int)]) [0] rfl
    exact W.iret (v := 0) hx hb hr (fun t ht hW => ⟨⟨0, s4658, rfl, (Or.inr (Or.inl ⟨c4648, c4649, rfl, o_s4658⟩)), by rw [ht]; exact hP9, va_K.moved hW.alike hK9, hD9⟩, hS.F ht⟩) hS.2.2 dX12_growth_42
  · skip
    subst er4653
    refine lv_if_eq (tgt := 26) hx hb dX12_growth_6 (by decide) (fun c4660 => absurd c4660 (by decide)) (fun c4660 => ?_)
    refine lv_aload_n hx hb dX12_growth_9 rfl (lv_at hl 0 rfl) ?_
    refine lv_iload_n hx hb dX12_growth_10 rfl (lv_at hl 2 rfl) ?_
    have hPc := hP.sub (ws' := []) [] rfl
    have hDc := hD.sub (ws' := []) [] (by decide) rfl
    have hKc := hK.sub (tys' := []) [] rfl
    have hFc := va_free (wc := []) hD hS hA [] rfl
    refine va_calli (va_runV (As := [.int p1]) (rest := [.ref aR]) ⟨hx, hb, hml, hown, hts⟩ (z_X12_isPicture l dC dI H.size aR p1  ) (cwV 1 hts g_n_growth_z_X12_isPicture_542 rfl rfl rfl (by decide +kernel) ⟨Nat.le_of_ble_eq_true rfl, Nat.le_of_ble_eq_true rfl⟩) ⟨fun a U g mk q => by obtain ⟨q0, q1, qP, qK, qD⟩ := q; exact ⟨q0, q1, qP, va_K.moved (u := U) (U := U.calling g mk a) (Vm.Alike.refl U.vm) qK, qD⟩, va_recv hK hP (ci := 15) (q0 := 0) rfl rfl, fun U hU hW => ⟨rfl, by rw [hU], by rw [hU]; exact hPc, va_K.moved hW.alike hKc, hDc.weaken (fun _ _ _ _ => trivial)⟩⟩ rfl rfl hl.1 rfl (lv_room (Nat.le_of_ble_eq_true rfl)) dX12_growth_11 ⟨Nat.le_of_ble_eq_true rfl, Nat.le_of_ble_eq_true rfl⟩) hS (fun q _ h => hFc q h) hFc (fun r4663 u t H1 locs ht hvm hw hB hz1 hk1 hS => ?_)
    obtain ⟨hP1, hK1, hD1⟩ := hB
    rw [ht] at hP1
    try dsimp only at hw
    obtain ⟨hP, hD⟩ := va_join (wr := [(aR, .inr (15, fsR)), (q_things, .inl (k_things, 5, .inl f_things))]) (w1 := []) hP hD [] [0, 1] rfl rfl (by decide) (by decide) hk1 hFc hP1 hD1
    have hK := hK.sub (tys' := [(k_things, .int)]) [0] rfl
    generalize H1 = H at hP hS ⊢
    have hP : va_P (dC, dI) vwCl [(aR, .inr (15, fsR)), (q_things, .inl (k_things, 5, .inl f_things))] H := hP
    have hD : va_D A [(aR, .inr (15, fsR)), (q_things, .inl (k_things, 5, .inl f_things))] := hD
    rcases hw with ⟨c4664, er4665⟩ | ⟨c4666, c4667, er4668⟩ | ⟨c4669, c4670, er4671⟩
    · skip
      subst er4665
      refine lv_if_eq (tgt := 26) hx hb dX12_growth_14 (by decide) (fun c4672 => ?_) (fun c4672 => absurd c4672 (by decide))
      refine lv_iconst (v := 1) hx hb dX12_growth_26 (by decide) ?_
      refine lv_goto (tgt := 31) hx hb dX12_growth_27 (by decide) ?_
      refine va_put (D := (dC, dI)) (ci := 15) (v := .int 1) (ty := .int) (C := RX12) (T := TX12) (N := 150) hx hb hts (in_n_growth_X12) tyX12 tyX12_ok nmX12 hown hK hP hD hS 0 rfl rfl 0 (by decide) (hts (.fieldLink RX12 388 "HeapWorksModel" "thrown" "I") (by decide +kernel)) (fun _ h9 => h9) rfl (by decide +kernel) rfl rfl (by rw [o_fsR.2.1]; decide) dX12_growth_31 (fun H locs hP hD hS => ?_)
      have hP : va_P (dC, dI) vwCl [(aR, .inr (15, (fsR.set 0 (.int 1)))), (q_things, .inl (k_things, 5, .inl f_things))] H := hP
      have hD : va_D A [(aR, .inr (15, (fsR.set 0 (.int 1)))), (q_things, .inl (k_things, 5, .inl f_things))] := hD
      have o_s4673 := ow_set o_fsR 0 (.int 1) (by decide) (l' := [(0, .int 1), (48, .ref q_things), (75, .int 0)]) (w' := [0]) rfl rfl
      generalize (fsR.set 0 (.int 1)) = s4673 at hP hD o_s4673
      refine lv_aload_n hx hb dX12_growth_34 rfl (lv_at hl 0 rfl) ?_
      refine va_get (D := (dC, dI)) (ci := 15) (v := .int 1) (C := RX12) (T := TX12) (N := 150) hx hb hts (in_n_growth_X12) hown hK hP 0 rfl rfl 0 (by decide) (hts (.fieldLink RX12 388 "HeapWorksModel" "thrown" "I") (by decide +kernel)) (fun _ h9 => h9) (ow_at o_s4673 0 rfl) dX12_growth_35 ?_
      refine lv_if_le (tgt := 43) hx hb dX12_growth_38 (by decide) (fun c4674 => absurd c4674 (by decide)) (fun c4674 => ?_)
      refine lv_iconst (v := 0) hx hb dX12_growth_41 (by decide) ?_
      have hP9 := hP.sub (ws' := [(aR, .inr (15, s4673)), (q_things, .inl (k_things, 5, .inl f_things))]) [0, 1] rfl
      have hD9 := hD.sub (ws' := [(aR, .inr (15, s4673)), (q_things, .inl (k_things, 5, .inl f_things))]) [0, 1] (by decide) rfl
      have hK9 := hK.sub (tys' := [(k_things, .int)]) [0] rfl
      exact W.iret (v := 0) hx hb hr (fun t ht hW => ⟨⟨0, s4673, rfl, (Or.inr (Or.inr (Or.inl ⟨c4651, c4652, c4664, rfl, o_s4673⟩))), by rw [ht]; exact hP9, va_K.moved hW.alike hK9, hD9⟩, hS.F ht⟩) hS.2.2 dX12_growth_42
    · skip
      subst er4668
      refine lv_if_eq (tgt := 26) hx hb dX12_growth_14 (by decide) (fun c4675 => ?_) (fun c4675 => absurd c4675 (by decide))
      refine lv_iconst (v := 1) hx hb dX12_growth_26 (by decide) ?_
      refine lv_goto (tgt := 31) hx hb dX12_growth_27 (by decide) ?_
      refine va_put (D := (dC, dI)) (ci := 15) (v := .int 1) (ty := .int) (C := RX12) (T := TX12) (N := 150) hx hb hts (in_n_growth_X12) tyX12 tyX12_ok nmX12 hown hK hP hD hS 0 rfl rfl 0 (by decide) (hts (.fieldLink RX12 388 "HeapWorksModel" "thrown" "I") (by decide +kernel)) (fun _ h9 => h9) rfl (by decide +kernel) rfl rfl (by rw [o_fsR.2.1]; decide) dX12_growth_31 (fun H locs hP hD hS => ?_)
      have hP : va_P (dC, dI) vwCl [(aR, .inr (15, (fsR.set 0 (.int 1)))), (q_things, .inl (k_things, 5, .inl f_things))] H := hP
      have hD : va_D A [(aR, .inr (15, (fsR.set 0 (.int 1)))), (q_things, .inl (k_things, 5, .inl f_things))] := hD
      have o_s4676 := ow_set o_fsR 0 (.int 1) (by decide) (l' := [(0, .int 1), (48, .ref q_things), (75, .int 0)]) (w' := [0]) rfl rfl
      generalize (fsR.set 0 (.int 1)) = s4676 at hP hD o_s4676
      refine lv_aload_n hx hb dX12_growth_34 rfl (lv_at hl 0 rfl) ?_
      refine va_get (D := (dC, dI)) (ci := 15) (v := .int 1) (C := RX12) (T := TX12) (N := 150) hx hb hts (in_n_growth_X12) hown hK hP 0 rfl rfl 0 (by decide) (hts (.fieldLink RX12 388 "HeapWorksModel" "thrown" "I") (by decide +kernel)) (fun _ h9 => h9) (ow_at o_s4676 0 rfl) dX12_growth_35 ?_
      refine lv_if_le (tgt := 43) hx hb dX12_growth_38 (by decide) (fun c4677 => absurd c4677 (by decide)) (fun c4677 => ?_)
      refine lv_iconst (v := 0) hx hb dX12_growth_41 (by decide) ?_
      have hP9 := hP.sub (ws' := [(aR, .inr (15, s4676)), (q_things, .inl (k_things, 5, .inl f_things))]) [0, 1] rfl
      have hD9 := hD.sub (ws' := [(aR, .inr (15, s4676)), (q_things, .inl (k_things, 5, .inl f_things))]) [0, 1] (by decide) rfl
      have hK9 := hK.sub (tys' := [(k_things, .int)]) [0] rfl
      exact W.iret (v := 0) hx hb hr (fun t ht hW => ⟨⟨0, s4676, rfl, (Or.inr (Or.inr (Or.inr (Or.inl ⟨c4651, c4652, c4666, c4667, rfl, o_s4676⟩)))), by rw [ht]; exact hP9, va_K.moved hW.alike hK9, hD9⟩, hS.F ht⟩) hS.2.2 dX12_growth_42
    · skip
      subst er4671
      refine lv_if_eq (tgt := 26) hx hb dX12_growth_14 (by decide) (fun c4678 => absurd c4678 (by decide)) (fun c4678 => ?_)
      refine lv_iload_n hx hb dX12_growth_17 rfl (lv_at hl 3 rfl) ?_
      refine lv_if_lt (tgt := 26) hx hb dX12_growth_18 (by decide) (fun c4679 => ?_) (fun c4679 => ?_)
      · skip
        refine lv_iconst (v := 1) hx hb dX12_growth_26 (by decide) ?_
        refine lv_goto (tgt := 31) hx hb dX12_growth_27 (by decide) ?_
        refine va_put (D := (dC, dI)) (ci := 15) (v := .int 1) (ty := .int) (C := RX12) (T := TX12) (N := 150) hx hb hts (in_n_growth_X12) tyX12 tyX12_ok nmX12 hown hK hP hD hS 0 rfl rfl 0 (by decide) (hts (.fieldLink RX12 388 "HeapWorksModel" "thrown" "I") (by decide +kernel)) (fun _ h9 => h9) rfl (by decide +kernel) rfl rfl (by rw [o_fsR.2.1]; decide) dX12_growth_31 (fun H locs hP hD hS => ?_)
        have hP : va_P (dC, dI) vwCl [(aR, .inr (15, (fsR.set 0 (.int 1)))), (q_things, .inl (k_things, 5, .inl f_things))] H := hP
        have hD : va_D A [(aR, .inr (15, (fsR.set 0 (.int 1)))), (q_things, .inl (k_things, 5, .inl f_things))] := hD
        have o_s4680 := ow_set o_fsR 0 (.int 1) (by decide) (l' := [(0, .int 1), (48, .ref q_things), (75, .int 0)]) (w' := [0]) rfl rfl
        generalize (fsR.set 0 (.int 1)) = s4680 at hP hD o_s4680
        refine lv_aload_n hx hb dX12_growth_34 rfl (lv_at hl 0 rfl) ?_
        refine va_get (D := (dC, dI)) (ci := 15) (v := .int 1) (C := RX12) (T := TX12) (N := 150) hx hb hts (in_n_growth_X12) hown hK hP 0 rfl rfl 0 (by decide) (hts (.fieldLink RX12 388 "HeapWorksModel" "thrown" "I") (by decide +kernel)) (fun _ h9 => h9) (ow_at o_s4680 0 rfl) dX12_growth_35 ?_
        refine lv_if_le (tgt := 43) hx hb dX12_growth_38 (by decide) (fun c4681 => absurd c4681 (by decide)) (fun c4681 => ?_)
        refine lv_iconst (v := 0) hx hb dX12_growth_41 (by decide) ?_
        have hP9 := hP.sub (ws' := [(aR, .inr (15, s4680)), (q_things, .inl (k_things, 5, .inl f_things))]) [0, 1] rfl
        have hD9 := hD.sub (ws' := [(aR, .inr (15, s4680)), (q_things, .inl (k_things, 5, .inl f_things))]) [0, 1] (by decide) rfl
        have hK9 := hK.sub (tys' := [(k_things, .int)]) [0] rfl
        exact W.iret (v := 0) hx hb hr (fun t ht hW => ⟨⟨0, s4680, rfl, (Or.inr (Or.inr (Or.inr (Or.inr (Or.inl ⟨c4651, c4652, c4669, c4670, c4679, rfl, o_s4680⟩))))), by rw [ht]; exact hP9, va_K.moved hW.alike hK9, hD9⟩, hS.F ht⟩) hS.2.2 dX12_growth_42
      · skip
        refine lv_iload_n hx hb dX12_growth_21 rfl (lv_at hl 3 rfl) ?_
        refine lv_iconst (v := 2) hx hb dX12_growth_22 (by decide) ?_
        refine lv_icmp_le (tgt := 30) hx hb dX12_growth_23 (by decide) (fun c4682 => ?_) (fun c4682 => ?_)
        · skip
          refine lv_iconst (v := 0) hx hb dX12_growth_30 (by decide) ?_
          refine va_put (D := (dC, dI)) (ci := 15) (v := .int 0) (ty := .int) (C := RX12) (T := TX12) (N := 150) hx hb hts (in_n_growth_X12) tyX12 tyX12_ok nmX12 hown hK hP hD hS 0 rfl rfl 0 (by decide) (hts (.fieldLink RX12 388 "HeapWorksModel" "thrown" "I") (by decide +kernel)) (fun _ h9 => h9) rfl (by decide +kernel) rfl rfl (by rw [o_fsR.2.1]; decide) dX12_growth_31 (fun H locs hP hD hS => ?_)
          have hP : va_P (dC, dI) vwCl [(aR, .inr (15, (fsR.set 0 (.int 0)))), (q_things, .inl (k_things, 5, .inl f_things))] H := hP
          have hD : va_D A [(aR, .inr (15, (fsR.set 0 (.int 0)))), (q_things, .inl (k_things, 5, .inl f_things))] := hD
          have o_s4683 := ow_set o_fsR 0 (.int 0) (by decide) (l' := [(0, .int 0), (48, .ref q_things), (75, .int 0)]) (w' := [0]) rfl rfl
          generalize (fsR.set 0 (.int 0)) = s4683 at hP hD o_s4683
          refine lv_aload_n hx hb dX12_growth_34 rfl (lv_at hl 0 rfl) ?_
          refine va_get (D := (dC, dI)) (ci := 15) (v := .int 0) (C := RX12) (T := TX12) (N := 150) hx hb hts (in_n_growth_X12) hown hK hP 0 rfl rfl 0 (by decide) (hts (.fieldLink RX12 388 "HeapWorksModel" "thrown" "I") (by decide +kernel)) (fun _ h9 => h9) (ow_at o_s4683 0 rfl) dX12_growth_35 ?_
          refine lv_if_le (tgt := 43) hx hb dX12_growth_38 (by decide) (fun c4684 => ?_) (fun c4684 => absurd c4684 (by decide))
          refine lv_aload_n hx hb dX12_growth_43 rfl (lv_at hl 0 rfl) ?_
          refine lv_iconst (v := 0) hx hb dX12_growth_44 (by decide) ?_
          refine va_put (D := (dC, dI)) (ci := 15) (v := .int 0) (ty := .int) (C := RX12) (T := TX12) (N := 150) hx hb hts (in_n_growth_X12) tyX12 tyX12_ok nmX12 hown hK hP hD hS 0 rfl rfl 75 (by decide) (hts (.fieldLink RX12 612 "HeapWorksModel" "grownMany" "I") (by decide +kernel)) (fun _ h9 => h9) rfl (by decide +kernel) rfl rfl (by rw [o_s4683.2.1]; decide) dX12_growth_45 (fun H locs hP hD hS => ?_)
          have hP : va_P (dC, dI) vwCl [(aR, .inr (15, (s4683.set 75 (.int 0)))), (q_things, .inl (k_things, 5, .inl f_things))] H := hP
          have hD : va_D A [(aR, .inr (15, (s4683.set 75 (.int 0)))), (q_things, .inl (k_things, 5, .inl f_things))] := hD
          have o_s4685 := ow_set o_s4683 75 (.int 0) (by decide) (l' := [(75, .int 0), (0, .int 0), (48, .ref q_things)]) (w' := [75, 0]) rfl rfl
          generalize (s4683.set 75 (.int 0)) = s4685 at hP hD o_s4685
          refine lv_iload_n hx hb dX12_growth_48 rfl (lv_at hl 3 rfl) ?_
          refine lv_iconst (v := 1) hx hb dX12_growth_49 (by decide) ?_
          refine lv_icmp_ne (tgt := 57) hx hb dX12_growth_50 (by decide) (fun c4686 => ?_) (fun c4686 => ?_)
          · skip
            refine lv_iload_n hx hb dX12_growth_57 rfl (lv_at hl 2 rfl) ?_
            refine lv_istore (lv' := [(4, .int p1), (0, .ref aR), (1, .int p0), (2, .int p1), (3, .int p2)]) hx hb dX12_growth_58 hl (by decide) rfl (fun ls hl => ?_)
            refine lv_iload_n hx hb dX12_growth_60 rfl (lv_at hl 4 rfl) ?_
            refine lv_iconst (v := 1) hx hb dX12_growth_61 (by decide) ?_
            refine lv_icmp_ne (tgt := 69) hx hb dX12_growth_62 (by decide) (fun c4687 => ?_) (fun c4687 => ?_)
            · skip
              refine lv_iload_n hx hb dX12_growth_69 rfl (lv_at hl 2 rfl) ?_
              refine lv_istore (lv' := [(5, .int p0), (4, .int p1), (0, .ref aR), (1, .int p0), (2, .int p1), (3, .int p2)]) hx hb dX12_growth_70 hl (by decide) rfl (fun ls hl => ?_)
              refine lv_iconst (v := 0) hx hb dX12_growth_72 (by decide) ?_
              refine lv_istore (lv' := [(6, .int 0), (5, .int p0), (4, .int p1), (0, .ref aR), (1, .int p0), (2, .int p1), (3, .int p2)]) hx hb dX12_growth_73 hl (by decide) rfl (fun ls hl => ?_)
              refine lv_iload hx hb dX12_growth_75 (lv_at hl 0 rfl) ?_
              refine lv_aload_n hx hb dX12_growth_77 rfl (lv_at hl 3 rfl) ?_
              refine va_get (D := (dC, dI)) (ci := 15) (v := .ref q_things) (C := RX12) (T := TX12) (N := 150) hx hb hts (in_n_growth_X12) hown hK hP 0 rfl rfl 48 (by decide) (hts (.fieldLink RX12 183 "HeapWorksModel" "things" "[I") (by decide +kernel)) (fun _ h9 => h9) (ow_at o_s4685 2 rfl) dX12_growth_78 ?_
              refine lv_iload hx hb dX12_growth_81 (lv_at hl 2 rfl) ?_
              refine va_iald hx hb hK hP 1 0 rfl rfl (by rw [vp_in_iff]; (try simp only [i_lt, i_le, i_eq, kc_0, kc_4] at c4669 c4670); omega) dX12_growth_83 ?_
              refine lv_topi (fun x4688 ex4688 => ?_)
              obtain rfl : x4688 = 0 := ex4688.trans (hz_f_things _)
              refine lv_icmp_ge (tgt := 173) hx hb dX12_growth_84 (by decide) (fun c4689 => ?_) (fun c4689 => absurd c4689 (by decide))
              refine lv_aload_n hx hb dX12_growth_173 rfl (lv_at hl 3 rfl) ?_
              refine va_get (D := (dC, dI)) (ci := 15) (v := .int 0) (C := RX12) (T := TX12) (N := 150) hx hb hts (in_n_growth_X12) hown hK hP 0 rfl rfl 75 (by decide) (hts (.fieldLink RX12 612 "HeapWorksModel" "grownMany" "I") (by decide +kernel)) (fun _ h9 => h9) (ow_at o_s4685 0 rfl) dX12_growth_174 ?_
              have hP9 := hP.sub (ws' := [(aR, .inr (15, s4685)), (q_things, .inl (k_things, 5, .inl f_things))]) [0, 1] rfl
              have hD9 := hD.sub (ws' := [(aR, .inr (15, s4685)), (q_things, .inl (k_things, 5, .inl f_things))]) [0, 1] (by decide) rfl
              have hK9 := hK.sub (tys' := [(k_things, .int)]) [0] rfl
              exact W.iret (v := 0) hx hb hr (fun t ht hW => ⟨⟨0, s4685, rfl, (Or.inr (Or.inr (Or.inr (Or.inr (Or.inr (Or.inl ⟨c4651, c4652, c4669, c4670, c4679, c4682, c4686, c4687, rfl, o_s4685⟩)))))), by rw [ht]; exact hP9, va_K.moved hW.alike hK9, hD9⟩, hS.F ht⟩) hS.2.2 dX12_growth_177
            · skip
              refine lv_iload_n hx hb dX12_growth_65 rfl (lv_at hl 3 rfl) ?_
              refine lv_goto (tgt := 70) hx hb dX12_growth_66 (by decide) ?_
              refine lv_istore (lv' := [(5, .int p1), (4, .int p1), (0, .ref aR), (1, .int p0), (2, .int p1), (3, .int p2)]) hx hb dX12_growth_70 hl (by decide) rfl (fun ls hl => ?_)
              refine lv_iconst (v := 0) hx hb dX12_growth_72 (by decide) ?_
              refine lv_istore (lv' := [(6, .int 0), (5, .int p1), (4, .int p1), (0, .ref aR), (1, .int p0), (2, .int p1), (3, .int p2)]) hx hb dX12_growth_73 hl (by decide) rfl (fun ls hl => ?_)
              refine lv_iload hx hb dX12_growth_75 (lv_at hl 0 rfl) ?_
              refine lv_aload_n hx hb dX12_growth_77 rfl (lv_at hl 3 rfl) ?_
              refine va_get (D := (dC, dI)) (ci := 15) (v := .ref q_things) (C := RX12) (T := TX12) (N := 150) hx hb hts (in_n_growth_X12) hown hK hP 0 rfl rfl 48 (by decide) (hts (.fieldLink RX12 183 "HeapWorksModel" "things" "[I") (by decide +kernel)) (fun _ h9 => h9) (ow_at o_s4685 2 rfl) dX12_growth_78 ?_
              refine lv_iload hx hb dX12_growth_81 (lv_at hl 2 rfl) ?_
              refine va_iald hx hb hK hP 1 0 rfl rfl (by rw [vp_in_iff]; (try simp only [i_lt, i_le, i_eq, kc_0, kc_4] at c4669 c4670); omega) dX12_growth_83 ?_
              refine lv_topi (fun x4690 ex4690 => ?_)
              obtain rfl : x4690 = 0 := ex4690.trans (hz_f_things _)
              refine lv_icmp_ge (tgt := 173) hx hb dX12_growth_84 (by decide) (fun c4691 => ?_) (fun c4691 => absurd c4691 (by decide))
              refine lv_aload_n hx hb dX12_growth_173 rfl (lv_at hl 3 rfl) ?_
              refine va_get (D := (dC, dI)) (ci := 15) (v := .int 0) (C := RX12) (T := TX12) (N := 150) hx hb hts (in_n_growth_X12) hown hK hP 0 rfl rfl 75 (by decide) (hts (.fieldLink RX12 612 "HeapWorksModel" "grownMany" "I") (by decide +kernel)) (fun _ h9 => h9) (ow_at o_s4685 0 rfl) dX12_growth_174 ?_
              have hP9 := hP.sub (ws' := [(aR, .inr (15, s4685)), (q_things, .inl (k_things, 5, .inl f_things))]) [0, 1] rfl
              have hD9 := hD.sub (ws' := [(aR, .inr (15, s4685)), (q_things, .inl (k_things, 5, .inl f_things))]) [0, 1] (by decide) rfl
              have hK9 := hK.sub (tys' := [(k_things, .int)]) [0] rfl
              exact W.iret (v := 0) hx hb hr (fun t ht hW => ⟨⟨0, s4685, rfl, (Or.inr (Or.inr (Or.inr (Or.inr (Or.inr (Or.inr (Or.inl ⟨c4651, c4652, c4669, c4670, c4679, c4682, c4686, c4687, rfl, o_s4685⟩))))))), by rw [ht]; exact hP9, va_K.moved hW.alike hK9, hD9⟩, hS.F ht⟩) hS.2.2 dX12_growth_177
          · skip
            refine lv_iload_n hx hb dX12_growth_53 rfl (lv_at hl 1 rfl) ?_
            refine lv_goto (tgt := 58) hx hb dX12_growth_54 (by decide) ?_
            refine lv_istore (lv' := [(4, .int p0), (0, .ref aR), (1, .int p0), (2, .int p1), (3, .int p2)]) hx hb dX12_growth_58 hl (by decide) rfl (fun ls hl => ?_)
            refine lv_iload_n hx hb dX12_growth_60 rfl (lv_at hl 4 rfl) ?_
            refine lv_iconst (v := 1) hx hb dX12_growth_61 (by decide) ?_
            refine lv_icmp_ne (tgt := 69) hx hb dX12_growth_62 (by decide) (fun c4692 => (by exfalso; have bd_p2 := i_bd p2; (try simp only [i_lt, i_le, i_eq, kc_0, kc_2, kc_1] at c4679 c4682 c4686 c4692); omega)) (fun c4692 => ?_)
            refine lv_iload_n hx hb dX12_growth_65 rfl (lv_at hl 3 rfl) ?_
            refine lv_goto (tgt := 70) hx hb dX12_growth_66 (by decide) ?_
            refine lv_istore (lv' := [(5, .int p1), (4, .int p0), (0, .ref aR), (1, .int p0), (2, .int p1), (3, .int p2)]) hx hb dX12_growth_70 hl (by decide) rfl (fun ls hl => ?_)
            refine lv_iconst (v := 0) hx hb dX12_growth_72 (by decide) ?_
            refine lv_istore (lv' := [(6, .int 0), (5, .int p1), (4, .int p0), (0, .ref aR), (1, .int p0), (2, .int p1), (3, .int p2)]) hx hb dX12_growth_73 hl (by decide) rfl (fun ls hl => ?_)
            refine lv_iload hx hb dX12_growth_75 (lv_at hl 0 rfl) ?_
            refine lv_aload_n hx hb dX12_growth_77 rfl (lv_at hl 3 rfl) ?_
            refine va_get (D := (dC, dI)) (ci := 15) (v := .ref q_things) (C := RX12) (T := TX12) (N := 150) hx hb hts (in_n_growth_X12) hown hK hP 0 rfl rfl 48 (by decide) (hts (.fieldLink RX12 183 "HeapWorksModel" "things" "[I") (by decide +kernel)) (fun _ h9 => h9) (ow_at o_s4685 2 rfl) dX12_growth_78 ?_
            refine lv_iload hx hb dX12_growth_81 (lv_at hl 2 rfl) ?_
            refine va_iald hx hb hK hP 1 0 rfl rfl (by rw [vp_in_iff]; (try simp only [i_lt, i_le, i_eq, kc_0, kc_4] at c4651 c4652); omega) dX12_growth_83 ?_
            refine lv_topi (fun x4693 ex4693 => ?_)
            obtain rfl : x4693 = 0 := ex4693.trans (hz_f_things _)
            refine lv_icmp_ge (tgt := 173) hx hb dX12_growth_84 (by decide) (fun c4694 => ?_) (fun c4694 => absurd c4694 (by decide))
            refine lv_aload_n hx hb dX12_growth_173 rfl (lv_at hl 3 rfl) ?_
            refine va_get (D := (dC, dI)) (ci := 15) (v := .int 0) (C := RX12) (T := TX12) (N := 150) hx hb hts (in_n_growth_X12) hown hK hP 0 rfl rfl 75 (by decide) (hts (.fieldLink RX12 612 "HeapWorksModel" "grownMany" "I") (by decide +kernel)) (fun _ h9 => h9) (ow_at o_s4685 0 rfl) dX12_growth_174 ?_
            have hP9 := hP.sub (ws' := [(aR, .inr (15, s4685)), (q_things, .inl (k_things, 5, .inl f_things))]) [0, 1] rfl
            have hD9 := hD.sub (ws' := [(aR, .inr (15, s4685)), (q_things, .inl (k_things, 5, .inl f_things))]) [0, 1] (by decide) rfl
            have hK9 := hK.sub (tys' := [(k_things, .int)]) [0] rfl
            exact W.iret (v := 0) hx hb hr (fun t ht hW => ⟨⟨0, s4685, rfl, (Or.inr (Or.inr (Or.inr (Or.inr (Or.inr (Or.inr (Or.inr (Or.inl ⟨c4651, c4652, c4669, c4670, c4679, c4682, c4686, c4692, rfl, o_s4685⟩)))))))), by rw [ht]; exact hP9, va_K.moved hW.alike hK9, hD9⟩, hS.F ht⟩) hS.2.2 dX12_growth_177
        · skip
          refine lv_iconst (v := 1) hx hb dX12_growth_26 (by decide) ?_
          refine lv_goto (tgt := 31) hx hb dX12_growth_27 (by decide) ?_
          refine va_put (D := (dC, dI)) (ci := 15) (v := .int 1) (ty := .int) (C := RX12) (T := TX12) (N := 150) hx hb hts (in_n_growth_X12) tyX12 tyX12_ok nmX12 hown hK hP hD hS 0 rfl rfl 0 (by decide) (hts (.fieldLink RX12 388 "HeapWorksModel" "thrown" "I") (by decide +kernel)) (fun _ h9 => h9) rfl (by decide +kernel) rfl rfl (by rw [o_fsR.2.1]; decide) dX12_growth_31 (fun H locs hP hD hS => ?_)
          have hP : va_P (dC, dI) vwCl [(aR, .inr (15, (fsR.set 0 (.int 1)))), (q_things, .inl (k_things, 5, .inl f_things))] H := hP
          have hD : va_D A [(aR, .inr (15, (fsR.set 0 (.int 1)))), (q_things, .inl (k_things, 5, .inl f_things))] := hD
          have o_s4695 := ow_set o_fsR 0 (.int 1) (by decide) (l' := [(0, .int 1), (48, .ref q_things), (75, .int 0)]) (w' := [0]) rfl rfl
          generalize (fsR.set 0 (.int 1)) = s4695 at hP hD o_s4695
          refine lv_aload_n hx hb dX12_growth_34 rfl (lv_at hl 0 rfl) ?_
          refine va_get (D := (dC, dI)) (ci := 15) (v := .int 1) (C := RX12) (T := TX12) (N := 150) hx hb hts (in_n_growth_X12) hown hK hP 0 rfl rfl 0 (by decide) (hts (.fieldLink RX12 388 "HeapWorksModel" "thrown" "I") (by decide +kernel)) (fun _ h9 => h9) (ow_at o_s4695 0 rfl) dX12_growth_35 ?_
          refine lv_if_le (tgt := 43) hx hb dX12_growth_38 (by decide) (fun c4696 => absurd c4696 (by decide)) (fun c4696 => ?_)
          refine lv_iconst (v := 0) hx hb dX12_growth_41 (by decide) ?_
          have hP9 := hP.sub (ws' := [(aR, .inr (15, s4695)), (q_things, .inl (k_things, 5, .inl f_things))]) [0, 1] rfl
          have hD9 := hD.sub (ws' := [(aR, .inr (15, s4695)), (q_things, .inl (k_things, 5, .inl f_things))]) [0, 1] (by decide) rfl
          have hK9 := hK.sub (tys' := [(k_things, .int)]) [0] rfl
          exact W.iret (v := 0) hx hb hr (fun t ht hW => ⟨⟨0, s4695, rfl, (Or.inr (Or.inr (Or.inr (Or.inr (Or.inr (Or.inr (Or.inr (Or.inr (⟨c4651, c4652, c4669, c4670, c4679, c4682, rfl, o_s4695⟩))))))))), by rw [ht]; exact hP9, va_K.moved hW.alike hK9, hD9⟩, hS.F ht⟩) hS.2.2 dX12_growth_42

def l_n_grown : List Cond := [.fieldLink RX12 388 "HeapWorksModel" "thrown" "I", .fieldLink RX12 612 "HeapWorksModel" "grownMany" "I"]
def w_n_grown : List Cond := .code yX12_grown cX12_grown 2 (some .int) :: (l_n_grown ++ (wsX120))
theorem in_n_grown_X12 : ∀ w ∈ wsX120, w ∈ w_n_grown := fun w h => List.mem_cons_of_mem _ (List.mem_append_right _ (h))
set_option maxHeartbeats 4000000 in
set_option maxRecDepth 100000 in
theorem n_grown (l : Launch) (dC : Nat → ClassId) (dI : Nat → Nat → Nat) (sz : Nat) (aR : Nat) (fsR : List Value) (p0 : Int32) (k_fsR : fh fsR 150 [(75, .int 0)])  : Met l yX12_grown w_n_grown ({ frames := 0, cells := 0, slots := 0, locals := 0 }) (va_Pc [.ref aR, .int p0] (fun U => U.heap.size = sz ∧ Wd dC dI [] (fun _ => True) [(aR, .inr (15, fsR))] U)) (va_Qi (fun (r : Int32) (u : List Value) => (p0 < 0 ∧ r = (-1) ∧ ow fsR (u) 150 [0] [(0, .int 0), (75, .int 0)]) ∨ (¬ p0 < 0 ∧ 0 ≤ p0 ∧ r = (-1) ∧ ow fsR (u) 150 [0] [(0, .int 0), (75, .int 0)])) (fun (u : List Value) t => Wd dC dI [] (va_A [(aR, .inr (15, fsR))] sz) [(aR, .inr (15, (u)))] t) (va_A [(aR, .inr (15, fsR))] sz))  0 0 (va_A [(aR, .inr (15, fsR))] sz) := by
  refine Met.ofW (cc := cX12_grown) (maxL := 2) (ret := (some .int)) (by decide) rfl ?_
  intro p e s m args below meth c s₁ B hml hv
  obtain ⟨rfl, hsz, hP, hK, hD0⟩ := hv
  have hx := B.exec
  have hb := B.bytes
  have hr := B.returns
  have hts := atoms_spec (ws := w_n_grown) B.pre
  have hown : s.vm.findClass RX12 = some m.cls := findClass_of_methodNamed B.named
  have hlocks := B.notSynchronized
  subst hsz
  have hD := hD0.self (sz := s.heap.size)
  generalize hAe : va_A [(aR, .inr (15, fsR))] s.heap.size = A at hD ⊢
  have hA : ∀ q : Nat, s.heap.size ≤ q → A q := fun q h => by rw [← hAe]; exact Or.inr h
  have hS : va_S A s.heap s.heap [] := va_S.rf
  have hl := lv_entry ([.ref aR, .int p0]) (n := 2) (Nat.le_of_ble_eq_true rfl)
  rw [lg_entry_eq]
  generalize (lg_sl ([.ref aR, .int p0]) ++ List.replicate (2 - (lg_sl ([.ref aR, .int p0])).length) Slot.unset).toArray = ls at hl ⊢
  have hl : lv_has ls 2 [(0, .ref aR), (1, .int p0)] := hl
  have o_fsR := ow_0 k_fsR
  refine lv_aload_n hx hb dX12_grown_0 rfl (lv_at hl 0 rfl) ?_
  refine lv_iconst (v := 0) hx hb dX12_grown_1 (by decide) ?_
  refine va_put (D := (dC, dI)) (ci := 15) (v := .int 0) (ty := .int) (C := RX12) (T := TX12) (N := 150) hx hb hts (in_n_grown_X12) tyX12 tyX12_ok nmX12 hown hK hP hD hS 0 rfl rfl 0 (by decide) (hts (.fieldLink RX12 388 "HeapWorksModel" "thrown" "I") (by decide +kernel)) (fun _ h9 => h9) rfl (by decide +kernel) rfl rfl (by rw [o_fsR.2.1]; decide) dX12_grown_2 (fun H locs hP hD hS => ?_)
  have hP : va_P (dC, dI) vwCl [(aR, .inr (15, (fsR.set 0 (.int 0))))] H := hP
  have hD : va_D A [(aR, .inr (15, (fsR.set 0 (.int 0))))] := hD
  have o_s4700 := ow_set o_fsR 0 (.int 0) (by decide) (l' := [(0, .int 0), (75, .int 0)]) (w' := [0]) rfl rfl
  generalize (fsR.set 0 (.int 0)) = s4700 at hP hD o_s4700
  refine lv_iload_n hx hb dX12_grown_5 rfl (lv_at hl 1 rfl) ?_
  refine lv_if_lt (tgt := 26) hx hb dX12_grown_6 (by decide) (fun c4701 => ?_) (fun c4701 => ?_)
  · skip
    refine lv_iconst (v := (-1)) hx hb dX12_grown_26 (by decide) ?_
    have hP9 := hP.sub (ws' := [(aR, .inr (15, s4700))]) [0] rfl
    have hD9 := hD.sub (ws' := [(aR, .inr (15, s4700))]) [0] (by decide) rfl
    have hK9 := hK.sub (tys' := []) [] rfl
    exact W.iret (v := (-1)) hx hb hr (fun t ht hW => ⟨⟨(-1), s4700, rfl, (Or.inl ⟨c4701, rfl, o_s4700⟩), by rw [ht]; exact hP9, va_K.moved hW.alike hK9, hD9⟩, hS.F ht⟩) hS.2.2 dX12_grown_27
  · skip
    refine lv_iload_n hx hb dX12_grown_9 rfl (lv_at hl 1 rfl) ?_
    refine lv_aload_n hx hb dX12_grown_10 rfl (lv_at hl 0 rfl) ?_
    refine va_get (D := (dC, dI)) (ci := 15) (v := .int 0) (C := RX12) (T := TX12) (N := 150) hx hb hts (in_n_grown_X12) hown hK hP 0 rfl rfl 75 (by decide) (hts (.fieldLink RX12 612 "HeapWorksModel" "grownMany" "I") (by decide +kernel)) (fun _ h9 => h9) (ow_at o_s4700 1 rfl) dX12_grown_11 ?_
    refine lv_icmp_ge (tgt := 26) hx hb dX12_grown_14 (by decide) (fun c4702 => ?_) (fun c4702 => (by exfalso; have bd_p0 := i_bd p0; (try simp only [i_lt, i_le, i_eq, kc_0] at c4701 c4702); omega))
    refine lv_iconst (v := (-1)) hx hb dX12_grown_26 (by decide) ?_
    have hP9 := hP.sub (ws' := [(aR, .inr (15, s4700))]) [0] rfl
    have hD9 := hD.sub (ws' := [(aR, .inr (15, s4700))]) [0] (by decide) rfl
    have hK9 := hK.sub (tys' := []) [] rfl
    exact W.iret (v := (-1)) hx hb hr (fun t ht hW => ⟨⟨(-1), s4700, rfl, (Or.inr (⟨c4701, c4702, rfl, o_s4700⟩)), by rw [ht]; exact hP9, va_K.moved hW.alike hK9, hD9⟩, hS.F ht⟩) hS.2.2 dX12_grown_27

def l_n_like : List Cond := [.methodLink RX12 600 yX12_isThing, .instanceMethod yX12_isThing, .selects RX12 yX12_isThing yX12_isThing, .initialized RX12, .fieldLink RX12 388 "HeapWorksModel" "thrown" "I", .code yX12_isThing cX12_isThing 3 (some .boolean), .methodLink RX12 542 yX12_isPicture, .instanceMethod yX12_isPicture, .selects RX12 yX12_isPicture yX12_isPicture, .fieldLink RX12 183 "HeapWorksModel" "things" "[I", .code yX12_isPicture cX12_isPicture 2 (some .boolean)]
def w_n_like : List Cond := .code yX12_like cX12_like 15 (some .boolean) :: (l_n_like ++ (wsX120))
theorem in_n_like_X12 : ∀ w ∈ wsX120, w ∈ w_n_like := fun w h => List.mem_cons_of_mem _ (List.mem_append_right _ (h))
theorem g_n_like_z_X12_isThing_600 : GoodIn w_n_like (wsV RX12 600 RX12 yX12_isThing w_z_X12_isThing) := goodIn_app (goodIn_sub (by decide +kernel) (by decide +kernel)) (goodIn_ca (goodIn_sub (by decide +kernel) (by decide +kernel)) (goodIn_in in_n_like_X12 gd_X12))
set_option maxHeartbeats 4000000 in
set_option maxRecDepth 100000 in
theorem n_like (l : Launch) (dC : Nat → ClassId) (dI : Nat → Nat → Nat) (sz : Nat) (aR : Nat) (fsR : List Value) (q_things : Nat) (f_things : Nat → Int32) (k_things : ClassId) (p0 : Int32) (p1 : Int32) (p2 : Int32) (p3 : Int32) (k_fsR : fh fsR 150 [(0, .int 0), (48, .ref q_things)]) (hz_f_things : ∀ j, f_things j = 0) : Met l yX12_like w_n_like ({ frames := 2, cells := 0, slots := 0, locals := 43 }) (va_Pc [.ref aR, .int p0, .int p1, .int p2, .int p3] (fun U => U.heap.size = sz ∧ Wd dC dI [(k_things, .int)] (fun _ => True) [(aR, .inr (15, fsR)), (q_things, .inl (k_things, 5, .inl f_things))] U)) (va_Qi (fun (r : Int32) (u : List Value) => (p0 < 0 ∧ r = 0 ∧ ow fsR (u) 150 [0] [(0, .int 1), (48, .ref q_things)]) ∨ (¬ p0 < 0 ∧ 4 ≤ p0 ∧ r = 0 ∧ ow fsR (u) 150 [0] [(0, .int 1), (48, .ref q_things)]) ∨ (¬ p0 < 0 ∧ ¬ 4 ≤ p0 ∧ p1 < 0 ∧ r = 0 ∧ ow fsR (u) 150 [0] [(0, .int 1), (48, .ref q_things)]) ∨ (¬ p0 < 0 ∧ ¬ 4 ≤ p0 ∧ ¬ p1 < 0 ∧ 0 ≤ p1 ∧ r = 0 ∧ ow fsR (u) 150 [0] [(0, .int 1), (48, .ref q_things)])) (fun (u : List Value) t => Wd dC dI [(k_things, .int)] (va_A [(aR, .inr (15, fsR)), (q_things, .inl (k_things, 5, .inl f_things))] sz) [(aR, .inr (15, (u))), (q_things, .inl (k_things, 5, .inl f_things))] t) (va_A [(aR, .inr (15, fsR)), (q_things, .inl (k_things, 5, .inl f_things))] sz))  0 0 (va_A [(aR, .inr (15, fsR)), (q_things, .inl (k_things, 5, .inl f_things))] sz) := by
  refine Met.ofW (cc := cX12_like) (maxL := 15) (ret := (some .boolean)) (by decide) rfl ?_
  intro p e s m args below meth c s₁ B hml hv
  obtain ⟨rfl, hsz, hP, hK, hD0⟩ := hv
  have hx := B.exec
  have hb := B.bytes
  have hr := B.returns
  have hts := atoms_spec (ws := w_n_like) B.pre
  have hown : s.vm.findClass RX12 = some m.cls := findClass_of_methodNamed B.named
  have hlocks := B.notSynchronized
  subst hsz
  have hD := hD0.self (sz := s.heap.size)
  generalize hAe : va_A [(aR, .inr (15, fsR)), (q_things, .inl (k_things, 5, .inl f_things))] s.heap.size = A at hD ⊢
  have hA : ∀ q : Nat, s.heap.size ≤ q → A q := fun q h => by rw [← hAe]; exact Or.inr h
  have hS : va_S A s.heap s.heap [] := va_S.rf
  have hl := lv_entry ([.ref aR, .int p0, .int p1, .int p2, .int p3]) (n := 15) (Nat.le_of_ble_eq_true rfl)
  rw [lg_entry_eq]
  generalize (lg_sl ([.ref aR, .int p0, .int p1, .int p2, .int p3]) ++ List.replicate (15 - (lg_sl ([.ref aR, .int p0, .int p1, .int p2, .int p3])).length) Slot.unset).toArray = ls at hl ⊢
  have hl : lv_has ls 15 [(0, .ref aR), (1, .int p0), (2, .int p1), (3, .int p2), (4, .int p3)] := hl
  have o_fsR := ow_0 k_fsR
  refine lv_aload_n hx hb dX12_like_0 rfl (lv_at hl 0 rfl) ?_
  refine lv_aload_n hx hb dX12_like_1 rfl (lv_at hl 0 rfl) ?_
  refine lv_iload_n hx hb dX12_like_2 rfl (lv_at hl 1 rfl) ?_
  refine lv_iload_n hx hb dX12_like_3 rfl (lv_at hl 2 rfl) ?_
  have hPc := hP.sub (ws' := [(aR, .inr (15, fsR)), (q_things, .inl (k_things, 5, .inl f_things))]) [0, 1] rfl
  have hDc := hD.sub (ws' := [(aR, .inr (15, fsR)), (q_things, .inl (k_things, 5, .inl f_things))]) [0, 1] (by decide) rfl
  have hKc := hK.sub (tys' := [(k_things, .int)]) [0] rfl
  have hFc := va_free (wc := [(aR, .inr (15, fsR)), (q_things, .inl (k_things, 5, .inl f_things))]) hD hS hA [0, 1] rfl
  refine va_calli (va_runV (As := [.int p0, .int p1]) (rest := [.ref aR]) ⟨hx, hb, hml, hown, hts⟩ (z_X12_isThing l dC dI s.heap.size aR fsR q_things f_things k_things p0 p1 (fh_sub o_fsR.2 [1] rfl) hz_f_things) (cwV 2 hts g_n_like_z_X12_isThing_600 rfl rfl rfl (by decide +kernel) ⟨Nat.le_of_ble_eq_true rfl, Nat.le_of_ble_eq_true rfl⟩) ⟨fun a U g mk q => by obtain ⟨q0, q1, qP, qK, qD⟩ := q; exact ⟨q0, q1, qP, va_K.moved (u := U) (U := U.calling g mk a) (Vm.Alike.refl U.vm) qK, qD⟩, va_recv hK hP (ci := 15) (q0 := 0) rfl rfl, fun U hU hW => ⟨rfl, by rw [hU], by rw [hU]; exact hPc, va_K.moved hW.alike hKc, hDc.weaken (fun _ _ _ _ => trivial)⟩⟩ rfl rfl hl.1 rfl (lv_room (Nat.le_of_ble_eq_true rfl)) dX12_like_4 ⟨Nat.le_of_ble_eq_true rfl, Nat.le_of_ble_eq_true rfl⟩) hS (fun q _ h => hFc q h) hFc (fun r4764 u t H1 locs ht hvm hw hB hz1 hk1 hS => ?_)
  obtain ⟨hP1, hK1, hD1⟩ := hB
  rw [ht] at hP1
  try dsimp only at hw
  obtain ⟨hP, hD⟩ := va_join (wr := []) (w1 := [(aR, .inr (15, fsR)), (q_things, .inl (k_things, 5, .inl f_things))]) hP hD [0, 1] [] rfl rfl (by decide) (by decide) hk1 hFc hP1 hD1
  have hK := hK.sub (tys' := [(k_things, .int)]) [0] rfl
  generalize H1 = H at hP hS ⊢
  have hP : va_P (dC, dI) vwCl [(aR, .inr (15, fsR)), (q_things, .inl (k_things, 5, .inl f_things))] H := hP
  have hD : va_D A [(aR, .inr (15, fsR)), (q_things, .inl (k_things, 5, .inl f_things))] := hD
  rcases hw with ⟨c4765, er4766⟩ | ⟨c4767, c4768, er4769⟩ | ⟨c4770, c4771, c4772, er4773⟩ | ⟨c4774, c4775, c4776, c4777, er4778⟩
  · skip
    subst er4766
    refine lv_if_eq (tgt := 20) hx hb dX12_like_7 (by decide) (fun c4779 => ?_) (fun c4779 => absurd c4779 (by decide))
    refine lv_iconst (v := 1) hx hb dX12_like_20 (by decide) ?_
    refine lv_goto (tgt := 25) hx hb dX12_like_21 (by decide) ?_
    refine va_put (D := (dC, dI)) (ci := 15) (v := .int 1) (ty := .int) (C := RX12) (T := TX12) (N := 150) hx hb hts (in_n_like_X12) tyX12 tyX12_ok nmX12 hown hK hP hD hS 0 rfl rfl 0 (by decide) (hts (.fieldLink RX12 388 "HeapWorksModel" "thrown" "I") (by decide +kernel)) (fun _ h9 => h9) rfl (by decide +kernel) rfl rfl (by rw [o_fsR.2.1]; decide) dX12_like_25 (fun H locs hP hD hS => ?_)
    have hP : va_P (dC, dI) vwCl [(aR, .inr (15, (fsR.set 0 (.int 1)))), (q_things, .inl (k_things, 5, .inl f_things))] H := hP
    have hD : va_D A [(aR, .inr (15, (fsR.set 0 (.int 1)))), (q_things, .inl (k_things, 5, .inl f_things))] := hD
    have o_s4780 := ow_set o_fsR 0 (.int 1) (by decide) (l' := [(0, .int 1), (48, .ref q_things)]) (w' := [0]) rfl rfl
    generalize (fsR.set 0 (.int 1)) = s4780 at hP hD o_s4780
    refine lv_aload_n hx hb dX12_like_28 rfl (lv_at hl 0 rfl) ?_
    refine va_get (D := (dC, dI)) (ci := 15) (v := .int 1) (C := RX12) (T := TX12) (N := 150) hx hb hts (in_n_like_X12) hown hK hP 0 rfl rfl 0 (by decide) (hts (.fieldLink RX12 388 "HeapWorksModel" "thrown" "I") (by decide +kernel)) (fun _ h9 => h9) (ow_at o_s4780 0 rfl) dX12_like_29 ?_
    refine lv_if_le (tgt := 37) hx hb dX12_like_32 (by decide) (fun c4781 => absurd c4781 (by decide)) (fun c4781 => ?_)
    refine lv_iconst (v := 0) hx hb dX12_like_35 (by decide) ?_
    have hP9 := hP.sub (ws' := [(aR, .inr (15, s4780)), (q_things, .inl (k_things, 5, .inl f_things))]) [0, 1] rfl
    have hD9 := hD.sub (ws' := [(aR, .inr (15, s4780)), (q_things, .inl (k_things, 5, .inl f_things))]) [0, 1] (by decide) rfl
    have hK9 := hK.sub (tys' := [(k_things, .int)]) [0] rfl
    exact W.zret (v := 0) hx hb hr rfl (fun t ht hW => ⟨⟨0, s4780, rfl, (Or.inl ⟨c4765, rfl, o_s4780⟩), by rw [ht]; exact hP9, va_K.moved hW.alike hK9, hD9⟩, hS.F ht⟩) hS.2.2 dX12_like_36
  · skip
    subst er4769
    refine lv_if_eq (tgt := 20) hx hb dX12_like_7 (by decide) (fun c4782 => ?_) (fun c4782 => absurd c4782 (by decide))
    refine lv_iconst (v := 1) hx hb dX12_like_20 (by decide) ?_
    refine lv_goto (tgt := 25) hx hb dX12_like_21 (by decide) ?_
    refine va_put (D := (dC, dI)) (ci := 15) (v := .int 1) (ty := .int) (C := RX12) (T := TX12) (N := 150) hx hb hts (in_n_like_X12) tyX12 tyX12_ok nmX12 hown hK hP hD hS 0 rfl rfl 0 (by decide) (hts (.fieldLink RX12 388 "HeapWorksModel" "thrown" "I") (by decide +kernel)) (fun _ h9 => h9) rfl (by decide +kernel) rfl rfl (by rw [o_fsR.2.1]; decide) dX12_like_25 (fun H locs hP hD hS => ?_)
    have hP : va_P (dC, dI) vwCl [(aR, .inr (15, (fsR.set 0 (.int 1)))), (q_things, .inl (k_things, 5, .inl f_things))] H := hP
    have hD : va_D A [(aR, .inr (15, (fsR.set 0 (.int 1)))), (q_things, .inl (k_things, 5, .inl f_things))] := hD
    have o_s4783 := ow_set o_fsR 0 (.int 1) (by decide) (l' := [(0, .int 1), (48, .ref q_things)]) (w' := [0]) rfl rfl
    generalize (fsR.set 0 (.int 1)) = s4783 at hP hD o_s4783
    refine lv_aload_n hx hb dX12_like_28 rfl (lv_at hl 0 rfl) ?_
    refine va_get (D := (dC, dI)) (ci := 15) (v := .int 1) (C := RX12) (T := TX12) (N := 150) hx hb hts (in_n_like_X12) hown hK hP 0 rfl rfl 0 (by decide) (hts (.fieldLink RX12 388 "HeapWorksModel" "thrown" "I") (by decide +kernel)) (fun _ h9 => h9) (ow_at o_s4783 0 rfl) dX12_like_29 ?_
    refine lv_if_le (tgt := 37) hx hb dX12_like_32 (by decide) (fun c4784 => absurd c4784 (by decide)) (fun c4784 => ?_)
    refine lv_iconst (v := 0) hx hb dX12_like_35 (by decide) ?_
    have hP9 := hP.sub (ws' := [(aR, .inr (15, s4783)), (q_things, .inl (k_things, 5, .inl f_things))]) [0, 1] rfl
    have hD9 := hD.sub (ws' := [(aR, .inr (15, s4783)), (q_things, .inl (k_things, 5, .inl f_things))]) [0, 1] (by decide) rfl
    have hK9 := hK.sub (tys' := [(k_things, .int)]) [0] rfl
    exact W.zret (v := 0) hx hb hr rfl (fun t ht hW => ⟨⟨0, s4783, rfl, (Or.inr (Or.inl ⟨c4767, c4768, rfl, o_s4783⟩)), by rw [ht]; exact hP9, va_K.moved hW.alike hK9, hD9⟩, hS.F ht⟩) hS.2.2 dX12_like_36
  · skip
    subst er4773
    refine lv_if_eq (tgt := 20) hx hb dX12_like_7 (by decide) (fun c4785 => ?_) (fun c4785 => absurd c4785 (by decide))
    refine lv_iconst (v := 1) hx hb dX12_like_20 (by decide) ?_
    refine lv_goto (tgt := 25) hx hb dX12_like_21 (by decide) ?_
    refine va_put (D := (dC, dI)) (ci := 15) (v := .int 1) (ty := .int) (C := RX12) (T := TX12) (N := 150) hx hb hts (in_n_like_X12) tyX12 tyX12_ok nmX12 hown hK hP hD hS 0 rfl rfl 0 (by decide) (hts (.fieldLink RX12 388 "HeapWorksModel" "thrown" "I") (by decide +kernel)) (fun _ h9 => h9) rfl (by decide +kernel) rfl rfl (by rw [o_fsR.2.1]; decide) dX12_like_25 (fun H locs hP hD hS => ?_)
    have hP : va_P (dC, dI) vwCl [(aR, .inr (15, (fsR.set 0 (.int 1)))), (q_things, .inl (k_things, 5, .inl f_things))] H := hP
    have hD : va_D A [(aR, .inr (15, (fsR.set 0 (.int 1)))), (q_things, .inl (k_things, 5, .inl f_things))] := hD
    have o_s4786 := ow_set o_fsR 0 (.int 1) (by decide) (l' := [(0, .int 1), (48, .ref q_things)]) (w' := [0]) rfl rfl
    generalize (fsR.set 0 (.int 1)) = s4786 at hP hD o_s4786
    refine lv_aload_n hx hb dX12_like_28 rfl (lv_at hl 0 rfl) ?_
    refine va_get (D := (dC, dI)) (ci := 15) (v := .int 1) (C := RX12) (T := TX12) (N := 150) hx hb hts (in_n_like_X12) hown hK hP 0 rfl rfl 0 (by decide) (hts (.fieldLink RX12 388 "HeapWorksModel" "thrown" "I") (by decide +kernel)) (fun _ h9 => h9) (ow_at o_s4786 0 rfl) dX12_like_29 ?_
    refine lv_if_le (tgt := 37) hx hb dX12_like_32 (by decide) (fun c4787 => absurd c4787 (by decide)) (fun c4787 => ?_)
    refine lv_iconst (v := 0) hx hb dX12_like_35 (by decide) ?_
    have hP9 := hP.sub (ws' := [(aR, .inr (15, s4786)), (q_things, .inl (k_things, 5, .inl f_things))]) [0, 1] rfl
    have hD9 := hD.sub (ws' := [(aR, .inr (15, s4786)), (q_things, .inl (k_things, 5, .inl f_things))]) [0, 1] (by decide) rfl
    have hK9 := hK.sub (tys' := [(k_things, .int)]) [0] rfl
    exact W.zret (v := 0) hx hb hr rfl (fun t ht hW => ⟨⟨0, s4786, rfl, (Or.inr (Or.inr (Or.inl ⟨c4770, c4771, c4772, rfl, o_s4786⟩))), by rw [ht]; exact hP9, va_K.moved hW.alike hK9, hD9⟩, hS.F ht⟩) hS.2.2 dX12_like_36
  · skip
    subst er4778
    refine lv_if_eq (tgt := 20) hx hb dX12_like_7 (by decide) (fun c4788 => ?_) (fun c4788 => absurd c4788 (by decide))
    refine lv_iconst (v := 1) hx hb dX12_like_20 (by decide) ?_
    refine lv_goto (tgt := 25) hx hb dX12_like_21 (by decide) ?_
    refine va_put (D := (dC, dI)) (ci := 15) (v := .int 1) (ty := .int) (C := RX12) (T := TX12) (N := 150) hx hb hts (in_n_like_X12) tyX12 tyX12_ok nmX12 hown hK hP hD hS 0 rfl rfl 0 (by decide) (hts (.fieldLink RX12 388 "HeapWorksModel" "thrown" "I") (by decide +kernel)) (fun _ h9 => h9) rfl (by decide +kernel) rfl rfl (by rw [o_fsR.2.1]; decide) dX12_like_25 (fun H locs hP hD hS => ?_)
    have hP : va_P (dC, dI) vwCl [(aR, .inr (15, (fsR.set 0 (.int 1)))), (q_things, .inl (k_things, 5, .inl f_things))] H := hP
    have hD : va_D A [(aR, .inr (15, (fsR.set 0 (.int 1)))), (q_things, .inl (k_things, 5, .inl f_things))] := hD
    have o_s4789 := ow_set o_fsR 0 (.int 1) (by decide) (l' := [(0, .int 1), (48, .ref q_things)]) (w' := [0]) rfl rfl
    generalize (fsR.set 0 (.int 1)) = s4789 at hP hD o_s4789
    refine lv_aload_n hx hb dX12_like_28 rfl (lv_at hl 0 rfl) ?_
    refine va_get (D := (dC, dI)) (ci := 15) (v := .int 1) (C := RX12) (T := TX12) (N := 150) hx hb hts (in_n_like_X12) hown hK hP 0 rfl rfl 0 (by decide) (hts (.fieldLink RX12 388 "HeapWorksModel" "thrown" "I") (by decide +kernel)) (fun _ h9 => h9) (ow_at o_s4789 0 rfl) dX12_like_29 ?_
    refine lv_if_le (tgt := 37) hx hb dX12_like_32 (by decide) (fun c4790 => absurd c4790 (by decide)) (fun c4790 => ?_)
    refine lv_iconst (v := 0) hx hb dX12_like_35 (by decide) ?_
    have hP9 := hP.sub (ws' := [(aR, .inr (15, s4789)), (q_things, .inl (k_things, 5, .inl f_things))]) [0, 1] rfl
    have hD9 := hD.sub (ws' := [(aR, .inr (15, s4789)), (q_things, .inl (k_things, 5, .inl f_things))]) [0, 1] (by decide) rfl
    have hK9 := hK.sub (tys' := [(k_things, .int)]) [0] rfl
    exact W.zret (v := 0) hx hb hr rfl (fun t ht hW => ⟨⟨0, s4789, rfl, (Or.inr (Or.inr (Or.inr (⟨c4774, c4775, c4776, c4777, rfl, o_s4789⟩)))), by rw [ht]; exact hP9, va_K.moved hW.alike hK9, hD9⟩, hS.F ht⟩) hS.2.2 dX12_like_36

def l_z_X12_beginText_1 : List Cond := [.fieldLink RX12 673 "HeapWorksModel" "nodeBase" "I", .fieldLink RX12 670 "HeapWorksModel" "nodes" "I", .fieldLink RX12 676 "HeapWorksModel" "nested" "I", .fieldLink RX12 761 "HeapWorksModel" "known" "I", .fieldLink RX12 625 "HeapWorksModel" "stop" "I", .fieldLink RX12 628 "HeapWorksModel" "stopAt" "I", .fieldLink RX12 631 "HeapWorksModel" "at0" "I", .methodLink RX12 661 yX12_advance, .instanceMethod yX12_advance, .selects RX12 yX12_advance yX12_advance, .initialized RX12, .code yX12_advance cX12_advance 5 none, .methodLink RX12 634 yX12_byteAt, .instanceMethod yX12_byteAt, .selects RX12 yX12_byteAt yX12_byteAt, .fieldLink RX12 637 "HeapWorksModel" "from0" "I", .fieldLink RX12 640 "HeapWorksModel" "word" "J", .fieldLink RX12 644 "HeapWorksModel" "kind" "I", .code yX12_byteAt cX12_byteAt 2 (some .int), .fieldLink RX12 391 "HeapWorksModel" "taped" "I"]
def w_z_X12_beginText_1 : List Cond := .code yX12_beginText cX12_beginText 2 none :: (l_z_X12_beginText_1 ++ (wsX120))
theorem in_z_X12_beginText_1_X12 : ∀ w ∈ wsX120, w ∈ w_z_X12_beginText_1 := fun w h => List.mem_cons_of_mem _ (List.mem_append_right _ (h))
theorem g_z_X12_beginText_1_z_X12_advance_661 : GoodIn w_z_X12_beginText_1 (wsV RX12 661 RX12 yX12_advance w_z_X12_advance) := goodIn_app (goodIn_sub (by decide +kernel) (by decide +kernel)) (goodIn_ca (goodIn_sub (by decide +kernel) (by decide +kernel)) (goodIn_in in_z_X12_beginText_1_X12 gd_X12))
set_option maxHeartbeats 4000000 in
set_option maxRecDepth 100000 in
theorem z_X12_beginText_1 (l : Launch) (dC : Nat → ClassId) (dI : Nat → Nat → Nat) (sz : Nat) (Ad0 : Nat) (Fs0 : List Value) (k_Fs0 : fh Fs0 150 [(3, .int 0), (78, .int 0)])  : Met l yX12_beginText w_z_X12_beginText_1 ({ frames := 2, cells := 0, slots := 0, locals := 45 }) (va_Pc [.ref Ad0, .int 0] (fun U => U.heap.size = sz ∧ Wd dC dI [] (fun _ => True) [(Ad0, .inr (15, Fs0))] U)) (va_Qv (fun (u : List Value) => ow Fs0 (u) 150 [80, 85, 79, 78, 84, 83, 94, 93, 92, 91] [(80, .int 0), (85, .long 0), (79, .int 0), (78, .int 0), (3, .int 0), (78, .int 0), (84, .int (-1)), (83, .int 0), (94, .int 0), (93, .int 0), (92, .int 0), (91, .int 0), (3, .int 0)]) (fun (u : List Value) t => Wd dC dI [] (va_A [(Ad0, .inr (15, Fs0))] sz) [(Ad0, .inr (15, (u)))] t) (va_A [(Ad0, .inr (15, Fs0))] sz))  0 0 (va_A [(Ad0, .inr (15, Fs0))] sz) := by
  refine Met.ofW (cc := cX12_beginText) (maxL := 2) (ret := none) (by decide) rfl ?_
  intro p e s m args below meth c s₁ B hml hv
  obtain ⟨rfl, hsz, hP, hK, hD0⟩ := hv
  have hx := B.exec
  have hb := B.bytes
  have hr := B.returns
  have hts := atoms_spec (ws := w_z_X12_beginText_1) B.pre
  have hown : s.vm.findClass RX12 = some m.cls := findClass_of_methodNamed B.named
  have hlocks := B.notSynchronized
  subst hsz
  have hD := hD0.self (sz := s.heap.size)
  generalize hAe : va_A [(Ad0, .inr (15, Fs0))] s.heap.size = A at hD ⊢
  have hA : ∀ q : Nat, s.heap.size ≤ q → A q := fun q h => by rw [← hAe]; exact Or.inr h
  have hS : va_S A s.heap s.heap [] := va_S.rf
  have hl := lv_entry ([.ref Ad0, .int 0]) (n := 2) (Nat.le_of_ble_eq_true rfl)
  rw [lg_entry_eq]
  generalize (lg_sl ([.ref Ad0, .int 0]) ++ List.replicate (2 - (lg_sl ([.ref Ad0, .int 0])).length) Slot.unset).toArray = ls at hl ⊢
  have hl : lv_has ls 2 [(0, .ref Ad0), (1, .int 0)] := hl
  have o_Fs0 := ow_0 k_Fs0
  refine lv_aload_n hx hb dX12_beginText_0 rfl (lv_at hl 0 rfl) ?_
  refine lv_iload_n hx hb dX12_beginText_1 rfl (lv_at hl 1 rfl) ?_
  refine va_put (D := (dC, dI)) (ci := 15) (v := .int 0) (ty := .int) (C := RX12) (T := TX12) (N := 150) hx hb hts (in_z_X12_beginText_1_X12) tyX12 tyX12_ok nmX12 hown hK hP hD hS 0 rfl rfl 91 (by decide) (hts (.fieldLink RX12 673 "HeapWorksModel" "nodeBase" "I") (by decide +kernel)) (fun _ h9 => h9) rfl (by decide +kernel) rfl rfl (by rw [o_Fs0.2.1]; decide) dX12_beginText_2 (fun H locs hP hD hS => ?_)
  have hP : va_P (dC, dI) vwCl [(Ad0, .inr (15, (Fs0.set 91 (.int 0))))] H := hP
  have hD : va_D A [(Ad0, .inr (15, (Fs0.set 91 (.int 0))))] := hD
  have o_s4831 := ow_set o_Fs0 91 (.int 0) (by decide) (l' := [(91, .int 0), (3, .int 0), (78, .int 0)]) (w' := [91]) rfl rfl
  generalize (Fs0.set 91 (.int 0)) = s4831 at hP hD o_s4831
  refine lv_aload_n hx hb dX12_beginText_5 rfl (lv_at hl 0 rfl) ?_
  refine lv_iconst (v := 0) hx hb dX12_beginText_6 (by decide) ?_
  refine va_put (D := (dC, dI)) (ci := 15) (v := .int 0) (ty := .int) (C := RX12) (T := TX12) (N := 150) hx hb hts (in_z_X12_beginText_1_X12) tyX12 tyX12_ok nmX12 hown hK hP hD hS 0 rfl rfl 92 (by decide) (hts (.fieldLink RX12 670 "HeapWorksModel" "nodes" "I") (by decide +kernel)) (fun _ h9 => h9) rfl (by decide +kernel) rfl rfl (by rw [o_s4831.2.1]; decide) dX12_beginText_7 (fun H locs hP hD hS => ?_)
  have hP : va_P (dC, dI) vwCl [(Ad0, .inr (15, (s4831.set 92 (.int 0))))] H := hP
  have hD : va_D A [(Ad0, .inr (15, (s4831.set 92 (.int 0))))] := hD
  have o_s4832 := ow_set o_s4831 92 (.int 0) (by decide) (l' := [(92, .int 0), (91, .int 0), (3, .int 0), (78, .int 0)]) (w' := [92, 91]) rfl rfl
  generalize (s4831.set 92 (.int 0)) = s4832 at hP hD o_s4832
  refine lv_aload_n hx hb dX12_beginText_10 rfl (lv_at hl 0 rfl) ?_
  refine lv_iconst (v := 0) hx hb dX12_beginText_11 (by decide) ?_
  refine va_put (D := (dC, dI)) (ci := 15) (v := .int 0) (ty := .int) (C := RX12) (T := TX12) (N := 150) hx hb hts (in_z_X12_beginText_1_X12) tyX12 tyX12_ok nmX12 hown hK hP hD hS 0 rfl rfl 93 (by decide) (hts (.fieldLink RX12 676 "HeapWorksModel" "nested" "I") (by decide +kernel)) (fun _ h9 => h9) rfl (by decide +kernel) rfl rfl (by rw [o_s4832.2.1]; decide) dX12_beginText_12 (fun H locs hP hD hS => ?_)
  have hP : va_P (dC, dI) vwCl [(Ad0, .inr (15, (s4832.set 93 (.int 0))))] H := hP
  have hD : va_D A [(Ad0, .inr (15, (s4832.set 93 (.int 0))))] := hD
  have o_s4833 := ow_set o_s4832 93 (.int 0) (by decide) (l' := [(93, .int 0), (92, .int 0), (91, .int 0), (3, .int 0), (78, .int 0)]) (w' := [93, 92, 91]) rfl rfl
  generalize (s4832.set 93 (.int 0)) = s4833 at hP hD o_s4833
  refine lv_aload_n hx hb dX12_beginText_15 rfl (lv_at hl 0 rfl) ?_
  refine lv_iconst (v := 0) hx hb dX12_beginText_16 (by decide) ?_
  refine va_put (D := (dC, dI)) (ci := 15) (v := .int 0) (ty := .int) (C := RX12) (T := TX12) (N := 150) hx hb hts (in_z_X12_beginText_1_X12) tyX12 tyX12_ok nmX12 hown hK hP hD hS 0 rfl rfl 94 (by decide) (hts (.fieldLink RX12 761 "HeapWorksModel" "known" "I") (by decide +kernel)) (fun _ h9 => h9) rfl (by decide +kernel) rfl rfl (by rw [o_s4833.2.1]; decide) dX12_beginText_17 (fun H locs hP hD hS => ?_)
  have hP : va_P (dC, dI) vwCl [(Ad0, .inr (15, (s4833.set 94 (.int 0))))] H := hP
  have hD : va_D A [(Ad0, .inr (15, (s4833.set 94 (.int 0))))] := hD
  have o_s4834 := ow_set o_s4833 94 (.int 0) (by decide) (l' := [(94, .int 0), (93, .int 0), (92, .int 0), (91, .int 0), (3, .int 0), (78, .int 0)]) (w' := [94, 93, 92, 91]) rfl rfl
  generalize (s4833.set 94 (.int 0)) = s4834 at hP hD o_s4834
  refine lv_aload_n hx hb dX12_beginText_20 rfl (lv_at hl 0 rfl) ?_
  refine lv_iconst (v := 0) hx hb dX12_beginText_21 (by decide) ?_
  refine va_put (D := (dC, dI)) (ci := 15) (v := .int 0) (ty := .int) (C := RX12) (T := TX12) (N := 150) hx hb hts (in_z_X12_beginText_1_X12) tyX12 tyX12_ok nmX12 hown hK hP hD hS 0 rfl rfl 83 (by decide) (hts (.fieldLink RX12 625 "HeapWorksModel" "stop" "I") (by decide +kernel)) (fun _ h9 => h9) rfl (by decide +kernel) rfl rfl (by rw [o_s4834.2.1]; decide) dX12_beginText_22 (fun H locs hP hD hS => ?_)
  have hP : va_P (dC, dI) vwCl [(Ad0, .inr (15, (s4834.set 83 (.int 0))))] H := hP
  have hD : va_D A [(Ad0, .inr (15, (s4834.set 83 (.int 0))))] := hD
  have o_s4835 := ow_set o_s4834 83 (.int 0) (by decide) (l' := [(83, .int 0), (94, .int 0), (93, .int 0), (92, .int 0), (91, .int 0), (3, .int 0), (78, .int 0)]) (w' := [83, 94, 93, 92, 91]) rfl rfl
  generalize (s4834.set 83 (.int 0)) = s4835 at hP hD o_s4835
  refine lv_aload_n hx hb dX12_beginText_25 rfl (lv_at hl 0 rfl) ?_
  refine lv_iconst (v := (-1)) hx hb dX12_beginText_26 (by decide) ?_
  refine va_put (D := (dC, dI)) (ci := 15) (v := .int (-1)) (ty := .int) (C := RX12) (T := TX12) (N := 150) hx hb hts (in_z_X12_beginText_1_X12) tyX12 tyX12_ok nmX12 hown hK hP hD hS 0 rfl rfl 84 (by decide) (hts (.fieldLink RX12 628 "HeapWorksModel" "stopAt" "I") (by decide +kernel)) (fun _ h9 => h9) rfl (by decide +kernel) rfl rfl (by rw [o_s4835.2.1]; decide) dX12_beginText_27 (fun H locs hP hD hS => ?_)
  have hP : va_P (dC, dI) vwCl [(Ad0, .inr (15, (s4835.set 84 (.int (-1)))))] H := hP
  have hD : va_D A [(Ad0, .inr (15, (s4835.set 84 (.int (-1)))))] := hD
  have o_s4836 := ow_set o_s4835 84 (.int (-1)) (by decide) (l' := [(84, .int (-1)), (83, .int 0), (94, .int 0), (93, .int 0), (92, .int 0), (91, .int 0), (3, .int 0), (78, .int 0)]) (w' := [84, 83, 94, 93, 92, 91]) rfl rfl
  generalize (s4835.set 84 (.int (-1))) = s4836 at hP hD o_s4836
  refine lv_aload_n hx hb dX12_beginText_30 rfl (lv_at hl 0 rfl) ?_
  refine lv_iconst (v := 0) hx hb dX12_beginText_31 (by decide) ?_
  refine va_put (D := (dC, dI)) (ci := 15) (v := .int 0) (ty := .int) (C := RX12) (T := TX12) (N := 150) hx hb hts (in_z_X12_beginText_1_X12) tyX12 tyX12_ok nmX12 hown hK hP hD hS 0 rfl rfl 78 (by decide) (hts (.fieldLink RX12 631 "HeapWorksModel" "at0" "I") (by decide +kernel)) (fun _ h9 => h9) rfl (by decide +kernel) rfl rfl (by rw [o_s4836.2.1]; decide) dX12_beginText_32 (fun H locs hP hD hS => ?_)
  have hP : va_P (dC, dI) vwCl [(Ad0, .inr (15, (s4836.set 78 (.int 0))))] H := hP
  have hD : va_D A [(Ad0, .inr (15, (s4836.set 78 (.int 0))))] := hD
  have o_s4837 := ow_set o_s4836 78 (.int 0) (by decide) (l' := [(78, .int 0), (84, .int (-1)), (83, .int 0), (94, .int 0), (93, .int 0), (92, .int 0), (91, .int 0), (3, .int 0)]) (w' := [78, 84, 83, 94, 93, 92, 91]) rfl rfl
  generalize (s4836.set 78 (.int 0)) = s4837 at hP hD o_s4837
  refine lv_aload_n hx hb dX12_beginText_35 rfl (lv_at hl 0 rfl) ?_
  have hPc := hP.sub (ws' := [(Ad0, .inr (15, s4837))]) [0] rfl
  have hDc := hD.sub (ws' := [(Ad0, .inr (15, s4837))]) [0] (by decide) rfl
  have hKc := hK.sub (tys' := []) [] rfl
  have hFc := va_free (wc := [(Ad0, .inr (15, s4837))]) hD hS hA [0] rfl
  refine va_callv (va_runV (As := []) (rest := []) ⟨hx, hb, hml, hown, hts⟩ (z_X12_advance l dC dI H.size Ad0 s4837 (fh_sub o_s4837.2 [0, 7] rfl) ) (cwV 0 hts g_z_X12_beginText_1_z_X12_advance_661 rfl rfl rfl (by decide +kernel) ⟨Nat.le_of_ble_eq_true rfl, Nat.le_of_ble_eq_true rfl⟩) ⟨fun a U g mk q => by obtain ⟨q0, q1, qP, qK, qD⟩ := q; exact ⟨q0, q1, qP, va_K.moved (u := U) (U := U.calling g mk a) (Vm.Alike.refl U.vm) qK, qD⟩, va_recv hK hP (ci := 15) (q0 := 0) rfl rfl, fun U hU hW => ⟨rfl, by rw [hU], by rw [hU]; exact hPc, va_K.moved hW.alike hKc, hDc.weaken (fun _ _ _ _ => trivial)⟩⟩ rfl rfl hl.1 rfl (lv_room (Nat.le_of_ble_eq_true rfl)) dX12_beginText_36 ⟨Nat.le_of_ble_eq_true rfl, Nat.le_of_ble_eq_true rfl⟩) hS (fun q _ h => hFc q h) hFc (fun u t H1 locs ht hvm hw hB hz1 hk1 hS => ?_)
  obtain ⟨s4849, rfl⟩ : ∃ z, z = u := ⟨_, rfl⟩
  obtain ⟨hP1, hK1, hD1⟩ := hB
  rw [ht] at hP1
  try dsimp only at hw
  obtain ⟨hP, hD⟩ := va_join (wr := []) (w1 := [(Ad0, .inr (15, s4849))]) hP hD [0] [] rfl rfl (by decide) (by decide) hk1 hFc hP1 hD1
  have hK := hK.sub (tys' := []) [] rfl
  generalize H1 = H at hP hS ⊢
  have hP : va_P (dC, dI) vwCl [(Ad0, .inr (15, s4849))] H := hP
  have hD : va_D A [(Ad0, .inr (15, s4849))] := hD
  have o_s4849 := hw
  have o_s4849 := ow_on o_s4837 o_s4849 (l' := [(80, .int 0), (85, .long 0), (79, .int 0), (78, .int 0), (3, .int 0), (78, .int 0), (84, .int (-1)), (83, .int 0), (94, .int 0), (93, .int 0), (92, .int 0), (91, .int 0), (3, .int 0)]) (w' := [80, 85, 79, 78, 84, 83, 94, 93, 92, 91]) rfl rfl
  have hP9 := hP.sub (ws' := [(Ad0, .inr (15, s4849))]) [0] rfl
  have hD9 := hD.sub (ws' := [(Ad0, .inr (15, s4849))]) [0] (by decide) rfl
  have hK9 := hK.sub (tys' := []) [] rfl
  exact W.vret hx hb hr (fun t ht hW => ⟨⟨s4849, rfl, o_s4849, by rw [ht]; exact hP9, va_K.moved hW.alike hK9, hD9⟩, hS.F ht⟩) hS.2.2 dX12_beginText_39
